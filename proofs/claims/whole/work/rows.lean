section
-- ===== PART A: goes FIRST, ahead of the names: the tables' words, and 'selects' of the private methods out of them =====
/-- a private method of a class that the tables say can be made, by its rows of tables_1 -/
def lw_okq (q : MethodName × Nat) : Prop := (q.1.cls ≠ "java/lang/invoke/MethodHandle" ∧ q.1.cls ≠ "java/lang/invoke/VarHandle") ∧ Cond.instantiable q.1.cls q.2 ∈ tables_1 ∧ Cond.privateMethod q.1 ∈ tables_1 ∧ Cond.instanceMethod q.1 ∈ tables_1
theorem lw_p0 : lw_okq (⟨"java/lang/Throwable", "fillInStackTrace", "(I)Ljava/lang/Throwable;"⟩, 6) := ⟨⟨by decide +kernel, by decide +kernel⟩, List.mem_of_getElem? (i := 231) (by decide +kernel), List.mem_of_getElem? (i := 229) (by decide +kernel), List.mem_of_getElem? (i := 230) (by decide +kernel)⟩
theorem lw_p1 : lw_okq (⟨"MatrixSheets$Dig", "settle", "()V"⟩, 9) := ⟨⟨by decide +kernel, by decide +kernel⟩, List.mem_of_getElem? (i := 24) (by decide +kernel), List.mem_of_getElem? (i := 268) (by decide +kernel), List.mem_of_getElem? (i := 269) (by decide +kernel)⟩
theorem lw_p2 : lw_okq (⟨"MatrixSheets$Dig", "lowerGroupPhase", "(II)V"⟩, 9) := ⟨⟨by decide +kernel, by decide +kernel⟩, List.mem_of_getElem? (i := 24) (by decide +kernel), List.mem_of_getElem? (i := 276) (by decide +kernel), List.mem_of_getElem? (i := 277) (by decide +kernel)⟩
theorem lw_p3 : lw_okq (⟨"MatrixSheets", "changed", "(I)I"⟩, 4) := ⟨⟨by decide +kernel, by decide +kernel⟩, List.mem_of_getElem? (i := 16) (by decide +kernel), List.mem_of_getElem? (i := 287) (by decide +kernel), List.mem_of_getElem? (i := 288) (by decide +kernel)⟩
theorem lw_p4 : lw_okq (⟨"MatrixSheets$Dig", "join", "(II)V"⟩, 9) := ⟨⟨by decide +kernel, by decide +kernel⟩, List.mem_of_getElem? (i := 24) (by decide +kernel), List.mem_of_getElem? (i := 308) (by decide +kernel), List.mem_of_getElem? (i := 309) (by decide +kernel)⟩
theorem lw_p5 : lw_okq (⟨"MatrixSheets$Plan", "findLinks", "(LMatrixSheets$Dig;)V"⟩, 10) := ⟨⟨by decide +kernel, by decide +kernel⟩, List.mem_of_getElem? (i := 65) (by decide +kernel), List.mem_of_getElem? (i := 386) (by decide +kernel), List.mem_of_getElem? (i := 387) (by decide +kernel)⟩
theorem lw_p6 : lw_okq (⟨"MatrixSheets$Plan", "findForerunners", "(LMatrixSheets$Dig;)V"⟩, 10) := ⟨⟨by decide +kernel, by decide +kernel⟩, List.mem_of_getElem? (i := 65) (by decide +kernel), List.mem_of_getElem? (i := 393) (by decide +kernel), List.mem_of_getElem? (i := 394) (by decide +kernel)⟩
theorem lw_p7 : lw_okq (⟨"MatrixSheets$Plan", "layRows", "()V"⟩, 10) := ⟨⟨by decide +kernel, by decide +kernel⟩, List.mem_of_getElem? (i := 65) (by decide +kernel), List.mem_of_getElem? (i := 398) (by decide +kernel), List.mem_of_getElem? (i := 399) (by decide +kernel)⟩
theorem lw_p8 : lw_okq (⟨"MatrixSheets$Plan", "layBends", "()V"⟩, 10) := ⟨⟨by decide +kernel, by decide +kernel⟩, List.mem_of_getElem? (i := 65) (by decide +kernel), List.mem_of_getElem? (i := 402) (by decide +kernel), List.mem_of_getElem? (i := 403) (by decide +kernel)⟩
theorem lw_p9 : lw_okq (⟨"MatrixSheets$Order", "layMarks", "(LMatrixSheets$Plan;)V"⟩, 14) := ⟨⟨by decide +kernel, by decide +kernel⟩, List.mem_of_getElem? (i := 114) (by decide +kernel), List.mem_of_getElem? (i := 414) (by decide +kernel), List.mem_of_getElem? (i := 415) (by decide +kernel)⟩
theorem lw_p10 : lw_okq (⟨"MatrixSheets$Order", "layMark", "(I)V"⟩, 14) := ⟨⟨by decide +kernel, by decide +kernel⟩, List.mem_of_getElem? (i := 114) (by decide +kernel), List.mem_of_getElem? (i := 419) (by decide +kernel), List.mem_of_getElem? (i := 420) (by decide +kernel)⟩
theorem lw_p11 : lw_okq (⟨"MatrixSheets$Order", "numberPlaces", "(II)V"⟩, 14) := ⟨⟨by decide +kernel, by decide +kernel⟩, List.mem_of_getElem? (i := 114) (by decide +kernel), List.mem_of_getElem? (i := 428) (by decide +kernel), List.mem_of_getElem? (i := 429) (by decide +kernel)⟩
theorem lw_p12 : lw_okq (⟨"MatrixSheets$Order", "layPieces", "(LMatrixSheets$Plan;)V"⟩, 14) := ⟨⟨by decide +kernel, by decide +kernel⟩, List.mem_of_getElem? (i := 114) (by decide +kernel), List.mem_of_getElem? (i := 432) (by decide +kernel), List.mem_of_getElem? (i := 433) (by decide +kernel)⟩
theorem lw_p13 : lw_okq (⟨"MatrixSheets$Order", "countCrossings", "()I"⟩, 14) := ⟨⟨by decide +kernel, by decide +kernel⟩, List.mem_of_getElem? (i := 114) (by decide +kernel), List.mem_of_getElem? (i := 436) (by decide +kernel), List.mem_of_getElem? (i := 437) (by decide +kernel)⟩
theorem lw_p14 : lw_okq (⟨"MatrixSheets$Order", "countCrossed", "(II)I"⟩, 14) := ⟨⟨by decide +kernel, by decide +kernel⟩, List.mem_of_getElem? (i := 114) (by decide +kernel), List.mem_of_getElem? (i := 440) (by decide +kernel), List.mem_of_getElem? (i := 441) (by decide +kernel)⟩
theorem lw_p15 : lw_okq (⟨"MatrixSheets$Order", "keepBest", "()V"⟩, 14) := ⟨⟨by decide +kernel, by decide +kernel⟩, List.mem_of_getElem? (i := 114) (by decide +kernel), List.mem_of_getElem? (i := 444) (by decide +kernel), List.mem_of_getElem? (i := 445) (by decide +kernel)⟩
def lw_privs_1 : List (MethodName × Nat) := [(⟨"java/lang/Throwable", "fillInStackTrace", "(I)Ljava/lang/Throwable;"⟩, 6), (⟨"MatrixSheets$Dig", "settle", "()V"⟩, 9), (⟨"MatrixSheets$Dig", "lowerGroupPhase", "(II)V"⟩, 9), (⟨"MatrixSheets", "changed", "(I)I"⟩, 4), (⟨"MatrixSheets$Dig", "join", "(II)V"⟩, 9), (⟨"MatrixSheets$Plan", "findLinks", "(LMatrixSheets$Dig;)V"⟩, 10), (⟨"MatrixSheets$Plan", "findForerunners", "(LMatrixSheets$Dig;)V"⟩, 10), (⟨"MatrixSheets$Plan", "layRows", "()V"⟩, 10), (⟨"MatrixSheets$Plan", "layBends", "()V"⟩, 10), (⟨"MatrixSheets$Order", "layMarks", "(LMatrixSheets$Plan;)V"⟩, 14), (⟨"MatrixSheets$Order", "layMark", "(I)V"⟩, 14), (⟨"MatrixSheets$Order", "numberPlaces", "(II)V"⟩, 14), (⟨"MatrixSheets$Order", "layPieces", "(LMatrixSheets$Plan;)V"⟩, 14), (⟨"MatrixSheets$Order", "countCrossings", "()I"⟩, 14), (⟨"MatrixSheets$Order", "countCrossed", "(II)I"⟩, 14), (⟨"MatrixSheets$Order", "keepBest", "()V"⟩, 14)]
theorem lw_r1 : ∀ q ∈ lw_privs_1, lw_okq q := List.forall_mem_cons.mpr ⟨lw_p0, List.forall_mem_cons.mpr ⟨lw_p1, List.forall_mem_cons.mpr ⟨lw_p2, List.forall_mem_cons.mpr ⟨lw_p3, List.forall_mem_cons.mpr ⟨lw_p4, List.forall_mem_cons.mpr ⟨lw_p5, List.forall_mem_cons.mpr ⟨lw_p6, List.forall_mem_cons.mpr ⟨lw_p7, List.forall_mem_cons.mpr ⟨lw_p8, List.forall_mem_cons.mpr ⟨lw_p9, List.forall_mem_cons.mpr ⟨lw_p10, List.forall_mem_cons.mpr ⟨lw_p11, List.forall_mem_cons.mpr ⟨lw_p12, List.forall_mem_cons.mpr ⟨lw_p13, List.forall_mem_cons.mpr ⟨lw_p14, List.forall_mem_cons.mpr ⟨lw_p15, fun _ h => absurd h List.not_mem_nil⟩⟩⟩⟩⟩⟩⟩⟩⟩⟩⟩⟩⟩⟩⟩⟩
theorem lw_p16 : lw_okq (⟨"MatrixSheets$Order", "runRound", "()V"⟩, 14) := ⟨⟨by decide +kernel, by decide +kernel⟩, List.mem_of_getElem? (i := 114) (by decide +kernel), List.mem_of_getElem? (i := 449) (by decide +kernel), List.mem_of_getElem? (i := 450) (by decide +kernel)⟩
theorem lw_p17 : lw_okq (⟨"MatrixSheets$Order", "arrange", "(II[I[I)V"⟩, 14) := ⟨⟨by decide +kernel, by decide +kernel⟩, List.mem_of_getElem? (i := 114) (by decide +kernel), List.mem_of_getElem? (i := 453) (by decide +kernel), List.mem_of_getElem? (i := 454) (by decide +kernel)⟩
theorem lw_p18 : lw_okq (⟨"MatrixSheets$Order", "weigh", "(II[I[I)V"⟩, 14) := ⟨⟨by decide +kernel, by decide +kernel⟩, List.mem_of_getElem? (i := 114) (by decide +kernel), List.mem_of_getElem? (i := 457) (by decide +kernel), List.mem_of_getElem? (i := 458) (by decide +kernel)⟩
theorem lw_p19 : lw_okq (⟨"MatrixSheets$Order", "sort", "(II)V"⟩, 14) := ⟨⟨by decide +kernel, by decide +kernel⟩, List.mem_of_getElem? (i := 114) (by decide +kernel), List.mem_of_getElem? (i := 461) (by decide +kernel), List.mem_of_getElem? (i := 462) (by decide +kernel)⟩
theorem lw_p20 : lw_okq (⟨"MatrixSheets$Order", "hasLesserKey", "(II)Z"⟩, 14) := ⟨⟨by decide +kernel, by decide +kernel⟩, List.mem_of_getElem? (i := 114) (by decide +kernel), List.mem_of_getElem? (i := 465) (by decide +kernel), List.mem_of_getElem? (i := 466) (by decide +kernel)⟩
theorem lw_p21 : lw_okq (⟨"MatrixSheets$Order", "takeBest", "()V"⟩, 14) := ⟨⟨by decide +kernel, by decide +kernel⟩, List.mem_of_getElem? (i := 114) (by decide +kernel), List.mem_of_getElem? (i := 469) (by decide +kernel), List.mem_of_getElem? (i := 470) (by decide +kernel)⟩
theorem lw_p22 : lw_okq (⟨"MatrixSheets", "needSheet", "()V"⟩, 4) := ⟨⟨by decide +kernel, by decide +kernel⟩, List.mem_of_getElem? (i := 16) (by decide +kernel), List.mem_of_getElem? (i := 481) (by decide +kernel), List.mem_of_getElem? (i := 482) (by decide +kernel)⟩
theorem lw_p23 : lw_okq (⟨"MatrixSheets", "numberOfGroups", "(I)I"⟩, 4) := ⟨⟨by decide +kernel, by decide +kernel⟩, List.mem_of_getElem? (i := 16) (by decide +kernel), List.mem_of_getElem? (i := 537) (by decide +kernel), List.mem_of_getElem? (i := 538) (by decide +kernel)⟩
theorem lw_p24 : lw_okq (⟨"MatrixSheets", "numberOfLinks", "(I)I"⟩, 4) := ⟨⟨by decide +kernel, by decide +kernel⟩, List.mem_of_getElem? (i := 16) (by decide +kernel), List.mem_of_getElem? (i := 545) (by decide +kernel), List.mem_of_getElem? (i := 546) (by decide +kernel)⟩
theorem lw_p25 : lw_okq (⟨"MatrixSheets", "numbersOf", "(I)I"⟩, 4) := ⟨⟨by decide +kernel, by decide +kernel⟩, List.mem_of_getElem? (i := 16) (by decide +kernel), List.mem_of_getElem? (i := 549) (by decide +kernel), List.mem_of_getElem? (i := 550) (by decide +kernel)⟩
theorem lw_p26 : lw_okq (⟨"MatrixSheetsModel", "throwing", "(ZZ)Z"⟩, 27) := ⟨⟨by decide +kernel, by decide +kernel⟩, List.mem_of_getElem? (i := 562) (by decide +kernel), List.mem_of_getElem? (i := 665) (by decide +kernel), List.mem_of_getElem? (i := 666) (by decide +kernel)⟩
theorem lw_p27 : lw_okq (⟨"MatrixSheetsModel", "isOver", "(II)Z"⟩, 27) := ⟨⟨by decide +kernel, by decide +kernel⟩, List.mem_of_getElem? (i := 562) (by decide +kernel), List.mem_of_getElem? (i := 669) (by decide +kernel), List.mem_of_getElem? (i := 670) (by decide +kernel)⟩
theorem lw_p28 : lw_okq (⟨"MatrixSheetsModel", "findOver", "()V"⟩, 27) := ⟨⟨by decide +kernel, by decide +kernel⟩, List.mem_of_getElem? (i := 562) (by decide +kernel), List.mem_of_getElem? (i := 673) (by decide +kernel), List.mem_of_getElem? (i := 674) (by decide +kernel)⟩
theorem lw_p29 : lw_okq (⟨"MatrixSheetsModel", "close", "([Z)V"⟩, 27) := ⟨⟨by decide +kernel, by decide +kernel⟩, List.mem_of_getElem? (i := 562) (by decide +kernel), List.mem_of_getElem? (i := 677) (by decide +kernel), List.mem_of_getElem? (i := 678) (by decide +kernel)⟩
theorem lw_p30 : lw_okq (⟨"MatrixSheetsModel", "name", "(II)V"⟩, 27) := ⟨⟨by decide +kernel, by decide +kernel⟩, List.mem_of_getElem? (i := 562) (by decide +kernel), List.mem_of_getElem? (i := 681) (by decide +kernel), List.mem_of_getElem? (i := 682) (by decide +kernel)⟩
theorem lw_p31 : lw_okq (⟨"MatrixSheetsModel", "misfits", "(II)Z"⟩, 27) := ⟨⟨by decide +kernel, by decide +kernel⟩, List.mem_of_getElem? (i := 562) (by decide +kernel), List.mem_of_getElem? (i := 705) (by decide +kernel), List.mem_of_getElem? (i := 706) (by decide +kernel)⟩
def lw_privs_2 : List (MethodName × Nat) := [(⟨"MatrixSheets$Order", "runRound", "()V"⟩, 14), (⟨"MatrixSheets$Order", "arrange", "(II[I[I)V"⟩, 14), (⟨"MatrixSheets$Order", "weigh", "(II[I[I)V"⟩, 14), (⟨"MatrixSheets$Order", "sort", "(II)V"⟩, 14), (⟨"MatrixSheets$Order", "hasLesserKey", "(II)Z"⟩, 14), (⟨"MatrixSheets$Order", "takeBest", "()V"⟩, 14), (⟨"MatrixSheets", "needSheet", "()V"⟩, 4), (⟨"MatrixSheets", "numberOfGroups", "(I)I"⟩, 4), (⟨"MatrixSheets", "numberOfLinks", "(I)I"⟩, 4), (⟨"MatrixSheets", "numbersOf", "(I)I"⟩, 4), (⟨"MatrixSheetsModel", "throwing", "(ZZ)Z"⟩, 27), (⟨"MatrixSheetsModel", "isOver", "(II)Z"⟩, 27), (⟨"MatrixSheetsModel", "findOver", "()V"⟩, 27), (⟨"MatrixSheetsModel", "close", "([Z)V"⟩, 27), (⟨"MatrixSheetsModel", "name", "(II)V"⟩, 27), (⟨"MatrixSheetsModel", "misfits", "(II)Z"⟩, 27)]
theorem lw_r2 : ∀ q ∈ lw_privs_2, lw_okq q := List.forall_mem_cons.mpr ⟨lw_p16, List.forall_mem_cons.mpr ⟨lw_p17, List.forall_mem_cons.mpr ⟨lw_p18, List.forall_mem_cons.mpr ⟨lw_p19, List.forall_mem_cons.mpr ⟨lw_p20, List.forall_mem_cons.mpr ⟨lw_p21, List.forall_mem_cons.mpr ⟨lw_p22, List.forall_mem_cons.mpr ⟨lw_p23, List.forall_mem_cons.mpr ⟨lw_p24, List.forall_mem_cons.mpr ⟨lw_p25, List.forall_mem_cons.mpr ⟨lw_p26, List.forall_mem_cons.mpr ⟨lw_p27, List.forall_mem_cons.mpr ⟨lw_p28, List.forall_mem_cons.mpr ⟨lw_p29, List.forall_mem_cons.mpr ⟨lw_p30, List.forall_mem_cons.mpr ⟨lw_p31, fun _ h => absurd h List.not_mem_nil⟩⟩⟩⟩⟩⟩⟩⟩⟩⟩⟩⟩⟩⟩⟩⟩
theorem lw_p32 : lw_okq (⟨"MatrixSheetsModel", "phaseOf", "(I)I"⟩, 27) := ⟨⟨by decide +kernel, by decide +kernel⟩, List.mem_of_getElem? (i := 562) (by decide +kernel), List.mem_of_getElem? (i := 709) (by decide +kernel), List.mem_of_getElem? (i := 710) (by decide +kernel)⟩
theorem lw_p33 : lw_okq (⟨"MatrixSheetsModel", "findLinks", "()V"⟩, 27) := ⟨⟨by decide +kernel, by decide +kernel⟩, List.mem_of_getElem? (i := 562) (by decide +kernel), List.mem_of_getElem? (i := 717) (by decide +kernel), List.mem_of_getElem? (i := 718) (by decide +kernel)⟩
theorem lw_p34 : lw_okq (⟨"MatrixSheetsModel", "isHidden", "(I)Z"⟩, 27) := ⟨⟨by decide +kernel, by decide +kernel⟩, List.mem_of_getElem? (i := 562) (by decide +kernel), List.mem_of_getElem? (i := 721) (by decide +kernel), List.mem_of_getElem? (i := 722) (by decide +kernel)⟩
theorem lw_p35 : lw_okq (⟨"MatrixSheetsModel", "isDrawn", "(I)Z"⟩, 27) := ⟨⟨by decide +kernel, by decide +kernel⟩, List.mem_of_getElem? (i := 562) (by decide +kernel), List.mem_of_getElem? (i := 725) (by decide +kernel), List.mem_of_getElem? (i := 726) (by decide +kernel)⟩
theorem lw_p36 : lw_okq (⟨"MatrixSheetsModel", "isThere", "(I)Z"⟩, 27) := ⟨⟨by decide +kernel, by decide +kernel⟩, List.mem_of_getElem? (i := 562) (by decide +kernel), List.mem_of_getElem? (i := 729) (by decide +kernel), List.mem_of_getElem? (i := 730) (by decide +kernel)⟩
theorem lw_p37 : lw_okq (⟨"MatrixSheetsModel", "findRows", "()V"⟩, 27) := ⟨⟨by decide +kernel, by decide +kernel⟩, List.mem_of_getElem? (i := 562) (by decide +kernel), List.mem_of_getElem? (i := 733) (by decide +kernel), List.mem_of_getElem? (i := 734) (by decide +kernel)⟩
theorem lw_p38 : lw_okq (⟨"MatrixSheetsModel", "rowOf", "(I)I"⟩, 27) := ⟨⟨by decide +kernel, by decide +kernel⟩, List.mem_of_getElem? (i := 562) (by decide +kernel), List.mem_of_getElem? (i := 737) (by decide +kernel), List.mem_of_getElem? (i := 738) (by decide +kernel)⟩
theorem lw_p39 : lw_okq (⟨"MatrixSheetsModel", "findBends", "()Z"⟩, 27) := ⟨⟨by decide +kernel, by decide +kernel⟩, List.mem_of_getElem? (i := 562) (by decide +kernel), List.mem_of_getElem? (i := 741) (by decide +kernel), List.mem_of_getElem? (i := 742) (by decide +kernel)⟩
theorem lw_p40 : lw_okq (⟨"MatrixSheetsModel", "bendsOf", "(I)I"⟩, 27) := ⟨⟨by decide +kernel, by decide +kernel⟩, List.mem_of_getElem? (i := 562) (by decide +kernel), List.mem_of_getElem? (i := 745) (by decide +kernel), List.mem_of_getElem? (i := 746) (by decide +kernel)⟩
theorem lw_p41 : lw_okq (⟨"MatrixSheetsModel", "addPiece", "(II)V"⟩, 27) := ⟨⟨by decide +kernel, by decide +kernel⟩, List.mem_of_getElem? (i := 562) (by decide +kernel), List.mem_of_getElem? (i := 749) (by decide +kernel), List.mem_of_getElem? (i := 750) (by decide +kernel)⟩
theorem lw_p42 : lw_okq (⟨"MatrixSheetsModel", "placeAll", "()V"⟩, 27) := ⟨⟨by decide +kernel, by decide +kernel⟩, List.mem_of_getElem? (i := 562) (by decide +kernel), List.mem_of_getElem? (i := 753) (by decide +kernel), List.mem_of_getElem? (i := 754) (by decide +kernel)⟩
theorem lw_p43 : lw_okq (⟨"MatrixSheetsModel", "crossedNow", "()I"⟩, 27) := ⟨⟨by decide +kernel, by decide +kernel⟩, List.mem_of_getElem? (i := 562) (by decide +kernel), List.mem_of_getElem? (i := 757) (by decide +kernel), List.mem_of_getElem? (i := 758) (by decide +kernel)⟩
theorem lw_p44 : lw_okq (⟨"MatrixSheetsModel", "keep", "()V"⟩, 27) := ⟨⟨by decide +kernel, by decide +kernel⟩, List.mem_of_getElem? (i := 562) (by decide +kernel), List.mem_of_getElem? (i := 761) (by decide +kernel), List.mem_of_getElem? (i := 762) (by decide +kernel)⟩
theorem lw_p45 : lw_okq (⟨"MatrixSheetsModel", "round", "()V"⟩, 27) := ⟨⟨by decide +kernel, by decide +kernel⟩, List.mem_of_getElem? (i := 562) (by decide +kernel), List.mem_of_getElem? (i := 765) (by decide +kernel), List.mem_of_getElem? (i := 766) (by decide +kernel)⟩
theorem lw_p46 : lw_okq (⟨"MatrixSheetsModel", "lastRow", "()I"⟩, 27) := ⟨⟨by decide +kernel, by decide +kernel⟩, List.mem_of_getElem? (i := 562) (by decide +kernel), List.mem_of_getElem? (i := 769) (by decide +kernel), List.mem_of_getElem? (i := 770) (by decide +kernel)⟩
theorem lw_p47 : lw_okq (⟨"MatrixSheetsModel", "order", "(IZ)V"⟩, 27) := ⟨⟨by decide +kernel, by decide +kernel⟩, List.mem_of_getElem? (i := 562) (by decide +kernel), List.mem_of_getElem? (i := 773) (by decide +kernel), List.mem_of_getElem? (i := 774) (by decide +kernel)⟩
def lw_privs_3 : List (MethodName × Nat) := [(⟨"MatrixSheetsModel", "phaseOf", "(I)I"⟩, 27), (⟨"MatrixSheetsModel", "findLinks", "()V"⟩, 27), (⟨"MatrixSheetsModel", "isHidden", "(I)Z"⟩, 27), (⟨"MatrixSheetsModel", "isDrawn", "(I)Z"⟩, 27), (⟨"MatrixSheetsModel", "isThere", "(I)Z"⟩, 27), (⟨"MatrixSheetsModel", "findRows", "()V"⟩, 27), (⟨"MatrixSheetsModel", "rowOf", "(I)I"⟩, 27), (⟨"MatrixSheetsModel", "findBends", "()Z"⟩, 27), (⟨"MatrixSheetsModel", "bendsOf", "(I)I"⟩, 27), (⟨"MatrixSheetsModel", "addPiece", "(II)V"⟩, 27), (⟨"MatrixSheetsModel", "placeAll", "()V"⟩, 27), (⟨"MatrixSheetsModel", "crossedNow", "()I"⟩, 27), (⟨"MatrixSheetsModel", "keep", "()V"⟩, 27), (⟨"MatrixSheetsModel", "round", "()V"⟩, 27), (⟨"MatrixSheetsModel", "lastRow", "()I"⟩, 27), (⟨"MatrixSheetsModel", "order", "(IZ)V"⟩, 27)]
theorem lw_r3 : ∀ q ∈ lw_privs_3, lw_okq q := List.forall_mem_cons.mpr ⟨lw_p32, List.forall_mem_cons.mpr ⟨lw_p33, List.forall_mem_cons.mpr ⟨lw_p34, List.forall_mem_cons.mpr ⟨lw_p35, List.forall_mem_cons.mpr ⟨lw_p36, List.forall_mem_cons.mpr ⟨lw_p37, List.forall_mem_cons.mpr ⟨lw_p38, List.forall_mem_cons.mpr ⟨lw_p39, List.forall_mem_cons.mpr ⟨lw_p40, List.forall_mem_cons.mpr ⟨lw_p41, List.forall_mem_cons.mpr ⟨lw_p42, List.forall_mem_cons.mpr ⟨lw_p43, List.forall_mem_cons.mpr ⟨lw_p44, List.forall_mem_cons.mpr ⟨lw_p45, List.forall_mem_cons.mpr ⟨lw_p46, List.forall_mem_cons.mpr ⟨lw_p47, fun _ h => absurd h List.not_mem_nil⟩⟩⟩⟩⟩⟩⟩⟩⟩⟩⟩⟩⟩⟩⟩⟩
theorem lw_p48 : lw_okq (⟨"MatrixSheetsModel", "sort", "(I)V"⟩, 27) := ⟨⟨by decide +kernel, by decide +kernel⟩, List.mem_of_getElem? (i := 562) (by decide +kernel), List.mem_of_getElem? (i := 777) (by decide +kernel), List.mem_of_getElem? (i := 778) (by decide +kernel)⟩
theorem lw_p49 : lw_okq (⟨"MatrixSheetsModel", "write", "()V"⟩, 27) := ⟨⟨by decide +kernel, by decide +kernel⟩, List.mem_of_getElem? (i := 562) (by decide +kernel), List.mem_of_getElem? (i := 781) (by decide +kernel), List.mem_of_getElem? (i := 782) (by decide +kernel)⟩
theorem lw_p50 : lw_okq (⟨"MatrixSheetsModel", "put", "(I)V"⟩, 27) := ⟨⟨by decide +kernel, by decide +kernel⟩, List.mem_of_getElem? (i := 562) (by decide +kernel), List.mem_of_getElem? (i := 785) (by decide +kernel), List.mem_of_getElem? (i := 786) (by decide +kernel)⟩
theorem lw_p51 : lw_okq (⟨"MatrixSheetsModel", "point", "(I)V"⟩, 27) := ⟨⟨by decide +kernel, by decide +kernel⟩, List.mem_of_getElem? (i := 562) (by decide +kernel), List.mem_of_getElem? (i := 789) (by decide +kernel), List.mem_of_getElem? (i := 790) (by decide +kernel)⟩
def lw_privs_4 : List (MethodName × Nat) := [(⟨"MatrixSheetsModel", "sort", "(I)V"⟩, 27), (⟨"MatrixSheetsModel", "write", "()V"⟩, 27), (⟨"MatrixSheetsModel", "put", "(I)V"⟩, 27), (⟨"MatrixSheetsModel", "point", "(I)V"⟩, 27)]
theorem lw_r4 : ∀ q ∈ lw_privs_4, lw_okq q := List.forall_mem_cons.mpr ⟨lw_p48, List.forall_mem_cons.mpr ⟨lw_p49, List.forall_mem_cons.mpr ⟨lw_p50, List.forall_mem_cons.mpr ⟨lw_p51, fun _ h => absurd h List.not_mem_nil⟩⟩⟩⟩
def lw_privs : List (MethodName × Nat) := lw_privs_1 ++ (lw_privs_2 ++ (lw_privs_3 ++ (lw_privs_4)))
def lw_tbl : List Cond := k2_sels lw_privs ++ tables_1
theorem lw_privs_ok : ∀ q ∈ lw_privs, lw_okq q := by
  show ∀ q ∈ lw_privs_1 ++ (lw_privs_2 ++ (lw_privs_3 ++ (lw_privs_4))), lw_okq q
  exact List.forall_mem_append.mpr ⟨lw_r1, List.forall_mem_append.mpr ⟨lw_r2, List.forall_mem_append.mpr ⟨lw_r3, lw_r4⟩⟩⟩
end
section
/-! ===== BEGIN words of one list among another's, by their places ===== -/
theorem goodIn_r {big : List Cond} (ws : List Cond) (ps : List Nat) (hp : ws = ps.filterMap (fun i => big[i]?)) (h : ws.all goodWord = true) : GoodIn big ws := by
  intro w hw
  have h1 := List.all_eq_true.mp h w hw
  rw [hp] at hw
  obtain ⟨i, -, hi⟩ := List.mem_filterMap.mp hw
  have hm : w ∈ big := by first | exact List.mem_of_getElem? hi | exact List.getElem?_mem hi
  exact ⟨hm, good_of_word h1⟩
theorem goodIn_app {big a b : List Cond} (ha : GoodIn big a) (hb : GoodIn big b) : GoodIn big (a ++ b) := fun w h => (List.mem_append.mp h).elim (ha w) (hb w)
theorem goodIn_ca {big a b : List Cond} {c : Cond} (ha : GoodIn big (c :: a)) (hb : GoodIn big b) : GoodIn big (c :: (a ++ b)) := fun w h => (List.mem_cons.mp h).elim (fun e => ha w (List.mem_cons.mpr (Or.inl e))) (fun h => (List.mem_append.mp h).elim (fun h => ha w (List.mem_cons.mpr (Or.inr h))) (hb w))
theorem goodIn_sub {big ws : List Cond} (hm : ∀ w ∈ ws, w ∈ big) (h : ws.all goodWord = true) : GoodIn big ws := fun w hw => ⟨hm w hw, good_of_word (List.all_eq_true.mp h w hw)⟩
/-! ===== END ===== -/

/-! ===== BEGIN exceptions that leave a method, and their catching by the caller (launches without stack traces) ===== -/
section VXA
/-! The laws vx_back, vx_callV, vx_callS, vx_callSW, vx_throw0, vx_throwS follow proofs of the library, with one case more: JvmDerived/Free/Laws.lean (Back.of_free), Shelf42/LK1.lean (callV, callS), Shelf/KitTraced.lean (throwNew0V, throwNewS). -/
/-- where a method has thrown q: the class by its name, the cell, what was written, the world -/
def vx_T (XC : String → State → State → Prop) (st : State) (q : Addr) (t : State) (mc ms : Nat) (free : Addr → Prop) : Prop :=
  ∃ (E : String) (ce : Cell) (L : List Loc), XC E st t ∧ t.heap[q]? = some ce ∧ ce.vm = .none ∧ st.vm.findClass E = some ce.cls ∧ st.WarmedH t.vm ∧ st.sameButNew ({ t with vm := st.vm } : State) L mc ms ∧ ∀ z ∈ L, free z.base
def vx_Q (Qc : Array Value → State → Outcome → State → Prop) (XC : String → State → State → Prop) (mc ms : Nat) (free : Addr → Prop) : Array Value → State → Outcome → State → Prop := fun a st o t =>
  (Qc a st o t ∧ ∃ L, FrameEnd st o t L mc ms ∧ ∀ q ∈ L, free q.base) ∨ ∃ q, o = .threw q ∧ vx_T XC st q t mc ms free
/-- a callee that returns or throws -/
def vx_Met (l : Launch) (y : MethodName) (ws : List Cond) (rm : Room) (Pc : Array Value → State → Prop) (Qc : Array Value → State → Outcome → State → Prop) (XC : String → State → State → Prop) (mc ms : Nat) (free : Addr → Prop) : Prop :=
  MetFree l y (headSpec ws rm) Pc (fun _ _ _ _ _ => True) (vx_Q Qc XC mc ms free)
def vx_Post (XC : String → State → State → Prop) (mc ms : Nat) (free : Addr → Prop) : Pt → Array Value → Addr → Pt → Prop := fun A a q B =>
  ∃ (g : JFrame) (mk : MethodId) (t : State) (L : List Loc) (E : String) (ce : Cell), B.U.heap = t.heap ∧ B.U.vm = t.vm ∧ XC E (A.U.calling g mk a) t ∧ t.heap[q]? = some ce ∧ ce.vm = .none ∧ A.U.vm.findClass E = some ce.cls ∧ B.locs = A.locs ++ L ∧ (∀ z ∈ L, free z.base) ∧ B.cells = A.cells + mc ∧ B.slots = A.slots + ms
def vx_Back (l : Launch) (R : Room) (p : Program) (e : Env) (below : List Frame) (s : State) (sargs : Array Value) (y : MethodName) (len W9 : Nat)
    (Pre : Pt → Array Value → Prop) (Post : Pt → Array Value → Option Value → Pt → Prop) (PostX : Pt → Array Value → Addr → Pt → Prop) : Prop :=
  ∀ (m : MethodId) (meth : Method) (c : Code) (A : Pt) (g : JFrame) (ig : Instr) (mk : MethodId) (a : Array Value),
    Stand p l e R s m sargs below meth c A.U A.locs A.cells A.slots → g.method = m → g.locals.size = c.maxLocals → decode c.code g.pc = .ok (ig, len) →
    2 * g.monitorRoom + (g.stack.map fun v => v.category).sum ≤ W9 → A.U.methodNamed? y = some mk → Pre A a →
    (∃ (v : Option Value) (B : Pt), Stand p l e R s m sargs below meth c B.U B.locs B.cells B.slots ∧ Post A a v B ∧
      Steps p.tables e below (doInvoke e (A.U.setTop g) [] mk a).1 (B.U.setTop { g with pc := g.pc + len, stack := v.toList ++ g.stack })) ∨
    (∃ (q : Addr) (B : Pt), Stand p l e R s m sargs below meth c B.U B.locs B.cells B.slots ∧ PostX A a q B ∧
      Steps p.tables e below (doInvoke e (A.U.setTop g) [] mk a).1 ((B.U.setTop g).pushFrame (.throwing q)))
section Payer
variable {l : Launch} {R : Room} {p : Program} {e : Env} {below : List Frame} {s : State} {sargs : Array Value} {y : MethodName} {len W9 : Nat}
theorem vx_back {ws : List Cond} {rm : Room} {Pc : Array Value → State → Prop} {Qc : Array Value → State → Outcome → State → Prop} {XC : String → State → State → Prop} {mc ms : Nat} {free : Addr → Prop} {bytes : ByteArray} {maxL : Nat} {ret : Option FieldType}
    (hM : vx_Met l y ws rm Pc Qc XC mc ms free) (hblind : FrameBlind Pc) (hrc : rm.cells = mc) (hrs : rm.slots = ms)
    (hframes : rm.frames + 1 ≤ R.frames) (hlocals : W9 + (maxL + 11) + rm.locals ≤ R.locals)
    (hws : ∀ w ∈ ws, ∀ a' U, s.WarmedH U.vm → w.before a' U = true) (hcode : Cond.code y bytes maxL ret ∈ ws) (hinit : ∀ a' U, s.WarmedH U.vm → (Cond.initialized y.cls).before a' U = true) :
    vx_Back l R p e below s sargs y len W9 (PreOf R mc ms Pc) (PostOf Qc mc ms free) (vx_Post XC mc ms free) := by
  intro m meth c A g ig mk a X hg hsize hdg hW hn hp
  have h1 : (headSpec ws rm).pre.before a A.U = true := atoms_intro fun w hw => hws w hw _ _ X.warmed
  have h2 : (Cond.code y bytes maxL ret).before a A.U = true := hws _ hcode _ _ X.warmed
  have h3 : (Cond.initialized y.cls).before a A.U = true := hinit _ _ X.warmed
  have h4 : A.cells + (headSpec ws rm).room.cells ≤ R.cells := by rw [show (headSpec ws rm).room.cells = mc from hrc]; exact hp.1
  have h5 : A.slots + (headSpec ws rm).room.slots ≤ R.slots := by rw [show (headSpec ws rm).room.slots = ms from hrs]; exact hp.2.1
  have hPc : Pc a (A.U.calling g mk a) := hblind _ _ _ _ hp.2.2
  obtain ⟨U, Ls, c0, s0⟩ := A
  dsimp only [Pt.U, Pt.locs, Pt.cells, Pt.slots] at h1 h2 h3 h4 h5 X hn hPc ⊢
  obtain ⟨methY, cY, hmY, hcY, -, hlY, -, -, -, -⟩ := Cond.code_spec hn h2
  obtain ⟨kY, hkY, -⟩ := className_of_methodNamed hn
  have hinitY : kY.init = .initialized := Cond.initialized_spec (findClass_of_methodNamed hn) hkY h3
  have h : At U g.method c below := by rw [hg]; exact X.here
  have hlocals9 : W9 + (maxL + 11) + (headSpec ws rm).room.locals ≤ R.locals := hlocals
  have happ : (headSpec ws rm).appliesLoose y e.platform (U.calling g mk a) = true :=
    Spec.appliesLoose_calling (g := g) h hdg hn hkY hinitY
      (X.room_calling (g := g) (R' := (headSpec ws rm).room) hsize hmY hcY hframes (by rw [hlY]; omega) h4 h5) h1
  obtain ⟨mid, hmid⟩ := h.above
  have hfr : (U.setTop g).frames = (.java g :: mid) ++ below := by rw [State.frames_setTop' g h.top, hmid]; rfl
  obtain ⟨o, s₂, hsteps, -, hend, hq⟩ := Steps.callFree hM p X.admits X.cas X.clock (acts := []) hfr happ hPc trivial
  have hq' : vx_Q Qc XC mc ms free a (U.calling g mk a) o s₂ := hq
  rw [State.frames_setTop' g h.top] at hend
  obtain ⟨g₀, hg0⟩ := Option.isSome_iff_exists.mp h.top
  obtain ⟨r, hr⟩ := State.topJava?_eq_some.mp hg0
  have hr' : (({ U with heap := s₂.heap, slotsUsed := s₂.slotsUsed } : State).setVm s₂.vm).frames = .java g₀ :: r := hr
  rcases hq' with ⟨hqc, L, hfe, hL⟩ | ⟨q, rfl, E, ce, L, hx, hce, hcv, hcl, hW₂, hsm, hL⟩
  · obtain ⟨⟨v, rfl⟩, hW₂, e2, q2, q3, q4, q5, q6⟩ := id hfe
    have e3 : s₂ = ({ (U.calling g mk a).setFrames s₂.frames with heap := s₂.heap, slotsUsed := s₂.slotsUsed } : State).setVm s₂.vm := by
      have : s₂ = ({ s₂ with vm := (U.calling g mk a).vm } : State).setVm s₂.vm := rfl
      rw [e2] at this
      exact this
    obtain ⟨c₂, i₂, len₂, hc₂, hd₂, hf₂⟩ := hend
    have hW' : U.WarmedH s₂.vm := hW₂
    have hcc : c₂ = c := by
      have h1 : s₂.code? g.method = U.code? g.method := by
        rw [State.code?_eq, State.code?_eq, hW'.alike.method?]
      exact Option.some.inj (hc₂.symm.trans (h1.trans h.code))
    subst hcc
    have hlen : len₂ = len := by rw [hdg] at hd₂; cases hd₂; rfl
    subst hlen
    have hs₂ : s₂ = (({ U with heap := s₂.heap, slotsUsed := s₂.slotsUsed } : State).setVm s₂.vm).setTop { g with pc := g.pc + len₂, stack := v.toList ++ g.stack } := by
      refine e3.trans ?_
      rw [hf₂, State.calling_eq h.top, State.setFrames_setFrames, State.setTop_of_frames _ hr', hr]
      rfl
    have hsame : U.sameButNew ({ U with heap := s₂.heap, slotsUsed := s₂.slotsUsed } : State) L mc ms := by
      refine ⟨?_, q2, q3, q4, q5, q6⟩
      obtain ⟨t, ht, -⟩ := State.frames_cons hr
      show ({ U with heap := s₂.heap, slotsUsed := s₂.slotsUsed } : State) = { U.setFrames U.frames with heap := s₂.heap, slotsUsed := s₂.slotsUsed }
      rw [State.setFrames_self ht]
    subst hg
    refine Or.inl ⟨v, ⟨(({ U with heap := s₂.heap, slotsUsed := s₂.slotsUsed } : State).setVm s₂.vm), Ls ++ L, c0 + mc, s0 + ms⟩,
      ⟨X.admits, X.cas, X.clock, X.frames, X.room, X.hears, X.method, X.code, (X.here.setHeapUsed s₂.heap s₂.slotsUsed).setVm hW'.alike, X.tail, State.WarmedH.trans X.warmed hW', X.limits, X.bytes, X.same.trans (hsame.setVm s.vm)⟩,
      ⟨g, mk, s₂, L, rfl, rfl, hqc, rfl, hL, rfl, rfl⟩, ?_⟩
    show Steps p.tables e below _ ((({ U with heap := s₂.heap, slotsUsed := s₂.slotsUsed } : State).setVm s₂.vm).setTop { g with pc := g.pc + len₂, stack := v.toList ++ g.stack })
    rw [← hs₂]
    exact hsteps
  · obtain ⟨e2, q2, q3, q4, q5, q6⟩ := id hsm
    have e3 : s₂ = ({ (U.calling g mk a).setFrames s₂.frames with heap := s₂.heap, slotsUsed := s₂.slotsUsed } : State).setVm s₂.vm := by
      have : s₂ = ({ s₂ with vm := (U.calling g mk a).vm } : State).setVm s₂.vm := rfl
      rw [e2] at this
      exact this
    have hf₂ : s₂.frames = .throwing q :: .java g :: U.frames.tail := hend
    have hW' : U.WarmedH s₂.vm := hW₂
    have hs₂ : s₂ = ((({ U with heap := s₂.heap, slotsUsed := s₂.slotsUsed } : State).setVm s₂.vm).setTop g).pushFrame (.throwing q) := by
      refine e3.trans ?_
      rw [hf₂, State.calling_eq h.top, State.setFrames_setFrames, State.pushFrame, State.frames_setTop _ hr', State.setTop_of_frames _ hr', State.setFrames_setFrames, hr]
      rfl
    have hsame : U.sameButNew ({ U with heap := s₂.heap, slotsUsed := s₂.slotsUsed } : State) L mc ms := by
      refine ⟨?_, q2, q3, q4, q5, q6⟩
      obtain ⟨t, ht, -⟩ := State.frames_cons hr
      show ({ U with heap := s₂.heap, slotsUsed := s₂.slotsUsed } : State) = { U.setFrames U.frames with heap := s₂.heap, slotsUsed := s₂.slotsUsed }
      rw [State.setFrames_self ht]
    subst hg
    refine Or.inr ⟨q, ⟨(({ U with heap := s₂.heap, slotsUsed := s₂.slotsUsed } : State).setVm s₂.vm), Ls ++ L, c0 + mc, s0 + ms⟩,
      ⟨X.admits, X.cas, X.clock, X.frames, X.room, X.hears, X.method, X.code, (X.here.setHeapUsed s₂.heap s₂.slotsUsed).setVm hW'.alike, X.tail, State.WarmedH.trans X.warmed hW', X.limits, X.bytes, X.same.trans (hsame.setVm s.vm)⟩,
      ⟨g, mk, s₂, L, E, ce, rfl, rfl, hx, hce, hcv, hcl, rfl, hL, rfl, rfl⟩, ?_⟩
    show Steps p.tables e below _ (((({ U with heap := s₂.heap, slotsUsed := s₂.slotsUsed } : State).setVm s₂.vm).setTop g).pushFrame (.throwing q))
    rw [← hs₂]
    exact hsteps
end Payer
section Calls
variable {p : Program} {l : Launch} {e : Env} {R : Room} {s : State} {m : MethodId} {args : Array Value} {below : List Frame} {meth : Method} {c : Code} {T : State} {locs : List Loc} {cells slots : Nat}
theorem vx_callV (X : Stand p l e R s m args below meth c T locs cells slots) (hexec : p.tables.exec = Jvm.exec) {own C : String} {index : Nat} {y : MethodName} {bytes : ByteArray} {maxL : Nat} {ret : Option FieldType}
    (hown : s.vm.findClass own = some m.cls) (hlink : (Cond.methodLink own index y).before args s = true) (hinst : (Cond.instanceMethod y).before args s = true) (hsel : (Cond.selects C y y).before args s = true)
    (hcode : (Cond.code y bytes maxL ret).before args s = true) (hy : y.cls ≠ "java/lang/invoke/MethodHandle" ∧ y.cls ≠ "java/lang/invoke/VarHandle")
    {W9 : Nat} {Pre : Pt → Array Value → Prop} {Post : Pt → Array Value → Option Value → Pt → Prop} {PostX : Pt → Array Value → Addr → Pt → Prop} (hK : vx_Back l R p e below s args y 3 W9 Pre Post PostX)
    {b : Addr} {cellB : Cell} (hcell : T.heap[b]? = some cellB) (hobj : cellB.vm.isStatics = false) (hcls : s.vm.findClass C = some cellB.cls)
    {g : JFrame} (hg : g.method = m) (hsize : g.locals.size = c.maxLocals) {argsL rest : List Value} (hlen : ∀ sig, parseMethodDescriptor y.desc = some sig → argsL.length = sig.parameters.length)
    (hstack : g.stack = argsL.reverse ++ .ref b :: rest) (hW : 2 * g.monitorRoom + (rest.map fun v => v.category).sum ≤ W9) (hdg : decode c.code g.pc = .ok (.invokevirtual index, 3))
    (hpre : ∀ vm₁, s.WarmedH vm₁ → Pre ⟨T.setVm vm₁, locs, cells, slots⟩ (Value.ref b :: argsL).toArray) :
    (∃ (v : Option Value) (vm₁ : Vm) (B : Pt), s.WarmedH vm₁ ∧ Stand p l e R s m args below meth c B.U B.locs B.cells B.slots ∧ Post ⟨T.setVm vm₁, locs, cells, slots⟩ (Value.ref b :: argsL).toArray v B ∧
      ∀ target, Steps p.tables e below (B.U.setTop { g with pc := g.pc + 3, stack := v.toList ++ rest }) target → Steps p.tables e below (T.setTop g) target) ∨
    (∃ (q : Addr) (vm₁ : Vm) (B : Pt), s.WarmedH vm₁ ∧ Stand p l e R s m args below meth c B.U B.locs B.cells B.slots ∧ PostX ⟨T.setVm vm₁, locs, cells, slots⟩ (Value.ref b :: argsL).toArray q B ∧
      Steps p.tables e below (T.setTop g) ((B.U.setTop { g with stack := rest }).pushFrame (.throwing q))) := by
  obtain ⟨mk, methM, hnamed, hmethM, hstM, habM⟩ := Cond.instanceMethod_spec hinst
  obtain ⟨methM', cM, hmethM', -, -, -, -, -, -, hsigM⟩ := Cond.code_spec hnamed hcode
  cases hmethM.symm.trans hmethM'
  obtain ⟨c2, r2, m2, q1, q2, q3, q4, kP, hkP, hkPi⟩ := Cond.selects_spec hsel
  cases hcls.symm.trans q1
  cases (State.methodFound?_of_named hnamed hy).symm.trans q2
  cases hnamed.symm.trans q3
  have hselP : selectMethod e.platform s.vm cellB.cls mk = .method mk := by rw [Launch.admits_selectMethod X.admits]; exact q4
  obtain ⟨vm₁, X₁, hstep₁⟩ := X.invokevirtual hexec hown hlink hnamed hmethM hstM hkP hkPi hy (a := b) (cell := cellB) hcell
    (fun z h => by rw [h] at hobj; cases hobj) hselP hmethM habM hkP hkPi (g := g) hg (argsL := argsL) (rest := rest) (hlen _ hsigM) hstack hdg
  rcases hK m meth c ⟨T.setVm vm₁, locs, cells, slots⟩ { g with stack := rest } (.invokevirtual index) mk (Value.ref b :: argsL).toArray X₁ hg hsize hdg hW (X₁.named hnamed) (hpre vm₁ X₁.warmed) with ⟨v, B, X', hpost, hsteps⟩ | ⟨q, B, X', hpost, hsteps⟩
  · exact Or.inl ⟨v, vm₁, B, X₁.warmed, X', hpost, fun target h => hstep₁ _ fun acts => by rw [doInvoke_state]; exact hsteps.trans h⟩
  · exact Or.inr ⟨q, vm₁, B, X₁.warmed, X', hpost, hstep₁ _ fun acts => by rw [doInvoke_state]; exact hsteps⟩
theorem vx_callS (X : Stand p l e R s m args below meth c T locs cells slots) (hexec : p.tables.exec = Jvm.exec) {own : String} {index : Nat} {y : MethodName} {bytes : ByteArray} {maxL : Nat} {ret : Option FieldType}
    (hown : s.vm.findClass own = some m.cls) (hlink : (Cond.methodLink own index y).before args s = true) (hstat : (Cond.static y).before args s = true) (hinit : (Cond.initialized y.cls).before args s = true)
    (hcode : (Cond.code y bytes maxL ret).before args s = true) (hy : y.cls ≠ "java/lang/invoke/MethodHandle" ∧ y.cls ≠ "java/lang/invoke/VarHandle")
    {W9 : Nat} {Pre : Pt → Array Value → Prop} {Post : Pt → Array Value → Option Value → Pt → Prop} {PostX : Pt → Array Value → Addr → Pt → Prop} (hK : vx_Back l R p e below s args y 3 W9 Pre Post PostX)
    {g : JFrame} (hg : g.method = m) (hsize : g.locals.size = c.maxLocals) {argsL rest : List Value} (hlen : ∀ sig, parseMethodDescriptor y.desc = some sig → argsL.length = sig.parameters.length)
    (hstack : g.stack = argsL.reverse ++ rest) (hW : 2 * g.monitorRoom + (rest.map fun v => v.category).sum ≤ W9) (hdg : decode c.code g.pc = .ok (.invokestatic index, 3))
    (hpre : ∀ vm₁, s.WarmedH vm₁ → Pre ⟨T.setVm vm₁, locs, cells, slots⟩ argsL.toArray) :
    (∃ (v : Option Value) (vm₁ : Vm) (B : Pt), s.WarmedH vm₁ ∧ Stand p l e R s m args below meth c B.U B.locs B.cells B.slots ∧ Post ⟨T.setVm vm₁, locs, cells, slots⟩ argsL.toArray v B ∧
      ∀ target, Steps p.tables e below (B.U.setTop { g with pc := g.pc + 3, stack := v.toList ++ rest }) target → Steps p.tables e below (T.setTop g) target) ∨
    (∃ (q : Addr) (vm₁ : Vm) (B : Pt), s.WarmedH vm₁ ∧ Stand p l e R s m args below meth c B.U B.locs B.cells B.slots ∧ PostX ⟨T.setVm vm₁, locs, cells, slots⟩ argsL.toArray q B ∧
      Steps p.tables e below (T.setTop g) ((B.U.setTop { g with stack := rest }).pushFrame (.throwing q))) := by
  obtain ⟨mk, hnamed⟩ := Cond.code_named hcode
  obtain ⟨methM, cM, hmethM, -, -, -, -, -, -, hsigM⟩ := Cond.code_spec hnamed hcode
  have hstatic : methM.isStatic = true := Cond.static_spec hnamed hmethM hstat
  obtain ⟨kP, hkP, -⟩ := className_of_methodNamed hnamed
  have hinitP : kP.init = .initialized := Cond.initialized_spec (findClass_of_methodNamed hnamed) hkP hinit
  obtain ⟨vm₁, X₁, hstep₁⟩ := X.invokestatic hexec hown hlink hnamed hmethM hstatic hkP hinitP hy (g := g) hg (argsL := argsL) (rest := rest) (hlen _ hsigM) hstack hdg
  rcases hK m meth c ⟨T.setVm vm₁, locs, cells, slots⟩ { g with stack := rest } (.invokestatic index) mk argsL.toArray X₁ hg hsize hdg hW (X₁.named hnamed) (hpre vm₁ X₁.warmed) with ⟨v, B, X', hpost, hsteps⟩ | ⟨q, B, X', hpost, hsteps⟩
  · exact Or.inl ⟨v, vm₁, B, X₁.warmed, X', hpost, fun target h => hstep₁ _ fun acts => by rw [doInvoke_state]; exact hsteps.trans h⟩
  · exact Or.inr ⟨q, vm₁, B, X₁.warmed, X', hpost, hstep₁ _ fun acts => by rw [doInvoke_state]; exact hsteps⟩
end Calls
theorem vx_cls {s : State} {T : State} {vm₁ : Vm} {E : String} {k : ClassId} (hW : s.WarmedH vm₁) (h : (T.setVm vm₁).vm.findClass E = some k) : s.vm.findClass E = some k := by
  have h1 : vm₁.findClass E = some k := h
  rw [hW.alike.findClass] at h1
  exact h1
/-- the method's frame g, with q thrown over it -/
def vx_W (p : Program) (l : Launch) (e : Env) (R : Room) (s : State) (m : MethodId) (args : Array Value) (below : List Frame) (meth : Method) (c : Code) (H : Heap) (locs : List Loc) (cells slots : Nat) (Q : State → Prop) (g : JFrame) (q : Addr) : Prop :=
  ∀ T : State, T.heap = H → Stand p l e R s m args below meth c T locs cells slots → ∃ t, Steps p.tables e below ((T.setTop g).pushFrame (.throwing q)) t ∧ Q t
def vx_Run (p : Program) (l : Launch) (e : Env) (R : Room) (s : State) (m : MethodId) (args : Array Value) (below : List Frame) (meth : Method) (c : Code) (H : Heap) (locs : List Loc) (cells slots mc ms : Nat) (g : JFrame) (rest : List Value) (Qa : State → Outcome → State → Prop) (XC : String → State → State → Prop) (free : Addr → Prop) : Prop :=
  ∀ T : State, T.heap = H → Stand p l e R s m args below meth c T locs cells slots →
    (∃ (v : Option Value) (st₀ t T' : State) (L : List Loc), st₀.heap = H ∧ Stand p l e R s m args below meth c T' (locs ++ L) (cells + mc) (slots + ms) ∧ (∀ q ∈ L, free q.base) ∧ T'.heap = t.heap ∧ T'.vm = t.vm ∧ Qa st₀ (.returned v) t ∧
      Goes p e below T g T' { g with pc := g.pc + 3, stack := v.toList ++ rest }) ∨
    (∃ (q : Addr) (st₀ t T' : State) (L : List Loc) (E : String) (ce : Cell), st₀.heap = H ∧ Stand p l e R s m args below meth c T' (locs ++ L) (cells + mc) (slots + ms) ∧ (∀ z ∈ L, free z.base) ∧ T'.heap = t.heap ∧ T'.vm = t.vm ∧ XC E st₀ t ∧ t.heap[q]? = some ce ∧ ce.vm = .none ∧ s.vm.findClass E = some ce.cls ∧
      Steps p.tables e below (T.setTop g) ((T'.setTop { g with stack := rest }).pushFrame (.throwing q)))
def vx_X {S : Type} (px : S → Prop) (B : String → S → State → Prop) (A : Nat → Prop) : String → State → State → Prop := fun E st t => ∃ u : S, px u ∧ B E u t ∧ va_F A st t
section Runs
variable {p : Program} {l : Launch} {e : Env} {R : Room} {s : State} {m : MethodId} {args : Array Value} {below : List Frame} {meth : Method} {c : Code} {H : Heap} {locs : List Loc} {cells slots : Nat}
variable {y : MethodName} {bytes cc : ByteArray} {maxL nL mc ms n index : Nat} {ret : Option FieldType} {ws : List Cond} {rm : Room} {Pc : Array Value → State → Prop} {Qc : Array Value → State → Outcome → State → Prop} {XC : String → State → State → Prop} {free : Addr → Prop} {Ts : List Cond} {own C : String} {b : Addr} {As rest : List Value} {g : JFrame}
theorem vx_callBack (cb : CallB R s args own index y bytes maxL ret ws rm mc ms n) (hM : vx_Met l y ws rm Pc Qc XC mc ms free) (hbl : FrameBlind Pc) : vx_Back l R p e below s args y 3 8 (PreOf R mc ms Pc) (PostOf Qc mc ms free) (vx_Post XC mc ms free) := by
  obtain ⟨hrc, hrs, hfr, hlo, hws, hcw, -, hini, -⟩ := cb
  exact vx_back (bytes := bytes) (maxL := maxL) (ret := ret) hM hbl hrc hrs hfr hlo hws hcw (fun a' U hW => word_at hW (Or.inl (by first | rfl | simp [Cond.onTables, Cond.keeps, Cond.steady])) hini)
theorem vx_runV (S : CallFix p m c cc nL s args Ts own) (hM : vx_Met l y ws rm Pc Qc XC mc ms free) (cw : CallW R s args own C index y bytes maxL ret ws rm mc ms n) (hp : PreV s H C b Pc As)
    (hg : g.method = m) (hn : As.length = n) (hsize : g.locals.size = nL) (hstack : g.stack = As.reverse ++ .ref b :: rest) (hW : 2 * g.monitorRoom + (rest.map fun v => v.category).sum ≤ 8) (hdg : decode cc g.pc = .ok (.invokevirtual index, 3)) (hf : cells + mc ≤ R.cells ∧ slots + ms ≤ R.slots) :
    vx_Run p l e R s m args below meth c H locs cells slots mc ms g rest (Qc (Value.ref b :: As).toArray) XC free := by
  have hK : vx_Back l R p e below s args y 3 8 (PreOf R mc ms Pc) (PostOf Qc mc ms free) (vx_Post XC mc ms free) := vx_callBack cw.1 hM hp.1
  obtain ⟨⟨-, -, -, -, -, -, hcode, -, hy, hlen, hl⟩, hin, hse⟩ := cw
  obtain ⟨hx, hb, hml, ho, -⟩ := S
  obtain ⟨-, ⟨cellB, hcB, hoB, hclB⟩, hPc⟩ := hp
  intro T hT X
  rcases vx_callV X hx (C := C) (bytes := bytes) (maxL := maxL) (ret := ret) ho hl hin hse hcode hy hK (by rw [hT]; exact hcB) hoB hclB hg (hsize.trans hml.symm) (argsL := As) (rest := rest) (fun sig h => hn.trans (hlen sig h)) hstack hW (by rw [hb]; exact hdg)
    (fun vm₁ hW₁ => ⟨hf.1, hf.2, hPc (T.setVm vm₁) hT hW₁⟩) with ⟨v, vm₁, ⟨U', l2, c2, s2⟩, hW₁, X', ⟨g', mk, t, L, e1, e2, hq, h1, hL, h2, h3⟩, st⟩ | ⟨q, vm₁, ⟨U', l2, c2, s2⟩, hW₁, X', ⟨g', mk, t, L, E, ce, e1, e2, hq, hce, hcv, hcl, h1, hL, h2, h3⟩, st⟩
  · dsimp only [Pt.U, Pt.locs, Pt.cells, Pt.slots] at X' e1 e2 h1 h2 h3 st
    subst h1; subst h2; subst h3
    exact Or.inl ⟨v, (T.setVm vm₁).calling g' mk (Value.ref b :: As).toArray, t, U', L, hT, X', hL, e1, e2, hq, st⟩
  · dsimp only [Pt.U, Pt.locs, Pt.cells, Pt.slots] at X' e1 e2 h1 h2 h3 st hcl
    subst h1; subst h2; subst h3
    exact Or.inr ⟨q, (T.setVm vm₁).calling g' mk (Value.ref b :: As).toArray, t, U', L, E, ce, hT, X', hL, e1, e2, hq, hce, hcv, vx_cls hW₁ hcl, st⟩
theorem vx_runS (S : CallFix p m c cc nL s args Ts own) (hM : vx_Met l y ws rm Pc Qc XC mc ms free) (cw : CallB R s args own index y bytes maxL ret ws rm mc ms n ∧ (Cond.static y).before args s = true) (hp : PreS s H Pc As)
    (hg : g.method = m) (hn : As.length = n) (hsize : g.locals.size = nL) (hstack : g.stack = As.reverse ++ rest) (hW : 2 * g.monitorRoom + (rest.map fun v => v.category).sum ≤ 8) (hdg : decode cc g.pc = .ok (.invokestatic index, 3)) (hf : cells + mc ≤ R.cells ∧ slots + ms ≤ R.slots) :
    vx_Run p l e R s m args below meth c H locs cells slots mc ms g rest (Qc As.toArray) XC free := by
  have hK : vx_Back l R p e below s args y 3 8 (PreOf R mc ms Pc) (PostOf Qc mc ms free) (vx_Post XC mc ms free) := vx_callBack cw.1 hM hp.1
  obtain ⟨⟨-, -, -, -, -, -, hcode, hini, hy, hlen, hl⟩, hstt⟩ := cw
  obtain ⟨hx, hb, hml, ho, -⟩ := S
  intro T hT X
  rcases vx_callS X hx (bytes := bytes) (maxL := maxL) (ret := ret) ho hl hstt hini hcode hy hK hg (hsize.trans hml.symm) (argsL := As) (rest := rest) (fun sig h => hn.trans (hlen sig h)) hstack hW (by rw [hb]; exact hdg)
    (fun vm₁ hW₁ => ⟨hf.1, hf.2, hp.2 (T.setVm vm₁) hT hW₁⟩) with ⟨v, vm₁, ⟨U', l2, c2, s2⟩, hW₁, X', ⟨g', mk, t, L, e1, e2, hq, h1, hL, h2, h3⟩, st⟩ | ⟨q, vm₁, ⟨U', l2, c2, s2⟩, hW₁, X', ⟨g', mk, t, L, E, ce, e1, e2, hq, hce, hcv, hcl, h1, hL, h2, h3⟩, st⟩
  · dsimp only [Pt.U, Pt.locs, Pt.cells, Pt.slots] at X' e1 e2 h1 h2 h3 st
    subst h1; subst h2; subst h3
    exact Or.inl ⟨v, (T.setVm vm₁).calling g' mk As.toArray, t, U', L, hT, X', hL, e1, e2, hq, st⟩
  · dsimp only [Pt.U, Pt.locs, Pt.cells, Pt.slots] at X' e1 e2 h1 h2 h3 st hcl
    subst h1; subst h2; subst h3
    exact Or.inr ⟨q, (T.setVm vm₁).calling g' mk As.toArray, t, U', L, E, ce, hT, X', hL, e1, e2, hq, hce, hcv, vx_cls hW₁ hcl, st⟩
end Runs
section Rows
variable {p : Program} {l : Launch} {e : Env} {R : Room} {s : State} {m : MethodId} {args : Array Value} {below : List Frame} {meth : Method} {c : Code} {H : Heap} {locs : List Loc} {cells slots : Nat} {Q : State → Prop}
variable {mc ms : Nat} {free : Addr → Prop} {A0 A1 : Nat → Prop} {H0 : Heap} {a : Array Value} {pc : Nat} {ls : Array Slot} {st0 rest : List Value}
theorem vx_keep {st₀ t T' : State} {L : List Loc} (h0 : st₀.heap = H) (e1 : T'.heap = t.heap) (hS : va_S A0 H0 H locs) (hA : ∀ q, q < H.size → A1 q → A0 q) (hf : ∀ q, free q → A0 q) (hL : ∀ q ∈ L, free q.base) (hF : va_F A1 st₀ t) :
    H.size ≤ T'.heap.size ∧ (∀ q : Nat, q < H.size → ¬ A1 q → T'.heap[q]? = H[q]?) ∧ va_S A0 H0 T'.heap (locs ++ L) := by
  obtain ⟨hz, hk⟩ := hF
  rw [h0] at hz hk
  exact ⟨by rw [e1]; exact hz, fun q h1 h2 => by rw [e1]; exact hk q h1 h2,
    ⟨Nat.le_trans hS.1 (by rw [e1]; exact hz), fun q h1 h2 => by rw [e1, hk q (Nat.lt_of_lt_of_le h1 hS.1) (fun z => h2 (hA q (Nat.lt_of_lt_of_le h1 hS.1) z))]; exact hS.2.1 q h1 h2, fun q hq => by
      rcases List.mem_append.mp hq with h | h
      · exact hS.2.2 q h
      · exact hf _ (hL q h)⟩⟩
theorem vx_calli {S SX : Type} {post : Int32 → S → Prop} {px : SX → Prop} {B : S → State → Prop} {BX : String → SX → State → Prop} {AX : Nat → Prop} (hr : vx_Run p l e R s m args below meth c H locs cells slots mc ms (F0 m pc ls st0) rest (va_Qi post B A1 a) (vx_X px BX AX) free) (hS : va_S A0 H0 H locs) (hA : ∀ q, q < H.size → A1 q → A0 q) (hf : ∀ q, free q → A0 q) (hAX : ∀ q, q < H.size → AX q → A0 q)
    (kx : ∀ (E : String) (ce : Cell) (q9 : Addr) (u : SX) (t : State) (H1 : Heap) (locs1 : List Loc), t.heap = H1 → s.vm.Alike t.vm → px u → BX E u t → H.size ≤ H1.size → (∀ q : Nat, q < H.size → ¬ AX q → H1[q]? = H[q]?) → va_S A0 H0 H1 locs1 → H1[q9]? = some ce → ce.vm = .none → s.vm.findClass E = some ce.cls → vx_W p l e R s m args below meth c H1 locs1 (cells + mc) (slots + ms) Q (F0 m pc ls rest) q9)
    (kk : ∀ (r : Int32) (u : S) (t : State) (H1 : Heap) (locs1 : List Loc), t.heap = H1 → s.vm.Alike t.vm → post r u → B u t → H.size ≤ H1.size → (∀ q : Nat, q < H.size → ¬ A1 q → H1[q]? = H[q]?) → va_S A0 H0 H1 locs1 → W p l e R s m args below meth c H1 locs1 (cells + mc) (slots + ms) Q (F0 m (pc + 3) ls (.int r :: rest))) : W p l e R s m args below meth c H locs cells slots Q (F0 m pc ls st0) := by
  intro T hT X
  rcases hr T hT X with ⟨v, st₀, t, T', L, h0, X', hL, e1, e2, ⟨⟨r, u, hv, hp, hb⟩, hF⟩, st⟩ | ⟨q, st₀, t, T', L, E, ce, h0, X', hL, e1, e2, ⟨u, hp, hb, hF⟩, hce, hcv, hcl, st⟩
  · cases hv
    obtain ⟨k1, k2, k3⟩ := vx_keep h0 e1 hS hA hf hL hF
    obtain ⟨t2, a1, b1⟩ := kk r u t T'.heap (locs ++ L) e1.symm (by rw [← e2]; exact X'.warmed.alike) hp hb k1 k2 k3 T' rfl X'
    exact ⟨t2, st t2 a1, b1⟩
  · obtain ⟨k1, k2, k3⟩ := vx_keep h0 e1 hS hAX hf hL hF
    obtain ⟨t2, a1, b1⟩ := kx E ce q u t T'.heap (locs ++ L) e1.symm (by rw [← e2]; exact X'.warmed.alike) hp hb k1 k2 k3 (by rw [e1]; exact hce) hcv hcl T' rfl X'
    exact ⟨t2, st.trans a1, b1⟩
theorem vx_calll {S SX : Type} {post : Int64 → S → Prop} {px : SX → Prop} {B : S → State → Prop} {BX : String → SX → State → Prop} {AX : Nat → Prop} (hr : vx_Run p l e R s m args below meth c H locs cells slots mc ms (F0 m pc ls st0) rest (va_Ql post B A1 a) (vx_X px BX AX) free) (hS : va_S A0 H0 H locs) (hA : ∀ q, q < H.size → A1 q → A0 q) (hf : ∀ q, free q → A0 q) (hAX : ∀ q, q < H.size → AX q → A0 q)
    (kx : ∀ (E : String) (ce : Cell) (q9 : Addr) (u : SX) (t : State) (H1 : Heap) (locs1 : List Loc), t.heap = H1 → s.vm.Alike t.vm → px u → BX E u t → H.size ≤ H1.size → (∀ q : Nat, q < H.size → ¬ AX q → H1[q]? = H[q]?) → va_S A0 H0 H1 locs1 → H1[q9]? = some ce → ce.vm = .none → s.vm.findClass E = some ce.cls → vx_W p l e R s m args below meth c H1 locs1 (cells + mc) (slots + ms) Q (F0 m pc ls rest) q9)
    (kk : ∀ (r : Int64) (u : S) (t : State) (H1 : Heap) (locs1 : List Loc), t.heap = H1 → s.vm.Alike t.vm → post r u → B u t → H.size ≤ H1.size → (∀ q : Nat, q < H.size → ¬ A1 q → H1[q]? = H[q]?) → va_S A0 H0 H1 locs1 → W p l e R s m args below meth c H1 locs1 (cells + mc) (slots + ms) Q (F0 m (pc + 3) ls (.long r :: rest))) : W p l e R s m args below meth c H locs cells slots Q (F0 m pc ls st0) := by
  intro T hT X
  rcases hr T hT X with ⟨v, st₀, t, T', L, h0, X', hL, e1, e2, ⟨⟨r, u, hv, hp, hb⟩, hF⟩, st⟩ | ⟨q, st₀, t, T', L, E, ce, h0, X', hL, e1, e2, ⟨u, hp, hb, hF⟩, hce, hcv, hcl, st⟩
  · cases hv
    obtain ⟨k1, k2, k3⟩ := vx_keep h0 e1 hS hA hf hL hF
    obtain ⟨t2, a1, b1⟩ := kk r u t T'.heap (locs ++ L) e1.symm (by rw [← e2]; exact X'.warmed.alike) hp hb k1 k2 k3 T' rfl X'
    exact ⟨t2, st t2 a1, b1⟩
  · obtain ⟨k1, k2, k3⟩ := vx_keep h0 e1 hS hAX hf hL hF
    obtain ⟨t2, a1, b1⟩ := kx E ce q u t T'.heap (locs ++ L) e1.symm (by rw [← e2]; exact X'.warmed.alike) hp hb k1 k2 k3 (by rw [e1]; exact hce) hcv hcl T' rfl X'
    exact ⟨t2, st.trans a1, b1⟩
theorem vx_callf {S SX : Type} {post : UInt32 → S → Prop} {px : SX → Prop} {B : S → State → Prop} {BX : String → SX → State → Prop} {AX : Nat → Prop} (hr : vx_Run p l e R s m args below meth c H locs cells slots mc ms (F0 m pc ls st0) rest (va_Qf post B A1 a) (vx_X px BX AX) free) (hS : va_S A0 H0 H locs) (hA : ∀ q, q < H.size → A1 q → A0 q) (hf : ∀ q, free q → A0 q) (hAX : ∀ q, q < H.size → AX q → A0 q)
    (kx : ∀ (E : String) (ce : Cell) (q9 : Addr) (u : SX) (t : State) (H1 : Heap) (locs1 : List Loc), t.heap = H1 → s.vm.Alike t.vm → px u → BX E u t → H.size ≤ H1.size → (∀ q : Nat, q < H.size → ¬ AX q → H1[q]? = H[q]?) → va_S A0 H0 H1 locs1 → H1[q9]? = some ce → ce.vm = .none → s.vm.findClass E = some ce.cls → vx_W p l e R s m args below meth c H1 locs1 (cells + mc) (slots + ms) Q (F0 m pc ls rest) q9)
    (kk : ∀ (r : UInt32) (u : S) (t : State) (H1 : Heap) (locs1 : List Loc), t.heap = H1 → s.vm.Alike t.vm → post r u → B u t → H.size ≤ H1.size → (∀ q : Nat, q < H.size → ¬ A1 q → H1[q]? = H[q]?) → va_S A0 H0 H1 locs1 → W p l e R s m args below meth c H1 locs1 (cells + mc) (slots + ms) Q (F0 m (pc + 3) ls (.float r :: rest))) : W p l e R s m args below meth c H locs cells slots Q (F0 m pc ls st0) := by
  intro T hT X
  rcases hr T hT X with ⟨v, st₀, t, T', L, h0, X', hL, e1, e2, ⟨⟨r, u, hv, hp, hb⟩, hF⟩, st⟩ | ⟨q, st₀, t, T', L, E, ce, h0, X', hL, e1, e2, ⟨u, hp, hb, hF⟩, hce, hcv, hcl, st⟩
  · cases hv
    obtain ⟨k1, k2, k3⟩ := vx_keep h0 e1 hS hA hf hL hF
    obtain ⟨t2, a1, b1⟩ := kk r u t T'.heap (locs ++ L) e1.symm (by rw [← e2]; exact X'.warmed.alike) hp hb k1 k2 k3 T' rfl X'
    exact ⟨t2, st t2 a1, b1⟩
  · obtain ⟨k1, k2, k3⟩ := vx_keep h0 e1 hS hAX hf hL hF
    obtain ⟨t2, a1, b1⟩ := kx E ce q u t T'.heap (locs ++ L) e1.symm (by rw [← e2]; exact X'.warmed.alike) hp hb k1 k2 k3 (by rw [e1]; exact hce) hcv hcl T' rfl X'
    exact ⟨t2, st.trans a1, b1⟩
theorem vx_calld {S SX : Type} {post : UInt64 → S → Prop} {px : SX → Prop} {B : S → State → Prop} {BX : String → SX → State → Prop} {AX : Nat → Prop} (hr : vx_Run p l e R s m args below meth c H locs cells slots mc ms (F0 m pc ls st0) rest (va_Qd post B A1 a) (vx_X px BX AX) free) (hS : va_S A0 H0 H locs) (hA : ∀ q, q < H.size → A1 q → A0 q) (hf : ∀ q, free q → A0 q) (hAX : ∀ q, q < H.size → AX q → A0 q)
    (kx : ∀ (E : String) (ce : Cell) (q9 : Addr) (u : SX) (t : State) (H1 : Heap) (locs1 : List Loc), t.heap = H1 → s.vm.Alike t.vm → px u → BX E u t → H.size ≤ H1.size → (∀ q : Nat, q < H.size → ¬ AX q → H1[q]? = H[q]?) → va_S A0 H0 H1 locs1 → H1[q9]? = some ce → ce.vm = .none → s.vm.findClass E = some ce.cls → vx_W p l e R s m args below meth c H1 locs1 (cells + mc) (slots + ms) Q (F0 m pc ls rest) q9)
    (kk : ∀ (r : UInt64) (u : S) (t : State) (H1 : Heap) (locs1 : List Loc), t.heap = H1 → s.vm.Alike t.vm → post r u → B u t → H.size ≤ H1.size → (∀ q : Nat, q < H.size → ¬ A1 q → H1[q]? = H[q]?) → va_S A0 H0 H1 locs1 → W p l e R s m args below meth c H1 locs1 (cells + mc) (slots + ms) Q (F0 m (pc + 3) ls (.double r :: rest))) : W p l e R s m args below meth c H locs cells slots Q (F0 m pc ls st0) := by
  intro T hT X
  rcases hr T hT X with ⟨v, st₀, t, T', L, h0, X', hL, e1, e2, ⟨⟨r, u, hv, hp, hb⟩, hF⟩, st⟩ | ⟨q, st₀, t, T', L, E, ce, h0, X', hL, e1, e2, ⟨u, hp, hb, hF⟩, hce, hcv, hcl, st⟩
  · cases hv
    obtain ⟨k1, k2, k3⟩ := vx_keep h0 e1 hS hA hf hL hF
    obtain ⟨t2, a1, b1⟩ := kk r u t T'.heap (locs ++ L) e1.symm (by rw [← e2]; exact X'.warmed.alike) hp hb k1 k2 k3 T' rfl X'
    exact ⟨t2, st t2 a1, b1⟩
  · obtain ⟨k1, k2, k3⟩ := vx_keep h0 e1 hS hAX hf hL hF
    obtain ⟨t2, a1, b1⟩ := kx E ce q u t T'.heap (locs ++ L) e1.symm (by rw [← e2]; exact X'.warmed.alike) hp hb k1 k2 k3 (by rw [e1]; exact hce) hcv hcl T' rfl X'
    exact ⟨t2, st.trans a1, b1⟩
theorem vx_callv {S SX : Type} {post : S → Prop} {px : SX → Prop} {B : S → State → Prop} {BX : String → SX → State → Prop} {AX : Nat → Prop} (hr : vx_Run p l e R s m args below meth c H locs cells slots mc ms (F0 m pc ls st0) rest (va_Qv post B A1 a) (vx_X px BX AX) free) (hS : va_S A0 H0 H locs) (hA : ∀ q, q < H.size → A1 q → A0 q) (hf : ∀ q, free q → A0 q) (hAX : ∀ q, q < H.size → AX q → A0 q)
    (kx : ∀ (E : String) (ce : Cell) (q9 : Addr) (u : SX) (t : State) (H1 : Heap) (locs1 : List Loc), t.heap = H1 → s.vm.Alike t.vm → px u → BX E u t → H.size ≤ H1.size → (∀ q : Nat, q < H.size → ¬ AX q → H1[q]? = H[q]?) → va_S A0 H0 H1 locs1 → H1[q9]? = some ce → ce.vm = .none → s.vm.findClass E = some ce.cls → vx_W p l e R s m args below meth c H1 locs1 (cells + mc) (slots + ms) Q (F0 m pc ls rest) q9)
    (kk : ∀ (u : S) (t : State) (H1 : Heap) (locs1 : List Loc), t.heap = H1 → s.vm.Alike t.vm → post u → B u t → H.size ≤ H1.size → (∀ q : Nat, q < H.size → ¬ A1 q → H1[q]? = H[q]?) → va_S A0 H0 H1 locs1 → W p l e R s m args below meth c H1 locs1 (cells + mc) (slots + ms) Q (F0 m (pc + 3) ls (rest))) : W p l e R s m args below meth c H locs cells slots Q (F0 m pc ls st0) := by
  intro T hT X
  rcases hr T hT X with ⟨v, st₀, t, T', L, h0, X', hL, e1, e2, ⟨⟨u, hv, hp, hb⟩, hF⟩, st⟩ | ⟨q, st₀, t, T', L, E, ce, h0, X', hL, e1, e2, ⟨u, hp, hb, hF⟩, hce, hcv, hcl, st⟩
  · cases hv
    obtain ⟨k1, k2, k3⟩ := vx_keep h0 e1 hS hA hf hL hF
    obtain ⟨t2, a1, b1⟩ := kk u t T'.heap (locs ++ L) e1.symm (by rw [← e2]; exact X'.warmed.alike) hp hb k1 k2 k3 T' rfl X'
    exact ⟨t2, st t2 a1, b1⟩
  · obtain ⟨k1, k2, k3⟩ := vx_keep h0 e1 hS hAX hf hL hF
    obtain ⟨t2, a1, b1⟩ := kx E ce q u t T'.heap (locs ++ L) e1.symm (by rw [← e2]; exact X'.warmed.alike) hp hb k1 k2 k3 (by rw [e1]; exact hce) hcv hcl T' rfl X'
    exact ⟨t2, st.trans a1, b1⟩
/-- caught by the row x of this method's table; the rows ahead don't take it -/
theorem vx_catch {own name : String} {E : String} {ce : Cell} {q : Addr} (hown : s.vm.findClass own = some m.cls) (pre : List ExceptionTableEntry) (x : ExceptionTableEntry) (suf : List ExceptionTableEntry) (hsplit : c.exceptionTable.toList = pre ++ x :: suf)
    (hpass : ∀ z ∈ pre, covers z pc = false ∨ (z.catchType ≠ 0 ∧ ∃ nm : String, (Cond.classLink own z.catchType nm).before args s = true ∧ va_Nc E nm s)) (hx : covers x pc = true) (h0 : x.catchType ≠ 0)
    (hlink : (Cond.classLink own x.catchType name).before args s = true) (hcast : (Cond.castable E name).before args s = true) (hcell : H[q]? = some ce) (hv : ce.vm = .none) (hcl : s.vm.findClass E = some ce.cls)
    (kk : W p l e R s m args below meth c H locs cells slots Q (F0 m x.handlerPc ls [.ref q])) : vx_W p l e R s m args below meth c H locs cells slots Q (F0 m pc ls rest) q := by
  intro T hT X
  have hpl : e.platform.magicAccessors = ({} : Platform).magicAccessors := by rw [X.admits.platform]
  obtain ⟨c3, c4, hc3, hc4, hasg⟩ := Cond.castable_spec hcast
  cases Option.some.inj (hc3.symm.trans hcl)
  obtain ⟨c5, hc5, hcl5⟩ := Cond.classLink_spec hown hlink e.platform hpl
  cases Option.some.inj (hc4.symm.trans hc5)
  obtain ⟨vm', X', st⟩ := X.thenCaughtThrough q (g := F0 m pc ls rest) rfl (Steps.refl _) (by rw [hT]; exact hcell) (by rw [hv]; rfl) (by obtain ⟨k9, h9, -⟩ := Vm.findClass_spec hcl; exact ⟨k9, h9⟩) pre x suf hsplit
    (fun z hz => by
      rcases hpass z hz with h | ⟨hz0, nm, hl1, hn1⟩
      · exact Or.inl h
      · obtain ⟨c6, hc6, hcl6⟩ := Cond.classLink_spec hown hl1 e.platform hpl
        obtain ⟨a8, b8, h1, h2, h3⟩ := hn1
        cases Option.some.inj (h1.symm.trans hcl)
        cases Option.some.inj (h2.symm.trans hc6)
        exact Or.inr ⟨hz0, _, hcl6, h3⟩) hx (Or.inr ⟨h0, c4, hcl5, hasg⟩)
  obtain ⟨t, a1, b1⟩ := kk (T.setVm vm') hT X'
  exact ⟨t, st.trans a1, b1⟩
end Rows
section Ends
variable {p : Program} {l : Launch} {e : Env} {R : Room} {s : State} {m : MethodId} {args : Array Value} {below : List Frame} {meth : Method} {c : Code} {H : Heap} {locs : List Loc} {cells slots : Nat} {Q : State → Prop}
variable {mc ms : Nat} {free : Addr → Prop} {A0 A1 : Nat → Prop} {H0 : Heap} {a : Array Value} {ls : Array Slot} {st0 rest : List Value}
variable {Qc : Array Value → State → Outcome → State → Prop} {XC : String → State → State → Prop}
/-- what a body that may throw owes at its end -/
def vx_MQ (below : List Frame) (Qc : Array Value → State → Outcome → State → Prop) (XC : String → State → State → Prop) (a : Array Value) (s : State) (mc ms : Nat) (free : Addr → Prop) : State → Prop := fun t =>
  ∃ o, t.status = .running ∧ Ended t below o ∧ vx_Q Qc XC mc ms free a s o t
theorem vx_ret {g : JFrame} {mc ms : Nat} (k : W p l e R s m args below meth c H locs cells slots (MQ below Qc args s mc ms free) g) : W p l e R s m args below meth c H locs cells slots (vx_MQ below Qc XC args s mc ms free) g := by
  intro T hT X
  obtain ⟨t, a1, o, b1, b2, b3, b4⟩ := k T hT X
  exact ⟨t, a1, o, b1, b2, Or.inl ⟨b3, b4⟩⟩
/-- not caught here: it goes on to the caller -/
theorem vx_widen {g : JFrame} {q : Addr} {k n : Nat} (h1 : cells ≤ k) (h2 : slots ≤ n) (kk : vx_W p l e R s m args below meth c H locs k n Q g q) : vx_W p l e R s m args below meth c H locs cells slots Q g q := fun T hT X => kk T hT (stand_widen X h1 h2)
theorem vx_out {pc : Nat} {E : String} {ce : Cell} {q : Addr} {mc ms : Nat} (hout : ∀ x ∈ c.exceptionTable.toList, covers x pc = false) (hlocks : meth.locks = false) (hcell : H[q]? = some ce) (hv : ce.vm = .none) (hcl : s.vm.findClass E = some ce.cls)
    (hx : ∀ t : State, t.heap = H → s.vm.Alike t.vm → XC E s t) (hf : ∀ z ∈ locs, free z.base) (hc : cells ≤ mc) (hs : slots ≤ ms) :
    vx_W p l e R s m args below meth c H locs cells slots (vx_MQ below Qc XC args s mc ms free) (F0 m pc ls rest) q := by
  intro T hT X
  obtain ⟨st1, hrun, hend, hW, hsm⟩ := X.leaveThrown q (g := F0 m pc ls rest) rfl rfl rfl hout hlocks
  have hcell9 : (T.setFrames (.throwing q :: below)).heap[q]? = some ce := by
    show T.heap[q]? = some ce
    rw [hT]; exact hcell
  exact ⟨_, st1, .threw q, hrun, hend, Or.inr ⟨q, rfl, E, ce, locs, hx _ hT hW.alike, hcell9, hv, hcl, hW, hsm.mono hc hs, hf⟩⟩
theorem vx_frame {U : State} {k n : Nat} (h : s.sameButNew ({ U with vm := s.vm } : State) locs k n) : s.heap.size ≤ U.heap.size ∧ ∀ q : Nat, q < s.heap.size → (∀ z ∈ locs, z.base ≠ q) → U.heap[q]? = s.heap[q]? := by
  obtain ⟨-, h2, -, -, -, h6⟩ := h
  refine ⟨h2, fun q hq hz => ?_⟩
  obtain ⟨c9, e1, e2, e3, e4⟩ := h6 q _ (Array.getElem?_eq_getElem hq)
  have hs : c9.slots = (s.heap[q]).slots := Array.ext_getElem? fun i => e4 i fun hm => hz _ hm rfl
  have h9 : c9 = s.heap[q] := by
    rw [hs] at e2
    exact e2
  have e5 : U.heap[q]? = some c9 := e1
  rw [e5, h9, Array.getElem?_eq_getElem hq]
/-- the words of a throw but the four that speak of the heap -/
def vx_no (w : Cond) : Bool := decide (w ≠ .isRef (.static Bundle.tN "UNASSIGNED_STACK" Bundle.steD)) && decide (w ≠ .isRef (.static Bundle.tN "SUPPRESSED_SENTINEL" Bundle.listD)) && decide (w ≠ .laysStatic Bundle.tN "UNASSIGNED_STACK" Bundle.steD) && decide (w ≠ .laysStatic Bundle.tN "SUPPRESSED_SENTINEL" Bundle.listD)
def vx_at0 (own : String) (ic : Nat) (X : String) (names : List String) : List Cond := (Bundle.ownAtoms0 own ic X names).filter vx_no
def vx_atS (own : String) (ic : Nat) (X : String) (names : List String) : List Cond := (Bundle.ownAtoms own ic X names).filter vx_no
/-- a word that the tables alone decide, or a good one -/
def vx_ot (w : Cond) : Bool := w.onTables || goodWord w
theorem vx_ot_at {args a' : Array Value} {s U : State} {w : Cond} (hW : s.WarmedH U.vm) (hvm : s.vm = U.vm) (hg : vx_ot w = true) (h : w.before args s = true) : w.before a' U = true := by
  simp only [vx_ot, Bool.or_eq_true] at hg
  rcases hg with hg | hg
  · exact va_tabs hg hvm h
  · exact word_at hW (good_of_word hg) h
/-- a list's words: the good ones out of the method's own list, the others by premises of their own -/
theorem vx_hat {args : Array Value} {s : State} {L B : List Cond} (h1 : ∀ w ∈ L.filter goodWord, w.before args s = true) (h2 : ∀ w ∈ L.filter (fun w => !goodWord w), w ∈ B) (h3 : ∀ w ∈ B, w.before args s = true) : ∀ w ∈ L, w.before args s = true := by
  intro w hw
  by_cases g : goodWord w = true
  · exact h1 w (List.mem_filter.mpr ⟨hw, g⟩)
  · refine h3 w (h2 w (List.mem_filter.mpr ⟨hw, ?_⟩))
    show (!goodWord w) = true
    cases hgw : goodWord w
    · rfl
    · exact absurd hgw g
theorem vx_c {args : Array Value} {s : State} {w : Cond} {B : List Cond} (h : w.before args s = true) (t : ∀ w ∈ B, w.before args s = true) : ∀ w' ∈ w :: B, w'.before args s = true := fun w' h' => (List.mem_cons.mp h').elim (fun e => by rw [e]; exact h) (t w')
theorem vx_n {args : Array Value} {s : State} : ∀ w ∈ ([] : List Cond), w.before args s = true := fun _ h => nomatch h
theorem vx_own {args : Array Value} {s : State} {L : List Cond} (h1 : ∀ w ∈ L.filter vx_no, w.before args s = true)
    (hU : (Cond.isRef (.static Bundle.tN "UNASSIGNED_STACK" Bundle.steD)).before args s = true) (hN : (Cond.isRef (.static Bundle.tN "SUPPRESSED_SENTINEL" Bundle.listD)).before args s = true)
    (lU : (Cond.laysStatic Bundle.tN "UNASSIGNED_STACK" Bundle.steD).before args s = true) (lN : (Cond.laysStatic Bundle.tN "SUPPRESSED_SENTINEL" Bundle.listD).before args s = true) : ∀ w ∈ L, w.before args s = true := by
  intro w hw
  by_cases e1 : w = .isRef (.static Bundle.tN "UNASSIGNED_STACK" Bundle.steD)
  · rw [e1]; exact hU
  · by_cases e2 : w = .isRef (.static Bundle.tN "SUPPRESSED_SENTINEL" Bundle.listD)
    · rw [e2]; exact hN
    · by_cases e3 : w = .laysStatic Bundle.tN "UNASSIGNED_STACK" Bundle.steD
      · rw [e3]; exact lU
      · by_cases e4 : w = .laysStatic Bundle.tN "SUPPRESSED_SENTINEL" Bundle.listD
        · rw [e4]; exact lN
        · exact h1 w (List.mem_filter.mpr ⟨hw, by unfold vx_no; rw [decide_eq_true e1, decide_eq_true e2, decide_eq_true e3, decide_eq_true e4]; rfl⟩)
/-- where a static field lies, its class's statics cell in H -/
def vx_L (C n d : String) (A : Nat → Prop) (U : State) (H : Heap) : Prop := ∃ (c : ClassId) (k : Class) (i : Nat) (f : Field) (a : Nat) (cell : Cell), U.vm.findClass C = some c ∧ U.fieldFound? C n d = some (c, k, i, f) ∧ f.isStatic = true ∧ k.statics = some a ∧ H[a]? = some cell ∧ cell.vm.isStatics = true ∧ cell.cls = c ∧ f.slot < cell.slots.size ∧ k.staticTypes[f.slot]? = some f.type ∧ ¬ A a
theorem vx_L.moved {C n d : String} {A : Nat → Prop} {u U : State} {H : Heap} (hvm : u.vm.Alike U.vm) (h : vx_L C n d A u H) : vx_L C n d A U H := by
  obtain ⟨c, k, i, f, a, cell, h1, h2, h3, h4, h5, h6, h7, h8, h9, h10⟩ := h
  obtain ⟨k', hi', he⟩ := State.fieldFound?_setVm hvm h2
  exact ⟨c, k', i, f, a, cell, by rw [hvm.findClass]; exact h1, hi', h3, by rw [he]; exact h4, h5, h6, h7, h8, by rw [he]; exact h9, h10⟩
theorem vx_L.kept {C n d : String} {A : Nat → Prop} {U : State} {H H1 : Heap} (h : vx_L C n d A U H) (hq : ∀ a : Nat, a < H.size → ¬ A a → H1[a]? = H[a]?) : vx_L C n d A U H1 := by
  obtain ⟨c, k, i, f, a, cell, h1, h2, h3, h4, h5, h6, h7, h8, h9, h10⟩ := h
  exact ⟨c, k, i, f, a, cell, h1, h2, h3, h4, by rw [hq a (Array.getElem?_eq_some_iff.mp h5).1 h10]; exact h5, h6, h7, h8, h9, h10⟩
theorem vx_L.narrow {C n d : String} {A B : Nat → Prop} {U : State} {H : Heap} (h : vx_L C n d A U H) (hAB : ∀ q, B q → A q) : vx_L C n d B U H := by
  obtain ⟨c, k, i, f, a, cell, h1, h2, h3, h4, h5, h6, h7, h8, h9, h10⟩ := h
  exact ⟨c, k, i, f, a, cell, h1, h2, h3, h4, h5, h6, h7, h8, h9, fun z => h10 (hAB _ z)⟩
theorem vx_L.word {C n d : String} {A : Nat → Prop} {s : State} {args : Array Value} (h : vx_L C n d A s s.heap) : (Cond.laysStatic C n d).before args s = true := by
  obtain ⟨c, k, i, f, a, cell, h1, h2, h3, h4, h5, h6, h7, h8, h9, -⟩ := h
  show (Cond.laysStatic C n d).holds args s none s [] = true
  exact Cond.laysStatic_of h1 h2 h3 h4 h5 h6 h7 h8 h9
/-- .. and what it holds: null or some reference -/
def vx_Zq (C n d : String) (A : Nat → Prop) (U : State) (H : Heap) : Prop := va_Zq C n d A U H ∧ vx_L C n d A U H
theorem vx_Zq.moved {C n d : String} {A : Nat → Prop} {u U : State} {H : Heap} (hvm : u.vm.Alike U.vm) (h : vx_Zq C n d A u H) : vx_Zq C n d A U H := ⟨va_Zq.moved hvm h.1, vx_L.moved hvm h.2⟩
theorem vx_Zq.kept {C n d : String} {A : Nat → Prop} {U : State} {H H1 : Heap} (h : vx_Zq C n d A U H) (hq : ∀ a : Nat, a < H.size → ¬ A a → H1[a]? = H[a]?) : vx_Zq C n d A U H1 := ⟨va_Zq.kept h.1 hq, vx_L.kept h.2 hq⟩
theorem vx_Zq.narrow {C n d : String} {A B : Nat → Prop} {U : State} {H : Heap} (h : vx_Zq C n d A U H) (hAB : ∀ q, B q → A q) : vx_Zq C n d B U H := ⟨va_Zq.narrow h.1 hAB, vx_L.narrow h.2 hAB⟩
theorem vx_Zqof {args : Array Value} {s : State} {C n d : String} {A : Nat → Prop} (hl : (Cond.laysStatic C n d).before args s = true) (hini : (Cond.initialized C).before args s = true) (h : (Cond.isRef (.static C n d)).before args s = true) (hA : ∀ a : Nat, a < s.heap.size → ¬ A a) : vx_Zq C n d A s s.heap := by
  refine ⟨va_Zqof hl hini h hA, ?_⟩
  obtain ⟨c, k, i, f, a, cell, h1, h2, h3, h4, h5, h6, h7, h8, h9⟩ := Cond.laysStatic_spec hl
  exact ⟨c, k, i, f, a, cell, h1, h2, h3, h4, h5, h6, h7, h8, h9, hA a (Array.getElem?_eq_some_iff.mp h5).1⟩
theorem vx_isRef {C n d : String} {v : Value} {A : Nat → Prop} {s : State} {args : Array Value} (h : va_Z C n d v A s s.heap) (hv : v.isRef = true) : (Cond.isRef (.static C n d)).before args s = true := by
  obtain ⟨cf, kf, fi, f, a, cell, h1, h2, h3, h4, h5, h6, h7, -⟩ := h
  have he : (Term.static C n d).eval args s none [] s = some v := by
    simp [Term.eval, State.fieldNamed?, h1, h2, h4, h5, h6, h7]
  simp only [Cond.before, Cond.holds, Cond.value, he]
  cases v <;> simp_all [Value.isRef]
theorem vx_isRefq {C n d : String} {A : Nat → Prop} {s : State} {args : Array Value} (h : va_Zq C n d A s s.heap) : (Cond.isRef (.static C n d)).before args s = true := by
  rcases h with h | ⟨t, h⟩
  · exact vx_isRef h rfl
  · exact vx_isRef h rfl
/-- the same frame, seen from here: as if the method were called anew in this heap -/
theorem vx_rebase {T : State} (X : Stand p l e R s m args below meth c T locs cells slots) {R' : Room} (hf : R'.frames ≤ R.frames) (hl : R'.locals ≤ R.locals) (hc : cells + R'.cells ≤ R.cells) (hs : slots + R'.slots ≤ R.slots) :
    Stand p l e R' ((T.setVm s.vm).setFrames (.invoking m args :: below)) m args below meth c T [] 0 0 := by
  have htop : (T.setVm s.vm).topJava?.isSome := X.here.top
  have hF : ((T.setVm s.vm).setFrames (.invoking m args :: below)).frames = .invoking m args :: below := State.frames_setFrames _ (State.cur_lt_of_top htop)
  obtain ⟨g₀, hg0⟩ := Option.isSome_iff_exists.mp htop
  obtain ⟨r, hr⟩ := State.topJava?_eq_some.mp hg0
  have hl9 : e.platform.stackLimits (T.setVm s.vm).me = e.platform.stackLimits s.me := X.limits
  have hb9 : (T.setVm s.vm).me.stackBytes = s.me.stackBytes := X.bytes
  refine ⟨X.admits, X.cas, X.clock, hF, ?_, X.hears, X.method, X.code, X.here, X.tail, X.warmed, ?_, ?_, ?_⟩
  · have h := X.room
    have hU : ((T.setVm s.vm).setFrames (.invoking m args :: below)).localsInUse = s.localsInUse := by
      rw [State.localsInUse_invoking hF (meth := meth) (c := c) X.method X.code, State.localsInUse_invoking X.frames X.method X.code]
    simp only [State.hasRoom, Bool.and_eq_true, decide_eq_true_eq] at h ⊢
    obtain ⟨⟨⟨⟨h1, h2, h3, h4, h5, h6⟩, h7⟩, h8⟩, h9⟩ := h
    rw [X.frames, List.length_cons] at h2 h3
    have q1 := X.heapSize
    have q2 := X.used
    simp only [hF, hU, List.length_cons, State.stackLimits_setFrames, State.stackBytes_setFrames, hl9, hb9]
    refine ⟨⟨⟨⟨by omega, by omega, by omega, by omega, by omega, h6⟩, ?_⟩, ?_⟩, X.book⟩
    · show T.heap.size + R'.cells ≤ e.platform.maxCells
      omega
    · show T.slotsUsed + R'.slots ≤ e.platform.maxSlots
      omega
  · rw [State.stackLimits_setFrames]; rfl
  · rw [State.stackBytes_setFrames]; rfl
  · refine ⟨?_, Nat.le_refl _, Nat.le_refl _, ?_, ?_, fun a c9 h9 => ⟨c9, h9, rfl, rfl, fun _ _ => rfl⟩⟩
    · obtain ⟨t, ht, -⟩ := State.frames_cons hr
      show T.setVm s.vm = { ((T.setVm s.vm).setFrames (.invoking m args :: below)).setFrames (T.setVm s.vm).frames with heap := T.heap, slotsUsed := T.slotsUsed }
      rw [State.setFrames_setFrames, State.setFrames_self ht]
      rfl
    · show T.slotsUsed = T.slotsUsed + ((T.heap.toList.drop T.heap.size).map (·.slots.size)).sum
      rw [List.drop_eq_nil_of_le (Nat.le_of_eq Array.length_toList)]
      rfl
    · show ((T.heap.toList.drop T.heap.size).map (·.slots.size)).sum ≤ 0
      rw [List.drop_eq_nil_of_le (Nat.le_of_eq Array.length_toList)]
      exact Nat.le_refl _
/-- 'throw new E()': new; dup; invokespecial; athrow -/
theorem vx_throw0 {cc : ByteArray} {pc : Nat} (hexec : p.tables.exec = Jvm.exec) (hb : c.code = cc) (hl : l.stackTraces = false) {own cls : String} {names : List String} {ik ic mc ms : Nat} {A : Nat → Prop}
    (hown : s.vm.findClass own = some m.cls) (hcls : Bundle.fit cls = true) (hnames : ∀ n ∈ names, Bundle.fit n = true)
    (hk : (Cond.classLink own ik cls).before args s = true) (hini : (Cond.initialized cls).before args s = true) (hat : ∀ w ∈ vx_at0 own ic cls names, w.before args s = true)
    (hgood : ∀ w ∈ Cond.classLink own ik cls :: Cond.initialized cls :: vx_at0 own ic cls names, vx_ot w = true)
    (hU : vx_Zq Bundle.tN "UNASSIGNED_STACK" Bundle.steD A s s.heap) (hN : vx_Zq Bundle.tN "SUPPRESSED_SENTINEL" Bundle.listD A s s.heap) (hS : va_S A s.heap H locs) (hsize : ls.size = c.maxLocals)
    (d0 : decode cc pc = .ok (.new ik, 3)) (d3 : decode cc (pc + 3) = .ok (.dup, 1)) (d4 : decode cc (pc + 4) = .ok (.invokespecial ic, 3)) (d7 : decode cc (pc + 7) = .ok (.athrow, 1))
    (hout : ∀ x ∈ c.exceptionTable.toList, covers x (pc + 7) = false)
    (hRframes : names.length + 3 < R.frames) (hRlocals : (rest.map fun v => v.category).sum + (13 * (names.length + 1) + 42) ≤ R.locals) (hRcells : cells + 1 ≤ R.cells) (hRslots : slots + 6 ≤ R.slots) (hlocks : meth.locks = false)
    (hx : ∀ t : State, s.vm.Alike t.vm → H.size ≤ t.heap.size → (∀ q : Nat, q < H.size → t.heap[q]? = H[q]?) → XC cls s t)
    (hf : ∀ z ∈ locs, free z.base) (hc : cells + 1 ≤ mc) (hs : slots + 6 ≤ ms) :
    W p l e R s m args below meth c H locs cells slots (vx_MQ below Qc XC args s mc ms free) (F0 m pc ls rest) := by
  intro T hT X
  have htr : e.platform.stackTraces = false := (show e.platform.stackTraces = l.stackTraces by rw [X.admits.platform]).trans hl
  have Y := vx_rebase X (R' := { frames := R.frames, locals := R.locals, cells := 1, slots := 6 }) (Nat.le_refl _) (Nat.le_refl _) hRcells hRslots
  obtain ⟨s', hA⟩ : ∃ z, z = (T.setVm s.vm).setFrames (.invoking m args :: below) := ⟨_, rfl⟩
  rw [← hA] at Y
  have hvm : s'.vm = s.vm := by rw [hA]; rfl
  have hhp : s'.heap = H := by rw [hA]; exact hT
  have hW0 : s.WarmedH s'.vm := by rw [hvm]; exact State.WarmedH.refl s
  have hat' : ∀ w ∈ vx_at0 own ic cls names, w.before args s' = true := fun w hw => vx_ot_at hW0 hvm.symm (hgood w (List.mem_cons_of_mem _ (List.mem_cons_of_mem _ hw))) (hat w hw)
  have hk' : (Cond.classLink own ik cls).before args s' = true := vx_ot_at hW0 hvm.symm (hgood _ List.mem_cons_self) hk
  have hini' : (Cond.initialized cls).before args s' = true := vx_ot_at hW0 hvm.symm (hgood _ (List.mem_cons_of_mem _ List.mem_cons_self)) hini
  have hU' : vx_Zq Bundle.tN "UNASSIGNED_STACK" Bundle.steD A s' s'.heap := by rw [hhp]; exact vx_Zq.moved hW0.alike (hU.kept hS.2.1)
  have hN' : vx_Zq Bundle.tN "SUPPRESSED_SENTINEL" Bundle.listD A s' s'.heap := by rw [hhp]; exact vx_Zq.moved hW0.alike (hN.kept hS.2.1)
  have h : ∀ w ∈ Bundle.ownAtoms0 own ic cls names, w.before args s' = true := vx_own hat' (vx_isRefq hU'.1) (vx_isRefq hN'.1) hU'.2.word hN'.2.word
  have hown' : s'.vm.findClass own = some m.cls := by rw [hvm]; exact hown
  have hins : (Cond.instantiable cls 6).before args s' = true := h _ (by simp [Bundle.ownAtoms0])
  obtain ⟨vm₁, cX, kX, hfX, hkX, -, -, X₁, st1⟩ := Y.newCold hexec (own := own) (C := cls) (index := ik) (n := 6) hown' hk' hins hini'
    (g := F0 m pc ls rest) rfl (by rw [hb]; exact d0) (Nat.le_refl _) (Nat.le_refl _)
  generalize hT1 : (T.setVm vm₁).pushCell { cls := cX, slots := kX.instanceTypes.map defaultValue, vm := .none } = T1 at X₁ st1
  have hcat : (Value.ref T.heap.size).category = 1 := rfl
  have hcellA : T1.heap[T.heap.size]? = some (freshCell cX kX) := by rw [← hT1]; exact State.heap_pushCell_size _ _
  have d3' : decode c.code (pc + 3) = .ok (.dup, 1) := by rw [hb]; exact d3
  obtain ⟨U, hsteps, hrun, hend, hW, hsame, ce, hce, hO⟩ := X₁.ctorThrow0 hexec htr (own := own) (cls := cls) (names := names) (ic := ic) hown' hcls hnames h (fun x hx => nomatch hx) hfX hkX hcellA (by rw [hhp, hT]; exact Nat.le_refl _)
    (g := { method := m, pc := pc + 4, locals := ls, stack := .ref T.heap.size :: .ref T.heap.size :: rest, locked := none }) rfl hsize rfl rfl (rest := rest) rfl
    (by rw [hb]; exact d4) (by rw [hb]; exact d7) hout hRframes (by simp only [List.map_cons, List.sum_cons, hcat]; omega) hlocks
  obtain ⟨f1, f2⟩ := vx_frame hsame
  rw [hhp] at f1 f2
  have hWs : s.WarmedH U.vm := State.WarmedH.trans hW0 hW
  have hcl : s.vm.findClass cls = some ce.cls := by
    have h9 := hO.cls
    rw [hvm] at h9
    exact h9
  have hall : s.sameButNew ({ U with vm := s.vm } : State) locs mc ms := by
    subst hA
    obtain ⟨e1, e2⟩ := hsame
    rw [State.setFrames_setFrames] at e1
    have h2 : (T.setVm s.vm).sameButNew ({ U with vm := s.vm } : State) [] (0 + 1) (0 + 6) := ⟨e1, e2⟩
    have h3 := X.same.trans h2
    rw [List.append_nil] at h3
    exact h3.mono hc hs
  refine ⟨U, ?_, .threw T.heap.size, hrun, hend, Or.inr ⟨T.heap.size, rfl, cls, ce, locs, hx U hWs.alike f1 (fun q hq => f2 q hq (fun z hz => nomatch hz)), hce, hO.vm, hcl, hWs, hall, hf⟩⟩
  refine st1 _ ?_
  show Steps p.tables e below (T1.setTop { method := m, pc := pc + 3, locals := ls, stack := .ref T.heap.size :: rest, locked := none }) _
  jvm_step X₁.here [X₁.here.top, hexec, d3', Value.category]
  exact hsteps
/-- 'throw new E("text")': new; dup; ldc; invokespecial; athrow -/
theorem vx_throwS {cc : ByteArray} {pc : Nat} (hexec : p.tables.exec = Jvm.exec) (hb : c.code = cc) (hl : l.stackTraces = false) {own cls text : String} {names : List String} {ik is ic mc ms sa : Nat} {A : Nat → Prop}
    (hown : s.vm.findClass own = some m.cls) (hcls : Bundle.fit cls = true) (hnames : ∀ n ∈ names, Bundle.fit n = true)
    (hk : (Cond.classLink own ik cls).before args s = true) (hini : (Cond.initialized cls).before args s = true) (hstr : vk_R own is text sa s) (hat : ∀ w ∈ vx_atS own ic cls names, w.before args s = true)
    (hgood : ∀ w ∈ Cond.classLink own ik cls :: Cond.initialized cls :: vx_atS own ic cls names, vx_ot w = true)
    (hU : vx_Zq Bundle.tN "UNASSIGNED_STACK" Bundle.steD A s s.heap) (hN : vx_Zq Bundle.tN "SUPPRESSED_SENTINEL" Bundle.listD A s s.heap) (hS : va_S A s.heap H locs) (hsize : ls.size = c.maxLocals)
    (d0 : decode cc pc = .ok (.new ik, 3)) (d3 : decode cc (pc + 3) = .ok (.dup, 1)) (d4 : decode cc (pc + 4) = .ok (.ldc is, 2)) (d6 : decode cc (pc + 6) = .ok (.invokespecial ic, 3)) (d9 : decode cc (pc + 9) = .ok (.athrow, 1))
    (hout : ∀ x ∈ c.exceptionTable.toList, covers x (pc + 9) = false)
    (hRframes : names.length + 3 < R.frames) (hRlocals : (rest.map fun v => v.category).sum + (13 * (names.length + 1) + 43) ≤ R.locals) (hRcells : cells + 1 ≤ R.cells) (hRslots : slots + 6 ≤ R.slots) (hlocks : meth.locks = false)
    (hx : ∀ t : State, s.vm.Alike t.vm → H.size ≤ t.heap.size → (∀ q : Nat, q < H.size → t.heap[q]? = H[q]?) → XC cls s t)
    (hf : ∀ z ∈ locs, free z.base) (hc : cells + 1 ≤ mc) (hs : slots + 6 ≤ ms) :
    W p l e R s m args below meth c H locs cells slots (vx_MQ below Qc XC args s mc ms free) (F0 m pc ls rest) := by
  intro T hT X
  have htr : e.platform.stackTraces = false := (show e.platform.stackTraces = l.stackTraces by rw [X.admits.platform]).trans hl
  have Y := vx_rebase X (R' := { frames := R.frames, locals := R.locals, cells := 1, slots := 6 }) (Nat.le_refl _) (Nat.le_refl _) hRcells hRslots
  obtain ⟨s', hA⟩ : ∃ z, z = (T.setVm s.vm).setFrames (.invoking m args :: below) := ⟨_, rfl⟩
  rw [← hA] at Y
  have hvm : s'.vm = s.vm := by rw [hA]; rfl
  have hhp : s'.heap = H := by rw [hA]; exact hT
  have hW0 : s.WarmedH s'.vm := by rw [hvm]; exact State.WarmedH.refl s
  have hat' : ∀ w ∈ vx_atS own ic cls names, w.before args s' = true := fun w hw => vx_ot_at hW0 hvm.symm (hgood w (List.mem_cons_of_mem _ (List.mem_cons_of_mem _ hw))) (hat w hw)
  have hk' : (Cond.classLink own ik cls).before args s' = true := vx_ot_at hW0 hvm.symm (hgood _ List.mem_cons_self) hk
  have hini' : (Cond.initialized cls).before args s' = true := vx_ot_at hW0 hvm.symm (hgood _ (List.mem_cons_of_mem _ List.mem_cons_self)) hini
  have hU' : vx_Zq Bundle.tN "UNASSIGNED_STACK" Bundle.steD A s' s'.heap := by rw [hhp]; exact vx_Zq.moved hW0.alike (hU.kept hS.2.1)
  have hN' : vx_Zq Bundle.tN "SUPPRESSED_SENTINEL" Bundle.listD A s' s'.heap := by rw [hhp]; exact vx_Zq.moved hW0.alike (hN.kept hS.2.1)
  have h : ∀ w ∈ Bundle.ownAtoms own ic cls names, w.before args s' = true := vx_own hat' (vx_isRefq hU'.1) (vx_isRefq hN'.1) hU'.2.word hN'.2.word
  have hown' : s'.vm.findClass own = some m.cls := by rw [hvm]; exact hown
  have hins : (Cond.instantiable cls 6).before args s' = true := h _ (by simp [Bundle.ownAtoms])
  obtain ⟨vm₁, cX, kX, hfX, hkX, -, -, X₁, st1⟩ := Y.newCold hexec (own := own) (C := cls) (index := ik) (n := 6) hown' hk' hins hini'
    (g := F0 m pc ls rest) rfl (by rw [hb]; exact d0) (Nat.le_refl _) (Nat.le_refl _)
  generalize hT1 : (T.setVm vm₁).pushCell { cls := cX, slots := kX.instanceTypes.map defaultValue, vm := .none } = T1 at X₁ st1
  have hcat : (Value.ref T.heap.size).category = 1 := rfl
  have hcellA : T1.heap[T.heap.size]? = some (freshCell cX kX) := by rw [← hT1]; exact State.heap_pushCell_size _ _
  have d3' : decode c.code (pc + 3) = .ok (.dup, 1) := by rw [hb]; exact d3
  have d4' : decode c.code (pc + 4) = .ok (.ldc is, 2) := by rw [hb]; exact d4
  have hstr' : vk_R own is text sa s' := vk_R.warm hW0 hstr
  obtain ⟨U, hsteps, hrun, hend, hW, hsame, ce, hce, hO⟩ := X₁.ctorThrowS hexec htr (own := own) (cls := cls) (names := names) (ic := ic) hown' hcls hnames h (fun x hx => nomatch hx) hfX hkX hcellA (by rw [hhp, hT]; exact Nat.le_refl _) (msg := .ref sa) rfl
    (g := { method := m, pc := pc + 6, locals := ls, stack := .ref sa :: .ref T.heap.size :: .ref T.heap.size :: rest, locked := none }) rfl hsize rfl rfl (rest := rest) rfl
    (by rw [hb]; exact d6) (by rw [hb]; exact d9) hout hRframes (by simp only [List.map_cons, List.sum_cons, hcat]; omega) hlocks
  obtain ⟨f1, f2⟩ := vx_frame hsame
  rw [hhp] at f1 f2
  have hWs : s.WarmedH U.vm := State.WarmedH.trans hW0 hW
  have hcl : s.vm.findClass cls = some ce.cls := by
    have h9 := hO.cls
    rw [hvm] at h9
    exact h9
  have hall : s.sameButNew ({ U with vm := s.vm } : State) locs mc ms := by
    subst hA
    obtain ⟨e1, e2⟩ := hsame
    rw [State.setFrames_setFrames] at e1
    have h2 : (T.setVm s.vm).sameButNew ({ U with vm := s.vm } : State) [] (0 + 1) (0 + 6) := ⟨e1, e2⟩
    have h3 := X.same.trans h2
    rw [List.append_nil] at h3
    exact h3.mono hc hs
  refine ⟨U, ?_, .threw T.heap.size, hrun, hend, Or.inr ⟨T.heap.size, rfl, cls, ce, locs, hx U hWs.alike f1 (fun q hq => f2 q hq (fun z hz => nomatch hz)), hce, hO.vm, hcl, hWs, hall, hf⟩⟩
  refine st1 _ ?_
  show Steps p.tables e below (T1.setTop { method := m, pc := pc + 3, locals := ls, stack := .ref T.heap.size :: rest, locked := none }) _
  jvm_step X₁.here [X₁.here.top, hexec, d3', Value.category]
  exact X₁.ldcString hexec (own := own) (text := text) (index := is) (a := sa) hown' hstr'.1 hstr'.2
    (g := { method := m, pc := pc + 4, locals := ls, stack := .ref T.heap.size :: .ref T.heap.size :: rest, locked := none }) rfl d4' _ hsteps
/-- 'throw new E("text")', the text by a wide index -/
theorem vx_throwSW {cc : ByteArray} {pc : Nat} (hexec : p.tables.exec = Jvm.exec) (hb : c.code = cc) (hl : l.stackTraces = false) {own cls text : String} {names : List String} {ik is ic mc ms sa : Nat} {A : Nat → Prop}
    (hown : s.vm.findClass own = some m.cls) (hcls : Bundle.fit cls = true) (hnames : ∀ n ∈ names, Bundle.fit n = true)
    (hk : (Cond.classLink own ik cls).before args s = true) (hini : (Cond.initialized cls).before args s = true) (hstr : vk_R own is text sa s) (hat : ∀ w ∈ vx_atS own ic cls names, w.before args s = true)
    (hgood : ∀ w ∈ Cond.classLink own ik cls :: Cond.initialized cls :: vx_atS own ic cls names, vx_ot w = true)
    (hU : vx_Zq Bundle.tN "UNASSIGNED_STACK" Bundle.steD A s s.heap) (hN : vx_Zq Bundle.tN "SUPPRESSED_SENTINEL" Bundle.listD A s s.heap) (hS : va_S A s.heap H locs) (hsize : ls.size = c.maxLocals)
    (d0 : decode cc pc = .ok (.new ik, 3)) (d3 : decode cc (pc + 3) = .ok (.dup, 1)) (d4 : decode cc (pc + 4) = .ok (.ldc_w is, 3)) (d7 : decode cc (pc + 7) = .ok (.invokespecial ic, 3)) (d10 : decode cc (pc + 10) = .ok (.athrow, 1))
    (hout : ∀ x ∈ c.exceptionTable.toList, covers x (pc + 10) = false)
    (hRframes : names.length + 3 < R.frames) (hRlocals : (rest.map fun v => v.category).sum + (13 * (names.length + 1) + 43) ≤ R.locals) (hRcells : cells + 1 ≤ R.cells) (hRslots : slots + 6 ≤ R.slots) (hlocks : meth.locks = false)
    (hx : ∀ t : State, s.vm.Alike t.vm → H.size ≤ t.heap.size → (∀ q : Nat, q < H.size → t.heap[q]? = H[q]?) → XC cls s t)
    (hf : ∀ z ∈ locs, free z.base) (hc : cells + 1 ≤ mc) (hs : slots + 6 ≤ ms) :
    W p l e R s m args below meth c H locs cells slots (vx_MQ below Qc XC args s mc ms free) (F0 m pc ls rest) := by
  intro T hT X
  have htr : e.platform.stackTraces = false := (show e.platform.stackTraces = l.stackTraces by rw [X.admits.platform]).trans hl
  have Y := vx_rebase X (R' := { frames := R.frames, locals := R.locals, cells := 1, slots := 6 }) (Nat.le_refl _) (Nat.le_refl _) hRcells hRslots
  obtain ⟨s', hA⟩ : ∃ z, z = (T.setVm s.vm).setFrames (.invoking m args :: below) := ⟨_, rfl⟩
  rw [← hA] at Y
  have hvm : s'.vm = s.vm := by rw [hA]; rfl
  have hhp : s'.heap = H := by rw [hA]; exact hT
  have hW0 : s.WarmedH s'.vm := by rw [hvm]; exact State.WarmedH.refl s
  have hat' : ∀ w ∈ vx_atS own ic cls names, w.before args s' = true := fun w hw => vx_ot_at hW0 hvm.symm (hgood w (List.mem_cons_of_mem _ (List.mem_cons_of_mem _ hw))) (hat w hw)
  have hk' : (Cond.classLink own ik cls).before args s' = true := vx_ot_at hW0 hvm.symm (hgood _ List.mem_cons_self) hk
  have hini' : (Cond.initialized cls).before args s' = true := vx_ot_at hW0 hvm.symm (hgood _ (List.mem_cons_of_mem _ List.mem_cons_self)) hini
  have hU' : vx_Zq Bundle.tN "UNASSIGNED_STACK" Bundle.steD A s' s'.heap := by rw [hhp]; exact vx_Zq.moved hW0.alike (hU.kept hS.2.1)
  have hN' : vx_Zq Bundle.tN "SUPPRESSED_SENTINEL" Bundle.listD A s' s'.heap := by rw [hhp]; exact vx_Zq.moved hW0.alike (hN.kept hS.2.1)
  have h : ∀ w ∈ Bundle.ownAtoms own ic cls names, w.before args s' = true := vx_own hat' (vx_isRefq hU'.1) (vx_isRefq hN'.1) hU'.2.word hN'.2.word
  have hown' : s'.vm.findClass own = some m.cls := by rw [hvm]; exact hown
  have hins : (Cond.instantiable cls 6).before args s' = true := h _ (by simp [Bundle.ownAtoms])
  obtain ⟨vm₁, cX, kX, hfX, hkX, -, -, X₁, st1⟩ := Y.newCold hexec (own := own) (C := cls) (index := ik) (n := 6) hown' hk' hins hini'
    (g := F0 m pc ls rest) rfl (by rw [hb]; exact d0) (Nat.le_refl _) (Nat.le_refl _)
  generalize hT1 : (T.setVm vm₁).pushCell { cls := cX, slots := kX.instanceTypes.map defaultValue, vm := .none } = T1 at X₁ st1
  have hcat : (Value.ref T.heap.size).category = 1 := rfl
  have hcellA : T1.heap[T.heap.size]? = some (freshCell cX kX) := by rw [← hT1]; exact State.heap_pushCell_size _ _
  have d3' : decode c.code (pc + 3) = .ok (.dup, 1) := by rw [hb]; exact d3
  have d4' : decode c.code (pc + 4) = .ok (.ldc_w is, 3) := by rw [hb]; exact d4
  have hstr' : vk_R own is text sa s' := vk_R.warm hW0 hstr
  obtain ⟨U, hsteps, hrun, hend, hW, hsame, ce, hce, hO⟩ := X₁.ctorThrowS hexec htr (own := own) (cls := cls) (names := names) (ic := ic) hown' hcls hnames h (fun x hx => nomatch hx) hfX hkX hcellA (by rw [hhp, hT]; exact Nat.le_refl _) (msg := .ref sa) rfl
    (g := { method := m, pc := pc + 7, locals := ls, stack := .ref sa :: .ref T.heap.size :: .ref T.heap.size :: rest, locked := none }) rfl hsize rfl rfl (rest := rest) rfl
    (by rw [hb]; exact d7) (by rw [hb]; exact d10) hout hRframes (by simp only [List.map_cons, List.sum_cons, hcat]; omega) hlocks
  obtain ⟨f1, f2⟩ := vx_frame hsame
  rw [hhp] at f1 f2
  have hWs : s.WarmedH U.vm := State.WarmedH.trans hW0 hW
  have hcl : s.vm.findClass cls = some ce.cls := by
    have h9 := hO.cls
    rw [hvm] at h9
    exact h9
  have hall : s.sameButNew ({ U with vm := s.vm } : State) locs mc ms := by
    subst hA
    obtain ⟨e1, e2⟩ := hsame
    rw [State.setFrames_setFrames] at e1
    have h2 : (T.setVm s.vm).sameButNew ({ U with vm := s.vm } : State) [] (0 + 1) (0 + 6) := ⟨e1, e2⟩
    have h3 := X.same.trans h2
    rw [List.append_nil] at h3
    exact h3.mono hc hs
  refine ⟨U, ?_, .threw T.heap.size, hrun, hend, Or.inr ⟨T.heap.size, rfl, cls, ce, locs, hx U hWs.alike f1 (fun q hq => f2 q hq (fun z hz => nomatch hz)), hce, hO.vm, hcl, hWs, hall, hf⟩⟩
  refine st1 _ ?_
  show Steps p.tables e below (T1.setTop { method := m, pc := pc + 3, locals := ls, stack := .ref T.heap.size :: rest, locked := none }) _
  jvm_step X₁.here [X₁.here.top, hexec, d3', Value.category]
  exact X₁.ldcStringW hexec (own := own) (text := text) (index := is) (a := sa) hown' hstr'.1 hstr'.2
    (g := { method := m, pc := pc + 4, locals := ls, stack := .ref T.heap.size :: .ref T.heap.size :: rest, locked := none }) rfl d4' _ hsteps
end Ends
section Bodies
variable {l : Launch}
theorem vx_ofW {y : MethodName} {ws ws' : List Cond} {rm : Room} {Pc : Array Value → State → Prop} {Qc : Array Value → State → Outcome → State → Prop} {XC : String → State → State → Prop} {mc ms : Nat} {free : Addr → Prop} {cc : ByteArray} {maxL : Nat} {ret : Option FieldType}
    (hy : plainName y.cls = true) (hw : ws = Cond.code y cc maxL ret :: ws')
    (body : ∀ p e s m args below meth c s₁, BodyLoose p l y (headSpec ws rm) cc maxL ret e s m args below meth c s₁ → c.maxLocals = maxL → (∀ x ∈ c.exceptionTable.toList, False) → Pc args s →
      W p l e (headSpec ws rm).room s m args below meth c s.heap [] 0 0 (vx_MQ below Qc XC args s mc ms free) (entryFrame m args maxL)) : vx_Met l y ws rm Pc Qc XC mc ms free := by
  refine MetFree.of_bodyS (code := cc) (maxLocals := maxL) (ret := ret) hy ?_ ?_
  · intro args s m h hn
    obtain ⟨meth, c, h1, h2, h3, h4, h5, h6, -, -⟩ := Cond.code_spec hn (atoms_spec (ws := ws) h _ (by rw [hw]; exact List.mem_cons_self))
    exact ⟨meth, c, h1, h2, h3, h4, h5, h6⟩
  · intro p e s m args below meth c s₁ B hml hP _
    have hh0 : s₁.heap = s.heap := by rw [B.state]; rfl
    have ht : ∀ x ∈ c.exceptionTable.toList, False := by
      obtain ⟨meth9, c9, h1, h2, -, -, -, -, h7, -⟩ := Cond.code_spec B.named (atoms_spec (ws := ws) B.pre _ (by rw [hw]; exact List.mem_cons_self))
      cases Option.some.inj (h1.symm.trans B.method)
      cases Option.some.inj (h2.symm.trans (Stand.of_body B).code)
      intro x hx
      rw [Array.isEmpty_iff.mp h7] at hx
      cases hx
    obtain ⟨t, a1, o, b1, b2, b3⟩ := body p e s m args below meth c s₁ B hml ht hP s₁ hh0 (Stand.of_body B)
    exact ⟨t, o, a1, b1, b2, b3⟩
/-- the table of a body with handlers -/
theorem vx_table {p : Program} {x y : MethodName} {S : Spec} {cc bytes : ByteArray} {maxL maxL' : Nat} {ret ret' : Option FieldType} {e : Env} {s s₁ : State} {m : MethodId} {args : Array Value} {below : List Frame} {meth : Method} {c : Code} {hh : List (Nat × Nat × Nat × Nat)}
    (B : BodyLoose p l y S cc maxL ret e s m args below meth c s₁) (h : (Cond.codeWith y bytes maxL' ret' hh).before args s = true) : c.exceptionTable.toList = tableOf hh := by
  obtain ⟨m9, meth9, c9, hn9, h1, h2, -, -, h6, -⟩ := Cond.codeWith_spec h
  cases Option.some.inj (hn9.symm.trans B.named)
  cases Option.some.inj (h1.symm.trans B.method)
  cases Option.some.inj (h2.symm.trans (Stand.of_body B).code)
  rw [← h6, table_eq]
end Bodies
end VXA
/-! ===== END ===== -/
/-! ===== BEGIN a static call of a method with an exception table ===== -/
section VXS
variable {p : Program} {l : Launch} {e : Env} {R : Room} {s : State} {m : MethodId} {args : Array Value} {below : List Frame} {meth : Method} {c : Code} {T : State} {H : Heap} {locs : List Loc} {cells slots : Nat}
abbrev vx_CSW (R : Room) (s : State) (args : Array Value) (own : String) (index : Nat) (y : MethodName) (bytes : ByteArray) (maxL : Nat) (ret : Option FieldType) (hh : List (Nat × Nat × Nat × Nat)) (ws : List Cond) (rm : Room) (mc ms n : Nat) : Prop :=
  (rm.cells = mc ∧ rm.slots = ms ∧ rm.frames + 1 ≤ R.frames ∧ 8 + (maxL + 11) + rm.locals ≤ R.locals ∧ (∀ w ∈ ws, ∀ (a' : Array Value) (U : State), s.WarmedH U.vm → w.before a' U = true) ∧ Cond.codeWith y bytes maxL ret hh ∈ ws) ∧
  (Cond.codeWith y bytes maxL ret hh).before args s = true ∧ (Cond.initialized y.cls).before args s = true ∧ (y.cls ≠ "java/lang/invoke/MethodHandle" ∧ y.cls ≠ "java/lang/invoke/VarHandle") ∧
  (∀ sig, parseMethodDescriptor y.desc = some sig → n = sig.parameters.length) ∧ (Cond.methodLink own index y).before args s = true ∧ (Cond.static y).before args s = true
theorem vx_cwSW {own : String} {index maxL mc ms : Nat} {y : MethodName} {bytes : ByteArray} {ret : Option FieldType} {hh : List (Nat × Nat × Nat × Nat)} {Ts ws ws' : List Cond} {rm : Room} (n : Nat) (ht : ∀ w ∈ Ts, w.before args s = true) (hT : GoodIn Ts (va_wsS own index y ws)) (hw : ws = Cond.codeWith y bytes maxL ret hh :: ws') (hrc : rm.cells = mc) (hrs : rm.slots = ms)
    (hd : y.cls ≠ "java/lang/invoke/MethodHandle" ∧ y.cls ≠ "java/lang/invoke/VarHandle" ∧ (parseMethodDescriptor y.desc).map (fun d => d.parameters.length) = some n) (hR : rm.frames + 1 ≤ R.frames ∧ 8 + (maxL + 11) + rm.locals ≤ R.locals) :
    vx_CSW R s args own index y bytes maxL ret hh ws rm mc ms n := by
  have ok : ∀ w ∈ va_wsS own index y ws, w.before args s = true := fun w h => ht w (hT w h).1
  have hG : GoodIn Ts ws := fun w h => hT w (by unfold va_wsS; exact List.mem_append_right _ h)
  have hc : Cond.codeWith y bytes maxL ret hh ∈ ws := by rw [hw]; exact List.mem_cons_self
  refine ⟨⟨hrc, hrs, hR.1, hR.2, pay_in ht hG, hc⟩, ht _ (hG _ hc).1, ok _ (by simp [va_wsS]), ⟨hd.1, hd.2.1⟩, fun sig h => ?_, ok _ (by simp [va_wsS]), ok _ (by simp [va_wsS])⟩
  have h2 := hd.2.2
  rw [h] at h2
  exact (Option.some.inj h2).symm
theorem vx_callSW (X : Stand p l e R s m args below meth c T locs cells slots) (hexec : p.tables.exec = Jvm.exec) {own : String} {index : Nat} {y : MethodName} {bytes : ByteArray} {maxL : Nat} {ret : Option FieldType} {hh : List (Nat × Nat × Nat × Nat)}
    (hown : s.vm.findClass own = some m.cls) (hlink : (Cond.methodLink own index y).before args s = true) (hstat : (Cond.static y).before args s = true) (hinit : (Cond.initialized y.cls).before args s = true)
    (hcode : (Cond.codeWith y bytes maxL ret hh).before args s = true) (hy : y.cls ≠ "java/lang/invoke/MethodHandle" ∧ y.cls ≠ "java/lang/invoke/VarHandle")
    {W9 : Nat} {Pre : Pt → Array Value → Prop} {Post : Pt → Array Value → Option Value → Pt → Prop} (hK : Back l R p e below s args y 3 W9 Pre Post)
    {g : JFrame} (hg : g.method = m) (hsize : g.locals.size = c.maxLocals) {argsL rest : List Value} (hlen : ∀ sig, parseMethodDescriptor y.desc = some sig → argsL.length = sig.parameters.length)
    (hstack : g.stack = argsL.reverse ++ rest) (hW : 2 * g.monitorRoom + (rest.map fun v => v.category).sum ≤ W9) (hdg : decode c.code g.pc = .ok (.invokestatic index, 3))
    (hpre : ∀ vm₁, s.WarmedH vm₁ → Pre ⟨T.setVm vm₁, locs, cells, slots⟩ argsL.toArray) :
    ∃ (v : Option Value) (vm₁ : Vm) (B : Pt), s.WarmedH vm₁ ∧ Stand p l e R s m args below meth c B.U B.locs B.cells B.slots ∧ Post ⟨T.setVm vm₁, locs, cells, slots⟩ argsL.toArray v B ∧
      ∀ target, Steps p.tables e below (B.U.setTop { g with pc := g.pc + 3, stack := v.toList ++ rest }) target → Steps p.tables e below (T.setTop g) target := by
  obtain ⟨mk, methM, cM, hnamed, hmethM, -, -, -, -, -, -, hsigM⟩ := Cond.codeWith_spec hcode
  have hstatic : methM.isStatic = true := Cond.static_spec hnamed hmethM hstat
  obtain ⟨kP, hkP, -⟩ := className_of_methodNamed hnamed
  have hinitP : kP.init = .initialized := Cond.initialized_spec (findClass_of_methodNamed hnamed) hkP hinit
  obtain ⟨vm₁, X₁, hstep₁⟩ := X.invokestatic hexec hown hlink hnamed hmethM hstatic hkP hinitP hy (g := g) hg (argsL := argsL) (rest := rest) (hlen _ hsigM) hstack hdg
  obtain ⟨v, B, X', hpost, hsteps⟩ := hK m meth c ⟨T.setVm vm₁, locs, cells, slots⟩ { g with stack := rest } (.invokestatic index) mk argsL.toArray X₁ hg hsize hdg hW (X₁.named hnamed) (hpre vm₁ X₁.warmed)
  exact ⟨v, vm₁, B, X₁.warmed, X', hpost, fun target h => hstep₁ _ fun acts => by rw [doInvoke_state]; exact hsteps.trans h⟩
theorem vx_runSW {y : MethodName} {bytes cc : ByteArray} {maxL nL mc ms n index : Nat} {ret : Option FieldType} {hh : List (Nat × Nat × Nat × Nat)} {ws : List Cond} {rm : Room} {Pc : Array Value → State → Prop} {Qc : Array Value → State → Outcome → State → Prop} {free : Addr → Prop} {Ts : List Cond} {own : String} {As rest : List Value} {g : JFrame}
    (S : CallFix p m c cc nL s args Ts own) (hM : Met l y ws rm Pc Qc mc ms free) (cw : vx_CSW R s args own index y bytes maxL ret hh ws rm mc ms n) (hp : PreS s H Pc As)
    (hg : g.method = m) (hn : As.length = n) (hsize : g.locals.size = nL) (hstack : g.stack = As.reverse ++ rest) (hW : 2 * g.monitorRoom + (rest.map fun v => v.category).sum ≤ 8) (hdg : decode cc g.pc = .ok (.invokestatic index, 3)) (hf : cells + mc ≤ R.cells ∧ slots + ms ≤ R.slots) :
    va_Run p l e R s m args below meth c H locs cells slots mc ms g rest (Qc As.toArray) (free) := by
  obtain ⟨⟨hrc, hrs, hfr, hlo, hws, hcw⟩, hcode, hini, hy, hlen, hl, hstt⟩ := cw
  have hK : Back l R p e below s args y 3 8 (PreOf R mc ms Pc) (PostOf Qc mc ms free) := va_backW (hh := hh) (bytes := bytes) (maxL := maxL) (ret := ret) hM hp.1 hrc hrs hfr hlo hws hcw (fun a' U hW => word_at hW (Or.inl (by first | rfl | simp [Cond.onTables, Cond.keeps, Cond.steady])) hini)
  obtain ⟨hx, hb, hml, ho, -⟩ := S
  intro T hT X
  obtain ⟨v, vm₁, ⟨U', l2, c2, s2⟩, hW₁, X', ⟨g', mk, t, L, e1, e2, hq, h1, hL, h2, h3⟩, st⟩ := vx_callSW X hx (hh := hh) (bytes := bytes) (maxL := maxL) (ret := ret) ho hl hstt hini hcode hy hK hg (hsize.trans hml.symm) (argsL := As) (rest := rest) (fun sig h => hn.trans (hlen sig h)) hstack hW (by rw [hb]; exact hdg)
    (fun vm₁ hW₁ => ⟨hf.1, hf.2, hp.2 (T.setVm vm₁) hT hW₁⟩)
  dsimp only [Pt.U, Pt.locs, Pt.cells, Pt.slots] at X' e1 e2 h1 h2 h3 st
  subst h1; subst h2; subst h3
  exact ⟨v, (T.setVm vm₁).calling g' mk As.toArray, t, U', L, hT, X', hL, e1, e2, hq, st⟩
/-- not caught here, past rows that name other classes: it goes on to the caller -/
theorem vx_outP {p : Program} {l : Launch} {e : Env} {R : Room} {s : State} {m : MethodId} {args : Array Value} {below : List Frame} {meth : Method} {c : Code} {H : Heap} {locs : List Loc} {cells slots : Nat} {free : Addr → Prop} {ls : Array Slot} {rest : List Value} {Qc : Array Value → State → Outcome → State → Prop} {XC : String → State → State → Prop}
    {pc : Nat} {own E : String} {ce : Cell} {q : Addr} {mc ms : Nat} (hown : s.vm.findClass own = some m.cls) (hlocks : meth.locks = false)
    (hpass : ∀ z ∈ c.exceptionTable.toList, covers z pc = false ∨ (z.catchType ≠ 0 ∧ ∃ nm : String, (Cond.classLink own z.catchType nm).before args s = true ∧ va_Nc E nm s)) (hcell : H[q]? = some ce) (hv : ce.vm = .none) (hcl : s.vm.findClass E = some ce.cls)
    (hx : ∀ t : State, t.heap = H → s.vm.Alike t.vm → XC E s t) (hf : ∀ z ∈ locs, free z.base) (hc : cells ≤ mc) (hs : slots ≤ ms) :
    vx_W p l e R s m args below meth c H locs cells slots (vx_MQ below Qc XC args s mc ms free) (F0 m pc ls rest) q := by
  intro T hT X
  have hpl : e.platform.magicAccessors = ({} : Platform).magicAccessors := by rw [X.admits.platform]
  obtain ⟨vm', hW', X', st⟩ := X.outThrough hlocks q (g := F0 m pc ls rest) rfl rfl rfl (cell := ce) (by rw [hT]; exact hcell) (by rw [hv]; rfl)
    (by obtain ⟨k9, h9, -⟩ := Vm.findClass_spec hcl; exact ⟨k9, h9⟩) (fun z hz => by
      rcases hpass z hz with h | ⟨hz0, nm, hl1, hn1⟩
      · exact Or.inl h
      · obtain ⟨c6, hc6, hcl6⟩ := Cond.classLink_spec hown hl1 e.platform hpl
        obtain ⟨a8, b8, h1, h2, h3⟩ := hn1
        cases Option.some.inj (h1.symm.trans hcl)
        cases Option.some.inj (h2.symm.trans hc6)
        exact Or.inr ⟨hz0, _, hcl6, h3⟩)
  obtain ⟨g₀, hfr⟩ := X'.frames_eq
  have hcell9 : ((T.setVm vm').setFrames (.throwing q :: below)).heap[q]? = some ce := by
    show T.heap[q]? = some ce
    rw [hT]; exact hcell
  have hend : Ended ((T.setVm vm').setFrames (.throwing q :: below)) below (.threw q) := State.frames_setFrames _ (State.cur_lt_of_frames hfr)
  refine ⟨(T.setVm vm').setFrames (.throwing q :: below), ?_, .threw q, X'.here.running, hend, Or.inr ⟨q, rfl, E, ce, locs, hx _ hT (X'.ends _).1.alike, hcell9, hv, hcl, (X'.ends _).1, (X'.ends _).2.mono hc hs, hf⟩⟩
  rw [X.pushThrowing_eq]
  exact st
/-- a thing of a world lies in the heap -/
theorem vx_lt {D : va_G} {cl : List vw_C} {ws : va_W} {H1 : Heap} (h : va_P D cl ws H1) {k : Nat} {q : Nat × va_E} (hk : ws[k]? = some q) : q.1 < H1.size := (h k q hk).lt
end VXS
/-! ===== END ===== -/
/-! ===== BEGIN methods with a table of their own: called by a name, returning or throwing ===== -/
section VXH
/-! vx_backW, vx_callVX, vx_callSX, vx_callVW, vx_runVW, vx_runVX, vx_runSX, vx_ofWH follow the same proofs as their sisters above (Free/Laws.lean, Shelf42/LK1.lean); vx_outP calls Shelf42/NT130.lean (outThrough). -/
section
variable {l : Launch} {R : Room} {p : Program} {e : Env} {below : List Frame} {s : State} {sargs : Array Value} {y : MethodName} {len W9 : Nat}
theorem vx_backW {ws : List Cond} {rm : Room} {Pc : Array Value → State → Prop} {Qc : Array Value → State → Outcome → State → Prop} {XC : String → State → State → Prop} {mc ms : Nat} {free : Addr → Prop} {bytes : ByteArray} {maxL : Nat} {ret : Option FieldType} {hh : List (Nat × Nat × Nat × Nat)}
    (hM : vx_Met l y ws rm Pc Qc XC mc ms free) (hblind : FrameBlind Pc) (hrc : rm.cells = mc) (hrs : rm.slots = ms)
    (hframes : rm.frames + 1 ≤ R.frames) (hlocals : W9 + (maxL + 11) + rm.locals ≤ R.locals)
    (hws : ∀ w ∈ ws, ∀ a' U, s.WarmedH U.vm → w.before a' U = true) (hcode : Cond.codeWith y bytes maxL ret hh ∈ ws) (hinit : ∀ a' U, s.WarmedH U.vm → (Cond.initialized y.cls).before a' U = true) :
    vx_Back l R p e below s sargs y len W9 (PreOf R mc ms Pc) (PostOf Qc mc ms free) (vx_Post XC mc ms free) := by
  intro m meth c A g ig mk a X hg hsize hdg hW hn hp
  have h1 : (headSpec ws rm).pre.before a A.U = true := atoms_intro fun w hw => hws w hw _ _ X.warmed
  have h2 : (Cond.codeWith y bytes maxL ret hh).before a A.U = true := hws _ hcode _ _ X.warmed
  have h3 : (Cond.initialized y.cls).before a A.U = true := hinit _ _ X.warmed
  have h4 : A.cells + (headSpec ws rm).room.cells ≤ R.cells := by rw [show (headSpec ws rm).room.cells = mc from hrc]; exact hp.1
  have h5 : A.slots + (headSpec ws rm).room.slots ≤ R.slots := by rw [show (headSpec ws rm).room.slots = ms from hrs]; exact hp.2.1
  have hPc : Pc a (A.U.calling g mk a) := hblind _ _ _ _ hp.2.2
  obtain ⟨U, Ls, c0, s0⟩ := A
  dsimp only [Pt.U, Pt.locs, Pt.cells, Pt.slots] at h1 h2 h3 h4 h5 X hn hPc ⊢
  obtain ⟨m9, methY, cY, hn9, hmY, hcY, -, hlY, -⟩ := Cond.codeWith_spec h2
  cases Option.some.inj (hn9.symm.trans hn)
  obtain ⟨kY, hkY, -⟩ := className_of_methodNamed hn
  have hinitY : kY.init = .initialized := Cond.initialized_spec (findClass_of_methodNamed hn) hkY h3
  have h : At U g.method c below := by rw [hg]; exact X.here
  have hlocals9 : W9 + (maxL + 11) + (headSpec ws rm).room.locals ≤ R.locals := hlocals
  have happ : (headSpec ws rm).appliesLoose y e.platform (U.calling g mk a) = true :=
    Spec.appliesLoose_calling (g := g) h hdg hn hkY hinitY
      (X.room_calling (g := g) (R' := (headSpec ws rm).room) hsize hmY hcY hframes (by rw [hlY]; omega) h4 h5) h1
  obtain ⟨mid, hmid⟩ := h.above
  have hfr : (U.setTop g).frames = (.java g :: mid) ++ below := by rw [State.frames_setTop' g h.top, hmid]; rfl
  obtain ⟨o, s₂, hsteps, -, hend, hq⟩ := Steps.callFree hM p X.admits X.cas X.clock (acts := []) hfr happ hPc trivial
  have hq' : vx_Q Qc XC mc ms free a (U.calling g mk a) o s₂ := hq
  rw [State.frames_setTop' g h.top] at hend
  obtain ⟨g₀, hg0⟩ := Option.isSome_iff_exists.mp h.top
  obtain ⟨r, hr⟩ := State.topJava?_eq_some.mp hg0
  have hr' : (({ U with heap := s₂.heap, slotsUsed := s₂.slotsUsed } : State).setVm s₂.vm).frames = .java g₀ :: r := hr
  rcases hq' with ⟨hqc, L, hfe, hL⟩ | ⟨q, rfl, E, ce, L, hx, hce, hcv, hcl, hW₂, hsm, hL⟩
  · obtain ⟨⟨v, rfl⟩, hW₂, e2, q2, q3, q4, q5, q6⟩ := id hfe
    have e3 : s₂ = ({ (U.calling g mk a).setFrames s₂.frames with heap := s₂.heap, slotsUsed := s₂.slotsUsed } : State).setVm s₂.vm := by
      have : s₂ = ({ s₂ with vm := (U.calling g mk a).vm } : State).setVm s₂.vm := rfl
      rw [e2] at this
      exact this
    obtain ⟨c₂, i₂, len₂, hc₂, hd₂, hf₂⟩ := hend
    have hW' : U.WarmedH s₂.vm := hW₂
    have hcc : c₂ = c := by
      have h1 : s₂.code? g.method = U.code? g.method := by
        rw [State.code?_eq, State.code?_eq, hW'.alike.method?]
      exact Option.some.inj (hc₂.symm.trans (h1.trans h.code))
    subst hcc
    have hlen : len₂ = len := by rw [hdg] at hd₂; cases hd₂; rfl
    subst hlen
    have hs₂ : s₂ = (({ U with heap := s₂.heap, slotsUsed := s₂.slotsUsed } : State).setVm s₂.vm).setTop { g with pc := g.pc + len₂, stack := v.toList ++ g.stack } := by
      refine e3.trans ?_
      rw [hf₂, State.calling_eq h.top, State.setFrames_setFrames, State.setTop_of_frames _ hr', hr]
      rfl
    have hsame : U.sameButNew ({ U with heap := s₂.heap, slotsUsed := s₂.slotsUsed } : State) L mc ms := by
      refine ⟨?_, q2, q3, q4, q5, q6⟩
      obtain ⟨t, ht, -⟩ := State.frames_cons hr
      show ({ U with heap := s₂.heap, slotsUsed := s₂.slotsUsed } : State) = { U.setFrames U.frames with heap := s₂.heap, slotsUsed := s₂.slotsUsed }
      rw [State.setFrames_self ht]
    subst hg
    refine Or.inl ⟨v, ⟨(({ U with heap := s₂.heap, slotsUsed := s₂.slotsUsed } : State).setVm s₂.vm), Ls ++ L, c0 + mc, s0 + ms⟩,
      ⟨X.admits, X.cas, X.clock, X.frames, X.room, X.hears, X.method, X.code, (X.here.setHeapUsed s₂.heap s₂.slotsUsed).setVm hW'.alike, X.tail, State.WarmedH.trans X.warmed hW', X.limits, X.bytes, X.same.trans (hsame.setVm s.vm)⟩,
      ⟨g, mk, s₂, L, rfl, rfl, hqc, rfl, hL, rfl, rfl⟩, ?_⟩
    show Steps p.tables e below _ ((({ U with heap := s₂.heap, slotsUsed := s₂.slotsUsed } : State).setVm s₂.vm).setTop { g with pc := g.pc + len₂, stack := v.toList ++ g.stack })
    rw [← hs₂]
    exact hsteps
  · obtain ⟨e2, q2, q3, q4, q5, q6⟩ := id hsm
    have e3 : s₂ = ({ (U.calling g mk a).setFrames s₂.frames with heap := s₂.heap, slotsUsed := s₂.slotsUsed } : State).setVm s₂.vm := by
      have : s₂ = ({ s₂ with vm := (U.calling g mk a).vm } : State).setVm s₂.vm := rfl
      rw [e2] at this
      exact this
    have hf₂ : s₂.frames = .throwing q :: .java g :: U.frames.tail := hend
    have hW' : U.WarmedH s₂.vm := hW₂
    have hs₂ : s₂ = ((({ U with heap := s₂.heap, slotsUsed := s₂.slotsUsed } : State).setVm s₂.vm).setTop g).pushFrame (.throwing q) := by
      refine e3.trans ?_
      rw [hf₂, State.calling_eq h.top, State.setFrames_setFrames, State.pushFrame, State.frames_setTop _ hr', State.setTop_of_frames _ hr', State.setFrames_setFrames, hr]
      rfl
    have hsame : U.sameButNew ({ U with heap := s₂.heap, slotsUsed := s₂.slotsUsed } : State) L mc ms := by
      refine ⟨?_, q2, q3, q4, q5, q6⟩
      obtain ⟨t, ht, -⟩ := State.frames_cons hr
      show ({ U with heap := s₂.heap, slotsUsed := s₂.slotsUsed } : State) = { U.setFrames U.frames with heap := s₂.heap, slotsUsed := s₂.slotsUsed }
      rw [State.setFrames_self ht]
    subst hg
    refine Or.inr ⟨q, ⟨(({ U with heap := s₂.heap, slotsUsed := s₂.slotsUsed } : State).setVm s₂.vm), Ls ++ L, c0 + mc, s0 + ms⟩,
      ⟨X.admits, X.cas, X.clock, X.frames, X.room, X.hears, X.method, X.code, (X.here.setHeapUsed s₂.heap s₂.slotsUsed).setVm hW'.alike, X.tail, State.WarmedH.trans X.warmed hW', X.limits, X.bytes, X.same.trans (hsame.setVm s.vm)⟩,
      ⟨g, mk, s₂, L, E, ce, rfl, rfl, hx, hce, hcv, hcl, rfl, hL, rfl, rfl⟩, ?_⟩
    show Steps p.tables e below _ (((({ U with heap := s₂.heap, slotsUsed := s₂.slotsUsed } : State).setVm s₂.vm).setTop g).pushFrame (.throwing q))
    rw [← hs₂]
    exact hsteps
end
variable {p : Program} {l : Launch} {e : Env} {R : Room} {s : State} {m : MethodId} {args : Array Value} {below : List Frame} {meth : Method} {c : Code} {T : State} {H : Heap} {locs : List Loc} {cells slots : Nat}
theorem vx_callVX (X : Stand p l e R s m args below meth c T locs cells slots) (hexec : p.tables.exec = Jvm.exec) {own C : String} {index : Nat} {y : MethodName} {bytes : ByteArray} {maxL : Nat} {ret : Option FieldType} {hh : List (Nat × Nat × Nat × Nat)}
    (hown : s.vm.findClass own = some m.cls) (hlink : (Cond.methodLink own index y).before args s = true) (hinst : (Cond.instanceMethod y).before args s = true) (hsel : (Cond.selects C y y).before args s = true)
    (hcode : (Cond.codeWith y bytes maxL ret hh).before args s = true) (hy : y.cls ≠ "java/lang/invoke/MethodHandle" ∧ y.cls ≠ "java/lang/invoke/VarHandle")
    {W9 : Nat} {Pre : Pt → Array Value → Prop} {Post : Pt → Array Value → Option Value → Pt → Prop} {PostX : Pt → Array Value → Addr → Pt → Prop} (hK : vx_Back l R p e below s args y 3 W9 Pre Post PostX)
    {b : Addr} {cellB : Cell} (hcell : T.heap[b]? = some cellB) (hobj : cellB.vm.isStatics = false) (hcls : s.vm.findClass C = some cellB.cls)
    {g : JFrame} (hg : g.method = m) (hsize : g.locals.size = c.maxLocals) {argsL rest : List Value} (hlen : ∀ sig, parseMethodDescriptor y.desc = some sig → argsL.length = sig.parameters.length)
    (hstack : g.stack = argsL.reverse ++ .ref b :: rest) (hW : 2 * g.monitorRoom + (rest.map fun v => v.category).sum ≤ W9) (hdg : decode c.code g.pc = .ok (.invokevirtual index, 3))
    (hpre : ∀ vm₁, s.WarmedH vm₁ → Pre ⟨T.setVm vm₁, locs, cells, slots⟩ (Value.ref b :: argsL).toArray) :
    (∃ (v : Option Value) (vm₁ : Vm) (B : Pt), s.WarmedH vm₁ ∧ Stand p l e R s m args below meth c B.U B.locs B.cells B.slots ∧ Post ⟨T.setVm vm₁, locs, cells, slots⟩ (Value.ref b :: argsL).toArray v B ∧
      ∀ target, Steps p.tables e below (B.U.setTop { g with pc := g.pc + 3, stack := v.toList ++ rest }) target → Steps p.tables e below (T.setTop g) target) ∨
    (∃ (q : Addr) (vm₁ : Vm) (B : Pt), s.WarmedH vm₁ ∧ Stand p l e R s m args below meth c B.U B.locs B.cells B.slots ∧ PostX ⟨T.setVm vm₁, locs, cells, slots⟩ (Value.ref b :: argsL).toArray q B ∧
      Steps p.tables e below (T.setTop g) ((B.U.setTop { g with stack := rest }).pushFrame (.throwing q))) := by
  obtain ⟨mk, methM, hnamed, hmethM, hstM, habM⟩ := Cond.instanceMethod_spec hinst
  obtain ⟨m8, methM', cM, hn8, hmethM', -, -, -, -, -, -, hsigM⟩ := Cond.codeWith_spec hcode
  cases Option.some.inj (hn8.symm.trans hnamed)
  cases hmethM.symm.trans hmethM'
  obtain ⟨c2, r2, m2, q1, q2, q3, q4, kP, hkP, hkPi⟩ := Cond.selects_spec hsel
  cases hcls.symm.trans q1
  cases (State.methodFound?_of_named hnamed hy).symm.trans q2
  cases hnamed.symm.trans q3
  have hselP : selectMethod e.platform s.vm cellB.cls mk = .method mk := by rw [Launch.admits_selectMethod X.admits]; exact q4
  obtain ⟨vm₁, X₁, hstep₁⟩ := X.invokevirtual hexec hown hlink hnamed hmethM hstM hkP hkPi hy (a := b) (cell := cellB) hcell
    (fun z h => by rw [h] at hobj; cases hobj) hselP hmethM habM hkP hkPi (g := g) hg (argsL := argsL) (rest := rest) (hlen _ hsigM) hstack hdg
  rcases hK m meth c ⟨T.setVm vm₁, locs, cells, slots⟩ { g with stack := rest } (.invokevirtual index) mk (Value.ref b :: argsL).toArray X₁ hg hsize hdg hW (X₁.named hnamed) (hpre vm₁ X₁.warmed) with ⟨v, B, X', hpost, hsteps⟩ | ⟨q, B, X', hpost, hsteps⟩
  · exact Or.inl ⟨v, vm₁, B, X₁.warmed, X', hpost, fun target h => hstep₁ _ fun acts => by rw [doInvoke_state]; exact hsteps.trans h⟩
  · exact Or.inr ⟨q, vm₁, B, X₁.warmed, X', hpost, hstep₁ _ fun acts => by rw [doInvoke_state]; exact hsteps⟩
theorem vx_callSX (X : Stand p l e R s m args below meth c T locs cells slots) (hexec : p.tables.exec = Jvm.exec) {own : String} {index : Nat} {y : MethodName} {bytes : ByteArray} {maxL : Nat} {ret : Option FieldType} {hh : List (Nat × Nat × Nat × Nat)}
    (hown : s.vm.findClass own = some m.cls) (hlink : (Cond.methodLink own index y).before args s = true) (hstat : (Cond.static y).before args s = true) (hinit : (Cond.initialized y.cls).before args s = true)
    (hcode : (Cond.codeWith y bytes maxL ret hh).before args s = true) (hy : y.cls ≠ "java/lang/invoke/MethodHandle" ∧ y.cls ≠ "java/lang/invoke/VarHandle")
    {W9 : Nat} {Pre : Pt → Array Value → Prop} {Post : Pt → Array Value → Option Value → Pt → Prop} {PostX : Pt → Array Value → Addr → Pt → Prop} (hK : vx_Back l R p e below s args y 3 W9 Pre Post PostX)
    {g : JFrame} (hg : g.method = m) (hsize : g.locals.size = c.maxLocals) {argsL rest : List Value} (hlen : ∀ sig, parseMethodDescriptor y.desc = some sig → argsL.length = sig.parameters.length)
    (hstack : g.stack = argsL.reverse ++ rest) (hW : 2 * g.monitorRoom + (rest.map fun v => v.category).sum ≤ W9) (hdg : decode c.code g.pc = .ok (.invokestatic index, 3))
    (hpre : ∀ vm₁, s.WarmedH vm₁ → Pre ⟨T.setVm vm₁, locs, cells, slots⟩ argsL.toArray) :
    (∃ (v : Option Value) (vm₁ : Vm) (B : Pt), s.WarmedH vm₁ ∧ Stand p l e R s m args below meth c B.U B.locs B.cells B.slots ∧ Post ⟨T.setVm vm₁, locs, cells, slots⟩ argsL.toArray v B ∧
      ∀ target, Steps p.tables e below (B.U.setTop { g with pc := g.pc + 3, stack := v.toList ++ rest }) target → Steps p.tables e below (T.setTop g) target) ∨
    (∃ (q : Addr) (vm₁ : Vm) (B : Pt), s.WarmedH vm₁ ∧ Stand p l e R s m args below meth c B.U B.locs B.cells B.slots ∧ PostX ⟨T.setVm vm₁, locs, cells, slots⟩ argsL.toArray q B ∧
      Steps p.tables e below (T.setTop g) ((B.U.setTop { g with stack := rest }).pushFrame (.throwing q))) := by
  obtain ⟨mk, methM, cM, hnamed, hmethM, -, -, -, -, -, -, hsigM⟩ := Cond.codeWith_spec hcode
  have hstatic : methM.isStatic = true := Cond.static_spec hnamed hmethM hstat
  obtain ⟨kP, hkP, -⟩ := className_of_methodNamed hnamed
  have hinitP : kP.init = .initialized := Cond.initialized_spec (findClass_of_methodNamed hnamed) hkP hinit
  obtain ⟨vm₁, X₁, hstep₁⟩ := X.invokestatic hexec hown hlink hnamed hmethM hstatic hkP hinitP hy (g := g) hg (argsL := argsL) (rest := rest) (hlen _ hsigM) hstack hdg
  rcases hK m meth c ⟨T.setVm vm₁, locs, cells, slots⟩ { g with stack := rest } (.invokestatic index) mk argsL.toArray X₁ hg hsize hdg hW (X₁.named hnamed) (hpre vm₁ X₁.warmed) with ⟨v, B, X', hpost, hsteps⟩ | ⟨q, B, X', hpost, hsteps⟩
  · exact Or.inl ⟨v, vm₁, B, X₁.warmed, X', hpost, fun target h => hstep₁ _ fun acts => by rw [doInvoke_state]; exact hsteps.trans h⟩
  · exact Or.inr ⟨q, vm₁, B, X₁.warmed, X', hpost, hstep₁ _ fun acts => by rw [doInvoke_state]; exact hsteps⟩
theorem vx_callVW (X : Stand p l e R s m args below meth c T locs cells slots) (hexec : p.tables.exec = Jvm.exec) {own C : String} {index : Nat} {y : MethodName} {bytes : ByteArray} {maxL : Nat} {ret : Option FieldType} {hh : List (Nat × Nat × Nat × Nat)}
    (hown : s.vm.findClass own = some m.cls) (hlink : (Cond.methodLink own index y).before args s = true) (hinst : (Cond.instanceMethod y).before args s = true) (hsel : (Cond.selects C y y).before args s = true)
    (hcode : (Cond.codeWith y bytes maxL ret hh).before args s = true) (hy : y.cls ≠ "java/lang/invoke/MethodHandle" ∧ y.cls ≠ "java/lang/invoke/VarHandle")
    {W9 : Nat} {Pre : Pt → Array Value → Prop} {Post : Pt → Array Value → Option Value → Pt → Prop} (hK : Back l R p e below s args y 3 W9 Pre Post)
    {b : Addr} {cellB : Cell} (hcell : T.heap[b]? = some cellB) (hobj : cellB.vm.isStatics = false) (hcls : s.vm.findClass C = some cellB.cls)
    {g : JFrame} (hg : g.method = m) (hsize : g.locals.size = c.maxLocals) {argsL rest : List Value} (hlen : ∀ sig, parseMethodDescriptor y.desc = some sig → argsL.length = sig.parameters.length)
    (hstack : g.stack = argsL.reverse ++ .ref b :: rest) (hW : 2 * g.monitorRoom + (rest.map fun v => v.category).sum ≤ W9) (hdg : decode c.code g.pc = .ok (.invokevirtual index, 3))
    (hpre : ∀ vm₁, s.WarmedH vm₁ → Pre ⟨T.setVm vm₁, locs, cells, slots⟩ (Value.ref b :: argsL).toArray) :
    ∃ (v : Option Value) (vm₁ : Vm) (B : Pt), s.WarmedH vm₁ ∧ Stand p l e R s m args below meth c B.U B.locs B.cells B.slots ∧ Post ⟨T.setVm vm₁, locs, cells, slots⟩ (Value.ref b :: argsL).toArray v B ∧
      ∀ target, Steps p.tables e below (B.U.setTop { g with pc := g.pc + 3, stack := v.toList ++ rest }) target → Steps p.tables e below (T.setTop g) target := by
  obtain ⟨mk, methM, hnamed, hmethM, hstM, habM⟩ := Cond.instanceMethod_spec hinst
  obtain ⟨m8, methM', cM, hn8, hmethM', -, -, -, -, -, -, hsigM⟩ := Cond.codeWith_spec hcode
  cases Option.some.inj (hn8.symm.trans hnamed)
  cases hmethM.symm.trans hmethM'
  obtain ⟨c2, r2, m2, q1, q2, q3, q4, kP, hkP, hkPi⟩ := Cond.selects_spec hsel
  cases hcls.symm.trans q1
  cases (State.methodFound?_of_named hnamed hy).symm.trans q2
  cases hnamed.symm.trans q3
  have hselP : selectMethod e.platform s.vm cellB.cls mk = .method mk := by rw [Launch.admits_selectMethod X.admits]; exact q4
  obtain ⟨vm₁, X₁, hstep₁⟩ := X.invokevirtual hexec hown hlink hnamed hmethM hstM hkP hkPi hy (a := b) (cell := cellB) hcell
    (fun z h => by rw [h] at hobj; cases hobj) hselP hmethM habM hkP hkPi (g := g) hg (argsL := argsL) (rest := rest) (hlen _ hsigM) hstack hdg
  obtain ⟨v, B, X', hpost, hsteps⟩ := hK m meth c ⟨T.setVm vm₁, locs, cells, slots⟩ { g with stack := rest } (.invokevirtual index) mk (Value.ref b :: argsL).toArray X₁ hg hsize hdg hW (X₁.named hnamed) (hpre vm₁ X₁.warmed)
  exact ⟨v, vm₁, B, X₁.warmed, X', hpost, fun target h => hstep₁ _ fun acts => by rw [doInvoke_state]; exact hsteps.trans h⟩
abbrev vx_CVW (R : Room) (s : State) (args : Array Value) (own C : String) (index : Nat) (y : MethodName) (bytes : ByteArray) (maxL : Nat) (ret : Option FieldType) (hh : List (Nat × Nat × Nat × Nat)) (ws : List Cond) (rm : Room) (mc ms n : Nat) : Prop :=
  (rm.cells = mc ∧ rm.slots = ms ∧ rm.frames + 1 ≤ R.frames ∧ 8 + (maxL + 11) + rm.locals ≤ R.locals ∧ (∀ w ∈ ws, ∀ (a' : Array Value) (U : State), s.WarmedH U.vm → w.before a' U = true) ∧ Cond.codeWith y bytes maxL ret hh ∈ ws) ∧
  (Cond.codeWith y bytes maxL ret hh).before args s = true ∧ (Cond.initialized y.cls).before args s = true ∧ (y.cls ≠ "java/lang/invoke/MethodHandle" ∧ y.cls ≠ "java/lang/invoke/VarHandle") ∧
  (∀ sig, parseMethodDescriptor y.desc = some sig → n = sig.parameters.length) ∧ (Cond.methodLink own index y).before args s = true ∧ (Cond.instanceMethod y).before args s = true ∧ (Cond.selects C y y).before args s = true
theorem vx_cwVW {own C : String} {index maxL mc ms : Nat} {y : MethodName} {bytes : ByteArray} {ret : Option FieldType} {hh : List (Nat × Nat × Nat × Nat)} {Ts ws ws' : List Cond} {rm : Room} (n : Nat) (ht : ∀ w ∈ Ts, w.before args s = true) (hT : GoodIn Ts (wsV own index C y ws)) (hw : ws = Cond.codeWith y bytes maxL ret hh :: ws') (hrc : rm.cells = mc) (hrs : rm.slots = ms)
    (hd : y.cls = C ∧ y.cls ≠ "java/lang/invoke/MethodHandle" ∧ y.cls ≠ "java/lang/invoke/VarHandle" ∧ (parseMethodDescriptor y.desc).map (fun d => d.parameters.length) = some n) (hR : rm.frames + 1 ≤ R.frames ∧ 8 + (maxL + 11) + rm.locals ≤ R.locals) :
    vx_CVW R s args own C index y bytes maxL ret hh ws rm mc ms n := by
  obtain ⟨hC, hd⟩ := hd
  subst hC
  have ok : ∀ w ∈ wsV own index y.cls y ws, w.before args s = true := fun w h => ht w (hT w h).1
  have hG : GoodIn Ts ws := fun w h => hT w (by unfold wsV; exact List.mem_append_right _ h)
  have hc : Cond.codeWith y bytes maxL ret hh ∈ ws := by rw [hw]; exact List.mem_cons_self
  refine ⟨⟨hrc, hrs, hR.1, hR.2, pay_in ht hG, hc⟩, ht _ (hG _ hc).1, ok _ (by simp [wsV]), ⟨hd.1, hd.2.1⟩, fun sig h => ?_, ok _ (by simp [wsV]), ok _ (by simp [wsV]), ok _ (by simp [wsV])⟩
  have h2 := hd.2.2
  rw [h] at h2
  exact (Option.some.inj h2).symm
theorem vx_runVW {y : MethodName} {bytes cc : ByteArray} {maxL nL mc ms n index : Nat} {ret : Option FieldType} {hh : List (Nat × Nat × Nat × Nat)} {ws : List Cond} {rm : Room} {Pc : Array Value → State → Prop} {Qc : Array Value → State → Outcome → State → Prop} {free : Addr → Prop} {Ts : List Cond} {own C : String} {b : Addr} {As rest : List Value} {g : JFrame}
    (S : CallFix p m c cc nL s args Ts own) (hM : Met l y ws rm Pc Qc mc ms free) (cw : vx_CVW R s args own C index y bytes maxL ret hh ws rm mc ms n) (hp : PreV s H C b Pc As)
    (hg : g.method = m) (hn : As.length = n) (hsize : g.locals.size = nL) (hstack : g.stack = As.reverse ++ .ref b :: rest) (hW : 2 * g.monitorRoom + (rest.map fun v => v.category).sum ≤ 8) (hdg : decode cc g.pc = .ok (.invokevirtual index, 3)) (hf : cells + mc ≤ R.cells ∧ slots + ms ≤ R.slots) :
    va_Run p l e R s m args below meth c H locs cells slots mc ms g rest (Qc (Value.ref b :: As).toArray) free := by
  obtain ⟨⟨hrc, hrs, hfr, hlo, hws, hcw⟩, hcode, hini, hy, hlen, hl, hin, hse⟩ := cw
  have hK : Back l R p e below s args y 3 8 (PreOf R mc ms Pc) (PostOf Qc mc ms free) := va_backW (hh := hh) (bytes := bytes) (maxL := maxL) (ret := ret) hM hp.1 hrc hrs hfr hlo hws hcw (fun a' U hW => word_at hW (Or.inl (by first | rfl | simp [Cond.onTables, Cond.keeps, Cond.steady])) hini)
  obtain ⟨hx, hb, hml, ho, -⟩ := S
  obtain ⟨-, ⟨cellB, hcB, hoB, hclB⟩, hPc⟩ := hp
  intro T hT X
  obtain ⟨v, vm₁, ⟨U', l2, c2, s2⟩, hW₁, X', ⟨g', mk, t, L, e1, e2, hq, h1, hL, h2, h3⟩, st⟩ := vx_callVW X hx (C := C) (hh := hh) (bytes := bytes) (maxL := maxL) (ret := ret) ho hl hin hse hcode hy hK (by rw [hT]; exact hcB) hoB hclB hg (hsize.trans hml.symm) (argsL := As) (rest := rest) (fun sig h => hn.trans (hlen sig h)) hstack hW (by rw [hb]; exact hdg)
    (fun vm₁ hW₁ => ⟨hf.1, hf.2, hPc (T.setVm vm₁) hT hW₁⟩)
  dsimp only [Pt.U, Pt.locs, Pt.cells, Pt.slots] at X' e1 e2 h1 h2 h3 st
  subst h1; subst h2; subst h3
  exact ⟨v, (T.setVm vm₁).calling g' mk (Value.ref b :: As).toArray, t, U', L, hT, X', hL, e1, e2, hq, st⟩
section
variable {y : MethodName} {bytes cc : ByteArray} {maxL nL mc ms n index : Nat} {ret : Option FieldType} {ws : List Cond} {rm : Room} {Pc : Array Value → State → Prop} {Qc : Array Value → State → Outcome → State → Prop} {XC : String → State → State → Prop} {free : Addr → Prop} {Ts : List Cond} {own C : String} {b : Addr} {As rest : List Value} {g : JFrame}
theorem vx_runVX {hh : List (Nat × Nat × Nat × Nat)} (S : CallFix p m c cc nL s args Ts own) (hM : vx_Met l y ws rm Pc Qc XC mc ms free) (cw : vx_CVW R s args own C index y bytes maxL ret hh ws rm mc ms n) (hp : PreV s H C b Pc As)
    (hg : g.method = m) (hn : As.length = n) (hsize : g.locals.size = nL) (hstack : g.stack = As.reverse ++ .ref b :: rest) (hW : 2 * g.monitorRoom + (rest.map fun v => v.category).sum ≤ 8) (hdg : decode cc g.pc = .ok (.invokevirtual index, 3)) (hf : cells + mc ≤ R.cells ∧ slots + ms ≤ R.slots) :
    vx_Run p l e R s m args below meth c H locs cells slots mc ms g rest (Qc (Value.ref b :: As).toArray) XC free := by
  obtain ⟨⟨hrc, hrs, hfr, hlo, hws, hcw⟩, hcode, hini, hy, hlen, hl, hin, hse⟩ := cw
  have hK : vx_Back l R p e below s args y 3 8 (PreOf R mc ms Pc) (PostOf Qc mc ms free) (vx_Post XC mc ms free) := vx_backW (hh := hh) (bytes := bytes) (maxL := maxL) (ret := ret) hM hp.1 hrc hrs hfr hlo hws hcw (fun a' U hW => word_at hW (Or.inl (by first | rfl | simp [Cond.onTables, Cond.keeps, Cond.steady])) hini)
  obtain ⟨hx, hb, hml, ho, -⟩ := S
  obtain ⟨-, ⟨cellB, hcB, hoB, hclB⟩, hPc⟩ := hp
  intro T hT X
  rcases vx_callVX X hx (C := C) (hh := hh) (bytes := bytes) (maxL := maxL) (ret := ret) ho hl hin hse hcode hy hK (by rw [hT]; exact hcB) hoB hclB hg (hsize.trans hml.symm) (argsL := As) (rest := rest) (fun sig h => hn.trans (hlen sig h)) hstack hW (by rw [hb]; exact hdg)
    (fun vm₁ hW₁ => ⟨hf.1, hf.2, hPc (T.setVm vm₁) hT hW₁⟩) with ⟨v, vm₁, ⟨U', l2, c2, s2⟩, hW₁, X', ⟨g', mk, t, L, e1, e2, hq, h1, hL, h2, h3⟩, st⟩ | ⟨q, vm₁, ⟨U', l2, c2, s2⟩, hW₁, X', ⟨g', mk, t, L, E, ce, e1, e2, hq, hce, hcv, hcl, h1, hL, h2, h3⟩, st⟩
  · dsimp only [Pt.U, Pt.locs, Pt.cells, Pt.slots] at X' e1 e2 h1 h2 h3 st
    subst h1; subst h2; subst h3
    exact Or.inl ⟨v, (T.setVm vm₁).calling g' mk (Value.ref b :: As).toArray, t, U', L, hT, X', hL, e1, e2, hq, st⟩
  · dsimp only [Pt.U, Pt.locs, Pt.cells, Pt.slots] at X' e1 e2 h1 h2 h3 st hcl
    subst h1; subst h2; subst h3
    exact Or.inr ⟨q, (T.setVm vm₁).calling g' mk (Value.ref b :: As).toArray, t, U', L, E, ce, hT, X', hL, e1, e2, hq, hce, hcv, vx_cls hW₁ hcl, st⟩
theorem vx_runSX {hh : List (Nat × Nat × Nat × Nat)} (S : CallFix p m c cc nL s args Ts own) (hM : vx_Met l y ws rm Pc Qc XC mc ms free) (cw : vx_CSW R s args own index y bytes maxL ret hh ws rm mc ms n) (hp : PreS s H Pc As)
    (hg : g.method = m) (hn : As.length = n) (hsize : g.locals.size = nL) (hstack : g.stack = As.reverse ++ rest) (hW : 2 * g.monitorRoom + (rest.map fun v => v.category).sum ≤ 8) (hdg : decode cc g.pc = .ok (.invokestatic index, 3)) (hf : cells + mc ≤ R.cells ∧ slots + ms ≤ R.slots) :
    vx_Run p l e R s m args below meth c H locs cells slots mc ms g rest (Qc As.toArray) XC free := by
  obtain ⟨⟨hrc, hrs, hfr, hlo, hws, hcw⟩, hcode, hini, hy, hlen, hl, hstt⟩ := cw
  have hK : vx_Back l R p e below s args y 3 8 (PreOf R mc ms Pc) (PostOf Qc mc ms free) (vx_Post XC mc ms free) := vx_backW (hh := hh) (bytes := bytes) (maxL := maxL) (ret := ret) hM hp.1 hrc hrs hfr hlo hws hcw (fun a' U hW => word_at hW (Or.inl (by first | rfl | simp [Cond.onTables, Cond.keeps, Cond.steady])) hini)
  obtain ⟨hx, hb, hml, ho, -⟩ := S
  intro T hT X
  rcases vx_callSX X hx (hh := hh) (bytes := bytes) (maxL := maxL) (ret := ret) ho hl hstt hini hcode hy hK hg (hsize.trans hml.symm) (argsL := As) (rest := rest) (fun sig h => hn.trans (hlen sig h)) hstack hW (by rw [hb]; exact hdg)
    (fun vm₁ hW₁ => ⟨hf.1, hf.2, hp.2 (T.setVm vm₁) hT hW₁⟩) with ⟨v, vm₁, ⟨U', l2, c2, s2⟩, hW₁, X', ⟨g', mk, t, L, e1, e2, hq, h1, hL, h2, h3⟩, st⟩ | ⟨q, vm₁, ⟨U', l2, c2, s2⟩, hW₁, X', ⟨g', mk, t, L, E, ce, e1, e2, hq, hce, hcv, hcl, h1, hL, h2, h3⟩, st⟩
  · dsimp only [Pt.U, Pt.locs, Pt.cells, Pt.slots] at X' e1 e2 h1 h2 h3 st
    subst h1; subst h2; subst h3
    exact Or.inl ⟨v, (T.setVm vm₁).calling g' mk As.toArray, t, U', L, hT, X', hL, e1, e2, hq, st⟩
  · dsimp only [Pt.U, Pt.locs, Pt.cells, Pt.slots] at X' e1 e2 h1 h2 h3 st hcl
    subst h1; subst h2; subst h3
    exact Or.inr ⟨q, (T.setVm vm₁).calling g' mk As.toArray, t, U', L, E, ce, hT, X', hL, e1, e2, hq, hce, hcv, vx_cls hW₁ hcl, st⟩
end
end VXH
theorem vx_ofWH {l : Launch} {y : MethodName} {ws ws' : List Cond} {rm : Room} {Pc : Array Value → State → Prop} {Qc : Array Value → State → Outcome → State → Prop} {XC : String → State → State → Prop} {mc ms : Nat} {free : Addr → Prop} {cc : ByteArray} {maxL : Nat} {ret : Option FieldType} {hh : List (Nat × Nat × Nat × Nat)}
    (hy : plainName y.cls = true) (hw : ws = Cond.codeWith y cc maxL ret hh :: ws')
    (body : ∀ p e s m args below meth c s₁, BodyLoose p l y (headSpec ws rm) cc maxL ret e s m args below meth c s₁ → c.maxLocals = maxL → Pc args s →
      W p l e (headSpec ws rm).room s m args below meth c s.heap [] 0 0 (vx_MQ below Qc XC args s mc ms free) (entryFrame m args maxL)) : vx_Met l y ws rm Pc Qc XC mc ms free := by
  refine MetFree.of_bodyS (code := cc) (maxLocals := maxL) (ret := ret) hy ?_ ?_
  · intro args s m h hn
    obtain ⟨m9, meth, c, hn9, h1, h2, h3, h4, -, h5, h6, -⟩ := Cond.codeWith_spec (atoms_spec (ws := ws) h _ (by rw [hw]; exact List.mem_cons_self))
    cases hn.symm.trans hn9
    exact ⟨meth, c, h1, h2, h3, h4, h5, h6⟩
  · intro p e s m args below meth c s₁ B hml hP _
    have hh0 : s₁.heap = s.heap := by rw [B.state]; rfl
    obtain ⟨t, a1, o, b1, b2, b3⟩ := body p e s m args below meth c s₁ B hml hP s₁ hh0 (Stand.of_body B)
    exact ⟨t, o, a1, b1, b2, b3⟩
/-! ===== END ===== -/
end
section
def RX0 : String := "MatrixSheets$Dig"
def TX0 : u_T := fun k => match k with
  | 0 => ("MatrixSheets$Dig", "leader", "[I", true)
  | 1 => ("MatrixSheets$Dig", "groupPhase", "[I", true)
  | 2 => ("MatrixSheets$Dig", "directlyBelow", "[I", true)
  | 3 => ("MatrixSheets$Dig", "there", "I", false)
  | 4 => ("MatrixSheets$Dig", "hidden", "I", false)
  | 5 => ("MatrixSheets$Dig", "pairsTold", "I", false)
  | 6 => ("MatrixSheets$Dig", "toldBelow", "[I", true)
  | 7 => ("MatrixSheets$Dig", "ownPhase", "[I", true)
  | _ => ("MatrixSheets$Dig", "over", "[I", true)
def tyX0 : Nat → FieldType := fun k => match k with
  | 0 => .array .int
  | 1 => .array .int
  | 2 => .array .int
  | 3 => .int
  | 4 => .int
  | 5 => .int
  | 6 => .array .int
  | 7 => .array .int
  | _ => .array .int
abbrev wsX00 : List Cond := u_ws RX0 TX0 9
theorem nmX0 : ∀ a, a < 9 → ∀ b, b < 9 → a ≠ b → (TX0 a).2.1 ≠ (TX0 b).2.1 := by decide +kernel
theorem tyX0_ok : ∀ k, k < 9 → parseFieldDescriptor (TX0 k).2.2.1 = some (tyX0 k) := by decide +kernel
def RX1 : String := "MatrixSheets$Order"
def TX1 : u_T := fun k => match k with
  | 0 => ("MatrixSheets$Order", "place", "[I", true)
  | 1 => ("MatrixSheets$Order", "behindRound", "[I", true)
  | 2 => ("MatrixSheets$Order", "rounds", "I", false)
  | 3 => ("MatrixSheets$Order", "marks", "[I", true)
  | 4 => ("MatrixSheets$Order", "bestMarks", "[I", true)
  | 5 => ("MatrixSheets$Order", "rowStart", "[I", true)
  | 6 => ("MatrixSheets$Order", "pieceFrom", "[I", true)
  | 7 => ("MatrixSheets$Order", "pieceTo", "[I", true)
  | 8 => ("MatrixSheets$Order", "pieceStart", "[I", true)
  | 9 => ("MatrixSheets$Order", "placeSum", "[I", true)
  | 10 => ("MatrixSheets$Order", "placeShare", "[I", true)
  | 11 => ("MatrixSheets$Order", "rowCount", "I", false)
  | 12 => ("MatrixSheets$Order", "markCount", "I", false)
  | _ => ("MatrixSheets$Order", "pieceCount", "I", false)
def tyX1 : Nat → FieldType := fun k => match k with
  | 0 => .array .int
  | 1 => .array .int
  | 2 => .int
  | 3 => .array .int
  | 4 => .array .int
  | 5 => .array .int
  | 6 => .array .int
  | 7 => .array .int
  | 8 => .array .int
  | 9 => .array .int
  | 10 => .array .int
  | 11 => .int
  | 12 => .int
  | _ => .int
abbrev wsX10 : List Cond := u_ws RX1 TX1 14
theorem nmX1 : ∀ a, a < 14 → ∀ b, b < 14 → a ≠ b → (TX1 a).2.1 ≠ (TX1 b).2.1 := by decide +kernel
theorem tyX1_ok : ∀ k, k < 14 → parseFieldDescriptor (TX1 k).2.2.1 = some (tyX1 k) := by decide +kernel
def RX2 : String := "MatrixSheets$Plan"
def TX2 : u_T := fun k => match k with
  | 0 => ("MatrixSheets$Plan", "row", "[I", true)
  | 1 => ("MatrixSheets$Plan", "upper", "[I", true)
  | 2 => ("MatrixSheets$Plan", "lower", "[I", true)
  | 3 => ("MatrixSheets$Plan", "drawn", "I", false)
  | 4 => ("MatrixSheets$Plan", "rowCount", "I", false)
  | 5 => ("MatrixSheets$Plan", "linkCount", "I", false)
  | 6 => ("MatrixSheets$Plan", "bendCount", "I", false)
  | 7 => ("MatrixSheets$Plan", "linkedBelow", "[I", true)
  | 8 => ("MatrixSheets$Plan", "forerunners", "[I", true)
  | _ => ("MatrixSheets$Plan", "firstBend", "[I", true)
def tyX2 : Nat → FieldType := fun k => match k with
  | 0 => .array .int
  | 1 => .array .int
  | 2 => .array .int
  | 3 => .int
  | 4 => .int
  | 5 => .int
  | 6 => .int
  | 7 => .array .int
  | 8 => .array .int
  | _ => .array .int
abbrev wsX20 : List Cond := u_ws RX2 TX2 10
theorem nmX2 : ∀ a, a < 10 → ∀ b, b < 10 → a ≠ b → (TX2 a).2.1 ≠ (TX2 b).2.1 := by decide +kernel
theorem tyX2_ok : ∀ k, k < 10 → parseFieldDescriptor (TX2 k).2.2.1 = some (tyX2 k) := by decide +kernel
def RX3 : String := "MatrixSheets"
def TX3 : u_T := fun k => match k with
  | 0 => ("MatrixSheets", "dig", "LMatrixSheets$Dig;", true)
  | 1 => ("MatrixSheets", "plan", "LMatrixSheets$Plan;", true)
  | 2 => ("MatrixSheets", "order", "LMatrixSheets$Order;", true)
  | _ => ("MatrixSheets", "sheetThere", "Z", false)
def tyX3 : Nat → FieldType := fun k => match k with
  | 0 => .object "MatrixSheets$Dig"
  | 1 => .object "MatrixSheets$Plan"
  | 2 => .object "MatrixSheets$Order"
  | _ => .boolean
abbrev wsX30 : List Cond := u_ws RX3 TX3 4
theorem nmX3 : ∀ a, a < 4 → ∀ b, b < 4 → a ≠ b → (TX3 a).2.1 ≠ (TX3 b).2.1 := by decide +kernel
theorem tyX3_ok : ∀ k, k < 4 → parseFieldDescriptor (TX3 k).2.2.1 = some (tyX3 k) := by decide +kernel
def RX4 : String := "MatrixSheetsModel"
def TX4 : u_T := fun k => match k with
  | 0 => ("MatrixSheetsModel", "thrown", "I", false)
  | 1 => ("MatrixSheetsModel", "told", "[Z", true)
  | 2 => ("MatrixSheetsModel", "groups", "[I", true)
  | 3 => ("MatrixSheetsModel", "phases", "[I", true)
  | 4 => ("MatrixSheetsModel", "hidden", "[Z", true)
  | 5 => ("MatrixSheetsModel", "there", "[Z", true)
  | 6 => ("MatrixSheetsModel", "over", "[Z", true)
  | 7 => ("MatrixSheetsModel", "linked", "[Z", true)
  | 8 => ("MatrixSheetsModel", "hasSheet", "Z", false)
  | 9 => ("MatrixSheetsModel", "rounds", "I", false)
  | 10 => ("MatrixSheetsModel", "rows", "[I", true)
  | 11 => ("MatrixSheetsModel", "places", "[I", true)
  | 12 => ("MatrixSheetsModel", "best", "[I", true)
  | 13 => ("MatrixSheetsModel", "bends", "I", false)
  | 14 => ("MatrixSheetsModel", "pieceFrom", "[I", true)
  | 15 => ("MatrixSheetsModel", "pieceTo", "[I", true)
  | 16 => ("MatrixSheetsModel", "pieces", "I", false)
  | 17 => ("MatrixSheetsModel", "upper", "[I", true)
  | 18 => ("MatrixSheetsModel", "lower", "[I", true)
  | 19 => ("MatrixSheetsModel", "firstBend", "[I", true)
  | 20 => ("MatrixSheetsModel", "links", "I", false)
  | 21 => ("MatrixSheetsModel", "crossed", "[I", true)
  | 22 => ("MatrixSheetsModel", "line", "[I", true)
  | 23 => ("MatrixSheetsModel", "sums", "[I", true)
  | 24 => ("MatrixSheetsModel", "counts", "[I", true)
  | 25 => ("MatrixSheetsModel", "commands", "[I", true)
  | _ => ("MatrixSheetsModel", "size", "I", false)
def tyX4 : Nat → FieldType := fun k => match k with
  | 0 => .int
  | 1 => .array .boolean
  | 2 => .array .int
  | 3 => .array .int
  | 4 => .array .boolean
  | 5 => .array .boolean
  | 6 => .array .boolean
  | 7 => .array .boolean
  | 8 => .boolean
  | 9 => .int
  | 10 => .array .int
  | 11 => .array .int
  | 12 => .array .int
  | 13 => .int
  | 14 => .array .int
  | 15 => .array .int
  | 16 => .int
  | 17 => .array .int
  | 18 => .array .int
  | 19 => .array .int
  | 20 => .int
  | 21 => .array .int
  | 22 => .array .int
  | 23 => .array .int
  | 24 => .array .int
  | 25 => .array .int
  | _ => .int
abbrev wsX40 : List Cond := u_ws RX4 TX4 27
theorem nmX4 : ∀ a, a < 27 → ∀ b, b < 27 → a ≠ b → (TX4 a).2.1 ≠ (TX4 b).2.1 := by decide +kernel
theorem tyX4_ok : ∀ k, k < 27 → parseFieldDescriptor (TX4 k).2.2.1 = some (tyX4 k) := by decide +kernel
def RL : String := "MatrixSheetsLaw"
abbrev vwCl : List vw_C := [(RX0, TX0, 9), (RX1, TX1, 14), (RX2, TX2, 10), (RX3, TX3, 4), (RX4, TX4, 27)]
abbrev c_M_init : ByteArray := prog_1_method_1_code
def y_M_init : MethodName := ⟨RX3, "<init>", "()V"⟩
abbrev c_M_above : ByteArray := prog_1_method_2_code
def y_M_above : MethodName := ⟨RX3, "above", "(II)I"⟩
abbrev c_M_same : ByteArray := prog_1_method_3_code
def y_M_same : MethodName := ⟨RX3, "same", "(II)I"⟩
abbrev c_M_phase : ByteArray := prog_1_method_4_code
def y_M_phase : MethodName := ⟨RX3, "phase", "(II)I"⟩
abbrev c_M_hide : ByteArray := prog_1_method_5_code
def y_M_hide : MethodName := ⟨RX3, "hide", "(IZ)Z"⟩
abbrev c_M_group : ByteArray := prog_1_method_6_code
def y_M_group : MethodName := ⟨RX3, "group", "(I)I"⟩
abbrev c_M_misfit : ByteArray := prog_1_method_7_code
def y_M_misfit : MethodName := ⟨RX3, "misfit", "(II)I"⟩
abbrev c_M_draw : ByteArray := prog_1_method_8_code
def y_M_draw : MethodName := ⟨RX3, "draw", "(I)I"⟩
abbrev c_M_crossings : ByteArray := prog_1_method_9_code
def y_M_crossings : MethodName := ⟨RX3, "crossings", "(I)I"⟩
abbrev c_M_at : ByteArray := prog_1_method_10_code
def y_M_at : MethodName := ⟨RX3, "at", "(II)I"⟩
abbrev c_M_links : ByteArray := prog_1_method_11_code
def y_M_links : MethodName := ⟨RX3, "links", "()I"⟩
abbrev c_M_link : ByteArray := prog_1_method_12_code
def y_M_link : MethodName := ⟨RX3, "link", "(II)I"⟩
abbrev c_M_command : ByteArray := prog_1_method_13_code
def y_M_command : MethodName := ⟨RX3, "command", "(I)I"⟩
abbrev c_M_count : ByteArray := prog_1_method_14_code
def y_M_count : MethodName := ⟨RX3, "count", "(I)I"⟩
abbrev c_M_changed : ByteArray := prog_1_method_15_code
def y_M_changed : MethodName := ⟨RX3, "changed", "(I)I"⟩
abbrev c_M_numberOfGroups : ByteArray := prog_1_method_16_code
def y_M_numberOfGroups : MethodName := ⟨RX3, "numberOfGroups", "(I)I"⟩
abbrev c_M_numberOfLinks : ByteArray := prog_1_method_17_code
def y_M_numberOfLinks : MethodName := ⟨RX3, "numberOfLinks", "(I)I"⟩
abbrev c_M_numbersOf : ByteArray := prog_1_method_18_code
def y_M_numbersOf : MethodName := ⟨RX3, "numbersOf", "(I)I"⟩
abbrev c_M_needSheet : ByteArray := prog_1_method_19_code
def y_M_needSheet : MethodName := ⟨RX3, "needSheet", "()V"⟩
abbrev c_M_needContext : ByteArray := prog_1_method_20_code
def y_M_needContext : MethodName := ⟨RX3, "needContext", "(I)V"⟩
abbrev c_M_need : ByteArray := prog_1_method_21_code
def y_M_need : MethodName := ⟨RX3, "need", "(Z)V"⟩
abbrev c_M_has : ByteArray := prog_1_method_22_code
def y_M_has : MethodName := ⟨RX3, "has", "(II)Z"⟩
abbrev c_M_goOn : ByteArray := prog_1_method_23_code
def y_M_goOn : MethodName := ⟨RX3, "goOn", "([II)V"⟩
abbrev c_R_init : ByteArray := prog_6_method_1_code
def y_R_init : MethodName := ⟨RX4, "<init>", "()V"⟩
abbrev c_R_thrown : ByteArray := prog_6_method_2_code
def y_R_thrown : MethodName := ⟨RX4, "thrown", "()I"⟩
abbrev c_R_throwing : ByteArray := prog_6_method_3_code
def y_R_throwing : MethodName := ⟨RX4, "throwing", "(ZZ)Z"⟩
abbrev c_R_in : ByteArray := prog_6_method_4_code
def y_R_in : MethodName := ⟨RX4, "in", "(III)Z"⟩
abbrev c_R_isContext : ByteArray := prog_6_method_5_code
def y_R_isContext : MethodName := ⟨RX4, "isContext", "(I)Z"⟩
abbrev c_R_close : ByteArray := prog_6_method_6_code
def y_R_close : MethodName := ⟨RX4, "close", "([Z)V"⟩
abbrev c_R_findOver : ByteArray := prog_6_method_7_code
def y_R_findOver : MethodName := ⟨RX4, "findOver", "()V"⟩
abbrev c_R_isOver : ByteArray := prog_6_method_8_code
def y_R_isOver : MethodName := ⟨RX4, "isOver", "(II)Z"⟩
abbrev c_R_name : ByteArray := prog_6_method_9_code
def y_R_name : MethodName := ⟨RX4, "name", "(II)V"⟩
abbrev c_R_above : ByteArray := prog_6_method_10_code
def y_R_above : MethodName := ⟨RX4, "above", "(II)I"⟩
abbrev c_R_same : ByteArray := prog_6_method_11_code
def y_R_same : MethodName := ⟨RX4, "same", "(II)I"⟩
abbrev c_R_phase : ByteArray := prog_6_method_12_code
def y_R_phase : MethodName := ⟨RX4, "phase", "(II)I"⟩
abbrev c_R_hide : ByteArray := prog_6_method_13_code
def y_R_hide : MethodName := ⟨RX4, "hide", "(IZ)Z"⟩
abbrev c_R_group : ByteArray := prog_6_method_14_code
def y_R_group : MethodName := ⟨RX4, "group", "(I)I"⟩
abbrev c_R_phaseOf : ByteArray := prog_6_method_15_code
def y_R_phaseOf : MethodName := ⟨RX4, "phaseOf", "(I)I"⟩
abbrev c_R_isHidden : ByteArray := prog_6_method_16_code
def y_R_isHidden : MethodName := ⟨RX4, "isHidden", "(I)Z"⟩
abbrev c_R_isThere : ByteArray := prog_6_method_17_code
def y_R_isThere : MethodName := ⟨RX4, "isThere", "(I)Z"⟩
abbrev c_R_isDrawn : ByteArray := prog_6_method_18_code
def y_R_isDrawn : MethodName := ⟨RX4, "isDrawn", "(I)Z"⟩
abbrev c_R_misfits : ByteArray := prog_6_method_19_code
def y_R_misfits : MethodName := ⟨RX4, "misfits", "(II)Z"⟩
abbrev c_R_misfit : ByteArray := prog_6_method_20_code
def y_R_misfit : MethodName := ⟨RX4, "misfit", "(II)I"⟩
abbrev c_R_findLinks : ByteArray := prog_6_method_21_code
def y_R_findLinks : MethodName := ⟨RX4, "findLinks", "()V"⟩
abbrev c_R_rowOf : ByteArray := prog_6_method_22_code
def y_R_rowOf : MethodName := ⟨RX4, "rowOf", "(I)I"⟩
abbrev c_R_findRows : ByteArray := prog_6_method_23_code
def y_R_findRows : MethodName := ⟨RX4, "findRows", "()V"⟩
abbrev c_R_bendsOf : ByteArray := prog_6_method_24_code
def y_R_bendsOf : MethodName := ⟨RX4, "bendsOf", "(I)I"⟩
abbrev c_R_addPiece : ByteArray := prog_6_method_25_code
def y_R_addPiece : MethodName := ⟨RX4, "addPiece", "(II)V"⟩
abbrev c_R_findBends : ByteArray := prog_6_method_26_code
def y_R_findBends : MethodName := ⟨RX4, "findBends", "()Z"⟩
abbrev c_R_lastRow : ByteArray := prog_6_method_27_code
def y_R_lastRow : MethodName := ⟨RX4, "lastRow", "()I"⟩
abbrev c_R_placeAll : ByteArray := prog_6_method_28_code
def y_R_placeAll : MethodName := ⟨RX4, "placeAll", "()V"⟩
abbrev c_R_crossedNow : ByteArray := prog_6_method_29_code
def y_R_crossedNow : MethodName := ⟨RX4, "crossedNow", "()I"⟩
abbrev c_R_order : ByteArray := prog_6_method_30_code
def y_R_order : MethodName := ⟨RX4, "order", "(IZ)V"⟩
abbrev c_R_sort : ByteArray := prog_6_method_31_code
def y_R_sort : MethodName := ⟨RX4, "sort", "(I)V"⟩
abbrev c_R_round : ByteArray := prog_6_method_32_code
def y_R_round : MethodName := ⟨RX4, "round", "()V"⟩
abbrev c_R_keep : ByteArray := prog_6_method_33_code
def y_R_keep : MethodName := ⟨RX4, "keep", "()V"⟩
abbrev c_R_draw : ByteArray := prog_6_method_34_code
def y_R_draw : MethodName := ⟨RX4, "draw", "(I)I"⟩
abbrev c_R_put : ByteArray := prog_6_method_35_code
def y_R_put : MethodName := ⟨RX4, "put", "(I)V"⟩
abbrev c_R_point : ByteArray := prog_6_method_36_code
def y_R_point : MethodName := ⟨RX4, "point", "(I)V"⟩
abbrev c_R_write : ByteArray := prog_6_method_37_code
def y_R_write : MethodName := ⟨RX4, "write", "()V"⟩
abbrev c_R_crossings : ByteArray := prog_6_method_38_code
def y_R_crossings : MethodName := ⟨RX4, "crossings", "(I)I"⟩
abbrev c_R_at : ByteArray := prog_6_method_39_code
def y_R_at : MethodName := ⟨RX4, "at", "(II)I"⟩
abbrev c_R_links : ByteArray := prog_6_method_40_code
def y_R_links : MethodName := ⟨RX4, "links", "()I"⟩
abbrev c_R_link : ByteArray := prog_6_method_41_code
def y_R_link : MethodName := ⟨RX4, "link", "(II)I"⟩
abbrev c_R_command : ByteArray := prog_6_method_42_code
def y_R_command : MethodName := ⟨RX4, "command", "(I)I"⟩
abbrev c_R_count : ByteArray := prog_6_method_43_code
def y_R_count : MethodName := ⟨RX4, "count", "(I)I"⟩
abbrev c_D_init : ByteArray := prog_2_method_1_code
def y_D_init : MethodName := ⟨RX0, "<init>", "()V"⟩
abbrev c_D_tellAbove : ByteArray := prog_2_method_2_code
def y_D_tellAbove : MethodName := ⟨RX0, "tellAbove", "(II)I"⟩
abbrev c_D_tellSame : ByteArray := prog_2_method_3_code
def y_D_tellSame : MethodName := ⟨RX0, "tellSame", "(II)I"⟩
abbrev c_D_tellPhase : ByteArray := prog_2_method_4_code
def y_D_tellPhase : MethodName := ⟨RX0, "tellPhase", "(II)I"⟩
abbrev c_D_tellHidden : ByteArray := prog_2_method_5_code
def y_D_tellHidden : MethodName := ⟨RX0, "tellHidden", "(IZ)Z"⟩
abbrev c_D_leadersOf : ByteArray := prog_2_method_6_code
def y_D_leadersOf : MethodName := ⟨RX0, "leadersOf", "(I)I"⟩
abbrev c_D_findMisfit : ByteArray := prog_2_method_7_code
def y_D_findMisfit : MethodName := ⟨RX0, "findMisfit", "(I)I"⟩
abbrev c_D_isLaterPhase : ByteArray := prog_2_method_8_code
def y_D_isLaterPhase : MethodName := ⟨RX0, "isLaterPhase", "(II)Z"⟩
abbrev c_D_join : ByteArray := prog_2_method_9_code
def y_D_join : MethodName := ⟨RX0, "join", "(II)V"⟩
abbrev c_D_settle : ByteArray := prog_2_method_10_code
def y_D_settle : MethodName := ⟨RX0, "settle", "()V"⟩
abbrev c_D_lowerGroupPhase : ByteArray := prog_2_method_11_code
def y_D_lowerGroupPhase : MethodName := ⟨RX0, "lowerGroupPhase", "(II)V"⟩
abbrev c_O_init : ByteArray := prog_3_method_1_code
def y_O_init : MethodName := ⟨RX1, "<init>", "()V"⟩
abbrev c_O_make : ByteArray := prog_3_method_2_code
def y_O_make : MethodName := ⟨RX1, "make", "(LMatrixSheets$Plan;I)I"⟩
abbrev c_O_groupAt : ByteArray := prog_3_method_3_code
def y_O_groupAt : MethodName := ⟨RX1, "groupAt", "(I)I"⟩
abbrev c_O_layMarks : ByteArray := prog_3_method_4_code
def y_O_layMarks : MethodName := ⟨RX1, "layMarks", "(LMatrixSheets$Plan;)V"⟩
abbrev c_O_layMark : ByteArray := prog_3_method_5_code
def y_O_layMark : MethodName := ⟨RX1, "layMark", "(I)V"⟩
abbrev c_O_layPieces : ByteArray := prog_3_method_6_code
def y_O_layPieces : MethodName := ⟨RX1, "layPieces", "(LMatrixSheets$Plan;)V"⟩
abbrev c_O_runRound : ByteArray := prog_3_method_7_code
def y_O_runRound : MethodName := ⟨RX1, "runRound", "()V"⟩
abbrev c_O_arrange : ByteArray := prog_3_method_8_code
def y_O_arrange : MethodName := ⟨RX1, "arrange", "(II[I[I)V"⟩
abbrev c_O_weigh : ByteArray := prog_3_method_9_code
def y_O_weigh : MethodName := ⟨RX1, "weigh", "(II[I[I)V"⟩
abbrev c_O_sort : ByteArray := prog_3_method_10_code
def y_O_sort : MethodName := ⟨RX1, "sort", "(II)V"⟩
abbrev c_O_hasLesserKey : ByteArray := prog_3_method_11_code
def y_O_hasLesserKey : MethodName := ⟨RX1, "hasLesserKey", "(II)Z"⟩
abbrev c_O_numberPlaces : ByteArray := prog_3_method_12_code
def y_O_numberPlaces : MethodName := ⟨RX1, "numberPlaces", "(II)V"⟩
abbrev c_O_countCrossings : ByteArray := prog_3_method_13_code
def y_O_countCrossings : MethodName := ⟨RX1, "countCrossings", "()I"⟩
abbrev c_O_countCrossed : ByteArray := prog_3_method_14_code
def y_O_countCrossed : MethodName := ⟨RX1, "countCrossed", "(II)I"⟩
abbrev c_O_keepBest : ByteArray := prog_3_method_15_code
def y_O_keepBest : MethodName := ⟨RX1, "keepBest", "()V"⟩
abbrev c_O_takeBest : ByteArray := prog_3_method_16_code
def y_O_takeBest : MethodName := ⟨RX1, "takeBest", "()V"⟩
abbrev c_P_init : ByteArray := prog_4_method_1_code
def y_P_init : MethodName := ⟨RX2, "<init>", "()V"⟩
abbrev c_P_make : ByteArray := prog_4_method_2_code
def y_P_make : MethodName := ⟨RX2, "make", "(LMatrixSheets$Dig;)V"⟩
abbrev c_P_bendsOf : ByteArray := prog_4_method_3_code
def y_P_bendsOf : MethodName := ⟨RX2, "bendsOf", "(I)I"⟩
abbrev c_P_pointOf : ByteArray := prog_4_method_4_code
def y_P_pointOf : MethodName := ⟨RX2, "pointOf", "(II)I"⟩
abbrev c_P_findLinks : ByteArray := prog_4_method_5_code
def y_P_findLinks : MethodName := ⟨RX2, "findLinks", "(LMatrixSheets$Dig;)V"⟩
abbrev c_P_findForerunners : ByteArray := prog_4_method_6_code
def y_P_findForerunners : MethodName := ⟨RX2, "findForerunners", "(LMatrixSheets$Dig;)V"⟩
abbrev c_P_layRows : ByteArray := prog_4_method_7_code
def y_P_layRows : MethodName := ⟨RX2, "layRows", "()V"⟩
abbrev c_P_layBends : ByteArray := prog_4_method_8_code
def y_P_layBends : MethodName := ⟨RX2, "layBends", "()V"⟩
abbrev c_L_above : ByteArray := method_3_code
def y_L_above : MethodName := ⟨RL, "above", "(LMatrixSheets;II[J)I"⟩
abbrev c_L_same : ByteArray := method_4_code
def y_L_same : MethodName := ⟨RL, "same", "(LMatrixSheets;II[J)I"⟩
abbrev c_L_phase : ByteArray := method_5_code
def y_L_phase : MethodName := ⟨RL, "phase", "(LMatrixSheets;II[J)I"⟩
abbrev c_L_hide : ByteArray := method_6_code
def y_L_hide : MethodName := ⟨RL, "hide", "(LMatrixSheets;IZ[J)I"⟩
abbrev c_L_group : ByteArray := method_7_code
def y_L_group : MethodName := ⟨RL, "group", "(LMatrixSheets;I[J)I"⟩
abbrev c_L_misfit : ByteArray := method_8_code
def y_L_misfit : MethodName := ⟨RL, "misfit", "(LMatrixSheets;II[J)I"⟩
abbrev c_L_draw : ByteArray := method_9_code
def y_L_draw : MethodName := ⟨RL, "draw", "(LMatrixSheets;I[J)I"⟩
abbrev c_L_crossings : ByteArray := method_10_code
def y_L_crossings : MethodName := ⟨RL, "crossings", "(LMatrixSheets;I[J)I"⟩
abbrev c_L_at : ByteArray := method_11_code
def y_L_at : MethodName := ⟨RL, "at", "(LMatrixSheets;II[J)I"⟩
abbrev c_L_links : ByteArray := method_12_code
def y_L_links : MethodName := ⟨RL, "links", "(LMatrixSheets;[J)I"⟩
abbrev c_L_link : ByteArray := method_13_code
def y_L_link : MethodName := ⟨RL, "link", "(LMatrixSheets;II[J)I"⟩
abbrev c_L_command : ByteArray := method_14_code
def y_L_command : MethodName := ⟨RL, "command", "(LMatrixSheets;I[J)I"⟩
abbrev c_L_count : ByteArray := method_15_code
def y_L_count : MethodName := ⟨RL, "count", "(LMatrixSheets;I[J)I"⟩
abbrev c_L_law : ByteArray := code
def y_L_law : MethodName := ⟨RL, "law", "([I)Z"⟩
/-- the words that every method of the two systems takes along: all of the tables' that a callee may take -/
def wsG : List Cond := lw_tbl.filter goodWord
theorem wsG_in {w : Cond} (h : w ∈ lw_tbl) (g : goodWord w = true) : w ∈ wsG := List.mem_filter.mpr ⟨h, g⟩
theorem wsG_good : ∀ w ∈ wsG, goodWord w = true := fun _ h => (List.mem_filter.mp h).2
theorem wsG_tbl : ∀ w ∈ wsG, w ∈ lw_tbl := fun _ h => (List.mem_filter.mp h).1
end
section
theorem d_D_init_0 : decode c_D_init 0 = .ok (.aload_n 0, 1) := by decide +kernel
theorem d_D_init_1 : decode c_D_init 1 = .ok (.invokespecial 3, 3) := by decide +kernel
theorem d_D_init_4 : decode c_D_init 4 = .ok (.aload_n 0, 1) := by decide +kernel
theorem d_D_init_5 : decode c_D_init 5 = .ok (.bipush 16, 2) := by decide +kernel
theorem d_D_init_7 : decode c_D_init 7 = .ok (.newarray .int, 2) := by decide +kernel
theorem d_D_init_9 : decode c_D_init 9 = .ok (.putfield 9, 3) := by decide +kernel
theorem d_D_init_12 : decode c_D_init 12 = .ok (.aload_n 0, 1) := by decide +kernel
theorem d_D_init_13 : decode c_D_init 13 = .ok (.bipush 16, 2) := by decide +kernel
theorem d_D_init_15 : decode c_D_init 15 = .ok (.newarray .int, 2) := by decide +kernel
theorem d_D_init_17 : decode c_D_init 17 = .ok (.putfield 15, 3) := by decide +kernel
theorem d_D_init_20 : decode c_D_init 20 = .ok (.aload_n 0, 1) := by decide +kernel
theorem d_D_init_21 : decode c_D_init 21 = .ok (.bipush 16, 2) := by decide +kernel
theorem d_D_init_23 : decode c_D_init 23 = .ok (.newarray .int, 2) := by decide +kernel
theorem d_D_init_25 : decode c_D_init 25 = .ok (.putfield 18, 3) := by decide +kernel
theorem d_D_init_28 : decode c_D_init 28 = .ok (.aload_n 0, 1) := by decide +kernel
theorem d_D_init_29 : decode c_D_init 29 = .ok (.bipush 16, 2) := by decide +kernel
theorem d_D_init_31 : decode c_D_init 31 = .ok (.newarray .int, 2) := by decide +kernel
theorem d_D_init_33 : decode c_D_init 33 = .ok (.putfield 21, 3) := by decide +kernel
theorem d_D_init_36 : decode c_D_init 36 = .ok (.aload_n 0, 1) := by decide +kernel
theorem d_D_init_37 : decode c_D_init 37 = .ok (.bipush 16, 2) := by decide +kernel
theorem d_D_init_39 : decode c_D_init 39 = .ok (.newarray .int, 2) := by decide +kernel
theorem d_D_init_41 : decode c_D_init 41 = .ok (.putfield 24, 3) := by decide +kernel
theorem d_D_init_44 : decode c_D_init 44 = .ok (.aload_n 0, 1) := by decide +kernel
theorem d_D_init_45 : decode c_D_init 45 = .ok (.bipush 16, 2) := by decide +kernel
theorem d_D_init_47 : decode c_D_init 47 = .ok (.newarray .int, 2) := by decide +kernel
theorem d_D_init_49 : decode c_D_init 49 = .ok (.putfield 27, 3) := by decide +kernel
theorem d_D_init_52 : decode c_D_init 52 = .ok (.iconst 0, 1) := by decide +kernel
theorem d_D_init_53 : decode c_D_init 53 = .ok (.istore_n 1, 1) := by decide +kernel
theorem d_D_init_54 : decode c_D_init 54 = .ok (.iload_n 1, 1) := by decide +kernel
theorem d_D_init_55 : decode c_D_init 55 = .ok (.bipush 16, 2) := by decide +kernel
theorem d_D_init_57 : decode c_D_init 57 = .ok (.if_icmp .ge 30, 3) := by decide +kernel
theorem d_D_init_60 : decode c_D_init 60 = .ok (.aload_n 0, 1) := by decide +kernel
theorem d_D_init_61 : decode c_D_init 61 = .ok (.getfield 9, 3) := by decide +kernel
theorem d_D_init_64 : decode c_D_init 64 = .ok (.iload_n 1, 1) := by decide +kernel
theorem d_D_init_65 : decode c_D_init 65 = .ok (.iload_n 1, 1) := by decide +kernel
theorem d_D_init_66 : decode c_D_init 66 = .ok (.iastore, 1) := by decide +kernel
theorem d_D_init_67 : decode c_D_init 67 = .ok (.aload_n 0, 1) := by decide +kernel
theorem d_D_init_68 : decode c_D_init 68 = .ok (.getfield 24, 3) := by decide +kernel
theorem d_D_init_71 : decode c_D_init 71 = .ok (.iload_n 1, 1) := by decide +kernel
theorem d_D_init_72 : decode c_D_init 72 = .ok (.iconst (-1), 1) := by decide +kernel
theorem d_D_init_73 : decode c_D_init 73 = .ok (.iastore, 1) := by decide +kernel
theorem d_D_init_74 : decode c_D_init 74 = .ok (.aload_n 0, 1) := by decide +kernel
theorem d_D_init_75 : decode c_D_init 75 = .ok (.getfield 15, 3) := by decide +kernel
theorem d_D_init_78 : decode c_D_init 78 = .ok (.iload_n 1, 1) := by decide +kernel
theorem d_D_init_79 : decode c_D_init 79 = .ok (.iconst (-1), 1) := by decide +kernel
theorem d_D_init_80 : decode c_D_init 80 = .ok (.iastore, 1) := by decide +kernel
theorem d_D_init_81 : decode c_D_init 81 = .ok (.iinc 1 1, 3) := by decide +kernel
theorem d_D_init_84 : decode c_D_init 84 = .ok (.goto (-30), 3) := by decide +kernel
theorem d_D_init_87 : decode c_D_init 87 = .ok (.return_, 1) := by decide +kernel
theorem d_D_tellAbove_0 : decode c_D_tellAbove 0 = .ok (.aload_n 0, 1) := by decide +kernel
theorem d_D_tellAbove_1 : decode c_D_tellAbove 1 = .ok (.getfield 21, 3) := by decide +kernel
theorem d_D_tellAbove_4 : decode c_D_tellAbove 4 = .ok (.iload_n 1, 1) := by decide +kernel
theorem d_D_tellAbove_5 : decode c_D_tellAbove 5 = .ok (.iaload, 1) := by decide +kernel
theorem d_D_tellAbove_6 : decode c_D_tellAbove 6 = .ok (.iload_n 2, 1) := by decide +kernel
theorem d_D_tellAbove_7 : decode c_D_tellAbove 7 = .ok (.invokestatic 30, 3) := by decide +kernel
theorem d_D_tellAbove_10 : decode c_D_tellAbove 10 = .ok (.ifCond .eq 5, 3) := by decide +kernel
theorem d_D_tellAbove_13 : decode c_D_tellAbove 13 = .ok (.iconst 0, 1) := by decide +kernel
theorem d_D_tellAbove_14 : decode c_D_tellAbove 14 = .ok (.ireturn, 1) := by decide +kernel
theorem d_D_tellAbove_15 : decode c_D_tellAbove 15 = .ok (.aload_n 0, 1) := by decide +kernel
theorem d_D_tellAbove_16 : decode c_D_tellAbove 16 = .ok (.getfield 9, 3) := by decide +kernel
theorem d_D_tellAbove_19 : decode c_D_tellAbove 19 = .ok (.iload_n 1, 1) := by decide +kernel
theorem d_D_tellAbove_20 : decode c_D_tellAbove 20 = .ok (.iaload, 1) := by decide +kernel
theorem d_D_tellAbove_21 : decode c_D_tellAbove 21 = .ok (.aload_n 0, 1) := by decide +kernel
theorem d_D_tellAbove_22 : decode c_D_tellAbove 22 = .ok (.getfield 9, 3) := by decide +kernel
theorem d_D_tellAbove_25 : decode c_D_tellAbove 25 = .ok (.iload_n 2, 1) := by decide +kernel
theorem d_D_tellAbove_26 : decode c_D_tellAbove 26 = .ok (.iaload, 1) := by decide +kernel
theorem d_D_tellAbove_27 : decode c_D_tellAbove 27 = .ok (.if_icmp .eq 26, 3) := by decide +kernel
theorem d_D_tellAbove_30 : decode c_D_tellAbove 30 = .ok (.aload_n 0, 1) := by decide +kernel
theorem d_D_tellAbove_31 : decode c_D_tellAbove 31 = .ok (.getfield 27, 3) := by decide +kernel
theorem d_D_tellAbove_34 : decode c_D_tellAbove 34 = .ok (.aload_n 0, 1) := by decide +kernel
theorem d_D_tellAbove_35 : decode c_D_tellAbove 35 = .ok (.getfield 9, 3) := by decide +kernel
theorem d_D_tellAbove_38 : decode c_D_tellAbove 38 = .ok (.iload_n 2, 1) := by decide +kernel
theorem d_D_tellAbove_39 : decode c_D_tellAbove 39 = .ok (.iaload, 1) := by decide +kernel
theorem d_D_tellAbove_40 : decode c_D_tellAbove 40 = .ok (.iaload, 1) := by decide +kernel
theorem d_D_tellAbove_41 : decode c_D_tellAbove 41 = .ok (.aload_n 0, 1) := by decide +kernel
theorem d_D_tellAbove_42 : decode c_D_tellAbove 42 = .ok (.getfield 9, 3) := by decide +kernel
theorem d_D_tellAbove_45 : decode c_D_tellAbove 45 = .ok (.iload_n 1, 1) := by decide +kernel
theorem d_D_tellAbove_46 : decode c_D_tellAbove 46 = .ok (.iaload, 1) := by decide +kernel
theorem d_D_tellAbove_47 : decode c_D_tellAbove 47 = .ok (.invokestatic 30, 3) := by decide +kernel
theorem d_D_tellAbove_50 : decode c_D_tellAbove 50 = .ok (.ifCond .eq 5, 3) := by decide +kernel
theorem d_D_tellAbove_53 : decode c_D_tellAbove 53 = .ok (.iconst (-1), 1) := by decide +kernel
theorem d_D_tellAbove_54 : decode c_D_tellAbove 54 = .ok (.ireturn, 1) := by decide +kernel
theorem d_D_tellAbove_55 : decode c_D_tellAbove 55 = .ok (.aload_n 0, 1) := by decide +kernel
theorem d_D_tellAbove_56 : decode c_D_tellAbove 56 = .ok (.getfield 21, 3) := by decide +kernel
theorem d_D_tellAbove_59 : decode c_D_tellAbove 59 = .ok (.iload_n 1, 1) := by decide +kernel
theorem d_D_tellAbove_60 : decode c_D_tellAbove 60 = .ok (.dup2, 1) := by decide +kernel
theorem d_D_tellAbove_61 : decode c_D_tellAbove 61 = .ok (.iaload, 1) := by decide +kernel
theorem d_D_tellAbove_62 : decode c_D_tellAbove 62 = .ok (.iconst 1, 1) := by decide +kernel
theorem d_D_tellAbove_63 : decode c_D_tellAbove 63 = .ok (.iload_n 2, 1) := by decide +kernel
theorem d_D_tellAbove_64 : decode c_D_tellAbove 64 = .ok (.ishl, 1) := by decide +kernel
theorem d_D_tellAbove_65 : decode c_D_tellAbove 65 = .ok (.ior, 1) := by decide +kernel
theorem d_D_tellAbove_66 : decode c_D_tellAbove 66 = .ok (.iastore, 1) := by decide +kernel
theorem d_D_tellAbove_67 : decode c_D_tellAbove 67 = .ok (.aload_n 0, 1) := by decide +kernel
theorem d_D_tellAbove_68 : decode c_D_tellAbove 68 = .ok (.dup, 1) := by decide +kernel
theorem d_D_tellAbove_69 : decode c_D_tellAbove 69 = .ok (.getfield 34, 3) := by decide +kernel
theorem d_D_tellAbove_72 : decode c_D_tellAbove 72 = .ok (.iconst 1, 1) := by decide +kernel
theorem d_D_tellAbove_73 : decode c_D_tellAbove 73 = .ok (.iadd, 1) := by decide +kernel
theorem d_D_tellAbove_74 : decode c_D_tellAbove 74 = .ok (.putfield 34, 3) := by decide +kernel
theorem d_D_tellAbove_77 : decode c_D_tellAbove 77 = .ok (.aload_n 0, 1) := by decide +kernel
theorem d_D_tellAbove_78 : decode c_D_tellAbove 78 = .ok (.dup, 1) := by decide +kernel
theorem d_D_tellAbove_79 : decode c_D_tellAbove 79 = .ok (.getfield 38, 3) := by decide +kernel
theorem d_D_tellAbove_82 : decode c_D_tellAbove 82 = .ok (.iconst 1, 1) := by decide +kernel
theorem d_D_tellAbove_83 : decode c_D_tellAbove 83 = .ok (.iload_n 1, 1) := by decide +kernel
theorem d_D_tellAbove_84 : decode c_D_tellAbove 84 = .ok (.ishl, 1) := by decide +kernel
theorem d_D_tellAbove_85 : decode c_D_tellAbove 85 = .ok (.iconst 1, 1) := by decide +kernel
theorem d_D_tellAbove_86 : decode c_D_tellAbove 86 = .ok (.iload_n 2, 1) := by decide +kernel
theorem d_D_tellAbove_87 : decode c_D_tellAbove 87 = .ok (.ishl, 1) := by decide +kernel
theorem d_D_tellAbove_88 : decode c_D_tellAbove 88 = .ok (.ior, 1) := by decide +kernel
theorem d_D_tellAbove_89 : decode c_D_tellAbove 89 = .ok (.ior, 1) := by decide +kernel
theorem d_D_tellAbove_90 : decode c_D_tellAbove 90 = .ok (.putfield 38, 3) := by decide +kernel
theorem d_D_tellAbove_93 : decode c_D_tellAbove 93 = .ok (.aload_n 0, 1) := by decide +kernel
theorem d_D_tellAbove_94 : decode c_D_tellAbove 94 = .ok (.invokevirtual 41, 3) := by decide +kernel
theorem d_D_tellAbove_97 : decode c_D_tellAbove 97 = .ok (.iconst 1, 1) := by decide +kernel
theorem d_D_tellAbove_98 : decode c_D_tellAbove 98 = .ok (.ireturn, 1) := by decide +kernel
theorem d_D_tellSame_0 : decode c_D_tellSame 0 = .ok (.aload_n 0, 1) := by decide +kernel
theorem d_D_tellSame_1 : decode c_D_tellSame 1 = .ok (.getfield 9, 3) := by decide +kernel
theorem d_D_tellSame_4 : decode c_D_tellSame 4 = .ok (.iload_n 1, 1) := by decide +kernel
theorem d_D_tellSame_5 : decode c_D_tellSame 5 = .ok (.iaload, 1) := by decide +kernel
theorem d_D_tellSame_6 : decode c_D_tellSame 6 = .ok (.istore_n 3, 1) := by decide +kernel
theorem d_D_tellSame_7 : decode c_D_tellSame 7 = .ok (.aload_n 0, 1) := by decide +kernel
theorem d_D_tellSame_8 : decode c_D_tellSame 8 = .ok (.getfield 9, 3) := by decide +kernel
theorem d_D_tellSame_11 : decode c_D_tellSame 11 = .ok (.iload_n 2, 1) := by decide +kernel
theorem d_D_tellSame_12 : decode c_D_tellSame 12 = .ok (.iaload, 1) := by decide +kernel
theorem d_D_tellSame_13 : decode c_D_tellSame 13 = .ok (.istore 4, 2) := by decide +kernel
theorem d_D_tellSame_15 : decode c_D_tellSame 15 = .ok (.iload_n 3, 1) := by decide +kernel
theorem d_D_tellSame_16 : decode c_D_tellSame 16 = .ok (.iload 4, 2) := by decide +kernel
theorem d_D_tellSame_18 : decode c_D_tellSame 18 = .ok (.if_icmp .ne 5, 3) := by decide +kernel
theorem d_D_tellSame_21 : decode c_D_tellSame 21 = .ok (.iconst 0, 1) := by decide +kernel
theorem d_D_tellSame_22 : decode c_D_tellSame 22 = .ok (.ireturn, 1) := by decide +kernel
theorem d_D_tellSame_23 : decode c_D_tellSame 23 = .ok (.aload_n 0, 1) := by decide +kernel
theorem d_D_tellSame_24 : decode c_D_tellSame 24 = .ok (.getfield 27, 3) := by decide +kernel
theorem d_D_tellSame_27 : decode c_D_tellSame 27 = .ok (.iload_n 3, 1) := by decide +kernel
theorem d_D_tellSame_28 : decode c_D_tellSame 28 = .ok (.iaload, 1) := by decide +kernel
theorem d_D_tellSame_29 : decode c_D_tellSame 29 = .ok (.iload 4, 2) := by decide +kernel
theorem d_D_tellSame_31 : decode c_D_tellSame 31 = .ok (.invokestatic 30, 3) := by decide +kernel
theorem d_D_tellSame_34 : decode c_D_tellSame 34 = .ok (.ifCond .ne 17, 3) := by decide +kernel
theorem d_D_tellSame_37 : decode c_D_tellSame 37 = .ok (.aload_n 0, 1) := by decide +kernel
theorem d_D_tellSame_38 : decode c_D_tellSame 38 = .ok (.getfield 27, 3) := by decide +kernel
theorem d_D_tellSame_41 : decode c_D_tellSame 41 = .ok (.iload 4, 2) := by decide +kernel
theorem d_D_tellSame_43 : decode c_D_tellSame 43 = .ok (.iaload, 1) := by decide +kernel
theorem d_D_tellSame_44 : decode c_D_tellSame 44 = .ok (.iload_n 3, 1) := by decide +kernel
theorem d_D_tellSame_45 : decode c_D_tellSame 45 = .ok (.invokestatic 30, 3) := by decide +kernel
theorem d_D_tellSame_48 : decode c_D_tellSame 48 = .ok (.ifCond .eq 5, 3) := by decide +kernel
theorem d_D_tellSame_51 : decode c_D_tellSame 51 = .ok (.iconst (-1), 1) := by decide +kernel
theorem d_D_tellSame_52 : decode c_D_tellSame 52 = .ok (.ireturn, 1) := by decide +kernel
theorem d_D_tellSame_53 : decode c_D_tellSame 53 = .ok (.aload_n 0, 1) := by decide +kernel
theorem d_D_tellSame_54 : decode c_D_tellSame 54 = .ok (.iload_n 3, 1) := by decide +kernel
theorem d_D_tellSame_55 : decode c_D_tellSame 55 = .ok (.iload 4, 2) := by decide +kernel
theorem d_D_tellSame_57 : decode c_D_tellSame 57 = .ok (.invokestatic 44, 3) := by decide +kernel
theorem d_D_tellSame_60 : decode c_D_tellSame 60 = .ok (.iload_n 3, 1) := by decide +kernel
theorem d_D_tellSame_61 : decode c_D_tellSame 61 = .ok (.iload 4, 2) := by decide +kernel
theorem d_D_tellSame_63 : decode c_D_tellSame 63 = .ok (.invokestatic 50, 3) := by decide +kernel
theorem d_D_tellSame_66 : decode c_D_tellSame 66 = .ok (.invokevirtual 53, 3) := by decide +kernel
theorem d_D_tellSame_69 : decode c_D_tellSame 69 = .ok (.aload_n 0, 1) := by decide +kernel
theorem d_D_tellSame_70 : decode c_D_tellSame 70 = .ok (.dup, 1) := by decide +kernel
theorem d_D_tellSame_71 : decode c_D_tellSame 71 = .ok (.getfield 38, 3) := by decide +kernel
theorem d_D_tellSame_74 : decode c_D_tellSame 74 = .ok (.iconst 1, 1) := by decide +kernel
theorem d_D_tellSame_75 : decode c_D_tellSame 75 = .ok (.iload_n 1, 1) := by decide +kernel
theorem d_D_tellSame_76 : decode c_D_tellSame 76 = .ok (.ishl, 1) := by decide +kernel
theorem d_D_tellSame_77 : decode c_D_tellSame 77 = .ok (.iconst 1, 1) := by decide +kernel
theorem d_D_tellSame_78 : decode c_D_tellSame 78 = .ok (.iload_n 2, 1) := by decide +kernel
theorem d_D_tellSame_79 : decode c_D_tellSame 79 = .ok (.ishl, 1) := by decide +kernel
theorem d_D_tellSame_80 : decode c_D_tellSame 80 = .ok (.ior, 1) := by decide +kernel
theorem d_D_tellSame_81 : decode c_D_tellSame 81 = .ok (.ior, 1) := by decide +kernel
theorem d_D_tellSame_82 : decode c_D_tellSame 82 = .ok (.putfield 38, 3) := by decide +kernel
theorem d_D_tellSame_85 : decode c_D_tellSame 85 = .ok (.aload_n 0, 1) := by decide +kernel
theorem d_D_tellSame_86 : decode c_D_tellSame 86 = .ok (.invokevirtual 41, 3) := by decide +kernel
theorem d_D_tellSame_89 : decode c_D_tellSame 89 = .ok (.iconst 1, 1) := by decide +kernel
theorem d_D_tellSame_90 : decode c_D_tellSame 90 = .ok (.ireturn, 1) := by decide +kernel
theorem d_D_tellPhase_0 : decode c_D_tellPhase 0 = .ok (.aload_n 0, 1) := by decide +kernel
theorem d_D_tellPhase_1 : decode c_D_tellPhase 1 = .ok (.getfield 24, 3) := by decide +kernel
theorem d_D_tellPhase_4 : decode c_D_tellPhase 4 = .ok (.iload_n 1, 1) := by decide +kernel
theorem d_D_tellPhase_5 : decode c_D_tellPhase 5 = .ok (.iaload, 1) := by decide +kernel
theorem d_D_tellPhase_6 : decode c_D_tellPhase 6 = .ok (.istore_n 3, 1) := by decide +kernel
theorem d_D_tellPhase_7 : decode c_D_tellPhase 7 = .ok (.aload_n 0, 1) := by decide +kernel
theorem d_D_tellPhase_8 : decode c_D_tellPhase 8 = .ok (.getfield 24, 3) := by decide +kernel
theorem d_D_tellPhase_11 : decode c_D_tellPhase 11 = .ok (.iload_n 1, 1) := by decide +kernel
theorem d_D_tellPhase_12 : decode c_D_tellPhase 12 = .ok (.iload_n 2, 1) := by decide +kernel
theorem d_D_tellPhase_13 : decode c_D_tellPhase 13 = .ok (.iastore, 1) := by decide +kernel
theorem d_D_tellPhase_14 : decode c_D_tellPhase 14 = .ok (.aload_n 0, 1) := by decide +kernel
theorem d_D_tellPhase_15 : decode c_D_tellPhase 15 = .ok (.dup, 1) := by decide +kernel
theorem d_D_tellPhase_16 : decode c_D_tellPhase 16 = .ok (.getfield 38, 3) := by decide +kernel
theorem d_D_tellPhase_19 : decode c_D_tellPhase 19 = .ok (.iconst 1, 1) := by decide +kernel
theorem d_D_tellPhase_20 : decode c_D_tellPhase 20 = .ok (.iload_n 1, 1) := by decide +kernel
theorem d_D_tellPhase_21 : decode c_D_tellPhase 21 = .ok (.ishl, 1) := by decide +kernel
theorem d_D_tellPhase_22 : decode c_D_tellPhase 22 = .ok (.ior, 1) := by decide +kernel
theorem d_D_tellPhase_23 : decode c_D_tellPhase 23 = .ok (.putfield 38, 3) := by decide +kernel
theorem d_D_tellPhase_26 : decode c_D_tellPhase 26 = .ok (.aload_n 0, 1) := by decide +kernel
theorem d_D_tellPhase_27 : decode c_D_tellPhase 27 = .ok (.invokevirtual 41, 3) := by decide +kernel
theorem d_D_tellPhase_30 : decode c_D_tellPhase 30 = .ok (.iload_n 3, 1) := by decide +kernel
theorem d_D_tellPhase_31 : decode c_D_tellPhase 31 = .ok (.ireturn, 1) := by decide +kernel
theorem d_D_tellHidden_0 : decode c_D_tellHidden 0 = .ok (.aload_n 0, 1) := by decide +kernel
theorem d_D_tellHidden_1 : decode c_D_tellHidden 1 = .ok (.getfield 57, 3) := by decide +kernel
theorem d_D_tellHidden_4 : decode c_D_tellHidden 4 = .ok (.iload_n 1, 1) := by decide +kernel
theorem d_D_tellHidden_5 : decode c_D_tellHidden 5 = .ok (.invokestatic 30, 3) := by decide +kernel
theorem d_D_tellHidden_8 : decode c_D_tellHidden 8 = .ok (.iload_n 2, 1) := by decide +kernel
theorem d_D_tellHidden_9 : decode c_D_tellHidden 9 = .ok (.if_icmp .ne 5, 3) := by decide +kernel
theorem d_D_tellHidden_12 : decode c_D_tellHidden 12 = .ok (.iconst 0, 1) := by decide +kernel
theorem d_D_tellHidden_13 : decode c_D_tellHidden 13 = .ok (.ireturn, 1) := by decide +kernel
theorem d_D_tellHidden_14 : decode c_D_tellHidden 14 = .ok (.aload_n 0, 1) := by decide +kernel
theorem d_D_tellHidden_15 : decode c_D_tellHidden 15 = .ok (.dup, 1) := by decide +kernel
theorem d_D_tellHidden_16 : decode c_D_tellHidden 16 = .ok (.getfield 57, 3) := by decide +kernel
theorem d_D_tellHidden_19 : decode c_D_tellHidden 19 = .ok (.iconst 1, 1) := by decide +kernel
theorem d_D_tellHidden_20 : decode c_D_tellHidden 20 = .ok (.iload_n 1, 1) := by decide +kernel
theorem d_D_tellHidden_21 : decode c_D_tellHidden 21 = .ok (.ishl, 1) := by decide +kernel
theorem d_D_tellHidden_22 : decode c_D_tellHidden 22 = .ok (.ixor, 1) := by decide +kernel
theorem d_D_tellHidden_23 : decode c_D_tellHidden 23 = .ok (.putfield 57, 3) := by decide +kernel
theorem d_D_tellHidden_26 : decode c_D_tellHidden 26 = .ok (.aload_n 0, 1) := by decide +kernel
theorem d_D_tellHidden_27 : decode c_D_tellHidden 27 = .ok (.dup, 1) := by decide +kernel
theorem d_D_tellHidden_28 : decode c_D_tellHidden 28 = .ok (.getfield 38, 3) := by decide +kernel
theorem d_D_tellHidden_31 : decode c_D_tellHidden 31 = .ok (.iconst 1, 1) := by decide +kernel
theorem d_D_tellHidden_32 : decode c_D_tellHidden 32 = .ok (.iload_n 1, 1) := by decide +kernel
theorem d_D_tellHidden_33 : decode c_D_tellHidden 33 = .ok (.ishl, 1) := by decide +kernel
theorem d_D_tellHidden_34 : decode c_D_tellHidden 34 = .ok (.ior, 1) := by decide +kernel
theorem d_D_tellHidden_35 : decode c_D_tellHidden 35 = .ok (.putfield 38, 3) := by decide +kernel
theorem d_D_tellHidden_38 : decode c_D_tellHidden 38 = .ok (.iconst 1, 1) := by decide +kernel
theorem d_D_tellHidden_39 : decode c_D_tellHidden 39 = .ok (.ireturn, 1) := by decide +kernel
theorem d_D_leadersOf_0 : decode c_D_leadersOf 0 = .ok (.iconst 0, 1) := by decide +kernel
theorem d_D_leadersOf_1 : decode c_D_leadersOf 1 = .ok (.istore_n 2, 1) := by decide +kernel
theorem d_D_leadersOf_2 : decode c_D_leadersOf 2 = .ok (.iconst 0, 1) := by decide +kernel
theorem d_D_leadersOf_3 : decode c_D_leadersOf 3 = .ok (.istore_n 3, 1) := by decide +kernel
theorem d_D_leadersOf_4 : decode c_D_leadersOf 4 = .ok (.iload_n 3, 1) := by decide +kernel
theorem d_D_leadersOf_5 : decode c_D_leadersOf 5 = .ok (.bipush 16, 2) := by decide +kernel
theorem d_D_leadersOf_7 : decode c_D_leadersOf 7 = .ok (.if_icmp .ge 28, 3) := by decide +kernel
theorem d_D_leadersOf_10 : decode c_D_leadersOf 10 = .ok (.iload_n 1, 1) := by decide +kernel
theorem d_D_leadersOf_11 : decode c_D_leadersOf 11 = .ok (.iload_n 3, 1) := by decide +kernel
theorem d_D_leadersOf_12 : decode c_D_leadersOf 12 = .ok (.invokestatic 30, 3) := by decide +kernel
theorem d_D_leadersOf_15 : decode c_D_leadersOf 15 = .ok (.ifCond .eq 14, 3) := by decide +kernel
theorem d_D_leadersOf_18 : decode c_D_leadersOf 18 = .ok (.iload_n 2, 1) := by decide +kernel
theorem d_D_leadersOf_19 : decode c_D_leadersOf 19 = .ok (.iconst 1, 1) := by decide +kernel
theorem d_D_leadersOf_20 : decode c_D_leadersOf 20 = .ok (.aload_n 0, 1) := by decide +kernel
theorem d_D_leadersOf_21 : decode c_D_leadersOf 21 = .ok (.getfield 9, 3) := by decide +kernel
theorem d_D_leadersOf_24 : decode c_D_leadersOf 24 = .ok (.iload_n 3, 1) := by decide +kernel
theorem d_D_leadersOf_25 : decode c_D_leadersOf 25 = .ok (.iaload, 1) := by decide +kernel
theorem d_D_leadersOf_26 : decode c_D_leadersOf 26 = .ok (.ishl, 1) := by decide +kernel
theorem d_D_leadersOf_27 : decode c_D_leadersOf 27 = .ok (.ior, 1) := by decide +kernel
theorem d_D_leadersOf_28 : decode c_D_leadersOf 28 = .ok (.istore_n 2, 1) := by decide +kernel
theorem d_D_leadersOf_29 : decode c_D_leadersOf 29 = .ok (.iinc 3 1, 3) := by decide +kernel
theorem d_D_leadersOf_32 : decode c_D_leadersOf 32 = .ok (.goto (-28), 3) := by decide +kernel
theorem d_D_leadersOf_35 : decode c_D_leadersOf 35 = .ok (.iload_n 2, 1) := by decide +kernel
theorem d_D_leadersOf_36 : decode c_D_leadersOf 36 = .ok (.ireturn, 1) := by decide +kernel
theorem d_D_findMisfit_0 : decode c_D_findMisfit 0 = .ok (.iload_n 1, 1) := by decide +kernel
theorem d_D_findMisfit_1 : decode c_D_findMisfit 1 = .ok (.istore_n 2, 1) := by decide +kernel
theorem d_D_findMisfit_2 : decode c_D_findMisfit 2 = .ok (.iconst 0, 1) := by decide +kernel
theorem d_D_findMisfit_3 : decode c_D_findMisfit 3 = .ok (.istore_n 3, 1) := by decide +kernel
theorem d_D_findMisfit_4 : decode c_D_findMisfit 4 = .ok (.iload_n 3, 1) := by decide +kernel
theorem d_D_findMisfit_5 : decode c_D_findMisfit 5 = .ok (.bipush 16, 2) := by decide +kernel
theorem d_D_findMisfit_7 : decode c_D_findMisfit 7 = .ok (.if_icmp .ge 64, 3) := by decide +kernel
theorem d_D_findMisfit_10 : decode c_D_findMisfit 10 = .ok (.iconst 0, 1) := by decide +kernel
theorem d_D_findMisfit_11 : decode c_D_findMisfit 11 = .ok (.istore 4, 2) := by decide +kernel
theorem d_D_findMisfit_13 : decode c_D_findMisfit 13 = .ok (.iload 4, 2) := by decide +kernel
theorem d_D_findMisfit_15 : decode c_D_findMisfit 15 = .ok (.bipush 16, 2) := by decide +kernel
theorem d_D_findMisfit_17 : decode c_D_findMisfit 17 = .ok (.if_icmp .ge 48, 3) := by decide +kernel
theorem d_D_findMisfit_20 : decode c_D_findMisfit 20 = .ok (.aload_n 0, 1) := by decide +kernel
theorem d_D_findMisfit_21 : decode c_D_findMisfit 21 = .ok (.getfield 27, 3) := by decide +kernel
theorem d_D_findMisfit_24 : decode c_D_findMisfit 24 = .ok (.iload_n 3, 1) := by decide +kernel
theorem d_D_findMisfit_25 : decode c_D_findMisfit 25 = .ok (.iaload, 1) := by decide +kernel
theorem d_D_findMisfit_26 : decode c_D_findMisfit 26 = .ok (.iload 4, 2) := by decide +kernel
theorem d_D_findMisfit_28 : decode c_D_findMisfit 28 = .ok (.invokestatic 30, 3) := by decide +kernel
theorem d_D_findMisfit_31 : decode c_D_findMisfit 31 = .ok (.ifCond .eq 28, 3) := by decide +kernel
theorem d_D_findMisfit_34 : decode c_D_findMisfit 34 = .ok (.aload_n 0, 1) := by decide +kernel
theorem d_D_findMisfit_35 : decode c_D_findMisfit 35 = .ok (.iload_n 3, 1) := by decide +kernel
theorem d_D_findMisfit_36 : decode c_D_findMisfit 36 = .ok (.iload 4, 2) := by decide +kernel
theorem d_D_findMisfit_38 : decode c_D_findMisfit 38 = .ok (.invokevirtual 60, 3) := by decide +kernel
theorem d_D_findMisfit_41 : decode c_D_findMisfit 41 = .ok (.ifCond .eq 18, 3) := by decide +kernel
theorem d_D_findMisfit_44 : decode c_D_findMisfit 44 = .ok (.iload_n 2, 1) := by decide +kernel
theorem d_D_findMisfit_45 : decode c_D_findMisfit 45 = .ok (.ifCond .ne 11, 3) := by decide +kernel
theorem d_D_findMisfit_48 : decode c_D_findMisfit 48 = .ok (.bipush 16, 2) := by decide +kernel
theorem d_D_findMisfit_50 : decode c_D_findMisfit 50 = .ok (.iload_n 3, 1) := by decide +kernel
theorem d_D_findMisfit_51 : decode c_D_findMisfit 51 = .ok (.imul, 1) := by decide +kernel
theorem d_D_findMisfit_52 : decode c_D_findMisfit 52 = .ok (.iload 4, 2) := by decide +kernel
theorem d_D_findMisfit_54 : decode c_D_findMisfit 54 = .ok (.iadd, 1) := by decide +kernel
theorem d_D_findMisfit_55 : decode c_D_findMisfit 55 = .ok (.ireturn, 1) := by decide +kernel
theorem d_D_findMisfit_56 : decode c_D_findMisfit 56 = .ok (.iinc 2 (-1), 3) := by decide +kernel
theorem d_D_findMisfit_59 : decode c_D_findMisfit 59 = .ok (.iinc 4 1, 3) := by decide +kernel
theorem d_D_findMisfit_62 : decode c_D_findMisfit 62 = .ok (.goto (-49), 3) := by decide +kernel
theorem d_D_findMisfit_65 : decode c_D_findMisfit 65 = .ok (.iinc 3 1, 3) := by decide +kernel
theorem d_D_findMisfit_68 : decode c_D_findMisfit 68 = .ok (.goto (-64), 3) := by decide +kernel
theorem d_D_findMisfit_71 : decode c_D_findMisfit 71 = .ok (.iconst (-1), 1) := by decide +kernel
theorem d_D_findMisfit_72 : decode c_D_findMisfit 72 = .ok (.ireturn, 1) := by decide +kernel
theorem d_D_isLaterPhase_0 : decode c_D_isLaterPhase 0 = .ok (.aload_n 0, 1) := by decide +kernel
theorem d_D_isLaterPhase_1 : decode c_D_isLaterPhase 1 = .ok (.getfield 15, 3) := by decide +kernel
theorem d_D_isLaterPhase_4 : decode c_D_isLaterPhase 4 = .ok (.iload_n 2, 1) := by decide +kernel
theorem d_D_isLaterPhase_5 : decode c_D_isLaterPhase 5 = .ok (.iaload, 1) := by decide +kernel
theorem d_D_isLaterPhase_6 : decode c_D_isLaterPhase 6 = .ok (.iconst (-1), 1) := by decide +kernel
theorem d_D_isLaterPhase_7 : decode c_D_isLaterPhase 7 = .ok (.if_icmp .eq 22, 3) := by decide +kernel
theorem d_D_isLaterPhase_10 : decode c_D_isLaterPhase 10 = .ok (.aload_n 0, 1) := by decide +kernel
theorem d_D_isLaterPhase_11 : decode c_D_isLaterPhase 11 = .ok (.getfield 15, 3) := by decide +kernel
theorem d_D_isLaterPhase_14 : decode c_D_isLaterPhase 14 = .ok (.iload_n 1, 1) := by decide +kernel
theorem d_D_isLaterPhase_15 : decode c_D_isLaterPhase 15 = .ok (.iaload, 1) := by decide +kernel
theorem d_D_isLaterPhase_16 : decode c_D_isLaterPhase 16 = .ok (.aload_n 0, 1) := by decide +kernel
theorem d_D_isLaterPhase_17 : decode c_D_isLaterPhase 17 = .ok (.getfield 15, 3) := by decide +kernel
theorem d_D_isLaterPhase_20 : decode c_D_isLaterPhase 20 = .ok (.iload_n 2, 1) := by decide +kernel
theorem d_D_isLaterPhase_21 : decode c_D_isLaterPhase 21 = .ok (.iaload, 1) := by decide +kernel
theorem d_D_isLaterPhase_22 : decode c_D_isLaterPhase 22 = .ok (.if_icmp .le 7, 3) := by decide +kernel
theorem d_D_isLaterPhase_25 : decode c_D_isLaterPhase 25 = .ok (.iconst 1, 1) := by decide +kernel
theorem d_D_isLaterPhase_26 : decode c_D_isLaterPhase 26 = .ok (.goto 4, 3) := by decide +kernel
theorem d_D_isLaterPhase_29 : decode c_D_isLaterPhase 29 = .ok (.iconst 0, 1) := by decide +kernel
theorem d_D_isLaterPhase_30 : decode c_D_isLaterPhase 30 = .ok (.ireturn, 1) := by decide +kernel
theorem d_D_join_0 : decode c_D_join 0 = .ok (.iconst 0, 1) := by decide +kernel
theorem d_D_join_1 : decode c_D_join 1 = .ok (.istore_n 3, 1) := by decide +kernel
theorem d_D_join_2 : decode c_D_join 2 = .ok (.iload_n 3, 1) := by decide +kernel
theorem d_D_join_3 : decode c_D_join 3 = .ok (.bipush 16, 2) := by decide +kernel
theorem d_D_join_5 : decode c_D_join 5 = .ok (.if_icmp .ge 26, 3) := by decide +kernel
theorem d_D_join_8 : decode c_D_join 8 = .ok (.aload_n 0, 1) := by decide +kernel
theorem d_D_join_9 : decode c_D_join 9 = .ok (.getfield 9, 3) := by decide +kernel
theorem d_D_join_12 : decode c_D_join 12 = .ok (.iload_n 3, 1) := by decide +kernel
theorem d_D_join_13 : decode c_D_join 13 = .ok (.iaload, 1) := by decide +kernel
theorem d_D_join_14 : decode c_D_join 14 = .ok (.iload_n 2, 1) := by decide +kernel
theorem d_D_join_15 : decode c_D_join 15 = .ok (.if_icmp .ne 10, 3) := by decide +kernel
theorem d_D_join_18 : decode c_D_join 18 = .ok (.aload_n 0, 1) := by decide +kernel
theorem d_D_join_19 : decode c_D_join 19 = .ok (.getfield 9, 3) := by decide +kernel
theorem d_D_join_22 : decode c_D_join 22 = .ok (.iload_n 3, 1) := by decide +kernel
theorem d_D_join_23 : decode c_D_join 23 = .ok (.iload_n 1, 1) := by decide +kernel
theorem d_D_join_24 : decode c_D_join 24 = .ok (.iastore, 1) := by decide +kernel
theorem d_D_join_25 : decode c_D_join 25 = .ok (.iinc 3 1, 3) := by decide +kernel
theorem d_D_join_28 : decode c_D_join 28 = .ok (.goto (-26), 3) := by decide +kernel
theorem d_D_join_31 : decode c_D_join 31 = .ok (.return_, 1) := by decide +kernel
theorem d_D_settle_0 : decode c_D_settle 0 = .ok (.iconst 0, 1) := by decide +kernel
theorem d_D_settle_1 : decode c_D_settle 1 = .ok (.istore_n 1, 1) := by decide +kernel
theorem d_D_settle_2 : decode c_D_settle 2 = .ok (.iload_n 1, 1) := by decide +kernel
theorem d_D_settle_3 : decode c_D_settle 3 = .ok (.bipush 16, 2) := by decide +kernel
theorem d_D_settle_5 : decode c_D_settle 5 = .ok (.if_icmp .ge 23, 3) := by decide +kernel
theorem d_D_settle_8 : decode c_D_settle 8 = .ok (.aload_n 0, 1) := by decide +kernel
theorem d_D_settle_9 : decode c_D_settle 9 = .ok (.getfield 18, 3) := by decide +kernel
theorem d_D_settle_12 : decode c_D_settle 12 = .ok (.iload_n 1, 1) := by decide +kernel
theorem d_D_settle_13 : decode c_D_settle 13 = .ok (.iconst 0, 1) := by decide +kernel
theorem d_D_settle_14 : decode c_D_settle 14 = .ok (.iastore, 1) := by decide +kernel
theorem d_D_settle_15 : decode c_D_settle 15 = .ok (.aload_n 0, 1) := by decide +kernel
theorem d_D_settle_16 : decode c_D_settle 16 = .ok (.getfield 15, 3) := by decide +kernel
theorem d_D_settle_19 : decode c_D_settle 19 = .ok (.iload_n 1, 1) := by decide +kernel
theorem d_D_settle_20 : decode c_D_settle 20 = .ok (.iconst (-1), 1) := by decide +kernel
theorem d_D_settle_21 : decode c_D_settle 21 = .ok (.iastore, 1) := by decide +kernel
theorem d_D_settle_22 : decode c_D_settle 22 = .ok (.iinc 1 1, 3) := by decide +kernel
theorem d_D_settle_25 : decode c_D_settle 25 = .ok (.goto (-23), 3) := by decide +kernel
theorem d_D_settle_28 : decode c_D_settle 28 = .ok (.iconst 0, 1) := by decide +kernel
theorem d_D_settle_29 : decode c_D_settle 29 = .ok (.istore_n 1, 1) := by decide +kernel
theorem d_D_settle_30 : decode c_D_settle 30 = .ok (.iload_n 1, 1) := by decide +kernel
theorem d_D_settle_31 : decode c_D_settle 31 = .ok (.bipush 16, 2) := by decide +kernel
theorem d_D_settle_33 : decode c_D_settle 33 = .ok (.if_icmp .ge 49, 3) := by decide +kernel
theorem d_D_settle_36 : decode c_D_settle 36 = .ok (.aload_n 0, 1) := by decide +kernel
theorem d_D_settle_37 : decode c_D_settle 37 = .ok (.getfield 18, 3) := by decide +kernel
theorem d_D_settle_40 : decode c_D_settle 40 = .ok (.aload_n 0, 1) := by decide +kernel
theorem d_D_settle_41 : decode c_D_settle 41 = .ok (.getfield 9, 3) := by decide +kernel
theorem d_D_settle_44 : decode c_D_settle 44 = .ok (.iload_n 1, 1) := by decide +kernel
theorem d_D_settle_45 : decode c_D_settle 45 = .ok (.iaload, 1) := by decide +kernel
theorem d_D_settle_46 : decode c_D_settle 46 = .ok (.dup2, 1) := by decide +kernel
theorem d_D_settle_47 : decode c_D_settle 47 = .ok (.iaload, 1) := by decide +kernel
theorem d_D_settle_48 : decode c_D_settle 48 = .ok (.aload_n 0, 1) := by decide +kernel
theorem d_D_settle_49 : decode c_D_settle 49 = .ok (.aload_n 0, 1) := by decide +kernel
theorem d_D_settle_50 : decode c_D_settle 50 = .ok (.getfield 21, 3) := by decide +kernel
theorem d_D_settle_53 : decode c_D_settle 53 = .ok (.iload_n 1, 1) := by decide +kernel
theorem d_D_settle_54 : decode c_D_settle 54 = .ok (.iaload, 1) := by decide +kernel
theorem d_D_settle_55 : decode c_D_settle 55 = .ok (.invokevirtual 63, 3) := by decide +kernel
theorem d_D_settle_58 : decode c_D_settle 58 = .ok (.ior, 1) := by decide +kernel
theorem d_D_settle_59 : decode c_D_settle 59 = .ok (.iastore, 1) := by decide +kernel
theorem d_D_settle_60 : decode c_D_settle 60 = .ok (.aload_n 0, 1) := by decide +kernel
theorem d_D_settle_61 : decode c_D_settle 61 = .ok (.aload_n 0, 1) := by decide +kernel
theorem d_D_settle_62 : decode c_D_settle 62 = .ok (.getfield 9, 3) := by decide +kernel
theorem d_D_settle_65 : decode c_D_settle 65 = .ok (.iload_n 1, 1) := by decide +kernel
theorem d_D_settle_66 : decode c_D_settle 66 = .ok (.iaload, 1) := by decide +kernel
theorem d_D_settle_67 : decode c_D_settle 67 = .ok (.aload_n 0, 1) := by decide +kernel
theorem d_D_settle_68 : decode c_D_settle 68 = .ok (.getfield 24, 3) := by decide +kernel
theorem d_D_settle_71 : decode c_D_settle 71 = .ok (.iload_n 1, 1) := by decide +kernel
theorem d_D_settle_72 : decode c_D_settle 72 = .ok (.iaload, 1) := by decide +kernel
theorem d_D_settle_73 : decode c_D_settle 73 = .ok (.invokevirtual 67, 3) := by decide +kernel
theorem d_D_settle_76 : decode c_D_settle 76 = .ok (.iinc 1 1, 3) := by decide +kernel
theorem d_D_settle_79 : decode c_D_settle 79 = .ok (.goto (-49), 3) := by decide +kernel
theorem d_D_settle_82 : decode c_D_settle 82 = .ok (.aload_n 0, 1) := by decide +kernel
theorem d_D_settle_83 : decode c_D_settle 83 = .ok (.getfield 18, 3) := by decide +kernel
theorem d_D_settle_86 : decode c_D_settle 86 = .ok (.iconst 0, 1) := by decide +kernel
theorem d_D_settle_87 : decode c_D_settle 87 = .ok (.aload_n 0, 1) := by decide +kernel
theorem d_D_settle_88 : decode c_D_settle 88 = .ok (.getfield 27, 3) := by decide +kernel
theorem d_D_settle_91 : decode c_D_settle 91 = .ok (.iconst 0, 1) := by decide +kernel
theorem d_D_settle_92 : decode c_D_settle 92 = .ok (.bipush 16, 2) := by decide +kernel
theorem d_D_settle_94 : decode c_D_settle 94 = .ok (.invokestatic 70, 3) := by decide +kernel
theorem d_D_settle_97 : decode c_D_settle 97 = .ok (.aload_n 0, 1) := by decide +kernel
theorem d_D_settle_98 : decode c_D_settle 98 = .ok (.getfield 27, 3) := by decide +kernel
theorem d_D_settle_101 : decode c_D_settle 101 = .ok (.aload_n 0, 1) := by decide +kernel
theorem d_D_settle_102 : decode c_D_settle 102 = .ok (.aload_n 0, 1) := by decide +kernel
theorem d_D_settle_103 : decode c_D_settle 103 = .ok (.getfield 38, 3) := by decide +kernel
theorem d_D_settle_106 : decode c_D_settle 106 = .ok (.invokevirtual 63, 3) := by decide +kernel
theorem d_D_settle_109 : decode c_D_settle 109 = .ok (.invokestatic 76, 3) := by decide +kernel
theorem d_D_settle_112 : decode c_D_settle 112 = .ok (.return_, 1) := by decide +kernel
theorem d_D_lowerGroupPhase_0 : decode c_D_lowerGroupPhase 0 = .ok (.iload_n 2, 1) := by decide +kernel
theorem d_D_lowerGroupPhase_1 : decode c_D_lowerGroupPhase 1 = .ok (.iconst (-1), 1) := by decide +kernel
theorem d_D_lowerGroupPhase_2 : decode c_D_lowerGroupPhase 2 = .ok (.if_icmp .eq 30, 3) := by decide +kernel
theorem d_D_lowerGroupPhase_5 : decode c_D_lowerGroupPhase 5 = .ok (.aload_n 0, 1) := by decide +kernel
theorem d_D_lowerGroupPhase_6 : decode c_D_lowerGroupPhase 6 = .ok (.getfield 15, 3) := by decide +kernel
theorem d_D_lowerGroupPhase_9 : decode c_D_lowerGroupPhase 9 = .ok (.iload_n 1, 1) := by decide +kernel
theorem d_D_lowerGroupPhase_10 : decode c_D_lowerGroupPhase 10 = .ok (.iaload, 1) := by decide +kernel
theorem d_D_lowerGroupPhase_11 : decode c_D_lowerGroupPhase 11 = .ok (.iconst (-1), 1) := by decide +kernel
theorem d_D_lowerGroupPhase_12 : decode c_D_lowerGroupPhase 12 = .ok (.if_icmp .eq 13, 3) := by decide +kernel
theorem d_D_lowerGroupPhase_15 : decode c_D_lowerGroupPhase 15 = .ok (.iload_n 2, 1) := by decide +kernel
theorem d_D_lowerGroupPhase_16 : decode c_D_lowerGroupPhase 16 = .ok (.aload_n 0, 1) := by decide +kernel
theorem d_D_lowerGroupPhase_17 : decode c_D_lowerGroupPhase 17 = .ok (.getfield 15, 3) := by decide +kernel
theorem d_D_lowerGroupPhase_20 : decode c_D_lowerGroupPhase 20 = .ok (.iload_n 1, 1) := by decide +kernel
theorem d_D_lowerGroupPhase_21 : decode c_D_lowerGroupPhase 21 = .ok (.iaload, 1) := by decide +kernel
theorem d_D_lowerGroupPhase_22 : decode c_D_lowerGroupPhase 22 = .ok (.if_icmp .ge 10, 3) := by decide +kernel
theorem d_D_lowerGroupPhase_25 : decode c_D_lowerGroupPhase 25 = .ok (.aload_n 0, 1) := by decide +kernel
theorem d_D_lowerGroupPhase_26 : decode c_D_lowerGroupPhase 26 = .ok (.getfield 15, 3) := by decide +kernel
theorem d_D_lowerGroupPhase_29 : decode c_D_lowerGroupPhase 29 = .ok (.iload_n 1, 1) := by decide +kernel
theorem d_D_lowerGroupPhase_30 : decode c_D_lowerGroupPhase 30 = .ok (.iload_n 2, 1) := by decide +kernel
theorem d_D_lowerGroupPhase_31 : decode c_D_lowerGroupPhase 31 = .ok (.iastore, 1) := by decide +kernel
theorem d_D_lowerGroupPhase_32 : decode c_D_lowerGroupPhase 32 = .ok (.return_, 1) := by decide +kernel
theorem d_P_init_0 : decode c_P_init 0 = .ok (.aload_n 0, 1) := by decide +kernel
theorem d_P_init_1 : decode c_P_init 1 = .ok (.invokespecial 3, 3) := by decide +kernel
theorem d_P_init_4 : decode c_P_init 4 = .ok (.aload_n 0, 1) := by decide +kernel
theorem d_P_init_5 : decode c_P_init 5 = .ok (.bipush 16, 2) := by decide +kernel
theorem d_P_init_7 : decode c_P_init 7 = .ok (.newarray .int, 2) := by decide +kernel
theorem d_P_init_9 : decode c_P_init 9 = .ok (.putfield 9, 3) := by decide +kernel
theorem d_P_init_12 : decode c_P_init 12 = .ok (.aload_n 0, 1) := by decide +kernel
theorem d_P_init_13 : decode c_P_init 13 = .ok (.sipush 256, 3) := by decide +kernel
theorem d_P_init_16 : decode c_P_init 16 = .ok (.newarray .int, 2) := by decide +kernel
theorem d_P_init_18 : decode c_P_init 18 = .ok (.putfield 15, 3) := by decide +kernel
theorem d_P_init_21 : decode c_P_init 21 = .ok (.aload_n 0, 1) := by decide +kernel
theorem d_P_init_22 : decode c_P_init 22 = .ok (.sipush 256, 3) := by decide +kernel
theorem d_P_init_25 : decode c_P_init 25 = .ok (.newarray .int, 2) := by decide +kernel
theorem d_P_init_27 : decode c_P_init 27 = .ok (.putfield 18, 3) := by decide +kernel
theorem d_P_init_30 : decode c_P_init 30 = .ok (.aload_n 0, 1) := by decide +kernel
theorem d_P_init_31 : decode c_P_init 31 = .ok (.bipush 16, 2) := by decide +kernel
theorem d_P_init_33 : decode c_P_init 33 = .ok (.newarray .int, 2) := by decide +kernel
theorem d_P_init_35 : decode c_P_init 35 = .ok (.putfield 21, 3) := by decide +kernel
theorem d_P_init_38 : decode c_P_init 38 = .ok (.aload_n 0, 1) := by decide +kernel
theorem d_P_init_39 : decode c_P_init 39 = .ok (.bipush 16, 2) := by decide +kernel
theorem d_P_init_41 : decode c_P_init 41 = .ok (.newarray .int, 2) := by decide +kernel
theorem d_P_init_43 : decode c_P_init 43 = .ok (.putfield 24, 3) := by decide +kernel
theorem d_P_init_46 : decode c_P_init 46 = .ok (.aload_n 0, 1) := by decide +kernel
theorem d_P_init_47 : decode c_P_init 47 = .ok (.sipush 256, 3) := by decide +kernel
theorem d_P_init_50 : decode c_P_init 50 = .ok (.newarray .int, 2) := by decide +kernel
theorem d_P_init_52 : decode c_P_init 52 = .ok (.putfield 27, 3) := by decide +kernel
theorem d_P_init_55 : decode c_P_init 55 = .ok (.return_, 1) := by decide +kernel
theorem d_P_make_0 : decode c_P_make 0 = .ok (.aload_n 0, 1) := by decide +kernel
theorem d_P_make_1 : decode c_P_make 1 = .ok (.aload_n 1, 1) := by decide +kernel
theorem d_P_make_2 : decode c_P_make 2 = .ok (.aload_n 1, 1) := by decide +kernel
theorem d_P_make_3 : decode c_P_make 3 = .ok (.getfield 30, 3) := by decide +kernel
theorem d_P_make_6 : decode c_P_make 6 = .ok (.aload_n 1, 1) := by decide +kernel
theorem d_P_make_7 : decode c_P_make 7 = .ok (.getfield 36, 3) := by decide +kernel
theorem d_P_make_10 : decode c_P_make 10 = .ok (.iconst (-1), 1) := by decide +kernel
theorem d_P_make_11 : decode c_P_make 11 = .ok (.ixor, 1) := by decide +kernel
theorem d_P_make_12 : decode c_P_make 12 = .ok (.iand, 1) := by decide +kernel
theorem d_P_make_13 : decode c_P_make 13 = .ok (.invokevirtual 39, 3) := by decide +kernel
theorem d_P_make_16 : decode c_P_make 16 = .ok (.putfield 43, 3) := by decide +kernel
theorem d_P_make_19 : decode c_P_make 19 = .ok (.aload_n 0, 1) := by decide +kernel
theorem d_P_make_20 : decode c_P_make 20 = .ok (.aload_n 1, 1) := by decide +kernel
theorem d_P_make_21 : decode c_P_make 21 = .ok (.invokevirtual 46, 3) := by decide +kernel
theorem d_P_make_24 : decode c_P_make 24 = .ok (.aload_n 0, 1) := by decide +kernel
theorem d_P_make_25 : decode c_P_make 25 = .ok (.aload_n 1, 1) := by decide +kernel
theorem d_P_make_26 : decode c_P_make 26 = .ok (.invokevirtual 50, 3) := by decide +kernel
theorem d_P_make_29 : decode c_P_make 29 = .ok (.aload_n 0, 1) := by decide +kernel
theorem d_P_make_30 : decode c_P_make 30 = .ok (.invokevirtual 53, 3) := by decide +kernel
theorem d_P_make_33 : decode c_P_make 33 = .ok (.aload_n 0, 1) := by decide +kernel
theorem d_P_make_34 : decode c_P_make 34 = .ok (.invokevirtual 56, 3) := by decide +kernel
theorem d_P_make_37 : decode c_P_make 37 = .ok (.return_, 1) := by decide +kernel
theorem d_P_bendsOf_0 : decode c_P_bendsOf 0 = .ok (.aload_n 0, 1) := by decide +kernel
theorem d_P_bendsOf_1 : decode c_P_bendsOf 1 = .ok (.getfield 9, 3) := by decide +kernel
theorem d_P_bendsOf_4 : decode c_P_bendsOf 4 = .ok (.aload_n 0, 1) := by decide +kernel
theorem d_P_bendsOf_5 : decode c_P_bendsOf 5 = .ok (.getfield 18, 3) := by decide +kernel
theorem d_P_bendsOf_8 : decode c_P_bendsOf 8 = .ok (.iload_n 1, 1) := by decide +kernel
theorem d_P_bendsOf_9 : decode c_P_bendsOf 9 = .ok (.iaload, 1) := by decide +kernel
theorem d_P_bendsOf_10 : decode c_P_bendsOf 10 = .ok (.iaload, 1) := by decide +kernel
theorem d_P_bendsOf_11 : decode c_P_bendsOf 11 = .ok (.aload_n 0, 1) := by decide +kernel
theorem d_P_bendsOf_12 : decode c_P_bendsOf 12 = .ok (.getfield 9, 3) := by decide +kernel
theorem d_P_bendsOf_15 : decode c_P_bendsOf 15 = .ok (.aload_n 0, 1) := by decide +kernel
theorem d_P_bendsOf_16 : decode c_P_bendsOf 16 = .ok (.getfield 15, 3) := by decide +kernel
theorem d_P_bendsOf_19 : decode c_P_bendsOf 19 = .ok (.iload_n 1, 1) := by decide +kernel
theorem d_P_bendsOf_20 : decode c_P_bendsOf 20 = .ok (.iaload, 1) := by decide +kernel
theorem d_P_bendsOf_21 : decode c_P_bendsOf 21 = .ok (.iaload, 1) := by decide +kernel
theorem d_P_bendsOf_22 : decode c_P_bendsOf 22 = .ok (.isub, 1) := by decide +kernel
theorem d_P_bendsOf_23 : decode c_P_bendsOf 23 = .ok (.iconst 1, 1) := by decide +kernel
theorem d_P_bendsOf_24 : decode c_P_bendsOf 24 = .ok (.isub, 1) := by decide +kernel
theorem d_P_bendsOf_25 : decode c_P_bendsOf 25 = .ok (.ireturn, 1) := by decide +kernel
theorem d_P_pointOf_0 : decode c_P_pointOf 0 = .ok (.iload_n 2, 1) := by decide +kernel
theorem d_P_pointOf_1 : decode c_P_pointOf 1 = .ok (.ifCond .gt 10, 3) := by decide +kernel
theorem d_P_pointOf_4 : decode c_P_pointOf 4 = .ok (.aload_n 0, 1) := by decide +kernel
theorem d_P_pointOf_5 : decode c_P_pointOf 5 = .ok (.getfield 15, 3) := by decide +kernel
theorem d_P_pointOf_8 : decode c_P_pointOf 8 = .ok (.iload_n 1, 1) := by decide +kernel
theorem d_P_pointOf_9 : decode c_P_pointOf 9 = .ok (.iaload, 1) := by decide +kernel
theorem d_P_pointOf_10 : decode c_P_pointOf 10 = .ok (.ireturn, 1) := by decide +kernel
theorem d_P_pointOf_11 : decode c_P_pointOf 11 = .ok (.iload_n 2, 1) := by decide +kernel
theorem d_P_pointOf_12 : decode c_P_pointOf 12 = .ok (.aload_n 0, 1) := by decide +kernel
theorem d_P_pointOf_13 : decode c_P_pointOf 13 = .ok (.iload_n 1, 1) := by decide +kernel
theorem d_P_pointOf_14 : decode c_P_pointOf 14 = .ok (.invokevirtual 59, 3) := by decide +kernel
theorem d_P_pointOf_17 : decode c_P_pointOf 17 = .ok (.if_icmp .le 12, 3) := by decide +kernel
theorem d_P_pointOf_20 : decode c_P_pointOf 20 = .ok (.aload_n 0, 1) := by decide +kernel
theorem d_P_pointOf_21 : decode c_P_pointOf 21 = .ok (.getfield 18, 3) := by decide +kernel
theorem d_P_pointOf_24 : decode c_P_pointOf 24 = .ok (.iload_n 1, 1) := by decide +kernel
theorem d_P_pointOf_25 : decode c_P_pointOf 25 = .ok (.iaload, 1) := by decide +kernel
theorem d_P_pointOf_26 : decode c_P_pointOf 26 = .ok (.goto 16, 3) := by decide +kernel
theorem d_P_pointOf_29 : decode c_P_pointOf 29 = .ok (.bipush 16, 2) := by decide +kernel
theorem d_P_pointOf_31 : decode c_P_pointOf 31 = .ok (.aload_n 0, 1) := by decide +kernel
theorem d_P_pointOf_32 : decode c_P_pointOf 32 = .ok (.getfield 27, 3) := by decide +kernel
theorem d_P_pointOf_35 : decode c_P_pointOf 35 = .ok (.iload_n 1, 1) := by decide +kernel
theorem d_P_pointOf_36 : decode c_P_pointOf 36 = .ok (.iaload, 1) := by decide +kernel
theorem d_P_pointOf_37 : decode c_P_pointOf 37 = .ok (.iadd, 1) := by decide +kernel
theorem d_P_pointOf_38 : decode c_P_pointOf 38 = .ok (.iload_n 2, 1) := by decide +kernel
theorem d_P_pointOf_39 : decode c_P_pointOf 39 = .ok (.iadd, 1) := by decide +kernel
theorem d_P_pointOf_40 : decode c_P_pointOf 40 = .ok (.iconst 1, 1) := by decide +kernel
theorem d_P_pointOf_41 : decode c_P_pointOf 41 = .ok (.isub, 1) := by decide +kernel
theorem d_P_pointOf_42 : decode c_P_pointOf 42 = .ok (.ireturn, 1) := by decide +kernel
theorem d_P_findLinks_0 : decode c_P_findLinks 0 = .ok (.aload_n 1, 1) := by decide +kernel
theorem d_P_findLinks_1 : decode c_P_findLinks 1 = .ok (.aload_n 1, 1) := by decide +kernel
theorem d_P_findLinks_2 : decode c_P_findLinks 2 = .ok (.getfield 30, 3) := by decide +kernel
theorem d_P_findLinks_5 : decode c_P_findLinks 5 = .ok (.invokevirtual 39, 3) := by decide +kernel
theorem d_P_findLinks_8 : decode c_P_findLinks 8 = .ok (.aload_n 0, 1) := by decide +kernel
theorem d_P_findLinks_9 : decode c_P_findLinks 9 = .ok (.getfield 43, 3) := by decide +kernel
theorem d_P_findLinks_12 : decode c_P_findLinks 12 = .ok (.iconst (-1), 1) := by decide +kernel
theorem d_P_findLinks_13 : decode c_P_findLinks 13 = .ok (.ixor, 1) := by decide +kernel
theorem d_P_findLinks_14 : decode c_P_findLinks 14 = .ok (.iand, 1) := by decide +kernel
theorem d_P_findLinks_15 : decode c_P_findLinks 15 = .ok (.istore_n 2, 1) := by decide +kernel
theorem d_P_findLinks_16 : decode c_P_findLinks 16 = .ok (.aload_n 1, 1) := by decide +kernel
theorem d_P_findLinks_17 : decode c_P_findLinks 17 = .ok (.getfield 62, 3) := by decide +kernel
theorem d_P_findLinks_20 : decode c_P_findLinks 20 = .ok (.iconst 0, 1) := by decide +kernel
theorem d_P_findLinks_21 : decode c_P_findLinks 21 = .ok (.aload_n 0, 1) := by decide +kernel
theorem d_P_findLinks_22 : decode c_P_findLinks 22 = .ok (.getfield 21, 3) := by decide +kernel
theorem d_P_findLinks_25 : decode c_P_findLinks 25 = .ok (.iconst 0, 1) := by decide +kernel
theorem d_P_findLinks_26 : decode c_P_findLinks 26 = .ok (.bipush 16, 2) := by decide +kernel
theorem d_P_findLinks_28 : decode c_P_findLinks 28 = .ok (.invokestatic 65, 3) := by decide +kernel
theorem d_P_findLinks_31 : decode c_P_findLinks 31 = .ok (.aload_n 0, 1) := by decide +kernel
theorem d_P_findLinks_32 : decode c_P_findLinks 32 = .ok (.getfield 21, 3) := by decide +kernel
theorem d_P_findLinks_35 : decode c_P_findLinks 35 = .ok (.iload_n 2, 1) := by decide +kernel
theorem d_P_findLinks_36 : decode c_P_findLinks 36 = .ok (.invokestatic 71, 3) := by decide +kernel
theorem d_P_findLinks_39 : decode c_P_findLinks 39 = .ok (.aload_n 0, 1) := by decide +kernel
theorem d_P_findLinks_40 : decode c_P_findLinks 40 = .ok (.iconst 0, 1) := by decide +kernel
theorem d_P_findLinks_41 : decode c_P_findLinks 41 = .ok (.putfield 75, 3) := by decide +kernel
theorem d_P_findLinks_44 : decode c_P_findLinks 44 = .ok (.iconst 0, 1) := by decide +kernel
theorem d_P_findLinks_45 : decode c_P_findLinks 45 = .ok (.istore_n 3, 1) := by decide +kernel
theorem d_P_findLinks_46 : decode c_P_findLinks 46 = .ok (.iload_n 3, 1) := by decide +kernel
theorem d_P_findLinks_47 : decode c_P_findLinks 47 = .ok (.bipush 16, 2) := by decide +kernel
theorem d_P_findLinks_49 : decode c_P_findLinks 49 = .ok (.if_icmp .ge 86, 3) := by decide +kernel
theorem d_P_findLinks_52 : decode c_P_findLinks 52 = .ok (.iconst 0, 1) := by decide +kernel
theorem d_P_findLinks_53 : decode c_P_findLinks 53 = .ok (.istore 4, 2) := by decide +kernel
theorem d_P_findLinks_55 : decode c_P_findLinks 55 = .ok (.iload 4, 2) := by decide +kernel
theorem d_P_findLinks_57 : decode c_P_findLinks 57 = .ok (.bipush 16, 2) := by decide +kernel
theorem d_P_findLinks_59 : decode c_P_findLinks 59 = .ok (.if_icmp .ge 70, 3) := by decide +kernel
theorem d_P_findLinks_62 : decode c_P_findLinks 62 = .ok (.aload_n 0, 1) := by decide +kernel
theorem d_P_findLinks_63 : decode c_P_findLinks 63 = .ok (.getfield 43, 3) := by decide +kernel
theorem d_P_findLinks_66 : decode c_P_findLinks 66 = .ok (.iload_n 3, 1) := by decide +kernel
theorem d_P_findLinks_67 : decode c_P_findLinks 67 = .ok (.invokestatic 78, 3) := by decide +kernel
theorem d_P_findLinks_70 : decode c_P_findLinks 70 = .ok (.ifCond .eq 53, 3) := by decide +kernel
theorem d_P_findLinks_73 : decode c_P_findLinks 73 = .ok (.aload_n 0, 1) := by decide +kernel
theorem d_P_findLinks_74 : decode c_P_findLinks 74 = .ok (.getfield 21, 3) := by decide +kernel
theorem d_P_findLinks_77 : decode c_P_findLinks 77 = .ok (.iload_n 3, 1) := by decide +kernel
theorem d_P_findLinks_78 : decode c_P_findLinks 78 = .ok (.iaload, 1) := by decide +kernel
theorem d_P_findLinks_79 : decode c_P_findLinks 79 = .ok (.aload_n 0, 1) := by decide +kernel
theorem d_P_findLinks_80 : decode c_P_findLinks 80 = .ok (.getfield 43, 3) := by decide +kernel
theorem d_P_findLinks_83 : decode c_P_findLinks 83 = .ok (.iand, 1) := by decide +kernel
theorem d_P_findLinks_84 : decode c_P_findLinks 84 = .ok (.iload 4, 2) := by decide +kernel
theorem d_P_findLinks_86 : decode c_P_findLinks 86 = .ok (.invokestatic 78, 3) := by decide +kernel
theorem d_P_findLinks_89 : decode c_P_findLinks 89 = .ok (.ifCond .eq 34, 3) := by decide +kernel
theorem d_P_findLinks_92 : decode c_P_findLinks 92 = .ok (.aload_n 0, 1) := by decide +kernel
theorem d_P_findLinks_93 : decode c_P_findLinks 93 = .ok (.getfield 15, 3) := by decide +kernel
theorem d_P_findLinks_96 : decode c_P_findLinks 96 = .ok (.aload_n 0, 1) := by decide +kernel
theorem d_P_findLinks_97 : decode c_P_findLinks 97 = .ok (.getfield 75, 3) := by decide +kernel
theorem d_P_findLinks_100 : decode c_P_findLinks 100 = .ok (.iload_n 3, 1) := by decide +kernel
theorem d_P_findLinks_101 : decode c_P_findLinks 101 = .ok (.iastore, 1) := by decide +kernel
theorem d_P_findLinks_102 : decode c_P_findLinks 102 = .ok (.aload_n 0, 1) := by decide +kernel
theorem d_P_findLinks_103 : decode c_P_findLinks 103 = .ok (.getfield 18, 3) := by decide +kernel
theorem d_P_findLinks_106 : decode c_P_findLinks 106 = .ok (.aload_n 0, 1) := by decide +kernel
theorem d_P_findLinks_107 : decode c_P_findLinks 107 = .ok (.getfield 75, 3) := by decide +kernel
theorem d_P_findLinks_110 : decode c_P_findLinks 110 = .ok (.iload 4, 2) := by decide +kernel
theorem d_P_findLinks_112 : decode c_P_findLinks 112 = .ok (.iastore, 1) := by decide +kernel
theorem d_P_findLinks_113 : decode c_P_findLinks 113 = .ok (.aload_n 0, 1) := by decide +kernel
theorem d_P_findLinks_114 : decode c_P_findLinks 114 = .ok (.dup, 1) := by decide +kernel
theorem d_P_findLinks_115 : decode c_P_findLinks 115 = .ok (.getfield 75, 3) := by decide +kernel
theorem d_P_findLinks_118 : decode c_P_findLinks 118 = .ok (.iconst 1, 1) := by decide +kernel
theorem d_P_findLinks_119 : decode c_P_findLinks 119 = .ok (.iadd, 1) := by decide +kernel
theorem d_P_findLinks_120 : decode c_P_findLinks 120 = .ok (.putfield 75, 3) := by decide +kernel
theorem d_P_findLinks_123 : decode c_P_findLinks 123 = .ok (.iinc 4 1, 3) := by decide +kernel
theorem d_P_findLinks_126 : decode c_P_findLinks 126 = .ok (.goto (-71), 3) := by decide +kernel
theorem d_P_findLinks_129 : decode c_P_findLinks 129 = .ok (.iinc 3 1, 3) := by decide +kernel
theorem d_P_findLinks_132 : decode c_P_findLinks 132 = .ok (.goto (-86), 3) := by decide +kernel
theorem d_P_findLinks_135 : decode c_P_findLinks 135 = .ok (.return_, 1) := by decide +kernel
theorem d_P_findForerunners_0 : decode c_P_findForerunners 0 = .ok (.iconst 0, 1) := by decide +kernel
theorem d_P_findForerunners_1 : decode c_P_findForerunners 1 = .ok (.istore_n 2, 1) := by decide +kernel
theorem d_P_findForerunners_2 : decode c_P_findForerunners 2 = .ok (.iload_n 2, 1) := by decide +kernel
theorem d_P_findForerunners_3 : decode c_P_findForerunners 3 = .ok (.bipush 16, 2) := by decide +kernel
theorem d_P_findForerunners_5 : decode c_P_findForerunners 5 = .ok (.if_icmp .ge 75, 3) := by decide +kernel
theorem d_P_findForerunners_8 : decode c_P_findForerunners 8 = .ok (.aload_n 0, 1) := by decide +kernel
theorem d_P_findForerunners_9 : decode c_P_findForerunners 9 = .ok (.getfield 24, 3) := by decide +kernel
theorem d_P_findForerunners_12 : decode c_P_findForerunners 12 = .ok (.iload_n 2, 1) := by decide +kernel
theorem d_P_findForerunners_13 : decode c_P_findForerunners 13 = .ok (.iconst 0, 1) := by decide +kernel
theorem d_P_findForerunners_14 : decode c_P_findForerunners 14 = .ok (.iastore, 1) := by decide +kernel
theorem d_P_findForerunners_15 : decode c_P_findForerunners 15 = .ok (.iconst 0, 1) := by decide +kernel
theorem d_P_findForerunners_16 : decode c_P_findForerunners 16 = .ok (.istore_n 3, 1) := by decide +kernel
theorem d_P_findForerunners_17 : decode c_P_findForerunners 17 = .ok (.iload_n 3, 1) := by decide +kernel
theorem d_P_findForerunners_18 : decode c_P_findForerunners 18 = .ok (.bipush 16, 2) := by decide +kernel
theorem d_P_findForerunners_20 : decode c_P_findForerunners 20 = .ok (.if_icmp .ge 54, 3) := by decide +kernel
theorem d_P_findForerunners_23 : decode c_P_findForerunners 23 = .ok (.aload_n 0, 1) := by decide +kernel
theorem d_P_findForerunners_24 : decode c_P_findForerunners 24 = .ok (.getfield 43, 3) := by decide +kernel
theorem d_P_findForerunners_27 : decode c_P_findForerunners 27 = .ok (.iload_n 3, 1) := by decide +kernel
theorem d_P_findForerunners_28 : decode c_P_findForerunners 28 = .ok (.invokestatic 78, 3) := by decide +kernel
theorem d_P_findForerunners_31 : decode c_P_findForerunners 31 = .ok (.ifCond .eq 37, 3) := by decide +kernel
theorem d_P_findForerunners_34 : decode c_P_findForerunners 34 = .ok (.aload_n 0, 1) := by decide +kernel
theorem d_P_findForerunners_35 : decode c_P_findForerunners 35 = .ok (.getfield 21, 3) := by decide +kernel
theorem d_P_findForerunners_38 : decode c_P_findForerunners 38 = .ok (.iload_n 3, 1) := by decide +kernel
theorem d_P_findForerunners_39 : decode c_P_findForerunners 39 = .ok (.iaload, 1) := by decide +kernel
theorem d_P_findForerunners_40 : decode c_P_findForerunners 40 = .ok (.iload_n 2, 1) := by decide +kernel
theorem d_P_findForerunners_41 : decode c_P_findForerunners 41 = .ok (.invokestatic 78, 3) := by decide +kernel
theorem d_P_findForerunners_44 : decode c_P_findForerunners 44 = .ok (.ifCond .ne 12, 3) := by decide +kernel
theorem d_P_findForerunners_47 : decode c_P_findForerunners 47 = .ok (.aload_n 1, 1) := by decide +kernel
theorem d_P_findForerunners_48 : decode c_P_findForerunners 48 = .ok (.iload_n 2, 1) := by decide +kernel
theorem d_P_findForerunners_49 : decode c_P_findForerunners 49 = .ok (.iload_n 3, 1) := by decide +kernel
theorem d_P_findForerunners_50 : decode c_P_findForerunners 50 = .ok (.invokevirtual 82, 3) := by decide +kernel
theorem d_P_findForerunners_53 : decode c_P_findForerunners 53 = .ok (.ifCond .eq 15, 3) := by decide +kernel
theorem d_P_findForerunners_56 : decode c_P_findForerunners 56 = .ok (.aload_n 0, 1) := by decide +kernel
theorem d_P_findForerunners_57 : decode c_P_findForerunners 57 = .ok (.getfield 24, 3) := by decide +kernel
theorem d_P_findForerunners_60 : decode c_P_findForerunners 60 = .ok (.iload_n 2, 1) := by decide +kernel
theorem d_P_findForerunners_61 : decode c_P_findForerunners 61 = .ok (.dup2, 1) := by decide +kernel
theorem d_P_findForerunners_62 : decode c_P_findForerunners 62 = .ok (.iaload, 1) := by decide +kernel
theorem d_P_findForerunners_63 : decode c_P_findForerunners 63 = .ok (.iconst 1, 1) := by decide +kernel
theorem d_P_findForerunners_64 : decode c_P_findForerunners 64 = .ok (.iload_n 3, 1) := by decide +kernel
theorem d_P_findForerunners_65 : decode c_P_findForerunners 65 = .ok (.ishl, 1) := by decide +kernel
theorem d_P_findForerunners_66 : decode c_P_findForerunners 66 = .ok (.ior, 1) := by decide +kernel
theorem d_P_findForerunners_67 : decode c_P_findForerunners 67 = .ok (.iastore, 1) := by decide +kernel
theorem d_P_findForerunners_68 : decode c_P_findForerunners 68 = .ok (.iinc 3 1, 3) := by decide +kernel
theorem d_P_findForerunners_71 : decode c_P_findForerunners 71 = .ok (.goto (-54), 3) := by decide +kernel
theorem d_P_findForerunners_74 : decode c_P_findForerunners 74 = .ok (.iinc 2 1, 3) := by decide +kernel
theorem d_P_findForerunners_77 : decode c_P_findForerunners 77 = .ok (.goto (-75), 3) := by decide +kernel
theorem d_P_findForerunners_80 : decode c_P_findForerunners 80 = .ok (.return_, 1) := by decide +kernel
theorem d_P_layRows_0 : decode c_P_layRows 0 = .ok (.iconst 0, 1) := by decide +kernel
theorem d_P_layRows_1 : decode c_P_layRows 1 = .ok (.istore_n 1, 1) := by decide +kernel
theorem d_P_layRows_2 : decode c_P_layRows 2 = .ok (.aload_n 0, 1) := by decide +kernel
theorem d_P_layRows_3 : decode c_P_layRows 3 = .ok (.iconst 0, 1) := by decide +kernel
theorem d_P_layRows_4 : decode c_P_layRows 4 = .ok (.putfield 85, 3) := by decide +kernel
theorem d_P_layRows_7 : decode c_P_layRows 7 = .ok (.iload_n 1, 1) := by decide +kernel
theorem d_P_layRows_8 : decode c_P_layRows 8 = .ok (.aload_n 0, 1) := by decide +kernel
theorem d_P_layRows_9 : decode c_P_layRows 9 = .ok (.getfield 43, 3) := by decide +kernel
theorem d_P_layRows_12 : decode c_P_layRows 12 = .ok (.if_icmp .eq 89, 3) := by decide +kernel
theorem d_P_layRows_15 : decode c_P_layRows 15 = .ok (.aload_n 0, 1) := by decide +kernel
theorem d_P_layRows_16 : decode c_P_layRows 16 = .ok (.getfield 85, 3) := by decide +kernel
theorem d_P_layRows_19 : decode c_P_layRows 19 = .ok (.bipush 16, 2) := by decide +kernel
theorem d_P_layRows_21 : decode c_P_layRows 21 = .ok (.if_icmp .ge 80, 3) := by decide +kernel
theorem d_P_layRows_24 : decode c_P_layRows 24 = .ok (.iconst 0, 1) := by decide +kernel
theorem d_P_layRows_25 : decode c_P_layRows 25 = .ok (.istore_n 2, 1) := by decide +kernel
theorem d_P_layRows_26 : decode c_P_layRows 26 = .ok (.iconst 0, 1) := by decide +kernel
theorem d_P_layRows_27 : decode c_P_layRows 27 = .ok (.istore_n 3, 1) := by decide +kernel
theorem d_P_layRows_28 : decode c_P_layRows 28 = .ok (.iload_n 3, 1) := by decide +kernel
theorem d_P_layRows_29 : decode c_P_layRows 29 = .ok (.bipush 16, 2) := by decide +kernel
theorem d_P_layRows_31 : decode c_P_layRows 31 = .ok (.if_icmp .ge 53, 3) := by decide +kernel
theorem d_P_layRows_34 : decode c_P_layRows 34 = .ok (.aload_n 0, 1) := by decide +kernel
theorem d_P_layRows_35 : decode c_P_layRows 35 = .ok (.getfield 43, 3) := by decide +kernel
theorem d_P_layRows_38 : decode c_P_layRows 38 = .ok (.iload_n 1, 1) := by decide +kernel
theorem d_P_layRows_39 : decode c_P_layRows 39 = .ok (.iconst (-1), 1) := by decide +kernel
theorem d_P_layRows_40 : decode c_P_layRows 40 = .ok (.ixor, 1) := by decide +kernel
theorem d_P_layRows_41 : decode c_P_layRows 41 = .ok (.iand, 1) := by decide +kernel
theorem d_P_layRows_42 : decode c_P_layRows 42 = .ok (.iload_n 3, 1) := by decide +kernel
theorem d_P_layRows_43 : decode c_P_layRows 43 = .ok (.invokestatic 78, 3) := by decide +kernel
theorem d_P_layRows_46 : decode c_P_layRows 46 = .ok (.ifCond .eq 32, 3) := by decide +kernel
theorem d_P_layRows_49 : decode c_P_layRows 49 = .ok (.aload_n 0, 1) := by decide +kernel
theorem d_P_layRows_50 : decode c_P_layRows 50 = .ok (.getfield 24, 3) := by decide +kernel
theorem d_P_layRows_53 : decode c_P_layRows 53 = .ok (.iload_n 3, 1) := by decide +kernel
theorem d_P_layRows_54 : decode c_P_layRows 54 = .ok (.iaload, 1) := by decide +kernel
theorem d_P_layRows_55 : decode c_P_layRows 55 = .ok (.iload_n 1, 1) := by decide +kernel
theorem d_P_layRows_56 : decode c_P_layRows 56 = .ok (.iconst (-1), 1) := by decide +kernel
theorem d_P_layRows_57 : decode c_P_layRows 57 = .ok (.ixor, 1) := by decide +kernel
theorem d_P_layRows_58 : decode c_P_layRows 58 = .ok (.iand, 1) := by decide +kernel
theorem d_P_layRows_59 : decode c_P_layRows 59 = .ok (.ifCond .ne 19, 3) := by decide +kernel
theorem d_P_layRows_62 : decode c_P_layRows 62 = .ok (.aload_n 0, 1) := by decide +kernel
theorem d_P_layRows_63 : decode c_P_layRows 63 = .ok (.getfield 9, 3) := by decide +kernel
theorem d_P_layRows_66 : decode c_P_layRows 66 = .ok (.iload_n 3, 1) := by decide +kernel
theorem d_P_layRows_67 : decode c_P_layRows 67 = .ok (.aload_n 0, 1) := by decide +kernel
theorem d_P_layRows_68 : decode c_P_layRows 68 = .ok (.getfield 85, 3) := by decide +kernel
theorem d_P_layRows_71 : decode c_P_layRows 71 = .ok (.iastore, 1) := by decide +kernel
theorem d_P_layRows_72 : decode c_P_layRows 72 = .ok (.iload_n 2, 1) := by decide +kernel
theorem d_P_layRows_73 : decode c_P_layRows 73 = .ok (.iconst 1, 1) := by decide +kernel
theorem d_P_layRows_74 : decode c_P_layRows 74 = .ok (.iload_n 3, 1) := by decide +kernel
theorem d_P_layRows_75 : decode c_P_layRows 75 = .ok (.ishl, 1) := by decide +kernel
theorem d_P_layRows_76 : decode c_P_layRows 76 = .ok (.ior, 1) := by decide +kernel
theorem d_P_layRows_77 : decode c_P_layRows 77 = .ok (.istore_n 2, 1) := by decide +kernel
theorem d_P_layRows_78 : decode c_P_layRows 78 = .ok (.iinc 3 1, 3) := by decide +kernel
theorem d_P_layRows_81 : decode c_P_layRows 81 = .ok (.goto (-53), 3) := by decide +kernel
theorem d_P_layRows_84 : decode c_P_layRows 84 = .ok (.iload_n 1, 1) := by decide +kernel
theorem d_P_layRows_85 : decode c_P_layRows 85 = .ok (.iload_n 2, 1) := by decide +kernel
theorem d_P_layRows_86 : decode c_P_layRows 86 = .ok (.ior, 1) := by decide +kernel
theorem d_P_layRows_87 : decode c_P_layRows 87 = .ok (.istore_n 1, 1) := by decide +kernel
theorem d_P_layRows_88 : decode c_P_layRows 88 = .ok (.aload_n 0, 1) := by decide +kernel
theorem d_P_layRows_89 : decode c_P_layRows 89 = .ok (.dup, 1) := by decide +kernel
theorem d_P_layRows_90 : decode c_P_layRows 90 = .ok (.getfield 85, 3) := by decide +kernel
theorem d_P_layRows_93 : decode c_P_layRows 93 = .ok (.iconst 1, 1) := by decide +kernel
theorem d_P_layRows_94 : decode c_P_layRows 94 = .ok (.iadd, 1) := by decide +kernel
theorem d_P_layRows_95 : decode c_P_layRows 95 = .ok (.putfield 85, 3) := by decide +kernel
theorem d_P_layRows_98 : decode c_P_layRows 98 = .ok (.goto (-91), 3) := by decide +kernel
theorem d_P_layRows_101 : decode c_P_layRows 101 = .ok (.return_, 1) := by decide +kernel
theorem d_P_layBends_0 : decode c_P_layBends 0 = .ok (.aload_n 0, 1) := by decide +kernel
theorem d_P_layBends_1 : decode c_P_layBends 1 = .ok (.iconst 0, 1) := by decide +kernel
theorem d_P_layBends_2 : decode c_P_layBends 2 = .ok (.putfield 88, 3) := by decide +kernel
theorem d_P_layBends_5 : decode c_P_layBends 5 = .ok (.iconst 0, 1) := by decide +kernel
theorem d_P_layBends_6 : decode c_P_layBends 6 = .ok (.istore_n 1, 1) := by decide +kernel
theorem d_P_layBends_7 : decode c_P_layBends 7 = .ok (.iload_n 1, 1) := by decide +kernel
theorem d_P_layBends_8 : decode c_P_layBends 8 = .ok (.aload_n 0, 1) := by decide +kernel
theorem d_P_layBends_9 : decode c_P_layBends 9 = .ok (.getfield 75, 3) := by decide +kernel
theorem d_P_layBends_12 : decode c_P_layBends 12 = .ok (.if_icmp .ge 33, 3) := by decide +kernel
theorem d_P_layBends_15 : decode c_P_layBends 15 = .ok (.aload_n 0, 1) := by decide +kernel
theorem d_P_layBends_16 : decode c_P_layBends 16 = .ok (.getfield 27, 3) := by decide +kernel
theorem d_P_layBends_19 : decode c_P_layBends 19 = .ok (.iload_n 1, 1) := by decide +kernel
theorem d_P_layBends_20 : decode c_P_layBends 20 = .ok (.aload_n 0, 1) := by decide +kernel
theorem d_P_layBends_21 : decode c_P_layBends 21 = .ok (.getfield 88, 3) := by decide +kernel
theorem d_P_layBends_24 : decode c_P_layBends 24 = .ok (.iastore, 1) := by decide +kernel
theorem d_P_layBends_25 : decode c_P_layBends 25 = .ok (.aload_n 0, 1) := by decide +kernel
theorem d_P_layBends_26 : decode c_P_layBends 26 = .ok (.dup, 1) := by decide +kernel
theorem d_P_layBends_27 : decode c_P_layBends 27 = .ok (.getfield 88, 3) := by decide +kernel
theorem d_P_layBends_30 : decode c_P_layBends 30 = .ok (.aload_n 0, 1) := by decide +kernel
theorem d_P_layBends_31 : decode c_P_layBends 31 = .ok (.iload_n 1, 1) := by decide +kernel
theorem d_P_layBends_32 : decode c_P_layBends 32 = .ok (.invokevirtual 59, 3) := by decide +kernel
theorem d_P_layBends_35 : decode c_P_layBends 35 = .ok (.iadd, 1) := by decide +kernel
theorem d_P_layBends_36 : decode c_P_layBends 36 = .ok (.putfield 88, 3) := by decide +kernel
theorem d_P_layBends_39 : decode c_P_layBends 39 = .ok (.iinc 1 1, 3) := by decide +kernel
theorem d_P_layBends_42 : decode c_P_layBends 42 = .ok (.goto (-35), 3) := by decide +kernel
theorem d_P_layBends_45 : decode c_P_layBends 45 = .ok (.return_, 1) := by decide +kernel
end
section
theorem d_O_init_0 : decode c_O_init 0 = .ok (.aload_n 0, 1) := by decide +kernel
theorem d_O_init_1 : decode c_O_init 1 = .ok (.invokespecial 3, 3) := by decide +kernel
theorem d_O_init_4 : decode c_O_init 4 = .ok (.aload_n 0, 1) := by decide +kernel
theorem d_O_init_5 : decode c_O_init 5 = .ok (.sipush 166, 3) := by decide +kernel
theorem d_O_init_8 : decode c_O_init 8 = .ok (.newarray .int, 2) := by decide +kernel
theorem d_O_init_10 : decode c_O_init 10 = .ok (.putfield 9, 3) := by decide +kernel
theorem d_O_init_13 : decode c_O_init 13 = .ok (.aload_n 0, 1) := by decide +kernel
theorem d_O_init_14 : decode c_O_init 14 = .ok (.bipush 13, 2) := by decide +kernel
theorem d_O_init_16 : decode c_O_init 16 = .ok (.newarray .int, 2) := by decide +kernel
theorem d_O_init_18 : decode c_O_init 18 = .ok (.putfield 15, 3) := by decide +kernel
theorem d_O_init_21 : decode c_O_init 21 = .ok (.aload_n 0, 1) := by decide +kernel
theorem d_O_init_22 : decode c_O_init 22 = .ok (.sipush 166, 3) := by decide +kernel
theorem d_O_init_25 : decode c_O_init 25 = .ok (.newarray .int, 2) := by decide +kernel
theorem d_O_init_27 : decode c_O_init 27 = .ok (.putfield 18, 3) := by decide +kernel
theorem d_O_init_30 : decode c_O_init 30 = .ok (.aload_n 0, 1) := by decide +kernel
theorem d_O_init_31 : decode c_O_init 31 = .ok (.sipush 166, 3) := by decide +kernel
theorem d_O_init_34 : decode c_O_init 34 = .ok (.newarray .int, 2) := by decide +kernel
theorem d_O_init_36 : decode c_O_init 36 = .ok (.putfield 21, 3) := by decide +kernel
theorem d_O_init_39 : decode c_O_init 39 = .ok (.aload_n 0, 1) := by decide +kernel
theorem d_O_init_40 : decode c_O_init 40 = .ok (.bipush 17, 2) := by decide +kernel
theorem d_O_init_42 : decode c_O_init 42 = .ok (.newarray .int, 2) := by decide +kernel
theorem d_O_init_44 : decode c_O_init 44 = .ok (.putfield 24, 3) := by decide +kernel
theorem d_O_init_47 : decode c_O_init 47 = .ok (.aload_n 0, 1) := by decide +kernel
theorem d_O_init_48 : decode c_O_init 48 = .ok (.sipush 406, 3) := by decide +kernel
theorem d_O_init_51 : decode c_O_init 51 = .ok (.newarray .int, 2) := by decide +kernel
theorem d_O_init_53 : decode c_O_init 53 = .ok (.putfield 27, 3) := by decide +kernel
theorem d_O_init_56 : decode c_O_init 56 = .ok (.aload_n 0, 1) := by decide +kernel
theorem d_O_init_57 : decode c_O_init 57 = .ok (.sipush 406, 3) := by decide +kernel
theorem d_O_init_60 : decode c_O_init 60 = .ok (.newarray .int, 2) := by decide +kernel
theorem d_O_init_62 : decode c_O_init 62 = .ok (.putfield 30, 3) := by decide +kernel
theorem d_O_init_65 : decode c_O_init 65 = .ok (.aload_n 0, 1) := by decide +kernel
theorem d_O_init_66 : decode c_O_init 66 = .ok (.bipush 17, 2) := by decide +kernel
theorem d_O_init_68 : decode c_O_init 68 = .ok (.newarray .int, 2) := by decide +kernel
theorem d_O_init_70 : decode c_O_init 70 = .ok (.putfield 33, 3) := by decide +kernel
theorem d_O_init_73 : decode c_O_init 73 = .ok (.aload_n 0, 1) := by decide +kernel
theorem d_O_init_74 : decode c_O_init 74 = .ok (.sipush 166, 3) := by decide +kernel
theorem d_O_init_77 : decode c_O_init 77 = .ok (.newarray .int, 2) := by decide +kernel
theorem d_O_init_79 : decode c_O_init 79 = .ok (.putfield 36, 3) := by decide +kernel
theorem d_O_init_82 : decode c_O_init 82 = .ok (.aload_n 0, 1) := by decide +kernel
theorem d_O_init_83 : decode c_O_init 83 = .ok (.sipush 166, 3) := by decide +kernel
theorem d_O_init_86 : decode c_O_init 86 = .ok (.newarray .int, 2) := by decide +kernel
theorem d_O_init_88 : decode c_O_init 88 = .ok (.putfield 39, 3) := by decide +kernel
theorem d_O_init_91 : decode c_O_init 91 = .ok (.return_, 1) := by decide +kernel
theorem d_O_make_0 : decode c_O_make 0 = .ok (.aload_n 0, 1) := by decide +kernel
theorem d_O_make_1 : decode c_O_make 1 = .ok (.iload_n 2, 1) := by decide +kernel
theorem d_O_make_2 : decode c_O_make 2 = .ok (.putfield 42, 3) := by decide +kernel
theorem d_O_make_5 : decode c_O_make 5 = .ok (.aload_n 0, 1) := by decide +kernel
theorem d_O_make_6 : decode c_O_make 6 = .ok (.aload_n 1, 1) := by decide +kernel
theorem d_O_make_7 : decode c_O_make 7 = .ok (.getfield 46, 3) := by decide +kernel
theorem d_O_make_10 : decode c_O_make 10 = .ok (.putfield 51, 3) := by decide +kernel
theorem d_O_make_13 : decode c_O_make 13 = .ok (.aload_n 0, 1) := by decide +kernel
theorem d_O_make_14 : decode c_O_make 14 = .ok (.aload_n 1, 1) := by decide +kernel
theorem d_O_make_15 : decode c_O_make 15 = .ok (.invokevirtual 52, 3) := by decide +kernel
theorem d_O_make_18 : decode c_O_make 18 = .ok (.aload_n 0, 1) := by decide +kernel
theorem d_O_make_19 : decode c_O_make 19 = .ok (.aload_n 1, 1) := by decide +kernel
theorem d_O_make_20 : decode c_O_make 20 = .ok (.invokevirtual 56, 3) := by decide +kernel
theorem d_O_make_23 : decode c_O_make 23 = .ok (.aload_n 0, 1) := by decide +kernel
theorem d_O_make_24 : decode c_O_make 24 = .ok (.invokevirtual 59, 3) := by decide +kernel
theorem d_O_make_27 : decode c_O_make 27 = .ok (.istore_n 3, 1) := by decide +kernel
theorem d_O_make_28 : decode c_O_make 28 = .ok (.aload_n 0, 1) := by decide +kernel
theorem d_O_make_29 : decode c_O_make 29 = .ok (.getfield 15, 3) := by decide +kernel
theorem d_O_make_32 : decode c_O_make 32 = .ok (.iconst 0, 1) := by decide +kernel
theorem d_O_make_33 : decode c_O_make 33 = .ok (.iload_n 3, 1) := by decide +kernel
theorem d_O_make_34 : decode c_O_make 34 = .ok (.iastore, 1) := by decide +kernel
theorem d_O_make_35 : decode c_O_make 35 = .ok (.aload_n 0, 1) := by decide +kernel
theorem d_O_make_36 : decode c_O_make 36 = .ok (.invokevirtual 63, 3) := by decide +kernel
theorem d_O_make_39 : decode c_O_make 39 = .ok (.iconst 1, 1) := by decide +kernel
theorem d_O_make_40 : decode c_O_make 40 = .ok (.istore 4, 2) := by decide +kernel
theorem d_O_make_42 : decode c_O_make 42 = .ok (.iload 4, 2) := by decide +kernel
theorem d_O_make_44 : decode c_O_make 44 = .ok (.aload_n 0, 1) := by decide +kernel
theorem d_O_make_45 : decode c_O_make 45 = .ok (.getfield 42, 3) := by decide +kernel
theorem d_O_make_48 : decode c_O_make 48 = .ok (.if_icmp .gt 47, 3) := by decide +kernel
theorem d_O_make_51 : decode c_O_make 51 = .ok (.aload_n 0, 1) := by decide +kernel
theorem d_O_make_52 : decode c_O_make 52 = .ok (.invokevirtual 66, 3) := by decide +kernel
theorem d_O_make_55 : decode c_O_make 55 = .ok (.aload_n 0, 1) := by decide +kernel
theorem d_O_make_56 : decode c_O_make 56 = .ok (.getfield 15, 3) := by decide +kernel
theorem d_O_make_59 : decode c_O_make 59 = .ok (.iload 4, 2) := by decide +kernel
theorem d_O_make_61 : decode c_O_make 61 = .ok (.aload_n 0, 1) := by decide +kernel
theorem d_O_make_62 : decode c_O_make 62 = .ok (.invokevirtual 59, 3) := by decide +kernel
theorem d_O_make_65 : decode c_O_make 65 = .ok (.iastore, 1) := by decide +kernel
theorem d_O_make_66 : decode c_O_make 66 = .ok (.aload_n 0, 1) := by decide +kernel
theorem d_O_make_67 : decode c_O_make 67 = .ok (.getfield 15, 3) := by decide +kernel
theorem d_O_make_70 : decode c_O_make 70 = .ok (.iload 4, 2) := by decide +kernel
theorem d_O_make_72 : decode c_O_make 72 = .ok (.iaload, 1) := by decide +kernel
theorem d_O_make_73 : decode c_O_make 73 = .ok (.iload_n 3, 1) := by decide +kernel
theorem d_O_make_74 : decode c_O_make 74 = .ok (.if_icmp .ge 15, 3) := by decide +kernel
theorem d_O_make_77 : decode c_O_make 77 = .ok (.aload_n 0, 1) := by decide +kernel
theorem d_O_make_78 : decode c_O_make 78 = .ok (.getfield 15, 3) := by decide +kernel
theorem d_O_make_81 : decode c_O_make 81 = .ok (.iload 4, 2) := by decide +kernel
theorem d_O_make_83 : decode c_O_make 83 = .ok (.iaload, 1) := by decide +kernel
theorem d_O_make_84 : decode c_O_make 84 = .ok (.istore_n 3, 1) := by decide +kernel
theorem d_O_make_85 : decode c_O_make 85 = .ok (.aload_n 0, 1) := by decide +kernel
theorem d_O_make_86 : decode c_O_make 86 = .ok (.invokevirtual 63, 3) := by decide +kernel
theorem d_O_make_89 : decode c_O_make 89 = .ok (.iinc 4 1, 3) := by decide +kernel
theorem d_O_make_92 : decode c_O_make 92 = .ok (.goto (-50), 3) := by decide +kernel
theorem d_O_make_95 : decode c_O_make 95 = .ok (.aload_n 0, 1) := by decide +kernel
theorem d_O_make_96 : decode c_O_make 96 = .ok (.invokevirtual 69, 3) := by decide +kernel
theorem d_O_make_99 : decode c_O_make 99 = .ok (.iload_n 3, 1) := by decide +kernel
theorem d_O_make_100 : decode c_O_make 100 = .ok (.ireturn, 1) := by decide +kernel
theorem d_O_groupAt_0 : decode c_O_groupAt 0 = .ok (.iload_n 1, 1) := by decide +kernel
theorem d_O_groupAt_1 : decode c_O_groupAt 1 = .ok (.istore_n 2, 1) := by decide +kernel
theorem d_O_groupAt_2 : decode c_O_groupAt 2 = .ok (.iconst 0, 1) := by decide +kernel
theorem d_O_groupAt_3 : decode c_O_groupAt 3 = .ok (.istore_n 3, 1) := by decide +kernel
theorem d_O_groupAt_4 : decode c_O_groupAt 4 = .ok (.iload_n 3, 1) := by decide +kernel
theorem d_O_groupAt_5 : decode c_O_groupAt 5 = .ok (.aload_n 0, 1) := by decide +kernel
theorem d_O_groupAt_6 : decode c_O_groupAt 6 = .ok (.getfield 72, 3) := by decide +kernel
theorem d_O_groupAt_9 : decode c_O_groupAt 9 = .ok (.if_icmp .ge 34, 3) := by decide +kernel
theorem d_O_groupAt_12 : decode c_O_groupAt 12 = .ok (.aload_n 0, 1) := by decide +kernel
theorem d_O_groupAt_13 : decode c_O_groupAt 13 = .ok (.getfield 18, 3) := by decide +kernel
theorem d_O_groupAt_16 : decode c_O_groupAt 16 = .ok (.iload_n 3, 1) := by decide +kernel
theorem d_O_groupAt_17 : decode c_O_groupAt 17 = .ok (.iaload, 1) := by decide +kernel
theorem d_O_groupAt_18 : decode c_O_groupAt 18 = .ok (.bipush 16, 2) := by decide +kernel
theorem d_O_groupAt_20 : decode c_O_groupAt 20 = .ok (.if_icmp .ge 17, 3) := by decide +kernel
theorem d_O_groupAt_23 : decode c_O_groupAt 23 = .ok (.iload_n 2, 1) := by decide +kernel
theorem d_O_groupAt_24 : decode c_O_groupAt 24 = .ok (.ifCond .ne 10, 3) := by decide +kernel
theorem d_O_groupAt_27 : decode c_O_groupAt 27 = .ok (.aload_n 0, 1) := by decide +kernel
theorem d_O_groupAt_28 : decode c_O_groupAt 28 = .ok (.getfield 18, 3) := by decide +kernel
theorem d_O_groupAt_31 : decode c_O_groupAt 31 = .ok (.iload_n 3, 1) := by decide +kernel
theorem d_O_groupAt_32 : decode c_O_groupAt 32 = .ok (.iaload, 1) := by decide +kernel
theorem d_O_groupAt_33 : decode c_O_groupAt 33 = .ok (.ireturn, 1) := by decide +kernel
theorem d_O_groupAt_34 : decode c_O_groupAt 34 = .ok (.iinc 2 (-1), 3) := by decide +kernel
theorem d_O_groupAt_37 : decode c_O_groupAt 37 = .ok (.iinc 3 1, 3) := by decide +kernel
theorem d_O_groupAt_40 : decode c_O_groupAt 40 = .ok (.goto (-36), 3) := by decide +kernel
theorem d_O_groupAt_43 : decode c_O_groupAt 43 = .ok (.iconst 0, 1) := by decide +kernel
theorem d_O_groupAt_44 : decode c_O_groupAt 44 = .ok (.ireturn, 1) := by decide +kernel
theorem d_O_layMarks_0 : decode c_O_layMarks 0 = .ok (.aload_n 0, 1) := by decide +kernel
theorem d_O_layMarks_1 : decode c_O_layMarks 1 = .ok (.iconst 0, 1) := by decide +kernel
theorem d_O_layMarks_2 : decode c_O_layMarks 2 = .ok (.putfield 72, 3) := by decide +kernel
theorem d_O_layMarks_5 : decode c_O_layMarks 5 = .ok (.iconst 0, 1) := by decide +kernel
theorem d_O_layMarks_6 : decode c_O_layMarks 6 = .ok (.istore_n 2, 1) := by decide +kernel
theorem d_O_layMarks_7 : decode c_O_layMarks 7 = .ok (.iload_n 2, 1) := by decide +kernel
theorem d_O_layMarks_8 : decode c_O_layMarks 8 = .ok (.aload_n 0, 1) := by decide +kernel
theorem d_O_layMarks_9 : decode c_O_layMarks 9 = .ok (.getfield 51, 3) := by decide +kernel
theorem d_O_layMarks_12 : decode c_O_layMarks 12 = .ok (.if_icmp .ge 125, 3) := by decide +kernel
theorem d_O_layMarks_15 : decode c_O_layMarks 15 = .ok (.aload_n 0, 1) := by decide +kernel
theorem d_O_layMarks_16 : decode c_O_layMarks 16 = .ok (.getfield 24, 3) := by decide +kernel
theorem d_O_layMarks_19 : decode c_O_layMarks 19 = .ok (.iload_n 2, 1) := by decide +kernel
theorem d_O_layMarks_20 : decode c_O_layMarks 20 = .ok (.aload_n 0, 1) := by decide +kernel
theorem d_O_layMarks_21 : decode c_O_layMarks 21 = .ok (.getfield 72, 3) := by decide +kernel
theorem d_O_layMarks_24 : decode c_O_layMarks 24 = .ok (.iastore, 1) := by decide +kernel
theorem d_O_layMarks_25 : decode c_O_layMarks 25 = .ok (.iconst 0, 1) := by decide +kernel
theorem d_O_layMarks_26 : decode c_O_layMarks 26 = .ok (.istore_n 3, 1) := by decide +kernel
theorem d_O_layMarks_27 : decode c_O_layMarks 27 = .ok (.iload_n 3, 1) := by decide +kernel
theorem d_O_layMarks_28 : decode c_O_layMarks 28 = .ok (.bipush 16, 2) := by decide +kernel
theorem d_O_layMarks_30 : decode c_O_layMarks 30 = .ok (.if_icmp .ge 35, 3) := by decide +kernel
theorem d_O_layMarks_33 : decode c_O_layMarks 33 = .ok (.aload_n 1, 1) := by decide +kernel
theorem d_O_layMarks_34 : decode c_O_layMarks 34 = .ok (.getfield 75, 3) := by decide +kernel
theorem d_O_layMarks_37 : decode c_O_layMarks 37 = .ok (.iload_n 3, 1) := by decide +kernel
theorem d_O_layMarks_38 : decode c_O_layMarks 38 = .ok (.invokestatic 78, 3) := by decide +kernel
theorem d_O_layMarks_41 : decode c_O_layMarks 41 = .ok (.ifCond .eq 18, 3) := by decide +kernel
theorem d_O_layMarks_44 : decode c_O_layMarks 44 = .ok (.aload_n 1, 1) := by decide +kernel
theorem d_O_layMarks_45 : decode c_O_layMarks 45 = .ok (.getfield 82, 3) := by decide +kernel
theorem d_O_layMarks_48 : decode c_O_layMarks 48 = .ok (.iload_n 3, 1) := by decide +kernel
theorem d_O_layMarks_49 : decode c_O_layMarks 49 = .ok (.iaload, 1) := by decide +kernel
theorem d_O_layMarks_50 : decode c_O_layMarks 50 = .ok (.iload_n 2, 1) := by decide +kernel
theorem d_O_layMarks_51 : decode c_O_layMarks 51 = .ok (.if_icmp .ne 8, 3) := by decide +kernel
theorem d_O_layMarks_54 : decode c_O_layMarks 54 = .ok (.aload_n 0, 1) := by decide +kernel
theorem d_O_layMarks_55 : decode c_O_layMarks 55 = .ok (.iload_n 3, 1) := by decide +kernel
theorem d_O_layMarks_56 : decode c_O_layMarks 56 = .ok (.invokevirtual 85, 3) := by decide +kernel
theorem d_O_layMarks_59 : decode c_O_layMarks 59 = .ok (.iinc 3 1, 3) := by decide +kernel
theorem d_O_layMarks_62 : decode c_O_layMarks 62 = .ok (.goto (-35), 3) := by decide +kernel
theorem d_O_layMarks_65 : decode c_O_layMarks 65 = .ok (.iconst 0, 1) := by decide +kernel
theorem d_O_layMarks_66 : decode c_O_layMarks 66 = .ok (.istore_n 3, 1) := by decide +kernel
theorem d_O_layMarks_67 : decode c_O_layMarks 67 = .ok (.iload_n 3, 1) := by decide +kernel
theorem d_O_layMarks_68 : decode c_O_layMarks 68 = .ok (.aload_n 1, 1) := by decide +kernel
theorem d_O_layMarks_69 : decode c_O_layMarks 69 = .ok (.getfield 89, 3) := by decide +kernel
theorem d_O_layMarks_72 : decode c_O_layMarks 72 = .ok (.if_icmp .ge 50, 3) := by decide +kernel
theorem d_O_layMarks_75 : decode c_O_layMarks 75 = .ok (.iload_n 2, 1) := by decide +kernel
theorem d_O_layMarks_76 : decode c_O_layMarks 76 = .ok (.aload_n 1, 1) := by decide +kernel
theorem d_O_layMarks_77 : decode c_O_layMarks 77 = .ok (.getfield 82, 3) := by decide +kernel
theorem d_O_layMarks_80 : decode c_O_layMarks 80 = .ok (.aload_n 1, 1) := by decide +kernel
theorem d_O_layMarks_81 : decode c_O_layMarks 81 = .ok (.getfield 92, 3) := by decide +kernel
theorem d_O_layMarks_84 : decode c_O_layMarks 84 = .ok (.iload_n 3, 1) := by decide +kernel
theorem d_O_layMarks_85 : decode c_O_layMarks 85 = .ok (.iaload, 1) := by decide +kernel
theorem d_O_layMarks_86 : decode c_O_layMarks 86 = .ok (.iaload, 1) := by decide +kernel
theorem d_O_layMarks_87 : decode c_O_layMarks 87 = .ok (.isub, 1) := by decide +kernel
theorem d_O_layMarks_88 : decode c_O_layMarks 88 = .ok (.istore 4, 2) := by decide +kernel
theorem d_O_layMarks_90 : decode c_O_layMarks 90 = .ok (.iload 4, 2) := by decide +kernel
theorem d_O_layMarks_92 : decode c_O_layMarks 92 = .ok (.ifCond .le 24, 3) := by decide +kernel
theorem d_O_layMarks_95 : decode c_O_layMarks 95 = .ok (.iload 4, 2) := by decide +kernel
theorem d_O_layMarks_97 : decode c_O_layMarks 97 = .ok (.aload_n 1, 1) := by decide +kernel
theorem d_O_layMarks_98 : decode c_O_layMarks 98 = .ok (.iload_n 3, 1) := by decide +kernel
theorem d_O_layMarks_99 : decode c_O_layMarks 99 = .ok (.invokevirtual 95, 3) := by decide +kernel
theorem d_O_layMarks_102 : decode c_O_layMarks 102 = .ok (.if_icmp .gt 14, 3) := by decide +kernel
theorem d_O_layMarks_105 : decode c_O_layMarks 105 = .ok (.aload_n 0, 1) := by decide +kernel
theorem d_O_layMarks_106 : decode c_O_layMarks 106 = .ok (.aload_n 1, 1) := by decide +kernel
theorem d_O_layMarks_107 : decode c_O_layMarks 107 = .ok (.iload_n 3, 1) := by decide +kernel
theorem d_O_layMarks_108 : decode c_O_layMarks 108 = .ok (.iload 4, 2) := by decide +kernel
theorem d_O_layMarks_110 : decode c_O_layMarks 110 = .ok (.invokevirtual 99, 3) := by decide +kernel
theorem d_O_layMarks_113 : decode c_O_layMarks 113 = .ok (.invokevirtual 85, 3) := by decide +kernel
theorem d_O_layMarks_116 : decode c_O_layMarks 116 = .ok (.iinc 3 1, 3) := by decide +kernel
theorem d_O_layMarks_119 : decode c_O_layMarks 119 = .ok (.goto (-52), 3) := by decide +kernel
theorem d_O_layMarks_122 : decode c_O_layMarks 122 = .ok (.aload_n 0, 1) := by decide +kernel
theorem d_O_layMarks_123 : decode c_O_layMarks 123 = .ok (.iload_n 2, 1) := by decide +kernel
theorem d_O_layMarks_124 : decode c_O_layMarks 124 = .ok (.aload_n 0, 1) := by decide +kernel
theorem d_O_layMarks_125 : decode c_O_layMarks 125 = .ok (.getfield 72, 3) := by decide +kernel
theorem d_O_layMarks_128 : decode c_O_layMarks 128 = .ok (.invokevirtual 103, 3) := by decide +kernel
theorem d_O_layMarks_131 : decode c_O_layMarks 131 = .ok (.iinc 2 1, 3) := by decide +kernel
theorem d_O_layMarks_134 : decode c_O_layMarks 134 = .ok (.goto (-127), 3) := by decide +kernel
theorem d_O_layMarks_137 : decode c_O_layMarks 137 = .ok (.aload_n 0, 1) := by decide +kernel
theorem d_O_layMarks_138 : decode c_O_layMarks 138 = .ok (.getfield 24, 3) := by decide +kernel
theorem d_O_layMarks_141 : decode c_O_layMarks 141 = .ok (.aload_n 0, 1) := by decide +kernel
theorem d_O_layMarks_142 : decode c_O_layMarks 142 = .ok (.getfield 51, 3) := by decide +kernel
theorem d_O_layMarks_145 : decode c_O_layMarks 145 = .ok (.aload_n 0, 1) := by decide +kernel
theorem d_O_layMarks_146 : decode c_O_layMarks 146 = .ok (.getfield 72, 3) := by decide +kernel
theorem d_O_layMarks_149 : decode c_O_layMarks 149 = .ok (.iastore, 1) := by decide +kernel
theorem d_O_layMarks_150 : decode c_O_layMarks 150 = .ok (.return_, 1) := by decide +kernel
theorem d_O_layMark_0 : decode c_O_layMark 0 = .ok (.aload_n 0, 1) := by decide +kernel
theorem d_O_layMark_1 : decode c_O_layMark 1 = .ok (.getfield 18, 3) := by decide +kernel
theorem d_O_layMark_4 : decode c_O_layMark 4 = .ok (.aload_n 0, 1) := by decide +kernel
theorem d_O_layMark_5 : decode c_O_layMark 5 = .ok (.getfield 72, 3) := by decide +kernel
theorem d_O_layMark_8 : decode c_O_layMark 8 = .ok (.iload_n 1, 1) := by decide +kernel
theorem d_O_layMark_9 : decode c_O_layMark 9 = .ok (.iastore, 1) := by decide +kernel
theorem d_O_layMark_10 : decode c_O_layMark 10 = .ok (.aload_n 0, 1) := by decide +kernel
theorem d_O_layMark_11 : decode c_O_layMark 11 = .ok (.dup, 1) := by decide +kernel
theorem d_O_layMark_12 : decode c_O_layMark 12 = .ok (.getfield 72, 3) := by decide +kernel
theorem d_O_layMark_15 : decode c_O_layMark 15 = .ok (.iconst 1, 1) := by decide +kernel
theorem d_O_layMark_16 : decode c_O_layMark 16 = .ok (.iadd, 1) := by decide +kernel
theorem d_O_layMark_17 : decode c_O_layMark 17 = .ok (.putfield 72, 3) := by decide +kernel
theorem d_O_layMark_20 : decode c_O_layMark 20 = .ok (.return_, 1) := by decide +kernel
theorem d_O_layPieces_0 : decode c_O_layPieces 0 = .ok (.aload_n 0, 1) := by decide +kernel
theorem d_O_layPieces_1 : decode c_O_layPieces 1 = .ok (.iconst 0, 1) := by decide +kernel
theorem d_O_layPieces_2 : decode c_O_layPieces 2 = .ok (.putfield 107, 3) := by decide +kernel
theorem d_O_layPieces_5 : decode c_O_layPieces 5 = .ok (.iconst 0, 1) := by decide +kernel
theorem d_O_layPieces_6 : decode c_O_layPieces 6 = .ok (.istore_n 2, 1) := by decide +kernel
theorem d_O_layPieces_7 : decode c_O_layPieces 7 = .ok (.iload_n 2, 1) := by decide +kernel
theorem d_O_layPieces_8 : decode c_O_layPieces 8 = .ok (.aload_n 0, 1) := by decide +kernel
theorem d_O_layPieces_9 : decode c_O_layPieces 9 = .ok (.getfield 51, 3) := by decide +kernel
theorem d_O_layPieces_12 : decode c_O_layPieces 12 = .ok (.if_icmp .ge 109, 3) := by decide +kernel
theorem d_O_layPieces_15 : decode c_O_layPieces 15 = .ok (.aload_n 0, 1) := by decide +kernel
theorem d_O_layPieces_16 : decode c_O_layPieces 16 = .ok (.getfield 33, 3) := by decide +kernel
theorem d_O_layPieces_19 : decode c_O_layPieces 19 = .ok (.iload_n 2, 1) := by decide +kernel
theorem d_O_layPieces_20 : decode c_O_layPieces 20 = .ok (.aload_n 0, 1) := by decide +kernel
theorem d_O_layPieces_21 : decode c_O_layPieces 21 = .ok (.getfield 107, 3) := by decide +kernel
theorem d_O_layPieces_24 : decode c_O_layPieces 24 = .ok (.iastore, 1) := by decide +kernel
theorem d_O_layPieces_25 : decode c_O_layPieces 25 = .ok (.iconst 0, 1) := by decide +kernel
theorem d_O_layPieces_26 : decode c_O_layPieces 26 = .ok (.istore_n 3, 1) := by decide +kernel
theorem d_O_layPieces_27 : decode c_O_layPieces 27 = .ok (.iload_n 3, 1) := by decide +kernel
theorem d_O_layPieces_28 : decode c_O_layPieces 28 = .ok (.aload_n 1, 1) := by decide +kernel
theorem d_O_layPieces_29 : decode c_O_layPieces 29 = .ok (.getfield 89, 3) := by decide +kernel
theorem d_O_layPieces_32 : decode c_O_layPieces 32 = .ok (.if_icmp .ge 83, 3) := by decide +kernel
theorem d_O_layPieces_35 : decode c_O_layPieces 35 = .ok (.iload_n 2, 1) := by decide +kernel
theorem d_O_layPieces_36 : decode c_O_layPieces 36 = .ok (.aload_n 1, 1) := by decide +kernel
theorem d_O_layPieces_37 : decode c_O_layPieces 37 = .ok (.getfield 82, 3) := by decide +kernel
theorem d_O_layPieces_40 : decode c_O_layPieces 40 = .ok (.aload_n 1, 1) := by decide +kernel
theorem d_O_layPieces_41 : decode c_O_layPieces 41 = .ok (.getfield 92, 3) := by decide +kernel
theorem d_O_layPieces_44 : decode c_O_layPieces 44 = .ok (.iload_n 3, 1) := by decide +kernel
theorem d_O_layPieces_45 : decode c_O_layPieces 45 = .ok (.iaload, 1) := by decide +kernel
theorem d_O_layPieces_46 : decode c_O_layPieces 46 = .ok (.iaload, 1) := by decide +kernel
theorem d_O_layPieces_47 : decode c_O_layPieces 47 = .ok (.isub, 1) := by decide +kernel
theorem d_O_layPieces_48 : decode c_O_layPieces 48 = .ok (.istore 4, 2) := by decide +kernel
theorem d_O_layPieces_50 : decode c_O_layPieces 50 = .ok (.iload 4, 2) := by decide +kernel
theorem d_O_layPieces_52 : decode c_O_layPieces 52 = .ok (.ifCond .lt 57, 3) := by decide +kernel
theorem d_O_layPieces_55 : decode c_O_layPieces 55 = .ok (.iload 4, 2) := by decide +kernel
theorem d_O_layPieces_57 : decode c_O_layPieces 57 = .ok (.aload_n 1, 1) := by decide +kernel
theorem d_O_layPieces_58 : decode c_O_layPieces 58 = .ok (.iload_n 3, 1) := by decide +kernel
theorem d_O_layPieces_59 : decode c_O_layPieces 59 = .ok (.invokevirtual 95, 3) := by decide +kernel
theorem d_O_layPieces_62 : decode c_O_layPieces 62 = .ok (.if_icmp .gt 47, 3) := by decide +kernel
theorem d_O_layPieces_65 : decode c_O_layPieces 65 = .ok (.aload_n 0, 1) := by decide +kernel
theorem d_O_layPieces_66 : decode c_O_layPieces 66 = .ok (.getfield 27, 3) := by decide +kernel
theorem d_O_layPieces_69 : decode c_O_layPieces 69 = .ok (.aload_n 0, 1) := by decide +kernel
theorem d_O_layPieces_70 : decode c_O_layPieces 70 = .ok (.getfield 107, 3) := by decide +kernel
theorem d_O_layPieces_73 : decode c_O_layPieces 73 = .ok (.aload_n 1, 1) := by decide +kernel
theorem d_O_layPieces_74 : decode c_O_layPieces 74 = .ok (.iload_n 3, 1) := by decide +kernel
theorem d_O_layPieces_75 : decode c_O_layPieces 75 = .ok (.iload 4, 2) := by decide +kernel
theorem d_O_layPieces_77 : decode c_O_layPieces 77 = .ok (.invokevirtual 99, 3) := by decide +kernel
theorem d_O_layPieces_80 : decode c_O_layPieces 80 = .ok (.iastore, 1) := by decide +kernel
theorem d_O_layPieces_81 : decode c_O_layPieces 81 = .ok (.aload_n 0, 1) := by decide +kernel
theorem d_O_layPieces_82 : decode c_O_layPieces 82 = .ok (.getfield 30, 3) := by decide +kernel
theorem d_O_layPieces_85 : decode c_O_layPieces 85 = .ok (.aload_n 0, 1) := by decide +kernel
theorem d_O_layPieces_86 : decode c_O_layPieces 86 = .ok (.getfield 107, 3) := by decide +kernel
theorem d_O_layPieces_89 : decode c_O_layPieces 89 = .ok (.aload_n 1, 1) := by decide +kernel
theorem d_O_layPieces_90 : decode c_O_layPieces 90 = .ok (.iload_n 3, 1) := by decide +kernel
theorem d_O_layPieces_91 : decode c_O_layPieces 91 = .ok (.iload 4, 2) := by decide +kernel
theorem d_O_layPieces_93 : decode c_O_layPieces 93 = .ok (.iconst 1, 1) := by decide +kernel
theorem d_O_layPieces_94 : decode c_O_layPieces 94 = .ok (.iadd, 1) := by decide +kernel
theorem d_O_layPieces_95 : decode c_O_layPieces 95 = .ok (.invokevirtual 99, 3) := by decide +kernel
theorem d_O_layPieces_98 : decode c_O_layPieces 98 = .ok (.iastore, 1) := by decide +kernel
theorem d_O_layPieces_99 : decode c_O_layPieces 99 = .ok (.aload_n 0, 1) := by decide +kernel
theorem d_O_layPieces_100 : decode c_O_layPieces 100 = .ok (.dup, 1) := by decide +kernel
theorem d_O_layPieces_101 : decode c_O_layPieces 101 = .ok (.getfield 107, 3) := by decide +kernel
theorem d_O_layPieces_104 : decode c_O_layPieces 104 = .ok (.iconst 1, 1) := by decide +kernel
theorem d_O_layPieces_105 : decode c_O_layPieces 105 = .ok (.iadd, 1) := by decide +kernel
theorem d_O_layPieces_106 : decode c_O_layPieces 106 = .ok (.putfield 107, 3) := by decide +kernel
theorem d_O_layPieces_109 : decode c_O_layPieces 109 = .ok (.iinc 3 1, 3) := by decide +kernel
theorem d_O_layPieces_112 : decode c_O_layPieces 112 = .ok (.goto (-85), 3) := by decide +kernel
theorem d_O_layPieces_115 : decode c_O_layPieces 115 = .ok (.iinc 2 1, 3) := by decide +kernel
theorem d_O_layPieces_118 : decode c_O_layPieces 118 = .ok (.goto (-111), 3) := by decide +kernel
theorem d_O_layPieces_121 : decode c_O_layPieces 121 = .ok (.aload_n 0, 1) := by decide +kernel
theorem d_O_layPieces_122 : decode c_O_layPieces 122 = .ok (.getfield 33, 3) := by decide +kernel
theorem d_O_layPieces_125 : decode c_O_layPieces 125 = .ok (.aload_n 0, 1) := by decide +kernel
theorem d_O_layPieces_126 : decode c_O_layPieces 126 = .ok (.getfield 51, 3) := by decide +kernel
theorem d_O_layPieces_129 : decode c_O_layPieces 129 = .ok (.aload_n 0, 1) := by decide +kernel
theorem d_O_layPieces_130 : decode c_O_layPieces 130 = .ok (.getfield 107, 3) := by decide +kernel
theorem d_O_layPieces_133 : decode c_O_layPieces 133 = .ok (.iastore, 1) := by decide +kernel
theorem d_O_layPieces_134 : decode c_O_layPieces 134 = .ok (.return_, 1) := by decide +kernel
theorem d_O_runRound_0 : decode c_O_runRound 0 = .ok (.iconst 1, 1) := by decide +kernel
theorem d_O_runRound_1 : decode c_O_runRound 1 = .ok (.istore_n 1, 1) := by decide +kernel
theorem d_O_runRound_2 : decode c_O_runRound 2 = .ok (.iload_n 1, 1) := by decide +kernel
theorem d_O_runRound_3 : decode c_O_runRound 3 = .ok (.aload_n 0, 1) := by decide +kernel
theorem d_O_runRound_4 : decode c_O_runRound 4 = .ok (.getfield 51, 3) := by decide +kernel
theorem d_O_runRound_7 : decode c_O_runRound 7 = .ok (.if_icmp .ge 25, 3) := by decide +kernel
theorem d_O_runRound_10 : decode c_O_runRound 10 = .ok (.aload_n 0, 1) := by decide +kernel
theorem d_O_runRound_11 : decode c_O_runRound 11 = .ok (.iload_n 1, 1) := by decide +kernel
theorem d_O_runRound_12 : decode c_O_runRound 12 = .ok (.iload_n 1, 1) := by decide +kernel
theorem d_O_runRound_13 : decode c_O_runRound 13 = .ok (.iconst 1, 1) := by decide +kernel
theorem d_O_runRound_14 : decode c_O_runRound 14 = .ok (.isub, 1) := by decide +kernel
theorem d_O_runRound_15 : decode c_O_runRound 15 = .ok (.aload_n 0, 1) := by decide +kernel
theorem d_O_runRound_16 : decode c_O_runRound 16 = .ok (.getfield 30, 3) := by decide +kernel
theorem d_O_runRound_19 : decode c_O_runRound 19 = .ok (.aload_n 0, 1) := by decide +kernel
theorem d_O_runRound_20 : decode c_O_runRound 20 = .ok (.getfield 27, 3) := by decide +kernel
theorem d_O_runRound_23 : decode c_O_runRound 23 = .ok (.invokevirtual 110, 3) := by decide +kernel
theorem d_O_runRound_26 : decode c_O_runRound 26 = .ok (.iinc 1 1, 3) := by decide +kernel
theorem d_O_runRound_29 : decode c_O_runRound 29 = .ok (.goto (-27), 3) := by decide +kernel
theorem d_O_runRound_32 : decode c_O_runRound 32 = .ok (.aload_n 0, 1) := by decide +kernel
theorem d_O_runRound_33 : decode c_O_runRound 33 = .ok (.getfield 51, 3) := by decide +kernel
theorem d_O_runRound_36 : decode c_O_runRound 36 = .ok (.iconst 2, 1) := by decide +kernel
theorem d_O_runRound_37 : decode c_O_runRound 37 = .ok (.isub, 1) := by decide +kernel
theorem d_O_runRound_38 : decode c_O_runRound 38 = .ok (.istore_n 1, 1) := by decide +kernel
theorem d_O_runRound_39 : decode c_O_runRound 39 = .ok (.iload_n 1, 1) := by decide +kernel
theorem d_O_runRound_40 : decode c_O_runRound 40 = .ok (.ifCond .lt 23, 3) := by decide +kernel
theorem d_O_runRound_43 : decode c_O_runRound 43 = .ok (.aload_n 0, 1) := by decide +kernel
theorem d_O_runRound_44 : decode c_O_runRound 44 = .ok (.iload_n 1, 1) := by decide +kernel
theorem d_O_runRound_45 : decode c_O_runRound 45 = .ok (.iload_n 1, 1) := by decide +kernel
theorem d_O_runRound_46 : decode c_O_runRound 46 = .ok (.aload_n 0, 1) := by decide +kernel
theorem d_O_runRound_47 : decode c_O_runRound 47 = .ok (.getfield 27, 3) := by decide +kernel
theorem d_O_runRound_50 : decode c_O_runRound 50 = .ok (.aload_n 0, 1) := by decide +kernel
theorem d_O_runRound_51 : decode c_O_runRound 51 = .ok (.getfield 30, 3) := by decide +kernel
theorem d_O_runRound_54 : decode c_O_runRound 54 = .ok (.invokevirtual 110, 3) := by decide +kernel
theorem d_O_runRound_57 : decode c_O_runRound 57 = .ok (.iinc 1 (-1), 3) := by decide +kernel
theorem d_O_runRound_60 : decode c_O_runRound 60 = .ok (.goto (-21), 3) := by decide +kernel
theorem d_O_runRound_63 : decode c_O_runRound 63 = .ok (.return_, 1) := by decide +kernel
theorem d_O_arrange_0 : decode c_O_arrange 0 = .ok (.aload_n 0, 1) := by decide +kernel
theorem d_O_arrange_1 : decode c_O_arrange 1 = .ok (.iload_n 1, 1) := by decide +kernel
theorem d_O_arrange_2 : decode c_O_arrange 2 = .ok (.iload_n 2, 1) := by decide +kernel
theorem d_O_arrange_3 : decode c_O_arrange 3 = .ok (.aload_n 3, 1) := by decide +kernel
theorem d_O_arrange_4 : decode c_O_arrange 4 = .ok (.aload 4, 2) := by decide +kernel
theorem d_O_arrange_6 : decode c_O_arrange 6 = .ok (.invokevirtual 114, 3) := by decide +kernel
theorem d_O_arrange_9 : decode c_O_arrange 9 = .ok (.aload_n 0, 1) := by decide +kernel
theorem d_O_arrange_10 : decode c_O_arrange 10 = .ok (.aload_n 0, 1) := by decide +kernel
theorem d_O_arrange_11 : decode c_O_arrange 11 = .ok (.getfield 24, 3) := by decide +kernel
theorem d_O_arrange_14 : decode c_O_arrange 14 = .ok (.iload_n 1, 1) := by decide +kernel
theorem d_O_arrange_15 : decode c_O_arrange 15 = .ok (.iaload, 1) := by decide +kernel
theorem d_O_arrange_16 : decode c_O_arrange 16 = .ok (.aload_n 0, 1) := by decide +kernel
theorem d_O_arrange_17 : decode c_O_arrange 17 = .ok (.getfield 24, 3) := by decide +kernel
theorem d_O_arrange_20 : decode c_O_arrange 20 = .ok (.iload_n 1, 1) := by decide +kernel
theorem d_O_arrange_21 : decode c_O_arrange 21 = .ok (.iconst 1, 1) := by decide +kernel
theorem d_O_arrange_22 : decode c_O_arrange 22 = .ok (.iadd, 1) := by decide +kernel
theorem d_O_arrange_23 : decode c_O_arrange 23 = .ok (.iaload, 1) := by decide +kernel
theorem d_O_arrange_24 : decode c_O_arrange 24 = .ok (.invokevirtual 117, 3) := by decide +kernel
theorem d_O_arrange_27 : decode c_O_arrange 27 = .ok (.aload_n 0, 1) := by decide +kernel
theorem d_O_arrange_28 : decode c_O_arrange 28 = .ok (.iload_n 1, 1) := by decide +kernel
theorem d_O_arrange_29 : decode c_O_arrange 29 = .ok (.aload_n 0, 1) := by decide +kernel
theorem d_O_arrange_30 : decode c_O_arrange 30 = .ok (.getfield 24, 3) := by decide +kernel
theorem d_O_arrange_33 : decode c_O_arrange 33 = .ok (.iload_n 1, 1) := by decide +kernel
theorem d_O_arrange_34 : decode c_O_arrange 34 = .ok (.iconst 1, 1) := by decide +kernel
theorem d_O_arrange_35 : decode c_O_arrange 35 = .ok (.iadd, 1) := by decide +kernel
theorem d_O_arrange_36 : decode c_O_arrange 36 = .ok (.iaload, 1) := by decide +kernel
theorem d_O_arrange_37 : decode c_O_arrange 37 = .ok (.invokevirtual 103, 3) := by decide +kernel
theorem d_O_arrange_40 : decode c_O_arrange 40 = .ok (.return_, 1) := by decide +kernel
theorem d_O_weigh_0 : decode c_O_weigh 0 = .ok (.aload_n 0, 1) := by decide +kernel
theorem d_O_weigh_1 : decode c_O_weigh 1 = .ok (.getfield 24, 3) := by decide +kernel
theorem d_O_weigh_4 : decode c_O_weigh 4 = .ok (.iload_n 1, 1) := by decide +kernel
theorem d_O_weigh_5 : decode c_O_weigh 5 = .ok (.iaload, 1) := by decide +kernel
theorem d_O_weigh_6 : decode c_O_weigh 6 = .ok (.istore 5, 2) := by decide +kernel
theorem d_O_weigh_8 : decode c_O_weigh 8 = .ok (.iload 5, 2) := by decide +kernel
theorem d_O_weigh_10 : decode c_O_weigh 10 = .ok (.aload_n 0, 1) := by decide +kernel
theorem d_O_weigh_11 : decode c_O_weigh 11 = .ok (.getfield 24, 3) := by decide +kernel
theorem d_O_weigh_14 : decode c_O_weigh 14 = .ok (.iload_n 1, 1) := by decide +kernel
theorem d_O_weigh_15 : decode c_O_weigh 15 = .ok (.iconst 1, 1) := by decide +kernel
theorem d_O_weigh_16 : decode c_O_weigh 16 = .ok (.iadd, 1) := by decide +kernel
theorem d_O_weigh_17 : decode c_O_weigh 17 = .ok (.iaload, 1) := by decide +kernel
theorem d_O_weigh_18 : decode c_O_weigh 18 = .ok (.if_icmp .ge 35, 3) := by decide +kernel
theorem d_O_weigh_21 : decode c_O_weigh 21 = .ok (.aload_n 0, 1) := by decide +kernel
theorem d_O_weigh_22 : decode c_O_weigh 22 = .ok (.getfield 36, 3) := by decide +kernel
theorem d_O_weigh_25 : decode c_O_weigh 25 = .ok (.aload_n 0, 1) := by decide +kernel
theorem d_O_weigh_26 : decode c_O_weigh 26 = .ok (.getfield 18, 3) := by decide +kernel
theorem d_O_weigh_29 : decode c_O_weigh 29 = .ok (.iload 5, 2) := by decide +kernel
theorem d_O_weigh_31 : decode c_O_weigh 31 = .ok (.iaload, 1) := by decide +kernel
theorem d_O_weigh_32 : decode c_O_weigh 32 = .ok (.iconst 0, 1) := by decide +kernel
theorem d_O_weigh_33 : decode c_O_weigh 33 = .ok (.iastore, 1) := by decide +kernel
theorem d_O_weigh_34 : decode c_O_weigh 34 = .ok (.aload_n 0, 1) := by decide +kernel
theorem d_O_weigh_35 : decode c_O_weigh 35 = .ok (.getfield 39, 3) := by decide +kernel
theorem d_O_weigh_38 : decode c_O_weigh 38 = .ok (.aload_n 0, 1) := by decide +kernel
theorem d_O_weigh_39 : decode c_O_weigh 39 = .ok (.getfield 18, 3) := by decide +kernel
theorem d_O_weigh_42 : decode c_O_weigh 42 = .ok (.iload 5, 2) := by decide +kernel
theorem d_O_weigh_44 : decode c_O_weigh 44 = .ok (.iaload, 1) := by decide +kernel
theorem d_O_weigh_45 : decode c_O_weigh 45 = .ok (.iconst 0, 1) := by decide +kernel
theorem d_O_weigh_46 : decode c_O_weigh 46 = .ok (.iastore, 1) := by decide +kernel
theorem d_O_weigh_47 : decode c_O_weigh 47 = .ok (.iinc 5 1, 3) := by decide +kernel
theorem d_O_weigh_50 : decode c_O_weigh 50 = .ok (.goto (-42), 3) := by decide +kernel
theorem d_O_weigh_53 : decode c_O_weigh 53 = .ok (.aload_n 0, 1) := by decide +kernel
theorem d_O_weigh_54 : decode c_O_weigh 54 = .ok (.getfield 33, 3) := by decide +kernel
theorem d_O_weigh_57 : decode c_O_weigh 57 = .ok (.iload_n 2, 1) := by decide +kernel
theorem d_O_weigh_58 : decode c_O_weigh 58 = .ok (.iaload, 1) := by decide +kernel
theorem d_O_weigh_59 : decode c_O_weigh 59 = .ok (.istore 5, 2) := by decide +kernel
theorem d_O_weigh_61 : decode c_O_weigh 61 = .ok (.iload 5, 2) := by decide +kernel
theorem d_O_weigh_63 : decode c_O_weigh 63 = .ok (.aload_n 0, 1) := by decide +kernel
theorem d_O_weigh_64 : decode c_O_weigh 64 = .ok (.getfield 33, 3) := by decide +kernel
theorem d_O_weigh_67 : decode c_O_weigh 67 = .ok (.iload_n 2, 1) := by decide +kernel
theorem d_O_weigh_68 : decode c_O_weigh 68 = .ok (.iconst 1, 1) := by decide +kernel
theorem d_O_weigh_69 : decode c_O_weigh 69 = .ok (.iadd, 1) := by decide +kernel
theorem d_O_weigh_70 : decode c_O_weigh 70 = .ok (.iaload, 1) := by decide +kernel
theorem d_O_weigh_71 : decode c_O_weigh 71 = .ok (.if_icmp .ge 44, 3) := by decide +kernel
theorem d_O_weigh_74 : decode c_O_weigh 74 = .ok (.aload_n 0, 1) := by decide +kernel
theorem d_O_weigh_75 : decode c_O_weigh 75 = .ok (.getfield 36, 3) := by decide +kernel
theorem d_O_weigh_78 : decode c_O_weigh 78 = .ok (.aload_n 3, 1) := by decide +kernel
theorem d_O_weigh_79 : decode c_O_weigh 79 = .ok (.iload 5, 2) := by decide +kernel
theorem d_O_weigh_81 : decode c_O_weigh 81 = .ok (.iaload, 1) := by decide +kernel
theorem d_O_weigh_82 : decode c_O_weigh 82 = .ok (.dup2, 1) := by decide +kernel
theorem d_O_weigh_83 : decode c_O_weigh 83 = .ok (.iaload, 1) := by decide +kernel
theorem d_O_weigh_84 : decode c_O_weigh 84 = .ok (.aload_n 0, 1) := by decide +kernel
theorem d_O_weigh_85 : decode c_O_weigh 85 = .ok (.getfield 9, 3) := by decide +kernel
theorem d_O_weigh_88 : decode c_O_weigh 88 = .ok (.aload 4, 2) := by decide +kernel
theorem d_O_weigh_90 : decode c_O_weigh 90 = .ok (.iload 5, 2) := by decide +kernel
theorem d_O_weigh_92 : decode c_O_weigh 92 = .ok (.iaload, 1) := by decide +kernel
theorem d_O_weigh_93 : decode c_O_weigh 93 = .ok (.iaload, 1) := by decide +kernel
theorem d_O_weigh_94 : decode c_O_weigh 94 = .ok (.iadd, 1) := by decide +kernel
theorem d_O_weigh_95 : decode c_O_weigh 95 = .ok (.iastore, 1) := by decide +kernel
theorem d_O_weigh_96 : decode c_O_weigh 96 = .ok (.aload_n 0, 1) := by decide +kernel
theorem d_O_weigh_97 : decode c_O_weigh 97 = .ok (.getfield 39, 3) := by decide +kernel
theorem d_O_weigh_100 : decode c_O_weigh 100 = .ok (.aload_n 3, 1) := by decide +kernel
theorem d_O_weigh_101 : decode c_O_weigh 101 = .ok (.iload 5, 2) := by decide +kernel
theorem d_O_weigh_103 : decode c_O_weigh 103 = .ok (.iaload, 1) := by decide +kernel
theorem d_O_weigh_104 : decode c_O_weigh 104 = .ok (.dup2, 1) := by decide +kernel
theorem d_O_weigh_105 : decode c_O_weigh 105 = .ok (.iaload, 1) := by decide +kernel
theorem d_O_weigh_106 : decode c_O_weigh 106 = .ok (.iconst 1, 1) := by decide +kernel
theorem d_O_weigh_107 : decode c_O_weigh 107 = .ok (.iadd, 1) := by decide +kernel
theorem d_O_weigh_108 : decode c_O_weigh 108 = .ok (.iastore, 1) := by decide +kernel
theorem d_O_weigh_109 : decode c_O_weigh 109 = .ok (.iinc 5 1, 3) := by decide +kernel
theorem d_O_weigh_112 : decode c_O_weigh 112 = .ok (.goto (-51), 3) := by decide +kernel
theorem d_O_weigh_115 : decode c_O_weigh 115 = .ok (.aload_n 0, 1) := by decide +kernel
theorem d_O_weigh_116 : decode c_O_weigh 116 = .ok (.getfield 24, 3) := by decide +kernel
theorem d_O_weigh_119 : decode c_O_weigh 119 = .ok (.iload_n 1, 1) := by decide +kernel
theorem d_O_weigh_120 : decode c_O_weigh 120 = .ok (.iaload, 1) := by decide +kernel
theorem d_O_weigh_121 : decode c_O_weigh 121 = .ok (.istore 5, 2) := by decide +kernel
theorem d_O_weigh_123 : decode c_O_weigh 123 = .ok (.iload 5, 2) := by decide +kernel
theorem d_O_weigh_125 : decode c_O_weigh 125 = .ok (.aload_n 0, 1) := by decide +kernel
theorem d_O_weigh_126 : decode c_O_weigh 126 = .ok (.getfield 24, 3) := by decide +kernel
theorem d_O_weigh_129 : decode c_O_weigh 129 = .ok (.iload_n 1, 1) := by decide +kernel
theorem d_O_weigh_130 : decode c_O_weigh 130 = .ok (.iconst 1, 1) := by decide +kernel
theorem d_O_weigh_131 : decode c_O_weigh 131 = .ok (.iadd, 1) := by decide +kernel
theorem d_O_weigh_132 : decode c_O_weigh 132 = .ok (.iaload, 1) := by decide +kernel
theorem d_O_weigh_133 : decode c_O_weigh 133 = .ok (.if_icmp .ge 61, 3) := by decide +kernel
theorem d_O_weigh_136 : decode c_O_weigh 136 = .ok (.aload_n 0, 1) := by decide +kernel
theorem d_O_weigh_137 : decode c_O_weigh 137 = .ok (.getfield 39, 3) := by decide +kernel
theorem d_O_weigh_140 : decode c_O_weigh 140 = .ok (.aload_n 0, 1) := by decide +kernel
theorem d_O_weigh_141 : decode c_O_weigh 141 = .ok (.getfield 18, 3) := by decide +kernel
theorem d_O_weigh_144 : decode c_O_weigh 144 = .ok (.iload 5, 2) := by decide +kernel
theorem d_O_weigh_146 : decode c_O_weigh 146 = .ok (.iaload, 1) := by decide +kernel
theorem d_O_weigh_147 : decode c_O_weigh 147 = .ok (.iaload, 1) := by decide +kernel
theorem d_O_weigh_148 : decode c_O_weigh 148 = .ok (.ifCond .ne 40, 3) := by decide +kernel
theorem d_O_weigh_151 : decode c_O_weigh 151 = .ok (.aload_n 0, 1) := by decide +kernel
theorem d_O_weigh_152 : decode c_O_weigh 152 = .ok (.getfield 36, 3) := by decide +kernel
theorem d_O_weigh_155 : decode c_O_weigh 155 = .ok (.aload_n 0, 1) := by decide +kernel
theorem d_O_weigh_156 : decode c_O_weigh 156 = .ok (.getfield 18, 3) := by decide +kernel
theorem d_O_weigh_159 : decode c_O_weigh 159 = .ok (.iload 5, 2) := by decide +kernel
theorem d_O_weigh_161 : decode c_O_weigh 161 = .ok (.iaload, 1) := by decide +kernel
theorem d_O_weigh_162 : decode c_O_weigh 162 = .ok (.aload_n 0, 1) := by decide +kernel
theorem d_O_weigh_163 : decode c_O_weigh 163 = .ok (.getfield 9, 3) := by decide +kernel
theorem d_O_weigh_166 : decode c_O_weigh 166 = .ok (.aload_n 0, 1) := by decide +kernel
theorem d_O_weigh_167 : decode c_O_weigh 167 = .ok (.getfield 18, 3) := by decide +kernel
theorem d_O_weigh_170 : decode c_O_weigh 170 = .ok (.iload 5, 2) := by decide +kernel
theorem d_O_weigh_172 : decode c_O_weigh 172 = .ok (.iaload, 1) := by decide +kernel
theorem d_O_weigh_173 : decode c_O_weigh 173 = .ok (.iaload, 1) := by decide +kernel
theorem d_O_weigh_174 : decode c_O_weigh 174 = .ok (.iastore, 1) := by decide +kernel
theorem d_O_weigh_175 : decode c_O_weigh 175 = .ok (.aload_n 0, 1) := by decide +kernel
theorem d_O_weigh_176 : decode c_O_weigh 176 = .ok (.getfield 39, 3) := by decide +kernel
theorem d_O_weigh_179 : decode c_O_weigh 179 = .ok (.aload_n 0, 1) := by decide +kernel
theorem d_O_weigh_180 : decode c_O_weigh 180 = .ok (.getfield 18, 3) := by decide +kernel
theorem d_O_weigh_183 : decode c_O_weigh 183 = .ok (.iload 5, 2) := by decide +kernel
theorem d_O_weigh_185 : decode c_O_weigh 185 = .ok (.iaload, 1) := by decide +kernel
theorem d_O_weigh_186 : decode c_O_weigh 186 = .ok (.iconst 1, 1) := by decide +kernel
theorem d_O_weigh_187 : decode c_O_weigh 187 = .ok (.iastore, 1) := by decide +kernel
theorem d_O_weigh_188 : decode c_O_weigh 188 = .ok (.iinc 5 1, 3) := by decide +kernel
theorem d_O_weigh_191 : decode c_O_weigh 191 = .ok (.goto (-68), 3) := by decide +kernel
theorem d_O_weigh_194 : decode c_O_weigh 194 = .ok (.return_, 1) := by decide +kernel
theorem d_O_sort_0 : decode c_O_sort 0 = .ok (.iload_n 1, 1) := by decide +kernel
theorem d_O_sort_1 : decode c_O_sort 1 = .ok (.iconst 1, 1) := by decide +kernel
theorem d_O_sort_2 : decode c_O_sort 2 = .ok (.iadd, 1) := by decide +kernel
theorem d_O_sort_3 : decode c_O_sort 3 = .ok (.istore_n 3, 1) := by decide +kernel
theorem d_O_sort_4 : decode c_O_sort 4 = .ok (.iload_n 3, 1) := by decide +kernel
theorem d_O_sort_5 : decode c_O_sort 5 = .ok (.iload_n 2, 1) := by decide +kernel
theorem d_O_sort_6 : decode c_O_sort 6 = .ok (.if_icmp .ge 75, 3) := by decide +kernel
theorem d_O_sort_9 : decode c_O_sort 9 = .ok (.aload_n 0, 1) := by decide +kernel
theorem d_O_sort_10 : decode c_O_sort 10 = .ok (.getfield 18, 3) := by decide +kernel
theorem d_O_sort_13 : decode c_O_sort 13 = .ok (.iload_n 3, 1) := by decide +kernel
theorem d_O_sort_14 : decode c_O_sort 14 = .ok (.iaload, 1) := by decide +kernel
theorem d_O_sort_15 : decode c_O_sort 15 = .ok (.istore 4, 2) := by decide +kernel
theorem d_O_sort_17 : decode c_O_sort 17 = .ok (.iload_n 3, 1) := by decide +kernel
theorem d_O_sort_18 : decode c_O_sort 18 = .ok (.istore 5, 2) := by decide +kernel
theorem d_O_sort_20 : decode c_O_sort 20 = .ok (.iload 5, 2) := by decide +kernel
theorem d_O_sort_22 : decode c_O_sort 22 = .ok (.iload_n 1, 1) := by decide +kernel
theorem d_O_sort_23 : decode c_O_sort 23 = .ok (.if_icmp .le 43, 3) := by decide +kernel
theorem d_O_sort_26 : decode c_O_sort 26 = .ok (.aload_n 0, 1) := by decide +kernel
theorem d_O_sort_27 : decode c_O_sort 27 = .ok (.iload 4, 2) := by decide +kernel
theorem d_O_sort_29 : decode c_O_sort 29 = .ok (.aload_n 0, 1) := by decide +kernel
theorem d_O_sort_30 : decode c_O_sort 30 = .ok (.getfield 18, 3) := by decide +kernel
theorem d_O_sort_33 : decode c_O_sort 33 = .ok (.iload 5, 2) := by decide +kernel
theorem d_O_sort_35 : decode c_O_sort 35 = .ok (.iconst 1, 1) := by decide +kernel
theorem d_O_sort_36 : decode c_O_sort 36 = .ok (.isub, 1) := by decide +kernel
theorem d_O_sort_37 : decode c_O_sort 37 = .ok (.iaload, 1) := by decide +kernel
theorem d_O_sort_38 : decode c_O_sort 38 = .ok (.invokevirtual 120, 3) := by decide +kernel
theorem d_O_sort_41 : decode c_O_sort 41 = .ok (.ifCond .eq 25, 3) := by decide +kernel
theorem d_O_sort_44 : decode c_O_sort 44 = .ok (.aload_n 0, 1) := by decide +kernel
theorem d_O_sort_45 : decode c_O_sort 45 = .ok (.getfield 18, 3) := by decide +kernel
theorem d_O_sort_48 : decode c_O_sort 48 = .ok (.iload 5, 2) := by decide +kernel
theorem d_O_sort_50 : decode c_O_sort 50 = .ok (.aload_n 0, 1) := by decide +kernel
theorem d_O_sort_51 : decode c_O_sort 51 = .ok (.getfield 18, 3) := by decide +kernel
theorem d_O_sort_54 : decode c_O_sort 54 = .ok (.iload 5, 2) := by decide +kernel
theorem d_O_sort_56 : decode c_O_sort 56 = .ok (.iconst 1, 1) := by decide +kernel
theorem d_O_sort_57 : decode c_O_sort 57 = .ok (.isub, 1) := by decide +kernel
theorem d_O_sort_58 : decode c_O_sort 58 = .ok (.iaload, 1) := by decide +kernel
theorem d_O_sort_59 : decode c_O_sort 59 = .ok (.iastore, 1) := by decide +kernel
theorem d_O_sort_60 : decode c_O_sort 60 = .ok (.iinc 5 (-1), 3) := by decide +kernel
theorem d_O_sort_63 : decode c_O_sort 63 = .ok (.goto (-43), 3) := by decide +kernel
theorem d_O_sort_66 : decode c_O_sort 66 = .ok (.aload_n 0, 1) := by decide +kernel
theorem d_O_sort_67 : decode c_O_sort 67 = .ok (.getfield 18, 3) := by decide +kernel
theorem d_O_sort_70 : decode c_O_sort 70 = .ok (.iload 5, 2) := by decide +kernel
theorem d_O_sort_72 : decode c_O_sort 72 = .ok (.iload 4, 2) := by decide +kernel
theorem d_O_sort_74 : decode c_O_sort 74 = .ok (.iastore, 1) := by decide +kernel
theorem d_O_sort_75 : decode c_O_sort 75 = .ok (.iinc 3 1, 3) := by decide +kernel
theorem d_O_sort_78 : decode c_O_sort 78 = .ok (.goto (-74), 3) := by decide +kernel
theorem d_O_sort_81 : decode c_O_sort 81 = .ok (.return_, 1) := by decide +kernel
theorem d_O_hasLesserKey_0 : decode c_O_hasLesserKey 0 = .ok (.aload_n 0, 1) := by decide +kernel
theorem d_O_hasLesserKey_1 : decode c_O_hasLesserKey 1 = .ok (.getfield 36, 3) := by decide +kernel
theorem d_O_hasLesserKey_4 : decode c_O_hasLesserKey 4 = .ok (.iload_n 1, 1) := by decide +kernel
theorem d_O_hasLesserKey_5 : decode c_O_hasLesserKey 5 = .ok (.iaload, 1) := by decide +kernel
theorem d_O_hasLesserKey_6 : decode c_O_hasLesserKey 6 = .ok (.aload_n 0, 1) := by decide +kernel
theorem d_O_hasLesserKey_7 : decode c_O_hasLesserKey 7 = .ok (.getfield 39, 3) := by decide +kernel
theorem d_O_hasLesserKey_10 : decode c_O_hasLesserKey 10 = .ok (.iload_n 2, 1) := by decide +kernel
theorem d_O_hasLesserKey_11 : decode c_O_hasLesserKey 11 = .ok (.iaload, 1) := by decide +kernel
theorem d_O_hasLesserKey_12 : decode c_O_hasLesserKey 12 = .ok (.imul, 1) := by decide +kernel
theorem d_O_hasLesserKey_13 : decode c_O_hasLesserKey 13 = .ok (.aload_n 0, 1) := by decide +kernel
theorem d_O_hasLesserKey_14 : decode c_O_hasLesserKey 14 = .ok (.getfield 36, 3) := by decide +kernel
theorem d_O_hasLesserKey_17 : decode c_O_hasLesserKey 17 = .ok (.iload_n 2, 1) := by decide +kernel
theorem d_O_hasLesserKey_18 : decode c_O_hasLesserKey 18 = .ok (.iaload, 1) := by decide +kernel
theorem d_O_hasLesserKey_19 : decode c_O_hasLesserKey 19 = .ok (.aload_n 0, 1) := by decide +kernel
theorem d_O_hasLesserKey_20 : decode c_O_hasLesserKey 20 = .ok (.getfield 39, 3) := by decide +kernel
theorem d_O_hasLesserKey_23 : decode c_O_hasLesserKey 23 = .ok (.iload_n 1, 1) := by decide +kernel
theorem d_O_hasLesserKey_24 : decode c_O_hasLesserKey 24 = .ok (.iaload, 1) := by decide +kernel
theorem d_O_hasLesserKey_25 : decode c_O_hasLesserKey 25 = .ok (.imul, 1) := by decide +kernel
theorem d_O_hasLesserKey_26 : decode c_O_hasLesserKey 26 = .ok (.if_icmp .ge 7, 3) := by decide +kernel
theorem d_O_hasLesserKey_29 : decode c_O_hasLesserKey 29 = .ok (.iconst 1, 1) := by decide +kernel
theorem d_O_hasLesserKey_30 : decode c_O_hasLesserKey 30 = .ok (.goto 4, 3) := by decide +kernel
theorem d_O_hasLesserKey_33 : decode c_O_hasLesserKey 33 = .ok (.iconst 0, 1) := by decide +kernel
theorem d_O_hasLesserKey_34 : decode c_O_hasLesserKey 34 = .ok (.ireturn, 1) := by decide +kernel
theorem d_O_numberPlaces_0 : decode c_O_numberPlaces 0 = .ok (.aload_n 0, 1) := by decide +kernel
theorem d_O_numberPlaces_1 : decode c_O_numberPlaces 1 = .ok (.getfield 24, 3) := by decide +kernel
theorem d_O_numberPlaces_4 : decode c_O_numberPlaces 4 = .ok (.iload_n 1, 1) := by decide +kernel
theorem d_O_numberPlaces_5 : decode c_O_numberPlaces 5 = .ok (.iaload, 1) := by decide +kernel
theorem d_O_numberPlaces_6 : decode c_O_numberPlaces 6 = .ok (.istore_n 3, 1) := by decide +kernel
theorem d_O_numberPlaces_7 : decode c_O_numberPlaces 7 = .ok (.iload_n 3, 1) := by decide +kernel
theorem d_O_numberPlaces_8 : decode c_O_numberPlaces 8 = .ok (.iload_n 2, 1) := by decide +kernel
theorem d_O_numberPlaces_9 : decode c_O_numberPlaces 9 = .ok (.if_icmp .ge 28, 3) := by decide +kernel
theorem d_O_numberPlaces_12 : decode c_O_numberPlaces 12 = .ok (.aload_n 0, 1) := by decide +kernel
theorem d_O_numberPlaces_13 : decode c_O_numberPlaces 13 = .ok (.getfield 9, 3) := by decide +kernel
theorem d_O_numberPlaces_16 : decode c_O_numberPlaces 16 = .ok (.aload_n 0, 1) := by decide +kernel
theorem d_O_numberPlaces_17 : decode c_O_numberPlaces 17 = .ok (.getfield 18, 3) := by decide +kernel
theorem d_O_numberPlaces_20 : decode c_O_numberPlaces 20 = .ok (.iload_n 3, 1) := by decide +kernel
theorem d_O_numberPlaces_21 : decode c_O_numberPlaces 21 = .ok (.iaload, 1) := by decide +kernel
theorem d_O_numberPlaces_22 : decode c_O_numberPlaces 22 = .ok (.iload_n 3, 1) := by decide +kernel
theorem d_O_numberPlaces_23 : decode c_O_numberPlaces 23 = .ok (.aload_n 0, 1) := by decide +kernel
theorem d_O_numberPlaces_24 : decode c_O_numberPlaces 24 = .ok (.getfield 24, 3) := by decide +kernel
theorem d_O_numberPlaces_27 : decode c_O_numberPlaces 27 = .ok (.iload_n 1, 1) := by decide +kernel
theorem d_O_numberPlaces_28 : decode c_O_numberPlaces 28 = .ok (.iaload, 1) := by decide +kernel
theorem d_O_numberPlaces_29 : decode c_O_numberPlaces 29 = .ok (.isub, 1) := by decide +kernel
theorem d_O_numberPlaces_30 : decode c_O_numberPlaces 30 = .ok (.iastore, 1) := by decide +kernel
theorem d_O_numberPlaces_31 : decode c_O_numberPlaces 31 = .ok (.iinc 3 1, 3) := by decide +kernel
theorem d_O_numberPlaces_34 : decode c_O_numberPlaces 34 = .ok (.goto (-27), 3) := by decide +kernel
theorem d_O_numberPlaces_37 : decode c_O_numberPlaces 37 = .ok (.return_, 1) := by decide +kernel
theorem d_O_countCrossings_0 : decode c_O_countCrossings 0 = .ok (.iconst 0, 1) := by decide +kernel
theorem d_O_countCrossings_1 : decode c_O_countCrossings 1 = .ok (.istore_n 1, 1) := by decide +kernel
theorem d_O_countCrossings_2 : decode c_O_countCrossings 2 = .ok (.iconst 0, 1) := by decide +kernel
theorem d_O_countCrossings_3 : decode c_O_countCrossings 3 = .ok (.istore_n 2, 1) := by decide +kernel
theorem d_O_countCrossings_4 : decode c_O_countCrossings 4 = .ok (.iload_n 2, 1) := by decide +kernel
theorem d_O_countCrossings_5 : decode c_O_countCrossings 5 = .ok (.aload_n 0, 1) := by decide +kernel
theorem d_O_countCrossings_6 : decode c_O_countCrossings 6 = .ok (.getfield 51, 3) := by decide +kernel
theorem d_O_countCrossings_9 : decode c_O_countCrossings 9 = .ok (.if_icmp .ge 50, 3) := by decide +kernel
theorem d_O_countCrossings_12 : decode c_O_countCrossings 12 = .ok (.aload_n 0, 1) := by decide +kernel
theorem d_O_countCrossings_13 : decode c_O_countCrossings 13 = .ok (.getfield 33, 3) := by decide +kernel
theorem d_O_countCrossings_16 : decode c_O_countCrossings 16 = .ok (.iload_n 2, 1) := by decide +kernel
theorem d_O_countCrossings_17 : decode c_O_countCrossings 17 = .ok (.iaload, 1) := by decide +kernel
theorem d_O_countCrossings_18 : decode c_O_countCrossings 18 = .ok (.istore_n 3, 1) := by decide +kernel
theorem d_O_countCrossings_19 : decode c_O_countCrossings 19 = .ok (.iload_n 3, 1) := by decide +kernel
theorem d_O_countCrossings_20 : decode c_O_countCrossings 20 = .ok (.aload_n 0, 1) := by decide +kernel
theorem d_O_countCrossings_21 : decode c_O_countCrossings 21 = .ok (.getfield 33, 3) := by decide +kernel
theorem d_O_countCrossings_24 : decode c_O_countCrossings 24 = .ok (.iload_n 2, 1) := by decide +kernel
theorem d_O_countCrossings_25 : decode c_O_countCrossings 25 = .ok (.iconst 1, 1) := by decide +kernel
theorem d_O_countCrossings_26 : decode c_O_countCrossings 26 = .ok (.iadd, 1) := by decide +kernel
theorem d_O_countCrossings_27 : decode c_O_countCrossings 27 = .ok (.iaload, 1) := by decide +kernel
theorem d_O_countCrossings_28 : decode c_O_countCrossings 28 = .ok (.if_icmp .ge 25, 3) := by decide +kernel
theorem d_O_countCrossings_31 : decode c_O_countCrossings 31 = .ok (.iload_n 1, 1) := by decide +kernel
theorem d_O_countCrossings_32 : decode c_O_countCrossings 32 = .ok (.aload_n 0, 1) := by decide +kernel
theorem d_O_countCrossings_33 : decode c_O_countCrossings 33 = .ok (.iload_n 3, 1) := by decide +kernel
theorem d_O_countCrossings_34 : decode c_O_countCrossings 34 = .ok (.aload_n 0, 1) := by decide +kernel
theorem d_O_countCrossings_35 : decode c_O_countCrossings 35 = .ok (.getfield 33, 3) := by decide +kernel
theorem d_O_countCrossings_38 : decode c_O_countCrossings 38 = .ok (.iload_n 2, 1) := by decide +kernel
theorem d_O_countCrossings_39 : decode c_O_countCrossings 39 = .ok (.iconst 1, 1) := by decide +kernel
theorem d_O_countCrossings_40 : decode c_O_countCrossings 40 = .ok (.iadd, 1) := by decide +kernel
theorem d_O_countCrossings_41 : decode c_O_countCrossings 41 = .ok (.iaload, 1) := by decide +kernel
theorem d_O_countCrossings_42 : decode c_O_countCrossings 42 = .ok (.invokevirtual 123, 3) := by decide +kernel
theorem d_O_countCrossings_45 : decode c_O_countCrossings 45 = .ok (.iadd, 1) := by decide +kernel
theorem d_O_countCrossings_46 : decode c_O_countCrossings 46 = .ok (.istore_n 1, 1) := by decide +kernel
theorem d_O_countCrossings_47 : decode c_O_countCrossings 47 = .ok (.iinc 3 1, 3) := by decide +kernel
theorem d_O_countCrossings_50 : decode c_O_countCrossings 50 = .ok (.goto (-31), 3) := by decide +kernel
theorem d_O_countCrossings_53 : decode c_O_countCrossings 53 = .ok (.iinc 2 1, 3) := by decide +kernel
theorem d_O_countCrossings_56 : decode c_O_countCrossings 56 = .ok (.goto (-52), 3) := by decide +kernel
theorem d_O_countCrossings_59 : decode c_O_countCrossings 59 = .ok (.iload_n 1, 1) := by decide +kernel
theorem d_O_countCrossings_60 : decode c_O_countCrossings 60 = .ok (.ireturn, 1) := by decide +kernel
theorem d_O_countCrossed_0 : decode c_O_countCrossed 0 = .ok (.aload_n 0, 1) := by decide +kernel
theorem d_O_countCrossed_1 : decode c_O_countCrossed 1 = .ok (.getfield 9, 3) := by decide +kernel
theorem d_O_countCrossed_4 : decode c_O_countCrossed 4 = .ok (.aload_n 0, 1) := by decide +kernel
theorem d_O_countCrossed_5 : decode c_O_countCrossed 5 = .ok (.getfield 27, 3) := by decide +kernel
theorem d_O_countCrossed_8 : decode c_O_countCrossed 8 = .ok (.iload_n 1, 1) := by decide +kernel
theorem d_O_countCrossed_9 : decode c_O_countCrossed 9 = .ok (.iaload, 1) := by decide +kernel
theorem d_O_countCrossed_10 : decode c_O_countCrossed 10 = .ok (.iaload, 1) := by decide +kernel
theorem d_O_countCrossed_11 : decode c_O_countCrossed 11 = .ok (.istore_n 3, 1) := by decide +kernel
theorem d_O_countCrossed_12 : decode c_O_countCrossed 12 = .ok (.aload_n 0, 1) := by decide +kernel
theorem d_O_countCrossed_13 : decode c_O_countCrossed 13 = .ok (.getfield 9, 3) := by decide +kernel
theorem d_O_countCrossed_16 : decode c_O_countCrossed 16 = .ok (.aload_n 0, 1) := by decide +kernel
theorem d_O_countCrossed_17 : decode c_O_countCrossed 17 = .ok (.getfield 30, 3) := by decide +kernel
theorem d_O_countCrossed_20 : decode c_O_countCrossed 20 = .ok (.iload_n 1, 1) := by decide +kernel
theorem d_O_countCrossed_21 : decode c_O_countCrossed 21 = .ok (.iaload, 1) := by decide +kernel
theorem d_O_countCrossed_22 : decode c_O_countCrossed 22 = .ok (.iaload, 1) := by decide +kernel
theorem d_O_countCrossed_23 : decode c_O_countCrossed 23 = .ok (.istore 4, 2) := by decide +kernel
theorem d_O_countCrossed_25 : decode c_O_countCrossed 25 = .ok (.iconst 0, 1) := by decide +kernel
theorem d_O_countCrossed_26 : decode c_O_countCrossed 26 = .ok (.istore 5, 2) := by decide +kernel
theorem d_O_countCrossed_28 : decode c_O_countCrossed 28 = .ok (.iload_n 1, 1) := by decide +kernel
theorem d_O_countCrossed_29 : decode c_O_countCrossed 29 = .ok (.iconst 1, 1) := by decide +kernel
theorem d_O_countCrossed_30 : decode c_O_countCrossed 30 = .ok (.iadd, 1) := by decide +kernel
theorem d_O_countCrossed_31 : decode c_O_countCrossed 31 = .ok (.istore 6, 2) := by decide +kernel
theorem d_O_countCrossed_33 : decode c_O_countCrossed 33 = .ok (.iload 6, 2) := by decide +kernel
theorem d_O_countCrossed_35 : decode c_O_countCrossed 35 = .ok (.iload_n 2, 1) := by decide +kernel
theorem d_O_countCrossed_36 : decode c_O_countCrossed 36 = .ok (.if_icmp .ge 45, 3) := by decide +kernel
theorem d_O_countCrossed_39 : decode c_O_countCrossed 39 = .ok (.aload_n 0, 1) := by decide +kernel
theorem d_O_countCrossed_40 : decode c_O_countCrossed 40 = .ok (.getfield 9, 3) := by decide +kernel
theorem d_O_countCrossed_43 : decode c_O_countCrossed 43 = .ok (.aload_n 0, 1) := by decide +kernel
theorem d_O_countCrossed_44 : decode c_O_countCrossed 44 = .ok (.getfield 27, 3) := by decide +kernel
theorem d_O_countCrossed_47 : decode c_O_countCrossed 47 = .ok (.iload 6, 2) := by decide +kernel
theorem d_O_countCrossed_49 : decode c_O_countCrossed 49 = .ok (.iaload, 1) := by decide +kernel
theorem d_O_countCrossed_50 : decode c_O_countCrossed 50 = .ok (.iaload, 1) := by decide +kernel
theorem d_O_countCrossed_51 : decode c_O_countCrossed 51 = .ok (.iload_n 3, 1) := by decide +kernel
theorem d_O_countCrossed_52 : decode c_O_countCrossed 52 = .ok (.isub, 1) := by decide +kernel
theorem d_O_countCrossed_53 : decode c_O_countCrossed 53 = .ok (.aload_n 0, 1) := by decide +kernel
theorem d_O_countCrossed_54 : decode c_O_countCrossed 54 = .ok (.getfield 9, 3) := by decide +kernel
theorem d_O_countCrossed_57 : decode c_O_countCrossed 57 = .ok (.aload_n 0, 1) := by decide +kernel
theorem d_O_countCrossed_58 : decode c_O_countCrossed 58 = .ok (.getfield 30, 3) := by decide +kernel
theorem d_O_countCrossed_61 : decode c_O_countCrossed 61 = .ok (.iload 6, 2) := by decide +kernel
theorem d_O_countCrossed_63 : decode c_O_countCrossed 63 = .ok (.iaload, 1) := by decide +kernel
theorem d_O_countCrossed_64 : decode c_O_countCrossed 64 = .ok (.iaload, 1) := by decide +kernel
theorem d_O_countCrossed_65 : decode c_O_countCrossed 65 = .ok (.iload 4, 2) := by decide +kernel
theorem d_O_countCrossed_67 : decode c_O_countCrossed 67 = .ok (.isub, 1) := by decide +kernel
theorem d_O_countCrossed_68 : decode c_O_countCrossed 68 = .ok (.imul, 1) := by decide +kernel
theorem d_O_countCrossed_69 : decode c_O_countCrossed 69 = .ok (.ifCond .ge 6, 3) := by decide +kernel
theorem d_O_countCrossed_72 : decode c_O_countCrossed 72 = .ok (.iinc 5 1, 3) := by decide +kernel
theorem d_O_countCrossed_75 : decode c_O_countCrossed 75 = .ok (.iinc 6 1, 3) := by decide +kernel
theorem d_O_countCrossed_78 : decode c_O_countCrossed 78 = .ok (.goto (-45), 3) := by decide +kernel
theorem d_O_countCrossed_81 : decode c_O_countCrossed 81 = .ok (.iload 5, 2) := by decide +kernel
theorem d_O_countCrossed_83 : decode c_O_countCrossed 83 = .ok (.ireturn, 1) := by decide +kernel
theorem d_O_keepBest_0 : decode c_O_keepBest 0 = .ok (.aload_n 0, 1) := by decide +kernel
theorem d_O_keepBest_1 : decode c_O_keepBest 1 = .ok (.getfield 18, 3) := by decide +kernel
theorem d_O_keepBest_4 : decode c_O_keepBest 4 = .ok (.iconst 0, 1) := by decide +kernel
theorem d_O_keepBest_5 : decode c_O_keepBest 5 = .ok (.aload_n 0, 1) := by decide +kernel
theorem d_O_keepBest_6 : decode c_O_keepBest 6 = .ok (.getfield 21, 3) := by decide +kernel
theorem d_O_keepBest_9 : decode c_O_keepBest 9 = .ok (.iconst 0, 1) := by decide +kernel
theorem d_O_keepBest_10 : decode c_O_keepBest 10 = .ok (.aload_n 0, 1) := by decide +kernel
theorem d_O_keepBest_11 : decode c_O_keepBest 11 = .ok (.getfield 72, 3) := by decide +kernel
theorem d_O_keepBest_14 : decode c_O_keepBest 14 = .ok (.invokestatic 126, 3) := by decide +kernel
theorem d_O_keepBest_17 : decode c_O_keepBest 17 = .ok (.return_, 1) := by decide +kernel
theorem d_O_takeBest_0 : decode c_O_takeBest 0 = .ok (.aload_n 0, 1) := by decide +kernel
theorem d_O_takeBest_1 : decode c_O_takeBest 1 = .ok (.getfield 21, 3) := by decide +kernel
theorem d_O_takeBest_4 : decode c_O_takeBest 4 = .ok (.iconst 0, 1) := by decide +kernel
theorem d_O_takeBest_5 : decode c_O_takeBest 5 = .ok (.aload_n 0, 1) := by decide +kernel
theorem d_O_takeBest_6 : decode c_O_takeBest 6 = .ok (.getfield 18, 3) := by decide +kernel
theorem d_O_takeBest_9 : decode c_O_takeBest 9 = .ok (.iconst 0, 1) := by decide +kernel
theorem d_O_takeBest_10 : decode c_O_takeBest 10 = .ok (.aload_n 0, 1) := by decide +kernel
theorem d_O_takeBest_11 : decode c_O_takeBest 11 = .ok (.getfield 72, 3) := by decide +kernel
theorem d_O_takeBest_14 : decode c_O_takeBest 14 = .ok (.invokestatic 126, 3) := by decide +kernel
theorem d_O_takeBest_17 : decode c_O_takeBest 17 = .ok (.iconst 0, 1) := by decide +kernel
theorem d_O_takeBest_18 : decode c_O_takeBest 18 = .ok (.istore_n 1, 1) := by decide +kernel
theorem d_O_takeBest_19 : decode c_O_takeBest 19 = .ok (.iload_n 1, 1) := by decide +kernel
theorem d_O_takeBest_20 : decode c_O_takeBest 20 = .ok (.aload_n 0, 1) := by decide +kernel
theorem d_O_takeBest_21 : decode c_O_takeBest 21 = .ok (.getfield 51, 3) := by decide +kernel
theorem d_O_takeBest_24 : decode c_O_takeBest 24 = .ok (.if_icmp .ge 22, 3) := by decide +kernel
theorem d_O_takeBest_27 : decode c_O_takeBest 27 = .ok (.aload_n 0, 1) := by decide +kernel
theorem d_O_takeBest_28 : decode c_O_takeBest 28 = .ok (.iload_n 1, 1) := by decide +kernel
theorem d_O_takeBest_29 : decode c_O_takeBest 29 = .ok (.aload_n 0, 1) := by decide +kernel
theorem d_O_takeBest_30 : decode c_O_takeBest 30 = .ok (.getfield 24, 3) := by decide +kernel
theorem d_O_takeBest_33 : decode c_O_takeBest 33 = .ok (.iload_n 1, 1) := by decide +kernel
theorem d_O_takeBest_34 : decode c_O_takeBest 34 = .ok (.iconst 1, 1) := by decide +kernel
theorem d_O_takeBest_35 : decode c_O_takeBest 35 = .ok (.iadd, 1) := by decide +kernel
theorem d_O_takeBest_36 : decode c_O_takeBest 36 = .ok (.iaload, 1) := by decide +kernel
theorem d_O_takeBest_37 : decode c_O_takeBest 37 = .ok (.invokevirtual 103, 3) := by decide +kernel
theorem d_O_takeBest_40 : decode c_O_takeBest 40 = .ok (.iinc 1 1, 3) := by decide +kernel
theorem d_O_takeBest_43 : decode c_O_takeBest 43 = .ok (.goto (-24), 3) := by decide +kernel
theorem d_O_takeBest_46 : decode c_O_takeBest 46 = .ok (.return_, 1) := by decide +kernel
end
section
theorem d_M_init_0 : decode c_M_init 0 = .ok (.aload_n 0, 1) := by decide +kernel
theorem d_M_init_1 : decode c_M_init 1 = .ok (.invokespecial 3, 3) := by decide +kernel
theorem d_M_init_4 : decode c_M_init 4 = .ok (.aload_n 0, 1) := by decide +kernel
theorem d_M_init_5 : decode c_M_init 5 = .ok (.new 9, 3) := by decide +kernel
theorem d_M_init_8 : decode c_M_init 8 = .ok (.dup, 1) := by decide +kernel
theorem d_M_init_9 : decode c_M_init 9 = .ok (.invokespecial 11, 3) := by decide +kernel
theorem d_M_init_12 : decode c_M_init 12 = .ok (.putfield 12, 3) := by decide +kernel
theorem d_M_init_15 : decode c_M_init 15 = .ok (.aload_n 0, 1) := by decide +kernel
theorem d_M_init_16 : decode c_M_init 16 = .ok (.new 16, 3) := by decide +kernel
theorem d_M_init_19 : decode c_M_init 19 = .ok (.dup, 1) := by decide +kernel
theorem d_M_init_20 : decode c_M_init 20 = .ok (.invokespecial 18, 3) := by decide +kernel
theorem d_M_init_23 : decode c_M_init 23 = .ok (.putfield 19, 3) := by decide +kernel
theorem d_M_init_26 : decode c_M_init 26 = .ok (.aload_n 0, 1) := by decide +kernel
theorem d_M_init_27 : decode c_M_init 27 = .ok (.new 23, 3) := by decide +kernel
theorem d_M_init_30 : decode c_M_init 30 = .ok (.dup, 1) := by decide +kernel
theorem d_M_init_31 : decode c_M_init 31 = .ok (.invokespecial 25, 3) := by decide +kernel
theorem d_M_init_34 : decode c_M_init 34 = .ok (.putfield 26, 3) := by decide +kernel
theorem d_M_init_37 : decode c_M_init 37 = .ok (.aload_n 0, 1) := by decide +kernel
theorem d_M_init_38 : decode c_M_init 38 = .ok (.iconst 0, 1) := by decide +kernel
theorem d_M_init_39 : decode c_M_init 39 = .ok (.putfield 30, 3) := by decide +kernel
theorem d_M_init_42 : decode c_M_init 42 = .ok (.return_, 1) := by decide +kernel
theorem d_M_above_0 : decode c_M_above 0 = .ok (.iload_n 1, 1) := by decide +kernel
theorem d_M_above_1 : decode c_M_above 1 = .ok (.invokestatic 34, 3) := by decide +kernel
theorem d_M_above_4 : decode c_M_above 4 = .ok (.iload_n 2, 1) := by decide +kernel
theorem d_M_above_5 : decode c_M_above 5 = .ok (.invokestatic 34, 3) := by decide +kernel
theorem d_M_above_8 : decode c_M_above 8 = .ok (.aload_n 0, 1) := by decide +kernel
theorem d_M_above_9 : decode c_M_above 9 = .ok (.aload_n 0, 1) := by decide +kernel
theorem d_M_above_10 : decode c_M_above 10 = .ok (.getfield 12, 3) := by decide +kernel
theorem d_M_above_13 : decode c_M_above 13 = .ok (.iload_n 1, 1) := by decide +kernel
theorem d_M_above_14 : decode c_M_above 14 = .ok (.iload_n 2, 1) := by decide +kernel
theorem d_M_above_15 : decode c_M_above 15 = .ok (.invokevirtual 38, 3) := by decide +kernel
theorem d_M_above_18 : decode c_M_above 18 = .ok (.invokevirtual 42, 3) := by decide +kernel
theorem d_M_above_21 : decode c_M_above 21 = .ok (.ireturn, 1) := by decide +kernel
theorem d_M_same_0 : decode c_M_same 0 = .ok (.iload_n 1, 1) := by decide +kernel
theorem d_M_same_1 : decode c_M_same 1 = .ok (.invokestatic 34, 3) := by decide +kernel
theorem d_M_same_4 : decode c_M_same 4 = .ok (.iload_n 2, 1) := by decide +kernel
theorem d_M_same_5 : decode c_M_same 5 = .ok (.invokestatic 34, 3) := by decide +kernel
theorem d_M_same_8 : decode c_M_same 8 = .ok (.aload_n 0, 1) := by decide +kernel
theorem d_M_same_9 : decode c_M_same 9 = .ok (.aload_n 0, 1) := by decide +kernel
theorem d_M_same_10 : decode c_M_same 10 = .ok (.getfield 12, 3) := by decide +kernel
theorem d_M_same_13 : decode c_M_same 13 = .ok (.iload_n 1, 1) := by decide +kernel
theorem d_M_same_14 : decode c_M_same 14 = .ok (.iload_n 2, 1) := by decide +kernel
theorem d_M_same_15 : decode c_M_same 15 = .ok (.invokevirtual 46, 3) := by decide +kernel
theorem d_M_same_18 : decode c_M_same 18 = .ok (.invokevirtual 42, 3) := by decide +kernel
theorem d_M_same_21 : decode c_M_same 21 = .ok (.ireturn, 1) := by decide +kernel
theorem d_M_phase_0 : decode c_M_phase 0 = .ok (.iload_n 1, 1) := by decide +kernel
theorem d_M_phase_1 : decode c_M_phase 1 = .ok (.invokestatic 34, 3) := by decide +kernel
theorem d_M_phase_4 : decode c_M_phase 4 = .ok (.iload_n 2, 1) := by decide +kernel
theorem d_M_phase_5 : decode c_M_phase 5 = .ok (.iconst (-1), 1) := by decide +kernel
theorem d_M_phase_6 : decode c_M_phase 6 = .ok (.if_icmp .eq 23, 3) := by decide +kernel
theorem d_M_phase_9 : decode c_M_phase 9 = .ok (.iload_n 2, 1) := by decide +kernel
theorem d_M_phase_10 : decode c_M_phase 10 = .ok (.ifCond .lt 9, 3) := by decide +kernel
theorem d_M_phase_13 : decode c_M_phase 13 = .ok (.iload_n 2, 1) := by decide +kernel
theorem d_M_phase_14 : decode c_M_phase 14 = .ok (.bipush 6, 2) := by decide +kernel
theorem d_M_phase_16 : decode c_M_phase 16 = .ok (.if_icmp .lt 13, 3) := by decide +kernel
theorem d_M_phase_19 : decode c_M_phase 19 = .ok (.new 49, 3) := by decide +kernel
theorem d_M_phase_22 : decode c_M_phase 22 = .ok (.dup, 1) := by decide +kernel
theorem d_M_phase_23 : decode c_M_phase 23 = .ok (.ldc 51, 2) := by decide +kernel
theorem d_M_phase_25 : decode c_M_phase 25 = .ok (.invokespecial 53, 3) := by decide +kernel
theorem d_M_phase_28 : decode c_M_phase 28 = .ok (.athrow, 1) := by decide +kernel
theorem d_M_phase_29 : decode c_M_phase 29 = .ok (.aload_n 0, 1) := by decide +kernel
theorem d_M_phase_30 : decode c_M_phase 30 = .ok (.iconst 0, 1) := by decide +kernel
theorem d_M_phase_31 : decode c_M_phase 31 = .ok (.putfield 30, 3) := by decide +kernel
theorem d_M_phase_34 : decode c_M_phase 34 = .ok (.aload_n 0, 1) := by decide +kernel
theorem d_M_phase_35 : decode c_M_phase 35 = .ok (.getfield 12, 3) := by decide +kernel
theorem d_M_phase_38 : decode c_M_phase 38 = .ok (.iload_n 1, 1) := by decide +kernel
theorem d_M_phase_39 : decode c_M_phase 39 = .ok (.iload_n 2, 1) := by decide +kernel
theorem d_M_phase_40 : decode c_M_phase 40 = .ok (.invokevirtual 56, 3) := by decide +kernel
theorem d_M_phase_43 : decode c_M_phase 43 = .ok (.ireturn, 1) := by decide +kernel
theorem d_M_hide_0 : decode c_M_hide 0 = .ok (.iload_n 1, 1) := by decide +kernel
theorem d_M_hide_1 : decode c_M_hide 1 = .ok (.invokestatic 34, 3) := by decide +kernel
theorem d_M_hide_4 : decode c_M_hide 4 = .ok (.aload_n 0, 1) := by decide +kernel
theorem d_M_hide_5 : decode c_M_hide 5 = .ok (.iconst 0, 1) := by decide +kernel
theorem d_M_hide_6 : decode c_M_hide 6 = .ok (.putfield 30, 3) := by decide +kernel
theorem d_M_hide_9 : decode c_M_hide 9 = .ok (.aload_n 0, 1) := by decide +kernel
theorem d_M_hide_10 : decode c_M_hide 10 = .ok (.getfield 12, 3) := by decide +kernel
theorem d_M_hide_13 : decode c_M_hide 13 = .ok (.iload_n 1, 1) := by decide +kernel
theorem d_M_hide_14 : decode c_M_hide 14 = .ok (.iload_n 2, 1) := by decide +kernel
theorem d_M_hide_15 : decode c_M_hide 15 = .ok (.invokevirtual 59, 3) := by decide +kernel
theorem d_M_hide_18 : decode c_M_hide 18 = .ok (.ireturn, 1) := by decide +kernel
theorem d_M_group_0 : decode c_M_group 0 = .ok (.iload_n 1, 1) := by decide +kernel
theorem d_M_group_1 : decode c_M_group 1 = .ok (.invokestatic 34, 3) := by decide +kernel
theorem d_M_group_4 : decode c_M_group 4 = .ok (.aload_n 0, 1) := by decide +kernel
theorem d_M_group_5 : decode c_M_group 5 = .ok (.getfield 12, 3) := by decide +kernel
theorem d_M_group_8 : decode c_M_group 8 = .ok (.getfield 63, 3) := by decide +kernel
theorem d_M_group_11 : decode c_M_group 11 = .ok (.iload_n 1, 1) := by decide +kernel
theorem d_M_group_12 : decode c_M_group 12 = .ok (.iaload, 1) := by decide +kernel
theorem d_M_group_13 : decode c_M_group 13 = .ok (.ireturn, 1) := by decide +kernel
theorem d_M_misfit_0 : decode c_M_misfit 0 = .ok (.iload_n 1, 1) := by decide +kernel
theorem d_M_misfit_1 : decode c_M_misfit 1 = .ok (.ifCond .lt 16, 3) := by decide +kernel
theorem d_M_misfit_4 : decode c_M_misfit 4 = .ok (.iload_n 2, 1) := by decide +kernel
theorem d_M_misfit_5 : decode c_M_misfit 5 = .ok (.ifCond .eq 8, 3) := by decide +kernel
theorem d_M_misfit_8 : decode c_M_misfit 8 = .ok (.iload_n 2, 1) := by decide +kernel
theorem d_M_misfit_9 : decode c_M_misfit 9 = .ok (.iconst 1, 1) := by decide +kernel
theorem d_M_misfit_10 : decode c_M_misfit 10 = .ok (.if_icmp .ne 7, 3) := by decide +kernel
theorem d_M_misfit_13 : decode c_M_misfit 13 = .ok (.iconst 1, 1) := by decide +kernel
theorem d_M_misfit_14 : decode c_M_misfit 14 = .ok (.goto 4, 3) := by decide +kernel
theorem d_M_misfit_17 : decode c_M_misfit 17 = .ok (.iconst 0, 1) := by decide +kernel
theorem d_M_misfit_18 : decode c_M_misfit 18 = .ok (.invokestatic 67, 3) := by decide +kernel
theorem d_M_misfit_21 : decode c_M_misfit 21 = .ok (.aload_n 0, 1) := by decide +kernel
theorem d_M_misfit_22 : decode c_M_misfit 22 = .ok (.getfield 12, 3) := by decide +kernel
theorem d_M_misfit_25 : decode c_M_misfit 25 = .ok (.iload_n 1, 1) := by decide +kernel
theorem d_M_misfit_26 : decode c_M_misfit 26 = .ok (.invokevirtual 71, 3) := by decide +kernel
theorem d_M_misfit_29 : decode c_M_misfit 29 = .ok (.istore_n 3, 1) := by decide +kernel
theorem d_M_misfit_30 : decode c_M_misfit 30 = .ok (.iload_n 3, 1) := by decide +kernel
theorem d_M_misfit_31 : decode c_M_misfit 31 = .ok (.iconst (-1), 1) := by decide +kernel
theorem d_M_misfit_32 : decode c_M_misfit 32 = .ok (.if_icmp .ne 5, 3) := by decide +kernel
theorem d_M_misfit_35 : decode c_M_misfit 35 = .ok (.iconst (-1), 1) := by decide +kernel
theorem d_M_misfit_36 : decode c_M_misfit 36 = .ok (.ireturn, 1) := by decide +kernel
theorem d_M_misfit_37 : decode c_M_misfit 37 = .ok (.iload_n 2, 1) := by decide +kernel
theorem d_M_misfit_38 : decode c_M_misfit 38 = .ok (.ifCond .ne 10, 3) := by decide +kernel
theorem d_M_misfit_41 : decode c_M_misfit 41 = .ok (.iload_n 3, 1) := by decide +kernel
theorem d_M_misfit_42 : decode c_M_misfit 42 = .ok (.bipush 16, 2) := by decide +kernel
theorem d_M_misfit_44 : decode c_M_misfit 44 = .ok (.idiv, 1) := by decide +kernel
theorem d_M_misfit_45 : decode c_M_misfit 45 = .ok (.goto 7, 3) := by decide +kernel
theorem d_M_misfit_48 : decode c_M_misfit 48 = .ok (.iload_n 3, 1) := by decide +kernel
theorem d_M_misfit_49 : decode c_M_misfit 49 = .ok (.bipush 16, 2) := by decide +kernel
theorem d_M_misfit_51 : decode c_M_misfit 51 = .ok (.irem, 1) := by decide +kernel
theorem d_M_misfit_52 : decode c_M_misfit 52 = .ok (.ireturn, 1) := by decide +kernel
theorem d_M_draw_0 : decode c_M_draw 0 = .ok (.iload_n 1, 1) := by decide +kernel
theorem d_M_draw_1 : decode c_M_draw 1 = .ok (.ifCond .lt 9, 3) := by decide +kernel
theorem d_M_draw_4 : decode c_M_draw 4 = .ok (.iload_n 1, 1) := by decide +kernel
theorem d_M_draw_5 : decode c_M_draw 5 = .ok (.bipush 12, 2) := by decide +kernel
theorem d_M_draw_7 : decode c_M_draw 7 = .ok (.if_icmp .le 13, 3) := by decide +kernel
theorem d_M_draw_10 : decode c_M_draw 10 = .ok (.new 49, 3) := by decide +kernel
theorem d_M_draw_13 : decode c_M_draw 13 = .ok (.dup, 1) := by decide +kernel
theorem d_M_draw_14 : decode c_M_draw 14 = .ok (.ldc 74, 2) := by decide +kernel
theorem d_M_draw_16 : decode c_M_draw 16 = .ok (.invokespecial 53, 3) := by decide +kernel
theorem d_M_draw_19 : decode c_M_draw 19 = .ok (.athrow, 1) := by decide +kernel
theorem d_M_draw_20 : decode c_M_draw 20 = .ok (.aload_n 0, 1) := by decide +kernel
theorem d_M_draw_21 : decode c_M_draw 21 = .ok (.iconst 0, 1) := by decide +kernel
theorem d_M_draw_22 : decode c_M_draw 22 = .ok (.putfield 30, 3) := by decide +kernel
theorem d_M_draw_25 : decode c_M_draw 25 = .ok (.aload_n 0, 1) := by decide +kernel
theorem d_M_draw_26 : decode c_M_draw 26 = .ok (.getfield 12, 3) := by decide +kernel
theorem d_M_draw_29 : decode c_M_draw 29 = .ok (.iconst 0, 1) := by decide +kernel
theorem d_M_draw_30 : decode c_M_draw 30 = .ok (.invokevirtual 71, 3) := by decide +kernel
theorem d_M_draw_33 : decode c_M_draw 33 = .ok (.iconst (-1), 1) := by decide +kernel
theorem d_M_draw_34 : decode c_M_draw 34 = .ok (.if_icmp .eq 6, 3) := by decide +kernel
theorem d_M_draw_37 : decode c_M_draw 37 = .ok (.bipush (-2), 2) := by decide +kernel
theorem d_M_draw_39 : decode c_M_draw 39 = .ok (.ireturn, 1) := by decide +kernel
theorem d_M_draw_40 : decode c_M_draw 40 = .ok (.aload_n 0, 1) := by decide +kernel
theorem d_M_draw_41 : decode c_M_draw 41 = .ok (.getfield 19, 3) := by decide +kernel
theorem d_M_draw_44 : decode c_M_draw 44 = .ok (.aload_n 0, 1) := by decide +kernel
theorem d_M_draw_45 : decode c_M_draw 45 = .ok (.getfield 12, 3) := by decide +kernel
theorem d_M_draw_48 : decode c_M_draw 48 = .ok (.invokevirtual 76, 3) := by decide +kernel
theorem d_M_draw_51 : decode c_M_draw 51 = .ok (.aload_n 0, 1) := by decide +kernel
theorem d_M_draw_52 : decode c_M_draw 52 = .ok (.getfield 19, 3) := by decide +kernel
theorem d_M_draw_55 : decode c_M_draw 55 = .ok (.getfield 80, 3) := by decide +kernel
theorem d_M_draw_58 : decode c_M_draw 58 = .ok (.sipush 150, 3) := by decide +kernel
theorem d_M_draw_61 : decode c_M_draw 61 = .ok (.if_icmp .le 6, 3) := by decide +kernel
theorem d_M_draw_64 : decode c_M_draw 64 = .ok (.bipush (-3), 2) := by decide +kernel
theorem d_M_draw_66 : decode c_M_draw 66 = .ok (.ireturn, 1) := by decide +kernel
theorem d_M_draw_67 : decode c_M_draw 67 = .ok (.aload_n 0, 1) := by decide +kernel
theorem d_M_draw_68 : decode c_M_draw 68 = .ok (.getfield 26, 3) := by decide +kernel
theorem d_M_draw_71 : decode c_M_draw 71 = .ok (.aload_n 0, 1) := by decide +kernel
theorem d_M_draw_72 : decode c_M_draw 72 = .ok (.getfield 19, 3) := by decide +kernel
theorem d_M_draw_75 : decode c_M_draw 75 = .ok (.iload_n 1, 1) := by decide +kernel
theorem d_M_draw_76 : decode c_M_draw 76 = .ok (.invokevirtual 84, 3) := by decide +kernel
theorem d_M_draw_79 : decode c_M_draw 79 = .ok (.istore_n 2, 1) := by decide +kernel
theorem d_M_draw_80 : decode c_M_draw 80 = .ok (.aload_n 0, 1) := by decide +kernel
theorem d_M_draw_81 : decode c_M_draw 81 = .ok (.iconst 1, 1) := by decide +kernel
theorem d_M_draw_82 : decode c_M_draw 82 = .ok (.putfield 30, 3) := by decide +kernel
theorem d_M_draw_85 : decode c_M_draw 85 = .ok (.iload_n 2, 1) := by decide +kernel
theorem d_M_draw_86 : decode c_M_draw 86 = .ok (.ireturn, 1) := by decide +kernel
theorem d_M_crossings_0 : decode c_M_crossings 0 = .ok (.iload_n 1, 1) := by decide +kernel
theorem d_M_crossings_1 : decode c_M_crossings 1 = .ok (.ifCond .lt 7, 3) := by decide +kernel
theorem d_M_crossings_4 : decode c_M_crossings 4 = .ok (.iconst 1, 1) := by decide +kernel
theorem d_M_crossings_5 : decode c_M_crossings 5 = .ok (.goto 4, 3) := by decide +kernel
theorem d_M_crossings_8 : decode c_M_crossings 8 = .ok (.iconst 0, 1) := by decide +kernel
theorem d_M_crossings_9 : decode c_M_crossings 9 = .ok (.invokestatic 67, 3) := by decide +kernel
theorem d_M_crossings_12 : decode c_M_crossings 12 = .ok (.aload_n 0, 1) := by decide +kernel
theorem d_M_crossings_13 : decode c_M_crossings 13 = .ok (.invokevirtual 87, 3) := by decide +kernel
theorem d_M_crossings_16 : decode c_M_crossings 16 = .ok (.iload_n 1, 1) := by decide +kernel
theorem d_M_crossings_17 : decode c_M_crossings 17 = .ok (.aload_n 0, 1) := by decide +kernel
theorem d_M_crossings_18 : decode c_M_crossings 18 = .ok (.getfield 26, 3) := by decide +kernel
theorem d_M_crossings_21 : decode c_M_crossings 21 = .ok (.getfield 90, 3) := by decide +kernel
theorem d_M_crossings_24 : decode c_M_crossings 24 = .ok (.if_icmp .gt 7, 3) := by decide +kernel
theorem d_M_crossings_27 : decode c_M_crossings 27 = .ok (.iconst 1, 1) := by decide +kernel
theorem d_M_crossings_28 : decode c_M_crossings 28 = .ok (.goto 4, 3) := by decide +kernel
theorem d_M_crossings_31 : decode c_M_crossings 31 = .ok (.iconst 0, 1) := by decide +kernel
theorem d_M_crossings_32 : decode c_M_crossings 32 = .ok (.invokestatic 67, 3) := by decide +kernel
theorem d_M_crossings_35 : decode c_M_crossings 35 = .ok (.aload_n 0, 1) := by decide +kernel
theorem d_M_crossings_36 : decode c_M_crossings 36 = .ok (.getfield 26, 3) := by decide +kernel
theorem d_M_crossings_39 : decode c_M_crossings 39 = .ok (.getfield 93, 3) := by decide +kernel
theorem d_M_crossings_42 : decode c_M_crossings 42 = .ok (.iload_n 1, 1) := by decide +kernel
theorem d_M_crossings_43 : decode c_M_crossings 43 = .ok (.iaload, 1) := by decide +kernel
theorem d_M_crossings_44 : decode c_M_crossings 44 = .ok (.ireturn, 1) := by decide +kernel
theorem d_M_at_0 : decode c_M_at 0 = .ok (.iload_n 1, 1) := by decide +kernel
theorem d_M_at_1 : decode c_M_at 1 = .ok (.invokestatic 34, 3) := by decide +kernel
theorem d_M_at_4 : decode c_M_at 4 = .ok (.iload_n 2, 1) := by decide +kernel
theorem d_M_at_5 : decode c_M_at 5 = .ok (.ifCond .eq 8, 3) := by decide +kernel
theorem d_M_at_8 : decode c_M_at 8 = .ok (.iload_n 2, 1) := by decide +kernel
theorem d_M_at_9 : decode c_M_at 9 = .ok (.iconst 1, 1) := by decide +kernel
theorem d_M_at_10 : decode c_M_at 10 = .ok (.if_icmp .ne 7, 3) := by decide +kernel
theorem d_M_at_13 : decode c_M_at 13 = .ok (.iconst 1, 1) := by decide +kernel
theorem d_M_at_14 : decode c_M_at 14 = .ok (.goto 4, 3) := by decide +kernel
theorem d_M_at_17 : decode c_M_at 17 = .ok (.iconst 0, 1) := by decide +kernel
theorem d_M_at_18 : decode c_M_at 18 = .ok (.invokestatic 67, 3) := by decide +kernel
theorem d_M_at_21 : decode c_M_at 21 = .ok (.aload_n 0, 1) := by decide +kernel
theorem d_M_at_22 : decode c_M_at 22 = .ok (.invokevirtual 87, 3) := by decide +kernel
theorem d_M_at_25 : decode c_M_at 25 = .ok (.aload_n 0, 1) := by decide +kernel
theorem d_M_at_26 : decode c_M_at 26 = .ok (.getfield 12, 3) := by decide +kernel
theorem d_M_at_29 : decode c_M_at 29 = .ok (.getfield 63, 3) := by decide +kernel
theorem d_M_at_32 : decode c_M_at 32 = .ok (.iload_n 1, 1) := by decide +kernel
theorem d_M_at_33 : decode c_M_at 33 = .ok (.iaload, 1) := by decide +kernel
theorem d_M_at_34 : decode c_M_at 34 = .ok (.istore_n 3, 1) := by decide +kernel
theorem d_M_at_35 : decode c_M_at 35 = .ok (.aload_n 0, 1) := by decide +kernel
theorem d_M_at_36 : decode c_M_at 36 = .ok (.getfield 19, 3) := by decide +kernel
theorem d_M_at_39 : decode c_M_at 39 = .ok (.getfield 96, 3) := by decide +kernel
theorem d_M_at_42 : decode c_M_at 42 = .ok (.iload_n 3, 1) := by decide +kernel
theorem d_M_at_43 : decode c_M_at 43 = .ok (.invokestatic 99, 3) := by decide +kernel
theorem d_M_at_46 : decode c_M_at 46 = .ok (.ifCond .ne 5, 3) := by decide +kernel
theorem d_M_at_49 : decode c_M_at 49 = .ok (.iconst (-1), 1) := by decide +kernel
theorem d_M_at_50 : decode c_M_at 50 = .ok (.ireturn, 1) := by decide +kernel
theorem d_M_at_51 : decode c_M_at 51 = .ok (.iload_n 2, 1) := by decide +kernel
theorem d_M_at_52 : decode c_M_at 52 = .ok (.ifCond .ne 15, 3) := by decide +kernel
theorem d_M_at_55 : decode c_M_at 55 = .ok (.aload_n 0, 1) := by decide +kernel
theorem d_M_at_56 : decode c_M_at 56 = .ok (.getfield 19, 3) := by decide +kernel
theorem d_M_at_59 : decode c_M_at 59 = .ok (.getfield 103, 3) := by decide +kernel
theorem d_M_at_62 : decode c_M_at 62 = .ok (.iload_n 3, 1) := by decide +kernel
theorem d_M_at_63 : decode c_M_at 63 = .ok (.iaload, 1) := by decide +kernel
theorem d_M_at_64 : decode c_M_at 64 = .ok (.goto 12, 3) := by decide +kernel
theorem d_M_at_67 : decode c_M_at 67 = .ok (.aload_n 0, 1) := by decide +kernel
theorem d_M_at_68 : decode c_M_at 68 = .ok (.getfield 26, 3) := by decide +kernel
theorem d_M_at_71 : decode c_M_at 71 = .ok (.getfield 106, 3) := by decide +kernel
theorem d_M_at_74 : decode c_M_at 74 = .ok (.iload_n 3, 1) := by decide +kernel
theorem d_M_at_75 : decode c_M_at 75 = .ok (.iaload, 1) := by decide +kernel
theorem d_M_at_76 : decode c_M_at 76 = .ok (.ireturn, 1) := by decide +kernel
theorem d_M_links_0 : decode c_M_links 0 = .ok (.aload_n 0, 1) := by decide +kernel
theorem d_M_links_1 : decode c_M_links 1 = .ok (.invokevirtual 87, 3) := by decide +kernel
theorem d_M_links_4 : decode c_M_links 4 = .ok (.aload_n 0, 1) := by decide +kernel
theorem d_M_links_5 : decode c_M_links 5 = .ok (.getfield 19, 3) := by decide +kernel
theorem d_M_links_8 : decode c_M_links 8 = .ok (.getfield 109, 3) := by decide +kernel
theorem d_M_links_11 : decode c_M_links 11 = .ok (.ireturn, 1) := by decide +kernel
theorem d_M_link_0 : decode c_M_link 0 = .ok (.iload_n 1, 1) := by decide +kernel
theorem d_M_link_1 : decode c_M_link 1 = .ok (.ifCond .lt 11, 3) := by decide +kernel
theorem d_M_link_4 : decode c_M_link 4 = .ok (.iload_n 2, 1) := by decide +kernel
theorem d_M_link_5 : decode c_M_link 5 = .ok (.ifCond .lt 7, 3) := by decide +kernel
theorem d_M_link_8 : decode c_M_link 8 = .ok (.iconst 1, 1) := by decide +kernel
theorem d_M_link_9 : decode c_M_link 9 = .ok (.goto 4, 3) := by decide +kernel
theorem d_M_link_12 : decode c_M_link 12 = .ok (.iconst 0, 1) := by decide +kernel
theorem d_M_link_13 : decode c_M_link 13 = .ok (.invokestatic 67, 3) := by decide +kernel
theorem d_M_link_16 : decode c_M_link 16 = .ok (.aload_n 0, 1) := by decide +kernel
theorem d_M_link_17 : decode c_M_link 17 = .ok (.invokevirtual 87, 3) := by decide +kernel
theorem d_M_link_20 : decode c_M_link 20 = .ok (.iload_n 1, 1) := by decide +kernel
theorem d_M_link_21 : decode c_M_link 21 = .ok (.aload_n 0, 1) := by decide +kernel
theorem d_M_link_22 : decode c_M_link 22 = .ok (.getfield 19, 3) := by decide +kernel
theorem d_M_link_25 : decode c_M_link 25 = .ok (.getfield 109, 3) := by decide +kernel
theorem d_M_link_28 : decode c_M_link 28 = .ok (.if_icmp .ge 21, 3) := by decide +kernel
theorem d_M_link_31 : decode c_M_link 31 = .ok (.iload_n 2, 1) := by decide +kernel
theorem d_M_link_32 : decode c_M_link 32 = .ok (.iconst 3, 1) := by decide +kernel
theorem d_M_link_33 : decode c_M_link 33 = .ok (.aload_n 0, 1) := by decide +kernel
theorem d_M_link_34 : decode c_M_link 34 = .ok (.getfield 19, 3) := by decide +kernel
theorem d_M_link_37 : decode c_M_link 37 = .ok (.iload_n 1, 1) := by decide +kernel
theorem d_M_link_38 : decode c_M_link 38 = .ok (.invokevirtual 112, 3) := by decide +kernel
theorem d_M_link_41 : decode c_M_link 41 = .ok (.iadd, 1) := by decide +kernel
theorem d_M_link_42 : decode c_M_link 42 = .ok (.if_icmp .ge 7, 3) := by decide +kernel
theorem d_M_link_45 : decode c_M_link 45 = .ok (.iconst 1, 1) := by decide +kernel
theorem d_M_link_46 : decode c_M_link 46 = .ok (.goto 4, 3) := by decide +kernel
theorem d_M_link_49 : decode c_M_link 49 = .ok (.iconst 0, 1) := by decide +kernel
theorem d_M_link_50 : decode c_M_link 50 = .ok (.invokestatic 67, 3) := by decide +kernel
theorem d_M_link_53 : decode c_M_link 53 = .ok (.iload_n 2, 1) := by decide +kernel
theorem d_M_link_54 : decode c_M_link 54 = .ok (.tableswitch 55 0 2 #[26, 36, 46], 26) := by decide +kernel
theorem d_M_link_80 : decode c_M_link 80 = .ok (.aload_n 0, 1) := by decide +kernel
theorem d_M_link_81 : decode c_M_link 81 = .ok (.getfield 19, 3) := by decide +kernel
theorem d_M_link_84 : decode c_M_link 84 = .ok (.getfield 115, 3) := by decide +kernel
theorem d_M_link_87 : decode c_M_link 87 = .ok (.iload_n 1, 1) := by decide +kernel
theorem d_M_link_88 : decode c_M_link 88 = .ok (.iaload, 1) := by decide +kernel
theorem d_M_link_89 : decode c_M_link 89 = .ok (.ireturn, 1) := by decide +kernel
theorem d_M_link_90 : decode c_M_link 90 = .ok (.aload_n 0, 1) := by decide +kernel
theorem d_M_link_91 : decode c_M_link 91 = .ok (.getfield 19, 3) := by decide +kernel
theorem d_M_link_94 : decode c_M_link 94 = .ok (.getfield 118, 3) := by decide +kernel
theorem d_M_link_97 : decode c_M_link 97 = .ok (.iload_n 1, 1) := by decide +kernel
theorem d_M_link_98 : decode c_M_link 98 = .ok (.iaload, 1) := by decide +kernel
theorem d_M_link_99 : decode c_M_link 99 = .ok (.ireturn, 1) := by decide +kernel
theorem d_M_link_100 : decode c_M_link 100 = .ok (.aload_n 0, 1) := by decide +kernel
theorem d_M_link_101 : decode c_M_link 101 = .ok (.getfield 19, 3) := by decide +kernel
theorem d_M_link_104 : decode c_M_link 104 = .ok (.iload_n 1, 1) := by decide +kernel
theorem d_M_link_105 : decode c_M_link 105 = .ok (.invokevirtual 112, 3) := by decide +kernel
theorem d_M_link_108 : decode c_M_link 108 = .ok (.ireturn, 1) := by decide +kernel
theorem d_M_link_109 : decode c_M_link 109 = .ok (.aload_n 0, 1) := by decide +kernel
theorem d_M_link_110 : decode c_M_link 110 = .ok (.getfield 26, 3) := by decide +kernel
theorem d_M_link_113 : decode c_M_link 113 = .ok (.getfield 106, 3) := by decide +kernel
theorem d_M_link_116 : decode c_M_link 116 = .ok (.aload_n 0, 1) := by decide +kernel
theorem d_M_link_117 : decode c_M_link 117 = .ok (.getfield 19, 3) := by decide +kernel
theorem d_M_link_120 : decode c_M_link 120 = .ok (.iload_n 1, 1) := by decide +kernel
theorem d_M_link_121 : decode c_M_link 121 = .ok (.iload_n 2, 1) := by decide +kernel
theorem d_M_link_122 : decode c_M_link 122 = .ok (.iconst 2, 1) := by decide +kernel
theorem d_M_link_123 : decode c_M_link 123 = .ok (.isub, 1) := by decide +kernel
theorem d_M_link_124 : decode c_M_link 124 = .ok (.invokevirtual 121, 3) := by decide +kernel
theorem d_M_link_127 : decode c_M_link 127 = .ok (.iaload, 1) := by decide +kernel
theorem d_M_link_128 : decode c_M_link 128 = .ok (.ireturn, 1) := by decide +kernel
theorem d_M_command_0 : decode c_M_command 0 = .ok (.iload_n 1, 1) := by decide +kernel
theorem d_M_command_1 : decode c_M_command 1 = .ok (.iconst (-1), 1) := by decide +kernel
theorem d_M_command_2 : decode c_M_command 2 = .ok (.if_icmp .lt 7, 3) := by decide +kernel
theorem d_M_command_5 : decode c_M_command 5 = .ok (.iconst 1, 1) := by decide +kernel
theorem d_M_command_6 : decode c_M_command 6 = .ok (.goto 4, 3) := by decide +kernel
theorem d_M_command_9 : decode c_M_command 9 = .ok (.iconst 0, 1) := by decide +kernel
theorem d_M_command_10 : decode c_M_command 10 = .ok (.invokestatic 67, 3) := by decide +kernel
theorem d_M_command_13 : decode c_M_command 13 = .ok (.aload_n 0, 1) := by decide +kernel
theorem d_M_command_14 : decode c_M_command 14 = .ok (.invokevirtual 87, 3) := by decide +kernel
theorem d_M_command_17 : decode c_M_command 17 = .ok (.iconst 4, 1) := by decide +kernel
theorem d_M_command_18 : decode c_M_command 18 = .ok (.aload_n 0, 1) := by decide +kernel
theorem d_M_command_19 : decode c_M_command 19 = .ok (.getfield 19, 3) := by decide +kernel
theorem d_M_command_22 : decode c_M_command 22 = .ok (.getfield 96, 3) := by decide +kernel
theorem d_M_command_25 : decode c_M_command 25 = .ok (.invokestatic 124, 3) := by decide +kernel
theorem d_M_command_28 : decode c_M_command 28 = .ok (.imul, 1) := by decide +kernel
theorem d_M_command_29 : decode c_M_command 29 = .ok (.istore_n 2, 1) := by decide +kernel
theorem d_M_command_30 : decode c_M_command 30 = .ok (.iload_n 2, 1) := by decide +kernel
theorem d_M_command_31 : decode c_M_command 31 = .ok (.bipush 6, 2) := by decide +kernel
theorem d_M_command_33 : decode c_M_command 33 = .ok (.aload_n 0, 1) := by decide +kernel
theorem d_M_command_34 : decode c_M_command 34 = .ok (.getfield 19, 3) := by decide +kernel
theorem d_M_command_37 : decode c_M_command 37 = .ok (.getfield 109, 3) := by decide +kernel
theorem d_M_command_40 : decode c_M_command 40 = .ok (.imul, 1) := by decide +kernel
theorem d_M_command_41 : decode c_M_command 41 = .ok (.iadd, 1) := by decide +kernel
theorem d_M_command_42 : decode c_M_command 42 = .ok (.iconst 2, 1) := by decide +kernel
theorem d_M_command_43 : decode c_M_command 43 = .ok (.aload_n 0, 1) := by decide +kernel
theorem d_M_command_44 : decode c_M_command 44 = .ok (.getfield 19, 3) := by decide +kernel
theorem d_M_command_47 : decode c_M_command 47 = .ok (.getfield 80, 3) := by decide +kernel
theorem d_M_command_50 : decode c_M_command 50 = .ok (.imul, 1) := by decide +kernel
theorem d_M_command_51 : decode c_M_command 51 = .ok (.iadd, 1) := by decide +kernel
theorem d_M_command_52 : decode c_M_command 52 = .ok (.istore_n 3, 1) := by decide +kernel
theorem d_M_command_53 : decode c_M_command 53 = .ok (.iload_n 1, 1) := by decide +kernel
theorem d_M_command_54 : decode c_M_command 54 = .ok (.iload_n 3, 1) := by decide +kernel
theorem d_M_command_55 : decode c_M_command 55 = .ok (.if_icmp .ge 7, 3) := by decide +kernel
theorem d_M_command_58 : decode c_M_command 58 = .ok (.iconst 1, 1) := by decide +kernel
theorem d_M_command_59 : decode c_M_command 59 = .ok (.goto 4, 3) := by decide +kernel
theorem d_M_command_62 : decode c_M_command 62 = .ok (.iconst 0, 1) := by decide +kernel
theorem d_M_command_63 : decode c_M_command 63 = .ok (.invokestatic 67, 3) := by decide +kernel
theorem d_M_command_66 : decode c_M_command 66 = .ok (.iload_n 1, 1) := by decide +kernel
theorem d_M_command_67 : decode c_M_command 67 = .ok (.iconst (-1), 1) := by decide +kernel
theorem d_M_command_68 : decode c_M_command 68 = .ok (.if_icmp .ne 5, 3) := by decide +kernel
theorem d_M_command_71 : decode c_M_command 71 = .ok (.iload_n 3, 1) := by decide +kernel
theorem d_M_command_72 : decode c_M_command 72 = .ok (.ireturn, 1) := by decide +kernel
theorem d_M_command_73 : decode c_M_command 73 = .ok (.iload_n 1, 1) := by decide +kernel
theorem d_M_command_74 : decode c_M_command 74 = .ok (.iload_n 2, 1) := by decide +kernel
theorem d_M_command_75 : decode c_M_command 75 = .ok (.if_icmp .ge 11, 3) := by decide +kernel
theorem d_M_command_78 : decode c_M_command 78 = .ok (.aload_n 0, 1) := by decide +kernel
theorem d_M_command_79 : decode c_M_command 79 = .ok (.iload_n 1, 1) := by decide +kernel
theorem d_M_command_80 : decode c_M_command 80 = .ok (.invokevirtual 129, 3) := by decide +kernel
theorem d_M_command_83 : decode c_M_command 83 = .ok (.goto 10, 3) := by decide +kernel
theorem d_M_command_86 : decode c_M_command 86 = .ok (.aload_n 0, 1) := by decide +kernel
theorem d_M_command_87 : decode c_M_command 87 = .ok (.iload_n 1, 1) := by decide +kernel
theorem d_M_command_88 : decode c_M_command 88 = .ok (.iload_n 2, 1) := by decide +kernel
theorem d_M_command_89 : decode c_M_command 89 = .ok (.isub, 1) := by decide +kernel
theorem d_M_command_90 : decode c_M_command 90 = .ok (.invokevirtual 132, 3) := by decide +kernel
theorem d_M_command_93 : decode c_M_command 93 = .ok (.ireturn, 1) := by decide +kernel
theorem d_M_count_0 : decode c_M_count 0 = .ok (.iload_n 1, 1) := by decide +kernel
theorem d_M_count_1 : decode c_M_count 1 = .ok (.tableswitch 110 0 4 #[35, 46, 54, 72, 91], 35) := by decide +kernel
theorem d_M_count_36 : decode c_M_count 36 = .ok (.aload_n 0, 1) := by decide +kernel
theorem d_M_count_37 : decode c_M_count 37 = .ok (.getfield 12, 3) := by decide +kernel
theorem d_M_count_40 : decode c_M_count 40 = .ok (.getfield 135, 3) := by decide +kernel
theorem d_M_count_43 : decode c_M_count 43 = .ok (.invokestatic 124, 3) := by decide +kernel
theorem d_M_count_46 : decode c_M_count 46 = .ok (.ireturn, 1) := by decide +kernel
theorem d_M_count_47 : decode c_M_count 47 = .ok (.aload_n 0, 1) := by decide +kernel
theorem d_M_count_48 : decode c_M_count 48 = .ok (.getfield 12, 3) := by decide +kernel
theorem d_M_count_51 : decode c_M_count 51 = .ok (.getfield 138, 3) := by decide +kernel
theorem d_M_count_54 : decode c_M_count 54 = .ok (.ireturn, 1) := by decide +kernel
theorem d_M_count_55 : decode c_M_count 55 = .ok (.aload_n 0, 1) := by decide +kernel
theorem d_M_count_56 : decode c_M_count 56 = .ok (.getfield 12, 3) := by decide +kernel
theorem d_M_count_59 : decode c_M_count 59 = .ok (.aload_n 0, 1) := by decide +kernel
theorem d_M_count_60 : decode c_M_count 60 = .ok (.getfield 12, 3) := by decide +kernel
theorem d_M_count_63 : decode c_M_count 63 = .ok (.getfield 135, 3) := by decide +kernel
theorem d_M_count_66 : decode c_M_count 66 = .ok (.invokevirtual 141, 3) := by decide +kernel
theorem d_M_count_69 : decode c_M_count 69 = .ok (.invokestatic 124, 3) := by decide +kernel
theorem d_M_count_72 : decode c_M_count 72 = .ok (.ireturn, 1) := by decide +kernel
theorem d_M_count_73 : decode c_M_count 73 = .ok (.aload_n 0, 1) := by decide +kernel
theorem d_M_count_74 : decode c_M_count 74 = .ok (.getfield 30, 3) := by decide +kernel
theorem d_M_count_77 : decode c_M_count 77 = .ok (.ifCond .eq 13, 3) := by decide +kernel
theorem d_M_count_80 : decode c_M_count 80 = .ok (.aload_n 0, 1) := by decide +kernel
theorem d_M_count_81 : decode c_M_count 81 = .ok (.getfield 19, 3) := by decide +kernel
theorem d_M_count_84 : decode c_M_count 84 = .ok (.getfield 144, 3) := by decide +kernel
theorem d_M_count_87 : decode c_M_count 87 = .ok (.goto 4, 3) := by decide +kernel
theorem d_M_count_90 : decode c_M_count 90 = .ok (.iconst 0, 1) := by decide +kernel
theorem d_M_count_91 : decode c_M_count 91 = .ok (.ireturn, 1) := by decide +kernel
theorem d_M_count_92 : decode c_M_count 92 = .ok (.aload_n 0, 1) := by decide +kernel
theorem d_M_count_93 : decode c_M_count 93 = .ok (.getfield 30, 3) := by decide +kernel
theorem d_M_count_96 : decode c_M_count 96 = .ok (.ifCond .eq 13, 3) := by decide +kernel
theorem d_M_count_99 : decode c_M_count 99 = .ok (.aload_n 0, 1) := by decide +kernel
theorem d_M_count_100 : decode c_M_count 100 = .ok (.getfield 19, 3) := by decide +kernel
theorem d_M_count_103 : decode c_M_count 103 = .ok (.getfield 80, 3) := by decide +kernel
theorem d_M_count_106 : decode c_M_count 106 = .ok (.goto 4, 3) := by decide +kernel
theorem d_M_count_109 : decode c_M_count 109 = .ok (.iconst 0, 1) := by decide +kernel
theorem d_M_count_110 : decode c_M_count 110 = .ok (.ireturn, 1) := by decide +kernel
theorem d_M_count_111 : decode c_M_count 111 = .ok (.new 147, 3) := by decide +kernel
theorem d_M_count_114 : decode c_M_count 114 = .ok (.dup, 1) := by decide +kernel
theorem d_M_count_115 : decode c_M_count 115 = .ok (.ldc 149, 2) := by decide +kernel
theorem d_M_count_117 : decode c_M_count 117 = .ok (.invokespecial 151, 3) := by decide +kernel
theorem d_M_count_120 : decode c_M_count 120 = .ok (.athrow, 1) := by decide +kernel
theorem d_M_changed_0 : decode c_M_changed 0 = .ok (.iload_n 1, 1) := by decide +kernel
theorem d_M_changed_1 : decode c_M_changed 1 = .ok (.iconst 1, 1) := by decide +kernel
theorem d_M_changed_2 : decode c_M_changed 2 = .ok (.if_icmp .ne 8, 3) := by decide +kernel
theorem d_M_changed_5 : decode c_M_changed 5 = .ok (.aload_n 0, 1) := by decide +kernel
theorem d_M_changed_6 : decode c_M_changed 6 = .ok (.iconst 0, 1) := by decide +kernel
theorem d_M_changed_7 : decode c_M_changed 7 = .ok (.putfield 30, 3) := by decide +kernel
theorem d_M_changed_10 : decode c_M_changed 10 = .ok (.iload_n 1, 1) := by decide +kernel
theorem d_M_changed_11 : decode c_M_changed 11 = .ok (.ireturn, 1) := by decide +kernel
theorem d_M_numberOfGroups_0 : decode c_M_numberOfGroups 0 = .ok (.aload_n 0, 1) := by decide +kernel
theorem d_M_numberOfGroups_1 : decode c_M_numberOfGroups 1 = .ok (.getfield 26, 3) := by decide +kernel
theorem d_M_numberOfGroups_4 : decode c_M_numberOfGroups 4 = .ok (.iload_n 1, 1) := by decide +kernel
theorem d_M_numberOfGroups_5 : decode c_M_numberOfGroups 5 = .ok (.iconst 4, 1) := by decide +kernel
theorem d_M_numberOfGroups_6 : decode c_M_numberOfGroups 6 = .ok (.idiv, 1) := by decide +kernel
theorem d_M_numberOfGroups_7 : decode c_M_numberOfGroups 7 = .ok (.invokevirtual 152, 3) := by decide +kernel
theorem d_M_numberOfGroups_10 : decode c_M_numberOfGroups 10 = .ok (.istore_n 2, 1) := by decide +kernel
theorem d_M_numberOfGroups_11 : decode c_M_numberOfGroups 11 = .ok (.iload_n 1, 1) := by decide +kernel
theorem d_M_numberOfGroups_12 : decode c_M_numberOfGroups 12 = .ok (.iconst 4, 1) := by decide +kernel
theorem d_M_numberOfGroups_13 : decode c_M_numberOfGroups 13 = .ok (.irem, 1) := by decide +kernel
theorem d_M_numberOfGroups_14 : decode c_M_numberOfGroups 14 = .ok (.tableswitch 43 0 2 #[26, 28, 30], 26) := by decide +kernel
theorem d_M_numberOfGroups_40 : decode c_M_numberOfGroups 40 = .ok (.iconst 1, 1) := by decide +kernel
theorem d_M_numberOfGroups_41 : decode c_M_numberOfGroups 41 = .ok (.ireturn, 1) := by decide +kernel
theorem d_M_numberOfGroups_42 : decode c_M_numberOfGroups 42 = .ok (.iload_n 2, 1) := by decide +kernel
theorem d_M_numberOfGroups_43 : decode c_M_numberOfGroups 43 = .ok (.ireturn, 1) := by decide +kernel
theorem d_M_numberOfGroups_44 : decode c_M_numberOfGroups 44 = .ok (.bipush 16, 2) := by decide +kernel
theorem d_M_numberOfGroups_46 : decode c_M_numberOfGroups 46 = .ok (.aload_n 0, 1) := by decide +kernel
theorem d_M_numberOfGroups_47 : decode c_M_numberOfGroups 47 = .ok (.getfield 26, 3) := by decide +kernel
theorem d_M_numberOfGroups_50 : decode c_M_numberOfGroups 50 = .ok (.getfield 106, 3) := by decide +kernel
theorem d_M_numberOfGroups_53 : decode c_M_numberOfGroups 53 = .ok (.iload_n 2, 1) := by decide +kernel
theorem d_M_numberOfGroups_54 : decode c_M_numberOfGroups 54 = .ok (.iaload, 1) := by decide +kernel
theorem d_M_numberOfGroups_55 : decode c_M_numberOfGroups 55 = .ok (.imul, 1) := by decide +kernel
theorem d_M_numberOfGroups_56 : decode c_M_numberOfGroups 56 = .ok (.ireturn, 1) := by decide +kernel
theorem d_M_numberOfGroups_57 : decode c_M_numberOfGroups 57 = .ok (.bipush 16, 2) := by decide +kernel
theorem d_M_numberOfGroups_59 : decode c_M_numberOfGroups 59 = .ok (.aload_n 0, 1) := by decide +kernel
theorem d_M_numberOfGroups_60 : decode c_M_numberOfGroups 60 = .ok (.getfield 19, 3) := by decide +kernel
theorem d_M_numberOfGroups_63 : decode c_M_numberOfGroups 63 = .ok (.getfield 103, 3) := by decide +kernel
theorem d_M_numberOfGroups_66 : decode c_M_numberOfGroups 66 = .ok (.iload_n 2, 1) := by decide +kernel
theorem d_M_numberOfGroups_67 : decode c_M_numberOfGroups 67 = .ok (.iaload, 1) := by decide +kernel
theorem d_M_numberOfGroups_68 : decode c_M_numberOfGroups 68 = .ok (.imul, 1) := by decide +kernel
theorem d_M_numberOfGroups_69 : decode c_M_numberOfGroups 69 = .ok (.ireturn, 1) := by decide +kernel
theorem d_M_numberOfLinks_0 : decode c_M_numberOfLinks 0 = .ok (.iload_n 1, 1) := by decide +kernel
theorem d_M_numberOfLinks_1 : decode c_M_numberOfLinks 1 = .ok (.istore_n 2, 1) := by decide +kernel
theorem d_M_numberOfLinks_2 : decode c_M_numberOfLinks 2 = .ok (.iconst 0, 1) := by decide +kernel
theorem d_M_numberOfLinks_3 : decode c_M_numberOfLinks 3 = .ok (.istore_n 3, 1) := by decide +kernel
theorem d_M_numberOfLinks_4 : decode c_M_numberOfLinks 4 = .ok (.iload_n 3, 1) := by decide +kernel
theorem d_M_numberOfLinks_5 : decode c_M_numberOfLinks 5 = .ok (.aload_n 0, 1) := by decide +kernel
theorem d_M_numberOfLinks_6 : decode c_M_numberOfLinks 6 = .ok (.getfield 19, 3) := by decide +kernel
theorem d_M_numberOfLinks_9 : decode c_M_numberOfLinks 9 = .ok (.getfield 109, 3) := by decide +kernel
theorem d_M_numberOfLinks_12 : decode c_M_numberOfLinks 12 = .ok (.iconst 1, 1) := by decide +kernel
theorem d_M_numberOfLinks_13 : decode c_M_numberOfLinks 13 = .ok (.isub, 1) := by decide +kernel
theorem d_M_numberOfLinks_14 : decode c_M_numberOfLinks 14 = .ok (.if_icmp .ge 26, 3) := by decide +kernel
theorem d_M_numberOfLinks_17 : decode c_M_numberOfLinks 17 = .ok (.iload_n 2, 1) := by decide +kernel
theorem d_M_numberOfLinks_18 : decode c_M_numberOfLinks 18 = .ok (.aload_n 0, 1) := by decide +kernel
theorem d_M_numberOfLinks_19 : decode c_M_numberOfLinks 19 = .ok (.iload_n 3, 1) := by decide +kernel
theorem d_M_numberOfLinks_20 : decode c_M_numberOfLinks 20 = .ok (.invokevirtual 155, 3) := by decide +kernel
theorem d_M_numberOfLinks_23 : decode c_M_numberOfLinks 23 = .ok (.if_icmp .lt 17, 3) := by decide +kernel
theorem d_M_numberOfLinks_26 : decode c_M_numberOfLinks 26 = .ok (.iload_n 2, 1) := by decide +kernel
theorem d_M_numberOfLinks_27 : decode c_M_numberOfLinks 27 = .ok (.aload_n 0, 1) := by decide +kernel
theorem d_M_numberOfLinks_28 : decode c_M_numberOfLinks 28 = .ok (.iload_n 3, 1) := by decide +kernel
theorem d_M_numberOfLinks_29 : decode c_M_numberOfLinks 29 = .ok (.invokevirtual 155, 3) := by decide +kernel
theorem d_M_numberOfLinks_32 : decode c_M_numberOfLinks 32 = .ok (.isub, 1) := by decide +kernel
theorem d_M_numberOfLinks_33 : decode c_M_numberOfLinks 33 = .ok (.istore_n 2, 1) := by decide +kernel
theorem d_M_numberOfLinks_34 : decode c_M_numberOfLinks 34 = .ok (.iinc 3 1, 3) := by decide +kernel
theorem d_M_numberOfLinks_37 : decode c_M_numberOfLinks 37 = .ok (.goto (-33), 3) := by decide +kernel
theorem d_M_numberOfLinks_40 : decode c_M_numberOfLinks 40 = .ok (.iload_n 2, 1) := by decide +kernel
theorem d_M_numberOfLinks_41 : decode c_M_numberOfLinks 41 = .ok (.ifCond .ne 5, 3) := by decide +kernel
theorem d_M_numberOfLinks_44 : decode c_M_numberOfLinks 44 = .ok (.iconst 2, 1) := by decide +kernel
theorem d_M_numberOfLinks_45 : decode c_M_numberOfLinks 45 = .ok (.ireturn, 1) := by decide +kernel
theorem d_M_numberOfLinks_46 : decode c_M_numberOfLinks 46 = .ok (.iload_n 2, 1) := by decide +kernel
theorem d_M_numberOfLinks_47 : decode c_M_numberOfLinks 47 = .ok (.iconst 1, 1) := by decide +kernel
theorem d_M_numberOfLinks_48 : decode c_M_numberOfLinks 48 = .ok (.if_icmp .ne 14, 3) := by decide +kernel
theorem d_M_numberOfLinks_51 : decode c_M_numberOfLinks 51 = .ok (.aload_n 0, 1) := by decide +kernel
theorem d_M_numberOfLinks_52 : decode c_M_numberOfLinks 52 = .ok (.getfield 19, 3) := by decide +kernel
theorem d_M_numberOfLinks_55 : decode c_M_numberOfLinks 55 = .ok (.iload_n 3, 1) := by decide +kernel
theorem d_M_numberOfLinks_56 : decode c_M_numberOfLinks 56 = .ok (.invokevirtual 112, 3) := by decide +kernel
theorem d_M_numberOfLinks_59 : decode c_M_numberOfLinks 59 = .ok (.iconst 2, 1) := by decide +kernel
theorem d_M_numberOfLinks_60 : decode c_M_numberOfLinks 60 = .ok (.iadd, 1) := by decide +kernel
theorem d_M_numberOfLinks_61 : decode c_M_numberOfLinks 61 = .ok (.ireturn, 1) := by decide +kernel
theorem d_M_numberOfLinks_62 : decode c_M_numberOfLinks 62 = .ok (.iload_n 2, 1) := by decide +kernel
theorem d_M_numberOfLinks_63 : decode c_M_numberOfLinks 63 = .ok (.iconst 2, 1) := by decide +kernel
theorem d_M_numberOfLinks_64 : decode c_M_numberOfLinks 64 = .ok (.isub, 1) := by decide +kernel
theorem d_M_numberOfLinks_65 : decode c_M_numberOfLinks 65 = .ok (.iconst 2, 1) := by decide +kernel
theorem d_M_numberOfLinks_66 : decode c_M_numberOfLinks 66 = .ok (.idiv, 1) := by decide +kernel
theorem d_M_numberOfLinks_67 : decode c_M_numberOfLinks 67 = .ok (.istore 4, 2) := by decide +kernel
theorem d_M_numberOfLinks_69 : decode c_M_numberOfLinks 69 = .ok (.iload_n 2, 1) := by decide +kernel
theorem d_M_numberOfLinks_70 : decode c_M_numberOfLinks 70 = .ok (.iconst 2, 1) := by decide +kernel
theorem d_M_numberOfLinks_71 : decode c_M_numberOfLinks 71 = .ok (.irem, 1) := by decide +kernel
theorem d_M_numberOfLinks_72 : decode c_M_numberOfLinks 72 = .ok (.ifCond .ne 25, 3) := by decide +kernel
theorem d_M_numberOfLinks_75 : decode c_M_numberOfLinks 75 = .ok (.bipush 16, 2) := by decide +kernel
theorem d_M_numberOfLinks_77 : decode c_M_numberOfLinks 77 = .ok (.aload_n 0, 1) := by decide +kernel
theorem d_M_numberOfLinks_78 : decode c_M_numberOfLinks 78 = .ok (.getfield 26, 3) := by decide +kernel
theorem d_M_numberOfLinks_81 : decode c_M_numberOfLinks 81 = .ok (.getfield 106, 3) := by decide +kernel
theorem d_M_numberOfLinks_84 : decode c_M_numberOfLinks 84 = .ok (.aload_n 0, 1) := by decide +kernel
theorem d_M_numberOfLinks_85 : decode c_M_numberOfLinks 85 = .ok (.getfield 19, 3) := by decide +kernel
theorem d_M_numberOfLinks_88 : decode c_M_numberOfLinks 88 = .ok (.iload_n 3, 1) := by decide +kernel
theorem d_M_numberOfLinks_89 : decode c_M_numberOfLinks 89 = .ok (.iload 4, 2) := by decide +kernel
theorem d_M_numberOfLinks_91 : decode c_M_numberOfLinks 91 = .ok (.invokevirtual 121, 3) := by decide +kernel
theorem d_M_numberOfLinks_94 : decode c_M_numberOfLinks 94 = .ok (.iaload, 1) := by decide +kernel
theorem d_M_numberOfLinks_95 : decode c_M_numberOfLinks 95 = .ok (.imul, 1) := by decide +kernel
theorem d_M_numberOfLinks_96 : decode c_M_numberOfLinks 96 = .ok (.ireturn, 1) := by decide +kernel
theorem d_M_numberOfLinks_97 : decode c_M_numberOfLinks 97 = .ok (.bipush 16, 2) := by decide +kernel
theorem d_M_numberOfLinks_99 : decode c_M_numberOfLinks 99 = .ok (.aload_n 0, 1) := by decide +kernel
theorem d_M_numberOfLinks_100 : decode c_M_numberOfLinks 100 = .ok (.getfield 19, 3) := by decide +kernel
theorem d_M_numberOfLinks_103 : decode c_M_numberOfLinks 103 = .ok (.getfield 103, 3) := by decide +kernel
theorem d_M_numberOfLinks_106 : decode c_M_numberOfLinks 106 = .ok (.aload_n 0, 1) := by decide +kernel
theorem d_M_numberOfLinks_107 : decode c_M_numberOfLinks 107 = .ok (.getfield 19, 3) := by decide +kernel
theorem d_M_numberOfLinks_110 : decode c_M_numberOfLinks 110 = .ok (.getfield 115, 3) := by decide +kernel
theorem d_M_numberOfLinks_113 : decode c_M_numberOfLinks 113 = .ok (.iload_n 3, 1) := by decide +kernel
theorem d_M_numberOfLinks_114 : decode c_M_numberOfLinks 114 = .ok (.iaload, 1) := by decide +kernel
theorem d_M_numberOfLinks_115 : decode c_M_numberOfLinks 115 = .ok (.iaload, 1) := by decide +kernel
theorem d_M_numberOfLinks_116 : decode c_M_numberOfLinks 116 = .ok (.iload 4, 2) := by decide +kernel
theorem d_M_numberOfLinks_118 : decode c_M_numberOfLinks 118 = .ok (.iadd, 1) := by decide +kernel
theorem d_M_numberOfLinks_119 : decode c_M_numberOfLinks 119 = .ok (.imul, 1) := by decide +kernel
theorem d_M_numberOfLinks_120 : decode c_M_numberOfLinks 120 = .ok (.ireturn, 1) := by decide +kernel
theorem d_M_numbersOf_0 : decode c_M_numbersOf 0 = .ok (.iconst 2, 1) := by decide +kernel
theorem d_M_numbersOf_1 : decode c_M_numbersOf 1 = .ok (.iconst 2, 1) := by decide +kernel
theorem d_M_numbersOf_2 : decode c_M_numbersOf 2 = .ok (.aload_n 0, 1) := by decide +kernel
theorem d_M_numbersOf_3 : decode c_M_numbersOf 3 = .ok (.getfield 19, 3) := by decide +kernel
theorem d_M_numbersOf_6 : decode c_M_numbersOf 6 = .ok (.iload_n 1, 1) := by decide +kernel
theorem d_M_numbersOf_7 : decode c_M_numbersOf 7 = .ok (.invokevirtual 112, 3) := by decide +kernel
theorem d_M_numbersOf_10 : decode c_M_numbersOf 10 = .ok (.iconst 2, 1) := by decide +kernel
theorem d_M_numbersOf_11 : decode c_M_numbersOf 11 = .ok (.iadd, 1) := by decide +kernel
theorem d_M_numbersOf_12 : decode c_M_numbersOf 12 = .ok (.imul, 1) := by decide +kernel
theorem d_M_numbersOf_13 : decode c_M_numbersOf 13 = .ok (.iadd, 1) := by decide +kernel
theorem d_M_numbersOf_14 : decode c_M_numbersOf 14 = .ok (.ireturn, 1) := by decide +kernel
theorem d_M_needSheet_0 : decode c_M_needSheet 0 = .ok (.aload_n 0, 1) := by decide +kernel
theorem d_M_needSheet_1 : decode c_M_needSheet 1 = .ok (.getfield 30, 3) := by decide +kernel
theorem d_M_needSheet_4 : decode c_M_needSheet 4 = .ok (.ifCond .ne 13, 3) := by decide +kernel
theorem d_M_needSheet_7 : decode c_M_needSheet 7 = .ok (.new 158, 3) := by decide +kernel
theorem d_M_needSheet_10 : decode c_M_needSheet 10 = .ok (.dup, 1) := by decide +kernel
theorem d_M_needSheet_11 : decode c_M_needSheet 11 = .ok (.ldc 160, 2) := by decide +kernel
theorem d_M_needSheet_13 : decode c_M_needSheet 13 = .ok (.invokespecial 162, 3) := by decide +kernel
theorem d_M_needSheet_16 : decode c_M_needSheet 16 = .ok (.athrow, 1) := by decide +kernel
theorem d_M_needSheet_17 : decode c_M_needSheet 17 = .ok (.return_, 1) := by decide +kernel
theorem d_M_needContext_0 : decode c_M_needContext 0 = .ok (.iload_n 0, 1) := by decide +kernel
theorem d_M_needContext_1 : decode c_M_needContext 1 = .ok (.ifCond .lt 13, 3) := by decide +kernel
theorem d_M_needContext_4 : decode c_M_needContext 4 = .ok (.iload_n 0, 1) := by decide +kernel
theorem d_M_needContext_5 : decode c_M_needContext 5 = .ok (.bipush 16, 2) := by decide +kernel
theorem d_M_needContext_7 : decode c_M_needContext 7 = .ok (.if_icmp .ge 7, 3) := by decide +kernel
theorem d_M_needContext_10 : decode c_M_needContext 10 = .ok (.iconst 1, 1) := by decide +kernel
theorem d_M_needContext_11 : decode c_M_needContext 11 = .ok (.goto 4, 3) := by decide +kernel
theorem d_M_needContext_14 : decode c_M_needContext 14 = .ok (.iconst 0, 1) := by decide +kernel
theorem d_M_needContext_15 : decode c_M_needContext 15 = .ok (.invokestatic 67, 3) := by decide +kernel
theorem d_M_needContext_18 : decode c_M_needContext 18 = .ok (.return_, 1) := by decide +kernel
theorem d_M_need_0 : decode c_M_need 0 = .ok (.iload_n 0, 1) := by decide +kernel
theorem d_M_need_1 : decode c_M_need 1 = .ok (.ifCond .ne 13, 3) := by decide +kernel
theorem d_M_need_4 : decode c_M_need 4 = .ok (.new 147, 3) := by decide +kernel
theorem d_M_need_7 : decode c_M_need 7 = .ok (.dup, 1) := by decide +kernel
theorem d_M_need_8 : decode c_M_need 8 = .ok (.ldc 163, 2) := by decide +kernel
theorem d_M_need_10 : decode c_M_need 10 = .ok (.invokespecial 151, 3) := by decide +kernel
theorem d_M_need_13 : decode c_M_need 13 = .ok (.athrow, 1) := by decide +kernel
theorem d_M_need_14 : decode c_M_need 14 = .ok (.return_, 1) := by decide +kernel
theorem d_M_has_0 : decode c_M_has 0 = .ok (.iload_n 0, 1) := by decide +kernel
theorem d_M_has_1 : decode c_M_has 1 = .ok (.iload_n 1, 1) := by decide +kernel
theorem d_M_has_2 : decode c_M_has 2 = .ok (.ishr, 1) := by decide +kernel
theorem d_M_has_3 : decode c_M_has 3 = .ok (.iconst 1, 1) := by decide +kernel
theorem d_M_has_4 : decode c_M_has 4 = .ok (.iand, 1) := by decide +kernel
theorem d_M_has_5 : decode c_M_has 5 = .ok (.ifCond .eq 7, 3) := by decide +kernel
theorem d_M_has_8 : decode c_M_has 8 = .ok (.iconst 1, 1) := by decide +kernel
theorem d_M_has_9 : decode c_M_has 9 = .ok (.goto 4, 3) := by decide +kernel
theorem d_M_has_12 : decode c_M_has 12 = .ok (.iconst 0, 1) := by decide +kernel
theorem d_M_has_13 : decode c_M_has 13 = .ok (.ireturn, 1) := by decide +kernel
theorem d_M_goOn_0 : decode c_M_goOn 0 = .ok (.iconst 0, 1) := by decide +kernel
theorem d_M_goOn_1 : decode c_M_goOn 1 = .ok (.istore_n 2, 1) := by decide +kernel
theorem d_M_goOn_2 : decode c_M_goOn 2 = .ok (.iload_n 2, 1) := by decide +kernel
theorem d_M_goOn_3 : decode c_M_goOn 3 = .ok (.bipush 16, 2) := by decide +kernel
theorem d_M_goOn_5 : decode c_M_goOn 5 = .ok (.if_icmp .ge 50, 3) := by decide +kernel
theorem d_M_goOn_8 : decode c_M_goOn 8 = .ok (.iconst 0, 1) := by decide +kernel
theorem d_M_goOn_9 : decode c_M_goOn 9 = .ok (.istore_n 3, 1) := by decide +kernel
theorem d_M_goOn_10 : decode c_M_goOn 10 = .ok (.iload_n 3, 1) := by decide +kernel
theorem d_M_goOn_11 : decode c_M_goOn 11 = .ok (.bipush 16, 2) := by decide +kernel
theorem d_M_goOn_13 : decode c_M_goOn 13 = .ok (.if_icmp .ge 36, 3) := by decide +kernel
theorem d_M_goOn_16 : decode c_M_goOn 16 = .ok (.iload_n 1, 1) := by decide +kernel
theorem d_M_goOn_17 : decode c_M_goOn 17 = .ok (.iload_n 2, 1) := by decide +kernel
theorem d_M_goOn_18 : decode c_M_goOn 18 = .ok (.invokestatic 99, 3) := by decide +kernel
theorem d_M_goOn_21 : decode c_M_goOn 21 = .ok (.ifCond .eq 22, 3) := by decide +kernel
theorem d_M_goOn_24 : decode c_M_goOn 24 = .ok (.aload_n 0, 1) := by decide +kernel
theorem d_M_goOn_25 : decode c_M_goOn 25 = .ok (.iload_n 3, 1) := by decide +kernel
theorem d_M_goOn_26 : decode c_M_goOn 26 = .ok (.iaload, 1) := by decide +kernel
theorem d_M_goOn_27 : decode c_M_goOn 27 = .ok (.iload_n 2, 1) := by decide +kernel
theorem d_M_goOn_28 : decode c_M_goOn 28 = .ok (.invokestatic 99, 3) := by decide +kernel
theorem d_M_goOn_31 : decode c_M_goOn 31 = .ok (.ifCond .eq 12, 3) := by decide +kernel
theorem d_M_goOn_34 : decode c_M_goOn 34 = .ok (.aload_n 0, 1) := by decide +kernel
theorem d_M_goOn_35 : decode c_M_goOn 35 = .ok (.iload_n 3, 1) := by decide +kernel
theorem d_M_goOn_36 : decode c_M_goOn 36 = .ok (.dup2, 1) := by decide +kernel
theorem d_M_goOn_37 : decode c_M_goOn 37 = .ok (.iaload, 1) := by decide +kernel
theorem d_M_goOn_38 : decode c_M_goOn 38 = .ok (.aload_n 0, 1) := by decide +kernel
theorem d_M_goOn_39 : decode c_M_goOn 39 = .ok (.iload_n 2, 1) := by decide +kernel
theorem d_M_goOn_40 : decode c_M_goOn 40 = .ok (.iaload, 1) := by decide +kernel
theorem d_M_goOn_41 : decode c_M_goOn 41 = .ok (.ior, 1) := by decide +kernel
theorem d_M_goOn_42 : decode c_M_goOn 42 = .ok (.iastore, 1) := by decide +kernel
theorem d_M_goOn_43 : decode c_M_goOn 43 = .ok (.iinc 3 1, 3) := by decide +kernel
theorem d_M_goOn_46 : decode c_M_goOn 46 = .ok (.goto (-36), 3) := by decide +kernel
theorem d_M_goOn_49 : decode c_M_goOn 49 = .ok (.iinc 2 1, 3) := by decide +kernel
theorem d_M_goOn_52 : decode c_M_goOn 52 = .ok (.goto (-50), 3) := by decide +kernel
theorem d_M_goOn_55 : decode c_M_goOn 55 = .ok (.return_, 1) := by decide +kernel
end
section
/-! words that no reader of steady words carries along: nest links, declared methods, castable classes -/
def kwarm : Cond → Bool
  | .methodLinkNest .. | .declares _ | .castable .. => true
  | _ => false
def wsE : List Cond := lw_tbl.filter kwarm
theorem wsE_in {w : Cond} (h : w ∈ lw_tbl) (g : kwarm w = true) : w ∈ wsE := List.mem_filter.mpr ⟨h, g⟩
theorem kwarm_on {w : Cond} (h : kwarm w = true) : w.onTables = true := by
  cases w <;> first | rfl | (simp [kwarm] at h)
theorem kwarm_go {w : Cond} (h : kwarm w = true) {s U : State} (hW : s.WarmedH U.vm) (hZ : va_Nw w s) : va_Nw w U := by
  cases w <;> first
    | exact va_Nw.warmM hW hZ
    | exact va_Nw.warmC hW hZ
    | exact va_tabs rfl (rfl : (s.setVm U.vm).vm = U.vm) (by rw [Cond.declares_setVm hW.alike]; exact hZ)
    | (simp [kwarm] at h)
theorem kG {ws : List Cond} (h : ∀ w ∈ ws, w ∈ wsG) : GoodIn wsG ws := fun w hw => ⟨h w hw, good_of_word (wsG_good w (h w hw))⟩
theorem kG_self {c : Cond} (h : c ∈ wsG) : ∀ w ∈ c :: wsG, w ∈ wsG := fun w hw => (List.mem_cons.mp hw).elim (fun e => by rw [e]; exact h) id
theorem kG_V {own : String} {i : Nat} {C : String} {y : MethodName} {ws : List Cond} (h1 : Cond.methodLink own i y ∈ wsG) (h2 : Cond.instanceMethod y ∈ wsG) (h3 : Cond.selects C y y ∈ wsG) (h4 : Cond.initialized C ∈ wsG) (h5 : ∀ w ∈ ws, w ∈ wsG) : ∀ w ∈ wsV own i C y ws, w ∈ wsG := by
  intro w hw
  simp only [wsV, List.cons_append, List.nil_append, List.mem_cons] at hw
  rcases hw with rfl | rfl | rfl | rfl | hw
  · exact h1
  · exact h2
  · exact h3
  · exact h4
  · exact h5 w hw
theorem kG_S {own : String} {i : Nat} {y : MethodName} {ws : List Cond} (h1 : Cond.methodLink own i y ∈ wsG) (h2 : Cond.static y ∈ wsG) (h4 : Cond.initialized own ∈ wsG) (h5 : ∀ w ∈ ws, w ∈ wsG) : ∀ w ∈ wsS own i y ws, w ∈ wsG := by
  intro w hw
  simp only [wsS, List.cons_append, List.nil_append, List.mem_cons] at hw
  rcases hw with rfl | rfl | rfl | hw
  · exact h1
  · exact h2
  · exact h4
  · exact h5 w hw
/-! numbers -/
abbrev S0 : Type := Nat → Nat → Int32
def st (σ : S0) (a k : Nat) (v : Int32) : S0 := fun b => if b = a then upd (σ b) k v else σ b
def cp (σ : S0) (a d n : Nat) : S0 := fun b => if b = d then va_cpy (σ a) (σ d) 0 0 n else σ b
def cpok (n : Int32) (n0 n1 : Nat) : Prop := ¬ n < 0 ∧ n.toNatClampNeg ≤ n0 ∧ n.toNatClampNeg ≤ n1
def bo (v : Int32) : Prop := v = 0 ∨ v = 1
theorem bo_n {v : Int32} (h : bo v) : narrow .boolean (.int v) = .int v := by
  rcases h with rfl | rfl <;> rfl
theorem bo_f {v : Int32} (h : bo v) : fits .boolean (.int v) = true := by
  rcases h with rfl | rfl <;> rfl
def jmin (x y : Int32) : Int32 := if y < x then y else x
def jmax (x y : Int32) : Int32 := if x < y then y else x
theorem sw_out {x : Int32} (n : Nat) (hn : n < 2 ^ 31) (h : ∀ j : Nat, j ≤ n → ¬ x = nI j) : x.toInt < 0 ∨ (n : Int) < x.toInt := by
  by_cases q : x.toInt < 0
  · exact Or.inl q
  · refine Or.inr ?_
    by_cases r : (n : Int) < x.toInt
    · exact r
    · obtain ⟨j, hj, rfl⟩ := nI_of (x := x) (by rw [Int32.lt_iff_toInt_lt, Int32.toInt_zero]; exact q)
      rw [nI_toInt hj] at r
      exact absurd rfl (h j (by omega))
theorem inG_X0 : ∀ w ∈ wsX00, w ∈ wsG := fun w h => wsG_in ((goodIn_p wsX00 [] (by decide +kernel) (by decide +kernel) w h).1) ((by decide +kernel : ∀ w ∈ wsX00, goodWord w = true) w h)
theorem inG_X1 : ∀ w ∈ wsX10, w ∈ wsG := fun w h => wsG_in ((goodIn_p wsX10 [] (by decide +kernel) (by decide +kernel) w h).1) ((by decide +kernel : ∀ w ∈ wsX10, goodWord w = true) w h)
theorem inG_X2 : ∀ w ∈ wsX20, w ∈ wsG := fun w h => wsG_in ((goodIn_p wsX20 [] (by decide +kernel) (by decide +kernel) w h).1) ((by decide +kernel : ∀ w ∈ wsX20, goodWord w = true) w h)
theorem inG_X3 : ∀ w ∈ wsX30, w ∈ wsG := fun w h => wsG_in ((goodIn_p wsX30 [] (by decide +kernel) (by decide +kernel) w h).1) ((by decide +kernel : ∀ w ∈ wsX30, goodWord w = true) w h)
end
section
def wC (ad : Nat → Nat) (cA cB : ClassId) (σ : S0) : va_W := [
  (ad 0, .inr (3, [.ref (ad 1), .ref (ad 2), .ref (ad 3), .int (σ 0 0)])),
  (ad 1, .inr (0, [.ref (ad 4), .ref (ad 5), .ref (ad 6), .int (σ 0 1), .int (σ 0 2), .int (σ 0 3), .ref (ad 7), .ref (ad 8), .ref (ad 9)])),
  (ad 2, .inr (2, [.ref (ad 10), .ref (ad 11), .ref (ad 12), .int (σ 0 4), .int (σ 0 5), .int (σ 0 6), .int (σ 0 7), .ref (ad 13), .ref (ad 14), .ref (ad 15)])),
  (ad 3, .inr (1, [.ref (ad 16), .ref (ad 17), .int (σ 0 8), .ref (ad 18), .ref (ad 19), .ref (ad 20), .ref (ad 21), .ref (ad 22), .ref (ad 23), .ref (ad 24), .ref (ad 25), .int (σ 0 9), .int (σ 0 10), .int (σ 0 11)])),
  (ad 4, .inl (cA, 16, .inl (σ 4))),
  (ad 5, .inl (cA, 16, .inl (σ 5))),
  (ad 6, .inl (cA, 16, .inl (σ 6))),
  (ad 7, .inl (cA, 16, .inl (σ 7))),
  (ad 8, .inl (cA, 16, .inl (σ 8))),
  (ad 9, .inl (cA, 16, .inl (σ 9))),
  (ad 10, .inl (cA, 16, .inl (σ 10))),
  (ad 11, .inl (cA, 256, .inl (σ 11))),
  (ad 12, .inl (cA, 256, .inl (σ 12))),
  (ad 13, .inl (cA, 16, .inl (σ 13))),
  (ad 14, .inl (cA, 16, .inl (σ 14))),
  (ad 15, .inl (cA, 256, .inl (σ 15))),
  (ad 16, .inl (cA, 166, .inl (σ 16))),
  (ad 17, .inl (cA, 13, .inl (σ 17))),
  (ad 18, .inl (cA, 166, .inl (σ 18))),
  (ad 19, .inl (cA, 166, .inl (σ 19))),
  (ad 20, .inl (cA, 17, .inl (σ 20))),
  (ad 21, .inl (cA, 406, .inl (σ 21))),
  (ad 22, .inl (cA, 406, .inl (σ 22))),
  (ad 23, .inl (cA, 17, .inl (σ 23))),
  (ad 24, .inl (cA, 166, .inl (σ 24))),
  (ad 25, .inl (cA, 166, .inl (σ 25)))]
def kAC (ad : Nat → Nat) (sz : Nat) : Nat → Prop := fun q => (∃ k, k < 26 ∧ q = ad k) ∨ sz ≤ q
def kapC (ad : Nat → Nat) : Prop := ∀ i j, i < 26 → j < 26 → ad i = ad j → i = j
theorem wC_fst (ad : Nat → Nat) (cA cB : ClassId) (σ : S0) : (wC ad cA cB σ).map Prod.fst = (List.range 26).map ad := rfl
theorem wC_at {ad : Nat → Nat} {cA cB : ClassId} {σ : S0} {k : Nat} {q : Nat × va_E} (h : (wC ad cA cB σ)[k]? = some q) : k < 26 ∧ q.1 = ad k := by
  have h1 : ((wC ad cA cB σ).map Prod.fst)[k]? = some q.1 := by rw [List.getElem?_map, h]; rfl
  rw [wC_fst, List.getElem?_map] at h1
  rcases Nat.lt_or_ge k 26 with hk | hk
  · rw [List.getElem?_range hk] at h1
    exact ⟨hk, (Option.some.inj h1).symm⟩
  · rw [List.getElem?_eq_none (by rw [List.length_range]; exact hk)] at h1
    cases h1
theorem wC_D {ad : Nat → Nat} (hap : kapC ad) (cA cB : ClassId) (σ : S0) (sz : Nat) : va_D (kAC ad sz) (wC ad cA cB σ) :=
  ⟨fun i j p q hi hj hpq => by
    obtain ⟨a1, a2⟩ := wC_at hi
    obtain ⟨b1, b2⟩ := wC_at hj
    exact hap i j a1 b1 (by rw [← a2, ← b2]; exact hpq), fun k q hk => by
    obtain ⟨a1, a2⟩ := wC_at hk
    exact Or.inl ⟨k, a1, a2⟩⟩
theorem kAC_mono {ad : Nat → Nat} {a b : Nat} (h : a ≤ b) : ∀ q, kAC ad b q → kAC ad a q := fun q hq => hq.imp id (fun x => Nat.le_trans h x)
/-- what a method of the class must know of the state beside its cells: words, the two statics of Throwable, its texts -/
def kstr : List (Nat × String) := [(163, "there is no such one"), (51, "no such phase"), (74, "rounds are 0 to 12"), (160, "there is no sheet"), (149, "nothing is counted by this number")]
def kFC (ad : Nat → Nat) (sz : Nat) (U : State) : Prop := (∀ w ∈ wsE, va_Nw w U) ∧ vx_Zq Bundle.tN "UNASSIGNED_STACK" Bundle.steD (kAC ad sz) U U.heap ∧ vx_Zq Bundle.tN "SUPPRESSED_SENTINEL" Bundle.listD (kAC ad sz) U U.heap ∧ ∀ q ∈ kstr, ∃ a, vk_R RX3 q.1 q.2 a U
theorem kFC.go {ad : Nat → Nat} {s U : State} {H : Heap} {locs : List Loc} (h : kFC ad s.heap.size s) (hS : va_S (kAC ad s.heap.size) s.heap H locs) (hU : U.heap = H) (hW : s.WarmedH U.vm) : kFC ad H.size U := by
  obtain ⟨h1, h2, h3, h4⟩ := h
  refine ⟨fun w hw => kwarm_go (List.mem_filter.mp hw).2 hW (h1 w hw), ?_, ?_, fun q hq => ?_⟩
  · rw [hU]; exact ((h2.kept hS.2.1).moved hW.alike).narrow (kAC_mono hS.1)
  · rw [hU]; exact ((h3.kept hS.2.1).moved hW.alike).narrow (kAC_mono hS.1)
  · obtain ⟨a, ha⟩ := h4 q hq
    exact ⟨a, ha.warm hW⟩
theorem kFC.same {ad : Nat → Nat} {sz : Nat} {u U : State} (hv : U.vm = u.vm) (hh : U.heap = u.heap) (h : kFC ad sz u) : kFC ad sz U := by
  obtain ⟨h1, h2, h3, h4⟩ := h
  have hal : u.vm.Alike U.vm := by rw [hv]; exact Vm.Alike.refl _
  refine ⟨fun w hw => va_Nw.same (kwarm_on (List.mem_filter.mp hw).2) hv.symm (h1 w hw), ?_, ?_, fun q hq => ?_⟩
  · rw [hh]; exact h2.moved hal
  · rw [hh]; exact h3.moved hal
  · obtain ⟨a, ha⟩ := h4 q hq
    exact ⟨a, ha.same hv⟩
abbrev ktyC (cA cB : ClassId) : List (ClassId × FieldType) := [(cA, .int), (cB, .boolean)]
/-- a method's start: the world, the classes, the facts -/
def kPcC (D : va_G) (ad : Nat → Nat) (cA cB : ClassId) (σ : S0) (sz : Nat) (av : List Value) : Array Value → State → Prop := va_Pc av (fun U => U.heap.size = sz ∧ va_P D vwCl (wC ad cA cB σ) U.heap ∧ va_K D vwCl (ktyC cA cB) U ∧ kFC ad sz U)
def kBC (D : va_G) (ad : Nat → Nat) (cA cB : ClassId) (σ : S0) (t : State) : Prop := va_P D vwCl (wC ad cA cB σ) t.heap
theorem kBC_of {D : va_G} {ad : Nat → Nat} {cA cB : ClassId} {σ : S0} {t : State} {H : Heap} (ht : t.heap = H) (hP : va_P D vwCl (wC ad cA cB σ) H) : kBC D ad cA cB σ t := by
  show va_P D vwCl (wC ad cA cB σ) t.heap
  rw [ht]; exact hP
theorem kPcC_blind {D : va_G} {ad : Nat → Nat} {cA cB : ClassId} {σ : S0} {sz : Nat} {av : List Value} : FrameBlind (kPcC D ad cA cB σ sz av) := fun a U g mk q => by
  obtain ⟨q0, q1, qP, qK, qF⟩ := q
  exact ⟨q0, q1, qP, va_K.moved (u := U) (U := U.calling g mk a) (Vm.Alike.refl U.vm) qK, qF.same (u := U) (U := U.calling g mk a) rfl rfl⟩
section KCC
variable {p : Program} {l : Launch} {e : Env} {R : Room} {s : State} {m : MethodId} {args : Array Value} {below : List Frame} {meth : Method} {c : Code} {H : Heap} {locs : List Loc} {cells slots : Nat} {Q : State → Prop}
variable {D : va_G} {ad : Nat → Nat} {cA cB : ClassId} {σ : S0} {pc : Nat} {ls : Array Slot} {rest st0 : List Value} {a : Array Value} {mc ms : Nat}
theorem kC_pre (hK : va_K D vwCl (ktyC cA cB) s) (hF : kFC ad s.heap.size s) (hP : va_P D vwCl (wC ad cA cB σ) H) (hS : va_S (kAC ad s.heap.size) s.heap H locs) (As : List Value) : PreS s H (kPcC D ad cA cB σ H.size As) As :=
  ⟨kPcC_blind, fun U hU hW => ⟨rfl, by rw [hU], by rw [hU]; exact hP, va_K.moved hW.alike hK, hF.go hS hU hW⟩⟩
theorem kC_preV (hK : va_K D vwCl (ktyC cA cB) s) (hF : kFC ad s.heap.size s) (hP : va_P D vwCl (wC ad cA cB σ) H) (hS : va_S (kAC ad s.heap.size) s.heap H locs) (q0 : Nat) {b ci : Nat} {q : vw_C} {fs : List Value} (he : (wC ad cA cB σ)[q0]? = some (b, .inr (ci, fs))) (hc : vwCl[ci]? = some q) (As : List Value) : PreV s H q.1 b (kPcC D ad cA cB σ H.size (.ref b :: As)) As :=
  ⟨kPcC_blind, va_recv hK hP hc he, (kC_pre hK hF hP hS (.ref b :: As)).2⟩
theorem kC_i {post : Int32 → S0 → Prop} (hr : va_Run p l e R s m args below meth c H locs cells slots mc ms (F0 m pc ls st0) rest (va_Qi post (kBC D ad cA cB) (kAC ad H.size) a) (kAC ad H.size)) (hS : va_S (kAC ad s.heap.size) s.heap H locs)
    (kk : ∀ (r : Int32) (σ1 : S0) (H1 : Heap) (locs1 : List Loc), post r σ1 → va_P D vwCl (wC ad cA cB σ1) H1 → va_S (kAC ad s.heap.size) s.heap H1 locs1 → W p l e R s m args below meth c H1 locs1 (cells + mc) (slots + ms) Q (F0 m (pc + 3) ls (.int r :: rest))) : W p l e R s m args below meth c H locs cells slots Q (F0 m pc ls st0) :=
  va_calli hr hS (fun q _ h => kAC_mono hS.1 q h) (kAC_mono hS.1) (fun r u t H1 locs1 ht _ hp hB _ _ hS1 => kk r u H1 locs1 hp (by rw [← ht]; exact hB) hS1)
theorem kC_v {post : S0 → Prop} (hr : va_Run p l e R s m args below meth c H locs cells slots mc ms (F0 m pc ls st0) rest (va_Qv post (kBC D ad cA cB) (kAC ad H.size) a) (kAC ad H.size)) (hS : va_S (kAC ad s.heap.size) s.heap H locs)
    (kk : ∀ (σ1 : S0) (H1 : Heap) (locs1 : List Loc), post σ1 → va_P D vwCl (wC ad cA cB σ1) H1 → va_S (kAC ad s.heap.size) s.heap H1 locs1 → W p l e R s m args below meth c H1 locs1 (cells + mc) (slots + ms) Q (F0 m (pc + 3) ls rest)) : W p l e R s m args below meth c H locs cells slots Q (F0 m pc ls st0) :=
  va_callv hr hS (fun q _ h => kAC_mono hS.1 q h) (kAC_mono hS.1) (fun u t H1 locs1 ht _ hp hB _ _ hS1 => kk u H1 locs1 hp (by rw [← ht]; exact hB) hS1)
end KCC
end
section
theorem m_1 : Cond.selects RX0 y_D_settle y_D_settle ∈ wsG := wsG_in (List.mem_of_getElem? (i := 1) (by decide +kernel)) (by decide +kernel)
theorem m_2 : Cond.selects RX0 y_D_lowerGroupPhase y_D_lowerGroupPhase ∈ wsG := wsG_in (List.mem_of_getElem? (i := 2) (by decide +kernel)) (by decide +kernel)
theorem m_4 : Cond.selects RX0 y_D_join y_D_join ∈ wsG := wsG_in (List.mem_of_getElem? (i := 4) (by decide +kernel)) (by decide +kernel)
theorem m_5 : Cond.selects RX2 y_P_findLinks y_P_findLinks ∈ wsG := wsG_in (List.mem_of_getElem? (i := 5) (by decide +kernel)) (by decide +kernel)
theorem m_6 : Cond.selects RX2 y_P_findForerunners y_P_findForerunners ∈ wsG := wsG_in (List.mem_of_getElem? (i := 6) (by decide +kernel)) (by decide +kernel)
theorem m_7 : Cond.selects RX2 y_P_layRows y_P_layRows ∈ wsG := wsG_in (List.mem_of_getElem? (i := 7) (by decide +kernel)) (by decide +kernel)
theorem m_8 : Cond.selects RX2 y_P_layBends y_P_layBends ∈ wsG := wsG_in (List.mem_of_getElem? (i := 8) (by decide +kernel)) (by decide +kernel)
theorem m_9 : Cond.selects RX1 y_O_layMarks y_O_layMarks ∈ wsG := wsG_in (List.mem_of_getElem? (i := 9) (by decide +kernel)) (by decide +kernel)
theorem m_10 : Cond.selects RX1 y_O_layMark y_O_layMark ∈ wsG := wsG_in (List.mem_of_getElem? (i := 10) (by decide +kernel)) (by decide +kernel)
theorem m_11 : Cond.selects RX1 y_O_numberPlaces y_O_numberPlaces ∈ wsG := wsG_in (List.mem_of_getElem? (i := 11) (by decide +kernel)) (by decide +kernel)
theorem m_12 : Cond.selects RX1 y_O_layPieces y_O_layPieces ∈ wsG := wsG_in (List.mem_of_getElem? (i := 12) (by decide +kernel)) (by decide +kernel)
theorem m_13 : Cond.selects RX1 y_O_countCrossings y_O_countCrossings ∈ wsG := wsG_in (List.mem_of_getElem? (i := 13) (by decide +kernel)) (by decide +kernel)
theorem m_14 : Cond.selects RX1 y_O_countCrossed y_O_countCrossed ∈ wsG := wsG_in (List.mem_of_getElem? (i := 14) (by decide +kernel)) (by decide +kernel)
theorem m_15 : Cond.selects RX1 y_O_keepBest y_O_keepBest ∈ wsG := wsG_in (List.mem_of_getElem? (i := 15) (by decide +kernel)) (by decide +kernel)
theorem m_16 : Cond.selects RX1 y_O_runRound y_O_runRound ∈ wsG := wsG_in (List.mem_of_getElem? (i := 16) (by decide +kernel)) (by decide +kernel)
theorem m_17 : Cond.selects RX1 y_O_arrange y_O_arrange ∈ wsG := wsG_in (List.mem_of_getElem? (i := 17) (by decide +kernel)) (by decide +kernel)
theorem m_18 : Cond.selects RX1 y_O_weigh y_O_weigh ∈ wsG := wsG_in (List.mem_of_getElem? (i := 18) (by decide +kernel)) (by decide +kernel)
theorem m_19 : Cond.selects RX1 y_O_sort y_O_sort ∈ wsG := wsG_in (List.mem_of_getElem? (i := 19) (by decide +kernel)) (by decide +kernel)
theorem m_20 : Cond.selects RX1 y_O_hasLesserKey y_O_hasLesserKey ∈ wsG := wsG_in (List.mem_of_getElem? (i := 20) (by decide +kernel)) (by decide +kernel)
theorem m_21 : Cond.selects RX1 y_O_takeBest y_O_takeBest ∈ wsG := wsG_in (List.mem_of_getElem? (i := 21) (by decide +kernel)) (by decide +kernel)
theorem m_25 : Cond.selects RX3 y_M_numbersOf y_M_numbersOf ∈ wsG := wsG_in (List.mem_of_getElem? (i := 25) (by decide +kernel)) (by decide +kernel)
theorem m_53 : Cond.initialized RX3 ∈ wsG := wsG_in (List.mem_of_getElem? (i := 53) (by decide +kernel)) (by decide +kernel)
theorem m_54 : Cond.initialized RX0 ∈ wsG := wsG_in (List.mem_of_getElem? (i := 54) (by decide +kernel)) (by decide +kernel)
theorem m_55 : Cond.initialized RX2 ∈ wsG := wsG_in (List.mem_of_getElem? (i := 55) (by decide +kernel)) (by decide +kernel)
theorem m_56 : Cond.initialized RX1 ∈ wsG := wsG_in (List.mem_of_getElem? (i := 56) (by decide +kernel)) (by decide +kernel)
theorem m_62 : Cond.initialized "java/lang/System" ∈ wsG := wsG_in (List.mem_of_getElem? (i := 62) (by decide +kernel)) (by decide +kernel)
theorem m_63 : Cond.initialized "java/lang/Math" ∈ wsG := wsG_in (List.mem_of_getElem? (i := 63) (by decide +kernel)) (by decide +kernel)
theorem m_81 : Cond.fieldLink RX0 9 "MatrixSheets$Dig" "leader" "[I" ∈ wsG := wsG_in (List.mem_of_getElem? (i := 81) (by decide +kernel)) (by decide +kernel)
theorem m_82 : Cond.fieldLink RX3 63 "MatrixSheets$Dig" "leader" "[I" ∈ wsG := wsG_in (List.mem_of_getElem? (i := 82) (by decide +kernel)) (by decide +kernel)
theorem m_83 : Cond.fieldLink RX0 15 "MatrixSheets$Dig" "groupPhase" "[I" ∈ wsG := wsG_in (List.mem_of_getElem? (i := 83) (by decide +kernel)) (by decide +kernel)
theorem m_84 : Cond.fieldLink RX0 18 "MatrixSheets$Dig" "directlyBelow" "[I" ∈ wsG := wsG_in (List.mem_of_getElem? (i := 84) (by decide +kernel)) (by decide +kernel)
theorem m_85 : Cond.fieldLink RX2 62 "MatrixSheets$Dig" "directlyBelow" "[I" ∈ wsG := wsG_in (List.mem_of_getElem? (i := 85) (by decide +kernel)) (by decide +kernel)
theorem m_86 : Cond.fieldLink RX2 30 "MatrixSheets$Dig" "there" "I" ∈ wsG := wsG_in (List.mem_of_getElem? (i := 86) (by decide +kernel)) (by decide +kernel)
theorem m_87 : Cond.fieldLink RX0 38 "MatrixSheets$Dig" "there" "I" ∈ wsG := wsG_in (List.mem_of_getElem? (i := 87) (by decide +kernel)) (by decide +kernel)
theorem m_88 : Cond.fieldLink RX3 135 "MatrixSheets$Dig" "there" "I" ∈ wsG := wsG_in (List.mem_of_getElem? (i := 88) (by decide +kernel)) (by decide +kernel)
theorem m_89 : Cond.fieldLink RX2 36 "MatrixSheets$Dig" "hidden" "I" ∈ wsG := wsG_in (List.mem_of_getElem? (i := 89) (by decide +kernel)) (by decide +kernel)
theorem m_90 : Cond.fieldLink RX0 57 "MatrixSheets$Dig" "hidden" "I" ∈ wsG := wsG_in (List.mem_of_getElem? (i := 90) (by decide +kernel)) (by decide +kernel)
theorem m_91 : Cond.fieldLink RX0 34 "MatrixSheets$Dig" "pairsTold" "I" ∈ wsG := wsG_in (List.mem_of_getElem? (i := 91) (by decide +kernel)) (by decide +kernel)
theorem m_92 : Cond.fieldLink RX3 138 "MatrixSheets$Dig" "pairsTold" "I" ∈ wsG := wsG_in (List.mem_of_getElem? (i := 92) (by decide +kernel)) (by decide +kernel)
theorem m_93 : Cond.fieldLink RX0 21 "MatrixSheets$Dig" "toldBelow" "[I" ∈ wsG := wsG_in (List.mem_of_getElem? (i := 93) (by decide +kernel)) (by decide +kernel)
theorem m_94 : Cond.fieldLink RX0 24 "MatrixSheets$Dig" "ownPhase" "[I" ∈ wsG := wsG_in (List.mem_of_getElem? (i := 94) (by decide +kernel)) (by decide +kernel)
theorem m_95 : Cond.fieldLink RX0 27 "MatrixSheets$Dig" "over" "[I" ∈ wsG := wsG_in (List.mem_of_getElem? (i := 95) (by decide +kernel)) (by decide +kernel)
theorem m_122 : Cond.fieldLink RX2 9 "MatrixSheets$Plan" "row" "[I" ∈ wsG := wsG_in (List.mem_of_getElem? (i := 122) (by decide +kernel)) (by decide +kernel)
theorem m_123 : Cond.fieldLink RX1 82 "MatrixSheets$Plan" "row" "[I" ∈ wsG := wsG_in (List.mem_of_getElem? (i := 123) (by decide +kernel)) (by decide +kernel)
theorem m_124 : Cond.fieldLink RX3 103 "MatrixSheets$Plan" "row" "[I" ∈ wsG := wsG_in (List.mem_of_getElem? (i := 124) (by decide +kernel)) (by decide +kernel)
theorem m_125 : Cond.fieldLink RX2 15 "MatrixSheets$Plan" "upper" "[I" ∈ wsG := wsG_in (List.mem_of_getElem? (i := 125) (by decide +kernel)) (by decide +kernel)
theorem m_126 : Cond.fieldLink RX1 92 "MatrixSheets$Plan" "upper" "[I" ∈ wsG := wsG_in (List.mem_of_getElem? (i := 126) (by decide +kernel)) (by decide +kernel)
theorem m_127 : Cond.fieldLink RX3 115 "MatrixSheets$Plan" "upper" "[I" ∈ wsG := wsG_in (List.mem_of_getElem? (i := 127) (by decide +kernel)) (by decide +kernel)
theorem m_128 : Cond.fieldLink RX2 18 "MatrixSheets$Plan" "lower" "[I" ∈ wsG := wsG_in (List.mem_of_getElem? (i := 128) (by decide +kernel)) (by decide +kernel)
theorem m_129 : Cond.fieldLink RX3 118 "MatrixSheets$Plan" "lower" "[I" ∈ wsG := wsG_in (List.mem_of_getElem? (i := 129) (by decide +kernel)) (by decide +kernel)
theorem m_130 : Cond.fieldLink RX2 43 "MatrixSheets$Plan" "drawn" "I" ∈ wsG := wsG_in (List.mem_of_getElem? (i := 130) (by decide +kernel)) (by decide +kernel)
theorem m_131 : Cond.fieldLink RX1 75 "MatrixSheets$Plan" "drawn" "I" ∈ wsG := wsG_in (List.mem_of_getElem? (i := 131) (by decide +kernel)) (by decide +kernel)
theorem m_132 : Cond.fieldLink RX3 96 "MatrixSheets$Plan" "drawn" "I" ∈ wsG := wsG_in (List.mem_of_getElem? (i := 132) (by decide +kernel)) (by decide +kernel)
theorem m_133 : Cond.fieldLink RX1 46 "MatrixSheets$Plan" "rowCount" "I" ∈ wsG := wsG_in (List.mem_of_getElem? (i := 133) (by decide +kernel)) (by decide +kernel)
theorem m_134 : Cond.fieldLink RX2 85 "MatrixSheets$Plan" "rowCount" "I" ∈ wsG := wsG_in (List.mem_of_getElem? (i := 134) (by decide +kernel)) (by decide +kernel)
theorem m_135 : Cond.fieldLink RX3 144 "MatrixSheets$Plan" "rowCount" "I" ∈ wsG := wsG_in (List.mem_of_getElem? (i := 135) (by decide +kernel)) (by decide +kernel)
theorem m_136 : Cond.fieldLink RX1 89 "MatrixSheets$Plan" "linkCount" "I" ∈ wsG := wsG_in (List.mem_of_getElem? (i := 136) (by decide +kernel)) (by decide +kernel)
theorem m_137 : Cond.fieldLink RX2 75 "MatrixSheets$Plan" "linkCount" "I" ∈ wsG := wsG_in (List.mem_of_getElem? (i := 137) (by decide +kernel)) (by decide +kernel)
theorem m_138 : Cond.fieldLink RX3 109 "MatrixSheets$Plan" "linkCount" "I" ∈ wsG := wsG_in (List.mem_of_getElem? (i := 138) (by decide +kernel)) (by decide +kernel)
theorem m_139 : Cond.fieldLink RX2 88 "MatrixSheets$Plan" "bendCount" "I" ∈ wsG := wsG_in (List.mem_of_getElem? (i := 139) (by decide +kernel)) (by decide +kernel)
theorem m_140 : Cond.fieldLink RX3 80 "MatrixSheets$Plan" "bendCount" "I" ∈ wsG := wsG_in (List.mem_of_getElem? (i := 140) (by decide +kernel)) (by decide +kernel)
theorem m_141 : Cond.fieldLink RX2 21 "MatrixSheets$Plan" "linkedBelow" "[I" ∈ wsG := wsG_in (List.mem_of_getElem? (i := 141) (by decide +kernel)) (by decide +kernel)
theorem m_142 : Cond.fieldLink RX2 24 "MatrixSheets$Plan" "forerunners" "[I" ∈ wsG := wsG_in (List.mem_of_getElem? (i := 142) (by decide +kernel)) (by decide +kernel)
theorem m_143 : Cond.fieldLink RX2 27 "MatrixSheets$Plan" "firstBend" "[I" ∈ wsG := wsG_in (List.mem_of_getElem? (i := 143) (by decide +kernel)) (by decide +kernel)
theorem m_171 : Cond.fieldLink RX1 9 "MatrixSheets$Order" "place" "[I" ∈ wsG := wsG_in (List.mem_of_getElem? (i := 171) (by decide +kernel)) (by decide +kernel)
theorem m_172 : Cond.fieldLink RX3 106 "MatrixSheets$Order" "place" "[I" ∈ wsG := wsG_in (List.mem_of_getElem? (i := 172) (by decide +kernel)) (by decide +kernel)
theorem m_173 : Cond.fieldLink RX1 15 "MatrixSheets$Order" "behindRound" "[I" ∈ wsG := wsG_in (List.mem_of_getElem? (i := 173) (by decide +kernel)) (by decide +kernel)
theorem m_174 : Cond.fieldLink RX3 93 "MatrixSheets$Order" "behindRound" "[I" ∈ wsG := wsG_in (List.mem_of_getElem? (i := 174) (by decide +kernel)) (by decide +kernel)
theorem m_175 : Cond.fieldLink RX1 42 "MatrixSheets$Order" "rounds" "I" ∈ wsG := wsG_in (List.mem_of_getElem? (i := 175) (by decide +kernel)) (by decide +kernel)
theorem m_176 : Cond.fieldLink RX3 90 "MatrixSheets$Order" "rounds" "I" ∈ wsG := wsG_in (List.mem_of_getElem? (i := 176) (by decide +kernel)) (by decide +kernel)
theorem m_177 : Cond.fieldLink RX1 18 "MatrixSheets$Order" "marks" "[I" ∈ wsG := wsG_in (List.mem_of_getElem? (i := 177) (by decide +kernel)) (by decide +kernel)
theorem m_178 : Cond.fieldLink RX1 21 "MatrixSheets$Order" "bestMarks" "[I" ∈ wsG := wsG_in (List.mem_of_getElem? (i := 178) (by decide +kernel)) (by decide +kernel)
theorem m_179 : Cond.fieldLink RX1 24 "MatrixSheets$Order" "rowStart" "[I" ∈ wsG := wsG_in (List.mem_of_getElem? (i := 179) (by decide +kernel)) (by decide +kernel)
theorem m_180 : Cond.fieldLink RX1 27 "MatrixSheets$Order" "pieceFrom" "[I" ∈ wsG := wsG_in (List.mem_of_getElem? (i := 180) (by decide +kernel)) (by decide +kernel)
theorem m_181 : Cond.fieldLink RX1 30 "MatrixSheets$Order" "pieceTo" "[I" ∈ wsG := wsG_in (List.mem_of_getElem? (i := 181) (by decide +kernel)) (by decide +kernel)
theorem m_182 : Cond.fieldLink RX1 33 "MatrixSheets$Order" "pieceStart" "[I" ∈ wsG := wsG_in (List.mem_of_getElem? (i := 182) (by decide +kernel)) (by decide +kernel)
theorem m_183 : Cond.fieldLink RX1 36 "MatrixSheets$Order" "placeSum" "[I" ∈ wsG := wsG_in (List.mem_of_getElem? (i := 183) (by decide +kernel)) (by decide +kernel)
theorem m_184 : Cond.fieldLink RX1 39 "MatrixSheets$Order" "placeShare" "[I" ∈ wsG := wsG_in (List.mem_of_getElem? (i := 184) (by decide +kernel)) (by decide +kernel)
theorem m_185 : Cond.fieldLink RX1 51 "MatrixSheets$Order" "rowCount" "I" ∈ wsG := wsG_in (List.mem_of_getElem? (i := 185) (by decide +kernel)) (by decide +kernel)
theorem m_186 : Cond.fieldLink RX1 72 "MatrixSheets$Order" "markCount" "I" ∈ wsG := wsG_in (List.mem_of_getElem? (i := 186) (by decide +kernel)) (by decide +kernel)
theorem m_187 : Cond.fieldLink RX1 107 "MatrixSheets$Order" "pieceCount" "I" ∈ wsG := wsG_in (List.mem_of_getElem? (i := 187) (by decide +kernel)) (by decide +kernel)
theorem m_217 : Cond.fieldLink RX3 12 "MatrixSheets" "dig" "LMatrixSheets$Dig;" ∈ wsG := wsG_in (List.mem_of_getElem? (i := 217) (by decide +kernel)) (by decide +kernel)
theorem m_218 : Cond.fieldLink RX3 19 "MatrixSheets" "plan" "LMatrixSheets$Plan;" ∈ wsG := wsG_in (List.mem_of_getElem? (i := 218) (by decide +kernel)) (by decide +kernel)
theorem m_219 : Cond.fieldLink RX3 26 "MatrixSheets" "order" "LMatrixSheets$Order;" ∈ wsG := wsG_in (List.mem_of_getElem? (i := 219) (by decide +kernel)) (by decide +kernel)
theorem m_220 : Cond.fieldLink RX3 30 "MatrixSheets" "sheetThere" "Z" ∈ wsG := wsG_in (List.mem_of_getElem? (i := 220) (by decide +kernel)) (by decide +kernel)
theorem m_317 : Cond.static y_M_has ∈ wsG := wsG_in (List.mem_of_getElem? (i := 317) (by decide +kernel)) (by decide +kernel)
theorem m_318 : Cond.code y_M_has c_M_has 2 (some .boolean) ∈ wsG := wsG_in (List.mem_of_getElem? (i := 318) (by decide +kernel)) (by decide +kernel)
theorem m_319 : Cond.methodLink RX0 41 y_D_settle ∈ wsG := wsG_in (List.mem_of_getElem? (i := 319) (by decide +kernel)) (by decide +kernel)
theorem m_321 : Cond.instanceMethod y_D_settle ∈ wsG := wsG_in (List.mem_of_getElem? (i := 321) (by decide +kernel)) (by decide +kernel)
theorem m_322 : Cond.code y_D_settle c_D_settle 2 none ∈ wsG := wsG_in (List.mem_of_getElem? (i := 322) (by decide +kernel)) (by decide +kernel)
theorem m_323 : Cond.methodLink RX0 63 y_D_leadersOf ∈ wsG := wsG_in (List.mem_of_getElem? (i := 323) (by decide +kernel)) (by decide +kernel)
theorem m_324 : Cond.instanceMethod y_D_leadersOf ∈ wsG := wsG_in (List.mem_of_getElem? (i := 324) (by decide +kernel)) (by decide +kernel)
theorem m_325 : Cond.selects RX0 y_D_leadersOf y_D_leadersOf ∈ wsG := wsG_in (List.mem_of_getElem? (i := 325) (by decide +kernel)) (by decide +kernel)
theorem m_326 : Cond.code y_D_leadersOf c_D_leadersOf 4 (some .int) ∈ wsG := wsG_in (List.mem_of_getElem? (i := 326) (by decide +kernel)) (by decide +kernel)
theorem m_327 : Cond.methodLink RX0 67 y_D_lowerGroupPhase ∈ wsG := wsG_in (List.mem_of_getElem? (i := 327) (by decide +kernel)) (by decide +kernel)
theorem m_329 : Cond.instanceMethod y_D_lowerGroupPhase ∈ wsG := wsG_in (List.mem_of_getElem? (i := 329) (by decide +kernel)) (by decide +kernel)
theorem m_330 : Cond.code y_D_lowerGroupPhase c_D_lowerGroupPhase 3 none ∈ wsG := wsG_in (List.mem_of_getElem? (i := 330) (by decide +kernel)) (by decide +kernel)
theorem m_331 : Cond.methodLink RX0 70 arraycopyName ∈ wsG := wsG_in (List.mem_of_getElem? (i := 331) (by decide +kernel)) (by decide +kernel)
theorem m_332 : Cond.static arraycopyName ∈ wsG := wsG_in (List.mem_of_getElem? (i := 332) (by decide +kernel)) (by decide +kernel)
theorem m_333 : Cond.native arraycopyName ∈ wsG := wsG_in (List.mem_of_getElem? (i := 333) (by decide +kernel)) (by decide +kernel)
theorem m_335 : Cond.static y_M_goOn ∈ wsG := wsG_in (List.mem_of_getElem? (i := 335) (by decide +kernel)) (by decide +kernel)
theorem m_336 : Cond.code y_M_goOn c_M_goOn 4 none ∈ wsG := wsG_in (List.mem_of_getElem? (i := 336) (by decide +kernel)) (by decide +kernel)
theorem m_337 : Cond.methodLink RX3 99 y_M_has ∈ wsG := wsG_in (List.mem_of_getElem? (i := 337) (by decide +kernel)) (by decide +kernel)
theorem m_353 : Cond.methodLink RX0 44 Lib.Math.min.name ∈ wsG := wsG_in (List.mem_of_getElem? (i := 353) (by decide +kernel)) (by decide +kernel)
theorem m_354 : Cond.static Lib.Math.min.name ∈ wsG := wsG_in (List.mem_of_getElem? (i := 354) (by decide +kernel)) (by decide +kernel)
theorem m_355 : Cond.code Lib.Math.min.name Lib.Math.min.code 2 (some .int) ∈ wsG := wsG_in (List.mem_of_getElem? (i := 355) (by decide +kernel)) (by decide +kernel)
theorem m_356 : Cond.methodLink RX0 50 Lib.Math.max.name ∈ wsG := wsG_in (List.mem_of_getElem? (i := 356) (by decide +kernel)) (by decide +kernel)
theorem m_357 : Cond.static Lib.Math.max.name ∈ wsG := wsG_in (List.mem_of_getElem? (i := 357) (by decide +kernel)) (by decide +kernel)
theorem m_358 : Cond.code Lib.Math.max.name Lib.Math.max.code 2 (some .int) ∈ wsG := wsG_in (List.mem_of_getElem? (i := 358) (by decide +kernel)) (by decide +kernel)
theorem m_359 : Cond.methodLink RX0 53 y_D_join ∈ wsG := wsG_in (List.mem_of_getElem? (i := 359) (by decide +kernel)) (by decide +kernel)
theorem m_361 : Cond.instanceMethod y_D_join ∈ wsG := wsG_in (List.mem_of_getElem? (i := 361) (by decide +kernel)) (by decide +kernel)
theorem m_362 : Cond.code y_D_join c_D_join 4 none ∈ wsG := wsG_in (List.mem_of_getElem? (i := 362) (by decide +kernel)) (by decide +kernel)
theorem m_420 : Cond.methodLink RX0 60 y_D_isLaterPhase ∈ wsG := wsG_in (List.mem_of_getElem? (i := 420) (by decide +kernel)) (by decide +kernel)
theorem m_421 : Cond.instanceMethod y_D_isLaterPhase ∈ wsG := wsG_in (List.mem_of_getElem? (i := 421) (by decide +kernel)) (by decide +kernel)
theorem m_422 : Cond.selects RX0 y_D_isLaterPhase y_D_isLaterPhase ∈ wsG := wsG_in (List.mem_of_getElem? (i := 422) (by decide +kernel)) (by decide +kernel)
theorem m_423 : Cond.code y_D_isLaterPhase c_D_isLaterPhase 3 (some .boolean) ∈ wsG := wsG_in (List.mem_of_getElem? (i := 423) (by decide +kernel)) (by decide +kernel)
theorem m_436 : Cond.methodLink RX2 39 y_D_leadersOf ∈ wsG := wsG_in (List.mem_of_getElem? (i := 436) (by decide +kernel)) (by decide +kernel)
theorem m_437 : Cond.methodLink RX2 46 y_P_findLinks ∈ wsG := wsG_in (List.mem_of_getElem? (i := 437) (by decide +kernel)) (by decide +kernel)
theorem m_439 : Cond.instanceMethod y_P_findLinks ∈ wsG := wsG_in (List.mem_of_getElem? (i := 439) (by decide +kernel)) (by decide +kernel)
theorem m_440 : Cond.code y_P_findLinks c_P_findLinks 5 none ∈ wsG := wsG_in (List.mem_of_getElem? (i := 440) (by decide +kernel)) (by decide +kernel)
theorem m_441 : Cond.methodLink RX2 65 arraycopyName ∈ wsG := wsG_in (List.mem_of_getElem? (i := 441) (by decide +kernel)) (by decide +kernel)
theorem m_444 : Cond.methodLink RX2 50 y_P_findForerunners ∈ wsG := wsG_in (List.mem_of_getElem? (i := 444) (by decide +kernel)) (by decide +kernel)
theorem m_446 : Cond.instanceMethod y_P_findForerunners ∈ wsG := wsG_in (List.mem_of_getElem? (i := 446) (by decide +kernel)) (by decide +kernel)
theorem m_447 : Cond.code y_P_findForerunners c_P_findForerunners 4 none ∈ wsG := wsG_in (List.mem_of_getElem? (i := 447) (by decide +kernel)) (by decide +kernel)
theorem m_448 : Cond.methodLink RX2 82 y_D_isLaterPhase ∈ wsG := wsG_in (List.mem_of_getElem? (i := 448) (by decide +kernel)) (by decide +kernel)
theorem m_449 : Cond.methodLink RX2 53 y_P_layRows ∈ wsG := wsG_in (List.mem_of_getElem? (i := 449) (by decide +kernel)) (by decide +kernel)
theorem m_451 : Cond.instanceMethod y_P_layRows ∈ wsG := wsG_in (List.mem_of_getElem? (i := 451) (by decide +kernel)) (by decide +kernel)
theorem m_452 : Cond.code y_P_layRows c_P_layRows 4 none ∈ wsG := wsG_in (List.mem_of_getElem? (i := 452) (by decide +kernel)) (by decide +kernel)
theorem m_453 : Cond.methodLink RX2 56 y_P_layBends ∈ wsG := wsG_in (List.mem_of_getElem? (i := 453) (by decide +kernel)) (by decide +kernel)
theorem m_455 : Cond.instanceMethod y_P_layBends ∈ wsG := wsG_in (List.mem_of_getElem? (i := 455) (by decide +kernel)) (by decide +kernel)
theorem m_456 : Cond.code y_P_layBends c_P_layBends 2 none ∈ wsG := wsG_in (List.mem_of_getElem? (i := 456) (by decide +kernel)) (by decide +kernel)
theorem m_457 : Cond.methodLink RX2 59 y_P_bendsOf ∈ wsG := wsG_in (List.mem_of_getElem? (i := 457) (by decide +kernel)) (by decide +kernel)
theorem m_458 : Cond.instanceMethod y_P_bendsOf ∈ wsG := wsG_in (List.mem_of_getElem? (i := 458) (by decide +kernel)) (by decide +kernel)
theorem m_459 : Cond.selects RX2 y_P_bendsOf y_P_bendsOf ∈ wsG := wsG_in (List.mem_of_getElem? (i := 459) (by decide +kernel)) (by decide +kernel)
theorem m_460 : Cond.code y_P_bendsOf c_P_bendsOf 2 (some .int) ∈ wsG := wsG_in (List.mem_of_getElem? (i := 460) (by decide +kernel)) (by decide +kernel)
theorem m_465 : Cond.methodLink RX1 52 y_O_layMarks ∈ wsG := wsG_in (List.mem_of_getElem? (i := 465) (by decide +kernel)) (by decide +kernel)
theorem m_467 : Cond.instanceMethod y_O_layMarks ∈ wsG := wsG_in (List.mem_of_getElem? (i := 467) (by decide +kernel)) (by decide +kernel)
theorem m_468 : Cond.code y_O_layMarks c_O_layMarks 5 none ∈ wsG := wsG_in (List.mem_of_getElem? (i := 468) (by decide +kernel)) (by decide +kernel)
theorem m_470 : Cond.methodLink RX1 85 y_O_layMark ∈ wsG := wsG_in (List.mem_of_getElem? (i := 470) (by decide +kernel)) (by decide +kernel)
theorem m_472 : Cond.instanceMethod y_O_layMark ∈ wsG := wsG_in (List.mem_of_getElem? (i := 472) (by decide +kernel)) (by decide +kernel)
theorem m_473 : Cond.code y_O_layMark c_O_layMark 2 none ∈ wsG := wsG_in (List.mem_of_getElem? (i := 473) (by decide +kernel)) (by decide +kernel)
theorem m_474 : Cond.methodLink RX1 95 y_P_bendsOf ∈ wsG := wsG_in (List.mem_of_getElem? (i := 474) (by decide +kernel)) (by decide +kernel)
theorem m_475 : Cond.methodLink RX1 99 y_P_pointOf ∈ wsG := wsG_in (List.mem_of_getElem? (i := 475) (by decide +kernel)) (by decide +kernel)
theorem m_476 : Cond.instanceMethod y_P_pointOf ∈ wsG := wsG_in (List.mem_of_getElem? (i := 476) (by decide +kernel)) (by decide +kernel)
theorem m_477 : Cond.selects RX2 y_P_pointOf y_P_pointOf ∈ wsG := wsG_in (List.mem_of_getElem? (i := 477) (by decide +kernel)) (by decide +kernel)
theorem m_478 : Cond.code y_P_pointOf c_P_pointOf 3 (some .int) ∈ wsG := wsG_in (List.mem_of_getElem? (i := 478) (by decide +kernel)) (by decide +kernel)
theorem m_479 : Cond.methodLink RX1 103 y_O_numberPlaces ∈ wsG := wsG_in (List.mem_of_getElem? (i := 479) (by decide +kernel)) (by decide +kernel)
theorem m_481 : Cond.instanceMethod y_O_numberPlaces ∈ wsG := wsG_in (List.mem_of_getElem? (i := 481) (by decide +kernel)) (by decide +kernel)
theorem m_482 : Cond.code y_O_numberPlaces c_O_numberPlaces 4 none ∈ wsG := wsG_in (List.mem_of_getElem? (i := 482) (by decide +kernel)) (by decide +kernel)
theorem m_483 : Cond.methodLink RX1 56 y_O_layPieces ∈ wsG := wsG_in (List.mem_of_getElem? (i := 483) (by decide +kernel)) (by decide +kernel)
theorem m_485 : Cond.instanceMethod y_O_layPieces ∈ wsG := wsG_in (List.mem_of_getElem? (i := 485) (by decide +kernel)) (by decide +kernel)
theorem m_486 : Cond.code y_O_layPieces c_O_layPieces 5 none ∈ wsG := wsG_in (List.mem_of_getElem? (i := 486) (by decide +kernel)) (by decide +kernel)
theorem m_487 : Cond.methodLink RX1 59 y_O_countCrossings ∈ wsG := wsG_in (List.mem_of_getElem? (i := 487) (by decide +kernel)) (by decide +kernel)
theorem m_489 : Cond.instanceMethod y_O_countCrossings ∈ wsG := wsG_in (List.mem_of_getElem? (i := 489) (by decide +kernel)) (by decide +kernel)
theorem m_490 : Cond.code y_O_countCrossings c_O_countCrossings 4 (some .int) ∈ wsG := wsG_in (List.mem_of_getElem? (i := 490) (by decide +kernel)) (by decide +kernel)
theorem m_491 : Cond.methodLink RX1 123 y_O_countCrossed ∈ wsG := wsG_in (List.mem_of_getElem? (i := 491) (by decide +kernel)) (by decide +kernel)
theorem m_493 : Cond.instanceMethod y_O_countCrossed ∈ wsG := wsG_in (List.mem_of_getElem? (i := 493) (by decide +kernel)) (by decide +kernel)
theorem m_494 : Cond.code y_O_countCrossed c_O_countCrossed 7 (some .int) ∈ wsG := wsG_in (List.mem_of_getElem? (i := 494) (by decide +kernel)) (by decide +kernel)
theorem m_495 : Cond.methodLink RX1 63 y_O_keepBest ∈ wsG := wsG_in (List.mem_of_getElem? (i := 495) (by decide +kernel)) (by decide +kernel)
theorem m_497 : Cond.instanceMethod y_O_keepBest ∈ wsG := wsG_in (List.mem_of_getElem? (i := 497) (by decide +kernel)) (by decide +kernel)
theorem m_498 : Cond.code y_O_keepBest c_O_keepBest 1 none ∈ wsG := wsG_in (List.mem_of_getElem? (i := 498) (by decide +kernel)) (by decide +kernel)
theorem m_499 : Cond.methodLink RX1 126 arraycopyName ∈ wsG := wsG_in (List.mem_of_getElem? (i := 499) (by decide +kernel)) (by decide +kernel)
theorem m_500 : Cond.methodLink RX1 66 y_O_runRound ∈ wsG := wsG_in (List.mem_of_getElem? (i := 500) (by decide +kernel)) (by decide +kernel)
theorem m_502 : Cond.instanceMethod y_O_runRound ∈ wsG := wsG_in (List.mem_of_getElem? (i := 502) (by decide +kernel)) (by decide +kernel)
theorem m_503 : Cond.code y_O_runRound c_O_runRound 2 none ∈ wsG := wsG_in (List.mem_of_getElem? (i := 503) (by decide +kernel)) (by decide +kernel)
theorem m_504 : Cond.methodLink RX1 110 y_O_arrange ∈ wsG := wsG_in (List.mem_of_getElem? (i := 504) (by decide +kernel)) (by decide +kernel)
theorem m_506 : Cond.instanceMethod y_O_arrange ∈ wsG := wsG_in (List.mem_of_getElem? (i := 506) (by decide +kernel)) (by decide +kernel)
theorem m_507 : Cond.code y_O_arrange c_O_arrange 5 none ∈ wsG := wsG_in (List.mem_of_getElem? (i := 507) (by decide +kernel)) (by decide +kernel)
theorem m_508 : Cond.methodLink RX1 114 y_O_weigh ∈ wsG := wsG_in (List.mem_of_getElem? (i := 508) (by decide +kernel)) (by decide +kernel)
theorem m_510 : Cond.instanceMethod y_O_weigh ∈ wsG := wsG_in (List.mem_of_getElem? (i := 510) (by decide +kernel)) (by decide +kernel)
theorem m_511 : Cond.code y_O_weigh c_O_weigh 6 none ∈ wsG := wsG_in (List.mem_of_getElem? (i := 511) (by decide +kernel)) (by decide +kernel)
theorem m_512 : Cond.methodLink RX1 117 y_O_sort ∈ wsG := wsG_in (List.mem_of_getElem? (i := 512) (by decide +kernel)) (by decide +kernel)
theorem m_514 : Cond.instanceMethod y_O_sort ∈ wsG := wsG_in (List.mem_of_getElem? (i := 514) (by decide +kernel)) (by decide +kernel)
theorem m_515 : Cond.code y_O_sort c_O_sort 6 none ∈ wsG := wsG_in (List.mem_of_getElem? (i := 515) (by decide +kernel)) (by decide +kernel)
theorem m_516 : Cond.methodLink RX1 120 y_O_hasLesserKey ∈ wsG := wsG_in (List.mem_of_getElem? (i := 516) (by decide +kernel)) (by decide +kernel)
theorem m_518 : Cond.instanceMethod y_O_hasLesserKey ∈ wsG := wsG_in (List.mem_of_getElem? (i := 518) (by decide +kernel)) (by decide +kernel)
theorem m_519 : Cond.code y_O_hasLesserKey c_O_hasLesserKey 3 (some .boolean) ∈ wsG := wsG_in (List.mem_of_getElem? (i := 519) (by decide +kernel)) (by decide +kernel)
theorem m_520 : Cond.methodLink RX1 69 y_O_takeBest ∈ wsG := wsG_in (List.mem_of_getElem? (i := 520) (by decide +kernel)) (by decide +kernel)
theorem m_522 : Cond.instanceMethod y_O_takeBest ∈ wsG := wsG_in (List.mem_of_getElem? (i := 522) (by decide +kernel)) (by decide +kernel)
theorem m_523 : Cond.code y_O_takeBest c_O_takeBest 2 none ∈ wsG := wsG_in (List.mem_of_getElem? (i := 523) (by decide +kernel)) (by decide +kernel)
theorem m_573 : Cond.methodLink RX3 112 y_P_bendsOf ∈ wsG := wsG_in (List.mem_of_getElem? (i := 573) (by decide +kernel)) (by decide +kernel)
theorem m_574 : Cond.methodLink RX3 121 y_P_pointOf ∈ wsG := wsG_in (List.mem_of_getElem? (i := 574) (by decide +kernel)) (by decide +kernel)
theorem m_592 : Cond.methodLink RX3 152 y_O_groupAt ∈ wsG := wsG_in (List.mem_of_getElem? (i := 592) (by decide +kernel)) (by decide +kernel)
theorem m_593 : Cond.instanceMethod y_O_groupAt ∈ wsG := wsG_in (List.mem_of_getElem? (i := 593) (by decide +kernel)) (by decide +kernel)
theorem m_594 : Cond.selects RX1 y_O_groupAt y_O_groupAt ∈ wsG := wsG_in (List.mem_of_getElem? (i := 594) (by decide +kernel)) (by decide +kernel)
theorem m_595 : Cond.code y_O_groupAt c_O_groupAt 4 (some .int) ∈ wsG := wsG_in (List.mem_of_getElem? (i := 595) (by decide +kernel)) (by decide +kernel)
theorem m_600 : Cond.methodLink RX3 155 y_M_numbersOf ∈ wsG := wsG_in (List.mem_of_getElem? (i := 600) (by decide +kernel)) (by decide +kernel)
theorem m_602 : Cond.instanceMethod y_M_numbersOf ∈ wsG := wsG_in (List.mem_of_getElem? (i := 602) (by decide +kernel)) (by decide +kernel)
theorem m_603 : Cond.code y_M_numbersOf c_M_numbersOf 2 (some .int) ∈ wsG := wsG_in (List.mem_of_getElem? (i := 603) (by decide +kernel)) (by decide +kernel)
theorem me_316 : Cond.methodLinkNest RX0 30 y_M_has "MatrixSheets" ∈ wsE := wsE_in (List.mem_of_getElem? (i := 316) (by decide +kernel)) (by decide +kernel)
theorem me_334 : Cond.methodLinkNest RX0 76 y_M_goOn "MatrixSheets" ∈ wsE := wsE_in (List.mem_of_getElem? (i := 334) (by decide +kernel)) (by decide +kernel)
theorem me_442 : Cond.methodLinkNest RX2 71 y_M_goOn "MatrixSheets" ∈ wsE := wsE_in (List.mem_of_getElem? (i := 442) (by decide +kernel)) (by decide +kernel)
theorem me_443 : Cond.methodLinkNest RX2 78 y_M_has "MatrixSheets" ∈ wsE := wsE_in (List.mem_of_getElem? (i := 443) (by decide +kernel)) (by decide +kernel)
theorem me_469 : Cond.methodLinkNest RX1 78 y_M_has "MatrixSheets" ∈ wsE := wsE_in (List.mem_of_getElem? (i := 469) (by decide +kernel)) (by decide +kernel)
end
section
def jbc (x : Int32) : Int32 := x
/-- MatrixSheets: private static void need(boolean) -/
def Sp_M_need (a0 : Int32) (σ : S0) (post : S0 → Prop) (px : Nat → S0 → Prop) : Prop :=
  ((¬ a0 = 0 →
    post σ) ∧
  (a0 = 0 →
    px 0 σ))
/-- MatrixSheets: private static void needContext(int) -/
def Sp_M_needContext (a0 : Int32) (σ : S0) (post : S0 → Prop) (px : Nat → S0 → Prop) : Prop :=
  ∀ G15 : Int32 → S0 → Prop,
  (∀ (t0 : Int32) (σ : S0),
    Sp_M_need t0 σ (fun (σ1 : S0) =>
    post σ1) px →
    G15 t0 σ) →
  ((a0 < 0 →
    G15 0 σ) ∧
  (¬ a0 < 0 →
    ((16 ≤ a0 →
      G15 0 σ) ∧
    (¬ 16 ≤ a0 →
      G15 1 σ))))
/-- MatrixSheets: private static boolean has(int, int) -/
def Sp_M_has (a0 a1 : Int32) (σ : S0) (post : Int32 → S0 → Prop) : Prop :=
  ((((a0 >>> (a1 &&& 31)) &&& 1) = 0 →
    post 0 σ) ∧
  (¬ ((a0 >>> (a1 &&& 31)) &&& 1) = 0 →
    post 1 σ))
/-- MatrixSheets$Dig: int leadersOf(int) -/
def Sp_D_leadersOf (a1 : Int32) (σ : S0) (post : Int32 → S0 → Prop) : Prop :=
  ∀ G4 : Int32 → Int32 → Int32 → S0 → Prop,
  (∀ (x1 x2 x3 : Int32) (σ : S0),
    ((16 ≤ x3 →
      post x2 σ) ∧
    (¬ 16 ≤ x3 →
      Sp_M_has x1 x3 σ (fun (r2 : Int32) (σ1 : S0) =>
      ((r2 = 0 →
        G4 x1 x2 (x3 + 1) σ1) ∧
      (¬ r2 = 0 →
        vp_in x3 16 ∧
        (∀ v3 : Int32, v3 = (x2 ||| (1 <<< ((σ1 4 x3.toNatClampNeg) &&& 31))) →
        G4 x1 v3 (x3 + 1) σ1)))))) →
    G4 x1 x2 x3 σ) →
  G4 a1 0 0 σ
/-- MatrixSheets: private static void goOn(int[], int) -/
def Sp_M_goOn_9 (a1 : Int32) (σ : S0) (post : S0 → Prop) : Prop :=
  ∀ G2 : Int32 → Int32 → S0 → Prop,
  ∀ G10 : Int32 → Int32 → Int32 → S0 → Prop,
  (∀ (x1 x2 : Int32) (σ : S0),
    ((16 ≤ x2 →
      post σ) ∧
    (¬ 16 ≤ x2 →
      G10 x1 x2 0 σ)) →
    G2 x1 x2 σ) →
  (∀ (x1 x2 x3 : Int32) (σ : S0),
    ((16 ≤ x3 →
      G2 x1 (x2 + 1) σ) ∧
    (¬ 16 ≤ x3 →
      Sp_M_has x1 x2 σ (fun (r2 : Int32) (σ1 : S0) =>
      ((r2 = 0 →
        G10 x1 x2 (x3 + 1) σ1) ∧
      (¬ r2 = 0 →
        vp_in x3 16 ∧
        Sp_M_has (σ1 9 x3.toNatClampNeg) x2 σ1 (fun (r4 : Int32) (σ3 : S0) =>
        ((r4 = 0 →
          G10 x1 x2 (x3 + 1) σ3) ∧
        (¬ r4 = 0 →
          vp_in x3 16 ∧
          vp_in x2 16 ∧
          vp_in x3 16 ∧
          (∀ σ5 : S0, σ5 = st σ3 9 x3.toNatClampNeg ((σ3 9 x3.toNatClampNeg) ||| (σ3 9 x2.toNatClampNeg)) →
          G10 x1 x2 (x3 + 1) σ5))))))))) →
    G10 x1 x2 x3 σ) →
  G2 a1 0 σ
/-- MatrixSheets$Dig: private void lowerGroupPhase(int, int) -/
def Sp_D_lowerGroupPhase (a1 a2 : Int32) (σ : S0) (post : S0 → Prop) : Prop :=
  ∀ G25 : Int32 → Int32 → S0 → Prop,
  (∀ (x1 x2 : Int32) (σ : S0),
    vp_in x1 16 ∧
    (∀ σ1 : S0, σ1 = st σ 5 x1.toNatClampNeg x2 →
    post σ1) →
    G25 x1 x2 σ) →
  ((a2 = (-1) →
    post σ) ∧
  (¬ a2 = (-1) →
    vp_in a1 16 ∧
    (((σ 5 a1.toNatClampNeg) = (-1) →
      G25 a1 a2 σ) ∧
    (¬ (σ 5 a1.toNatClampNeg) = (-1) →
      vp_in a1 16 ∧
      (((σ 5 a1.toNatClampNeg) ≤ a2 →
        post σ) ∧
      (¬ (σ 5 a1.toNatClampNeg) ≤ a2 →
        G25 a1 a2 σ))))))
/-- MatrixSheets$Dig: private void settle() -/
def Sp_D_settle (σ : S0) (post : S0 → Prop) : Prop :=
  ∀ G2 : Int32 → S0 → Prop,
  ∀ G30 : Int32 → S0 → Prop,
  (∀ (x1 : Int32) (σ : S0),
    ((16 ≤ x1 →
      G30 0 σ) ∧
    (¬ 16 ≤ x1 →
      vp_in x1 16 ∧
      (∀ σ1 : S0, σ1 = st σ 6 x1.toNatClampNeg 0 →
      vp_in x1 16 ∧
      (∀ σ2 : S0, σ2 = st σ1 5 x1.toNatClampNeg (-1) →
      G2 (x1 + 1) σ2)))) →
    G2 x1 σ) →
  (∀ (x1 : Int32) (σ : S0),
    ((16 ≤ x1 →
      cpok 16 16 16 ∧
      (∀ σ3 : S0, σ3 = cp σ 6 9 (16 : Int32).toNatClampNeg →
      Sp_D_leadersOf (σ3 0 1) σ3 (fun (r5 : Int32) (σ4 : S0) =>
      Sp_M_goOn_9 r5 σ4 (fun (σ6 : S0) =>
      post σ6)))) ∧
    (¬ 16 ≤ x1 →
      vp_in x1 16 ∧
      vp_in (σ 4 x1.toNatClampNeg) 16 ∧
      vp_in x1 16 ∧
      Sp_D_leadersOf (σ 7 x1.toNatClampNeg) σ (fun (r8 : Int32) (σ7 : S0) =>
      vp_in (σ 4 x1.toNatClampNeg) 16 ∧
      (∀ σ9 : S0, σ9 = st σ7 6 (σ 4 x1.toNatClampNeg).toNatClampNeg ((σ 6 (σ 4 x1.toNatClampNeg).toNatClampNeg) ||| r8) →
      vp_in x1 16 ∧
      vp_in x1 16 ∧
      Sp_D_lowerGroupPhase (σ9 4 x1.toNatClampNeg) (σ9 8 x1.toNatClampNeg) σ9 (fun (σ10 : S0) =>
      G30 (x1 + 1) σ10))))) →
    G30 x1 σ) →
  G2 0 σ
/-- MatrixSheets$Dig: int tellAbove(int, int) -/
def Sp_D_tellAbove (a1 a2 : Int32) (σ : S0) (post : Int32 → S0 → Prop) : Prop :=
  vp_in a1 16 ∧
  Sp_M_has (σ 7 a1.toNatClampNeg) a2 σ (fun (r2 : Int32) (σ1 : S0) =>
  ((r2 = 0 →
    vp_in a1 16 ∧
    vp_in a2 16 ∧
    (((σ1 4 a1.toNatClampNeg) = (σ1 4 a2.toNatClampNeg) →
      post (-1) σ1) ∧
    (¬ (σ1 4 a1.toNatClampNeg) = (σ1 4 a2.toNatClampNeg) →
      vp_in a2 16 ∧
      vp_in (σ1 4 a2.toNatClampNeg) 16 ∧
      vp_in a1 16 ∧
      Sp_M_has (σ1 9 (σ1 4 a2.toNatClampNeg).toNatClampNeg) (σ1 4 a1.toNatClampNeg) σ1 (fun (r4 : Int32) (σ3 : S0) =>
      ((r4 = 0 →
        vp_in a1 16 ∧
        vp_in a1 16 ∧
        (∀ σ5 : S0, σ5 = st σ3 7 a1.toNatClampNeg ((σ3 7 a1.toNatClampNeg) ||| (1 <<< (a2 &&& 31))) →
        (∀ σ6 : S0, σ6 = st σ5 0 3 ((σ5 0 3) + 1) →
        (∀ σ7 : S0, σ7 = st σ6 0 1 ((σ6 0 1) ||| ((1 <<< (a1 &&& 31)) ||| (1 <<< (a2 &&& 31)))) →
        Sp_D_settle σ7 (fun (σ8 : S0) =>
        post 1 σ8))))) ∧
      (¬ r4 = 0 →
        post (-1) σ3)))))) ∧
  (¬ r2 = 0 →
    post 0 σ1)))
/-- MatrixSheets: private int changed(int) -/
def Sp_M_changed (a1 : Int32) (σ : S0) (post : Int32 → S0 → Prop) : Prop :=
  ((¬ a1 = 1 →
    post a1 σ) ∧
  (a1 = 1 →
    (∀ σ1 : S0, σ1 = st σ 0 0 0 →
    post a1 σ1)))
/-- MatrixSheets: public int above(int, int) -/
def Sp_M_above (a1 a2 : Int32) (σ : S0) (post : Int32 → S0 → Prop) (px : Nat → S0 → Prop) : Prop :=
  Sp_M_needContext a1 σ (fun (σ1 : S0) =>
  Sp_M_needContext a2 σ1 (fun (σ2 : S0) =>
  Sp_D_tellAbove a1 a2 σ2 (fun (r4 : Int32) (σ3 : S0) =>
  Sp_M_changed r4 σ3 (fun (r6 : Int32) (σ5 : S0) =>
  post r6 σ5))) px) px
/-- MatrixSheets$Dig: private void join(int, int) -/
def Sp_D_join (a1 a2 : Int32) (σ : S0) (post : S0 → Prop) : Prop :=
  ∀ G2 : Int32 → Int32 → Int32 → S0 → Prop,
  (∀ (x1 x2 x3 : Int32) (σ : S0),
    ((16 ≤ x3 →
      post σ) ∧
    (¬ 16 ≤ x3 →
      vp_in x3 16 ∧
      ((¬ (σ 4 x3.toNatClampNeg) = x2 →
        G2 x1 x2 (x3 + 1) σ) ∧
      ((σ 4 x3.toNatClampNeg) = x2 →
        vp_in x3 16 ∧
        (∀ σ1 : S0, σ1 = st σ 4 x3.toNatClampNeg x1 →
        G2 x1 x2 (x3 + 1) σ1))))) →
    G2 x1 x2 x3 σ) →
  G2 a1 a2 0 σ
/-- MatrixSheets$Dig: int tellSame(int, int) -/
def Sp_D_tellSame (a1 a2 : Int32) (σ : S0) (post : Int32 → S0 → Prop) : Prop :=
  vp_in a1 16 ∧
  (∀ v1 : Int32, v1 = (σ 4 a1.toNatClampNeg) →
  vp_in a2 16 ∧
  (∀ v2 : Int32, v2 = (σ 4 a2.toNatClampNeg) →
  ((¬ v1 = v2 →
    vp_in v1 16 ∧
    Sp_M_has (σ 9 v1.toNatClampNeg) v2 σ (fun (r4 : Int32) (σ3 : S0) =>
    ((¬ r4 = 0 →
      post (-1) σ3) ∧
    (r4 = 0 →
      vp_in v2 16 ∧
      Sp_M_has (σ3 9 v2.toNatClampNeg) v1 σ3 (fun (r6 : Int32) (σ5 : S0) =>
      ((r6 = 0 →
        Sp_D_join (jmin v1 v2) (jmax v1 v2) σ5 (fun (σ7 : S0) =>
        (∀ σ8 : S0, σ8 = st σ7 0 1 ((σ7 0 1) ||| ((1 <<< (a1 &&& 31)) ||| (1 <<< (a2 &&& 31)))) →
        Sp_D_settle σ8 (fun (σ9 : S0) =>
        post 1 σ9)))) ∧
      (¬ r6 = 0 →
        post (-1) σ5))))))) ∧
  (v1 = v2 →
    post 0 σ))))
/-- MatrixSheets: public int same(int, int) -/
def Sp_M_same (a1 a2 : Int32) (σ : S0) (post : Int32 → S0 → Prop) (px : Nat → S0 → Prop) : Prop :=
  Sp_M_needContext a1 σ (fun (σ1 : S0) =>
  Sp_M_needContext a2 σ1 (fun (σ2 : S0) =>
  Sp_D_tellSame a1 a2 σ2 (fun (r4 : Int32) (σ3 : S0) =>
  Sp_M_changed r4 σ3 (fun (r6 : Int32) (σ5 : S0) =>
  post r6 σ5))) px) px
/-- MatrixSheets$Dig: int tellPhase(int, int) -/
def Sp_D_tellPhase (a1 a2 : Int32) (σ : S0) (post : Int32 → S0 → Prop) : Prop :=
  vp_in a1 16 ∧
  (∀ v1 : Int32, v1 = (σ 8 a1.toNatClampNeg) →
  vp_in a1 16 ∧
  (∀ σ2 : S0, σ2 = st σ 8 a1.toNatClampNeg a2 →
  (∀ σ3 : S0, σ3 = st σ2 0 1 ((σ2 0 1) ||| (1 <<< (a1 &&& 31))) →
  Sp_D_settle σ3 (fun (σ4 : S0) =>
  post v1 σ4))))
/-- MatrixSheets: public int phase(int, int) -/
def Sp_M_phase (a1 a2 : Int32) (σ : S0) (post : Int32 → S0 → Prop) (px : Nat → S0 → Prop) : Prop :=
  ∀ G19 : S0 → Prop,
  ∀ G29 : Int32 → Int32 → S0 → Prop,
  (∀ (σ : S0),
    px 2 σ →
    G19  σ) →
  (∀ (x1 x2 : Int32) (σ : S0),
    (∀ σ2 : S0, σ2 = st σ 0 0 0 →
    Sp_D_tellPhase x1 x2 σ2 (fun (r4 : Int32) (σ3 : S0) =>
    post r4 σ3)) →
    G29 x1 x2 σ) →
  Sp_M_needContext a1 σ (fun (σ1 : S0) =>
  ((a2 = (-1) →
    G29 a1 a2 σ1) ∧
  (¬ a2 = (-1) →
    ((a2 < 0 →
      G19  σ1) ∧
    (¬ a2 < 0 →
      ((a2 < 6 →
        G29 a1 a2 σ1) ∧
      (¬ a2 < 6 →
        G19  σ1))))))) px
/-- MatrixSheets$Dig: boolean tellHidden(int, boolean) -/
def Sp_D_tellHidden (a1 a2 : Int32) (σ : S0) (post : Int32 → S0 → Prop) : Prop :=
  Sp_M_has (σ 0 2) a1 σ (fun (r2 : Int32) (σ1 : S0) =>
  ((¬ r2 = a2 →
    (∀ σ3 : S0, σ3 = st σ1 0 2 ((σ1 0 2) ^^^ (1 <<< (a1 &&& 31))) →
    (∀ σ4 : S0, σ4 = st σ3 0 1 ((σ3 0 1) ||| (1 <<< (a1 &&& 31))) →
    post 1 σ4))) ∧
  (r2 = a2 →
    post 0 σ1)))
/-- MatrixSheets: public boolean hide(int, boolean) -/
def Sp_M_hide (a1 a2 : Int32) (σ : S0) (post : Int32 → S0 → Prop) (px : Nat → S0 → Prop) : Prop :=
  Sp_M_needContext a1 σ (fun (σ1 : S0) =>
  (∀ σ2 : S0, σ2 = st σ1 0 0 0 →
  Sp_D_tellHidden a1 a2 σ2 (fun (r4 : Int32) (σ3 : S0) =>
  bo r4 ∧
  post r4 σ3))) px
/-- MatrixSheets: public int group(int) -/
def Sp_M_group (a1 : Int32) (σ : S0) (post : Int32 → S0 → Prop) (px : Nat → S0 → Prop) : Prop :=
  Sp_M_needContext a1 σ (fun (σ1 : S0) =>
  vp_in a1 16 ∧
  post (σ1 4 a1.toNatClampNeg) σ1) px
/-- MatrixSheets$Dig: boolean isLaterPhase(int, int) -/
def Sp_D_isLaterPhase (a1 a2 : Int32) (σ : S0) (post : Int32 → S0 → Prop) : Prop :=
  vp_in a2 16 ∧
  (((σ 5 a2.toNatClampNeg) = (-1) →
    post 0 σ) ∧
  (¬ (σ 5 a2.toNatClampNeg) = (-1) →
    vp_in a1 16 ∧
    vp_in a2 16 ∧
    (((σ 5 a1.toNatClampNeg) ≤ (σ 5 a2.toNatClampNeg) →
      post 0 σ) ∧
    (¬ (σ 5 a1.toNatClampNeg) ≤ (σ 5 a2.toNatClampNeg) →
      post 1 σ))))
/-- MatrixSheets$Dig: int findMisfit(int) -/
def Sp_D_findMisfit (a1 : Int32) (σ : S0) (post : Int32 → S0 → Prop) : Prop :=
  ∀ G4 : Int32 → Int32 → S0 → Prop,
  ∀ G13 : Int32 → Int32 → Int32 → S0 → Prop,
  (∀ (x2 x3 : Int32) (σ : S0),
    ((16 ≤ x3 →
      post (-1) σ) ∧
    (¬ 16 ≤ x3 →
      G13 x2 x3 0 σ)) →
    G4 x2 x3 σ) →
  (∀ (x2 x3 x4 : Int32) (σ : S0),
    ((16 ≤ x4 →
      G4 x2 (x3 + 1) σ) ∧
    (¬ 16 ≤ x4 →
      vp_in x3 16 ∧
      Sp_M_has (σ 9 x3.toNatClampNeg) x4 σ (fun (r2 : Int32) (σ1 : S0) =>
      ((r2 = 0 →
        G13 x2 x3 (x4 + 1) σ1) ∧
      (¬ r2 = 0 →
        Sp_D_isLaterPhase x3 x4 σ1 (fun (r4 : Int32) (σ3 : S0) =>
        ((r4 = 0 →
          G13 x2 x3 (x4 + 1) σ3) ∧
        (¬ r4 = 0 →
          ((¬ x2 = 0 →
            G13 (x2 + (-1)) x3 (x4 + 1) σ3) ∧
          (x2 = 0 →
            post ((16 * x3) + x4) σ3)))))))))) →
    G13 x2 x3 x4 σ) →
  G4 a1 0 σ
/-- MatrixSheets: public int misfit(int, int) -/
def Sp_M_misfit (a1 a2 : Int32) (σ : S0) (post : Int32 → S0 → Prop) (px : Nat → S0 → Prop) : Prop :=
  ∀ G18 : Int32 → Int32 → Int32 → S0 → Prop,
  (∀ (x1 x2 t0 : Int32) (σ : S0),
    Sp_M_need t0 σ (fun (σ1 : S0) =>
    Sp_D_findMisfit x1 σ1 (fun (r3 : Int32) (σ2 : S0) =>
    ((¬ r3 = (-1) →
      ((¬ x2 = 0 →
        post (r3 - r3 / 16 * 16) σ2) ∧
      (x2 = 0 →
        post (r3 / 16) σ2))) ∧
    (r3 = (-1) →
      post (-1) σ2)))) px →
    G18 x1 x2 t0 σ) →
  ((a1 < 0 →
    G18 a1 a2 0 σ) ∧
  (¬ a1 < 0 →
    ((a2 = 0 →
      G18 a1 a2 1 σ) ∧
    (¬ a2 = 0 →
      ((¬ a2 = 1 →
        G18 a1 a2 0 σ) ∧
      (a2 = 1 →
        G18 a1 a2 1 σ))))))
/-- MatrixSheets: private static void goOn(int[], int) -/
def Sp_M_goOn_13 (a1 : Int32) (σ : S0) (post : S0 → Prop) : Prop :=
  ∀ G2 : Int32 → Int32 → S0 → Prop,
  ∀ G10 : Int32 → Int32 → Int32 → S0 → Prop,
  (∀ (x1 x2 : Int32) (σ : S0),
    ((16 ≤ x2 →
      post σ) ∧
    (¬ 16 ≤ x2 →
      G10 x1 x2 0 σ)) →
    G2 x1 x2 σ) →
  (∀ (x1 x2 x3 : Int32) (σ : S0),
    ((16 ≤ x3 →
      G2 x1 (x2 + 1) σ) ∧
    (¬ 16 ≤ x3 →
      Sp_M_has x1 x2 σ (fun (r2 : Int32) (σ1 : S0) =>
      ((r2 = 0 →
        G10 x1 x2 (x3 + 1) σ1) ∧
      (¬ r2 = 0 →
        vp_in x3 16 ∧
        Sp_M_has (σ1 13 x3.toNatClampNeg) x2 σ1 (fun (r4 : Int32) (σ3 : S0) =>
        ((r4 = 0 →
          G10 x1 x2 (x3 + 1) σ3) ∧
        (¬ r4 = 0 →
          vp_in x3 16 ∧
          vp_in x2 16 ∧
          vp_in x3 16 ∧
          (∀ σ5 : S0, σ5 = st σ3 13 x3.toNatClampNeg ((σ3 13 x3.toNatClampNeg) ||| (σ3 13 x2.toNatClampNeg)) →
          G10 x1 x2 (x3 + 1) σ5))))))))) →
    G10 x1 x2 x3 σ) →
  G2 a1 0 σ
/-- MatrixSheets$Plan: private void findLinks(MatrixSheets$Dig) -/
def Sp_P_findLinks (σ : S0) (post : S0 → Prop) : Prop :=
  ∀ G46 : Int32 → S0 → Prop,
  ∀ G55 : Int32 → Int32 → S0 → Prop,
  (∀ (x3 : Int32) (σ : S0),
    ((16 ≤ x3 →
      post σ) ∧
    (¬ 16 ≤ x3 →
      G55 x3 0 σ)) →
    G46 x3 σ) →
  (∀ (x3 x4 : Int32) (σ : S0),
    ((16 ≤ x4 →
      G46 (x3 + 1) σ) ∧
    (¬ 16 ≤ x4 →
      Sp_M_has (σ 0 4) x3 σ (fun (r8 : Int32) (σ7 : S0) =>
      ((r8 = 0 →
        G55 x3 (x4 + 1) σ7) ∧
      (¬ r8 = 0 →
        vp_in x3 16 ∧
        Sp_M_has ((σ7 13 x3.toNatClampNeg) &&& (σ7 0 4)) x4 σ7 (fun (r10 : Int32) (σ9 : S0) =>
        ((r10 = 0 →
          G55 x3 (x4 + 1) σ9) ∧
        (¬ r10 = 0 →
          vp_in (σ9 0 6) 256 ∧
          (∀ σ11 : S0, σ11 = st σ9 11 (σ9 0 6).toNatClampNeg x3 →
          vp_in (σ11 0 6) 256 ∧
          (∀ σ12 : S0, σ12 = st σ11 12 (σ11 0 6).toNatClampNeg x4 →
          (∀ σ13 : S0, σ13 = st σ12 0 6 ((σ12 0 6) + 1) →
          G55 x3 (x4 + 1) σ13))))))))))) →
    G55 x3 x4 σ) →
  Sp_D_leadersOf (σ 0 1) σ (fun (r2 : Int32) (σ1 : S0) =>
  (∀ v3 : Int32, v3 = (r2 &&& ((σ1 0 4) ^^^ (-1))) →
  cpok 16 16 16 ∧
  (∀ σ4 : S0, σ4 = cp σ1 6 13 (16 : Int32).toNatClampNeg →
  Sp_M_goOn_13 v3 σ4 (fun (σ5 : S0) =>
  (∀ σ6 : S0, σ6 = st σ5 0 6 0 →
  G46 0 σ6)))))
/-- MatrixSheets$Plan: private void findForerunners(MatrixSheets$Dig) -/
def Sp_P_findForerunners (σ : S0) (post : S0 → Prop) : Prop :=
  ∀ G2 : Int32 → S0 → Prop,
  ∀ G17 : Int32 → Int32 → S0 → Prop,
  ∀ G56 : Int32 → Int32 → S0 → Prop,
  (∀ (x2 : Int32) (σ : S0),
    ((16 ≤ x2 →
      post σ) ∧
    (¬ 16 ≤ x2 →
      vp_in x2 16 ∧
      (∀ σ1 : S0, σ1 = st σ 14 x2.toNatClampNeg 0 →
      G17 x2 0 σ1))) →
    G2 x2 σ) →
  (∀ (x2 x3 : Int32) (σ : S0),
    ((16 ≤ x3 →
      G2 (x2 + 1) σ) ∧
    (¬ 16 ≤ x3 →
      Sp_M_has (σ 0 4) x3 σ (fun (r3 : Int32) (σ2 : S0) =>
      ((r3 = 0 →
        G17 x2 (x3 + 1) σ2) ∧
      (¬ r3 = 0 →
        vp_in x3 16 ∧
        Sp_M_has (σ2 13 x3.toNatClampNeg) x2 σ2 (fun (r5 : Int32) (σ4 : S0) =>
        ((¬ r5 = 0 →
          G56 x2 x3 σ4) ∧
        (r5 = 0 →
          Sp_D_isLaterPhase x2 x3 σ4 (fun (r7 : Int32) (σ6 : S0) =>
          ((r7 = 0 →
            G17 x2 (x3 + 1) σ6) ∧
          (¬ r7 = 0 →
            G56 x2 x3 σ6))))))))))) →
    G17 x2 x3 σ) →
  (∀ (x2 x3 : Int32) (σ : S0),
    vp_in x2 16 ∧
    vp_in x2 16 ∧
    (∀ σ8 : S0, σ8 = st σ 14 x2.toNatClampNeg ((σ 14 x2.toNatClampNeg) ||| (1 <<< (x3 &&& 31))) →
    G17 x2 (x3 + 1) σ8) →
    G56 x2 x3 σ) →
  G2 0 σ
/-- MatrixSheets$Plan: private void layRows() -/
def Sp_P_layRows (σ : S0) (post : S0 → Prop) : Prop :=
  ∀ G7 : Int32 → S0 → Prop,
  ∀ G28 : Int32 → Int32 → Int32 → S0 → Prop,
  (∀ (x1 : Int32) (σ : S0),
    ((x1 = (σ 0 4) →
      post σ) ∧
    (¬ x1 = (σ 0 4) →
      ((16 ≤ (σ 0 5) →
        post σ) ∧
      (¬ 16 ≤ (σ 0 5) →
        G28 x1 0 0 σ)))) →
    G7 x1 σ) →
  (∀ (x1 x2 x3 : Int32) (σ : S0),
    ((16 ≤ x3 →
      (∀ v2 : Int32, v2 = (x1 ||| x2) →
      (∀ σ3 : S0, σ3 = st σ 0 5 ((σ 0 5) + 1) →
      G7 v2 σ3))) ∧
    (¬ 16 ≤ x3 →
      Sp_M_has ((σ 0 4) &&& (x1 ^^^ (-1))) x3 σ (fun (r5 : Int32) (σ4 : S0) =>
      ((r5 = 0 →
        G28 x1 x2 (x3 + 1) σ4) ∧
      (¬ r5 = 0 →
        vp_in x3 16 ∧
        ((¬ ((σ4 14 x3.toNatClampNeg) &&& (x1 ^^^ (-1))) = 0 →
          G28 x1 x2 (x3 + 1) σ4) ∧
        (((σ4 14 x3.toNatClampNeg) &&& (x1 ^^^ (-1))) = 0 →
          vp_in x3 16 ∧
          (∀ σ6 : S0, σ6 = st σ4 10 x3.toNatClampNeg (σ4 0 5) →
          (∀ v7 : Int32, v7 = (x2 ||| (1 <<< (x3 &&& 31))) →
          G28 x1 v7 (x3 + 1) σ6))))))))) →
    G28 x1 x2 x3 σ) →
  (∀ σ1 : S0, σ1 = st σ 0 5 0 →
  G7 0 σ1)
/-- MatrixSheets$Plan: int bendsOf(int) -/
def Sp_P_bendsOf (a1 : Int32) (σ : S0) (post : Int32 → S0 → Prop) : Prop :=
  vp_in a1 256 ∧
  vp_in (σ 12 a1.toNatClampNeg) 16 ∧
  vp_in a1 256 ∧
  vp_in (σ 11 a1.toNatClampNeg) 16 ∧
  post (((σ 10 (σ 12 a1.toNatClampNeg).toNatClampNeg) - (σ 10 (σ 11 a1.toNatClampNeg).toNatClampNeg)) - 1) σ
/-- MatrixSheets$Plan: private void layBends() -/
def Sp_P_layBends (σ : S0) (post : S0 → Prop) : Prop :=
  ∀ G7 : Int32 → S0 → Prop,
  (∀ (x1 : Int32) (σ : S0),
    (((σ 0 6) ≤ x1 →
      post σ) ∧
    (¬ (σ 0 6) ≤ x1 →
      vp_in x1 256 ∧
      (∀ σ2 : S0, σ2 = st σ 15 x1.toNatClampNeg (σ 0 7) →
      Sp_P_bendsOf x1 σ2 (fun (r4 : Int32) (σ3 : S0) =>
      (∀ σ5 : S0, σ5 = st σ3 0 7 ((σ2 0 7) + r4) →
      G7 (x1 + 1) σ5))))) →
    G7 x1 σ) →
  (∀ σ1 : S0, σ1 = st σ 0 7 0 →
  G7 0 σ1)
/-- MatrixSheets$Plan: void make(MatrixSheets$Dig) -/
def Sp_P_make (σ : S0) (post : S0 → Prop) : Prop :=
  Sp_D_leadersOf ((σ 0 1) &&& ((σ 0 2) ^^^ (-1))) σ (fun (r2 : Int32) (σ1 : S0) =>
  (∀ σ3 : S0, σ3 = st σ1 0 4 r2 →
  Sp_P_findLinks σ3 (fun (σ4 : S0) =>
  Sp_P_findForerunners σ4 (fun (σ5 : S0) =>
  Sp_P_layRows σ5 (fun (σ6 : S0) =>
  Sp_P_layBends σ6 (fun (σ7 : S0) =>
  post σ7))))))
/-- MatrixSheets$Order: private void layMark(int) -/
def Sp_O_layMark (a1 : Int32) (σ : S0) (post : S0 → Prop) : Prop :=
  vp_in (σ 0 10) 166 ∧
  (∀ σ1 : S0, σ1 = st σ 18 (σ 0 10).toNatClampNeg a1 →
  (∀ σ2 : S0, σ2 = st σ1 0 10 ((σ1 0 10) + 1) →
  post σ2))
/-- MatrixSheets$Order: private void numberPlaces(int, int) -/
def Sp_O_numberPlaces (a1 a2 : Int32) (σ : S0) (post : S0 → Prop) : Prop :=
  ∀ G7 : Int32 → Int32 → Int32 → S0 → Prop,
  (∀ (x1 x2 x3 : Int32) (σ : S0),
    ((x2 ≤ x3 →
      post σ) ∧
    (¬ x2 ≤ x3 →
      vp_in x3 166 ∧
      vp_in x1 17 ∧
      vp_in (σ 18 x3.toNatClampNeg) 166 ∧
      (∀ σ2 : S0, σ2 = st σ 16 (σ 18 x3.toNatClampNeg).toNatClampNeg (x3 - (σ 20 x1.toNatClampNeg)) →
      G7 x1 x2 (x3 + 1) σ2))) →
    G7 x1 x2 x3 σ) →
  vp_in a1 17 ∧
  (∀ v1 : Int32, v1 = (σ 20 a1.toNatClampNeg) →
  G7 a1 a2 v1 σ)
/-- MatrixSheets$Plan: int pointOf(int, int) -/
def Sp_P_pointOf (a1 a2 : Int32) (σ : S0) (post : Int32 → S0 → Prop) : Prop :=
  ((0 < a2 →
    Sp_P_bendsOf a1 σ (fun (r2 : Int32) (σ1 : S0) =>
    ((a2 ≤ r2 →
      vp_in a1 256 ∧
      post (((16 + (σ1 15 a1.toNatClampNeg)) + a2) - 1) σ1) ∧
    (¬ a2 ≤ r2 →
      vp_in a1 256 ∧
      post (σ1 12 a1.toNatClampNeg) σ1)))) ∧
  (¬ 0 < a2 →
    vp_in a1 256 ∧
    post (σ 11 a1.toNatClampNeg) σ))
/-- MatrixSheets$Order: private void layMarks(MatrixSheets$Plan) -/
def Sp_O_layMarks (σ : S0) (post : S0 → Prop) : Prop :=
  ∀ G7 : Int32 → S0 → Prop,
  ∀ G27 : Int32 → Int32 → S0 → Prop,
  ∀ G67 : Int32 → Int32 → S0 → Prop,
  (∀ (x2 : Int32) (σ : S0),
    (((σ 0 9) ≤ x2 →
      vp_in (σ 0 9) 17 ∧
      (∀ σ2 : S0, σ2 = st σ 20 (σ 0 9).toNatClampNeg (σ 0 10) →
      post σ2)) ∧
    (¬ (σ 0 9) ≤ x2 →
      vp_in x2 17 ∧
      (∀ σ3 : S0, σ3 = st σ 20 x2.toNatClampNeg (σ 0 10) →
      G27 x2 0 σ3))) →
    G7 x2 σ) →
  (∀ (x2 x3 : Int32) (σ : S0),
    ((16 ≤ x3 →
      G67 x2 0 σ) ∧
    (¬ 16 ≤ x3 →
      Sp_M_has (σ 0 4) x3 σ (fun (r5 : Int32) (σ4 : S0) =>
      ((r5 = 0 →
        G27 x2 (x3 + 1) σ4) ∧
      (¬ r5 = 0 →
        vp_in x3 16 ∧
        ((¬ (σ4 10 x3.toNatClampNeg) = x2 →
          G27 x2 (x3 + 1) σ4) ∧
        ((σ4 10 x3.toNatClampNeg) = x2 →
          Sp_O_layMark x3 σ4 (fun (σ6 : S0) =>
          G27 x2 (x3 + 1) σ6)))))))) →
    G27 x2 x3 σ) →
  (∀ (x2 x3 : Int32) (σ : S0),
    (((σ 0 6) ≤ x3 →
      Sp_O_numberPlaces x2 (σ 0 10) σ (fun (σ7 : S0) =>
      G7 (x2 + 1) σ7)) ∧
    (¬ (σ 0 6) ≤ x3 →
      vp_in x3 256 ∧
      vp_in (σ 11 x3.toNatClampNeg) 16 ∧
      (∀ v8 : Int32, v8 = (x2 - (σ 10 (σ 11 x3.toNatClampNeg).toNatClampNeg)) →
      ((v8 ≤ 0 →
        G67 x2 (x3 + 1) σ) ∧
      (¬ v8 ≤ 0 →
        Sp_P_bendsOf x3 σ (fun (r10 : Int32) (σ9 : S0) =>
        ((r10 < v8 →
          G67 x2 (x3 + 1) σ9) ∧
        (¬ r10 < v8 →
          Sp_P_pointOf x3 v8 σ9 (fun (r12 : Int32) (σ11 : S0) =>
          Sp_O_layMark r12 σ11 (fun (σ13 : S0) =>
          G67 x2 (x3 + 1) σ13)))))))))) →
    G67 x2 x3 σ) →
  (∀ σ1 : S0, σ1 = st σ 0 10 0 →
  G7 0 σ1)
/-- MatrixSheets$Order: private void layPieces(MatrixSheets$Plan) -/
def Sp_O_layPieces (σ : S0) (post : S0 → Prop) : Prop :=
  ∀ G7 : Int32 → S0 → Prop,
  ∀ G27 : Int32 → Int32 → S0 → Prop,
  (∀ (x2 : Int32) (σ : S0),
    (((σ 0 9) ≤ x2 →
      vp_in (σ 0 9) 17 ∧
      (∀ σ2 : S0, σ2 = st σ 23 (σ 0 9).toNatClampNeg (σ 0 11) →
      post σ2)) ∧
    (¬ (σ 0 9) ≤ x2 →
      vp_in x2 17 ∧
      (∀ σ3 : S0, σ3 = st σ 23 x2.toNatClampNeg (σ 0 11) →
      G27 x2 0 σ3))) →
    G7 x2 σ) →
  (∀ (x2 x3 : Int32) (σ : S0),
    (((σ 0 6) ≤ x3 →
      G7 (x2 + 1) σ) ∧
    (¬ (σ 0 6) ≤ x3 →
      vp_in x3 256 ∧
      vp_in (σ 11 x3.toNatClampNeg) 16 ∧
      (∀ v4 : Int32, v4 = (x2 - (σ 10 (σ 11 x3.toNatClampNeg).toNatClampNeg)) →
      ((v4 < 0 →
        G27 x2 (x3 + 1) σ) ∧
      (¬ v4 < 0 →
        Sp_P_bendsOf x3 σ (fun (r6 : Int32) (σ5 : S0) =>
        ((r6 < v4 →
          G27 x2 (x3 + 1) σ5) ∧
        (¬ r6 < v4 →
          Sp_P_pointOf x3 v4 σ5 (fun (r8 : Int32) (σ7 : S0) =>
          vp_in (σ5 0 11) 406 ∧
          (∀ σ9 : S0, σ9 = st σ7 21 (σ5 0 11).toNatClampNeg r8 →
          Sp_P_pointOf x3 (v4 + 1) σ9 (fun (r11 : Int32) (σ10 : S0) =>
          vp_in (σ9 0 11) 406 ∧
          (∀ σ12 : S0, σ12 = st σ10 22 (σ9 0 11).toNatClampNeg r11 →
          (∀ σ13 : S0, σ13 = st σ12 0 11 ((σ12 0 11) + 1) →
          G27 x2 (x3 + 1) σ13))))))))))))) →
    G27 x2 x3 σ) →
  (∀ σ1 : S0, σ1 = st σ 0 11 0 →
  G7 0 σ1)
/-- MatrixSheets$Order: private int countCrossed(int, int) -/
def Sp_O_countCrossed (a1 a2 : Int32) (σ : S0) (post : Int32 → S0 → Prop) : Prop :=
  ∀ G33 : Int32 → Int32 → Int32 → Int32 → Int32 → S0 → Prop,
  (∀ (x2 x3 x4 x5 x6 : Int32) (σ : S0),
    ((x2 ≤ x6 →
      post x5 σ) ∧
    (¬ x2 ≤ x6 →
      vp_in x6 406 ∧
      vp_in (σ 21 x6.toNatClampNeg) 166 ∧
      vp_in x6 406 ∧
      vp_in (σ 22 x6.toNatClampNeg) 166 ∧
      ((0 ≤ (((σ 16 (σ 21 x6.toNatClampNeg).toNatClampNeg) - x3) * ((σ 16 (σ 22 x6.toNatClampNeg).toNatClampNeg) - x4)) →
        G33 x2 x3 x4 x5 (x6 + 1) σ) ∧
      (¬ 0 ≤ (((σ 16 (σ 21 x6.toNatClampNeg).toNatClampNeg) - x3) * ((σ 16 (σ 22 x6.toNatClampNeg).toNatClampNeg) - x4)) →
        G33 x2 x3 x4 (x5 + 1) (x6 + 1) σ)))) →
    G33 x2 x3 x4 x5 x6 σ) →
  vp_in a1 406 ∧
  vp_in (σ 21 a1.toNatClampNeg) 166 ∧
  (∀ v1 : Int32, v1 = (σ 16 (σ 21 a1.toNatClampNeg).toNatClampNeg) →
  vp_in a1 406 ∧
  vp_in (σ 22 a1.toNatClampNeg) 166 ∧
  (∀ v2 : Int32, v2 = (σ 16 (σ 22 a1.toNatClampNeg).toNatClampNeg) →
  (∀ v3 : Int32, v3 = (a1 + 1) →
  G33 a2 v1 v2 0 v3 σ)))
/-- MatrixSheets$Order: private int countCrossings() -/
def Sp_O_countCrossings (σ : S0) (post : Int32 → S0 → Prop) : Prop :=
  ∀ G4 : Int32 → Int32 → S0 → Prop,
  ∀ G19 : Int32 → Int32 → Int32 → S0 → Prop,
  (∀ (x1 x2 : Int32) (σ : S0),
    (((σ 0 9) ≤ x2 →
      post x1 σ) ∧
    (¬ (σ 0 9) ≤ x2 →
      vp_in x2 17 ∧
      (∀ v1 : Int32, v1 = (σ 23 x2.toNatClampNeg) →
      G19 x1 x2 v1 σ))) →
    G4 x1 x2 σ) →
  (∀ (x1 x2 x3 : Int32) (σ : S0),
    vp_in (x2 + 1) 17 ∧
    (((σ 23 (x2 + 1).toNatClampNeg) ≤ x3 →
      G4 x1 (x2 + 1) σ) ∧
    (¬ (σ 23 (x2 + 1).toNatClampNeg) ≤ x3 →
      vp_in (x2 + 1) 17 ∧
      Sp_O_countCrossed x3 (σ 23 (x2 + 1).toNatClampNeg) σ (fun (r3 : Int32) (σ2 : S0) =>
      (∀ v4 : Int32, v4 = (x1 + r3) →
      G19 v4 x2 (x3 + 1) σ2)))) →
    G19 x1 x2 x3 σ) →
  G4 0 0 σ
/-- MatrixSheets$Order: private void keepBest() -/
def Sp_O_keepBest (σ : S0) (post : S0 → Prop) : Prop :=
  cpok (σ 0 10) 166 166 ∧
  (∀ σ1 : S0, σ1 = cp σ 18 19 (σ 0 10).toNatClampNeg →
  post σ1)
/-- MatrixSheets$Order: private void takeBest() -/
def Sp_O_takeBest (σ : S0) (post : S0 → Prop) : Prop :=
  ∀ G19 : Int32 → S0 → Prop,
  (∀ (x1 : Int32) (σ : S0),
    (((σ 0 9) ≤ x1 →
      post σ) ∧
    (¬ (σ 0 9) ≤ x1 →
      vp_in (x1 + 1) 17 ∧
      Sp_O_numberPlaces x1 (σ 20 (x1 + 1).toNatClampNeg) σ (fun (σ2 : S0) =>
      G19 (x1 + 1) σ2))) →
    G19 x1 σ) →
  cpok (σ 0 10) 166 166 ∧
  (∀ σ1 : S0, σ1 = cp σ 19 18 (σ 0 10).toNatClampNeg →
  G19 0 σ1)
/-- MatrixSheets$Order: private void weigh(int, int, int[], int[]) -/
def Sp_O_weigh_22_21 (a1 a2 : Int32) (σ : S0) (post : S0 → Prop) : Prop :=
  ∀ G8 : Int32 → Int32 → Int32 → S0 → Prop,
  ∀ G61 : Int32 → Int32 → Int32 → S0 → Prop,
  ∀ G123 : Int32 → Int32 → S0 → Prop,
  (∀ (x1 x2 x5 : Int32) (σ : S0),
    vp_in (x1 + 1) 17 ∧
    (((σ 20 (x1 + 1).toNatClampNeg) ≤ x5 →
      vp_in x2 17 ∧
      (∀ v2 : Int32, v2 = (σ 23 x2.toNatClampNeg) →
      G61 x1 x2 v2 σ)) ∧
    (¬ (σ 20 (x1 + 1).toNatClampNeg) ≤ x5 →
      vp_in x5 166 ∧
      vp_in (σ 18 x5.toNatClampNeg) 166 ∧
      (∀ σ3 : S0, σ3 = st σ 24 (σ 18 x5.toNatClampNeg).toNatClampNeg 0 →
      vp_in x5 166 ∧
      vp_in (σ3 18 x5.toNatClampNeg) 166 ∧
      (∀ σ4 : S0, σ4 = st σ3 25 (σ3 18 x5.toNatClampNeg).toNatClampNeg 0 →
      G8 x1 x2 (x5 + 1) σ4)))) →
    G8 x1 x2 x5 σ) →
  (∀ (x1 x2 x5 : Int32) (σ : S0),
    vp_in (x2 + 1) 17 ∧
    (((σ 23 (x2 + 1).toNatClampNeg) ≤ x5 →
      vp_in x1 17 ∧
      (∀ v5 : Int32, v5 = (σ 20 x1.toNatClampNeg) →
      G123 x1 v5 σ)) ∧
    (¬ (σ 23 (x2 + 1).toNatClampNeg) ≤ x5 →
      vp_in x5 406 ∧
      vp_in (σ 22 x5.toNatClampNeg) 166 ∧
      vp_in x5 406 ∧
      vp_in (σ 21 x5.toNatClampNeg) 166 ∧
      vp_in (σ 22 x5.toNatClampNeg) 166 ∧
      (∀ σ6 : S0, σ6 = st σ 24 (σ 22 x5.toNatClampNeg).toNatClampNeg ((σ 24 (σ 22 x5.toNatClampNeg).toNatClampNeg) + (σ 16 (σ 21 x5.toNatClampNeg).toNatClampNeg)) →
      vp_in x5 406 ∧
      vp_in (σ6 22 x5.toNatClampNeg) 166 ∧
      vp_in (σ6 22 x5.toNatClampNeg) 166 ∧
      (∀ σ7 : S0, σ7 = st σ6 25 (σ6 22 x5.toNatClampNeg).toNatClampNeg ((σ6 25 (σ6 22 x5.toNatClampNeg).toNatClampNeg) + 1) →
      G61 x1 x2 (x5 + 1) σ7)))) →
    G61 x1 x2 x5 σ) →
  (∀ (x1 x5 : Int32) (σ : S0),
    vp_in (x1 + 1) 17 ∧
    (((σ 20 (x1 + 1).toNatClampNeg) ≤ x5 →
      post σ) ∧
    (¬ (σ 20 (x1 + 1).toNatClampNeg) ≤ x5 →
      vp_in x5 166 ∧
      vp_in (σ 18 x5.toNatClampNeg) 166 ∧
      ((¬ (σ 25 (σ 18 x5.toNatClampNeg).toNatClampNeg) = 0 →
        G123 x1 (x5 + 1) σ) ∧
      ((σ 25 (σ 18 x5.toNatClampNeg).toNatClampNeg) = 0 →
        vp_in x5 166 ∧
        vp_in x5 166 ∧
        vp_in (σ 18 x5.toNatClampNeg) 166 ∧
        vp_in (σ 18 x5.toNatClampNeg) 166 ∧
        (∀ σ8 : S0, σ8 = st σ 24 (σ 18 x5.toNatClampNeg).toNatClampNeg (σ 16 (σ 18 x5.toNatClampNeg).toNatClampNeg) →
        vp_in x5 166 ∧
        vp_in (σ8 18 x5.toNatClampNeg) 166 ∧
        (∀ σ9 : S0, σ9 = st σ8 25 (σ8 18 x5.toNatClampNeg).toNatClampNeg 1 →
        G123 x1 (x5 + 1) σ9)))))) →
    G123 x1 x5 σ) →
  vp_in a1 17 ∧
  (∀ v1 : Int32, v1 = (σ 20 a1.toNatClampNeg) →
  G8 a1 a2 v1 σ)
/-- MatrixSheets$Order: private boolean hasLesserKey(int, int) -/
def Sp_O_hasLesserKey (a1 a2 : Int32) (σ : S0) (post : Int32 → S0 → Prop) : Prop :=
  vp_in a1 166 ∧
  vp_in a2 166 ∧
  vp_in a2 166 ∧
  vp_in a1 166 ∧
  ((((σ 24 a2.toNatClampNeg) * (σ 25 a1.toNatClampNeg)) ≤ ((σ 24 a1.toNatClampNeg) * (σ 25 a2.toNatClampNeg)) →
    post 0 σ) ∧
  (¬ ((σ 24 a2.toNatClampNeg) * (σ 25 a1.toNatClampNeg)) ≤ ((σ 24 a1.toNatClampNeg) * (σ 25 a2.toNatClampNeg)) →
    post 1 σ))
/-- MatrixSheets$Order: private void sort(int, int) -/
def Sp_O_sort (a1 a2 : Int32) (σ : S0) (post : S0 → Prop) : Prop :=
  ∀ G4 : Int32 → Int32 → Int32 → S0 → Prop,
  ∀ G20 : Int32 → Int32 → Int32 → Int32 → Int32 → S0 → Prop,
  ∀ G66 : Int32 → Int32 → Int32 → Int32 → Int32 → S0 → Prop,
  (∀ (x1 x2 x3 : Int32) (σ : S0),
    ((x2 ≤ x3 →
      post σ) ∧
    (¬ x2 ≤ x3 →
      vp_in x3 166 ∧
      (∀ v2 : Int32, v2 = (σ 18 x3.toNatClampNeg) →
      G20 x1 x2 x3 v2 x3 σ))) →
    G4 x1 x2 x3 σ) →
  (∀ (x1 x2 x3 x4 x5 : Int32) (σ : S0),
    ((x5 ≤ x1 →
      G66 x1 x2 x3 x4 x5 σ) ∧
    (¬ x5 ≤ x1 →
      vp_in (x5 - 1) 166 ∧
      Sp_O_hasLesserKey x4 (σ 18 (x5 - 1).toNatClampNeg) σ (fun (r4 : Int32) (σ3 : S0) =>
      ((r4 = 0 →
        G66 x1 x2 x3 x4 x5 σ3) ∧
      (¬ r4 = 0 →
        vp_in (x5 - 1) 166 ∧
        vp_in x5 166 ∧
        (∀ σ5 : S0, σ5 = st σ3 18 x5.toNatClampNeg (σ3 18 (x5 - 1).toNatClampNeg) →
        G20 x1 x2 x3 x4 (x5 + (-1)) σ5)))))) →
    G20 x1 x2 x3 x4 x5 σ) →
  (∀ (x1 x2 x3 x4 x5 : Int32) (σ : S0),
    vp_in x5 166 ∧
    (∀ σ6 : S0, σ6 = st σ 18 x5.toNatClampNeg x4 →
    G4 x1 x2 (x3 + 1) σ6) →
    G66 x1 x2 x3 x4 x5 σ) →
  (∀ v1 : Int32, v1 = (a1 + 1) →
  G4 a1 a2 v1 σ)
/-- MatrixSheets$Order: private void arrange(int, int, int[], int[]) -/
def Sp_O_arrange_22_21 (a1 a2 : Int32) (σ : S0) (post : S0 → Prop) : Prop :=
  Sp_O_weigh_22_21 a1 a2 σ (fun (σ1 : S0) =>
  vp_in a1 17 ∧
  vp_in (a1 + 1) 17 ∧
  Sp_O_sort (σ1 20 a1.toNatClampNeg) (σ1 20 (a1 + 1).toNatClampNeg) σ1 (fun (σ2 : S0) =>
  vp_in (a1 + 1) 17 ∧
  Sp_O_numberPlaces a1 (σ2 20 (a1 + 1).toNatClampNeg) σ2 (fun (σ3 : S0) =>
  post σ3)))
/-- MatrixSheets$Order: private void weigh(int, int, int[], int[]) -/
def Sp_O_weigh_21_22 (a1 a2 : Int32) (σ : S0) (post : S0 → Prop) : Prop :=
  ∀ G8 : Int32 → Int32 → Int32 → S0 → Prop,
  ∀ G61 : Int32 → Int32 → Int32 → S0 → Prop,
  ∀ G123 : Int32 → Int32 → S0 → Prop,
  (∀ (x1 x2 x5 : Int32) (σ : S0),
    vp_in (x1 + 1) 17 ∧
    (((σ 20 (x1 + 1).toNatClampNeg) ≤ x5 →
      vp_in x2 17 ∧
      (∀ v2 : Int32, v2 = (σ 23 x2.toNatClampNeg) →
      G61 x1 x2 v2 σ)) ∧
    (¬ (σ 20 (x1 + 1).toNatClampNeg) ≤ x5 →
      vp_in x5 166 ∧
      vp_in (σ 18 x5.toNatClampNeg) 166 ∧
      (∀ σ3 : S0, σ3 = st σ 24 (σ 18 x5.toNatClampNeg).toNatClampNeg 0 →
      vp_in x5 166 ∧
      vp_in (σ3 18 x5.toNatClampNeg) 166 ∧
      (∀ σ4 : S0, σ4 = st σ3 25 (σ3 18 x5.toNatClampNeg).toNatClampNeg 0 →
      G8 x1 x2 (x5 + 1) σ4)))) →
    G8 x1 x2 x5 σ) →
  (∀ (x1 x2 x5 : Int32) (σ : S0),
    vp_in (x2 + 1) 17 ∧
    (((σ 23 (x2 + 1).toNatClampNeg) ≤ x5 →
      vp_in x1 17 ∧
      (∀ v5 : Int32, v5 = (σ 20 x1.toNatClampNeg) →
      G123 x1 v5 σ)) ∧
    (¬ (σ 23 (x2 + 1).toNatClampNeg) ≤ x5 →
      vp_in x5 406 ∧
      vp_in (σ 21 x5.toNatClampNeg) 166 ∧
      vp_in x5 406 ∧
      vp_in (σ 22 x5.toNatClampNeg) 166 ∧
      vp_in (σ 21 x5.toNatClampNeg) 166 ∧
      (∀ σ6 : S0, σ6 = st σ 24 (σ 21 x5.toNatClampNeg).toNatClampNeg ((σ 24 (σ 21 x5.toNatClampNeg).toNatClampNeg) + (σ 16 (σ 22 x5.toNatClampNeg).toNatClampNeg)) →
      vp_in x5 406 ∧
      vp_in (σ6 21 x5.toNatClampNeg) 166 ∧
      vp_in (σ6 21 x5.toNatClampNeg) 166 ∧
      (∀ σ7 : S0, σ7 = st σ6 25 (σ6 21 x5.toNatClampNeg).toNatClampNeg ((σ6 25 (σ6 21 x5.toNatClampNeg).toNatClampNeg) + 1) →
      G61 x1 x2 (x5 + 1) σ7)))) →
    G61 x1 x2 x5 σ) →
  (∀ (x1 x5 : Int32) (σ : S0),
    vp_in (x1 + 1) 17 ∧
    (((σ 20 (x1 + 1).toNatClampNeg) ≤ x5 →
      post σ) ∧
    (¬ (σ 20 (x1 + 1).toNatClampNeg) ≤ x5 →
      vp_in x5 166 ∧
      vp_in (σ 18 x5.toNatClampNeg) 166 ∧
      ((¬ (σ 25 (σ 18 x5.toNatClampNeg).toNatClampNeg) = 0 →
        G123 x1 (x5 + 1) σ) ∧
      ((σ 25 (σ 18 x5.toNatClampNeg).toNatClampNeg) = 0 →
        vp_in x5 166 ∧
        vp_in x5 166 ∧
        vp_in (σ 18 x5.toNatClampNeg) 166 ∧
        vp_in (σ 18 x5.toNatClampNeg) 166 ∧
        (∀ σ8 : S0, σ8 = st σ 24 (σ 18 x5.toNatClampNeg).toNatClampNeg (σ 16 (σ 18 x5.toNatClampNeg).toNatClampNeg) →
        vp_in x5 166 ∧
        vp_in (σ8 18 x5.toNatClampNeg) 166 ∧
        (∀ σ9 : S0, σ9 = st σ8 25 (σ8 18 x5.toNatClampNeg).toNatClampNeg 1 →
        G123 x1 (x5 + 1) σ9)))))) →
    G123 x1 x5 σ) →
  vp_in a1 17 ∧
  (∀ v1 : Int32, v1 = (σ 20 a1.toNatClampNeg) →
  G8 a1 a2 v1 σ)
/-- MatrixSheets$Order: private void arrange(int, int, int[], int[]) -/
def Sp_O_arrange_21_22 (a1 a2 : Int32) (σ : S0) (post : S0 → Prop) : Prop :=
  Sp_O_weigh_21_22 a1 a2 σ (fun (σ1 : S0) =>
  vp_in a1 17 ∧
  vp_in (a1 + 1) 17 ∧
  Sp_O_sort (σ1 20 a1.toNatClampNeg) (σ1 20 (a1 + 1).toNatClampNeg) σ1 (fun (σ2 : S0) =>
  vp_in (a1 + 1) 17 ∧
  Sp_O_numberPlaces a1 (σ2 20 (a1 + 1).toNatClampNeg) σ2 (fun (σ3 : S0) =>
  post σ3)))
/-- MatrixSheets$Order: private void runRound() -/
def Sp_O_runRound (σ : S0) (post : S0 → Prop) : Prop :=
  ∀ G2 : Int32 → S0 → Prop,
  ∀ G39 : Int32 → S0 → Prop,
  (∀ (x1 : Int32) (σ : S0),
    (((σ 0 9) ≤ x1 →
      (∀ v1 : Int32, v1 = ((σ 0 9) - 2) →
      G39 v1 σ)) ∧
    (¬ (σ 0 9) ≤ x1 →
      Sp_O_arrange_22_21 x1 (x1 - 1) σ (fun (σ2 : S0) =>
      G2 (x1 + 1) σ2))) →
    G2 x1 σ) →
  (∀ (x1 : Int32) (σ : S0),
    ((x1 < 0 →
      post σ) ∧
    (¬ x1 < 0 →
      Sp_O_arrange_21_22 x1 x1 σ (fun (σ3 : S0) =>
      G39 (x1 + (-1)) σ3))) →
    G39 x1 σ) →
  G2 1 σ
/-- MatrixSheets$Order: int make(MatrixSheets$Plan, int) -/
def Sp_O_make (a2 : Int32) (σ : S0) (post : Int32 → S0 → Prop) : Prop :=
  ∀ G42 : Int32 → Int32 → S0 → Prop,
  (∀ (x3 x4 : Int32) (σ : S0),
    (((σ 0 8) < x4 →
      Sp_O_takeBest σ (fun (σ9 : S0) =>
      post x3 σ9)) ∧
    (¬ (σ 0 8) < x4 →
      Sp_O_runRound σ (fun (σ10 : S0) =>
      Sp_O_countCrossings σ10 (fun (r12 : Int32) (σ11 : S0) =>
      vp_in x4 13 ∧
      (∀ σ13 : S0, σ13 = st σ11 17 x4.toNatClampNeg r12 →
      vp_in x4 13 ∧
      ((x3 ≤ (σ13 17 x4.toNatClampNeg) →
        G42 x3 (x4 + 1) σ13) ∧
      (¬ x3 ≤ (σ13 17 x4.toNatClampNeg) →
        vp_in x4 13 ∧
        (∀ v14 : Int32, v14 = (σ13 17 x4.toNatClampNeg) →
        Sp_O_keepBest σ13 (fun (σ15 : S0) =>
        G42 v14 (x4 + 1) σ15))))))))) →
    G42 x3 x4 σ) →
  (∀ σ1 : S0, σ1 = st σ 0 8 a2 →
  (∀ σ2 : S0, σ2 = st σ1 0 9 (σ1 0 5) →
  Sp_O_layMarks σ2 (fun (σ3 : S0) =>
  Sp_O_layPieces σ3 (fun (σ4 : S0) =>
  Sp_O_countCrossings σ4 (fun (r6 : Int32) (σ5 : S0) =>
  vp_in 0 13 ∧
  (∀ σ7 : S0, σ7 = st σ5 17 (0 : Int32).toNatClampNeg r6 →
  Sp_O_keepBest σ7 (fun (σ8 : S0) =>
  G42 r6 1 σ8)))))))
/-- MatrixSheets: public int draw(int) -/
def Sp_M_draw (a1 : Int32) (σ : S0) (post : Int32 → S0 → Prop) (px : Nat → S0 → Prop) : Prop :=
  ∀ G10 : S0 → Prop,
  (∀ (σ : S0),
    px 2 σ →
    G10  σ) →
  ((a1 < 0 →
    G10  σ) ∧
  (¬ a1 < 0 →
    ((a1 ≤ 12 →
      (∀ σ1 : S0, σ1 = st σ 0 0 0 →
      Sp_D_findMisfit 0 σ1 (fun (r3 : Int32) (σ2 : S0) =>
      ((r3 = (-1) →
        Sp_P_make σ2 (fun (σ4 : S0) =>
        (((σ4 0 7) ≤ 150 →
          Sp_O_make a1 σ4 (fun (r6 : Int32) (σ5 : S0) =>
          (∀ σ7 : S0, σ7 = st σ5 0 0 1 →
          post r6 σ7))) ∧
        (¬ (σ4 0 7) ≤ 150 →
          post (-3) σ4)))) ∧
      (¬ r3 = (-1) →
        post (-2) σ2))))) ∧
    (¬ a1 ≤ 12 →
      G10  σ))))
/-- MatrixSheets: private void needSheet() -/
def Sp_M_needSheet (σ : S0) (post : S0 → Prop) (px : Nat → S0 → Prop) : Prop :=
  ((¬ (σ 0 0) = 0 →
    post σ) ∧
  ((σ 0 0) = 0 →
    px 1 σ))
/-- MatrixSheets: public int crossings(int) -/
def Sp_M_crossings (a1 : Int32) (σ : S0) (post : Int32 → S0 → Prop) (px : Nat → S0 → Prop) : Prop :=
  ∀ G9 : Int32 → Int32 → S0 → Prop,
  ∀ G32 : Int32 → Int32 → S0 → Prop,
  (∀ (x1 t0 : Int32) (σ : S0),
    Sp_M_need t0 σ (fun (σ1 : S0) =>
    Sp_M_needSheet σ1 (fun (σ2 : S0) =>
    (((σ2 0 8) < x1 →
      G32 x1 0 σ2) ∧
    (¬ (σ2 0 8) < x1 →
      G32 x1 1 σ2))) px) px →
    G9 x1 t0 σ) →
  (∀ (x1 t0 : Int32) (σ : S0),
    Sp_M_need t0 σ (fun (σ3 : S0) =>
    vp_in x1 13 ∧
    post (σ3 17 x1.toNatClampNeg) σ3) px →
    G32 x1 t0 σ) →
  ((a1 < 0 →
    G9 a1 0 σ) ∧
  (¬ a1 < 0 →
    G9 a1 1 σ))
/-- MatrixSheets: public int at(int, int) -/
def Sp_M_at (a1 a2 : Int32) (σ : S0) (post : Int32 → S0 → Prop) (px : Nat → S0 → Prop) : Prop :=
  ∀ G18 : Int32 → Int32 → Int32 → S0 → Prop,
  (∀ (x1 x2 t0 : Int32) (σ : S0),
    Sp_M_need t0 σ (fun (σ2 : S0) =>
    Sp_M_needSheet σ2 (fun (σ3 : S0) =>
    vp_in x1 16 ∧
    (∀ v4 : Int32, v4 = (σ3 4 x1.toNatClampNeg) →
    Sp_M_has (σ3 0 4) v4 σ3 (fun (r6 : Int32) (σ5 : S0) =>
    ((¬ r6 = 0 →
      ((¬ x2 = 0 →
        vp_in v4 166 ∧
        post (σ5 16 v4.toNatClampNeg) σ5) ∧
      (x2 = 0 →
        vp_in v4 16 ∧
        post (σ5 10 v4.toNatClampNeg) σ5))) ∧
    (r6 = 0 →
      post (-1) σ5))))) px) px →
    G18 x1 x2 t0 σ) →
  Sp_M_needContext a1 σ (fun (σ1 : S0) =>
  ((a2 = 0 →
    G18 a1 a2 1 σ1) ∧
  (¬ a2 = 0 →
    ((¬ a2 = 1 →
      G18 a1 a2 0 σ1) ∧
    (a2 = 1 →
      G18 a1 a2 1 σ1))))) px
/-- MatrixSheets: public int links() -/
def Sp_M_links (σ : S0) (post : Int32 → S0 → Prop) (px : Nat → S0 → Prop) : Prop :=
  Sp_M_needSheet σ (fun (σ1 : S0) =>
  post (σ1 0 6) σ1) px
/-- MatrixSheets: public int link(int, int) -/
def Sp_M_link (a1 a2 : Int32) (σ : S0) (post : Int32 → S0 → Prop) (px : Nat → S0 → Prop) : Prop :=
  ∀ G13 : Int32 → Int32 → Int32 → S0 → Prop,
  ∀ G50 : Int32 → Int32 → Int32 → S0 → Prop,
  (∀ (x1 x2 t0 : Int32) (σ : S0),
    Sp_M_need t0 σ (fun (σ1 : S0) =>
    Sp_M_needSheet σ1 (fun (σ2 : S0) =>
    (((σ2 0 6) ≤ x1 →
      G50 x1 x2 0 σ2) ∧
    (¬ (σ2 0 6) ≤ x1 →
      Sp_P_bendsOf x1 σ2 (fun (r4 : Int32) (σ3 : S0) =>
      (((3 + r4) ≤ x2 →
        G50 x1 x2 0 σ3) ∧
      (¬ (3 + r4) ≤ x2 →
        G50 x1 x2 1 σ3)))))) px) px →
    G13 x1 x2 t0 σ) →
  (∀ (x1 x2 t0 : Int32) (σ : S0),
    Sp_M_need t0 σ (fun (σ5 : S0) =>
    (((x2 = 0 →
      vp_in x1 256 ∧
      post (σ5 11 x1.toNatClampNeg) σ5) ∧
    (x2 = 1 →
      vp_in x1 256 ∧
      post (σ5 12 x1.toNatClampNeg) σ5) ∧
    (x2 = 2 →
      Sp_P_bendsOf x1 σ5 (fun (r7 : Int32) (σ6 : S0) =>
      post r7 σ6))) ∧
    (¬ x2 = 0 ∧ ¬ x2 = 1 ∧ ¬ x2 = 2 →
      Sp_P_pointOf x1 (x2 - 2) σ5 (fun (r9 : Int32) (σ8 : S0) =>
      vp_in r9 166 ∧
      post (σ8 16 r9.toNatClampNeg) σ8)))) px →
    G50 x1 x2 t0 σ) →
  ((a1 < 0 →
    G13 a1 a2 0 σ) ∧
  (¬ a1 < 0 →
    ((a2 < 0 →
      G13 a1 a2 0 σ) ∧
    (¬ a2 < 0 →
      G13 a1 a2 1 σ))))
/-- MatrixSheets: private int numbersOf(int) -/
def Sp_M_numbersOf (a1 : Int32) (σ : S0) (post : Int32 → S0 → Prop) : Prop :=
  Sp_P_bendsOf a1 σ (fun (r2 : Int32) (σ1 : S0) =>
  post (2 + (2 * (r2 + 2))) σ1)
/-- MatrixSheets: private int numberOfLinks(int) -/
def Sp_M_numberOfLinks (a1 : Int32) (σ : S0) (post : Int32 → S0 → Prop) : Prop :=
  ∀ G4 : Int32 → Int32 → S0 → Prop,
  ∀ G40 : Int32 → Int32 → S0 → Prop,
  (∀ (x2 x3 : Int32) (σ : S0),
    ((((σ 0 6) - 1) ≤ x3 →
      G40 x2 x3 σ) ∧
    (¬ ((σ 0 6) - 1) ≤ x3 →
      Sp_M_numbersOf x3 σ (fun (r2 : Int32) (σ1 : S0) =>
      ((x2 < r2 →
        G40 x2 x3 σ1) ∧
      (¬ x2 < r2 →
        Sp_M_numbersOf x3 σ1 (fun (r4 : Int32) (σ3 : S0) =>
        (∀ v5 : Int32, v5 = (x2 - r4) →
        G4 v5 (x3 + 1) σ3))))))) →
    G4 x2 x3 σ) →
  (∀ (x2 x3 : Int32) (σ : S0),
    ((¬ x2 = 0 →
      ((¬ x2 = 1 →
        (∀ v6 : Int32, v6 = ((x2 - 2) / 2) →
        ((¬ (x2 - x2 / 2 * 2) = 0 →
          vp_in x3 256 ∧
          vp_in (σ 11 x3.toNatClampNeg) 16 ∧
          post (16 * ((σ 10 (σ 11 x3.toNatClampNeg).toNatClampNeg) + v6)) σ) ∧
        ((x2 - x2 / 2 * 2) = 0 →
          Sp_P_pointOf x3 v6 σ (fun (r8 : Int32) (σ7 : S0) =>
          vp_in r8 166 ∧
          post (16 * (σ7 16 r8.toNatClampNeg)) σ7))))) ∧
      (x2 = 1 →
        Sp_P_bendsOf x3 σ (fun (r10 : Int32) (σ9 : S0) =>
        post (r10 + 2) σ9)))) ∧
    (x2 = 0 →
      post 2 σ)) →
    G40 x2 x3 σ) →
  G4 a1 0 σ
/-- MatrixSheets$Order: int groupAt(int) -/
def Sp_O_groupAt (a1 : Int32) (σ : S0) (post : Int32 → S0 → Prop) : Prop :=
  ∀ G4 : Int32 → Int32 → S0 → Prop,
  (∀ (x2 x3 : Int32) (σ : S0),
    (((σ 0 10) ≤ x3 →
      post 0 σ) ∧
    (¬ (σ 0 10) ≤ x3 →
      vp_in x3 166 ∧
      ((16 ≤ (σ 18 x3.toNatClampNeg) →
        G4 x2 (x3 + 1) σ) ∧
      (¬ 16 ≤ (σ 18 x3.toNatClampNeg) →
        ((¬ x2 = 0 →
          G4 (x2 + (-1)) (x3 + 1) σ) ∧
        (x2 = 0 →
          vp_in x3 166 ∧
          post (σ 18 x3.toNatClampNeg) σ)))))) →
    G4 x2 x3 σ) →
  G4 a1 0 σ
/-- MatrixSheets: private int numberOfGroups(int) -/
def Sp_M_numberOfGroups (a1 : Int32) (σ : S0) (post : Int32 → S0 → Prop) : Prop :=
  Sp_O_groupAt (a1 / 4) σ (fun (r2 : Int32) (σ1 : S0) =>
  ((((a1 - a1 / 4 * 4) = 0 →
    post 1 σ1) ∧
  ((a1 - a1 / 4 * 4) = 1 →
    post r2 σ1) ∧
  ((a1 - a1 / 4 * 4) = 2 →
    vp_in r2 166 ∧
    post (16 * (σ1 16 r2.toNatClampNeg)) σ1)) ∧
  (¬ (a1 - a1 / 4 * 4) = 0 ∧ ¬ (a1 - a1 / 4 * 4) = 1 ∧ ¬ (a1 - a1 / 4 * 4) = 2 →
    vp_in r2 16 ∧
    post (16 * (σ1 10 r2.toNatClampNeg)) σ1)))
/-- MatrixSheets: public int command(int) -/
def Sp_M_command (a1 : Int32) (σ : S0) (post : Int32 → S0 → Prop) (px : Nat → S0 → Prop) : Prop :=
  ∀ G10 : Int32 → Int32 → S0 → Prop,
  ∀ G63 : Int32 → Int32 → Int32 → Int32 → S0 → Prop,
  (∀ (x1 t0 : Int32) (σ : S0),
    Sp_M_need t0 σ (fun (σ1 : S0) =>
    Sp_M_needSheet σ1 (fun (σ2 : S0) =>
    (∀ v3 : Int32, v3 = (4 * (jbc (σ2 0 4))) →
    (∀ v4 : Int32, v4 = ((v3 + (6 * (σ2 0 6))) + (2 * (σ2 0 7))) →
    ((v4 ≤ x1 →
      G63 x1 v3 v4 0 σ2) ∧
    (¬ v4 ≤ x1 →
      G63 x1 v3 v4 1 σ2))))) px) px →
    G10 x1 t0 σ) →
  (∀ (x1 x2 x3 t0 : Int32) (σ : S0),
    Sp_M_need t0 σ (fun (σ5 : S0) =>
    ((¬ x1 = (-1) →
      ((x2 ≤ x1 →
        Sp_M_numberOfLinks (x1 - x2) σ5 (fun (r7 : Int32) (σ6 : S0) =>
        post r7 σ6)) ∧
      (¬ x2 ≤ x1 →
        Sp_M_numberOfGroups x1 σ5 (fun (r9 : Int32) (σ8 : S0) =>
        post r9 σ8)))) ∧
    (x1 = (-1) →
      post x3 σ5))) px →
    G63 x1 x2 x3 t0 σ) →
  ((a1 < (-1) →
    G10 a1 0 σ) ∧
  (¬ a1 < (-1) →
    G10 a1 1 σ))
/-- MatrixSheets: public int count(int) -/
def Sp_M_count (a1 : Int32) (σ : S0) (post : Int32 → S0 → Prop) (px : Nat → S0 → Prop) : Prop :=
  (((a1 = 0 →
    post (jbc (σ 0 1)) σ) ∧
  (a1 = 1 →
    post (σ 0 3) σ) ∧
  (a1 = 2 →
    Sp_D_leadersOf (σ 0 1) σ (fun (r2 : Int32) (σ1 : S0) =>
    post (jbc r2) σ1)) ∧
  (a1 = 3 →
    (((σ 0 0) = 0 →
      post 0 σ) ∧
    (¬ (σ 0 0) = 0 →
      post (σ 0 5) σ))) ∧
  (a1 = 4 →
    (((σ 0 0) = 0 →
      post 0 σ) ∧
    (¬ (σ 0 0) = 0 →
      post (σ 0 7) σ)))) ∧
  (¬ a1 = 0 ∧ ¬ a1 = 1 ∧ ¬ a1 = 2 ∧ ¬ a1 = 3 ∧ ¬ a1 = 4 →
    px 0 σ))
end
section
set_option maxHeartbeats 4000000 in
set_option maxRecDepth 100000 in
theorem met_M_has (l : Launch) (D : va_G) (ad : Nat → Nat) (cA cB : ClassId) (hap : kapC ad) (σ : S0) (sz : Nat) (a0 a1 : Int32) (post : Int32 → S0 → Prop) (h : Sp_M_has a0 a1 σ post) : Met l y_M_has (Cond.code y_M_has c_M_has 2 (some .boolean) :: wsG) ({ frames := 0, cells := 0, slots := 0, locals := 0 } : Room) (kPcC D ad cA cB σ sz [.int a0, .int a1]) (va_Qi post (kBC D ad cA cB) (kAC ad sz)) 0 0 (kAC ad sz) := by
  refine Met.ofW (cc := c_M_has) (maxL := 2) (ret := (some .boolean)) (by decide) rfl ?_
  intro p e s m args below meth c s₁ B hml hv
  obtain ⟨rfl, hsz, hP, hK, hF⟩ := hv
  have hx := B.exec
  have hb := B.bytes
  have hr := B.returns
  have hts := atoms_spec (ws := (Cond.code y_M_has c_M_has 2 (some .boolean) :: wsG)) B.pre
  have htg : ∀ w ∈ wsG, w.before ([.int a0, .int a1] : List Value).toArray s = true := fun w h => hts w (List.mem_cons_of_mem _ h)
  have hown : s.vm.findClass RX3 = some m.cls := findClass_of_methodNamed B.named
  have hlocks := B.notSynchronized
  subst hsz
  have hD : ∀ σ, va_D (kAC ad s.heap.size) (wC ad cA cB σ) := fun σ => wC_D hap cA cB σ _
  have hS : va_S (kAC ad s.heap.size) s.heap s.heap [] := va_S.rf
  have hE := hF.1
  have hl := lv_entry ([.int a0, .int a1]) (n := 2) (Nat.le_of_ble_eq_true rfl)
  rw [lg_entry_eq]
  generalize (lg_sl ([.int a0, .int a1]) ++ List.replicate (2 - (lg_sl ([.int a0, .int a1])).length) Slot.unset).toArray = ls at hl ⊢
  have hl : lv_has ls 2 [(0, .int a0), (1, .int a1)] := hl
  unfold Sp_M_has at h
  obtain ⟨H, eH⟩ : ∃ z, z = s.heap := ⟨_, rfl⟩
  have hP : va_P D vwCl (wC ad cA cB σ) H := by rw [eH]; exact hP
  have hS : va_S (kAC ad s.heap.size) s.heap H [] := by rw [eH]; exact hS
  show W p l e (headSpec (Cond.code y_M_has c_M_has 2 (some .boolean) :: wsG) ({ frames := 0, cells := 0, slots := 0, locals := 0 } : Room)).room s m ([.int a0, .int a1] : List Value).toArray below meth c s.heap [] 0 0 (MQ below (va_Qi post (kBC D ad cA cB) (kAC ad s.heap.size)) ([.int a0, .int a1] : List Value).toArray s 0 0 (kAC ad s.heap.size)) (F0 m 0 ls [])
  suffices k : W p l e (headSpec (Cond.code y_M_has c_M_has 2 (some .boolean) :: wsG) ({ frames := 0, cells := 0, slots := 0, locals := 0 } : Room)).room s m ([.int a0, .int a1] : List Value).toArray below meth c H [] 0 0 (MQ below (va_Qi post (kBC D ad cA cB) (kAC ad s.heap.size)) ([.int a0, .int a1] : List Value).toArray s 0 0 (kAC ad s.heap.size)) (F0 m 0 ls []) by rw [eH] at k; exact k
  refine lv_iload_n hx hb d_M_has_0 rfl (lv_at hl 0 rfl) ?_
  refine lv_iload_n hx hb d_M_has_1 rfl (lv_at hl 1 rfl) ?_
  refine lv_ishr hx hb d_M_has_2 ?_
  refine lv_iconst (v := 1) hx hb d_M_has_3 (by decide) ?_
  refine lv_iand hx hb d_M_has_4 ?_
  refine lv_if_eq (tgt := 12) hx hb d_M_has_5 (by decide) (fun cn => ?_) (fun cn => ?_)
  · have h := h.1 cn
    refine lv_iconst (v := 0) hx hb d_M_has_12 (by decide) ?_
    exact W.zret (v := 0) hx hb hr rfl (fun t ht hW => ⟨⟨_, σ, rfl, h, kBC_of ht hP⟩, hS.F ht⟩) hS.2.2 d_M_has_13 hlocks
  · have h := h.2 cn
    refine lv_iconst (v := 1) hx hb d_M_has_8 (by decide) ?_
    refine lv_goto (tgt := 13) hx hb d_M_has_9 (by decide) ?_
    exact W.zret (v := 1) hx hb hr rfl (fun t ht hW => ⟨⟨_, σ, rfl, h, kBC_of ht hP⟩, hS.F ht⟩) hS.2.2 d_M_has_13 hlocks
set_option maxHeartbeats 4000000 in
set_option maxRecDepth 100000 in
theorem met_D_leadersOf (l : Launch) (D : va_G) (ad : Nat → Nat) (cA cB : ClassId) (hap : kapC ad) (σ : S0) (sz : Nat) (a1 : Int32) (post : Int32 → S0 → Prop) (h : Sp_D_leadersOf a1 σ post) : Met l y_D_leadersOf (Cond.code y_D_leadersOf c_D_leadersOf 4 (some .int) :: wsG) ({ frames := 1, cells := 0, slots := 0, locals := 21 } : Room) (kPcC D ad cA cB σ sz [.ref (ad 1), .int a1]) (va_Qi post (kBC D ad cA cB) (kAC ad sz)) 0 0 (kAC ad sz) := by
  refine Met.ofW (cc := c_D_leadersOf) (maxL := 4) (ret := (some .int)) (by decide) rfl ?_
  intro p e s m args below meth c s₁ B hml hv
  obtain ⟨rfl, hsz, hP, hK, hF⟩ := hv
  have hx := B.exec
  have hb := B.bytes
  have hr := B.returns
  have hts := atoms_spec (ws := (Cond.code y_D_leadersOf c_D_leadersOf 4 (some .int) :: wsG)) B.pre
  have htg : ∀ w ∈ wsG, w.before ([.ref (ad 1), .int a1] : List Value).toArray s = true := fun w h => hts w (List.mem_cons_of_mem _ h)
  have hown : s.vm.findClass RX0 = some m.cls := findClass_of_methodNamed B.named
  have hlocks := B.notSynchronized
  subst hsz
  have hD : ∀ σ, va_D (kAC ad s.heap.size) (wC ad cA cB σ) := fun σ => wC_D hap cA cB σ _
  have hS : va_S (kAC ad s.heap.size) s.heap s.heap [] := va_S.rf
  have hE := hF.1
  have hl := lv_entry ([.ref (ad 1), .int a1]) (n := 4) (Nat.le_of_ble_eq_true rfl)
  rw [lg_entry_eq]
  generalize (lg_sl ([.ref (ad 1), .int a1]) ++ List.replicate (4 - (lg_sl ([.ref (ad 1), .int a1])).length) Slot.unset).toArray = ls at hl ⊢
  have hl : lv_has ls 4 [(0, .ref (ad 1)), (1, .int a1)] := hl
  unfold Sp_D_leadersOf at h
  obtain ⟨G4, hG4⟩ : ∃ G : Int32 → Int32 → Int32 → S0 → Prop, G = fun (x1 x2 x3 : Int32) (σ : S0) => ∀ (H : Heap) (locs : List Loc) (ls : Array Slot), va_P D vwCl (wC ad cA cB σ) H → va_S (kAC ad s.heap.size) s.heap H locs → lv_has ls 4 [(0, .ref (ad 1)), (1, .int x1), (2, .int x2), (3, .int x3)] → W p l e (headSpec (Cond.code y_D_leadersOf c_D_leadersOf 4 (some .int) :: wsG) ({ frames := 1, cells := 0, slots := 0, locals := 21 } : Room)).room s m ([.ref (ad 1), .int a1] : List Value).toArray below meth c H locs 0 0 (MQ below (va_Qi post (kBC D ad cA cB) (kAC ad s.heap.size)) ([.ref (ad 1), .int a1] : List Value).toArray s 0 0 (kAC ad s.heap.size)) (F0 m 4 ls []) := ⟨_, rfl⟩
  have h := h G4
  have h := h (by
    intro x1 x2 x3 σ h
    rw [hG4]
    intro H locs ls hP hS hl
    refine lv_iload_n hx hb d_D_leadersOf_4 rfl (lv_at hl 3 rfl) ?_
    refine lv_bipush (v := 16) hx hb d_D_leadersOf_5 (by decide) ?_
    refine lv_icmp_ge (tgt := 35) hx hb d_D_leadersOf_7 (by decide) (fun cn => ?_) (fun cn => ?_)
    · have h := h.1 cn
      refine lv_iload_n hx hb d_D_leadersOf_35 rfl (lv_at hl 2 rfl) ?_
      exact W.iret (v := x2) hx hb hr (fun t ht hW => ⟨⟨_, σ, rfl, h, kBC_of ht hP⟩, hS.F ht⟩) hS.2.2 d_D_leadersOf_36 hlocks
    · have h := h.2 cn
      refine lv_iload_n hx hb d_D_leadersOf_10 rfl (lv_at hl 1 rfl) ?_
      refine lv_iload_n hx hb d_D_leadersOf_11 rfl (lv_at hl 3 rfl) ?_
      refine kC_i (va_runSN (As := [.int x1, .int x3]) (rest := []) ⟨hx, hb, hml, hown, htg⟩ (met_M_has l D ad cA cB hap σ H.size x1 x3 _ h) ⟨va_cnB (host := "MatrixSheets") 2 htg (kG (kG_self m_318)) rfl rfl rfl (hE _ me_316) (htg _ m_53) (by decide +kernel) ⟨Nat.le_of_ble_eq_true rfl, Nat.le_of_ble_eq_true rfl⟩, htg _ m_317, trivial⟩ (kC_pre hK hF hP hS _) rfl rfl hl.1 rfl (lv_room (Nat.le_of_ble_eq_true rfl)) d_D_leadersOf_12 ⟨Nat.le_of_ble_eq_true rfl, Nat.le_of_ble_eq_true rfl⟩) hS (fun r2 σ1 H locs h hP hS => ?_)
      refine lv_if_eq (tgt := 29) hx hb d_D_leadersOf_15 (by decide) (fun cn => ?_) (fun cn => ?_)
      · have h := h.1 cn
        refine lv_iinc (v := (x3 + 1)) (lv' := [(3, .int (x3 + 1)), (0, .ref (ad 1)), (1, .int x1), (2, .int x2)]) hx hb d_D_leadersOf_29 hl (k := 3) rfl rfl (by decide) rfl (fun ls hl => ?_)
        refine lv_goto (tgt := 4) hx hb d_D_leadersOf_32 (by decide) ?_
        rw [hG4] at h
        exact h _ _ _ hP hS (lv_sub hl [1, 2, 3, 0] rfl)
      · have h := h.2 cn
        refine lv_iload_n hx hb d_D_leadersOf_18 rfl (lv_at hl 2 rfl) ?_
        refine lv_iconst (v := 1) hx hb d_D_leadersOf_19 (by decide) ?_
        refine lv_aload_n hx hb d_D_leadersOf_20 rfl (lv_at hl 0 rfl) ?_
        refine va_get (D := D) (ci := 0) (v := .ref (ad 4)) (C := RX0) (T := TX0) (N := 9) hx hb htg inG_X0 hown hK hP 1 rfl rfl 0 (by decide) (htg _ m_81) (fun _ h9 => h9) rfl d_D_leadersOf_21 ?_
        refine lv_iload_n hx hb d_D_leadersOf_24 rfl (lv_at hl 3 rfl) ?_
        have hi := h.1
        have h := h.2
        refine va_iald hx hb hK hP 4 0 rfl rfl hi d_D_leadersOf_25 ?_
        refine lv_ishl hx hb d_D_leadersOf_26 ?_
        refine lv_ior hx hb d_D_leadersOf_27 ?_
        refine lv_topi (fun v3 ev3 => ?_)
        have h := h v3 ev3
        refine lv_istore_n (lv' := [(2, .int v3), (0, .ref (ad 1)), (1, .int x1), (3, .int x3)]) hx hb d_D_leadersOf_28 rfl hl (by decide) rfl (fun ls hl => ?_)
        refine lv_iinc (v := (x3 + 1)) (lv' := [(3, .int (x3 + 1)), (2, .int v3), (0, .ref (ad 1)), (1, .int x1)]) hx hb d_D_leadersOf_29 hl (k := 3) rfl rfl (by decide) rfl (fun ls hl => ?_)
        refine lv_goto (tgt := 4) hx hb d_D_leadersOf_32 (by decide) ?_
        rw [hG4] at h
        exact h _ _ _ hP hS (lv_sub hl [2, 3, 1, 0] rfl))
  obtain ⟨H, eH⟩ : ∃ z, z = s.heap := ⟨_, rfl⟩
  have hP : va_P D vwCl (wC ad cA cB σ) H := by rw [eH]; exact hP
  have hS : va_S (kAC ad s.heap.size) s.heap H [] := by rw [eH]; exact hS
  show W p l e (headSpec (Cond.code y_D_leadersOf c_D_leadersOf 4 (some .int) :: wsG) ({ frames := 1, cells := 0, slots := 0, locals := 21 } : Room)).room s m ([.ref (ad 1), .int a1] : List Value).toArray below meth c s.heap [] 0 0 (MQ below (va_Qi post (kBC D ad cA cB) (kAC ad s.heap.size)) ([.ref (ad 1), .int a1] : List Value).toArray s 0 0 (kAC ad s.heap.size)) (F0 m 0 ls [])
  suffices k : W p l e (headSpec (Cond.code y_D_leadersOf c_D_leadersOf 4 (some .int) :: wsG) ({ frames := 1, cells := 0, slots := 0, locals := 21 } : Room)).room s m ([.ref (ad 1), .int a1] : List Value).toArray below meth c H [] 0 0 (MQ below (va_Qi post (kBC D ad cA cB) (kAC ad s.heap.size)) ([.ref (ad 1), .int a1] : List Value).toArray s 0 0 (kAC ad s.heap.size)) (F0 m 0 ls []) by rw [eH] at k; exact k
  refine lv_iconst (v := 0) hx hb d_D_leadersOf_0 (by decide) ?_
  refine lv_istore_n (lv' := [(2, .int 0), (0, .ref (ad 1)), (1, .int a1)]) hx hb d_D_leadersOf_1 rfl hl (by decide) rfl (fun ls hl => ?_)
  refine lv_iconst (v := 0) hx hb d_D_leadersOf_2 (by decide) ?_
  refine lv_istore_n (lv' := [(3, .int 0), (2, .int 0), (0, .ref (ad 1)), (1, .int a1)]) hx hb d_D_leadersOf_3 rfl hl (by decide) rfl (fun ls hl => ?_)
  rw [hG4] at h
  exact h _ _ _ hP hS (lv_sub hl [2, 3, 1, 0] rfl)
set_option maxHeartbeats 4000000 in
set_option maxRecDepth 100000 in
theorem met_M_goOn_9 (l : Launch) (D : va_G) (ad : Nat → Nat) (cA cB : ClassId) (hap : kapC ad) (σ : S0) (sz : Nat) (a1 : Int32) (post : S0 → Prop) (h : Sp_M_goOn_9 a1 σ post) : Met l y_M_goOn (Cond.code y_M_goOn c_M_goOn 4 none :: wsG) ({ frames := 1, cells := 0, slots := 0, locals := 21 } : Room) (kPcC D ad cA cB σ sz [.ref (ad 9), .int a1]) (va_Qv post (kBC D ad cA cB) (kAC ad sz)) 0 0 (kAC ad sz) := by
  refine Met.ofW (cc := c_M_goOn) (maxL := 4) (ret := none) (by decide) rfl ?_
  intro p e s m args below meth c s₁ B hml hv
  obtain ⟨rfl, hsz, hP, hK, hF⟩ := hv
  have hx := B.exec
  have hb := B.bytes
  have hr := B.returns
  have hts := atoms_spec (ws := (Cond.code y_M_goOn c_M_goOn 4 none :: wsG)) B.pre
  have htg : ∀ w ∈ wsG, w.before ([.ref (ad 9), .int a1] : List Value).toArray s = true := fun w h => hts w (List.mem_cons_of_mem _ h)
  have hown : s.vm.findClass RX3 = some m.cls := findClass_of_methodNamed B.named
  have hlocks := B.notSynchronized
  subst hsz
  have hD : ∀ σ, va_D (kAC ad s.heap.size) (wC ad cA cB σ) := fun σ => wC_D hap cA cB σ _
  have hS : va_S (kAC ad s.heap.size) s.heap s.heap [] := va_S.rf
  have hE := hF.1
  have hl := lv_entry ([.ref (ad 9), .int a1]) (n := 4) (Nat.le_of_ble_eq_true rfl)
  rw [lg_entry_eq]
  generalize (lg_sl ([.ref (ad 9), .int a1]) ++ List.replicate (4 - (lg_sl ([.ref (ad 9), .int a1])).length) Slot.unset).toArray = ls at hl ⊢
  have hl : lv_has ls 4 [(0, .ref (ad 9)), (1, .int a1)] := hl
  unfold Sp_M_goOn_9 at h
  obtain ⟨G2, hG2⟩ : ∃ G : Int32 → Int32 → S0 → Prop, G = fun (x1 x2 : Int32) (σ : S0) => ∀ (H : Heap) (locs : List Loc) (ls : Array Slot), va_P D vwCl (wC ad cA cB σ) H → va_S (kAC ad s.heap.size) s.heap H locs → lv_has ls 4 [(0, .ref (ad 9)), (1, .int x1), (2, .int x2)] → W p l e (headSpec (Cond.code y_M_goOn c_M_goOn 4 none :: wsG) ({ frames := 1, cells := 0, slots := 0, locals := 21 } : Room)).room s m ([.ref (ad 9), .int a1] : List Value).toArray below meth c H locs 0 0 (MQ below (va_Qv post (kBC D ad cA cB) (kAC ad s.heap.size)) ([.ref (ad 9), .int a1] : List Value).toArray s 0 0 (kAC ad s.heap.size)) (F0 m 2 ls []) := ⟨_, rfl⟩
  obtain ⟨G10, hG10⟩ : ∃ G : Int32 → Int32 → Int32 → S0 → Prop, G = fun (x1 x2 x3 : Int32) (σ : S0) => ∀ (H : Heap) (locs : List Loc) (ls : Array Slot), va_P D vwCl (wC ad cA cB σ) H → va_S (kAC ad s.heap.size) s.heap H locs → lv_has ls 4 [(0, .ref (ad 9)), (1, .int x1), (2, .int x2), (3, .int x3)] → W p l e (headSpec (Cond.code y_M_goOn c_M_goOn 4 none :: wsG) ({ frames := 1, cells := 0, slots := 0, locals := 21 } : Room)).room s m ([.ref (ad 9), .int a1] : List Value).toArray below meth c H locs 0 0 (MQ below (va_Qv post (kBC D ad cA cB) (kAC ad s.heap.size)) ([.ref (ad 9), .int a1] : List Value).toArray s 0 0 (kAC ad s.heap.size)) (F0 m 10 ls []) := ⟨_, rfl⟩
  have h := h G2 G10
  have h := h (by
    intro x1 x2 σ h
    rw [hG2]
    intro H locs ls hP hS hl
    refine lv_iload_n hx hb d_M_goOn_2 rfl (lv_at hl 2 rfl) ?_
    refine lv_bipush (v := 16) hx hb d_M_goOn_3 (by decide) ?_
    refine lv_icmp_ge (tgt := 55) hx hb d_M_goOn_5 (by decide) (fun cn => ?_) (fun cn => ?_)
    · have h := h.1 cn
      exact W.vret hx hb hr (fun t ht hW => ⟨⟨σ, rfl, h, kBC_of ht hP⟩, hS.F ht⟩) hS.2.2 d_M_goOn_55 hlocks
    · have h := h.2 cn
      refine lv_iconst (v := 0) hx hb d_M_goOn_8 (by decide) ?_
      refine lv_istore_n (lv' := [(3, .int 0), (0, .ref (ad 9)), (1, .int x1), (2, .int x2)]) hx hb d_M_goOn_9 rfl hl (by decide) rfl (fun ls hl => ?_)
      rw [hG10] at h
      exact h _ _ _ hP hS (lv_sub hl [1, 2, 3, 0] rfl))
  have h := h (by
    intro x1 x2 x3 σ h
    rw [hG10]
    intro H locs ls hP hS hl
    refine lv_iload_n hx hb d_M_goOn_10 rfl (lv_at hl 3 rfl) ?_
    refine lv_bipush (v := 16) hx hb d_M_goOn_11 (by decide) ?_
    refine lv_icmp_ge (tgt := 49) hx hb d_M_goOn_13 (by decide) (fun cn => ?_) (fun cn => ?_)
    · have h := h.1 cn
      refine lv_iinc (v := (x2 + 1)) (lv' := [(2, .int (x2 + 1)), (0, .ref (ad 9)), (1, .int x1), (3, .int x3)]) hx hb d_M_goOn_49 hl (k := 2) rfl rfl (by decide) rfl (fun ls hl => ?_)
      refine lv_goto (tgt := 2) hx hb d_M_goOn_52 (by decide) ?_
      rw [hG2] at h
      exact h _ _ _ hP hS (lv_sub hl [1, 2, 0] rfl)
    · have h := h.2 cn
      refine lv_iload_n hx hb d_M_goOn_16 rfl (lv_at hl 1 rfl) ?_
      refine lv_iload_n hx hb d_M_goOn_17 rfl (lv_at hl 2 rfl) ?_
      refine kC_i (va_runS (As := [.int x1, .int x2]) (rest := []) ⟨hx, hb, hml, hown, htg⟩ (met_M_has l D ad cA cB hap σ H.size x1 x2 _ h) (cwS 2 htg (kG (kG_S m_337 m_317 m_53 (kG_self m_318))) rfl rfl rfl (by decide +kernel) ⟨Nat.le_of_ble_eq_true rfl, Nat.le_of_ble_eq_true rfl⟩) (kC_pre hK hF hP hS _) rfl rfl hl.1 rfl (lv_room (Nat.le_of_ble_eq_true rfl)) d_M_goOn_18 ⟨Nat.le_of_ble_eq_true rfl, Nat.le_of_ble_eq_true rfl⟩) hS (fun r2 σ1 H locs h hP hS => ?_)
      refine lv_if_eq (tgt := 43) hx hb d_M_goOn_21 (by decide) (fun cn => ?_) (fun cn => ?_)
      · have h := h.1 cn
        refine lv_iinc (v := (x3 + 1)) (lv' := [(3, .int (x3 + 1)), (0, .ref (ad 9)), (1, .int x1), (2, .int x2)]) hx hb d_M_goOn_43 hl (k := 3) rfl rfl (by decide) rfl (fun ls hl => ?_)
        refine lv_goto (tgt := 10) hx hb d_M_goOn_46 (by decide) ?_
        rw [hG10] at h
        exact h _ _ _ hP hS (lv_sub hl [1, 2, 3, 0] rfl)
      · have h := h.2 cn
        refine lv_aload_n hx hb d_M_goOn_24 rfl (lv_at hl 0 rfl) ?_
        refine lv_iload_n hx hb d_M_goOn_25 rfl (lv_at hl 3 rfl) ?_
        have hi := h.1
        have h := h.2
        refine va_iald hx hb hK hP 9 0 rfl rfl hi d_M_goOn_26 ?_
        refine lv_iload_n hx hb d_M_goOn_27 rfl (lv_at hl 2 rfl) ?_
        refine kC_i (va_runS (As := [.int (σ1 9 x3.toNatClampNeg), .int x2]) (rest := []) ⟨hx, hb, hml, hown, htg⟩ (met_M_has l D ad cA cB hap σ1 H.size (σ1 9 x3.toNatClampNeg) x2 _ h) (cwS 2 htg (kG (kG_S m_337 m_317 m_53 (kG_self m_318))) rfl rfl rfl (by decide +kernel) ⟨Nat.le_of_ble_eq_true rfl, Nat.le_of_ble_eq_true rfl⟩) (kC_pre hK hF hP hS _) rfl rfl hl.1 rfl (lv_room (Nat.le_of_ble_eq_true rfl)) d_M_goOn_28 ⟨Nat.le_of_ble_eq_true rfl, Nat.le_of_ble_eq_true rfl⟩) hS (fun r4 σ3 H locs h hP hS => ?_)
        refine lv_if_eq (tgt := 43) hx hb d_M_goOn_31 (by decide) (fun cn => ?_) (fun cn => ?_)
        · have h := h.1 cn
          refine lv_iinc (v := (x3 + 1)) (lv' := [(3, .int (x3 + 1)), (0, .ref (ad 9)), (1, .int x1), (2, .int x2)]) hx hb d_M_goOn_43 hl (k := 3) rfl rfl (by decide) rfl (fun ls hl => ?_)
          refine lv_goto (tgt := 10) hx hb d_M_goOn_46 (by decide) ?_
          rw [hG10] at h
          exact h _ _ _ hP hS (lv_sub hl [1, 2, 3, 0] rfl)
        · have h := h.2 cn
          refine lv_aload_n hx hb d_M_goOn_34 rfl (lv_at hl 0 rfl) ?_
          refine lv_iload_n hx hb d_M_goOn_35 rfl (lv_at hl 3 rfl) ?_
          refine lv_dup2_11 hx hb d_M_goOn_36 rfl rfl ?_
          have hi := h.1
          have h := h.2
          refine va_iald hx hb hK hP 9 0 rfl rfl hi d_M_goOn_37 ?_
          refine lv_aload_n hx hb d_M_goOn_38 rfl (lv_at hl 0 rfl) ?_
          refine lv_iload_n hx hb d_M_goOn_39 rfl (lv_at hl 2 rfl) ?_
          have hi := h.1
          have h := h.2
          refine va_iald hx hb hK hP 9 0 rfl rfl hi d_M_goOn_40 ?_
          refine lv_ior hx hb d_M_goOn_41 ?_
          have hi := h.1
          have h := h.2
          refine va_iast hx hb hK hP (hD _) hS 9 0 rfl rfl hi d_M_goOn_42 (fun H locs hP _ hS => ?_)
          obtain ⟨σ5, eσ5⟩ : ∃ z : S0, z = st σ3 9 x3.toNatClampNeg ((σ3 9 x3.toNatClampNeg) ||| (σ3 9 x2.toNatClampNeg)) := ⟨_, rfl⟩
          have hP : va_P D vwCl (wC ad cA cB σ5) H := by rw [eσ5]; exact hP
          have h := h σ5 eσ5
          refine lv_iinc (v := (x3 + 1)) (lv' := [(3, .int (x3 + 1)), (0, .ref (ad 9)), (1, .int x1), (2, .int x2)]) hx hb d_M_goOn_43 hl (k := 3) rfl rfl (by decide) rfl (fun ls hl => ?_)
          refine lv_goto (tgt := 10) hx hb d_M_goOn_46 (by decide) ?_
          rw [hG10] at h
          exact h _ _ _ hP hS (lv_sub hl [1, 2, 3, 0] rfl))
  obtain ⟨H, eH⟩ : ∃ z, z = s.heap := ⟨_, rfl⟩
  have hP : va_P D vwCl (wC ad cA cB σ) H := by rw [eH]; exact hP
  have hS : va_S (kAC ad s.heap.size) s.heap H [] := by rw [eH]; exact hS
  show W p l e (headSpec (Cond.code y_M_goOn c_M_goOn 4 none :: wsG) ({ frames := 1, cells := 0, slots := 0, locals := 21 } : Room)).room s m ([.ref (ad 9), .int a1] : List Value).toArray below meth c s.heap [] 0 0 (MQ below (va_Qv post (kBC D ad cA cB) (kAC ad s.heap.size)) ([.ref (ad 9), .int a1] : List Value).toArray s 0 0 (kAC ad s.heap.size)) (F0 m 0 ls [])
  suffices k : W p l e (headSpec (Cond.code y_M_goOn c_M_goOn 4 none :: wsG) ({ frames := 1, cells := 0, slots := 0, locals := 21 } : Room)).room s m ([.ref (ad 9), .int a1] : List Value).toArray below meth c H [] 0 0 (MQ below (va_Qv post (kBC D ad cA cB) (kAC ad s.heap.size)) ([.ref (ad 9), .int a1] : List Value).toArray s 0 0 (kAC ad s.heap.size)) (F0 m 0 ls []) by rw [eH] at k; exact k
  refine lv_iconst (v := 0) hx hb d_M_goOn_0 (by decide) ?_
  refine lv_istore_n (lv' := [(2, .int 0), (0, .ref (ad 9)), (1, .int a1)]) hx hb d_M_goOn_1 rfl hl (by decide) rfl (fun ls hl => ?_)
  rw [hG2] at h
  exact h _ _ _ hP hS (lv_sub hl [1, 2, 0] rfl)
set_option maxHeartbeats 4000000 in
set_option maxRecDepth 100000 in
theorem met_D_lowerGroupPhase (l : Launch) (D : va_G) (ad : Nat → Nat) (cA cB : ClassId) (hap : kapC ad) (σ : S0) (sz : Nat) (a1 a2 : Int32) (post : S0 → Prop) (h : Sp_D_lowerGroupPhase a1 a2 σ post) : Met l y_D_lowerGroupPhase (Cond.code y_D_lowerGroupPhase c_D_lowerGroupPhase 3 none :: wsG) ({ frames := 0, cells := 0, slots := 0, locals := 0 } : Room) (kPcC D ad cA cB σ sz [.ref (ad 1), .int a1, .int a2]) (va_Qv post (kBC D ad cA cB) (kAC ad sz)) 0 0 (kAC ad sz) := by
  refine Met.ofW (cc := c_D_lowerGroupPhase) (maxL := 3) (ret := none) (by decide) rfl ?_
  intro p e s m args below meth c s₁ B hml hv
  obtain ⟨rfl, hsz, hP, hK, hF⟩ := hv
  have hx := B.exec
  have hb := B.bytes
  have hr := B.returns
  have hts := atoms_spec (ws := (Cond.code y_D_lowerGroupPhase c_D_lowerGroupPhase 3 none :: wsG)) B.pre
  have htg : ∀ w ∈ wsG, w.before ([.ref (ad 1), .int a1, .int a2] : List Value).toArray s = true := fun w h => hts w (List.mem_cons_of_mem _ h)
  have hown : s.vm.findClass RX0 = some m.cls := findClass_of_methodNamed B.named
  have hlocks := B.notSynchronized
  subst hsz
  have hD : ∀ σ, va_D (kAC ad s.heap.size) (wC ad cA cB σ) := fun σ => wC_D hap cA cB σ _
  have hS : va_S (kAC ad s.heap.size) s.heap s.heap [] := va_S.rf
  have hE := hF.1
  have hl := lv_entry ([.ref (ad 1), .int a1, .int a2]) (n := 3) (Nat.le_of_ble_eq_true rfl)
  rw [lg_entry_eq]
  generalize (lg_sl ([.ref (ad 1), .int a1, .int a2]) ++ List.replicate (3 - (lg_sl ([.ref (ad 1), .int a1, .int a2])).length) Slot.unset).toArray = ls at hl ⊢
  have hl : lv_has ls 3 [(0, .ref (ad 1)), (1, .int a1), (2, .int a2)] := hl
  unfold Sp_D_lowerGroupPhase at h
  obtain ⟨G25, hG25⟩ : ∃ G : Int32 → Int32 → S0 → Prop, G = fun (x1 x2 : Int32) (σ : S0) => ∀ (H : Heap) (locs : List Loc) (ls : Array Slot), va_P D vwCl (wC ad cA cB σ) H → va_S (kAC ad s.heap.size) s.heap H locs → lv_has ls 3 [(0, .ref (ad 1)), (1, .int x1), (2, .int x2)] → W p l e (headSpec (Cond.code y_D_lowerGroupPhase c_D_lowerGroupPhase 3 none :: wsG) ({ frames := 0, cells := 0, slots := 0, locals := 0 } : Room)).room s m ([.ref (ad 1), .int a1, .int a2] : List Value).toArray below meth c H locs 0 0 (MQ below (va_Qv post (kBC D ad cA cB) (kAC ad s.heap.size)) ([.ref (ad 1), .int a1, .int a2] : List Value).toArray s 0 0 (kAC ad s.heap.size)) (F0 m 25 ls []) := ⟨_, rfl⟩
  have h := h G25
  have h := h (by
    intro x1 x2 σ h
    rw [hG25]
    intro H locs ls hP hS hl
    refine lv_aload_n hx hb d_D_lowerGroupPhase_25 rfl (lv_at hl 0 rfl) ?_
    refine va_get (D := D) (ci := 0) (v := .ref (ad 5)) (C := RX0) (T := TX0) (N := 9) hx hb htg inG_X0 hown hK hP 1 rfl rfl 1 (by decide) (htg _ m_83) (fun _ h9 => h9) rfl d_D_lowerGroupPhase_26 ?_
    refine lv_iload_n hx hb d_D_lowerGroupPhase_29 rfl (lv_at hl 1 rfl) ?_
    refine lv_iload_n hx hb d_D_lowerGroupPhase_30 rfl (lv_at hl 2 rfl) ?_
    have hi := h.1
    have h := h.2
    refine va_iast hx hb hK hP (hD _) hS 5 0 rfl rfl hi d_D_lowerGroupPhase_31 (fun H locs hP _ hS => ?_)
    obtain ⟨σ1, eσ1⟩ : ∃ z : S0, z = st σ 5 x1.toNatClampNeg x2 := ⟨_, rfl⟩
    have hP : va_P D vwCl (wC ad cA cB σ1) H := by rw [eσ1]; exact hP
    have h := h σ1 eσ1
    exact W.vret hx hb hr (fun t ht hW => ⟨⟨σ1, rfl, h, kBC_of ht hP⟩, hS.F ht⟩) hS.2.2 d_D_lowerGroupPhase_32 hlocks)
  obtain ⟨H, eH⟩ : ∃ z, z = s.heap := ⟨_, rfl⟩
  have hP : va_P D vwCl (wC ad cA cB σ) H := by rw [eH]; exact hP
  have hS : va_S (kAC ad s.heap.size) s.heap H [] := by rw [eH]; exact hS
  show W p l e (headSpec (Cond.code y_D_lowerGroupPhase c_D_lowerGroupPhase 3 none :: wsG) ({ frames := 0, cells := 0, slots := 0, locals := 0 } : Room)).room s m ([.ref (ad 1), .int a1, .int a2] : List Value).toArray below meth c s.heap [] 0 0 (MQ below (va_Qv post (kBC D ad cA cB) (kAC ad s.heap.size)) ([.ref (ad 1), .int a1, .int a2] : List Value).toArray s 0 0 (kAC ad s.heap.size)) (F0 m 0 ls [])
  suffices k : W p l e (headSpec (Cond.code y_D_lowerGroupPhase c_D_lowerGroupPhase 3 none :: wsG) ({ frames := 0, cells := 0, slots := 0, locals := 0 } : Room)).room s m ([.ref (ad 1), .int a1, .int a2] : List Value).toArray below meth c H [] 0 0 (MQ below (va_Qv post (kBC D ad cA cB) (kAC ad s.heap.size)) ([.ref (ad 1), .int a1, .int a2] : List Value).toArray s 0 0 (kAC ad s.heap.size)) (F0 m 0 ls []) by rw [eH] at k; exact k
  refine lv_iload_n hx hb d_D_lowerGroupPhase_0 rfl (lv_at hl 2 rfl) ?_
  refine lv_iconst (v := (-1)) hx hb d_D_lowerGroupPhase_1 (by decide) ?_
  refine lv_icmp_eq (tgt := 32) hx hb d_D_lowerGroupPhase_2 (by decide) (fun cn => ?_) (fun cn => ?_)
  · have h := h.1 cn
    exact W.vret hx hb hr (fun t ht hW => ⟨⟨σ, rfl, h, kBC_of ht hP⟩, hS.F ht⟩) hS.2.2 d_D_lowerGroupPhase_32 hlocks
  · have h := h.2 cn
    refine lv_aload_n hx hb d_D_lowerGroupPhase_5 rfl (lv_at hl 0 rfl) ?_
    refine va_get (D := D) (ci := 0) (v := .ref (ad 5)) (C := RX0) (T := TX0) (N := 9) hx hb htg inG_X0 hown hK hP 1 rfl rfl 1 (by decide) (htg _ m_83) (fun _ h9 => h9) rfl d_D_lowerGroupPhase_6 ?_
    refine lv_iload_n hx hb d_D_lowerGroupPhase_9 rfl (lv_at hl 1 rfl) ?_
    have hi := h.1
    have h := h.2
    refine va_iald hx hb hK hP 5 0 rfl rfl hi d_D_lowerGroupPhase_10 ?_
    refine lv_iconst (v := (-1)) hx hb d_D_lowerGroupPhase_11 (by decide) ?_
    refine lv_icmp_eq (tgt := 25) hx hb d_D_lowerGroupPhase_12 (by decide) (fun cn => ?_) (fun cn => ?_)
    · have h := h.1 cn
      rw [hG25] at h
      exact h _ _ _ hP hS (lv_sub hl [0, 1, 2] rfl)
    · have h := h.2 cn
      refine lv_iload_n hx hb d_D_lowerGroupPhase_15 rfl (lv_at hl 2 rfl) ?_
      refine lv_aload_n hx hb d_D_lowerGroupPhase_16 rfl (lv_at hl 0 rfl) ?_
      refine va_get (D := D) (ci := 0) (v := .ref (ad 5)) (C := RX0) (T := TX0) (N := 9) hx hb htg inG_X0 hown hK hP 1 rfl rfl 1 (by decide) (htg _ m_83) (fun _ h9 => h9) rfl d_D_lowerGroupPhase_17 ?_
      refine lv_iload_n hx hb d_D_lowerGroupPhase_20 rfl (lv_at hl 1 rfl) ?_
      have hi := h.1
      have h := h.2
      refine va_iald hx hb hK hP 5 0 rfl rfl hi d_D_lowerGroupPhase_21 ?_
      refine lv_icmp_ge (tgt := 32) hx hb d_D_lowerGroupPhase_22 (by decide) (fun cn => ?_) (fun cn => ?_)
      · have h := h.1 cn
        exact W.vret hx hb hr (fun t ht hW => ⟨⟨σ, rfl, h, kBC_of ht hP⟩, hS.F ht⟩) hS.2.2 d_D_lowerGroupPhase_32 hlocks
      · have h := h.2 cn
        rw [hG25] at h
        exact h _ _ _ hP hS (lv_sub hl [0, 1, 2] rfl)
set_option maxHeartbeats 4000000 in
set_option maxRecDepth 100000 in
theorem met_D_settle (l : Launch) (D : va_G) (ad : Nat → Nat) (cA cB : ClassId) (hap : kapC ad) (σ : S0) (sz : Nat) (post : S0 → Prop) (h : Sp_D_settle  σ post) : Met l y_D_settle (Cond.code y_D_settle c_D_settle 2 none :: wsG) ({ frames := 2, cells := 0, slots := 0, locals := 60 } : Room) (kPcC D ad cA cB σ sz [.ref (ad 1)]) (va_Qv post (kBC D ad cA cB) (kAC ad sz)) 0 0 (kAC ad sz) := by
  refine Met.ofW (cc := c_D_settle) (maxL := 2) (ret := none) (by decide) rfl ?_
  intro p e s m args below meth c s₁ B hml hv
  obtain ⟨rfl, hsz, hP, hK, hF⟩ := hv
  have hx := B.exec
  have hb := B.bytes
  have hr := B.returns
  have hts := atoms_spec (ws := (Cond.code y_D_settle c_D_settle 2 none :: wsG)) B.pre
  have htg : ∀ w ∈ wsG, w.before ([.ref (ad 1)] : List Value).toArray s = true := fun w h => hts w (List.mem_cons_of_mem _ h)
  have hown : s.vm.findClass RX0 = some m.cls := findClass_of_methodNamed B.named
  have hlocks := B.notSynchronized
  subst hsz
  have hD : ∀ σ, va_D (kAC ad s.heap.size) (wC ad cA cB σ) := fun σ => wC_D hap cA cB σ _
  have hS : va_S (kAC ad s.heap.size) s.heap s.heap [] := va_S.rf
  have hE := hF.1
  have hl := lv_entry ([.ref (ad 1)]) (n := 2) (Nat.le_of_ble_eq_true rfl)
  rw [lg_entry_eq]
  generalize (lg_sl ([.ref (ad 1)]) ++ List.replicate (2 - (lg_sl ([.ref (ad 1)])).length) Slot.unset).toArray = ls at hl ⊢
  have hl : lv_has ls 2 [(0, .ref (ad 1))] := hl
  unfold Sp_D_settle at h
  obtain ⟨G2, hG2⟩ : ∃ G : Int32 → S0 → Prop, G = fun (x1 : Int32) (σ : S0) => ∀ (H : Heap) (locs : List Loc) (ls : Array Slot), va_P D vwCl (wC ad cA cB σ) H → va_S (kAC ad s.heap.size) s.heap H locs → lv_has ls 2 [(0, .ref (ad 1)), (1, .int x1)] → W p l e (headSpec (Cond.code y_D_settle c_D_settle 2 none :: wsG) ({ frames := 2, cells := 0, slots := 0, locals := 60 } : Room)).room s m ([.ref (ad 1)] : List Value).toArray below meth c H locs 0 0 (MQ below (va_Qv post (kBC D ad cA cB) (kAC ad s.heap.size)) ([.ref (ad 1)] : List Value).toArray s 0 0 (kAC ad s.heap.size)) (F0 m 2 ls []) := ⟨_, rfl⟩
  obtain ⟨G30, hG30⟩ : ∃ G : Int32 → S0 → Prop, G = fun (x1 : Int32) (σ : S0) => ∀ (H : Heap) (locs : List Loc) (ls : Array Slot), va_P D vwCl (wC ad cA cB σ) H → va_S (kAC ad s.heap.size) s.heap H locs → lv_has ls 2 [(0, .ref (ad 1)), (1, .int x1)] → W p l e (headSpec (Cond.code y_D_settle c_D_settle 2 none :: wsG) ({ frames := 2, cells := 0, slots := 0, locals := 60 } : Room)).room s m ([.ref (ad 1)] : List Value).toArray below meth c H locs 0 0 (MQ below (va_Qv post (kBC D ad cA cB) (kAC ad s.heap.size)) ([.ref (ad 1)] : List Value).toArray s 0 0 (kAC ad s.heap.size)) (F0 m 30 ls []) := ⟨_, rfl⟩
  have h := h G2 G30
  have h := h (by
    intro x1 σ h
    rw [hG2]
    intro H locs ls hP hS hl
    refine lv_iload_n hx hb d_D_settle_2 rfl (lv_at hl 1 rfl) ?_
    refine lv_bipush (v := 16) hx hb d_D_settle_3 (by decide) ?_
    refine lv_icmp_ge (tgt := 28) hx hb d_D_settle_5 (by decide) (fun cn => ?_) (fun cn => ?_)
    · have h := h.1 cn
      refine lv_iconst (v := 0) hx hb d_D_settle_28 (by decide) ?_
      refine lv_istore_n (lv' := [(1, .int 0), (0, .ref (ad 1))]) hx hb d_D_settle_29 rfl hl (by decide) rfl (fun ls hl => ?_)
      rw [hG30] at h
      exact h _ _ _ hP hS (lv_sub hl [1, 0] rfl)
    · have h := h.2 cn
      refine lv_aload_n hx hb d_D_settle_8 rfl (lv_at hl 0 rfl) ?_
      refine va_get (D := D) (ci := 0) (v := .ref (ad 6)) (C := RX0) (T := TX0) (N := 9) hx hb htg inG_X0 hown hK hP 1 rfl rfl 2 (by decide) (htg _ m_84) (fun _ h9 => h9) rfl d_D_settle_9 ?_
      refine lv_iload_n hx hb d_D_settle_12 rfl (lv_at hl 1 rfl) ?_
      refine lv_iconst (v := 0) hx hb d_D_settle_13 (by decide) ?_
      have hi := h.1
      have h := h.2
      refine va_iast hx hb hK hP (hD _) hS 6 0 rfl rfl hi d_D_settle_14 (fun H locs hP _ hS => ?_)
      obtain ⟨σ1, eσ1⟩ : ∃ z : S0, z = st σ 6 x1.toNatClampNeg 0 := ⟨_, rfl⟩
      have hP : va_P D vwCl (wC ad cA cB σ1) H := by rw [eσ1]; exact hP
      have h := h σ1 eσ1
      refine lv_aload_n hx hb d_D_settle_15 rfl (lv_at hl 0 rfl) ?_
      refine va_get (D := D) (ci := 0) (v := .ref (ad 5)) (C := RX0) (T := TX0) (N := 9) hx hb htg inG_X0 hown hK hP 1 rfl rfl 1 (by decide) (htg _ m_83) (fun _ h9 => h9) rfl d_D_settle_16 ?_
      refine lv_iload_n hx hb d_D_settle_19 rfl (lv_at hl 1 rfl) ?_
      refine lv_iconst (v := (-1)) hx hb d_D_settle_20 (by decide) ?_
      have hi := h.1
      have h := h.2
      refine va_iast hx hb hK hP (hD _) hS 5 0 rfl rfl hi d_D_settle_21 (fun H locs hP _ hS => ?_)
      obtain ⟨σ2, eσ2⟩ : ∃ z : S0, z = st σ1 5 x1.toNatClampNeg (-1) := ⟨_, rfl⟩
      have hP : va_P D vwCl (wC ad cA cB σ2) H := by rw [eσ2]; exact hP
      have h := h σ2 eσ2
      refine lv_iinc (v := (x1 + 1)) (lv' := [(1, .int (x1 + 1)), (0, .ref (ad 1))]) hx hb d_D_settle_22 hl (k := 1) rfl rfl (by decide) rfl (fun ls hl => ?_)
      refine lv_goto (tgt := 2) hx hb d_D_settle_25 (by decide) ?_
      rw [hG2] at h
      exact h _ _ _ hP hS (lv_sub hl [1, 0] rfl))
  have h := h (by
    intro x1 σ h
    rw [hG30]
    intro H locs ls hP hS hl
    refine lv_iload_n hx hb d_D_settle_30 rfl (lv_at hl 1 rfl) ?_
    refine lv_bipush (v := 16) hx hb d_D_settle_31 (by decide) ?_
    refine lv_icmp_ge (tgt := 82) hx hb d_D_settle_33 (by decide) (fun cn => ?_) (fun cn => ?_)
    · have h := h.1 cn
      refine lv_aload_n hx hb d_D_settle_82 rfl (lv_at hl 0 rfl) ?_
      refine va_get (D := D) (ci := 0) (v := .ref (ad 6)) (C := RX0) (T := TX0) (N := 9) hx hb htg inG_X0 hown hK hP 1 rfl rfl 2 (by decide) (htg _ m_84) (fun _ h9 => h9) rfl d_D_settle_83 ?_
      refine lv_iconst (v := 0) hx hb d_D_settle_86 (by decide) ?_
      refine lv_aload_n hx hb d_D_settle_87 rfl (lv_at hl 0 rfl) ?_
      refine va_get (D := D) (ci := 0) (v := .ref (ad 9)) (C := RX0) (T := TX0) (N := 9) hx hb htg inG_X0 hown hK hP 1 rfl rfl 8 (by decide) (htg _ m_95) (fun _ h9 => h9) rfl d_D_settle_88 ?_
      refine lv_iconst (v := 0) hx hb d_D_settle_91 (by decide) ?_
      refine lv_bipush (v := 16) hx hb d_D_settle_92 (by decide) ?_
      have hi := h.1
      have h := h.2
      refine va_copyi hx hb (hml.trans hl.1.symm) hown (htg _ m_331) (htg _ m_333) (htg _ m_332) (htg _ m_62) hK hP (hD _) hS 6 9 0 0 rfl rfl rfl rfl rfl (by decide) (by decide) hi.1 (by rw [sb_cl0, Nat.zero_add]; exact hi.2.1) (by rw [sb_cl0, Nat.zero_add]; exact hi.2.2) (fun _ _ => rfl) (Nat.le_of_ble_eq_true rfl) (Nat.le_of_ble_eq_true rfl) d_D_settle_94 (fun H locs hP _ hS => ?_)
      obtain ⟨σ3, eσ3⟩ : ∃ z : S0, z = cp σ 6 9 (16 : Int32).toNatClampNeg := ⟨_, rfl⟩
      have hP : va_P D vwCl (wC ad cA cB σ3) H := by rw [eσ3]; exact hP
      have h := h σ3 eσ3
      refine lv_aload_n hx hb d_D_settle_97 rfl (lv_at hl 0 rfl) ?_
      refine va_get (D := D) (ci := 0) (v := .ref (ad 9)) (C := RX0) (T := TX0) (N := 9) hx hb htg inG_X0 hown hK hP 1 rfl rfl 8 (by decide) (htg _ m_95) (fun _ h9 => h9) rfl d_D_settle_98 ?_
      refine lv_aload_n hx hb d_D_settle_101 rfl (lv_at hl 0 rfl) ?_
      refine lv_aload_n hx hb d_D_settle_102 rfl (lv_at hl 0 rfl) ?_
      refine va_get (D := D) (ci := 0) (v := .int (σ3 0 1)) (C := RX0) (T := TX0) (N := 9) hx hb htg inG_X0 hown hK hP 1 rfl rfl 3 (by decide) (htg _ m_87) (fun _ h9 => h9) rfl d_D_settle_103 ?_
      refine kC_i (va_runV (As := [.int (σ3 0 1)]) (rest := [.ref (ad 9)]) ⟨hx, hb, hml, hown, htg⟩ (met_D_leadersOf l D ad cA cB hap σ3 H.size (σ3 0 1) _ h) (cwV 1 htg (kG (kG_V m_323 m_324 m_325 m_54 (kG_self m_326))) rfl rfl rfl (by decide +kernel) ⟨Nat.le_of_ble_eq_true rfl, Nat.le_of_ble_eq_true rfl⟩) (kC_preV hK hF hP hS 1 rfl rfl _) rfl rfl hl.1 rfl (lv_room (Nat.le_of_ble_eq_true rfl)) d_D_settle_106 ⟨Nat.le_of_ble_eq_true rfl, Nat.le_of_ble_eq_true rfl⟩) hS (fun r5 σ4 H locs h hP hS => ?_)
      refine kC_v (va_runSN (As := [.ref (ad 9), .int r5]) (rest := []) ⟨hx, hb, hml, hown, htg⟩ (met_M_goOn_9 l D ad cA cB hap σ4 H.size r5 _ h) ⟨va_cnB (host := "MatrixSheets") 2 htg (kG (kG_self m_336)) rfl rfl rfl (hE _ me_334) (htg _ m_53) (by decide +kernel) ⟨Nat.le_of_ble_eq_true rfl, Nat.le_of_ble_eq_true rfl⟩, htg _ m_335, trivial⟩ (kC_pre hK hF hP hS _) rfl rfl hl.1 rfl (lv_room (Nat.le_of_ble_eq_true rfl)) d_D_settle_109 ⟨Nat.le_of_ble_eq_true rfl, Nat.le_of_ble_eq_true rfl⟩) hS (fun σ6 H locs h hP hS => ?_)
      exact W.vret hx hb hr (fun t ht hW => ⟨⟨σ6, rfl, h, kBC_of ht hP⟩, hS.F ht⟩) hS.2.2 d_D_settle_112 hlocks
    · have h := h.2 cn
      refine lv_aload_n hx hb d_D_settle_36 rfl (lv_at hl 0 rfl) ?_
      refine va_get (D := D) (ci := 0) (v := .ref (ad 6)) (C := RX0) (T := TX0) (N := 9) hx hb htg inG_X0 hown hK hP 1 rfl rfl 2 (by decide) (htg _ m_84) (fun _ h9 => h9) rfl d_D_settle_37 ?_
      refine lv_aload_n hx hb d_D_settle_40 rfl (lv_at hl 0 rfl) ?_
      refine va_get (D := D) (ci := 0) (v := .ref (ad 4)) (C := RX0) (T := TX0) (N := 9) hx hb htg inG_X0 hown hK hP 1 rfl rfl 0 (by decide) (htg _ m_81) (fun _ h9 => h9) rfl d_D_settle_41 ?_
      refine lv_iload_n hx hb d_D_settle_44 rfl (lv_at hl 1 rfl) ?_
      have hi := h.1
      have h := h.2
      refine va_iald hx hb hK hP 4 0 rfl rfl hi d_D_settle_45 ?_
      refine lv_dup2_11 hx hb d_D_settle_46 rfl rfl ?_
      have hi := h.1
      have h := h.2
      refine va_iald hx hb hK hP 6 0 rfl rfl hi d_D_settle_47 ?_
      refine lv_aload_n hx hb d_D_settle_48 rfl (lv_at hl 0 rfl) ?_
      refine lv_aload_n hx hb d_D_settle_49 rfl (lv_at hl 0 rfl) ?_
      refine va_get (D := D) (ci := 0) (v := .ref (ad 7)) (C := RX0) (T := TX0) (N := 9) hx hb htg inG_X0 hown hK hP 1 rfl rfl 6 (by decide) (htg _ m_93) (fun _ h9 => h9) rfl d_D_settle_50 ?_
      refine lv_iload_n hx hb d_D_settle_53 rfl (lv_at hl 1 rfl) ?_
      have hi := h.1
      have h := h.2
      refine va_iald hx hb hK hP 7 0 rfl rfl hi d_D_settle_54 ?_
      refine kC_i (va_runV (As := [.int (σ 7 x1.toNatClampNeg)]) (rest := [.int (σ 6 (σ 4 x1.toNatClampNeg).toNatClampNeg), .int (σ 4 x1.toNatClampNeg), .ref (ad 6)]) ⟨hx, hb, hml, hown, htg⟩ (met_D_leadersOf l D ad cA cB hap σ H.size (σ 7 x1.toNatClampNeg) _ h) (cwV 1 htg (kG (kG_V m_323 m_324 m_325 m_54 (kG_self m_326))) rfl rfl rfl (by decide +kernel) ⟨Nat.le_of_ble_eq_true rfl, Nat.le_of_ble_eq_true rfl⟩) (kC_preV hK hF hP hS 1 rfl rfl _) rfl rfl hl.1 rfl (lv_room (Nat.le_of_ble_eq_true rfl)) d_D_settle_55 ⟨Nat.le_of_ble_eq_true rfl, Nat.le_of_ble_eq_true rfl⟩) hS (fun r8 σ7 H locs h hP hS => ?_)
      refine lv_ior hx hb d_D_settle_58 ?_
      have hi := h.1
      have h := h.2
      refine va_iast hx hb hK hP (hD _) hS 6 0 rfl rfl hi d_D_settle_59 (fun H locs hP _ hS => ?_)
      obtain ⟨σ9, eσ9⟩ : ∃ z : S0, z = st σ7 6 (σ 4 x1.toNatClampNeg).toNatClampNeg ((σ 6 (σ 4 x1.toNatClampNeg).toNatClampNeg) ||| r8) := ⟨_, rfl⟩
      have hP : va_P D vwCl (wC ad cA cB σ9) H := by rw [eσ9]; exact hP
      have h := h σ9 eσ9
      refine lv_aload_n hx hb d_D_settle_60 rfl (lv_at hl 0 rfl) ?_
      refine lv_aload_n hx hb d_D_settle_61 rfl (lv_at hl 0 rfl) ?_
      refine va_get (D := D) (ci := 0) (v := .ref (ad 4)) (C := RX0) (T := TX0) (N := 9) hx hb htg inG_X0 hown hK hP 1 rfl rfl 0 (by decide) (htg _ m_81) (fun _ h9 => h9) rfl d_D_settle_62 ?_
      refine lv_iload_n hx hb d_D_settle_65 rfl (lv_at hl 1 rfl) ?_
      have hi := h.1
      have h := h.2
      refine va_iald hx hb hK hP 4 0 rfl rfl hi d_D_settle_66 ?_
      refine lv_aload_n hx hb d_D_settle_67 rfl (lv_at hl 0 rfl) ?_
      refine va_get (D := D) (ci := 0) (v := .ref (ad 8)) (C := RX0) (T := TX0) (N := 9) hx hb htg inG_X0 hown hK hP 1 rfl rfl 7 (by decide) (htg _ m_94) (fun _ h9 => h9) rfl d_D_settle_68 ?_
      refine lv_iload_n hx hb d_D_settle_71 rfl (lv_at hl 1 rfl) ?_
      have hi := h.1
      have h := h.2
      refine va_iald hx hb hK hP 8 0 rfl rfl hi d_D_settle_72 ?_
      refine kC_v (va_runV (As := [.int (σ9 4 x1.toNatClampNeg), .int (σ9 8 x1.toNatClampNeg)]) (rest := []) ⟨hx, hb, hml, hown, htg⟩ (met_D_lowerGroupPhase l D ad cA cB hap σ9 H.size (σ9 4 x1.toNatClampNeg) (σ9 8 x1.toNatClampNeg) _ h) (cwV 2 htg (kG (kG_V m_327 m_329 m_2 m_54 (kG_self m_330))) rfl rfl rfl (by decide +kernel) ⟨Nat.le_of_ble_eq_true rfl, Nat.le_of_ble_eq_true rfl⟩) (kC_preV hK hF hP hS 1 rfl rfl _) rfl rfl hl.1 rfl (lv_room (Nat.le_of_ble_eq_true rfl)) d_D_settle_73 ⟨Nat.le_of_ble_eq_true rfl, Nat.le_of_ble_eq_true rfl⟩) hS (fun σ10 H locs h hP hS => ?_)
      refine lv_iinc (v := (x1 + 1)) (lv' := [(1, .int (x1 + 1)), (0, .ref (ad 1))]) hx hb d_D_settle_76 hl (k := 1) rfl rfl (by decide) rfl (fun ls hl => ?_)
      refine lv_goto (tgt := 30) hx hb d_D_settle_79 (by decide) ?_
      rw [hG30] at h
      exact h _ _ _ hP hS (lv_sub hl [1, 0] rfl))
  obtain ⟨H, eH⟩ : ∃ z, z = s.heap := ⟨_, rfl⟩
  have hP : va_P D vwCl (wC ad cA cB σ) H := by rw [eH]; exact hP
  have hS : va_S (kAC ad s.heap.size) s.heap H [] := by rw [eH]; exact hS
  show W p l e (headSpec (Cond.code y_D_settle c_D_settle 2 none :: wsG) ({ frames := 2, cells := 0, slots := 0, locals := 60 } : Room)).room s m ([.ref (ad 1)] : List Value).toArray below meth c s.heap [] 0 0 (MQ below (va_Qv post (kBC D ad cA cB) (kAC ad s.heap.size)) ([.ref (ad 1)] : List Value).toArray s 0 0 (kAC ad s.heap.size)) (F0 m 0 ls [])
  suffices k : W p l e (headSpec (Cond.code y_D_settle c_D_settle 2 none :: wsG) ({ frames := 2, cells := 0, slots := 0, locals := 60 } : Room)).room s m ([.ref (ad 1)] : List Value).toArray below meth c H [] 0 0 (MQ below (va_Qv post (kBC D ad cA cB) (kAC ad s.heap.size)) ([.ref (ad 1)] : List Value).toArray s 0 0 (kAC ad s.heap.size)) (F0 m 0 ls []) by rw [eH] at k; exact k
  refine lv_iconst (v := 0) hx hb d_D_settle_0 (by decide) ?_
  refine lv_istore_n (lv' := [(1, .int 0), (0, .ref (ad 1))]) hx hb d_D_settle_1 rfl hl (by decide) rfl (fun ls hl => ?_)
  rw [hG2] at h
  exact h _ _ _ hP hS (lv_sub hl [1, 0] rfl)
set_option maxHeartbeats 4000000 in
set_option maxRecDepth 100000 in
theorem met_D_tellAbove (l : Launch) (D : va_G) (ad : Nat → Nat) (cA cB : ClassId) (hap : kapC ad) (σ : S0) (sz : Nat) (a1 a2 : Int32) (post : Int32 → S0 → Prop) (h : Sp_D_tellAbove a1 a2 σ post) : Met l y_D_tellAbove (Cond.code y_D_tellAbove c_D_tellAbove 3 (some .int) :: wsG) ({ frames := 3, cells := 0, slots := 0, locals := 81 } : Room) (kPcC D ad cA cB σ sz [.ref (ad 1), .int a1, .int a2]) (va_Qi post (kBC D ad cA cB) (kAC ad sz)) 0 0 (kAC ad sz) := by
  refine Met.ofW (cc := c_D_tellAbove) (maxL := 3) (ret := (some .int)) (by decide) rfl ?_
  intro p e s m args below meth c s₁ B hml hv
  obtain ⟨rfl, hsz, hP, hK, hF⟩ := hv
  have hx := B.exec
  have hb := B.bytes
  have hr := B.returns
  have hts := atoms_spec (ws := (Cond.code y_D_tellAbove c_D_tellAbove 3 (some .int) :: wsG)) B.pre
  have htg : ∀ w ∈ wsG, w.before ([.ref (ad 1), .int a1, .int a2] : List Value).toArray s = true := fun w h => hts w (List.mem_cons_of_mem _ h)
  have hown : s.vm.findClass RX0 = some m.cls := findClass_of_methodNamed B.named
  have hlocks := B.notSynchronized
  subst hsz
  have hD : ∀ σ, va_D (kAC ad s.heap.size) (wC ad cA cB σ) := fun σ => wC_D hap cA cB σ _
  have hS : va_S (kAC ad s.heap.size) s.heap s.heap [] := va_S.rf
  have hE := hF.1
  have hl := lv_entry ([.ref (ad 1), .int a1, .int a2]) (n := 3) (Nat.le_of_ble_eq_true rfl)
  rw [lg_entry_eq]
  generalize (lg_sl ([.ref (ad 1), .int a1, .int a2]) ++ List.replicate (3 - (lg_sl ([.ref (ad 1), .int a1, .int a2])).length) Slot.unset).toArray = ls at hl ⊢
  have hl : lv_has ls 3 [(0, .ref (ad 1)), (1, .int a1), (2, .int a2)] := hl
  unfold Sp_D_tellAbove at h
  obtain ⟨H, eH⟩ : ∃ z, z = s.heap := ⟨_, rfl⟩
  have hP : va_P D vwCl (wC ad cA cB σ) H := by rw [eH]; exact hP
  have hS : va_S (kAC ad s.heap.size) s.heap H [] := by rw [eH]; exact hS
  show W p l e (headSpec (Cond.code y_D_tellAbove c_D_tellAbove 3 (some .int) :: wsG) ({ frames := 3, cells := 0, slots := 0, locals := 81 } : Room)).room s m ([.ref (ad 1), .int a1, .int a2] : List Value).toArray below meth c s.heap [] 0 0 (MQ below (va_Qi post (kBC D ad cA cB) (kAC ad s.heap.size)) ([.ref (ad 1), .int a1, .int a2] : List Value).toArray s 0 0 (kAC ad s.heap.size)) (F0 m 0 ls [])
  suffices k : W p l e (headSpec (Cond.code y_D_tellAbove c_D_tellAbove 3 (some .int) :: wsG) ({ frames := 3, cells := 0, slots := 0, locals := 81 } : Room)).room s m ([.ref (ad 1), .int a1, .int a2] : List Value).toArray below meth c H [] 0 0 (MQ below (va_Qi post (kBC D ad cA cB) (kAC ad s.heap.size)) ([.ref (ad 1), .int a1, .int a2] : List Value).toArray s 0 0 (kAC ad s.heap.size)) (F0 m 0 ls []) by rw [eH] at k; exact k
  refine lv_aload_n hx hb d_D_tellAbove_0 rfl (lv_at hl 0 rfl) ?_
  refine va_get (D := D) (ci := 0) (v := .ref (ad 7)) (C := RX0) (T := TX0) (N := 9) hx hb htg inG_X0 hown hK hP 1 rfl rfl 6 (by decide) (htg _ m_93) (fun _ h9 => h9) rfl d_D_tellAbove_1 ?_
  refine lv_iload_n hx hb d_D_tellAbove_4 rfl (lv_at hl 1 rfl) ?_
  have hi := h.1
  have h := h.2
  refine va_iald hx hb hK hP 7 0 rfl rfl hi d_D_tellAbove_5 ?_
  refine lv_iload_n hx hb d_D_tellAbove_6 rfl (lv_at hl 2 rfl) ?_
  refine kC_i (va_runSN (As := [.int (σ 7 a1.toNatClampNeg), .int a2]) (rest := []) ⟨hx, hb, hml, hown, htg⟩ (met_M_has l D ad cA cB hap σ H.size (σ 7 a1.toNatClampNeg) a2 _ h) ⟨va_cnB (host := "MatrixSheets") 2 htg (kG (kG_self m_318)) rfl rfl rfl (hE _ me_316) (htg _ m_53) (by decide +kernel) ⟨Nat.le_of_ble_eq_true rfl, Nat.le_of_ble_eq_true rfl⟩, htg _ m_317, trivial⟩ (kC_pre hK hF hP hS _) rfl rfl hl.1 rfl (lv_room (Nat.le_of_ble_eq_true rfl)) d_D_tellAbove_7 ⟨Nat.le_of_ble_eq_true rfl, Nat.le_of_ble_eq_true rfl⟩) hS (fun r2 σ1 H locs h hP hS => ?_)
  refine lv_if_eq (tgt := 15) hx hb d_D_tellAbove_10 (by decide) (fun cn => ?_) (fun cn => ?_)
  · have h := h.1 cn
    refine lv_aload_n hx hb d_D_tellAbove_15 rfl (lv_at hl 0 rfl) ?_
    refine va_get (D := D) (ci := 0) (v := .ref (ad 4)) (C := RX0) (T := TX0) (N := 9) hx hb htg inG_X0 hown hK hP 1 rfl rfl 0 (by decide) (htg _ m_81) (fun _ h9 => h9) rfl d_D_tellAbove_16 ?_
    refine lv_iload_n hx hb d_D_tellAbove_19 rfl (lv_at hl 1 rfl) ?_
    have hi := h.1
    have h := h.2
    refine va_iald hx hb hK hP 4 0 rfl rfl hi d_D_tellAbove_20 ?_
    refine lv_aload_n hx hb d_D_tellAbove_21 rfl (lv_at hl 0 rfl) ?_
    refine va_get (D := D) (ci := 0) (v := .ref (ad 4)) (C := RX0) (T := TX0) (N := 9) hx hb htg inG_X0 hown hK hP 1 rfl rfl 0 (by decide) (htg _ m_81) (fun _ h9 => h9) rfl d_D_tellAbove_22 ?_
    refine lv_iload_n hx hb d_D_tellAbove_25 rfl (lv_at hl 2 rfl) ?_
    have hi := h.1
    have h := h.2
    refine va_iald hx hb hK hP 4 0 rfl rfl hi d_D_tellAbove_26 ?_
    refine lv_icmp_eq (tgt := 53) hx hb d_D_tellAbove_27 (by decide) (fun cn => ?_) (fun cn => ?_)
    · have h := h.1 cn
      refine lv_iconst (v := (-1)) hx hb d_D_tellAbove_53 (by decide) ?_
      exact W.iret (v := (-1)) hx hb hr (fun t ht hW => ⟨⟨_, σ1, rfl, h, kBC_of ht hP⟩, hS.F ht⟩) hS.2.2 d_D_tellAbove_54 hlocks
    · have h := h.2 cn
      refine lv_aload_n hx hb d_D_tellAbove_30 rfl (lv_at hl 0 rfl) ?_
      refine va_get (D := D) (ci := 0) (v := .ref (ad 9)) (C := RX0) (T := TX0) (N := 9) hx hb htg inG_X0 hown hK hP 1 rfl rfl 8 (by decide) (htg _ m_95) (fun _ h9 => h9) rfl d_D_tellAbove_31 ?_
      refine lv_aload_n hx hb d_D_tellAbove_34 rfl (lv_at hl 0 rfl) ?_
      refine va_get (D := D) (ci := 0) (v := .ref (ad 4)) (C := RX0) (T := TX0) (N := 9) hx hb htg inG_X0 hown hK hP 1 rfl rfl 0 (by decide) (htg _ m_81) (fun _ h9 => h9) rfl d_D_tellAbove_35 ?_
      refine lv_iload_n hx hb d_D_tellAbove_38 rfl (lv_at hl 2 rfl) ?_
      have hi := h.1
      have h := h.2
      refine va_iald hx hb hK hP 4 0 rfl rfl hi d_D_tellAbove_39 ?_
      have hi := h.1
      have h := h.2
      refine va_iald hx hb hK hP 9 0 rfl rfl hi d_D_tellAbove_40 ?_
      refine lv_aload_n hx hb d_D_tellAbove_41 rfl (lv_at hl 0 rfl) ?_
      refine va_get (D := D) (ci := 0) (v := .ref (ad 4)) (C := RX0) (T := TX0) (N := 9) hx hb htg inG_X0 hown hK hP 1 rfl rfl 0 (by decide) (htg _ m_81) (fun _ h9 => h9) rfl d_D_tellAbove_42 ?_
      refine lv_iload_n hx hb d_D_tellAbove_45 rfl (lv_at hl 1 rfl) ?_
      have hi := h.1
      have h := h.2
      refine va_iald hx hb hK hP 4 0 rfl rfl hi d_D_tellAbove_46 ?_
      refine kC_i (va_runSN (As := [.int (σ1 9 (σ1 4 a2.toNatClampNeg).toNatClampNeg), .int (σ1 4 a1.toNatClampNeg)]) (rest := []) ⟨hx, hb, hml, hown, htg⟩ (met_M_has l D ad cA cB hap σ1 H.size (σ1 9 (σ1 4 a2.toNatClampNeg).toNatClampNeg) (σ1 4 a1.toNatClampNeg) _ h) ⟨va_cnB (host := "MatrixSheets") 2 htg (kG (kG_self m_318)) rfl rfl rfl (hE _ me_316) (htg _ m_53) (by decide +kernel) ⟨Nat.le_of_ble_eq_true rfl, Nat.le_of_ble_eq_true rfl⟩, htg _ m_317, trivial⟩ (kC_pre hK hF hP hS _) rfl rfl hl.1 rfl (lv_room (Nat.le_of_ble_eq_true rfl)) d_D_tellAbove_47 ⟨Nat.le_of_ble_eq_true rfl, Nat.le_of_ble_eq_true rfl⟩) hS (fun r4 σ3 H locs h hP hS => ?_)
      refine lv_if_eq (tgt := 55) hx hb d_D_tellAbove_50 (by decide) (fun cn => ?_) (fun cn => ?_)
      · have h := h.1 cn
        refine lv_aload_n hx hb d_D_tellAbove_55 rfl (lv_at hl 0 rfl) ?_
        refine va_get (D := D) (ci := 0) (v := .ref (ad 7)) (C := RX0) (T := TX0) (N := 9) hx hb htg inG_X0 hown hK hP 1 rfl rfl 6 (by decide) (htg _ m_93) (fun _ h9 => h9) rfl d_D_tellAbove_56 ?_
        refine lv_iload_n hx hb d_D_tellAbove_59 rfl (lv_at hl 1 rfl) ?_
        refine lv_dup2_11 hx hb d_D_tellAbove_60 rfl rfl ?_
        have hi := h.1
        have h := h.2
        refine va_iald hx hb hK hP 7 0 rfl rfl hi d_D_tellAbove_61 ?_
        refine lv_iconst (v := 1) hx hb d_D_tellAbove_62 (by decide) ?_
        refine lv_iload_n hx hb d_D_tellAbove_63 rfl (lv_at hl 2 rfl) ?_
        refine lv_ishl hx hb d_D_tellAbove_64 ?_
        refine lv_ior hx hb d_D_tellAbove_65 ?_
        have hi := h.1
        have h := h.2
        refine va_iast hx hb hK hP (hD _) hS 7 0 rfl rfl hi d_D_tellAbove_66 (fun H locs hP _ hS => ?_)
        obtain ⟨σ5, eσ5⟩ : ∃ z : S0, z = st σ3 7 a1.toNatClampNeg ((σ3 7 a1.toNatClampNeg) ||| (1 <<< (a2 &&& 31))) := ⟨_, rfl⟩
        have hP : va_P D vwCl (wC ad cA cB σ5) H := by rw [eσ5]; exact hP
        have h := h σ5 eσ5
        refine lv_aload_n hx hb d_D_tellAbove_67 rfl (lv_at hl 0 rfl) ?_
        refine lv_dup hx hb d_D_tellAbove_68 rfl ?_
        refine va_get (D := D) (ci := 0) (v := .int (σ5 0 3)) (C := RX0) (T := TX0) (N := 9) hx hb htg inG_X0 hown hK hP 1 rfl rfl 5 (by decide) (htg _ m_91) (fun _ h9 => h9) rfl d_D_tellAbove_69 ?_
        refine lv_iconst (v := 1) hx hb d_D_tellAbove_72 (by decide) ?_
        refine lv_iadd hx hb d_D_tellAbove_73 ?_
        refine va_put (D := D) (ci := 0) (v := .int ((σ5 0 3) + 1)) (ty := .int) (C := RX0) (T := TX0) (N := 9) hx hb htg inG_X0 tyX0 tyX0_ok nmX0 hown hK hP (hD _) hS 1 rfl rfl 5 (by decide) (htg _ m_91) (fun _ h9 => h9) rfl (by decide +kernel) rfl rfl (Nat.le_of_ble_eq_true rfl) d_D_tellAbove_74 (fun H locs hP _ hS => ?_)
        obtain ⟨σ6, eσ6⟩ : ∃ z : S0, z = st σ5 0 3 ((σ5 0 3) + 1) := ⟨_, rfl⟩
        have hP : va_P D vwCl (wC ad cA cB σ6) H := by rw [eσ6]; exact hP
        have h := h σ6 eσ6
        refine lv_aload_n hx hb d_D_tellAbove_77 rfl (lv_at hl 0 rfl) ?_
        refine lv_dup hx hb d_D_tellAbove_78 rfl ?_
        refine va_get (D := D) (ci := 0) (v := .int (σ6 0 1)) (C := RX0) (T := TX0) (N := 9) hx hb htg inG_X0 hown hK hP 1 rfl rfl 3 (by decide) (htg _ m_87) (fun _ h9 => h9) rfl d_D_tellAbove_79 ?_
        refine lv_iconst (v := 1) hx hb d_D_tellAbove_82 (by decide) ?_
        refine lv_iload_n hx hb d_D_tellAbove_83 rfl (lv_at hl 1 rfl) ?_
        refine lv_ishl hx hb d_D_tellAbove_84 ?_
        refine lv_iconst (v := 1) hx hb d_D_tellAbove_85 (by decide) ?_
        refine lv_iload_n hx hb d_D_tellAbove_86 rfl (lv_at hl 2 rfl) ?_
        refine lv_ishl hx hb d_D_tellAbove_87 ?_
        refine lv_ior hx hb d_D_tellAbove_88 ?_
        refine lv_ior hx hb d_D_tellAbove_89 ?_
        refine va_put (D := D) (ci := 0) (v := .int ((σ6 0 1) ||| ((1 <<< (a1 &&& 31)) ||| (1 <<< (a2 &&& 31))))) (ty := .int) (C := RX0) (T := TX0) (N := 9) hx hb htg inG_X0 tyX0 tyX0_ok nmX0 hown hK hP (hD _) hS 1 rfl rfl 3 (by decide) (htg _ m_87) (fun _ h9 => h9) rfl (by decide +kernel) rfl rfl (Nat.le_of_ble_eq_true rfl) d_D_tellAbove_90 (fun H locs hP _ hS => ?_)
        obtain ⟨σ7, eσ7⟩ : ∃ z : S0, z = st σ6 0 1 ((σ6 0 1) ||| ((1 <<< (a1 &&& 31)) ||| (1 <<< (a2 &&& 31)))) := ⟨_, rfl⟩
        have hP : va_P D vwCl (wC ad cA cB σ7) H := by rw [eσ7]; exact hP
        have h := h σ7 eσ7
        refine lv_aload_n hx hb d_D_tellAbove_93 rfl (lv_at hl 0 rfl) ?_
        refine kC_v (va_runV (As := []) (rest := []) ⟨hx, hb, hml, hown, htg⟩ (met_D_settle l D ad cA cB hap σ7 H.size _ h) (cwV 0 htg (kG (kG_V m_319 m_321 m_1 m_54 (kG_self m_322))) rfl rfl rfl (by decide +kernel) ⟨Nat.le_of_ble_eq_true rfl, Nat.le_of_ble_eq_true rfl⟩) (kC_preV hK hF hP hS 1 rfl rfl _) rfl rfl hl.1 rfl (lv_room (Nat.le_of_ble_eq_true rfl)) d_D_tellAbove_94 ⟨Nat.le_of_ble_eq_true rfl, Nat.le_of_ble_eq_true rfl⟩) hS (fun σ8 H locs h hP hS => ?_)
        refine lv_iconst (v := 1) hx hb d_D_tellAbove_97 (by decide) ?_
        exact W.iret (v := 1) hx hb hr (fun t ht hW => ⟨⟨_, σ8, rfl, h, kBC_of ht hP⟩, hS.F ht⟩) hS.2.2 d_D_tellAbove_98 hlocks
      · have h := h.2 cn
        refine lv_iconst (v := (-1)) hx hb d_D_tellAbove_53 (by decide) ?_
        exact W.iret (v := (-1)) hx hb hr (fun t ht hW => ⟨⟨_, σ3, rfl, h, kBC_of ht hP⟩, hS.F ht⟩) hS.2.2 d_D_tellAbove_54 hlocks
  · have h := h.2 cn
    refine lv_iconst (v := 0) hx hb d_D_tellAbove_13 (by decide) ?_
    exact W.iret (v := 0) hx hb hr (fun t ht hW => ⟨⟨_, σ1, rfl, h, kBC_of ht hP⟩, hS.F ht⟩) hS.2.2 d_D_tellAbove_14 hlocks
set_option maxHeartbeats 4000000 in
set_option maxRecDepth 100000 in
theorem met_M_changed (l : Launch) (D : va_G) (ad : Nat → Nat) (cA cB : ClassId) (hap : kapC ad) (σ : S0) (sz : Nat) (a1 : Int32) (post : Int32 → S0 → Prop) (h : Sp_M_changed a1 σ post) : Met l y_M_changed (Cond.code y_M_changed c_M_changed 2 (some .int) :: wsG) ({ frames := 0, cells := 0, slots := 0, locals := 0 } : Room) (kPcC D ad cA cB σ sz [.ref (ad 0), .int a1]) (va_Qi post (kBC D ad cA cB) (kAC ad sz)) 0 0 (kAC ad sz) := by
  refine Met.ofW (cc := c_M_changed) (maxL := 2) (ret := (some .int)) (by decide) rfl ?_
  intro p e s m args below meth c s₁ B hml hv
  obtain ⟨rfl, hsz, hP, hK, hF⟩ := hv
  have hx := B.exec
  have hb := B.bytes
  have hr := B.returns
  have hts := atoms_spec (ws := (Cond.code y_M_changed c_M_changed 2 (some .int) :: wsG)) B.pre
  have htg : ∀ w ∈ wsG, w.before ([.ref (ad 0), .int a1] : List Value).toArray s = true := fun w h => hts w (List.mem_cons_of_mem _ h)
  have hown : s.vm.findClass RX3 = some m.cls := findClass_of_methodNamed B.named
  have hlocks := B.notSynchronized
  subst hsz
  have hD : ∀ σ, va_D (kAC ad s.heap.size) (wC ad cA cB σ) := fun σ => wC_D hap cA cB σ _
  have hS : va_S (kAC ad s.heap.size) s.heap s.heap [] := va_S.rf
  have hE := hF.1
  have hl := lv_entry ([.ref (ad 0), .int a1]) (n := 2) (Nat.le_of_ble_eq_true rfl)
  rw [lg_entry_eq]
  generalize (lg_sl ([.ref (ad 0), .int a1]) ++ List.replicate (2 - (lg_sl ([.ref (ad 0), .int a1])).length) Slot.unset).toArray = ls at hl ⊢
  have hl : lv_has ls 2 [(0, .ref (ad 0)), (1, .int a1)] := hl
  unfold Sp_M_changed at h
  obtain ⟨H, eH⟩ : ∃ z, z = s.heap := ⟨_, rfl⟩
  have hP : va_P D vwCl (wC ad cA cB σ) H := by rw [eH]; exact hP
  have hS : va_S (kAC ad s.heap.size) s.heap H [] := by rw [eH]; exact hS
  show W p l e (headSpec (Cond.code y_M_changed c_M_changed 2 (some .int) :: wsG) ({ frames := 0, cells := 0, slots := 0, locals := 0 } : Room)).room s m ([.ref (ad 0), .int a1] : List Value).toArray below meth c s.heap [] 0 0 (MQ below (va_Qi post (kBC D ad cA cB) (kAC ad s.heap.size)) ([.ref (ad 0), .int a1] : List Value).toArray s 0 0 (kAC ad s.heap.size)) (F0 m 0 ls [])
  suffices k : W p l e (headSpec (Cond.code y_M_changed c_M_changed 2 (some .int) :: wsG) ({ frames := 0, cells := 0, slots := 0, locals := 0 } : Room)).room s m ([.ref (ad 0), .int a1] : List Value).toArray below meth c H [] 0 0 (MQ below (va_Qi post (kBC D ad cA cB) (kAC ad s.heap.size)) ([.ref (ad 0), .int a1] : List Value).toArray s 0 0 (kAC ad s.heap.size)) (F0 m 0 ls []) by rw [eH] at k; exact k
  refine lv_iload_n hx hb d_M_changed_0 rfl (lv_at hl 1 rfl) ?_
  refine lv_iconst (v := 1) hx hb d_M_changed_1 (by decide) ?_
  refine lv_icmp_ne (tgt := 10) hx hb d_M_changed_2 (by decide) (fun cn => ?_) (fun cn => ?_)
  · have h := h.1 cn
    refine lv_iload_n hx hb d_M_changed_10 rfl (lv_at hl 1 rfl) ?_
    exact W.iret (v := a1) hx hb hr (fun t ht hW => ⟨⟨_, σ, rfl, h, kBC_of ht hP⟩, hS.F ht⟩) hS.2.2 d_M_changed_11 hlocks
  · have h := h.2 cn
    refine lv_aload_n hx hb d_M_changed_5 rfl (lv_at hl 0 rfl) ?_
    refine lv_iconst (v := 0) hx hb d_M_changed_6 (by decide) ?_
    refine va_put (D := D) (ci := 3) (v := .int 0) (ty := .boolean) (C := RX3) (T := TX3) (N := 4) hx hb htg inG_X3 tyX3 tyX3_ok nmX3 hown hK hP (hD _) hS 0 rfl rfl 3 (by decide) (htg _ m_220) (fun _ h9 => h9) rfl (by decide +kernel) rfl rfl (Nat.le_of_ble_eq_true rfl) d_M_changed_7 (fun H locs hP _ hS => ?_)
    obtain ⟨σ1, eσ1⟩ : ∃ z : S0, z = st σ 0 0 0 := ⟨_, rfl⟩
    have hP : va_P D vwCl (wC ad cA cB σ1) H := by rw [eσ1]; exact hP
    have h := h σ1 eσ1
    refine lv_iload_n hx hb d_M_changed_10 rfl (lv_at hl 1 rfl) ?_
    exact W.iret (v := a1) hx hb hr (fun t ht hW => ⟨⟨_, σ1, rfl, h, kBC_of ht hP⟩, hS.F ht⟩) hS.2.2 d_M_changed_11 hlocks
set_option maxHeartbeats 4000000 in
set_option maxRecDepth 100000 in
theorem met_D_join (l : Launch) (D : va_G) (ad : Nat → Nat) (cA cB : ClassId) (hap : kapC ad) (σ : S0) (sz : Nat) (a1 a2 : Int32) (post : S0 → Prop) (h : Sp_D_join a1 a2 σ post) : Met l y_D_join (Cond.code y_D_join c_D_join 4 none :: wsG) ({ frames := 0, cells := 0, slots := 0, locals := 0 } : Room) (kPcC D ad cA cB σ sz [.ref (ad 1), .int a1, .int a2]) (va_Qv post (kBC D ad cA cB) (kAC ad sz)) 0 0 (kAC ad sz) := by
  refine Met.ofW (cc := c_D_join) (maxL := 4) (ret := none) (by decide) rfl ?_
  intro p e s m args below meth c s₁ B hml hv
  obtain ⟨rfl, hsz, hP, hK, hF⟩ := hv
  have hx := B.exec
  have hb := B.bytes
  have hr := B.returns
  have hts := atoms_spec (ws := (Cond.code y_D_join c_D_join 4 none :: wsG)) B.pre
  have htg : ∀ w ∈ wsG, w.before ([.ref (ad 1), .int a1, .int a2] : List Value).toArray s = true := fun w h => hts w (List.mem_cons_of_mem _ h)
  have hown : s.vm.findClass RX0 = some m.cls := findClass_of_methodNamed B.named
  have hlocks := B.notSynchronized
  subst hsz
  have hD : ∀ σ, va_D (kAC ad s.heap.size) (wC ad cA cB σ) := fun σ => wC_D hap cA cB σ _
  have hS : va_S (kAC ad s.heap.size) s.heap s.heap [] := va_S.rf
  have hE := hF.1
  have hl := lv_entry ([.ref (ad 1), .int a1, .int a2]) (n := 4) (Nat.le_of_ble_eq_true rfl)
  rw [lg_entry_eq]
  generalize (lg_sl ([.ref (ad 1), .int a1, .int a2]) ++ List.replicate (4 - (lg_sl ([.ref (ad 1), .int a1, .int a2])).length) Slot.unset).toArray = ls at hl ⊢
  have hl : lv_has ls 4 [(0, .ref (ad 1)), (1, .int a1), (2, .int a2)] := hl
  unfold Sp_D_join at h
  obtain ⟨G2, hG2⟩ : ∃ G : Int32 → Int32 → Int32 → S0 → Prop, G = fun (x1 x2 x3 : Int32) (σ : S0) => ∀ (H : Heap) (locs : List Loc) (ls : Array Slot), va_P D vwCl (wC ad cA cB σ) H → va_S (kAC ad s.heap.size) s.heap H locs → lv_has ls 4 [(0, .ref (ad 1)), (1, .int x1), (2, .int x2), (3, .int x3)] → W p l e (headSpec (Cond.code y_D_join c_D_join 4 none :: wsG) ({ frames := 0, cells := 0, slots := 0, locals := 0 } : Room)).room s m ([.ref (ad 1), .int a1, .int a2] : List Value).toArray below meth c H locs 0 0 (MQ below (va_Qv post (kBC D ad cA cB) (kAC ad s.heap.size)) ([.ref (ad 1), .int a1, .int a2] : List Value).toArray s 0 0 (kAC ad s.heap.size)) (F0 m 2 ls []) := ⟨_, rfl⟩
  have h := h G2
  have h := h (by
    intro x1 x2 x3 σ h
    rw [hG2]
    intro H locs ls hP hS hl
    refine lv_iload_n hx hb d_D_join_2 rfl (lv_at hl 3 rfl) ?_
    refine lv_bipush (v := 16) hx hb d_D_join_3 (by decide) ?_
    refine lv_icmp_ge (tgt := 31) hx hb d_D_join_5 (by decide) (fun cn => ?_) (fun cn => ?_)
    · have h := h.1 cn
      exact W.vret hx hb hr (fun t ht hW => ⟨⟨σ, rfl, h, kBC_of ht hP⟩, hS.F ht⟩) hS.2.2 d_D_join_31 hlocks
    · have h := h.2 cn
      refine lv_aload_n hx hb d_D_join_8 rfl (lv_at hl 0 rfl) ?_
      refine va_get (D := D) (ci := 0) (v := .ref (ad 4)) (C := RX0) (T := TX0) (N := 9) hx hb htg inG_X0 hown hK hP 1 rfl rfl 0 (by decide) (htg _ m_81) (fun _ h9 => h9) rfl d_D_join_9 ?_
      refine lv_iload_n hx hb d_D_join_12 rfl (lv_at hl 3 rfl) ?_
      have hi := h.1
      have h := h.2
      refine va_iald hx hb hK hP 4 0 rfl rfl hi d_D_join_13 ?_
      refine lv_iload_n hx hb d_D_join_14 rfl (lv_at hl 2 rfl) ?_
      refine lv_icmp_ne (tgt := 25) hx hb d_D_join_15 (by decide) (fun cn => ?_) (fun cn => ?_)
      · have h := h.1 cn
        refine lv_iinc (v := (x3 + 1)) (lv' := [(3, .int (x3 + 1)), (0, .ref (ad 1)), (1, .int x1), (2, .int x2)]) hx hb d_D_join_25 hl (k := 3) rfl rfl (by decide) rfl (fun ls hl => ?_)
        refine lv_goto (tgt := 2) hx hb d_D_join_28 (by decide) ?_
        rw [hG2] at h
        exact h _ _ _ hP hS (lv_sub hl [1, 2, 3, 0] rfl)
      · have h := h.2 cn
        refine lv_aload_n hx hb d_D_join_18 rfl (lv_at hl 0 rfl) ?_
        refine va_get (D := D) (ci := 0) (v := .ref (ad 4)) (C := RX0) (T := TX0) (N := 9) hx hb htg inG_X0 hown hK hP 1 rfl rfl 0 (by decide) (htg _ m_81) (fun _ h9 => h9) rfl d_D_join_19 ?_
        refine lv_iload_n hx hb d_D_join_22 rfl (lv_at hl 3 rfl) ?_
        refine lv_iload_n hx hb d_D_join_23 rfl (lv_at hl 1 rfl) ?_
        have hi := h.1
        have h := h.2
        refine va_iast hx hb hK hP (hD _) hS 4 0 rfl rfl hi d_D_join_24 (fun H locs hP _ hS => ?_)
        obtain ⟨σ1, eσ1⟩ : ∃ z : S0, z = st σ 4 x3.toNatClampNeg x1 := ⟨_, rfl⟩
        have hP : va_P D vwCl (wC ad cA cB σ1) H := by rw [eσ1]; exact hP
        have h := h σ1 eσ1
        refine lv_iinc (v := (x3 + 1)) (lv' := [(3, .int (x3 + 1)), (0, .ref (ad 1)), (1, .int x1), (2, .int x2)]) hx hb d_D_join_25 hl (k := 3) rfl rfl (by decide) rfl (fun ls hl => ?_)
        refine lv_goto (tgt := 2) hx hb d_D_join_28 (by decide) ?_
        rw [hG2] at h
        exact h _ _ _ hP hS (lv_sub hl [1, 2, 3, 0] rfl))
  obtain ⟨H, eH⟩ : ∃ z, z = s.heap := ⟨_, rfl⟩
  have hP : va_P D vwCl (wC ad cA cB σ) H := by rw [eH]; exact hP
  have hS : va_S (kAC ad s.heap.size) s.heap H [] := by rw [eH]; exact hS
  show W p l e (headSpec (Cond.code y_D_join c_D_join 4 none :: wsG) ({ frames := 0, cells := 0, slots := 0, locals := 0 } : Room)).room s m ([.ref (ad 1), .int a1, .int a2] : List Value).toArray below meth c s.heap [] 0 0 (MQ below (va_Qv post (kBC D ad cA cB) (kAC ad s.heap.size)) ([.ref (ad 1), .int a1, .int a2] : List Value).toArray s 0 0 (kAC ad s.heap.size)) (F0 m 0 ls [])
  suffices k : W p l e (headSpec (Cond.code y_D_join c_D_join 4 none :: wsG) ({ frames := 0, cells := 0, slots := 0, locals := 0 } : Room)).room s m ([.ref (ad 1), .int a1, .int a2] : List Value).toArray below meth c H [] 0 0 (MQ below (va_Qv post (kBC D ad cA cB) (kAC ad s.heap.size)) ([.ref (ad 1), .int a1, .int a2] : List Value).toArray s 0 0 (kAC ad s.heap.size)) (F0 m 0 ls []) by rw [eH] at k; exact k
  refine lv_iconst (v := 0) hx hb d_D_join_0 (by decide) ?_
  refine lv_istore_n (lv' := [(3, .int 0), (0, .ref (ad 1)), (1, .int a1), (2, .int a2)]) hx hb d_D_join_1 rfl hl (by decide) rfl (fun ls hl => ?_)
  rw [hG2] at h
  exact h _ _ _ hP hS (lv_sub hl [1, 2, 3, 0] rfl)
set_option maxHeartbeats 4000000 in
set_option maxRecDepth 100000 in
theorem met_D_tellSame (l : Launch) (D : va_G) (ad : Nat → Nat) (cA cB : ClassId) (hap : kapC ad) (σ : S0) (sz : Nat) (a1 a2 : Int32) (post : Int32 → S0 → Prop) (h : Sp_D_tellSame a1 a2 σ post) : Met l y_D_tellSame (Cond.code y_D_tellSame c_D_tellSame 5 (some .int) :: wsG) ({ frames := 3, cells := 0, slots := 0, locals := 81 } : Room) (kPcC D ad cA cB σ sz [.ref (ad 1), .int a1, .int a2]) (va_Qi post (kBC D ad cA cB) (kAC ad sz)) 0 0 (kAC ad sz) := by
  refine Met.ofW (cc := c_D_tellSame) (maxL := 5) (ret := (some .int)) (by decide) rfl ?_
  intro p e s m args below meth c s₁ B hml hv
  obtain ⟨rfl, hsz, hP, hK, hF⟩ := hv
  have hx := B.exec
  have hb := B.bytes
  have hr := B.returns
  have hts := atoms_spec (ws := (Cond.code y_D_tellSame c_D_tellSame 5 (some .int) :: wsG)) B.pre
  have htg : ∀ w ∈ wsG, w.before ([.ref (ad 1), .int a1, .int a2] : List Value).toArray s = true := fun w h => hts w (List.mem_cons_of_mem _ h)
  have hown : s.vm.findClass RX0 = some m.cls := findClass_of_methodNamed B.named
  have hlocks := B.notSynchronized
  subst hsz
  have hD : ∀ σ, va_D (kAC ad s.heap.size) (wC ad cA cB σ) := fun σ => wC_D hap cA cB σ _
  have hS : va_S (kAC ad s.heap.size) s.heap s.heap [] := va_S.rf
  have hE := hF.1
  have hl := lv_entry ([.ref (ad 1), .int a1, .int a2]) (n := 5) (Nat.le_of_ble_eq_true rfl)
  rw [lg_entry_eq]
  generalize (lg_sl ([.ref (ad 1), .int a1, .int a2]) ++ List.replicate (5 - (lg_sl ([.ref (ad 1), .int a1, .int a2])).length) Slot.unset).toArray = ls at hl ⊢
  have hl : lv_has ls 5 [(0, .ref (ad 1)), (1, .int a1), (2, .int a2)] := hl
  unfold Sp_D_tellSame at h
  obtain ⟨H, eH⟩ : ∃ z, z = s.heap := ⟨_, rfl⟩
  have hP : va_P D vwCl (wC ad cA cB σ) H := by rw [eH]; exact hP
  have hS : va_S (kAC ad s.heap.size) s.heap H [] := by rw [eH]; exact hS
  show W p l e (headSpec (Cond.code y_D_tellSame c_D_tellSame 5 (some .int) :: wsG) ({ frames := 3, cells := 0, slots := 0, locals := 81 } : Room)).room s m ([.ref (ad 1), .int a1, .int a2] : List Value).toArray below meth c s.heap [] 0 0 (MQ below (va_Qi post (kBC D ad cA cB) (kAC ad s.heap.size)) ([.ref (ad 1), .int a1, .int a2] : List Value).toArray s 0 0 (kAC ad s.heap.size)) (F0 m 0 ls [])
  suffices k : W p l e (headSpec (Cond.code y_D_tellSame c_D_tellSame 5 (some .int) :: wsG) ({ frames := 3, cells := 0, slots := 0, locals := 81 } : Room)).room s m ([.ref (ad 1), .int a1, .int a2] : List Value).toArray below meth c H [] 0 0 (MQ below (va_Qi post (kBC D ad cA cB) (kAC ad s.heap.size)) ([.ref (ad 1), .int a1, .int a2] : List Value).toArray s 0 0 (kAC ad s.heap.size)) (F0 m 0 ls []) by rw [eH] at k; exact k
  refine lv_aload_n hx hb d_D_tellSame_0 rfl (lv_at hl 0 rfl) ?_
  refine va_get (D := D) (ci := 0) (v := .ref (ad 4)) (C := RX0) (T := TX0) (N := 9) hx hb htg inG_X0 hown hK hP 1 rfl rfl 0 (by decide) (htg _ m_81) (fun _ h9 => h9) rfl d_D_tellSame_1 ?_
  refine lv_iload_n hx hb d_D_tellSame_4 rfl (lv_at hl 1 rfl) ?_
  have hi := h.1
  have h := h.2
  refine va_iald hx hb hK hP 4 0 rfl rfl hi d_D_tellSame_5 ?_
  refine lv_topi (fun v1 ev1 => ?_)
  have h := h v1 ev1
  refine lv_istore_n (lv' := [(3, .int v1), (0, .ref (ad 1)), (1, .int a1), (2, .int a2)]) hx hb d_D_tellSame_6 rfl hl (by decide) rfl (fun ls hl => ?_)
  refine lv_aload_n hx hb d_D_tellSame_7 rfl (lv_at hl 1 rfl) ?_
  refine va_get (D := D) (ci := 0) (v := .ref (ad 4)) (C := RX0) (T := TX0) (N := 9) hx hb htg inG_X0 hown hK hP 1 rfl rfl 0 (by decide) (htg _ m_81) (fun _ h9 => h9) rfl d_D_tellSame_8 ?_
  refine lv_iload_n hx hb d_D_tellSame_11 rfl (lv_at hl 3 rfl) ?_
  have hi := h.1
  have h := h.2
  refine va_iald hx hb hK hP 4 0 rfl rfl hi d_D_tellSame_12 ?_
  refine lv_topi (fun v2 ev2 => ?_)
  have h := h v2 ev2
  refine lv_istore (lv' := [(4, .int v2), (3, .int v1), (0, .ref (ad 1)), (1, .int a1), (2, .int a2)]) hx hb d_D_tellSame_13 hl (by decide) rfl (fun ls hl => ?_)
  refine lv_iload_n hx hb d_D_tellSame_15 rfl (lv_at hl 1 rfl) ?_
  refine lv_iload hx hb d_D_tellSame_16 (lv_at hl 0 rfl) ?_
  refine lv_icmp_ne (tgt := 23) hx hb d_D_tellSame_18 (by decide) (fun cn => ?_) (fun cn => ?_)
  · have h := h.1 cn
    refine lv_aload_n hx hb d_D_tellSame_23 rfl (lv_at hl 2 rfl) ?_
    refine va_get (D := D) (ci := 0) (v := .ref (ad 9)) (C := RX0) (T := TX0) (N := 9) hx hb htg inG_X0 hown hK hP 1 rfl rfl 8 (by decide) (htg _ m_95) (fun _ h9 => h9) rfl d_D_tellSame_24 ?_
    refine lv_iload_n hx hb d_D_tellSame_27 rfl (lv_at hl 1 rfl) ?_
    have hi := h.1
    have h := h.2
    refine va_iald hx hb hK hP 9 0 rfl rfl hi d_D_tellSame_28 ?_
    refine lv_iload hx hb d_D_tellSame_29 (lv_at hl 0 rfl) ?_
    refine kC_i (va_runSN (As := [.int (σ 9 v1.toNatClampNeg), .int v2]) (rest := []) ⟨hx, hb, hml, hown, htg⟩ (met_M_has l D ad cA cB hap σ H.size (σ 9 v1.toNatClampNeg) v2 _ h) ⟨va_cnB (host := "MatrixSheets") 2 htg (kG (kG_self m_318)) rfl rfl rfl (hE _ me_316) (htg _ m_53) (by decide +kernel) ⟨Nat.le_of_ble_eq_true rfl, Nat.le_of_ble_eq_true rfl⟩, htg _ m_317, trivial⟩ (kC_pre hK hF hP hS _) rfl rfl hl.1 rfl (lv_room (Nat.le_of_ble_eq_true rfl)) d_D_tellSame_31 ⟨Nat.le_of_ble_eq_true rfl, Nat.le_of_ble_eq_true rfl⟩) hS (fun r4 σ3 H locs h hP hS => ?_)
    refine lv_if_ne (tgt := 51) hx hb d_D_tellSame_34 (by decide) (fun cn => ?_) (fun cn => ?_)
    · have h := h.1 cn
      refine lv_iconst (v := (-1)) hx hb d_D_tellSame_51 (by decide) ?_
      exact W.iret (v := (-1)) hx hb hr (fun t ht hW => ⟨⟨_, σ3, rfl, h, kBC_of ht hP⟩, hS.F ht⟩) hS.2.2 d_D_tellSame_52 hlocks
    · have h := h.2 cn
      refine lv_aload_n hx hb d_D_tellSame_37 rfl (lv_at hl 2 rfl) ?_
      refine va_get (D := D) (ci := 0) (v := .ref (ad 9)) (C := RX0) (T := TX0) (N := 9) hx hb htg inG_X0 hown hK hP 1 rfl rfl 8 (by decide) (htg _ m_95) (fun _ h9 => h9) rfl d_D_tellSame_38 ?_
      refine lv_iload hx hb d_D_tellSame_41 (lv_at hl 0 rfl) ?_
      have hi := h.1
      have h := h.2
      refine va_iald hx hb hK hP 9 0 rfl rfl hi d_D_tellSame_43 ?_
      refine lv_iload_n hx hb d_D_tellSame_44 rfl (lv_at hl 1 rfl) ?_
      refine kC_i (va_runSN (As := [.int (σ3 9 v2.toNatClampNeg), .int v1]) (rest := []) ⟨hx, hb, hml, hown, htg⟩ (met_M_has l D ad cA cB hap σ3 H.size (σ3 9 v2.toNatClampNeg) v1 _ h) ⟨va_cnB (host := "MatrixSheets") 2 htg (kG (kG_self m_318)) rfl rfl rfl (hE _ me_316) (htg _ m_53) (by decide +kernel) ⟨Nat.le_of_ble_eq_true rfl, Nat.le_of_ble_eq_true rfl⟩, htg _ m_317, trivial⟩ (kC_pre hK hF hP hS _) rfl rfl hl.1 rfl (lv_room (Nat.le_of_ble_eq_true rfl)) d_D_tellSame_45 ⟨Nat.le_of_ble_eq_true rfl, Nat.le_of_ble_eq_true rfl⟩) hS (fun r6 σ5 H locs h hP hS => ?_)
      refine lv_if_eq (tgt := 53) hx hb d_D_tellSame_48 (by decide) (fun cn => ?_) (fun cn => ?_)
      · have h := h.1 cn
        refine lv_aload_n hx hb d_D_tellSame_53 rfl (lv_at hl 2 rfl) ?_
        refine lv_iload_n hx hb d_D_tellSame_54 rfl (lv_at hl 1 rfl) ?_
        refine lv_iload hx hb d_D_tellSame_55 (lv_at hl 0 rfl) ?_
        refine va_mmin hx hb (hml.trans hl.1.symm) hown (htg _ m_353) (htg _ m_354) (htg _ m_63) (htg _ m_355) (Nat.le_of_ble_eq_true rfl) (Nat.le_of_ble_eq_true rfl) (Nat.zero_le _) (Nat.zero_le _) d_D_tellSame_57 ?_
        refine lv_iload_n hx hb d_D_tellSame_60 rfl (lv_at hl 1 rfl) ?_
        refine lv_iload hx hb d_D_tellSame_61 (lv_at hl 0 rfl) ?_
        refine va_mmax hx hb (hml.trans hl.1.symm) hown (htg _ m_356) (htg _ m_357) (htg _ m_63) (htg _ m_358) (Nat.le_of_ble_eq_true rfl) (Nat.le_of_ble_eq_true rfl) (Nat.zero_le _) (Nat.zero_le _) d_D_tellSame_63 ?_
        refine kC_v (va_runV (As := [.int (jmin v1 v2), .int (jmax v1 v2)]) (rest := []) ⟨hx, hb, hml, hown, htg⟩ (met_D_join l D ad cA cB hap σ5 H.size (jmin v1 v2) (jmax v1 v2) _ h) (cwV 2 htg (kG (kG_V m_359 m_361 m_4 m_54 (kG_self m_362))) rfl rfl rfl (by decide +kernel) ⟨Nat.le_of_ble_eq_true rfl, Nat.le_of_ble_eq_true rfl⟩) (kC_preV hK hF hP hS 1 rfl rfl _) rfl rfl hl.1 rfl (lv_room (Nat.le_of_ble_eq_true rfl)) d_D_tellSame_66 ⟨Nat.le_of_ble_eq_true rfl, Nat.le_of_ble_eq_true rfl⟩) hS (fun σ7 H locs h hP hS => ?_)
        refine lv_aload_n hx hb d_D_tellSame_69 rfl (lv_at hl 2 rfl) ?_
        refine lv_dup hx hb d_D_tellSame_70 rfl ?_
        refine va_get (D := D) (ci := 0) (v := .int (σ7 0 1)) (C := RX0) (T := TX0) (N := 9) hx hb htg inG_X0 hown hK hP 1 rfl rfl 3 (by decide) (htg _ m_87) (fun _ h9 => h9) rfl d_D_tellSame_71 ?_
        refine lv_iconst (v := 1) hx hb d_D_tellSame_74 (by decide) ?_
        refine lv_iload_n hx hb d_D_tellSame_75 rfl (lv_at hl 3 rfl) ?_
        refine lv_ishl hx hb d_D_tellSame_76 ?_
        refine lv_iconst (v := 1) hx hb d_D_tellSame_77 (by decide) ?_
        refine lv_iload_n hx hb d_D_tellSame_78 rfl (lv_at hl 4 rfl) ?_
        refine lv_ishl hx hb d_D_tellSame_79 ?_
        refine lv_ior hx hb d_D_tellSame_80 ?_
        refine lv_ior hx hb d_D_tellSame_81 ?_
        refine va_put (D := D) (ci := 0) (v := .int ((σ7 0 1) ||| ((1 <<< (a1 &&& 31)) ||| (1 <<< (a2 &&& 31))))) (ty := .int) (C := RX0) (T := TX0) (N := 9) hx hb htg inG_X0 tyX0 tyX0_ok nmX0 hown hK hP (hD _) hS 1 rfl rfl 3 (by decide) (htg _ m_87) (fun _ h9 => h9) rfl (by decide +kernel) rfl rfl (Nat.le_of_ble_eq_true rfl) d_D_tellSame_82 (fun H locs hP _ hS => ?_)
        obtain ⟨σ8, eσ8⟩ : ∃ z : S0, z = st σ7 0 1 ((σ7 0 1) ||| ((1 <<< (a1 &&& 31)) ||| (1 <<< (a2 &&& 31)))) := ⟨_, rfl⟩
        have hP : va_P D vwCl (wC ad cA cB σ8) H := by rw [eσ8]; exact hP
        have h := h σ8 eσ8
        refine lv_aload_n hx hb d_D_tellSame_85 rfl (lv_at hl 2 rfl) ?_
        refine kC_v (va_runV (As := []) (rest := []) ⟨hx, hb, hml, hown, htg⟩ (met_D_settle l D ad cA cB hap σ8 H.size _ h) (cwV 0 htg (kG (kG_V m_319 m_321 m_1 m_54 (kG_self m_322))) rfl rfl rfl (by decide +kernel) ⟨Nat.le_of_ble_eq_true rfl, Nat.le_of_ble_eq_true rfl⟩) (kC_preV hK hF hP hS 1 rfl rfl _) rfl rfl hl.1 rfl (lv_room (Nat.le_of_ble_eq_true rfl)) d_D_tellSame_86 ⟨Nat.le_of_ble_eq_true rfl, Nat.le_of_ble_eq_true rfl⟩) hS (fun σ9 H locs h hP hS => ?_)
        refine lv_iconst (v := 1) hx hb d_D_tellSame_89 (by decide) ?_
        exact W.iret (v := 1) hx hb hr (fun t ht hW => ⟨⟨_, σ9, rfl, h, kBC_of ht hP⟩, hS.F ht⟩) hS.2.2 d_D_tellSame_90 hlocks
      · have h := h.2 cn
        refine lv_iconst (v := (-1)) hx hb d_D_tellSame_51 (by decide) ?_
        exact W.iret (v := (-1)) hx hb hr (fun t ht hW => ⟨⟨_, σ5, rfl, h, kBC_of ht hP⟩, hS.F ht⟩) hS.2.2 d_D_tellSame_52 hlocks
  · have h := h.2 cn
    refine lv_iconst (v := 0) hx hb d_D_tellSame_21 (by decide) ?_
    exact W.iret (v := 0) hx hb hr (fun t ht hW => ⟨⟨_, σ, rfl, h, kBC_of ht hP⟩, hS.F ht⟩) hS.2.2 d_D_tellSame_22 hlocks
set_option maxHeartbeats 4000000 in
set_option maxRecDepth 100000 in
theorem met_D_tellPhase (l : Launch) (D : va_G) (ad : Nat → Nat) (cA cB : ClassId) (hap : kapC ad) (σ : S0) (sz : Nat) (a1 a2 : Int32) (post : Int32 → S0 → Prop) (h : Sp_D_tellPhase a1 a2 σ post) : Met l y_D_tellPhase (Cond.code y_D_tellPhase c_D_tellPhase 4 (some .int) :: wsG) ({ frames := 3, cells := 0, slots := 0, locals := 81 } : Room) (kPcC D ad cA cB σ sz [.ref (ad 1), .int a1, .int a2]) (va_Qi post (kBC D ad cA cB) (kAC ad sz)) 0 0 (kAC ad sz) := by
  refine Met.ofW (cc := c_D_tellPhase) (maxL := 4) (ret := (some .int)) (by decide) rfl ?_
  intro p e s m args below meth c s₁ B hml hv
  obtain ⟨rfl, hsz, hP, hK, hF⟩ := hv
  have hx := B.exec
  have hb := B.bytes
  have hr := B.returns
  have hts := atoms_spec (ws := (Cond.code y_D_tellPhase c_D_tellPhase 4 (some .int) :: wsG)) B.pre
  have htg : ∀ w ∈ wsG, w.before ([.ref (ad 1), .int a1, .int a2] : List Value).toArray s = true := fun w h => hts w (List.mem_cons_of_mem _ h)
  have hown : s.vm.findClass RX0 = some m.cls := findClass_of_methodNamed B.named
  have hlocks := B.notSynchronized
  subst hsz
  have hD : ∀ σ, va_D (kAC ad s.heap.size) (wC ad cA cB σ) := fun σ => wC_D hap cA cB σ _
  have hS : va_S (kAC ad s.heap.size) s.heap s.heap [] := va_S.rf
  have hE := hF.1
  have hl := lv_entry ([.ref (ad 1), .int a1, .int a2]) (n := 4) (Nat.le_of_ble_eq_true rfl)
  rw [lg_entry_eq]
  generalize (lg_sl ([.ref (ad 1), .int a1, .int a2]) ++ List.replicate (4 - (lg_sl ([.ref (ad 1), .int a1, .int a2])).length) Slot.unset).toArray = ls at hl ⊢
  have hl : lv_has ls 4 [(0, .ref (ad 1)), (1, .int a1), (2, .int a2)] := hl
  unfold Sp_D_tellPhase at h
  obtain ⟨H, eH⟩ : ∃ z, z = s.heap := ⟨_, rfl⟩
  have hP : va_P D vwCl (wC ad cA cB σ) H := by rw [eH]; exact hP
  have hS : va_S (kAC ad s.heap.size) s.heap H [] := by rw [eH]; exact hS
  show W p l e (headSpec (Cond.code y_D_tellPhase c_D_tellPhase 4 (some .int) :: wsG) ({ frames := 3, cells := 0, slots := 0, locals := 81 } : Room)).room s m ([.ref (ad 1), .int a1, .int a2] : List Value).toArray below meth c s.heap [] 0 0 (MQ below (va_Qi post (kBC D ad cA cB) (kAC ad s.heap.size)) ([.ref (ad 1), .int a1, .int a2] : List Value).toArray s 0 0 (kAC ad s.heap.size)) (F0 m 0 ls [])
  suffices k : W p l e (headSpec (Cond.code y_D_tellPhase c_D_tellPhase 4 (some .int) :: wsG) ({ frames := 3, cells := 0, slots := 0, locals := 81 } : Room)).room s m ([.ref (ad 1), .int a1, .int a2] : List Value).toArray below meth c H [] 0 0 (MQ below (va_Qi post (kBC D ad cA cB) (kAC ad s.heap.size)) ([.ref (ad 1), .int a1, .int a2] : List Value).toArray s 0 0 (kAC ad s.heap.size)) (F0 m 0 ls []) by rw [eH] at k; exact k
  refine lv_aload_n hx hb d_D_tellPhase_0 rfl (lv_at hl 0 rfl) ?_
  refine va_get (D := D) (ci := 0) (v := .ref (ad 8)) (C := RX0) (T := TX0) (N := 9) hx hb htg inG_X0 hown hK hP 1 rfl rfl 7 (by decide) (htg _ m_94) (fun _ h9 => h9) rfl d_D_tellPhase_1 ?_
  refine lv_iload_n hx hb d_D_tellPhase_4 rfl (lv_at hl 1 rfl) ?_
  have hi := h.1
  have h := h.2
  refine va_iald hx hb hK hP 8 0 rfl rfl hi d_D_tellPhase_5 ?_
  refine lv_topi (fun v1 ev1 => ?_)
  have h := h v1 ev1
  refine lv_istore_n (lv' := [(3, .int v1), (0, .ref (ad 1)), (1, .int a1), (2, .int a2)]) hx hb d_D_tellPhase_6 rfl hl (by decide) rfl (fun ls hl => ?_)
  refine lv_aload_n hx hb d_D_tellPhase_7 rfl (lv_at hl 1 rfl) ?_
  refine va_get (D := D) (ci := 0) (v := .ref (ad 8)) (C := RX0) (T := TX0) (N := 9) hx hb htg inG_X0 hown hK hP 1 rfl rfl 7 (by decide) (htg _ m_94) (fun _ h9 => h9) rfl d_D_tellPhase_8 ?_
  refine lv_iload_n hx hb d_D_tellPhase_11 rfl (lv_at hl 2 rfl) ?_
  refine lv_iload_n hx hb d_D_tellPhase_12 rfl (lv_at hl 3 rfl) ?_
  have hi := h.1
  have h := h.2
  refine va_iast hx hb hK hP (hD _) hS 8 0 rfl rfl hi d_D_tellPhase_13 (fun H locs hP _ hS => ?_)
  obtain ⟨σ2, eσ2⟩ : ∃ z : S0, z = st σ 8 a1.toNatClampNeg a2 := ⟨_, rfl⟩
  have hP : va_P D vwCl (wC ad cA cB σ2) H := by rw [eσ2]; exact hP
  have h := h σ2 eσ2
  refine lv_aload_n hx hb d_D_tellPhase_14 rfl (lv_at hl 1 rfl) ?_
  refine lv_dup hx hb d_D_tellPhase_15 rfl ?_
  refine va_get (D := D) (ci := 0) (v := .int (σ2 0 1)) (C := RX0) (T := TX0) (N := 9) hx hb htg inG_X0 hown hK hP 1 rfl rfl 3 (by decide) (htg _ m_87) (fun _ h9 => h9) rfl d_D_tellPhase_16 ?_
  refine lv_iconst (v := 1) hx hb d_D_tellPhase_19 (by decide) ?_
  refine lv_iload_n hx hb d_D_tellPhase_20 rfl (lv_at hl 2 rfl) ?_
  refine lv_ishl hx hb d_D_tellPhase_21 ?_
  refine lv_ior hx hb d_D_tellPhase_22 ?_
  refine va_put (D := D) (ci := 0) (v := .int ((σ2 0 1) ||| (1 <<< (a1 &&& 31)))) (ty := .int) (C := RX0) (T := TX0) (N := 9) hx hb htg inG_X0 tyX0 tyX0_ok nmX0 hown hK hP (hD _) hS 1 rfl rfl 3 (by decide) (htg _ m_87) (fun _ h9 => h9) rfl (by decide +kernel) rfl rfl (Nat.le_of_ble_eq_true rfl) d_D_tellPhase_23 (fun H locs hP _ hS => ?_)
  obtain ⟨σ3, eσ3⟩ : ∃ z : S0, z = st σ2 0 1 ((σ2 0 1) ||| (1 <<< (a1 &&& 31))) := ⟨_, rfl⟩
  have hP : va_P D vwCl (wC ad cA cB σ3) H := by rw [eσ3]; exact hP
  have h := h σ3 eσ3
  refine lv_aload_n hx hb d_D_tellPhase_26 rfl (lv_at hl 1 rfl) ?_
  refine kC_v (va_runV (As := []) (rest := []) ⟨hx, hb, hml, hown, htg⟩ (met_D_settle l D ad cA cB hap σ3 H.size _ h) (cwV 0 htg (kG (kG_V m_319 m_321 m_1 m_54 (kG_self m_322))) rfl rfl rfl (by decide +kernel) ⟨Nat.le_of_ble_eq_true rfl, Nat.le_of_ble_eq_true rfl⟩) (kC_preV hK hF hP hS 1 rfl rfl _) rfl rfl hl.1 rfl (lv_room (Nat.le_of_ble_eq_true rfl)) d_D_tellPhase_27 ⟨Nat.le_of_ble_eq_true rfl, Nat.le_of_ble_eq_true rfl⟩) hS (fun σ4 H locs h hP hS => ?_)
  refine lv_iload_n hx hb d_D_tellPhase_30 rfl (lv_at hl 0 rfl) ?_
  exact W.iret (v := v1) hx hb hr (fun t ht hW => ⟨⟨_, σ4, rfl, h, kBC_of ht hP⟩, hS.F ht⟩) hS.2.2 d_D_tellPhase_31 hlocks
set_option maxHeartbeats 4000000 in
set_option maxRecDepth 100000 in
theorem met_D_tellHidden (l : Launch) (D : va_G) (ad : Nat → Nat) (cA cB : ClassId) (hap : kapC ad) (σ : S0) (sz : Nat) (a1 a2 : Int32) (post : Int32 → S0 → Prop) (h : Sp_D_tellHidden a1 a2 σ post) : Met l y_D_tellHidden (Cond.code y_D_tellHidden c_D_tellHidden 3 (some .boolean) :: wsG) ({ frames := 1, cells := 0, slots := 0, locals := 21 } : Room) (kPcC D ad cA cB σ sz [.ref (ad 1), .int a1, .int a2]) (va_Qi post (kBC D ad cA cB) (kAC ad sz)) 0 0 (kAC ad sz) := by
  refine Met.ofW (cc := c_D_tellHidden) (maxL := 3) (ret := (some .boolean)) (by decide) rfl ?_
  intro p e s m args below meth c s₁ B hml hv
  obtain ⟨rfl, hsz, hP, hK, hF⟩ := hv
  have hx := B.exec
  have hb := B.bytes
  have hr := B.returns
  have hts := atoms_spec (ws := (Cond.code y_D_tellHidden c_D_tellHidden 3 (some .boolean) :: wsG)) B.pre
  have htg : ∀ w ∈ wsG, w.before ([.ref (ad 1), .int a1, .int a2] : List Value).toArray s = true := fun w h => hts w (List.mem_cons_of_mem _ h)
  have hown : s.vm.findClass RX0 = some m.cls := findClass_of_methodNamed B.named
  have hlocks := B.notSynchronized
  subst hsz
  have hD : ∀ σ, va_D (kAC ad s.heap.size) (wC ad cA cB σ) := fun σ => wC_D hap cA cB σ _
  have hS : va_S (kAC ad s.heap.size) s.heap s.heap [] := va_S.rf
  have hE := hF.1
  have hl := lv_entry ([.ref (ad 1), .int a1, .int a2]) (n := 3) (Nat.le_of_ble_eq_true rfl)
  rw [lg_entry_eq]
  generalize (lg_sl ([.ref (ad 1), .int a1, .int a2]) ++ List.replicate (3 - (lg_sl ([.ref (ad 1), .int a1, .int a2])).length) Slot.unset).toArray = ls at hl ⊢
  have hl : lv_has ls 3 [(0, .ref (ad 1)), (1, .int a1), (2, .int a2)] := hl
  unfold Sp_D_tellHidden at h
  obtain ⟨H, eH⟩ : ∃ z, z = s.heap := ⟨_, rfl⟩
  have hP : va_P D vwCl (wC ad cA cB σ) H := by rw [eH]; exact hP
  have hS : va_S (kAC ad s.heap.size) s.heap H [] := by rw [eH]; exact hS
  show W p l e (headSpec (Cond.code y_D_tellHidden c_D_tellHidden 3 (some .boolean) :: wsG) ({ frames := 1, cells := 0, slots := 0, locals := 21 } : Room)).room s m ([.ref (ad 1), .int a1, .int a2] : List Value).toArray below meth c s.heap [] 0 0 (MQ below (va_Qi post (kBC D ad cA cB) (kAC ad s.heap.size)) ([.ref (ad 1), .int a1, .int a2] : List Value).toArray s 0 0 (kAC ad s.heap.size)) (F0 m 0 ls [])
  suffices k : W p l e (headSpec (Cond.code y_D_tellHidden c_D_tellHidden 3 (some .boolean) :: wsG) ({ frames := 1, cells := 0, slots := 0, locals := 21 } : Room)).room s m ([.ref (ad 1), .int a1, .int a2] : List Value).toArray below meth c H [] 0 0 (MQ below (va_Qi post (kBC D ad cA cB) (kAC ad s.heap.size)) ([.ref (ad 1), .int a1, .int a2] : List Value).toArray s 0 0 (kAC ad s.heap.size)) (F0 m 0 ls []) by rw [eH] at k; exact k
  refine lv_aload_n hx hb d_D_tellHidden_0 rfl (lv_at hl 0 rfl) ?_
  refine va_get (D := D) (ci := 0) (v := .int (σ 0 2)) (C := RX0) (T := TX0) (N := 9) hx hb htg inG_X0 hown hK hP 1 rfl rfl 4 (by decide) (htg _ m_90) (fun _ h9 => h9) rfl d_D_tellHidden_1 ?_
  refine lv_iload_n hx hb d_D_tellHidden_4 rfl (lv_at hl 1 rfl) ?_
  refine kC_i (va_runSN (As := [.int (σ 0 2), .int a1]) (rest := []) ⟨hx, hb, hml, hown, htg⟩ (met_M_has l D ad cA cB hap σ H.size (σ 0 2) a1 _ h) ⟨va_cnB (host := "MatrixSheets") 2 htg (kG (kG_self m_318)) rfl rfl rfl (hE _ me_316) (htg _ m_53) (by decide +kernel) ⟨Nat.le_of_ble_eq_true rfl, Nat.le_of_ble_eq_true rfl⟩, htg _ m_317, trivial⟩ (kC_pre hK hF hP hS _) rfl rfl hl.1 rfl (lv_room (Nat.le_of_ble_eq_true rfl)) d_D_tellHidden_5 ⟨Nat.le_of_ble_eq_true rfl, Nat.le_of_ble_eq_true rfl⟩) hS (fun r2 σ1 H locs h hP hS => ?_)
  refine lv_iload_n hx hb d_D_tellHidden_8 rfl (lv_at hl 2 rfl) ?_
  refine lv_icmp_ne (tgt := 14) hx hb d_D_tellHidden_9 (by decide) (fun cn => ?_) (fun cn => ?_)
  · have h := h.1 cn
    refine lv_aload_n hx hb d_D_tellHidden_14 rfl (lv_at hl 0 rfl) ?_
    refine lv_dup hx hb d_D_tellHidden_15 rfl ?_
    refine va_get (D := D) (ci := 0) (v := .int (σ1 0 2)) (C := RX0) (T := TX0) (N := 9) hx hb htg inG_X0 hown hK hP 1 rfl rfl 4 (by decide) (htg _ m_90) (fun _ h9 => h9) rfl d_D_tellHidden_16 ?_
    refine lv_iconst (v := 1) hx hb d_D_tellHidden_19 (by decide) ?_
    refine lv_iload_n hx hb d_D_tellHidden_20 rfl (lv_at hl 1 rfl) ?_
    refine lv_ishl hx hb d_D_tellHidden_21 ?_
    refine lv_ixor hx hb d_D_tellHidden_22 ?_
    refine va_put (D := D) (ci := 0) (v := .int ((σ1 0 2) ^^^ (1 <<< (a1 &&& 31)))) (ty := .int) (C := RX0) (T := TX0) (N := 9) hx hb htg inG_X0 tyX0 tyX0_ok nmX0 hown hK hP (hD _) hS 1 rfl rfl 4 (by decide) (htg _ m_90) (fun _ h9 => h9) rfl (by decide +kernel) rfl rfl (Nat.le_of_ble_eq_true rfl) d_D_tellHidden_23 (fun H locs hP _ hS => ?_)
    obtain ⟨σ3, eσ3⟩ : ∃ z : S0, z = st σ1 0 2 ((σ1 0 2) ^^^ (1 <<< (a1 &&& 31))) := ⟨_, rfl⟩
    have hP : va_P D vwCl (wC ad cA cB σ3) H := by rw [eσ3]; exact hP
    have h := h σ3 eσ3
    refine lv_aload_n hx hb d_D_tellHidden_26 rfl (lv_at hl 0 rfl) ?_
    refine lv_dup hx hb d_D_tellHidden_27 rfl ?_
    refine va_get (D := D) (ci := 0) (v := .int (σ3 0 1)) (C := RX0) (T := TX0) (N := 9) hx hb htg inG_X0 hown hK hP 1 rfl rfl 3 (by decide) (htg _ m_87) (fun _ h9 => h9) rfl d_D_tellHidden_28 ?_
    refine lv_iconst (v := 1) hx hb d_D_tellHidden_31 (by decide) ?_
    refine lv_iload_n hx hb d_D_tellHidden_32 rfl (lv_at hl 1 rfl) ?_
    refine lv_ishl hx hb d_D_tellHidden_33 ?_
    refine lv_ior hx hb d_D_tellHidden_34 ?_
    refine va_put (D := D) (ci := 0) (v := .int ((σ3 0 1) ||| (1 <<< (a1 &&& 31)))) (ty := .int) (C := RX0) (T := TX0) (N := 9) hx hb htg inG_X0 tyX0 tyX0_ok nmX0 hown hK hP (hD _) hS 1 rfl rfl 3 (by decide) (htg _ m_87) (fun _ h9 => h9) rfl (by decide +kernel) rfl rfl (Nat.le_of_ble_eq_true rfl) d_D_tellHidden_35 (fun H locs hP _ hS => ?_)
    obtain ⟨σ4, eσ4⟩ : ∃ z : S0, z = st σ3 0 1 ((σ3 0 1) ||| (1 <<< (a1 &&& 31))) := ⟨_, rfl⟩
    have hP : va_P D vwCl (wC ad cA cB σ4) H := by rw [eσ4]; exact hP
    have h := h σ4 eσ4
    refine lv_iconst (v := 1) hx hb d_D_tellHidden_38 (by decide) ?_
    exact W.zret (v := 1) hx hb hr rfl (fun t ht hW => ⟨⟨_, σ4, rfl, h, kBC_of ht hP⟩, hS.F ht⟩) hS.2.2 d_D_tellHidden_39 hlocks
  · have h := h.2 cn
    refine lv_iconst (v := 0) hx hb d_D_tellHidden_12 (by decide) ?_
    exact W.zret (v := 0) hx hb hr rfl (fun t ht hW => ⟨⟨_, σ1, rfl, h, kBC_of ht hP⟩, hS.F ht⟩) hS.2.2 d_D_tellHidden_13 hlocks
set_option maxHeartbeats 4000000 in
set_option maxRecDepth 100000 in
theorem met_D_isLaterPhase (l : Launch) (D : va_G) (ad : Nat → Nat) (cA cB : ClassId) (hap : kapC ad) (σ : S0) (sz : Nat) (a1 a2 : Int32) (post : Int32 → S0 → Prop) (h : Sp_D_isLaterPhase a1 a2 σ post) : Met l y_D_isLaterPhase (Cond.code y_D_isLaterPhase c_D_isLaterPhase 3 (some .boolean) :: wsG) ({ frames := 0, cells := 0, slots := 0, locals := 0 } : Room) (kPcC D ad cA cB σ sz [.ref (ad 1), .int a1, .int a2]) (va_Qi post (kBC D ad cA cB) (kAC ad sz)) 0 0 (kAC ad sz) := by
  refine Met.ofW (cc := c_D_isLaterPhase) (maxL := 3) (ret := (some .boolean)) (by decide) rfl ?_
  intro p e s m args below meth c s₁ B hml hv
  obtain ⟨rfl, hsz, hP, hK, hF⟩ := hv
  have hx := B.exec
  have hb := B.bytes
  have hr := B.returns
  have hts := atoms_spec (ws := (Cond.code y_D_isLaterPhase c_D_isLaterPhase 3 (some .boolean) :: wsG)) B.pre
  have htg : ∀ w ∈ wsG, w.before ([.ref (ad 1), .int a1, .int a2] : List Value).toArray s = true := fun w h => hts w (List.mem_cons_of_mem _ h)
  have hown : s.vm.findClass RX0 = some m.cls := findClass_of_methodNamed B.named
  have hlocks := B.notSynchronized
  subst hsz
  have hD : ∀ σ, va_D (kAC ad s.heap.size) (wC ad cA cB σ) := fun σ => wC_D hap cA cB σ _
  have hS : va_S (kAC ad s.heap.size) s.heap s.heap [] := va_S.rf
  have hE := hF.1
  have hl := lv_entry ([.ref (ad 1), .int a1, .int a2]) (n := 3) (Nat.le_of_ble_eq_true rfl)
  rw [lg_entry_eq]
  generalize (lg_sl ([.ref (ad 1), .int a1, .int a2]) ++ List.replicate (3 - (lg_sl ([.ref (ad 1), .int a1, .int a2])).length) Slot.unset).toArray = ls at hl ⊢
  have hl : lv_has ls 3 [(0, .ref (ad 1)), (1, .int a1), (2, .int a2)] := hl
  unfold Sp_D_isLaterPhase at h
  obtain ⟨H, eH⟩ : ∃ z, z = s.heap := ⟨_, rfl⟩
  have hP : va_P D vwCl (wC ad cA cB σ) H := by rw [eH]; exact hP
  have hS : va_S (kAC ad s.heap.size) s.heap H [] := by rw [eH]; exact hS
  show W p l e (headSpec (Cond.code y_D_isLaterPhase c_D_isLaterPhase 3 (some .boolean) :: wsG) ({ frames := 0, cells := 0, slots := 0, locals := 0 } : Room)).room s m ([.ref (ad 1), .int a1, .int a2] : List Value).toArray below meth c s.heap [] 0 0 (MQ below (va_Qi post (kBC D ad cA cB) (kAC ad s.heap.size)) ([.ref (ad 1), .int a1, .int a2] : List Value).toArray s 0 0 (kAC ad s.heap.size)) (F0 m 0 ls [])
  suffices k : W p l e (headSpec (Cond.code y_D_isLaterPhase c_D_isLaterPhase 3 (some .boolean) :: wsG) ({ frames := 0, cells := 0, slots := 0, locals := 0 } : Room)).room s m ([.ref (ad 1), .int a1, .int a2] : List Value).toArray below meth c H [] 0 0 (MQ below (va_Qi post (kBC D ad cA cB) (kAC ad s.heap.size)) ([.ref (ad 1), .int a1, .int a2] : List Value).toArray s 0 0 (kAC ad s.heap.size)) (F0 m 0 ls []) by rw [eH] at k; exact k
  refine lv_aload_n hx hb d_D_isLaterPhase_0 rfl (lv_at hl 0 rfl) ?_
  refine va_get (D := D) (ci := 0) (v := .ref (ad 5)) (C := RX0) (T := TX0) (N := 9) hx hb htg inG_X0 hown hK hP 1 rfl rfl 1 (by decide) (htg _ m_83) (fun _ h9 => h9) rfl d_D_isLaterPhase_1 ?_
  refine lv_iload_n hx hb d_D_isLaterPhase_4 rfl (lv_at hl 2 rfl) ?_
  have hi := h.1
  have h := h.2
  refine va_iald hx hb hK hP 5 0 rfl rfl hi d_D_isLaterPhase_5 ?_
  refine lv_iconst (v := (-1)) hx hb d_D_isLaterPhase_6 (by decide) ?_
  refine lv_icmp_eq (tgt := 29) hx hb d_D_isLaterPhase_7 (by decide) (fun cn => ?_) (fun cn => ?_)
  · have h := h.1 cn
    refine lv_iconst (v := 0) hx hb d_D_isLaterPhase_29 (by decide) ?_
    exact W.zret (v := 0) hx hb hr rfl (fun t ht hW => ⟨⟨_, σ, rfl, h, kBC_of ht hP⟩, hS.F ht⟩) hS.2.2 d_D_isLaterPhase_30 hlocks
  · have h := h.2 cn
    refine lv_aload_n hx hb d_D_isLaterPhase_10 rfl (lv_at hl 0 rfl) ?_
    refine va_get (D := D) (ci := 0) (v := .ref (ad 5)) (C := RX0) (T := TX0) (N := 9) hx hb htg inG_X0 hown hK hP 1 rfl rfl 1 (by decide) (htg _ m_83) (fun _ h9 => h9) rfl d_D_isLaterPhase_11 ?_
    refine lv_iload_n hx hb d_D_isLaterPhase_14 rfl (lv_at hl 1 rfl) ?_
    have hi := h.1
    have h := h.2
    refine va_iald hx hb hK hP 5 0 rfl rfl hi d_D_isLaterPhase_15 ?_
    refine lv_aload_n hx hb d_D_isLaterPhase_16 rfl (lv_at hl 0 rfl) ?_
    refine va_get (D := D) (ci := 0) (v := .ref (ad 5)) (C := RX0) (T := TX0) (N := 9) hx hb htg inG_X0 hown hK hP 1 rfl rfl 1 (by decide) (htg _ m_83) (fun _ h9 => h9) rfl d_D_isLaterPhase_17 ?_
    refine lv_iload_n hx hb d_D_isLaterPhase_20 rfl (lv_at hl 2 rfl) ?_
    have hi := h.1
    have h := h.2
    refine va_iald hx hb hK hP 5 0 rfl rfl hi d_D_isLaterPhase_21 ?_
    refine lv_icmp_le (tgt := 29) hx hb d_D_isLaterPhase_22 (by decide) (fun cn => ?_) (fun cn => ?_)
    · have h := h.1 cn
      refine lv_iconst (v := 0) hx hb d_D_isLaterPhase_29 (by decide) ?_
      exact W.zret (v := 0) hx hb hr rfl (fun t ht hW => ⟨⟨_, σ, rfl, h, kBC_of ht hP⟩, hS.F ht⟩) hS.2.2 d_D_isLaterPhase_30 hlocks
    · have h := h.2 cn
      refine lv_iconst (v := 1) hx hb d_D_isLaterPhase_25 (by decide) ?_
      refine lv_goto (tgt := 30) hx hb d_D_isLaterPhase_26 (by decide) ?_
      exact W.zret (v := 1) hx hb hr rfl (fun t ht hW => ⟨⟨_, σ, rfl, h, kBC_of ht hP⟩, hS.F ht⟩) hS.2.2 d_D_isLaterPhase_30 hlocks
set_option maxHeartbeats 4000000 in
set_option maxRecDepth 100000 in
theorem met_D_findMisfit (l : Launch) (D : va_G) (ad : Nat → Nat) (cA cB : ClassId) (hap : kapC ad) (σ : S0) (sz : Nat) (a1 : Int32) (post : Int32 → S0 → Prop) (h : Sp_D_findMisfit a1 σ post) : Met l y_D_findMisfit (Cond.code y_D_findMisfit c_D_findMisfit 5 (some .int) :: wsG) ({ frames := 1, cells := 0, slots := 0, locals := 22 } : Room) (kPcC D ad cA cB σ sz [.ref (ad 1), .int a1]) (va_Qi post (kBC D ad cA cB) (kAC ad sz)) 0 0 (kAC ad sz) := by
  refine Met.ofW (cc := c_D_findMisfit) (maxL := 5) (ret := (some .int)) (by decide) rfl ?_
  intro p e s m args below meth c s₁ B hml hv
  obtain ⟨rfl, hsz, hP, hK, hF⟩ := hv
  have hx := B.exec
  have hb := B.bytes
  have hr := B.returns
  have hts := atoms_spec (ws := (Cond.code y_D_findMisfit c_D_findMisfit 5 (some .int) :: wsG)) B.pre
  have htg : ∀ w ∈ wsG, w.before ([.ref (ad 1), .int a1] : List Value).toArray s = true := fun w h => hts w (List.mem_cons_of_mem _ h)
  have hown : s.vm.findClass RX0 = some m.cls := findClass_of_methodNamed B.named
  have hlocks := B.notSynchronized
  subst hsz
  have hD : ∀ σ, va_D (kAC ad s.heap.size) (wC ad cA cB σ) := fun σ => wC_D hap cA cB σ _
  have hS : va_S (kAC ad s.heap.size) s.heap s.heap [] := va_S.rf
  have hE := hF.1
  have hl := lv_entry ([.ref (ad 1), .int a1]) (n := 5) (Nat.le_of_ble_eq_true rfl)
  rw [lg_entry_eq]
  generalize (lg_sl ([.ref (ad 1), .int a1]) ++ List.replicate (5 - (lg_sl ([.ref (ad 1), .int a1])).length) Slot.unset).toArray = ls at hl ⊢
  have hl : lv_has ls 5 [(0, .ref (ad 1)), (1, .int a1)] := hl
  unfold Sp_D_findMisfit at h
  obtain ⟨G4, hG4⟩ : ∃ G : Int32 → Int32 → S0 → Prop, G = fun (x2 x3 : Int32) (σ : S0) => ∀ (H : Heap) (locs : List Loc) (ls : Array Slot), va_P D vwCl (wC ad cA cB σ) H → va_S (kAC ad s.heap.size) s.heap H locs → lv_has ls 5 [(0, .ref (ad 1)), (2, .int x2), (3, .int x3)] → W p l e (headSpec (Cond.code y_D_findMisfit c_D_findMisfit 5 (some .int) :: wsG) ({ frames := 1, cells := 0, slots := 0, locals := 22 } : Room)).room s m ([.ref (ad 1), .int a1] : List Value).toArray below meth c H locs 0 0 (MQ below (va_Qi post (kBC D ad cA cB) (kAC ad s.heap.size)) ([.ref (ad 1), .int a1] : List Value).toArray s 0 0 (kAC ad s.heap.size)) (F0 m 4 ls []) := ⟨_, rfl⟩
  obtain ⟨G13, hG13⟩ : ∃ G : Int32 → Int32 → Int32 → S0 → Prop, G = fun (x2 x3 x4 : Int32) (σ : S0) => ∀ (H : Heap) (locs : List Loc) (ls : Array Slot), va_P D vwCl (wC ad cA cB σ) H → va_S (kAC ad s.heap.size) s.heap H locs → lv_has ls 5 [(0, .ref (ad 1)), (2, .int x2), (3, .int x3), (4, .int x4)] → W p l e (headSpec (Cond.code y_D_findMisfit c_D_findMisfit 5 (some .int) :: wsG) ({ frames := 1, cells := 0, slots := 0, locals := 22 } : Room)).room s m ([.ref (ad 1), .int a1] : List Value).toArray below meth c H locs 0 0 (MQ below (va_Qi post (kBC D ad cA cB) (kAC ad s.heap.size)) ([.ref (ad 1), .int a1] : List Value).toArray s 0 0 (kAC ad s.heap.size)) (F0 m 13 ls []) := ⟨_, rfl⟩
  have h := h G4 G13
  have h := h (by
    intro x2 x3 σ h
    rw [hG4]
    intro H locs ls hP hS hl
    refine lv_iload_n hx hb d_D_findMisfit_4 rfl (lv_at hl 2 rfl) ?_
    refine lv_bipush (v := 16) hx hb d_D_findMisfit_5 (by decide) ?_
    refine lv_icmp_ge (tgt := 71) hx hb d_D_findMisfit_7 (by decide) (fun cn => ?_) (fun cn => ?_)
    · have h := h.1 cn
      refine lv_iconst (v := (-1)) hx hb d_D_findMisfit_71 (by decide) ?_
      exact W.iret (v := (-1)) hx hb hr (fun t ht hW => ⟨⟨_, σ, rfl, h, kBC_of ht hP⟩, hS.F ht⟩) hS.2.2 d_D_findMisfit_72 hlocks
    · have h := h.2 cn
      refine lv_iconst (v := 0) hx hb d_D_findMisfit_10 (by decide) ?_
      refine lv_istore (lv' := [(4, .int 0), (0, .ref (ad 1)), (2, .int x2), (3, .int x3)]) hx hb d_D_findMisfit_11 hl (by decide) rfl (fun ls hl => ?_)
      rw [hG13] at h
      exact h _ _ _ hP hS (lv_sub hl [1, 2, 3, 0] rfl))
  have h := h (by
    intro x2 x3 x4 σ h
    rw [hG13]
    intro H locs ls hP hS hl
    refine lv_iload hx hb d_D_findMisfit_13 (lv_at hl 3 rfl) ?_
    refine lv_bipush (v := 16) hx hb d_D_findMisfit_15 (by decide) ?_
    refine lv_icmp_ge (tgt := 65) hx hb d_D_findMisfit_17 (by decide) (fun cn => ?_) (fun cn => ?_)
    · have h := h.1 cn
      refine lv_iinc (v := (x3 + 1)) (lv' := [(3, .int (x3 + 1)), (0, .ref (ad 1)), (2, .int x2), (4, .int x4)]) hx hb d_D_findMisfit_65 hl (k := 2) rfl rfl (by decide) rfl (fun ls hl => ?_)
      refine lv_goto (tgt := 4) hx hb d_D_findMisfit_68 (by decide) ?_
      rw [hG4] at h
      exact h _ _ _ hP hS (lv_sub hl [1, 2, 0] rfl)
    · have h := h.2 cn
      refine lv_aload_n hx hb d_D_findMisfit_20 rfl (lv_at hl 0 rfl) ?_
      refine va_get (D := D) (ci := 0) (v := .ref (ad 9)) (C := RX0) (T := TX0) (N := 9) hx hb htg inG_X0 hown hK hP 1 rfl rfl 8 (by decide) (htg _ m_95) (fun _ h9 => h9) rfl d_D_findMisfit_21 ?_
      refine lv_iload_n hx hb d_D_findMisfit_24 rfl (lv_at hl 2 rfl) ?_
      have hi := h.1
      have h := h.2
      refine va_iald hx hb hK hP 9 0 rfl rfl hi d_D_findMisfit_25 ?_
      refine lv_iload hx hb d_D_findMisfit_26 (lv_at hl 3 rfl) ?_
      refine kC_i (va_runSN (As := [.int (σ 9 x3.toNatClampNeg), .int x4]) (rest := []) ⟨hx, hb, hml, hown, htg⟩ (met_M_has l D ad cA cB hap σ H.size (σ 9 x3.toNatClampNeg) x4 _ h) ⟨va_cnB (host := "MatrixSheets") 2 htg (kG (kG_self m_318)) rfl rfl rfl (hE _ me_316) (htg _ m_53) (by decide +kernel) ⟨Nat.le_of_ble_eq_true rfl, Nat.le_of_ble_eq_true rfl⟩, htg _ m_317, trivial⟩ (kC_pre hK hF hP hS _) rfl rfl hl.1 rfl (lv_room (Nat.le_of_ble_eq_true rfl)) d_D_findMisfit_28 ⟨Nat.le_of_ble_eq_true rfl, Nat.le_of_ble_eq_true rfl⟩) hS (fun r2 σ1 H locs h hP hS => ?_)
      refine lv_if_eq (tgt := 59) hx hb d_D_findMisfit_31 (by decide) (fun cn => ?_) (fun cn => ?_)
      · have h := h.1 cn
        refine lv_iinc (v := (x4 + 1)) (lv' := [(4, .int (x4 + 1)), (0, .ref (ad 1)), (2, .int x2), (3, .int x3)]) hx hb d_D_findMisfit_59 hl (k := 3) rfl rfl (by decide) rfl (fun ls hl => ?_)
        refine lv_goto (tgt := 13) hx hb d_D_findMisfit_62 (by decide) ?_
        rw [hG13] at h
        exact h _ _ _ hP hS (lv_sub hl [1, 2, 3, 0] rfl)
      · have h := h.2 cn
        refine lv_aload_n hx hb d_D_findMisfit_34 rfl (lv_at hl 0 rfl) ?_
        refine lv_iload_n hx hb d_D_findMisfit_35 rfl (lv_at hl 2 rfl) ?_
        refine lv_iload hx hb d_D_findMisfit_36 (lv_at hl 3 rfl) ?_
        refine kC_i (va_runV (As := [.int x3, .int x4]) (rest := []) ⟨hx, hb, hml, hown, htg⟩ (met_D_isLaterPhase l D ad cA cB hap σ1 H.size x3 x4 _ h) (cwV 2 htg (kG (kG_V m_420 m_421 m_422 m_54 (kG_self m_423))) rfl rfl rfl (by decide +kernel) ⟨Nat.le_of_ble_eq_true rfl, Nat.le_of_ble_eq_true rfl⟩) (kC_preV hK hF hP hS 1 rfl rfl _) rfl rfl hl.1 rfl (lv_room (Nat.le_of_ble_eq_true rfl)) d_D_findMisfit_38 ⟨Nat.le_of_ble_eq_true rfl, Nat.le_of_ble_eq_true rfl⟩) hS (fun r4 σ3 H locs h hP hS => ?_)
        refine lv_if_eq (tgt := 59) hx hb d_D_findMisfit_41 (by decide) (fun cn => ?_) (fun cn => ?_)
        · have h := h.1 cn
          refine lv_iinc (v := (x4 + 1)) (lv' := [(4, .int (x4 + 1)), (0, .ref (ad 1)), (2, .int x2), (3, .int x3)]) hx hb d_D_findMisfit_59 hl (k := 3) rfl rfl (by decide) rfl (fun ls hl => ?_)
          refine lv_goto (tgt := 13) hx hb d_D_findMisfit_62 (by decide) ?_
          rw [hG13] at h
          exact h _ _ _ hP hS (lv_sub hl [1, 2, 3, 0] rfl)
        · have h := h.2 cn
          refine lv_iload_n hx hb d_D_findMisfit_44 rfl (lv_at hl 1 rfl) ?_
          refine lv_if_ne (tgt := 56) hx hb d_D_findMisfit_45 (by decide) (fun cn => ?_) (fun cn => ?_)
          · have h := h.1 cn
            refine lv_iinc (v := (x2 + (-1))) (lv' := [(2, .int (x2 + (-1))), (0, .ref (ad 1)), (3, .int x3), (4, .int x4)]) hx hb d_D_findMisfit_56 hl (k := 1) rfl rfl (by decide) rfl (fun ls hl => ?_)
            refine lv_iinc (v := (x4 + 1)) (lv' := [(4, .int (x4 + 1)), (2, .int (x2 + (-1))), (0, .ref (ad 1)), (3, .int x3)]) hx hb d_D_findMisfit_59 hl (k := 3) rfl rfl (by decide) rfl (fun ls hl => ?_)
            refine lv_goto (tgt := 13) hx hb d_D_findMisfit_62 (by decide) ?_
            rw [hG13] at h
            exact h _ _ _ hP hS (lv_sub hl [2, 1, 3, 0] rfl)
          · have h := h.2 cn
            refine lv_bipush (v := 16) hx hb d_D_findMisfit_48 (by decide) ?_
            refine lv_iload_n hx hb d_D_findMisfit_50 rfl (lv_at hl 2 rfl) ?_
            refine lv_imul hx hb d_D_findMisfit_51 ?_
            refine lv_iload hx hb d_D_findMisfit_52 (lv_at hl 3 rfl) ?_
            refine lv_iadd hx hb d_D_findMisfit_54 ?_
            exact W.iret (v := ((16 * x3) + x4)) hx hb hr (fun t ht hW => ⟨⟨_, σ3, rfl, h, kBC_of ht hP⟩, hS.F ht⟩) hS.2.2 d_D_findMisfit_55 hlocks)
  obtain ⟨H, eH⟩ : ∃ z, z = s.heap := ⟨_, rfl⟩
  have hP : va_P D vwCl (wC ad cA cB σ) H := by rw [eH]; exact hP
  have hS : va_S (kAC ad s.heap.size) s.heap H [] := by rw [eH]; exact hS
  show W p l e (headSpec (Cond.code y_D_findMisfit c_D_findMisfit 5 (some .int) :: wsG) ({ frames := 1, cells := 0, slots := 0, locals := 22 } : Room)).room s m ([.ref (ad 1), .int a1] : List Value).toArray below meth c s.heap [] 0 0 (MQ below (va_Qi post (kBC D ad cA cB) (kAC ad s.heap.size)) ([.ref (ad 1), .int a1] : List Value).toArray s 0 0 (kAC ad s.heap.size)) (F0 m 0 ls [])
  suffices k : W p l e (headSpec (Cond.code y_D_findMisfit c_D_findMisfit 5 (some .int) :: wsG) ({ frames := 1, cells := 0, slots := 0, locals := 22 } : Room)).room s m ([.ref (ad 1), .int a1] : List Value).toArray below meth c H [] 0 0 (MQ below (va_Qi post (kBC D ad cA cB) (kAC ad s.heap.size)) ([.ref (ad 1), .int a1] : List Value).toArray s 0 0 (kAC ad s.heap.size)) (F0 m 0 ls []) by rw [eH] at k; exact k
  refine lv_iload_n hx hb d_D_findMisfit_0 rfl (lv_at hl 1 rfl) ?_
  refine lv_istore_n (lv' := [(2, .int a1), (0, .ref (ad 1)), (1, .int a1)]) hx hb d_D_findMisfit_1 rfl hl (by decide) rfl (fun ls hl => ?_)
  refine lv_iconst (v := 0) hx hb d_D_findMisfit_2 (by decide) ?_
  refine lv_istore_n (lv' := [(3, .int 0), (2, .int a1), (0, .ref (ad 1)), (1, .int a1)]) hx hb d_D_findMisfit_3 rfl hl (by decide) rfl (fun ls hl => ?_)
  rw [hG4] at h
  exact h _ _ _ hP hS (lv_sub hl [2, 1, 0] rfl)
set_option maxHeartbeats 4000000 in
set_option maxRecDepth 100000 in
theorem met_M_goOn_13 (l : Launch) (D : va_G) (ad : Nat → Nat) (cA cB : ClassId) (hap : kapC ad) (σ : S0) (sz : Nat) (a1 : Int32) (post : S0 → Prop) (h : Sp_M_goOn_13 a1 σ post) : Met l y_M_goOn (Cond.code y_M_goOn c_M_goOn 4 none :: wsG) ({ frames := 1, cells := 0, slots := 0, locals := 21 } : Room) (kPcC D ad cA cB σ sz [.ref (ad 13), .int a1]) (va_Qv post (kBC D ad cA cB) (kAC ad sz)) 0 0 (kAC ad sz) := by
  refine Met.ofW (cc := c_M_goOn) (maxL := 4) (ret := none) (by decide) rfl ?_
  intro p e s m args below meth c s₁ B hml hv
  obtain ⟨rfl, hsz, hP, hK, hF⟩ := hv
  have hx := B.exec
  have hb := B.bytes
  have hr := B.returns
  have hts := atoms_spec (ws := (Cond.code y_M_goOn c_M_goOn 4 none :: wsG)) B.pre
  have htg : ∀ w ∈ wsG, w.before ([.ref (ad 13), .int a1] : List Value).toArray s = true := fun w h => hts w (List.mem_cons_of_mem _ h)
  have hown : s.vm.findClass RX3 = some m.cls := findClass_of_methodNamed B.named
  have hlocks := B.notSynchronized
  subst hsz
  have hD : ∀ σ, va_D (kAC ad s.heap.size) (wC ad cA cB σ) := fun σ => wC_D hap cA cB σ _
  have hS : va_S (kAC ad s.heap.size) s.heap s.heap [] := va_S.rf
  have hE := hF.1
  have hl := lv_entry ([.ref (ad 13), .int a1]) (n := 4) (Nat.le_of_ble_eq_true rfl)
  rw [lg_entry_eq]
  generalize (lg_sl ([.ref (ad 13), .int a1]) ++ List.replicate (4 - (lg_sl ([.ref (ad 13), .int a1])).length) Slot.unset).toArray = ls at hl ⊢
  have hl : lv_has ls 4 [(0, .ref (ad 13)), (1, .int a1)] := hl
  unfold Sp_M_goOn_13 at h
  obtain ⟨G2, hG2⟩ : ∃ G : Int32 → Int32 → S0 → Prop, G = fun (x1 x2 : Int32) (σ : S0) => ∀ (H : Heap) (locs : List Loc) (ls : Array Slot), va_P D vwCl (wC ad cA cB σ) H → va_S (kAC ad s.heap.size) s.heap H locs → lv_has ls 4 [(0, .ref (ad 13)), (1, .int x1), (2, .int x2)] → W p l e (headSpec (Cond.code y_M_goOn c_M_goOn 4 none :: wsG) ({ frames := 1, cells := 0, slots := 0, locals := 21 } : Room)).room s m ([.ref (ad 13), .int a1] : List Value).toArray below meth c H locs 0 0 (MQ below (va_Qv post (kBC D ad cA cB) (kAC ad s.heap.size)) ([.ref (ad 13), .int a1] : List Value).toArray s 0 0 (kAC ad s.heap.size)) (F0 m 2 ls []) := ⟨_, rfl⟩
  obtain ⟨G10, hG10⟩ : ∃ G : Int32 → Int32 → Int32 → S0 → Prop, G = fun (x1 x2 x3 : Int32) (σ : S0) => ∀ (H : Heap) (locs : List Loc) (ls : Array Slot), va_P D vwCl (wC ad cA cB σ) H → va_S (kAC ad s.heap.size) s.heap H locs → lv_has ls 4 [(0, .ref (ad 13)), (1, .int x1), (2, .int x2), (3, .int x3)] → W p l e (headSpec (Cond.code y_M_goOn c_M_goOn 4 none :: wsG) ({ frames := 1, cells := 0, slots := 0, locals := 21 } : Room)).room s m ([.ref (ad 13), .int a1] : List Value).toArray below meth c H locs 0 0 (MQ below (va_Qv post (kBC D ad cA cB) (kAC ad s.heap.size)) ([.ref (ad 13), .int a1] : List Value).toArray s 0 0 (kAC ad s.heap.size)) (F0 m 10 ls []) := ⟨_, rfl⟩
  have h := h G2 G10
  have h := h (by
    intro x1 x2 σ h
    rw [hG2]
    intro H locs ls hP hS hl
    refine lv_iload_n hx hb d_M_goOn_2 rfl (lv_at hl 2 rfl) ?_
    refine lv_bipush (v := 16) hx hb d_M_goOn_3 (by decide) ?_
    refine lv_icmp_ge (tgt := 55) hx hb d_M_goOn_5 (by decide) (fun cn => ?_) (fun cn => ?_)
    · have h := h.1 cn
      exact W.vret hx hb hr (fun t ht hW => ⟨⟨σ, rfl, h, kBC_of ht hP⟩, hS.F ht⟩) hS.2.2 d_M_goOn_55 hlocks
    · have h := h.2 cn
      refine lv_iconst (v := 0) hx hb d_M_goOn_8 (by decide) ?_
      refine lv_istore_n (lv' := [(3, .int 0), (0, .ref (ad 13)), (1, .int x1), (2, .int x2)]) hx hb d_M_goOn_9 rfl hl (by decide) rfl (fun ls hl => ?_)
      rw [hG10] at h
      exact h _ _ _ hP hS (lv_sub hl [1, 2, 3, 0] rfl))
  have h := h (by
    intro x1 x2 x3 σ h
    rw [hG10]
    intro H locs ls hP hS hl
    refine lv_iload_n hx hb d_M_goOn_10 rfl (lv_at hl 3 rfl) ?_
    refine lv_bipush (v := 16) hx hb d_M_goOn_11 (by decide) ?_
    refine lv_icmp_ge (tgt := 49) hx hb d_M_goOn_13 (by decide) (fun cn => ?_) (fun cn => ?_)
    · have h := h.1 cn
      refine lv_iinc (v := (x2 + 1)) (lv' := [(2, .int (x2 + 1)), (0, .ref (ad 13)), (1, .int x1), (3, .int x3)]) hx hb d_M_goOn_49 hl (k := 2) rfl rfl (by decide) rfl (fun ls hl => ?_)
      refine lv_goto (tgt := 2) hx hb d_M_goOn_52 (by decide) ?_
      rw [hG2] at h
      exact h _ _ _ hP hS (lv_sub hl [1, 2, 0] rfl)
    · have h := h.2 cn
      refine lv_iload_n hx hb d_M_goOn_16 rfl (lv_at hl 1 rfl) ?_
      refine lv_iload_n hx hb d_M_goOn_17 rfl (lv_at hl 2 rfl) ?_
      refine kC_i (va_runS (As := [.int x1, .int x2]) (rest := []) ⟨hx, hb, hml, hown, htg⟩ (met_M_has l D ad cA cB hap σ H.size x1 x2 _ h) (cwS 2 htg (kG (kG_S m_337 m_317 m_53 (kG_self m_318))) rfl rfl rfl (by decide +kernel) ⟨Nat.le_of_ble_eq_true rfl, Nat.le_of_ble_eq_true rfl⟩) (kC_pre hK hF hP hS _) rfl rfl hl.1 rfl (lv_room (Nat.le_of_ble_eq_true rfl)) d_M_goOn_18 ⟨Nat.le_of_ble_eq_true rfl, Nat.le_of_ble_eq_true rfl⟩) hS (fun r2 σ1 H locs h hP hS => ?_)
      refine lv_if_eq (tgt := 43) hx hb d_M_goOn_21 (by decide) (fun cn => ?_) (fun cn => ?_)
      · have h := h.1 cn
        refine lv_iinc (v := (x3 + 1)) (lv' := [(3, .int (x3 + 1)), (0, .ref (ad 13)), (1, .int x1), (2, .int x2)]) hx hb d_M_goOn_43 hl (k := 3) rfl rfl (by decide) rfl (fun ls hl => ?_)
        refine lv_goto (tgt := 10) hx hb d_M_goOn_46 (by decide) ?_
        rw [hG10] at h
        exact h _ _ _ hP hS (lv_sub hl [1, 2, 3, 0] rfl)
      · have h := h.2 cn
        refine lv_aload_n hx hb d_M_goOn_24 rfl (lv_at hl 0 rfl) ?_
        refine lv_iload_n hx hb d_M_goOn_25 rfl (lv_at hl 3 rfl) ?_
        have hi := h.1
        have h := h.2
        refine va_iald hx hb hK hP 13 0 rfl rfl hi d_M_goOn_26 ?_
        refine lv_iload_n hx hb d_M_goOn_27 rfl (lv_at hl 2 rfl) ?_
        refine kC_i (va_runS (As := [.int (σ1 13 x3.toNatClampNeg), .int x2]) (rest := []) ⟨hx, hb, hml, hown, htg⟩ (met_M_has l D ad cA cB hap σ1 H.size (σ1 13 x3.toNatClampNeg) x2 _ h) (cwS 2 htg (kG (kG_S m_337 m_317 m_53 (kG_self m_318))) rfl rfl rfl (by decide +kernel) ⟨Nat.le_of_ble_eq_true rfl, Nat.le_of_ble_eq_true rfl⟩) (kC_pre hK hF hP hS _) rfl rfl hl.1 rfl (lv_room (Nat.le_of_ble_eq_true rfl)) d_M_goOn_28 ⟨Nat.le_of_ble_eq_true rfl, Nat.le_of_ble_eq_true rfl⟩) hS (fun r4 σ3 H locs h hP hS => ?_)
        refine lv_if_eq (tgt := 43) hx hb d_M_goOn_31 (by decide) (fun cn => ?_) (fun cn => ?_)
        · have h := h.1 cn
          refine lv_iinc (v := (x3 + 1)) (lv' := [(3, .int (x3 + 1)), (0, .ref (ad 13)), (1, .int x1), (2, .int x2)]) hx hb d_M_goOn_43 hl (k := 3) rfl rfl (by decide) rfl (fun ls hl => ?_)
          refine lv_goto (tgt := 10) hx hb d_M_goOn_46 (by decide) ?_
          rw [hG10] at h
          exact h _ _ _ hP hS (lv_sub hl [1, 2, 3, 0] rfl)
        · have h := h.2 cn
          refine lv_aload_n hx hb d_M_goOn_34 rfl (lv_at hl 0 rfl) ?_
          refine lv_iload_n hx hb d_M_goOn_35 rfl (lv_at hl 3 rfl) ?_
          refine lv_dup2_11 hx hb d_M_goOn_36 rfl rfl ?_
          have hi := h.1
          have h := h.2
          refine va_iald hx hb hK hP 13 0 rfl rfl hi d_M_goOn_37 ?_
          refine lv_aload_n hx hb d_M_goOn_38 rfl (lv_at hl 0 rfl) ?_
          refine lv_iload_n hx hb d_M_goOn_39 rfl (lv_at hl 2 rfl) ?_
          have hi := h.1
          have h := h.2
          refine va_iald hx hb hK hP 13 0 rfl rfl hi d_M_goOn_40 ?_
          refine lv_ior hx hb d_M_goOn_41 ?_
          have hi := h.1
          have h := h.2
          refine va_iast hx hb hK hP (hD _) hS 13 0 rfl rfl hi d_M_goOn_42 (fun H locs hP _ hS => ?_)
          obtain ⟨σ5, eσ5⟩ : ∃ z : S0, z = st σ3 13 x3.toNatClampNeg ((σ3 13 x3.toNatClampNeg) ||| (σ3 13 x2.toNatClampNeg)) := ⟨_, rfl⟩
          have hP : va_P D vwCl (wC ad cA cB σ5) H := by rw [eσ5]; exact hP
          have h := h σ5 eσ5
          refine lv_iinc (v := (x3 + 1)) (lv' := [(3, .int (x3 + 1)), (0, .ref (ad 13)), (1, .int x1), (2, .int x2)]) hx hb d_M_goOn_43 hl (k := 3) rfl rfl (by decide) rfl (fun ls hl => ?_)
          refine lv_goto (tgt := 10) hx hb d_M_goOn_46 (by decide) ?_
          rw [hG10] at h
          exact h _ _ _ hP hS (lv_sub hl [1, 2, 3, 0] rfl))
  obtain ⟨H, eH⟩ : ∃ z, z = s.heap := ⟨_, rfl⟩
  have hP : va_P D vwCl (wC ad cA cB σ) H := by rw [eH]; exact hP
  have hS : va_S (kAC ad s.heap.size) s.heap H [] := by rw [eH]; exact hS
  show W p l e (headSpec (Cond.code y_M_goOn c_M_goOn 4 none :: wsG) ({ frames := 1, cells := 0, slots := 0, locals := 21 } : Room)).room s m ([.ref (ad 13), .int a1] : List Value).toArray below meth c s.heap [] 0 0 (MQ below (va_Qv post (kBC D ad cA cB) (kAC ad s.heap.size)) ([.ref (ad 13), .int a1] : List Value).toArray s 0 0 (kAC ad s.heap.size)) (F0 m 0 ls [])
  suffices k : W p l e (headSpec (Cond.code y_M_goOn c_M_goOn 4 none :: wsG) ({ frames := 1, cells := 0, slots := 0, locals := 21 } : Room)).room s m ([.ref (ad 13), .int a1] : List Value).toArray below meth c H [] 0 0 (MQ below (va_Qv post (kBC D ad cA cB) (kAC ad s.heap.size)) ([.ref (ad 13), .int a1] : List Value).toArray s 0 0 (kAC ad s.heap.size)) (F0 m 0 ls []) by rw [eH] at k; exact k
  refine lv_iconst (v := 0) hx hb d_M_goOn_0 (by decide) ?_
  refine lv_istore_n (lv' := [(2, .int 0), (0, .ref (ad 13)), (1, .int a1)]) hx hb d_M_goOn_1 rfl hl (by decide) rfl (fun ls hl => ?_)
  rw [hG2] at h
  exact h _ _ _ hP hS (lv_sub hl [1, 2, 0] rfl)
set_option maxHeartbeats 4000000 in
set_option maxRecDepth 100000 in
theorem met_P_findLinks (l : Launch) (D : va_G) (ad : Nat → Nat) (cA cB : ClassId) (hap : kapC ad) (σ : S0) (sz : Nat) (post : S0 → Prop) (h : Sp_P_findLinks  σ post) : Met l y_P_findLinks (Cond.code y_P_findLinks c_P_findLinks 5 none :: wsG) ({ frames := 2, cells := 0, slots := 0, locals := 60 } : Room) (kPcC D ad cA cB σ sz [.ref (ad 2), .ref (ad 1)]) (va_Qv post (kBC D ad cA cB) (kAC ad sz)) 0 0 (kAC ad sz) := by
  refine Met.ofW (cc := c_P_findLinks) (maxL := 5) (ret := none) (by decide) rfl ?_
  intro p e s m args below meth c s₁ B hml hv
  obtain ⟨rfl, hsz, hP, hK, hF⟩ := hv
  have hx := B.exec
  have hb := B.bytes
  have hr := B.returns
  have hts := atoms_spec (ws := (Cond.code y_P_findLinks c_P_findLinks 5 none :: wsG)) B.pre
  have htg : ∀ w ∈ wsG, w.before ([.ref (ad 2), .ref (ad 1)] : List Value).toArray s = true := fun w h => hts w (List.mem_cons_of_mem _ h)
  have hown : s.vm.findClass RX2 = some m.cls := findClass_of_methodNamed B.named
  have hlocks := B.notSynchronized
  subst hsz
  have hD : ∀ σ, va_D (kAC ad s.heap.size) (wC ad cA cB σ) := fun σ => wC_D hap cA cB σ _
  have hS : va_S (kAC ad s.heap.size) s.heap s.heap [] := va_S.rf
  have hE := hF.1
  have hl := lv_entry ([.ref (ad 2), .ref (ad 1)]) (n := 5) (Nat.le_of_ble_eq_true rfl)
  rw [lg_entry_eq]
  generalize (lg_sl ([.ref (ad 2), .ref (ad 1)]) ++ List.replicate (5 - (lg_sl ([.ref (ad 2), .ref (ad 1)])).length) Slot.unset).toArray = ls at hl ⊢
  have hl : lv_has ls 5 [(0, .ref (ad 2)), (1, .ref (ad 1))] := hl
  unfold Sp_P_findLinks at h
  obtain ⟨G46, hG46⟩ : ∃ G : Int32 → S0 → Prop, G = fun (x3 : Int32) (σ : S0) => ∀ (H : Heap) (locs : List Loc) (ls : Array Slot), va_P D vwCl (wC ad cA cB σ) H → va_S (kAC ad s.heap.size) s.heap H locs → lv_has ls 5 [(0, .ref (ad 2)), (3, .int x3)] → W p l e (headSpec (Cond.code y_P_findLinks c_P_findLinks 5 none :: wsG) ({ frames := 2, cells := 0, slots := 0, locals := 60 } : Room)).room s m ([.ref (ad 2), .ref (ad 1)] : List Value).toArray below meth c H locs 0 0 (MQ below (va_Qv post (kBC D ad cA cB) (kAC ad s.heap.size)) ([.ref (ad 2), .ref (ad 1)] : List Value).toArray s 0 0 (kAC ad s.heap.size)) (F0 m 46 ls []) := ⟨_, rfl⟩
  obtain ⟨G55, hG55⟩ : ∃ G : Int32 → Int32 → S0 → Prop, G = fun (x3 x4 : Int32) (σ : S0) => ∀ (H : Heap) (locs : List Loc) (ls : Array Slot), va_P D vwCl (wC ad cA cB σ) H → va_S (kAC ad s.heap.size) s.heap H locs → lv_has ls 5 [(0, .ref (ad 2)), (3, .int x3), (4, .int x4)] → W p l e (headSpec (Cond.code y_P_findLinks c_P_findLinks 5 none :: wsG) ({ frames := 2, cells := 0, slots := 0, locals := 60 } : Room)).room s m ([.ref (ad 2), .ref (ad 1)] : List Value).toArray below meth c H locs 0 0 (MQ below (va_Qv post (kBC D ad cA cB) (kAC ad s.heap.size)) ([.ref (ad 2), .ref (ad 1)] : List Value).toArray s 0 0 (kAC ad s.heap.size)) (F0 m 55 ls []) := ⟨_, rfl⟩
  have h := h G46 G55
  have h := h (by
    intro x3 σ h
    rw [hG46]
    intro H locs ls hP hS hl
    refine lv_iload_n hx hb d_P_findLinks_46 rfl (lv_at hl 1 rfl) ?_
    refine lv_bipush (v := 16) hx hb d_P_findLinks_47 (by decide) ?_
    refine lv_icmp_ge (tgt := 135) hx hb d_P_findLinks_49 (by decide) (fun cn => ?_) (fun cn => ?_)
    · have h := h.1 cn
      exact W.vret hx hb hr (fun t ht hW => ⟨⟨σ, rfl, h, kBC_of ht hP⟩, hS.F ht⟩) hS.2.2 d_P_findLinks_135 hlocks
    · have h := h.2 cn
      refine lv_iconst (v := 0) hx hb d_P_findLinks_52 (by decide) ?_
      refine lv_istore (lv' := [(4, .int 0), (0, .ref (ad 2)), (3, .int x3)]) hx hb d_P_findLinks_53 hl (by decide) rfl (fun ls hl => ?_)
      rw [hG55] at h
      exact h _ _ _ hP hS (lv_sub hl [1, 2, 0] rfl))
  have h := h (by
    intro x3 x4 σ h
    rw [hG55]
    intro H locs ls hP hS hl
    refine lv_iload hx hb d_P_findLinks_55 (lv_at hl 2 rfl) ?_
    refine lv_bipush (v := 16) hx hb d_P_findLinks_57 (by decide) ?_
    refine lv_icmp_ge (tgt := 129) hx hb d_P_findLinks_59 (by decide) (fun cn => ?_) (fun cn => ?_)
    · have h := h.1 cn
      refine lv_iinc (v := (x3 + 1)) (lv' := [(3, .int (x3 + 1)), (0, .ref (ad 2)), (4, .int x4)]) hx hb d_P_findLinks_129 hl (k := 1) rfl rfl (by decide) rfl (fun ls hl => ?_)
      refine lv_goto (tgt := 46) hx hb d_P_findLinks_132 (by decide) ?_
      rw [hG46] at h
      exact h _ _ _ hP hS (lv_sub hl [1, 0] rfl)
    · have h := h.2 cn
      refine lv_aload_n hx hb d_P_findLinks_62 rfl (lv_at hl 0 rfl) ?_
      refine va_get (D := D) (ci := 2) (v := .int (σ 0 4)) (C := RX2) (T := TX2) (N := 10) hx hb htg inG_X2 hown hK hP 2 rfl rfl 3 (by decide) (htg _ m_130) (fun _ h9 => h9) rfl d_P_findLinks_63 ?_
      refine lv_iload_n hx hb d_P_findLinks_66 rfl (lv_at hl 1 rfl) ?_
      refine kC_i (va_runSN (As := [.int (σ 0 4), .int x3]) (rest := []) ⟨hx, hb, hml, hown, htg⟩ (met_M_has l D ad cA cB hap σ H.size (σ 0 4) x3 _ h) ⟨va_cnB (host := "MatrixSheets") 2 htg (kG (kG_self m_318)) rfl rfl rfl (hE _ me_443) (htg _ m_53) (by decide +kernel) ⟨Nat.le_of_ble_eq_true rfl, Nat.le_of_ble_eq_true rfl⟩, htg _ m_317, trivial⟩ (kC_pre hK hF hP hS _) rfl rfl hl.1 rfl (lv_room (Nat.le_of_ble_eq_true rfl)) d_P_findLinks_67 ⟨Nat.le_of_ble_eq_true rfl, Nat.le_of_ble_eq_true rfl⟩) hS (fun r8 σ7 H locs h hP hS => ?_)
      refine lv_if_eq (tgt := 123) hx hb d_P_findLinks_70 (by decide) (fun cn => ?_) (fun cn => ?_)
      · have h := h.1 cn
        refine lv_iinc (v := (x4 + 1)) (lv' := [(4, .int (x4 + 1)), (0, .ref (ad 2)), (3, .int x3)]) hx hb d_P_findLinks_123 hl (k := 2) rfl rfl (by decide) rfl (fun ls hl => ?_)
        refine lv_goto (tgt := 55) hx hb d_P_findLinks_126 (by decide) ?_
        rw [hG55] at h
        exact h _ _ _ hP hS (lv_sub hl [1, 2, 0] rfl)
      · have h := h.2 cn
        refine lv_aload_n hx hb d_P_findLinks_73 rfl (lv_at hl 0 rfl) ?_
        refine va_get (D := D) (ci := 2) (v := .ref (ad 13)) (C := RX2) (T := TX2) (N := 10) hx hb htg inG_X2 hown hK hP 2 rfl rfl 7 (by decide) (htg _ m_141) (fun _ h9 => h9) rfl d_P_findLinks_74 ?_
        refine lv_iload_n hx hb d_P_findLinks_77 rfl (lv_at hl 1 rfl) ?_
        have hi := h.1
        have h := h.2
        refine va_iald hx hb hK hP 13 0 rfl rfl hi d_P_findLinks_78 ?_
        refine lv_aload_n hx hb d_P_findLinks_79 rfl (lv_at hl 0 rfl) ?_
        refine va_get (D := D) (ci := 2) (v := .int (σ7 0 4)) (C := RX2) (T := TX2) (N := 10) hx hb htg inG_X2 hown hK hP 2 rfl rfl 3 (by decide) (htg _ m_130) (fun _ h9 => h9) rfl d_P_findLinks_80 ?_
        refine lv_iand hx hb d_P_findLinks_83 ?_
        refine lv_iload hx hb d_P_findLinks_84 (lv_at hl 2 rfl) ?_
        refine kC_i (va_runSN (As := [.int ((σ7 13 x3.toNatClampNeg) &&& (σ7 0 4)), .int x4]) (rest := []) ⟨hx, hb, hml, hown, htg⟩ (met_M_has l D ad cA cB hap σ7 H.size ((σ7 13 x3.toNatClampNeg) &&& (σ7 0 4)) x4 _ h) ⟨va_cnB (host := "MatrixSheets") 2 htg (kG (kG_self m_318)) rfl rfl rfl (hE _ me_443) (htg _ m_53) (by decide +kernel) ⟨Nat.le_of_ble_eq_true rfl, Nat.le_of_ble_eq_true rfl⟩, htg _ m_317, trivial⟩ (kC_pre hK hF hP hS _) rfl rfl hl.1 rfl (lv_room (Nat.le_of_ble_eq_true rfl)) d_P_findLinks_86 ⟨Nat.le_of_ble_eq_true rfl, Nat.le_of_ble_eq_true rfl⟩) hS (fun r10 σ9 H locs h hP hS => ?_)
        refine lv_if_eq (tgt := 123) hx hb d_P_findLinks_89 (by decide) (fun cn => ?_) (fun cn => ?_)
        · have h := h.1 cn
          refine lv_iinc (v := (x4 + 1)) (lv' := [(4, .int (x4 + 1)), (0, .ref (ad 2)), (3, .int x3)]) hx hb d_P_findLinks_123 hl (k := 2) rfl rfl (by decide) rfl (fun ls hl => ?_)
          refine lv_goto (tgt := 55) hx hb d_P_findLinks_126 (by decide) ?_
          rw [hG55] at h
          exact h _ _ _ hP hS (lv_sub hl [1, 2, 0] rfl)
        · have h := h.2 cn
          refine lv_aload_n hx hb d_P_findLinks_92 rfl (lv_at hl 0 rfl) ?_
          refine va_get (D := D) (ci := 2) (v := .ref (ad 11)) (C := RX2) (T := TX2) (N := 10) hx hb htg inG_X2 hown hK hP 2 rfl rfl 1 (by decide) (htg _ m_125) (fun _ h9 => h9) rfl d_P_findLinks_93 ?_
          refine lv_aload_n hx hb d_P_findLinks_96 rfl (lv_at hl 0 rfl) ?_
          refine va_get (D := D) (ci := 2) (v := .int (σ9 0 6)) (C := RX2) (T := TX2) (N := 10) hx hb htg inG_X2 hown hK hP 2 rfl rfl 5 (by decide) (htg _ m_137) (fun _ h9 => h9) rfl d_P_findLinks_97 ?_
          refine lv_iload_n hx hb d_P_findLinks_100 rfl (lv_at hl 1 rfl) ?_
          have hi := h.1
          have h := h.2
          refine va_iast hx hb hK hP (hD _) hS 11 0 rfl rfl hi d_P_findLinks_101 (fun H locs hP _ hS => ?_)
          obtain ⟨σ11, eσ11⟩ : ∃ z : S0, z = st σ9 11 (σ9 0 6).toNatClampNeg x3 := ⟨_, rfl⟩
          have hP : va_P D vwCl (wC ad cA cB σ11) H := by rw [eσ11]; exact hP
          have h := h σ11 eσ11
          refine lv_aload_n hx hb d_P_findLinks_102 rfl (lv_at hl 0 rfl) ?_
          refine va_get (D := D) (ci := 2) (v := .ref (ad 12)) (C := RX2) (T := TX2) (N := 10) hx hb htg inG_X2 hown hK hP 2 rfl rfl 2 (by decide) (htg _ m_128) (fun _ h9 => h9) rfl d_P_findLinks_103 ?_
          refine lv_aload_n hx hb d_P_findLinks_106 rfl (lv_at hl 0 rfl) ?_
          refine va_get (D := D) (ci := 2) (v := .int (σ11 0 6)) (C := RX2) (T := TX2) (N := 10) hx hb htg inG_X2 hown hK hP 2 rfl rfl 5 (by decide) (htg _ m_137) (fun _ h9 => h9) rfl d_P_findLinks_107 ?_
          refine lv_iload hx hb d_P_findLinks_110 (lv_at hl 2 rfl) ?_
          have hi := h.1
          have h := h.2
          refine va_iast hx hb hK hP (hD _) hS 12 0 rfl rfl hi d_P_findLinks_112 (fun H locs hP _ hS => ?_)
          obtain ⟨σ12, eσ12⟩ : ∃ z : S0, z = st σ11 12 (σ11 0 6).toNatClampNeg x4 := ⟨_, rfl⟩
          have hP : va_P D vwCl (wC ad cA cB σ12) H := by rw [eσ12]; exact hP
          have h := h σ12 eσ12
          refine lv_aload_n hx hb d_P_findLinks_113 rfl (lv_at hl 0 rfl) ?_
          refine lv_dup hx hb d_P_findLinks_114 rfl ?_
          refine va_get (D := D) (ci := 2) (v := .int (σ12 0 6)) (C := RX2) (T := TX2) (N := 10) hx hb htg inG_X2 hown hK hP 2 rfl rfl 5 (by decide) (htg _ m_137) (fun _ h9 => h9) rfl d_P_findLinks_115 ?_
          refine lv_iconst (v := 1) hx hb d_P_findLinks_118 (by decide) ?_
          refine lv_iadd hx hb d_P_findLinks_119 ?_
          refine va_put (D := D) (ci := 2) (v := .int ((σ12 0 6) + 1)) (ty := .int) (C := RX2) (T := TX2) (N := 10) hx hb htg inG_X2 tyX2 tyX2_ok nmX2 hown hK hP (hD _) hS 2 rfl rfl 5 (by decide) (htg _ m_137) (fun _ h9 => h9) rfl (by decide +kernel) rfl rfl (Nat.le_of_ble_eq_true rfl) d_P_findLinks_120 (fun H locs hP _ hS => ?_)
          obtain ⟨σ13, eσ13⟩ : ∃ z : S0, z = st σ12 0 6 ((σ12 0 6) + 1) := ⟨_, rfl⟩
          have hP : va_P D vwCl (wC ad cA cB σ13) H := by rw [eσ13]; exact hP
          have h := h σ13 eσ13
          refine lv_iinc (v := (x4 + 1)) (lv' := [(4, .int (x4 + 1)), (0, .ref (ad 2)), (3, .int x3)]) hx hb d_P_findLinks_123 hl (k := 2) rfl rfl (by decide) rfl (fun ls hl => ?_)
          refine lv_goto (tgt := 55) hx hb d_P_findLinks_126 (by decide) ?_
          rw [hG55] at h
          exact h _ _ _ hP hS (lv_sub hl [1, 2, 0] rfl))
  obtain ⟨H, eH⟩ : ∃ z, z = s.heap := ⟨_, rfl⟩
  have hP : va_P D vwCl (wC ad cA cB σ) H := by rw [eH]; exact hP
  have hS : va_S (kAC ad s.heap.size) s.heap H [] := by rw [eH]; exact hS
  show W p l e (headSpec (Cond.code y_P_findLinks c_P_findLinks 5 none :: wsG) ({ frames := 2, cells := 0, slots := 0, locals := 60 } : Room)).room s m ([.ref (ad 2), .ref (ad 1)] : List Value).toArray below meth c s.heap [] 0 0 (MQ below (va_Qv post (kBC D ad cA cB) (kAC ad s.heap.size)) ([.ref (ad 2), .ref (ad 1)] : List Value).toArray s 0 0 (kAC ad s.heap.size)) (F0 m 0 ls [])
  suffices k : W p l e (headSpec (Cond.code y_P_findLinks c_P_findLinks 5 none :: wsG) ({ frames := 2, cells := 0, slots := 0, locals := 60 } : Room)).room s m ([.ref (ad 2), .ref (ad 1)] : List Value).toArray below meth c H [] 0 0 (MQ below (va_Qv post (kBC D ad cA cB) (kAC ad s.heap.size)) ([.ref (ad 2), .ref (ad 1)] : List Value).toArray s 0 0 (kAC ad s.heap.size)) (F0 m 0 ls []) by rw [eH] at k; exact k
  refine lv_aload_n hx hb d_P_findLinks_0 rfl (lv_at hl 1 rfl) ?_
  refine lv_aload_n hx hb d_P_findLinks_1 rfl (lv_at hl 1 rfl) ?_
  refine va_get (D := D) (ci := 0) (v := .int (σ 0 1)) (C := RX0) (T := TX0) (N := 9) hx hb htg inG_X0 hown hK hP 1 rfl rfl 3 (by decide) (htg _ m_86) (fun _ h9 => h9) rfl d_P_findLinks_2 ?_
  refine kC_i (va_runV (As := [.int (σ 0 1)]) (rest := []) ⟨hx, hb, hml, hown, htg⟩ (met_D_leadersOf l D ad cA cB hap σ H.size (σ 0 1) _ h) (cwV 1 htg (kG (kG_V m_436 m_324 m_325 m_54 (kG_self m_326))) rfl rfl rfl (by decide +kernel) ⟨Nat.le_of_ble_eq_true rfl, Nat.le_of_ble_eq_true rfl⟩) (kC_preV hK hF hP hS 1 rfl rfl _) rfl rfl hl.1 rfl (lv_room (Nat.le_of_ble_eq_true rfl)) d_P_findLinks_5 ⟨Nat.le_of_ble_eq_true rfl, Nat.le_of_ble_eq_true rfl⟩) hS (fun r2 σ1 H locs h hP hS => ?_)
  refine lv_aload_n hx hb d_P_findLinks_8 rfl (lv_at hl 0 rfl) ?_
  refine va_get (D := D) (ci := 2) (v := .int (σ1 0 4)) (C := RX2) (T := TX2) (N := 10) hx hb htg inG_X2 hown hK hP 2 rfl rfl 3 (by decide) (htg _ m_130) (fun _ h9 => h9) rfl d_P_findLinks_9 ?_
  refine lv_iconst (v := (-1)) hx hb d_P_findLinks_12 (by decide) ?_
  refine lv_ixor hx hb d_P_findLinks_13 ?_
  refine lv_iand hx hb d_P_findLinks_14 ?_
  refine lv_topi (fun v3 ev3 => ?_)
  have h := h v3 ev3
  refine lv_istore_n (lv' := [(2, .int v3), (0, .ref (ad 2)), (1, .ref (ad 1))]) hx hb d_P_findLinks_15 rfl hl (by decide) rfl (fun ls hl => ?_)
  refine lv_aload_n hx hb d_P_findLinks_16 rfl (lv_at hl 2 rfl) ?_
  refine va_get (D := D) (ci := 0) (v := .ref (ad 6)) (C := RX0) (T := TX0) (N := 9) hx hb htg inG_X0 hown hK hP 1 rfl rfl 2 (by decide) (htg _ m_85) (fun _ h9 => h9) rfl d_P_findLinks_17 ?_
  refine lv_iconst (v := 0) hx hb d_P_findLinks_20 (by decide) ?_
  refine lv_aload_n hx hb d_P_findLinks_21 rfl (lv_at hl 1 rfl) ?_
  refine va_get (D := D) (ci := 2) (v := .ref (ad 13)) (C := RX2) (T := TX2) (N := 10) hx hb htg inG_X2 hown hK hP 2 rfl rfl 7 (by decide) (htg _ m_141) (fun _ h9 => h9) rfl d_P_findLinks_22 ?_
  refine lv_iconst (v := 0) hx hb d_P_findLinks_25 (by decide) ?_
  refine lv_bipush (v := 16) hx hb d_P_findLinks_26 (by decide) ?_
  have hi := h.1
  have h := h.2
  refine va_copyi hx hb (hml.trans hl.1.symm) hown (htg _ m_441) (htg _ m_333) (htg _ m_332) (htg _ m_62) hK hP (hD _) hS 6 13 0 0 rfl rfl rfl rfl rfl (by decide) (by decide) hi.1 (by rw [sb_cl0, Nat.zero_add]; exact hi.2.1) (by rw [sb_cl0, Nat.zero_add]; exact hi.2.2) (fun _ _ => rfl) (Nat.le_of_ble_eq_true rfl) (Nat.le_of_ble_eq_true rfl) d_P_findLinks_28 (fun H locs hP _ hS => ?_)
  obtain ⟨σ4, eσ4⟩ : ∃ z : S0, z = cp σ1 6 13 (16 : Int32).toNatClampNeg := ⟨_, rfl⟩
  have hP : va_P D vwCl (wC ad cA cB σ4) H := by rw [eσ4]; exact hP
  have h := h σ4 eσ4
  refine lv_aload_n hx hb d_P_findLinks_31 rfl (lv_at hl 1 rfl) ?_
  refine va_get (D := D) (ci := 2) (v := .ref (ad 13)) (C := RX2) (T := TX2) (N := 10) hx hb htg inG_X2 hown hK hP 2 rfl rfl 7 (by decide) (htg _ m_141) (fun _ h9 => h9) rfl d_P_findLinks_32 ?_
  refine lv_iload_n hx hb d_P_findLinks_35 rfl (lv_at hl 0 rfl) ?_
  refine kC_v (va_runSN (As := [.ref (ad 13), .int v3]) (rest := []) ⟨hx, hb, hml, hown, htg⟩ (met_M_goOn_13 l D ad cA cB hap σ4 H.size v3 _ h) ⟨va_cnB (host := "MatrixSheets") 2 htg (kG (kG_self m_336)) rfl rfl rfl (hE _ me_442) (htg _ m_53) (by decide +kernel) ⟨Nat.le_of_ble_eq_true rfl, Nat.le_of_ble_eq_true rfl⟩, htg _ m_335, trivial⟩ (kC_pre hK hF hP hS _) rfl rfl hl.1 rfl (lv_room (Nat.le_of_ble_eq_true rfl)) d_P_findLinks_36 ⟨Nat.le_of_ble_eq_true rfl, Nat.le_of_ble_eq_true rfl⟩) hS (fun σ5 H locs h hP hS => ?_)
  refine lv_aload_n hx hb d_P_findLinks_39 rfl (lv_at hl 1 rfl) ?_
  refine lv_iconst (v := 0) hx hb d_P_findLinks_40 (by decide) ?_
  refine va_put (D := D) (ci := 2) (v := .int 0) (ty := .int) (C := RX2) (T := TX2) (N := 10) hx hb htg inG_X2 tyX2 tyX2_ok nmX2 hown hK hP (hD _) hS 2 rfl rfl 5 (by decide) (htg _ m_137) (fun _ h9 => h9) rfl (by decide +kernel) rfl rfl (Nat.le_of_ble_eq_true rfl) d_P_findLinks_41 (fun H locs hP _ hS => ?_)
  obtain ⟨σ6, eσ6⟩ : ∃ z : S0, z = st σ5 0 6 0 := ⟨_, rfl⟩
  have hP : va_P D vwCl (wC ad cA cB σ6) H := by rw [eσ6]; exact hP
  have h := h σ6 eσ6
  refine lv_iconst (v := 0) hx hb d_P_findLinks_44 (by decide) ?_
  refine lv_istore_n (lv' := [(3, .int 0), (2, .int v3), (0, .ref (ad 2)), (1, .ref (ad 1))]) hx hb d_P_findLinks_45 rfl hl (by decide) rfl (fun ls hl => ?_)
  rw [hG46] at h
  exact h _ _ _ hP hS (lv_sub hl [2, 0] rfl)
set_option maxHeartbeats 4000000 in
set_option maxRecDepth 100000 in
theorem met_P_findForerunners (l : Launch) (D : va_G) (ad : Nat → Nat) (cA cB : ClassId) (hap : kapC ad) (σ : S0) (sz : Nat) (post : S0 → Prop) (h : Sp_P_findForerunners  σ post) : Met l y_P_findForerunners (Cond.code y_P_findForerunners c_P_findForerunners 4 none :: wsG) ({ frames := 1, cells := 0, slots := 0, locals := 22 } : Room) (kPcC D ad cA cB σ sz [.ref (ad 2), .ref (ad 1)]) (va_Qv post (kBC D ad cA cB) (kAC ad sz)) 0 0 (kAC ad sz) := by
  refine Met.ofW (cc := c_P_findForerunners) (maxL := 4) (ret := none) (by decide) rfl ?_
  intro p e s m args below meth c s₁ B hml hv
  obtain ⟨rfl, hsz, hP, hK, hF⟩ := hv
  have hx := B.exec
  have hb := B.bytes
  have hr := B.returns
  have hts := atoms_spec (ws := (Cond.code y_P_findForerunners c_P_findForerunners 4 none :: wsG)) B.pre
  have htg : ∀ w ∈ wsG, w.before ([.ref (ad 2), .ref (ad 1)] : List Value).toArray s = true := fun w h => hts w (List.mem_cons_of_mem _ h)
  have hown : s.vm.findClass RX2 = some m.cls := findClass_of_methodNamed B.named
  have hlocks := B.notSynchronized
  subst hsz
  have hD : ∀ σ, va_D (kAC ad s.heap.size) (wC ad cA cB σ) := fun σ => wC_D hap cA cB σ _
  have hS : va_S (kAC ad s.heap.size) s.heap s.heap [] := va_S.rf
  have hE := hF.1
  have hl := lv_entry ([.ref (ad 2), .ref (ad 1)]) (n := 4) (Nat.le_of_ble_eq_true rfl)
  rw [lg_entry_eq]
  generalize (lg_sl ([.ref (ad 2), .ref (ad 1)]) ++ List.replicate (4 - (lg_sl ([.ref (ad 2), .ref (ad 1)])).length) Slot.unset).toArray = ls at hl ⊢
  have hl : lv_has ls 4 [(0, .ref (ad 2)), (1, .ref (ad 1))] := hl
  unfold Sp_P_findForerunners at h
  obtain ⟨G2, hG2⟩ : ∃ G : Int32 → S0 → Prop, G = fun (x2 : Int32) (σ : S0) => ∀ (H : Heap) (locs : List Loc) (ls : Array Slot), va_P D vwCl (wC ad cA cB σ) H → va_S (kAC ad s.heap.size) s.heap H locs → lv_has ls 4 [(0, .ref (ad 2)), (1, .ref (ad 1)), (2, .int x2)] → W p l e (headSpec (Cond.code y_P_findForerunners c_P_findForerunners 4 none :: wsG) ({ frames := 1, cells := 0, slots := 0, locals := 22 } : Room)).room s m ([.ref (ad 2), .ref (ad 1)] : List Value).toArray below meth c H locs 0 0 (MQ below (va_Qv post (kBC D ad cA cB) (kAC ad s.heap.size)) ([.ref (ad 2), .ref (ad 1)] : List Value).toArray s 0 0 (kAC ad s.heap.size)) (F0 m 2 ls []) := ⟨_, rfl⟩
  obtain ⟨G17, hG17⟩ : ∃ G : Int32 → Int32 → S0 → Prop, G = fun (x2 x3 : Int32) (σ : S0) => ∀ (H : Heap) (locs : List Loc) (ls : Array Slot), va_P D vwCl (wC ad cA cB σ) H → va_S (kAC ad s.heap.size) s.heap H locs → lv_has ls 4 [(0, .ref (ad 2)), (1, .ref (ad 1)), (2, .int x2), (3, .int x3)] → W p l e (headSpec (Cond.code y_P_findForerunners c_P_findForerunners 4 none :: wsG) ({ frames := 1, cells := 0, slots := 0, locals := 22 } : Room)).room s m ([.ref (ad 2), .ref (ad 1)] : List Value).toArray below meth c H locs 0 0 (MQ below (va_Qv post (kBC D ad cA cB) (kAC ad s.heap.size)) ([.ref (ad 2), .ref (ad 1)] : List Value).toArray s 0 0 (kAC ad s.heap.size)) (F0 m 17 ls []) := ⟨_, rfl⟩
  obtain ⟨G56, hG56⟩ : ∃ G : Int32 → Int32 → S0 → Prop, G = fun (x2 x3 : Int32) (σ : S0) => ∀ (H : Heap) (locs : List Loc) (ls : Array Slot), va_P D vwCl (wC ad cA cB σ) H → va_S (kAC ad s.heap.size) s.heap H locs → lv_has ls 4 [(0, .ref (ad 2)), (1, .ref (ad 1)), (2, .int x2), (3, .int x3)] → W p l e (headSpec (Cond.code y_P_findForerunners c_P_findForerunners 4 none :: wsG) ({ frames := 1, cells := 0, slots := 0, locals := 22 } : Room)).room s m ([.ref (ad 2), .ref (ad 1)] : List Value).toArray below meth c H locs 0 0 (MQ below (va_Qv post (kBC D ad cA cB) (kAC ad s.heap.size)) ([.ref (ad 2), .ref (ad 1)] : List Value).toArray s 0 0 (kAC ad s.heap.size)) (F0 m 56 ls []) := ⟨_, rfl⟩
  have h := h G2 G17 G56
  have h := h (by
    intro x2 σ h
    rw [hG2]
    intro H locs ls hP hS hl
    refine lv_iload_n hx hb d_P_findForerunners_2 rfl (lv_at hl 2 rfl) ?_
    refine lv_bipush (v := 16) hx hb d_P_findForerunners_3 (by decide) ?_
    refine lv_icmp_ge (tgt := 80) hx hb d_P_findForerunners_5 (by decide) (fun cn => ?_) (fun cn => ?_)
    · have h := h.1 cn
      exact W.vret hx hb hr (fun t ht hW => ⟨⟨σ, rfl, h, kBC_of ht hP⟩, hS.F ht⟩) hS.2.2 d_P_findForerunners_80 hlocks
    · have h := h.2 cn
      refine lv_aload_n hx hb d_P_findForerunners_8 rfl (lv_at hl 0 rfl) ?_
      refine va_get (D := D) (ci := 2) (v := .ref (ad 14)) (C := RX2) (T := TX2) (N := 10) hx hb htg inG_X2 hown hK hP 2 rfl rfl 8 (by decide) (htg _ m_142) (fun _ h9 => h9) rfl d_P_findForerunners_9 ?_
      refine lv_iload_n hx hb d_P_findForerunners_12 rfl (lv_at hl 2 rfl) ?_
      refine lv_iconst (v := 0) hx hb d_P_findForerunners_13 (by decide) ?_
      have hi := h.1
      have h := h.2
      refine va_iast hx hb hK hP (hD _) hS 14 0 rfl rfl hi d_P_findForerunners_14 (fun H locs hP _ hS => ?_)
      obtain ⟨σ1, eσ1⟩ : ∃ z : S0, z = st σ 14 x2.toNatClampNeg 0 := ⟨_, rfl⟩
      have hP : va_P D vwCl (wC ad cA cB σ1) H := by rw [eσ1]; exact hP
      have h := h σ1 eσ1
      refine lv_iconst (v := 0) hx hb d_P_findForerunners_15 (by decide) ?_
      refine lv_istore_n (lv' := [(3, .int 0), (0, .ref (ad 2)), (1, .ref (ad 1)), (2, .int x2)]) hx hb d_P_findForerunners_16 rfl hl (by decide) rfl (fun ls hl => ?_)
      rw [hG17] at h
      exact h _ _ _ hP hS (lv_sub hl [1, 2, 3, 0] rfl))
  have h := h (by
    intro x2 x3 σ h
    rw [hG17]
    intro H locs ls hP hS hl
    refine lv_iload_n hx hb d_P_findForerunners_17 rfl (lv_at hl 3 rfl) ?_
    refine lv_bipush (v := 16) hx hb d_P_findForerunners_18 (by decide) ?_
    refine lv_icmp_ge (tgt := 74) hx hb d_P_findForerunners_20 (by decide) (fun cn => ?_) (fun cn => ?_)
    · have h := h.1 cn
      refine lv_iinc (v := (x2 + 1)) (lv' := [(2, .int (x2 + 1)), (0, .ref (ad 2)), (1, .ref (ad 1)), (3, .int x3)]) hx hb d_P_findForerunners_74 hl (k := 2) rfl rfl (by decide) rfl (fun ls hl => ?_)
      refine lv_goto (tgt := 2) hx hb d_P_findForerunners_77 (by decide) ?_
      rw [hG2] at h
      exact h _ _ _ hP hS (lv_sub hl [1, 2, 0] rfl)
    · have h := h.2 cn
      refine lv_aload_n hx hb d_P_findForerunners_23 rfl (lv_at hl 0 rfl) ?_
      refine va_get (D := D) (ci := 2) (v := .int (σ 0 4)) (C := RX2) (T := TX2) (N := 10) hx hb htg inG_X2 hown hK hP 2 rfl rfl 3 (by decide) (htg _ m_130) (fun _ h9 => h9) rfl d_P_findForerunners_24 ?_
      refine lv_iload_n hx hb d_P_findForerunners_27 rfl (lv_at hl 3 rfl) ?_
      refine kC_i (va_runSN (As := [.int (σ 0 4), .int x3]) (rest := []) ⟨hx, hb, hml, hown, htg⟩ (met_M_has l D ad cA cB hap σ H.size (σ 0 4) x3 _ h) ⟨va_cnB (host := "MatrixSheets") 2 htg (kG (kG_self m_318)) rfl rfl rfl (hE _ me_443) (htg _ m_53) (by decide +kernel) ⟨Nat.le_of_ble_eq_true rfl, Nat.le_of_ble_eq_true rfl⟩, htg _ m_317, trivial⟩ (kC_pre hK hF hP hS _) rfl rfl hl.1 rfl (lv_room (Nat.le_of_ble_eq_true rfl)) d_P_findForerunners_28 ⟨Nat.le_of_ble_eq_true rfl, Nat.le_of_ble_eq_true rfl⟩) hS (fun r3 σ2 H locs h hP hS => ?_)
      refine lv_if_eq (tgt := 68) hx hb d_P_findForerunners_31 (by decide) (fun cn => ?_) (fun cn => ?_)
      · have h := h.1 cn
        refine lv_iinc (v := (x3 + 1)) (lv' := [(3, .int (x3 + 1)), (0, .ref (ad 2)), (1, .ref (ad 1)), (2, .int x2)]) hx hb d_P_findForerunners_68 hl (k := 3) rfl rfl (by decide) rfl (fun ls hl => ?_)
        refine lv_goto (tgt := 17) hx hb d_P_findForerunners_71 (by decide) ?_
        rw [hG17] at h
        exact h _ _ _ hP hS (lv_sub hl [1, 2, 3, 0] rfl)
      · have h := h.2 cn
        refine lv_aload_n hx hb d_P_findForerunners_34 rfl (lv_at hl 0 rfl) ?_
        refine va_get (D := D) (ci := 2) (v := .ref (ad 13)) (C := RX2) (T := TX2) (N := 10) hx hb htg inG_X2 hown hK hP 2 rfl rfl 7 (by decide) (htg _ m_141) (fun _ h9 => h9) rfl d_P_findForerunners_35 ?_
        refine lv_iload_n hx hb d_P_findForerunners_38 rfl (lv_at hl 3 rfl) ?_
        have hi := h.1
        have h := h.2
        refine va_iald hx hb hK hP 13 0 rfl rfl hi d_P_findForerunners_39 ?_
        refine lv_iload_n hx hb d_P_findForerunners_40 rfl (lv_at hl 2 rfl) ?_
        refine kC_i (va_runSN (As := [.int (σ2 13 x3.toNatClampNeg), .int x2]) (rest := []) ⟨hx, hb, hml, hown, htg⟩ (met_M_has l D ad cA cB hap σ2 H.size (σ2 13 x3.toNatClampNeg) x2 _ h) ⟨va_cnB (host := "MatrixSheets") 2 htg (kG (kG_self m_318)) rfl rfl rfl (hE _ me_443) (htg _ m_53) (by decide +kernel) ⟨Nat.le_of_ble_eq_true rfl, Nat.le_of_ble_eq_true rfl⟩, htg _ m_317, trivial⟩ (kC_pre hK hF hP hS _) rfl rfl hl.1 rfl (lv_room (Nat.le_of_ble_eq_true rfl)) d_P_findForerunners_41 ⟨Nat.le_of_ble_eq_true rfl, Nat.le_of_ble_eq_true rfl⟩) hS (fun r5 σ4 H locs h hP hS => ?_)
        refine lv_if_ne (tgt := 56) hx hb d_P_findForerunners_44 (by decide) (fun cn => ?_) (fun cn => ?_)
        · have h := h.1 cn
          rw [hG56] at h
          exact h _ _ _ hP hS (lv_sub hl [0, 1, 2, 3] rfl)
        · have h := h.2 cn
          refine lv_aload_n hx hb d_P_findForerunners_47 rfl (lv_at hl 1 rfl) ?_
          refine lv_iload_n hx hb d_P_findForerunners_48 rfl (lv_at hl 2 rfl) ?_
          refine lv_iload_n hx hb d_P_findForerunners_49 rfl (lv_at hl 3 rfl) ?_
          refine kC_i (va_runV (As := [.int x2, .int x3]) (rest := []) ⟨hx, hb, hml, hown, htg⟩ (met_D_isLaterPhase l D ad cA cB hap σ4 H.size x2 x3 _ h) (cwV 2 htg (kG (kG_V m_448 m_421 m_422 m_54 (kG_self m_423))) rfl rfl rfl (by decide +kernel) ⟨Nat.le_of_ble_eq_true rfl, Nat.le_of_ble_eq_true rfl⟩) (kC_preV hK hF hP hS 1 rfl rfl _) rfl rfl hl.1 rfl (lv_room (Nat.le_of_ble_eq_true rfl)) d_P_findForerunners_50 ⟨Nat.le_of_ble_eq_true rfl, Nat.le_of_ble_eq_true rfl⟩) hS (fun r7 σ6 H locs h hP hS => ?_)
          refine lv_if_eq (tgt := 68) hx hb d_P_findForerunners_53 (by decide) (fun cn => ?_) (fun cn => ?_)
          · have h := h.1 cn
            refine lv_iinc (v := (x3 + 1)) (lv' := [(3, .int (x3 + 1)), (0, .ref (ad 2)), (1, .ref (ad 1)), (2, .int x2)]) hx hb d_P_findForerunners_68 hl (k := 3) rfl rfl (by decide) rfl (fun ls hl => ?_)
            refine lv_goto (tgt := 17) hx hb d_P_findForerunners_71 (by decide) ?_
            rw [hG17] at h
            exact h _ _ _ hP hS (lv_sub hl [1, 2, 3, 0] rfl)
          · have h := h.2 cn
            rw [hG56] at h
            exact h _ _ _ hP hS (lv_sub hl [0, 1, 2, 3] rfl))
  have h := h (by
    intro x2 x3 σ h
    rw [hG56]
    intro H locs ls hP hS hl
    refine lv_aload_n hx hb d_P_findForerunners_56 rfl (lv_at hl 0 rfl) ?_
    refine va_get (D := D) (ci := 2) (v := .ref (ad 14)) (C := RX2) (T := TX2) (N := 10) hx hb htg inG_X2 hown hK hP 2 rfl rfl 8 (by decide) (htg _ m_142) (fun _ h9 => h9) rfl d_P_findForerunners_57 ?_
    refine lv_iload_n hx hb d_P_findForerunners_60 rfl (lv_at hl 2 rfl) ?_
    refine lv_dup2_11 hx hb d_P_findForerunners_61 rfl rfl ?_
    have hi := h.1
    have h := h.2
    refine va_iald hx hb hK hP 14 0 rfl rfl hi d_P_findForerunners_62 ?_
    refine lv_iconst (v := 1) hx hb d_P_findForerunners_63 (by decide) ?_
    refine lv_iload_n hx hb d_P_findForerunners_64 rfl (lv_at hl 3 rfl) ?_
    refine lv_ishl hx hb d_P_findForerunners_65 ?_
    refine lv_ior hx hb d_P_findForerunners_66 ?_
    have hi := h.1
    have h := h.2
    refine va_iast hx hb hK hP (hD _) hS 14 0 rfl rfl hi d_P_findForerunners_67 (fun H locs hP _ hS => ?_)
    obtain ⟨σ8, eσ8⟩ : ∃ z : S0, z = st σ 14 x2.toNatClampNeg ((σ 14 x2.toNatClampNeg) ||| (1 <<< (x3 &&& 31))) := ⟨_, rfl⟩
    have hP : va_P D vwCl (wC ad cA cB σ8) H := by rw [eσ8]; exact hP
    have h := h σ8 eσ8
    refine lv_iinc (v := (x3 + 1)) (lv' := [(3, .int (x3 + 1)), (0, .ref (ad 2)), (1, .ref (ad 1)), (2, .int x2)]) hx hb d_P_findForerunners_68 hl (k := 3) rfl rfl (by decide) rfl (fun ls hl => ?_)
    refine lv_goto (tgt := 17) hx hb d_P_findForerunners_71 (by decide) ?_
    rw [hG17] at h
    exact h _ _ _ hP hS (lv_sub hl [1, 2, 3, 0] rfl))
  obtain ⟨H, eH⟩ : ∃ z, z = s.heap := ⟨_, rfl⟩
  have hP : va_P D vwCl (wC ad cA cB σ) H := by rw [eH]; exact hP
  have hS : va_S (kAC ad s.heap.size) s.heap H [] := by rw [eH]; exact hS
  show W p l e (headSpec (Cond.code y_P_findForerunners c_P_findForerunners 4 none :: wsG) ({ frames := 1, cells := 0, slots := 0, locals := 22 } : Room)).room s m ([.ref (ad 2), .ref (ad 1)] : List Value).toArray below meth c s.heap [] 0 0 (MQ below (va_Qv post (kBC D ad cA cB) (kAC ad s.heap.size)) ([.ref (ad 2), .ref (ad 1)] : List Value).toArray s 0 0 (kAC ad s.heap.size)) (F0 m 0 ls [])
  suffices k : W p l e (headSpec (Cond.code y_P_findForerunners c_P_findForerunners 4 none :: wsG) ({ frames := 1, cells := 0, slots := 0, locals := 22 } : Room)).room s m ([.ref (ad 2), .ref (ad 1)] : List Value).toArray below meth c H [] 0 0 (MQ below (va_Qv post (kBC D ad cA cB) (kAC ad s.heap.size)) ([.ref (ad 2), .ref (ad 1)] : List Value).toArray s 0 0 (kAC ad s.heap.size)) (F0 m 0 ls []) by rw [eH] at k; exact k
  refine lv_iconst (v := 0) hx hb d_P_findForerunners_0 (by decide) ?_
  refine lv_istore_n (lv' := [(2, .int 0), (0, .ref (ad 2)), (1, .ref (ad 1))]) hx hb d_P_findForerunners_1 rfl hl (by decide) rfl (fun ls hl => ?_)
  rw [hG2] at h
  exact h _ _ _ hP hS (lv_sub hl [1, 2, 0] rfl)
set_option maxHeartbeats 4000000 in
set_option maxRecDepth 100000 in
theorem met_P_layRows (l : Launch) (D : va_G) (ad : Nat → Nat) (cA cB : ClassId) (hap : kapC ad) (σ : S0) (sz : Nat) (post : S0 → Prop) (h : Sp_P_layRows  σ post) : Met l y_P_layRows (Cond.code y_P_layRows c_P_layRows 4 none :: wsG) ({ frames := 1, cells := 0, slots := 0, locals := 21 } : Room) (kPcC D ad cA cB σ sz [.ref (ad 2)]) (va_Qv post (kBC D ad cA cB) (kAC ad sz)) 0 0 (kAC ad sz) := by
  refine Met.ofW (cc := c_P_layRows) (maxL := 4) (ret := none) (by decide) rfl ?_
  intro p e s m args below meth c s₁ B hml hv
  obtain ⟨rfl, hsz, hP, hK, hF⟩ := hv
  have hx := B.exec
  have hb := B.bytes
  have hr := B.returns
  have hts := atoms_spec (ws := (Cond.code y_P_layRows c_P_layRows 4 none :: wsG)) B.pre
  have htg : ∀ w ∈ wsG, w.before ([.ref (ad 2)] : List Value).toArray s = true := fun w h => hts w (List.mem_cons_of_mem _ h)
  have hown : s.vm.findClass RX2 = some m.cls := findClass_of_methodNamed B.named
  have hlocks := B.notSynchronized
  subst hsz
  have hD : ∀ σ, va_D (kAC ad s.heap.size) (wC ad cA cB σ) := fun σ => wC_D hap cA cB σ _
  have hS : va_S (kAC ad s.heap.size) s.heap s.heap [] := va_S.rf
  have hE := hF.1
  have hl := lv_entry ([.ref (ad 2)]) (n := 4) (Nat.le_of_ble_eq_true rfl)
  rw [lg_entry_eq]
  generalize (lg_sl ([.ref (ad 2)]) ++ List.replicate (4 - (lg_sl ([.ref (ad 2)])).length) Slot.unset).toArray = ls at hl ⊢
  have hl : lv_has ls 4 [(0, .ref (ad 2))] := hl
  unfold Sp_P_layRows at h
  obtain ⟨G7, hG7⟩ : ∃ G : Int32 → S0 → Prop, G = fun (x1 : Int32) (σ : S0) => ∀ (H : Heap) (locs : List Loc) (ls : Array Slot), va_P D vwCl (wC ad cA cB σ) H → va_S (kAC ad s.heap.size) s.heap H locs → lv_has ls 4 [(0, .ref (ad 2)), (1, .int x1)] → W p l e (headSpec (Cond.code y_P_layRows c_P_layRows 4 none :: wsG) ({ frames := 1, cells := 0, slots := 0, locals := 21 } : Room)).room s m ([.ref (ad 2)] : List Value).toArray below meth c H locs 0 0 (MQ below (va_Qv post (kBC D ad cA cB) (kAC ad s.heap.size)) ([.ref (ad 2)] : List Value).toArray s 0 0 (kAC ad s.heap.size)) (F0 m 7 ls []) := ⟨_, rfl⟩
  obtain ⟨G28, hG28⟩ : ∃ G : Int32 → Int32 → Int32 → S0 → Prop, G = fun (x1 x2 x3 : Int32) (σ : S0) => ∀ (H : Heap) (locs : List Loc) (ls : Array Slot), va_P D vwCl (wC ad cA cB σ) H → va_S (kAC ad s.heap.size) s.heap H locs → lv_has ls 4 [(0, .ref (ad 2)), (1, .int x1), (2, .int x2), (3, .int x3)] → W p l e (headSpec (Cond.code y_P_layRows c_P_layRows 4 none :: wsG) ({ frames := 1, cells := 0, slots := 0, locals := 21 } : Room)).room s m ([.ref (ad 2)] : List Value).toArray below meth c H locs 0 0 (MQ below (va_Qv post (kBC D ad cA cB) (kAC ad s.heap.size)) ([.ref (ad 2)] : List Value).toArray s 0 0 (kAC ad s.heap.size)) (F0 m 28 ls []) := ⟨_, rfl⟩
  have h := h G7 G28
  have h := h (by
    intro x1 σ h
    rw [hG7]
    intro H locs ls hP hS hl
    refine lv_iload_n hx hb d_P_layRows_7 rfl (lv_at hl 1 rfl) ?_
    refine lv_aload_n hx hb d_P_layRows_8 rfl (lv_at hl 0 rfl) ?_
    refine va_get (D := D) (ci := 2) (v := .int (σ 0 4)) (C := RX2) (T := TX2) (N := 10) hx hb htg inG_X2 hown hK hP 2 rfl rfl 3 (by decide) (htg _ m_130) (fun _ h9 => h9) rfl d_P_layRows_9 ?_
    refine lv_icmp_eq (tgt := 101) hx hb d_P_layRows_12 (by decide) (fun cn => ?_) (fun cn => ?_)
    · have h := h.1 cn
      exact W.vret hx hb hr (fun t ht hW => ⟨⟨σ, rfl, h, kBC_of ht hP⟩, hS.F ht⟩) hS.2.2 d_P_layRows_101 hlocks
    · have h := h.2 cn
      refine lv_aload_n hx hb d_P_layRows_15 rfl (lv_at hl 0 rfl) ?_
      refine va_get (D := D) (ci := 2) (v := .int (σ 0 5)) (C := RX2) (T := TX2) (N := 10) hx hb htg inG_X2 hown hK hP 2 rfl rfl 4 (by decide) (htg _ m_134) (fun _ h9 => h9) rfl d_P_layRows_16 ?_
      refine lv_bipush (v := 16) hx hb d_P_layRows_19 (by decide) ?_
      refine lv_icmp_ge (tgt := 101) hx hb d_P_layRows_21 (by decide) (fun cn => ?_) (fun cn => ?_)
      · have h := h.1 cn
        exact W.vret hx hb hr (fun t ht hW => ⟨⟨σ, rfl, h, kBC_of ht hP⟩, hS.F ht⟩) hS.2.2 d_P_layRows_101 hlocks
      · have h := h.2 cn
        refine lv_iconst (v := 0) hx hb d_P_layRows_24 (by decide) ?_
        refine lv_istore_n (lv' := [(2, .int 0), (0, .ref (ad 2)), (1, .int x1)]) hx hb d_P_layRows_25 rfl hl (by decide) rfl (fun ls hl => ?_)
        refine lv_iconst (v := 0) hx hb d_P_layRows_26 (by decide) ?_
        refine lv_istore_n (lv' := [(3, .int 0), (2, .int 0), (0, .ref (ad 2)), (1, .int x1)]) hx hb d_P_layRows_27 rfl hl (by decide) rfl (fun ls hl => ?_)
        rw [hG28] at h
        exact h _ _ _ hP hS (lv_sub hl [2, 3, 1, 0] rfl))
  have h := h (by
    intro x1 x2 x3 σ h
    rw [hG28]
    intro H locs ls hP hS hl
    refine lv_iload_n hx hb d_P_layRows_28 rfl (lv_at hl 3 rfl) ?_
    refine lv_bipush (v := 16) hx hb d_P_layRows_29 (by decide) ?_
    refine lv_icmp_ge (tgt := 84) hx hb d_P_layRows_31 (by decide) (fun cn => ?_) (fun cn => ?_)
    · have h := h.1 cn
      refine lv_iload_n hx hb d_P_layRows_84 rfl (lv_at hl 1 rfl) ?_
      refine lv_iload_n hx hb d_P_layRows_85 rfl (lv_at hl 2 rfl) ?_
      refine lv_ior hx hb d_P_layRows_86 ?_
      refine lv_topi (fun v2 ev2 => ?_)
      have h := h v2 ev2
      refine lv_istore_n (lv' := [(1, .int v2), (0, .ref (ad 2)), (2, .int x2), (3, .int x3)]) hx hb d_P_layRows_87 rfl hl (by decide) rfl (fun ls hl => ?_)
      refine lv_aload_n hx hb d_P_layRows_88 rfl (lv_at hl 1 rfl) ?_
      refine lv_dup hx hb d_P_layRows_89 rfl ?_
      refine va_get (D := D) (ci := 2) (v := .int (σ 0 5)) (C := RX2) (T := TX2) (N := 10) hx hb htg inG_X2 hown hK hP 2 rfl rfl 4 (by decide) (htg _ m_134) (fun _ h9 => h9) rfl d_P_layRows_90 ?_
      refine lv_iconst (v := 1) hx hb d_P_layRows_93 (by decide) ?_
      refine lv_iadd hx hb d_P_layRows_94 ?_
      refine va_put (D := D) (ci := 2) (v := .int ((σ 0 5) + 1)) (ty := .int) (C := RX2) (T := TX2) (N := 10) hx hb htg inG_X2 tyX2 tyX2_ok nmX2 hown hK hP (hD _) hS 2 rfl rfl 4 (by decide) (htg _ m_134) (fun _ h9 => h9) rfl (by decide +kernel) rfl rfl (Nat.le_of_ble_eq_true rfl) d_P_layRows_95 (fun H locs hP _ hS => ?_)
      obtain ⟨σ3, eσ3⟩ : ∃ z : S0, z = st σ 0 5 ((σ 0 5) + 1) := ⟨_, rfl⟩
      have hP : va_P D vwCl (wC ad cA cB σ3) H := by rw [eσ3]; exact hP
      have h := h σ3 eσ3
      refine lv_goto (tgt := 7) hx hb d_P_layRows_98 (by decide) ?_
      rw [hG7] at h
      exact h _ _ _ hP hS (lv_sub hl [1, 0] rfl)
    · have h := h.2 cn
      refine lv_aload_n hx hb d_P_layRows_34 rfl (lv_at hl 0 rfl) ?_
      refine va_get (D := D) (ci := 2) (v := .int (σ 0 4)) (C := RX2) (T := TX2) (N := 10) hx hb htg inG_X2 hown hK hP 2 rfl rfl 3 (by decide) (htg _ m_130) (fun _ h9 => h9) rfl d_P_layRows_35 ?_
      refine lv_iload_n hx hb d_P_layRows_38 rfl (lv_at hl 1 rfl) ?_
      refine lv_iconst (v := (-1)) hx hb d_P_layRows_39 (by decide) ?_
      refine lv_ixor hx hb d_P_layRows_40 ?_
      refine lv_iand hx hb d_P_layRows_41 ?_
      refine lv_iload_n hx hb d_P_layRows_42 rfl (lv_at hl 3 rfl) ?_
      refine kC_i (va_runSN (As := [.int ((σ 0 4) &&& (x1 ^^^ (-1))), .int x3]) (rest := []) ⟨hx, hb, hml, hown, htg⟩ (met_M_has l D ad cA cB hap σ H.size ((σ 0 4) &&& (x1 ^^^ (-1))) x3 _ h) ⟨va_cnB (host := "MatrixSheets") 2 htg (kG (kG_self m_318)) rfl rfl rfl (hE _ me_443) (htg _ m_53) (by decide +kernel) ⟨Nat.le_of_ble_eq_true rfl, Nat.le_of_ble_eq_true rfl⟩, htg _ m_317, trivial⟩ (kC_pre hK hF hP hS _) rfl rfl hl.1 rfl (lv_room (Nat.le_of_ble_eq_true rfl)) d_P_layRows_43 ⟨Nat.le_of_ble_eq_true rfl, Nat.le_of_ble_eq_true rfl⟩) hS (fun r5 σ4 H locs h hP hS => ?_)
      refine lv_if_eq (tgt := 78) hx hb d_P_layRows_46 (by decide) (fun cn => ?_) (fun cn => ?_)
      · have h := h.1 cn
        refine lv_iinc (v := (x3 + 1)) (lv' := [(3, .int (x3 + 1)), (0, .ref (ad 2)), (1, .int x1), (2, .int x2)]) hx hb d_P_layRows_78 hl (k := 3) rfl rfl (by decide) rfl (fun ls hl => ?_)
        refine lv_goto (tgt := 28) hx hb d_P_layRows_81 (by decide) ?_
        rw [hG28] at h
        exact h _ _ _ hP hS (lv_sub hl [1, 2, 3, 0] rfl)
      · have h := h.2 cn
        refine lv_aload_n hx hb d_P_layRows_49 rfl (lv_at hl 0 rfl) ?_
        refine va_get (D := D) (ci := 2) (v := .ref (ad 14)) (C := RX2) (T := TX2) (N := 10) hx hb htg inG_X2 hown hK hP 2 rfl rfl 8 (by decide) (htg _ m_142) (fun _ h9 => h9) rfl d_P_layRows_50 ?_
        refine lv_iload_n hx hb d_P_layRows_53 rfl (lv_at hl 3 rfl) ?_
        have hi := h.1
        have h := h.2
        refine va_iald hx hb hK hP 14 0 rfl rfl hi d_P_layRows_54 ?_
        refine lv_iload_n hx hb d_P_layRows_55 rfl (lv_at hl 1 rfl) ?_
        refine lv_iconst (v := (-1)) hx hb d_P_layRows_56 (by decide) ?_
        refine lv_ixor hx hb d_P_layRows_57 ?_
        refine lv_iand hx hb d_P_layRows_58 ?_
        refine lv_if_ne (tgt := 78) hx hb d_P_layRows_59 (by decide) (fun cn => ?_) (fun cn => ?_)
        · have h := h.1 cn
          refine lv_iinc (v := (x3 + 1)) (lv' := [(3, .int (x3 + 1)), (0, .ref (ad 2)), (1, .int x1), (2, .int x2)]) hx hb d_P_layRows_78 hl (k := 3) rfl rfl (by decide) rfl (fun ls hl => ?_)
          refine lv_goto (tgt := 28) hx hb d_P_layRows_81 (by decide) ?_
          rw [hG28] at h
          exact h _ _ _ hP hS (lv_sub hl [1, 2, 3, 0] rfl)
        · have h := h.2 cn
          refine lv_aload_n hx hb d_P_layRows_62 rfl (lv_at hl 0 rfl) ?_
          refine va_get (D := D) (ci := 2) (v := .ref (ad 10)) (C := RX2) (T := TX2) (N := 10) hx hb htg inG_X2 hown hK hP 2 rfl rfl 0 (by decide) (htg _ m_122) (fun _ h9 => h9) rfl d_P_layRows_63 ?_
          refine lv_iload_n hx hb d_P_layRows_66 rfl (lv_at hl 3 rfl) ?_
          refine lv_aload_n hx hb d_P_layRows_67 rfl (lv_at hl 0 rfl) ?_
          refine va_get (D := D) (ci := 2) (v := .int (σ4 0 5)) (C := RX2) (T := TX2) (N := 10) hx hb htg inG_X2 hown hK hP 2 rfl rfl 4 (by decide) (htg _ m_134) (fun _ h9 => h9) rfl d_P_layRows_68 ?_
          have hi := h.1
          have h := h.2
          refine va_iast hx hb hK hP (hD _) hS 10 0 rfl rfl hi d_P_layRows_71 (fun H locs hP _ hS => ?_)
          obtain ⟨σ6, eσ6⟩ : ∃ z : S0, z = st σ4 10 x3.toNatClampNeg (σ4 0 5) := ⟨_, rfl⟩
          have hP : va_P D vwCl (wC ad cA cB σ6) H := by rw [eσ6]; exact hP
          have h := h σ6 eσ6
          refine lv_iload_n hx hb d_P_layRows_72 rfl (lv_at hl 2 rfl) ?_
          refine lv_iconst (v := 1) hx hb d_P_layRows_73 (by decide) ?_
          refine lv_iload_n hx hb d_P_layRows_74 rfl (lv_at hl 3 rfl) ?_
          refine lv_ishl hx hb d_P_layRows_75 ?_
          refine lv_ior hx hb d_P_layRows_76 ?_
          refine lv_topi (fun v7 ev7 => ?_)
          have h := h v7 ev7
          refine lv_istore_n (lv' := [(2, .int v7), (0, .ref (ad 2)), (1, .int x1), (3, .int x3)]) hx hb d_P_layRows_77 rfl hl (by decide) rfl (fun ls hl => ?_)
          refine lv_iinc (v := (x3 + 1)) (lv' := [(3, .int (x3 + 1)), (2, .int v7), (0, .ref (ad 2)), (1, .int x1)]) hx hb d_P_layRows_78 hl (k := 3) rfl rfl (by decide) rfl (fun ls hl => ?_)
          refine lv_goto (tgt := 28) hx hb d_P_layRows_81 (by decide) ?_
          rw [hG28] at h
          exact h _ _ _ hP hS (lv_sub hl [2, 3, 1, 0] rfl))
  obtain ⟨H, eH⟩ : ∃ z, z = s.heap := ⟨_, rfl⟩
  have hP : va_P D vwCl (wC ad cA cB σ) H := by rw [eH]; exact hP
  have hS : va_S (kAC ad s.heap.size) s.heap H [] := by rw [eH]; exact hS
  show W p l e (headSpec (Cond.code y_P_layRows c_P_layRows 4 none :: wsG) ({ frames := 1, cells := 0, slots := 0, locals := 21 } : Room)).room s m ([.ref (ad 2)] : List Value).toArray below meth c s.heap [] 0 0 (MQ below (va_Qv post (kBC D ad cA cB) (kAC ad s.heap.size)) ([.ref (ad 2)] : List Value).toArray s 0 0 (kAC ad s.heap.size)) (F0 m 0 ls [])
  suffices k : W p l e (headSpec (Cond.code y_P_layRows c_P_layRows 4 none :: wsG) ({ frames := 1, cells := 0, slots := 0, locals := 21 } : Room)).room s m ([.ref (ad 2)] : List Value).toArray below meth c H [] 0 0 (MQ below (va_Qv post (kBC D ad cA cB) (kAC ad s.heap.size)) ([.ref (ad 2)] : List Value).toArray s 0 0 (kAC ad s.heap.size)) (F0 m 0 ls []) by rw [eH] at k; exact k
  refine lv_iconst (v := 0) hx hb d_P_layRows_0 (by decide) ?_
  refine lv_istore_n (lv' := [(1, .int 0), (0, .ref (ad 2))]) hx hb d_P_layRows_1 rfl hl (by decide) rfl (fun ls hl => ?_)
  refine lv_aload_n hx hb d_P_layRows_2 rfl (lv_at hl 1 rfl) ?_
  refine lv_iconst (v := 0) hx hb d_P_layRows_3 (by decide) ?_
  refine va_put (D := D) (ci := 2) (v := .int 0) (ty := .int) (C := RX2) (T := TX2) (N := 10) hx hb htg inG_X2 tyX2 tyX2_ok nmX2 hown hK hP (hD _) hS 2 rfl rfl 4 (by decide) (htg _ m_134) (fun _ h9 => h9) rfl (by decide +kernel) rfl rfl (Nat.le_of_ble_eq_true rfl) d_P_layRows_4 (fun H locs hP _ hS => ?_)
  obtain ⟨σ1, eσ1⟩ : ∃ z : S0, z = st σ 0 5 0 := ⟨_, rfl⟩
  have hP : va_P D vwCl (wC ad cA cB σ1) H := by rw [eσ1]; exact hP
  have h := h σ1 eσ1
  rw [hG7] at h
  exact h _ _ _ hP hS (lv_sub hl [1, 0] rfl)
set_option maxHeartbeats 4000000 in
set_option maxRecDepth 100000 in
theorem met_P_bendsOf (l : Launch) (D : va_G) (ad : Nat → Nat) (cA cB : ClassId) (hap : kapC ad) (σ : S0) (sz : Nat) (a1 : Int32) (post : Int32 → S0 → Prop) (h : Sp_P_bendsOf a1 σ post) : Met l y_P_bendsOf (Cond.code y_P_bendsOf c_P_bendsOf 2 (some .int) :: wsG) ({ frames := 0, cells := 0, slots := 0, locals := 0 } : Room) (kPcC D ad cA cB σ sz [.ref (ad 2), .int a1]) (va_Qi post (kBC D ad cA cB) (kAC ad sz)) 0 0 (kAC ad sz) := by
  refine Met.ofW (cc := c_P_bendsOf) (maxL := 2) (ret := (some .int)) (by decide) rfl ?_
  intro p e s m args below meth c s₁ B hml hv
  obtain ⟨rfl, hsz, hP, hK, hF⟩ := hv
  have hx := B.exec
  have hb := B.bytes
  have hr := B.returns
  have hts := atoms_spec (ws := (Cond.code y_P_bendsOf c_P_bendsOf 2 (some .int) :: wsG)) B.pre
  have htg : ∀ w ∈ wsG, w.before ([.ref (ad 2), .int a1] : List Value).toArray s = true := fun w h => hts w (List.mem_cons_of_mem _ h)
  have hown : s.vm.findClass RX2 = some m.cls := findClass_of_methodNamed B.named
  have hlocks := B.notSynchronized
  subst hsz
  have hD : ∀ σ, va_D (kAC ad s.heap.size) (wC ad cA cB σ) := fun σ => wC_D hap cA cB σ _
  have hS : va_S (kAC ad s.heap.size) s.heap s.heap [] := va_S.rf
  have hE := hF.1
  have hl := lv_entry ([.ref (ad 2), .int a1]) (n := 2) (Nat.le_of_ble_eq_true rfl)
  rw [lg_entry_eq]
  generalize (lg_sl ([.ref (ad 2), .int a1]) ++ List.replicate (2 - (lg_sl ([.ref (ad 2), .int a1])).length) Slot.unset).toArray = ls at hl ⊢
  have hl : lv_has ls 2 [(0, .ref (ad 2)), (1, .int a1)] := hl
  unfold Sp_P_bendsOf at h
  obtain ⟨H, eH⟩ : ∃ z, z = s.heap := ⟨_, rfl⟩
  have hP : va_P D vwCl (wC ad cA cB σ) H := by rw [eH]; exact hP
  have hS : va_S (kAC ad s.heap.size) s.heap H [] := by rw [eH]; exact hS
  show W p l e (headSpec (Cond.code y_P_bendsOf c_P_bendsOf 2 (some .int) :: wsG) ({ frames := 0, cells := 0, slots := 0, locals := 0 } : Room)).room s m ([.ref (ad 2), .int a1] : List Value).toArray below meth c s.heap [] 0 0 (MQ below (va_Qi post (kBC D ad cA cB) (kAC ad s.heap.size)) ([.ref (ad 2), .int a1] : List Value).toArray s 0 0 (kAC ad s.heap.size)) (F0 m 0 ls [])
  suffices k : W p l e (headSpec (Cond.code y_P_bendsOf c_P_bendsOf 2 (some .int) :: wsG) ({ frames := 0, cells := 0, slots := 0, locals := 0 } : Room)).room s m ([.ref (ad 2), .int a1] : List Value).toArray below meth c H [] 0 0 (MQ below (va_Qi post (kBC D ad cA cB) (kAC ad s.heap.size)) ([.ref (ad 2), .int a1] : List Value).toArray s 0 0 (kAC ad s.heap.size)) (F0 m 0 ls []) by rw [eH] at k; exact k
  refine lv_aload_n hx hb d_P_bendsOf_0 rfl (lv_at hl 0 rfl) ?_
  refine va_get (D := D) (ci := 2) (v := .ref (ad 10)) (C := RX2) (T := TX2) (N := 10) hx hb htg inG_X2 hown hK hP 2 rfl rfl 0 (by decide) (htg _ m_122) (fun _ h9 => h9) rfl d_P_bendsOf_1 ?_
  refine lv_aload_n hx hb d_P_bendsOf_4 rfl (lv_at hl 0 rfl) ?_
  refine va_get (D := D) (ci := 2) (v := .ref (ad 12)) (C := RX2) (T := TX2) (N := 10) hx hb htg inG_X2 hown hK hP 2 rfl rfl 2 (by decide) (htg _ m_128) (fun _ h9 => h9) rfl d_P_bendsOf_5 ?_
  refine lv_iload_n hx hb d_P_bendsOf_8 rfl (lv_at hl 1 rfl) ?_
  have hi := h.1
  have h := h.2
  refine va_iald hx hb hK hP 12 0 rfl rfl hi d_P_bendsOf_9 ?_
  have hi := h.1
  have h := h.2
  refine va_iald hx hb hK hP 10 0 rfl rfl hi d_P_bendsOf_10 ?_
  refine lv_aload_n hx hb d_P_bendsOf_11 rfl (lv_at hl 0 rfl) ?_
  refine va_get (D := D) (ci := 2) (v := .ref (ad 10)) (C := RX2) (T := TX2) (N := 10) hx hb htg inG_X2 hown hK hP 2 rfl rfl 0 (by decide) (htg _ m_122) (fun _ h9 => h9) rfl d_P_bendsOf_12 ?_
  refine lv_aload_n hx hb d_P_bendsOf_15 rfl (lv_at hl 0 rfl) ?_
  refine va_get (D := D) (ci := 2) (v := .ref (ad 11)) (C := RX2) (T := TX2) (N := 10) hx hb htg inG_X2 hown hK hP 2 rfl rfl 1 (by decide) (htg _ m_125) (fun _ h9 => h9) rfl d_P_bendsOf_16 ?_
  refine lv_iload_n hx hb d_P_bendsOf_19 rfl (lv_at hl 1 rfl) ?_
  have hi := h.1
  have h := h.2
  refine va_iald hx hb hK hP 11 0 rfl rfl hi d_P_bendsOf_20 ?_
  have hi := h.1
  have h := h.2
  refine va_iald hx hb hK hP 10 0 rfl rfl hi d_P_bendsOf_21 ?_
  refine lv_isub hx hb d_P_bendsOf_22 ?_
  refine lv_iconst (v := 1) hx hb d_P_bendsOf_23 (by decide) ?_
  refine lv_isub hx hb d_P_bendsOf_24 ?_
  exact W.iret (v := (((σ 10 (σ 12 a1.toNatClampNeg).toNatClampNeg) - (σ 10 (σ 11 a1.toNatClampNeg).toNatClampNeg)) - 1)) hx hb hr (fun t ht hW => ⟨⟨_, σ, rfl, h, kBC_of ht hP⟩, hS.F ht⟩) hS.2.2 d_P_bendsOf_25 hlocks
set_option maxHeartbeats 4000000 in
set_option maxRecDepth 100000 in
theorem met_P_layBends (l : Launch) (D : va_G) (ad : Nat → Nat) (cA cB : ClassId) (hap : kapC ad) (σ : S0) (sz : Nat) (post : S0 → Prop) (h : Sp_P_layBends  σ post) : Met l y_P_layBends (Cond.code y_P_layBends c_P_layBends 2 none :: wsG) ({ frames := 1, cells := 0, slots := 0, locals := 21 } : Room) (kPcC D ad cA cB σ sz [.ref (ad 2)]) (va_Qv post (kBC D ad cA cB) (kAC ad sz)) 0 0 (kAC ad sz) := by
  refine Met.ofW (cc := c_P_layBends) (maxL := 2) (ret := none) (by decide) rfl ?_
  intro p e s m args below meth c s₁ B hml hv
  obtain ⟨rfl, hsz, hP, hK, hF⟩ := hv
  have hx := B.exec
  have hb := B.bytes
  have hr := B.returns
  have hts := atoms_spec (ws := (Cond.code y_P_layBends c_P_layBends 2 none :: wsG)) B.pre
  have htg : ∀ w ∈ wsG, w.before ([.ref (ad 2)] : List Value).toArray s = true := fun w h => hts w (List.mem_cons_of_mem _ h)
  have hown : s.vm.findClass RX2 = some m.cls := findClass_of_methodNamed B.named
  have hlocks := B.notSynchronized
  subst hsz
  have hD : ∀ σ, va_D (kAC ad s.heap.size) (wC ad cA cB σ) := fun σ => wC_D hap cA cB σ _
  have hS : va_S (kAC ad s.heap.size) s.heap s.heap [] := va_S.rf
  have hE := hF.1
  have hl := lv_entry ([.ref (ad 2)]) (n := 2) (Nat.le_of_ble_eq_true rfl)
  rw [lg_entry_eq]
  generalize (lg_sl ([.ref (ad 2)]) ++ List.replicate (2 - (lg_sl ([.ref (ad 2)])).length) Slot.unset).toArray = ls at hl ⊢
  have hl : lv_has ls 2 [(0, .ref (ad 2))] := hl
  unfold Sp_P_layBends at h
  obtain ⟨G7, hG7⟩ : ∃ G : Int32 → S0 → Prop, G = fun (x1 : Int32) (σ : S0) => ∀ (H : Heap) (locs : List Loc) (ls : Array Slot), va_P D vwCl (wC ad cA cB σ) H → va_S (kAC ad s.heap.size) s.heap H locs → lv_has ls 2 [(0, .ref (ad 2)), (1, .int x1)] → W p l e (headSpec (Cond.code y_P_layBends c_P_layBends 2 none :: wsG) ({ frames := 1, cells := 0, slots := 0, locals := 21 } : Room)).room s m ([.ref (ad 2)] : List Value).toArray below meth c H locs 0 0 (MQ below (va_Qv post (kBC D ad cA cB) (kAC ad s.heap.size)) ([.ref (ad 2)] : List Value).toArray s 0 0 (kAC ad s.heap.size)) (F0 m 7 ls []) := ⟨_, rfl⟩
  have h := h G7
  have h := h (by
    intro x1 σ h
    rw [hG7]
    intro H locs ls hP hS hl
    refine lv_iload_n hx hb d_P_layBends_7 rfl (lv_at hl 1 rfl) ?_
    refine lv_aload_n hx hb d_P_layBends_8 rfl (lv_at hl 0 rfl) ?_
    refine va_get (D := D) (ci := 2) (v := .int (σ 0 6)) (C := RX2) (T := TX2) (N := 10) hx hb htg inG_X2 hown hK hP 2 rfl rfl 5 (by decide) (htg _ m_137) (fun _ h9 => h9) rfl d_P_layBends_9 ?_
    refine lv_icmp_ge (tgt := 45) hx hb d_P_layBends_12 (by decide) (fun cn => ?_) (fun cn => ?_)
    · have h := h.1 cn
      exact W.vret hx hb hr (fun t ht hW => ⟨⟨σ, rfl, h, kBC_of ht hP⟩, hS.F ht⟩) hS.2.2 d_P_layBends_45 hlocks
    · have h := h.2 cn
      refine lv_aload_n hx hb d_P_layBends_15 rfl (lv_at hl 0 rfl) ?_
      refine va_get (D := D) (ci := 2) (v := .ref (ad 15)) (C := RX2) (T := TX2) (N := 10) hx hb htg inG_X2 hown hK hP 2 rfl rfl 9 (by decide) (htg _ m_143) (fun _ h9 => h9) rfl d_P_layBends_16 ?_
      refine lv_iload_n hx hb d_P_layBends_19 rfl (lv_at hl 1 rfl) ?_
      refine lv_aload_n hx hb d_P_layBends_20 rfl (lv_at hl 0 rfl) ?_
      refine va_get (D := D) (ci := 2) (v := .int (σ 0 7)) (C := RX2) (T := TX2) (N := 10) hx hb htg inG_X2 hown hK hP 2 rfl rfl 6 (by decide) (htg _ m_139) (fun _ h9 => h9) rfl d_P_layBends_21 ?_
      have hi := h.1
      have h := h.2
      refine va_iast hx hb hK hP (hD _) hS 15 0 rfl rfl hi d_P_layBends_24 (fun H locs hP _ hS => ?_)
      obtain ⟨σ2, eσ2⟩ : ∃ z : S0, z = st σ 15 x1.toNatClampNeg (σ 0 7) := ⟨_, rfl⟩
      have hP : va_P D vwCl (wC ad cA cB σ2) H := by rw [eσ2]; exact hP
      have h := h σ2 eσ2
      refine lv_aload_n hx hb d_P_layBends_25 rfl (lv_at hl 0 rfl) ?_
      refine lv_dup hx hb d_P_layBends_26 rfl ?_
      refine va_get (D := D) (ci := 2) (v := .int (σ2 0 7)) (C := RX2) (T := TX2) (N := 10) hx hb htg inG_X2 hown hK hP 2 rfl rfl 6 (by decide) (htg _ m_139) (fun _ h9 => h9) rfl d_P_layBends_27 ?_
      refine lv_aload_n hx hb d_P_layBends_30 rfl (lv_at hl 0 rfl) ?_
      refine lv_iload_n hx hb d_P_layBends_31 rfl (lv_at hl 1 rfl) ?_
      refine kC_i (va_runV (As := [.int x1]) (rest := [.int (σ2 0 7), .ref (ad 2)]) ⟨hx, hb, hml, hown, htg⟩ (met_P_bendsOf l D ad cA cB hap σ2 H.size x1 _ h) (cwV 1 htg (kG (kG_V m_457 m_458 m_459 m_55 (kG_self m_460))) rfl rfl rfl (by decide +kernel) ⟨Nat.le_of_ble_eq_true rfl, Nat.le_of_ble_eq_true rfl⟩) (kC_preV hK hF hP hS 2 rfl rfl _) rfl rfl hl.1 rfl (lv_room (Nat.le_of_ble_eq_true rfl)) d_P_layBends_32 ⟨Nat.le_of_ble_eq_true rfl, Nat.le_of_ble_eq_true rfl⟩) hS (fun r4 σ3 H locs h hP hS => ?_)
      refine lv_iadd hx hb d_P_layBends_35 ?_
      refine va_put (D := D) (ci := 2) (v := .int ((σ2 0 7) + r4)) (ty := .int) (C := RX2) (T := TX2) (N := 10) hx hb htg inG_X2 tyX2 tyX2_ok nmX2 hown hK hP (hD _) hS 2 rfl rfl 6 (by decide) (htg _ m_139) (fun _ h9 => h9) rfl (by decide +kernel) rfl rfl (Nat.le_of_ble_eq_true rfl) d_P_layBends_36 (fun H locs hP _ hS => ?_)
      obtain ⟨σ5, eσ5⟩ : ∃ z : S0, z = st σ3 0 7 ((σ2 0 7) + r4) := ⟨_, rfl⟩
      have hP : va_P D vwCl (wC ad cA cB σ5) H := by rw [eσ5]; exact hP
      have h := h σ5 eσ5
      refine lv_iinc (v := (x1 + 1)) (lv' := [(1, .int (x1 + 1)), (0, .ref (ad 2))]) hx hb d_P_layBends_39 hl (k := 1) rfl rfl (by decide) rfl (fun ls hl => ?_)
      refine lv_goto (tgt := 7) hx hb d_P_layBends_42 (by decide) ?_
      rw [hG7] at h
      exact h _ _ _ hP hS (lv_sub hl [1, 0] rfl))
  obtain ⟨H, eH⟩ : ∃ z, z = s.heap := ⟨_, rfl⟩
  have hP : va_P D vwCl (wC ad cA cB σ) H := by rw [eH]; exact hP
  have hS : va_S (kAC ad s.heap.size) s.heap H [] := by rw [eH]; exact hS
  show W p l e (headSpec (Cond.code y_P_layBends c_P_layBends 2 none :: wsG) ({ frames := 1, cells := 0, slots := 0, locals := 21 } : Room)).room s m ([.ref (ad 2)] : List Value).toArray below meth c s.heap [] 0 0 (MQ below (va_Qv post (kBC D ad cA cB) (kAC ad s.heap.size)) ([.ref (ad 2)] : List Value).toArray s 0 0 (kAC ad s.heap.size)) (F0 m 0 ls [])
  suffices k : W p l e (headSpec (Cond.code y_P_layBends c_P_layBends 2 none :: wsG) ({ frames := 1, cells := 0, slots := 0, locals := 21 } : Room)).room s m ([.ref (ad 2)] : List Value).toArray below meth c H [] 0 0 (MQ below (va_Qv post (kBC D ad cA cB) (kAC ad s.heap.size)) ([.ref (ad 2)] : List Value).toArray s 0 0 (kAC ad s.heap.size)) (F0 m 0 ls []) by rw [eH] at k; exact k
  refine lv_aload_n hx hb d_P_layBends_0 rfl (lv_at hl 0 rfl) ?_
  refine lv_iconst (v := 0) hx hb d_P_layBends_1 (by decide) ?_
  refine va_put (D := D) (ci := 2) (v := .int 0) (ty := .int) (C := RX2) (T := TX2) (N := 10) hx hb htg inG_X2 tyX2 tyX2_ok nmX2 hown hK hP (hD _) hS 2 rfl rfl 6 (by decide) (htg _ m_139) (fun _ h9 => h9) rfl (by decide +kernel) rfl rfl (Nat.le_of_ble_eq_true rfl) d_P_layBends_2 (fun H locs hP _ hS => ?_)
  obtain ⟨σ1, eσ1⟩ : ∃ z : S0, z = st σ 0 7 0 := ⟨_, rfl⟩
  have hP : va_P D vwCl (wC ad cA cB σ1) H := by rw [eσ1]; exact hP
  have h := h σ1 eσ1
  refine lv_iconst (v := 0) hx hb d_P_layBends_5 (by decide) ?_
  refine lv_istore_n (lv' := [(1, .int 0), (0, .ref (ad 2))]) hx hb d_P_layBends_6 rfl hl (by decide) rfl (fun ls hl => ?_)
  rw [hG7] at h
  exact h _ _ _ hP hS (lv_sub hl [1, 0] rfl)
set_option maxHeartbeats 4000000 in
set_option maxRecDepth 100000 in
theorem met_P_make (l : Launch) (D : va_G) (ad : Nat → Nat) (cA cB : ClassId) (hap : kapC ad) (σ : S0) (sz : Nat) (post : S0 → Prop) (h : Sp_P_make  σ post) : Met l y_P_make (Cond.code y_P_make c_P_make 2 none :: wsG) ({ frames := 3, cells := 0, slots := 0, locals := 84 } : Room) (kPcC D ad cA cB σ sz [.ref (ad 2), .ref (ad 1)]) (va_Qv post (kBC D ad cA cB) (kAC ad sz)) 0 0 (kAC ad sz) := by
  refine Met.ofW (cc := c_P_make) (maxL := 2) (ret := none) (by decide) rfl ?_
  intro p e s m args below meth c s₁ B hml hv
  obtain ⟨rfl, hsz, hP, hK, hF⟩ := hv
  have hx := B.exec
  have hb := B.bytes
  have hr := B.returns
  have hts := atoms_spec (ws := (Cond.code y_P_make c_P_make 2 none :: wsG)) B.pre
  have htg : ∀ w ∈ wsG, w.before ([.ref (ad 2), .ref (ad 1)] : List Value).toArray s = true := fun w h => hts w (List.mem_cons_of_mem _ h)
  have hown : s.vm.findClass RX2 = some m.cls := findClass_of_methodNamed B.named
  have hlocks := B.notSynchronized
  subst hsz
  have hD : ∀ σ, va_D (kAC ad s.heap.size) (wC ad cA cB σ) := fun σ => wC_D hap cA cB σ _
  have hS : va_S (kAC ad s.heap.size) s.heap s.heap [] := va_S.rf
  have hE := hF.1
  have hl := lv_entry ([.ref (ad 2), .ref (ad 1)]) (n := 2) (Nat.le_of_ble_eq_true rfl)
  rw [lg_entry_eq]
  generalize (lg_sl ([.ref (ad 2), .ref (ad 1)]) ++ List.replicate (2 - (lg_sl ([.ref (ad 2), .ref (ad 1)])).length) Slot.unset).toArray = ls at hl ⊢
  have hl : lv_has ls 2 [(0, .ref (ad 2)), (1, .ref (ad 1))] := hl
  unfold Sp_P_make at h
  obtain ⟨H, eH⟩ : ∃ z, z = s.heap := ⟨_, rfl⟩
  have hP : va_P D vwCl (wC ad cA cB σ) H := by rw [eH]; exact hP
  have hS : va_S (kAC ad s.heap.size) s.heap H [] := by rw [eH]; exact hS
  show W p l e (headSpec (Cond.code y_P_make c_P_make 2 none :: wsG) ({ frames := 3, cells := 0, slots := 0, locals := 84 } : Room)).room s m ([.ref (ad 2), .ref (ad 1)] : List Value).toArray below meth c s.heap [] 0 0 (MQ below (va_Qv post (kBC D ad cA cB) (kAC ad s.heap.size)) ([.ref (ad 2), .ref (ad 1)] : List Value).toArray s 0 0 (kAC ad s.heap.size)) (F0 m 0 ls [])
  suffices k : W p l e (headSpec (Cond.code y_P_make c_P_make 2 none :: wsG) ({ frames := 3, cells := 0, slots := 0, locals := 84 } : Room)).room s m ([.ref (ad 2), .ref (ad 1)] : List Value).toArray below meth c H [] 0 0 (MQ below (va_Qv post (kBC D ad cA cB) (kAC ad s.heap.size)) ([.ref (ad 2), .ref (ad 1)] : List Value).toArray s 0 0 (kAC ad s.heap.size)) (F0 m 0 ls []) by rw [eH] at k; exact k
  refine lv_aload_n hx hb d_P_make_0 rfl (lv_at hl 0 rfl) ?_
  refine lv_aload_n hx hb d_P_make_1 rfl (lv_at hl 1 rfl) ?_
  refine lv_aload_n hx hb d_P_make_2 rfl (lv_at hl 1 rfl) ?_
  refine va_get (D := D) (ci := 0) (v := .int (σ 0 1)) (C := RX0) (T := TX0) (N := 9) hx hb htg inG_X0 hown hK hP 1 rfl rfl 3 (by decide) (htg _ m_86) (fun _ h9 => h9) rfl d_P_make_3 ?_
  refine lv_aload_n hx hb d_P_make_6 rfl (lv_at hl 1 rfl) ?_
  refine va_get (D := D) (ci := 0) (v := .int (σ 0 2)) (C := RX0) (T := TX0) (N := 9) hx hb htg inG_X0 hown hK hP 1 rfl rfl 4 (by decide) (htg _ m_89) (fun _ h9 => h9) rfl d_P_make_7 ?_
  refine lv_iconst (v := (-1)) hx hb d_P_make_10 (by decide) ?_
  refine lv_ixor hx hb d_P_make_11 ?_
  refine lv_iand hx hb d_P_make_12 ?_
  refine kC_i (va_runV (As := [.int ((σ 0 1) &&& ((σ 0 2) ^^^ (-1)))]) (rest := [.ref (ad 2)]) ⟨hx, hb, hml, hown, htg⟩ (met_D_leadersOf l D ad cA cB hap σ H.size ((σ 0 1) &&& ((σ 0 2) ^^^ (-1))) _ h) (cwV 1 htg (kG (kG_V m_436 m_324 m_325 m_54 (kG_self m_326))) rfl rfl rfl (by decide +kernel) ⟨Nat.le_of_ble_eq_true rfl, Nat.le_of_ble_eq_true rfl⟩) (kC_preV hK hF hP hS 1 rfl rfl _) rfl rfl hl.1 rfl (lv_room (Nat.le_of_ble_eq_true rfl)) d_P_make_13 ⟨Nat.le_of_ble_eq_true rfl, Nat.le_of_ble_eq_true rfl⟩) hS (fun r2 σ1 H locs h hP hS => ?_)
  refine va_put (D := D) (ci := 2) (v := .int r2) (ty := .int) (C := RX2) (T := TX2) (N := 10) hx hb htg inG_X2 tyX2 tyX2_ok nmX2 hown hK hP (hD _) hS 2 rfl rfl 3 (by decide) (htg _ m_130) (fun _ h9 => h9) rfl (by decide +kernel) rfl rfl (Nat.le_of_ble_eq_true rfl) d_P_make_16 (fun H locs hP _ hS => ?_)
  obtain ⟨σ3, eσ3⟩ : ∃ z : S0, z = st σ1 0 4 r2 := ⟨_, rfl⟩
  have hP : va_P D vwCl (wC ad cA cB σ3) H := by rw [eσ3]; exact hP
  have h := h σ3 eσ3
  refine lv_aload_n hx hb d_P_make_19 rfl (lv_at hl 0 rfl) ?_
  refine lv_aload_n hx hb d_P_make_20 rfl (lv_at hl 1 rfl) ?_
  refine kC_v (va_runV (As := [.ref (ad 1)]) (rest := []) ⟨hx, hb, hml, hown, htg⟩ (met_P_findLinks l D ad cA cB hap σ3 H.size _ h) (cwV 1 htg (kG (kG_V m_437 m_439 m_5 m_55 (kG_self m_440))) rfl rfl rfl (by decide +kernel) ⟨Nat.le_of_ble_eq_true rfl, Nat.le_of_ble_eq_true rfl⟩) (kC_preV hK hF hP hS 2 rfl rfl _) rfl rfl hl.1 rfl (lv_room (Nat.le_of_ble_eq_true rfl)) d_P_make_21 ⟨Nat.le_of_ble_eq_true rfl, Nat.le_of_ble_eq_true rfl⟩) hS (fun σ4 H locs h hP hS => ?_)
  refine lv_aload_n hx hb d_P_make_24 rfl (lv_at hl 0 rfl) ?_
  refine lv_aload_n hx hb d_P_make_25 rfl (lv_at hl 1 rfl) ?_
  refine kC_v (va_runV (As := [.ref (ad 1)]) (rest := []) ⟨hx, hb, hml, hown, htg⟩ (met_P_findForerunners l D ad cA cB hap σ4 H.size _ h) (cwV 1 htg (kG (kG_V m_444 m_446 m_6 m_55 (kG_self m_447))) rfl rfl rfl (by decide +kernel) ⟨Nat.le_of_ble_eq_true rfl, Nat.le_of_ble_eq_true rfl⟩) (kC_preV hK hF hP hS 2 rfl rfl _) rfl rfl hl.1 rfl (lv_room (Nat.le_of_ble_eq_true rfl)) d_P_make_26 ⟨Nat.le_of_ble_eq_true rfl, Nat.le_of_ble_eq_true rfl⟩) hS (fun σ5 H locs h hP hS => ?_)
  refine lv_aload_n hx hb d_P_make_29 rfl (lv_at hl 0 rfl) ?_
  refine kC_v (va_runV (As := []) (rest := []) ⟨hx, hb, hml, hown, htg⟩ (met_P_layRows l D ad cA cB hap σ5 H.size _ h) (cwV 0 htg (kG (kG_V m_449 m_451 m_7 m_55 (kG_self m_452))) rfl rfl rfl (by decide +kernel) ⟨Nat.le_of_ble_eq_true rfl, Nat.le_of_ble_eq_true rfl⟩) (kC_preV hK hF hP hS 2 rfl rfl _) rfl rfl hl.1 rfl (lv_room (Nat.le_of_ble_eq_true rfl)) d_P_make_30 ⟨Nat.le_of_ble_eq_true rfl, Nat.le_of_ble_eq_true rfl⟩) hS (fun σ6 H locs h hP hS => ?_)
  refine lv_aload_n hx hb d_P_make_33 rfl (lv_at hl 0 rfl) ?_
  refine kC_v (va_runV (As := []) (rest := []) ⟨hx, hb, hml, hown, htg⟩ (met_P_layBends l D ad cA cB hap σ6 H.size _ h) (cwV 0 htg (kG (kG_V m_453 m_455 m_8 m_55 (kG_self m_456))) rfl rfl rfl (by decide +kernel) ⟨Nat.le_of_ble_eq_true rfl, Nat.le_of_ble_eq_true rfl⟩) (kC_preV hK hF hP hS 2 rfl rfl _) rfl rfl hl.1 rfl (lv_room (Nat.le_of_ble_eq_true rfl)) d_P_make_34 ⟨Nat.le_of_ble_eq_true rfl, Nat.le_of_ble_eq_true rfl⟩) hS (fun σ7 H locs h hP hS => ?_)
  exact W.vret hx hb hr (fun t ht hW => ⟨⟨σ7, rfl, h, kBC_of ht hP⟩, hS.F ht⟩) hS.2.2 d_P_make_37 hlocks
set_option maxHeartbeats 4000000 in
set_option maxRecDepth 100000 in
theorem met_O_layMark (l : Launch) (D : va_G) (ad : Nat → Nat) (cA cB : ClassId) (hap : kapC ad) (σ : S0) (sz : Nat) (a1 : Int32) (post : S0 → Prop) (h : Sp_O_layMark a1 σ post) : Met l y_O_layMark (Cond.code y_O_layMark c_O_layMark 2 none :: wsG) ({ frames := 0, cells := 0, slots := 0, locals := 0 } : Room) (kPcC D ad cA cB σ sz [.ref (ad 3), .int a1]) (va_Qv post (kBC D ad cA cB) (kAC ad sz)) 0 0 (kAC ad sz) := by
  refine Met.ofW (cc := c_O_layMark) (maxL := 2) (ret := none) (by decide) rfl ?_
  intro p e s m args below meth c s₁ B hml hv
  obtain ⟨rfl, hsz, hP, hK, hF⟩ := hv
  have hx := B.exec
  have hb := B.bytes
  have hr := B.returns
  have hts := atoms_spec (ws := (Cond.code y_O_layMark c_O_layMark 2 none :: wsG)) B.pre
  have htg : ∀ w ∈ wsG, w.before ([.ref (ad 3), .int a1] : List Value).toArray s = true := fun w h => hts w (List.mem_cons_of_mem _ h)
  have hown : s.vm.findClass RX1 = some m.cls := findClass_of_methodNamed B.named
  have hlocks := B.notSynchronized
  subst hsz
  have hD : ∀ σ, va_D (kAC ad s.heap.size) (wC ad cA cB σ) := fun σ => wC_D hap cA cB σ _
  have hS : va_S (kAC ad s.heap.size) s.heap s.heap [] := va_S.rf
  have hE := hF.1
  have hl := lv_entry ([.ref (ad 3), .int a1]) (n := 2) (Nat.le_of_ble_eq_true rfl)
  rw [lg_entry_eq]
  generalize (lg_sl ([.ref (ad 3), .int a1]) ++ List.replicate (2 - (lg_sl ([.ref (ad 3), .int a1])).length) Slot.unset).toArray = ls at hl ⊢
  have hl : lv_has ls 2 [(0, .ref (ad 3)), (1, .int a1)] := hl
  unfold Sp_O_layMark at h
  obtain ⟨H, eH⟩ : ∃ z, z = s.heap := ⟨_, rfl⟩
  have hP : va_P D vwCl (wC ad cA cB σ) H := by rw [eH]; exact hP
  have hS : va_S (kAC ad s.heap.size) s.heap H [] := by rw [eH]; exact hS
  show W p l e (headSpec (Cond.code y_O_layMark c_O_layMark 2 none :: wsG) ({ frames := 0, cells := 0, slots := 0, locals := 0 } : Room)).room s m ([.ref (ad 3), .int a1] : List Value).toArray below meth c s.heap [] 0 0 (MQ below (va_Qv post (kBC D ad cA cB) (kAC ad s.heap.size)) ([.ref (ad 3), .int a1] : List Value).toArray s 0 0 (kAC ad s.heap.size)) (F0 m 0 ls [])
  suffices k : W p l e (headSpec (Cond.code y_O_layMark c_O_layMark 2 none :: wsG) ({ frames := 0, cells := 0, slots := 0, locals := 0 } : Room)).room s m ([.ref (ad 3), .int a1] : List Value).toArray below meth c H [] 0 0 (MQ below (va_Qv post (kBC D ad cA cB) (kAC ad s.heap.size)) ([.ref (ad 3), .int a1] : List Value).toArray s 0 0 (kAC ad s.heap.size)) (F0 m 0 ls []) by rw [eH] at k; exact k
  refine lv_aload_n hx hb d_O_layMark_0 rfl (lv_at hl 0 rfl) ?_
  refine va_get (D := D) (ci := 1) (v := .ref (ad 18)) (C := RX1) (T := TX1) (N := 14) hx hb htg inG_X1 hown hK hP 3 rfl rfl 3 (by decide) (htg _ m_177) (fun _ h9 => h9) rfl d_O_layMark_1 ?_
  refine lv_aload_n hx hb d_O_layMark_4 rfl (lv_at hl 0 rfl) ?_
  refine va_get (D := D) (ci := 1) (v := .int (σ 0 10)) (C := RX1) (T := TX1) (N := 14) hx hb htg inG_X1 hown hK hP 3 rfl rfl 12 (by decide) (htg _ m_186) (fun _ h9 => h9) rfl d_O_layMark_5 ?_
  refine lv_iload_n hx hb d_O_layMark_8 rfl (lv_at hl 1 rfl) ?_
  have hi := h.1
  have h := h.2
  refine va_iast hx hb hK hP (hD _) hS 18 0 rfl rfl hi d_O_layMark_9 (fun H locs hP _ hS => ?_)
  obtain ⟨σ1, eσ1⟩ : ∃ z : S0, z = st σ 18 (σ 0 10).toNatClampNeg a1 := ⟨_, rfl⟩
  have hP : va_P D vwCl (wC ad cA cB σ1) H := by rw [eσ1]; exact hP
  have h := h σ1 eσ1
  refine lv_aload_n hx hb d_O_layMark_10 rfl (lv_at hl 0 rfl) ?_
  refine lv_dup hx hb d_O_layMark_11 rfl ?_
  refine va_get (D := D) (ci := 1) (v := .int (σ1 0 10)) (C := RX1) (T := TX1) (N := 14) hx hb htg inG_X1 hown hK hP 3 rfl rfl 12 (by decide) (htg _ m_186) (fun _ h9 => h9) rfl d_O_layMark_12 ?_
  refine lv_iconst (v := 1) hx hb d_O_layMark_15 (by decide) ?_
  refine lv_iadd hx hb d_O_layMark_16 ?_
  refine va_put (D := D) (ci := 1) (v := .int ((σ1 0 10) + 1)) (ty := .int) (C := RX1) (T := TX1) (N := 14) hx hb htg inG_X1 tyX1 tyX1_ok nmX1 hown hK hP (hD _) hS 3 rfl rfl 12 (by decide) (htg _ m_186) (fun _ h9 => h9) rfl (by decide +kernel) rfl rfl (Nat.le_of_ble_eq_true rfl) d_O_layMark_17 (fun H locs hP _ hS => ?_)
  obtain ⟨σ2, eσ2⟩ : ∃ z : S0, z = st σ1 0 10 ((σ1 0 10) + 1) := ⟨_, rfl⟩
  have hP : va_P D vwCl (wC ad cA cB σ2) H := by rw [eσ2]; exact hP
  have h := h σ2 eσ2
  exact W.vret hx hb hr (fun t ht hW => ⟨⟨σ2, rfl, h, kBC_of ht hP⟩, hS.F ht⟩) hS.2.2 d_O_layMark_20 hlocks
set_option maxHeartbeats 4000000 in
set_option maxRecDepth 100000 in
theorem met_O_numberPlaces (l : Launch) (D : va_G) (ad : Nat → Nat) (cA cB : ClassId) (hap : kapC ad) (σ : S0) (sz : Nat) (a1 a2 : Int32) (post : S0 → Prop) (h : Sp_O_numberPlaces a1 a2 σ post) : Met l y_O_numberPlaces (Cond.code y_O_numberPlaces c_O_numberPlaces 4 none :: wsG) ({ frames := 0, cells := 0, slots := 0, locals := 0 } : Room) (kPcC D ad cA cB σ sz [.ref (ad 3), .int a1, .int a2]) (va_Qv post (kBC D ad cA cB) (kAC ad sz)) 0 0 (kAC ad sz) := by
  refine Met.ofW (cc := c_O_numberPlaces) (maxL := 4) (ret := none) (by decide) rfl ?_
  intro p e s m args below meth c s₁ B hml hv
  obtain ⟨rfl, hsz, hP, hK, hF⟩ := hv
  have hx := B.exec
  have hb := B.bytes
  have hr := B.returns
  have hts := atoms_spec (ws := (Cond.code y_O_numberPlaces c_O_numberPlaces 4 none :: wsG)) B.pre
  have htg : ∀ w ∈ wsG, w.before ([.ref (ad 3), .int a1, .int a2] : List Value).toArray s = true := fun w h => hts w (List.mem_cons_of_mem _ h)
  have hown : s.vm.findClass RX1 = some m.cls := findClass_of_methodNamed B.named
  have hlocks := B.notSynchronized
  subst hsz
  have hD : ∀ σ, va_D (kAC ad s.heap.size) (wC ad cA cB σ) := fun σ => wC_D hap cA cB σ _
  have hS : va_S (kAC ad s.heap.size) s.heap s.heap [] := va_S.rf
  have hE := hF.1
  have hl := lv_entry ([.ref (ad 3), .int a1, .int a2]) (n := 4) (Nat.le_of_ble_eq_true rfl)
  rw [lg_entry_eq]
  generalize (lg_sl ([.ref (ad 3), .int a1, .int a2]) ++ List.replicate (4 - (lg_sl ([.ref (ad 3), .int a1, .int a2])).length) Slot.unset).toArray = ls at hl ⊢
  have hl : lv_has ls 4 [(0, .ref (ad 3)), (1, .int a1), (2, .int a2)] := hl
  unfold Sp_O_numberPlaces at h
  obtain ⟨G7, hG7⟩ : ∃ G : Int32 → Int32 → Int32 → S0 → Prop, G = fun (x1 x2 x3 : Int32) (σ : S0) => ∀ (H : Heap) (locs : List Loc) (ls : Array Slot), va_P D vwCl (wC ad cA cB σ) H → va_S (kAC ad s.heap.size) s.heap H locs → lv_has ls 4 [(0, .ref (ad 3)), (1, .int x1), (2, .int x2), (3, .int x3)] → W p l e (headSpec (Cond.code y_O_numberPlaces c_O_numberPlaces 4 none :: wsG) ({ frames := 0, cells := 0, slots := 0, locals := 0 } : Room)).room s m ([.ref (ad 3), .int a1, .int a2] : List Value).toArray below meth c H locs 0 0 (MQ below (va_Qv post (kBC D ad cA cB) (kAC ad s.heap.size)) ([.ref (ad 3), .int a1, .int a2] : List Value).toArray s 0 0 (kAC ad s.heap.size)) (F0 m 7 ls []) := ⟨_, rfl⟩
  have h := h G7
  have h := h (by
    intro x1 x2 x3 σ h
    rw [hG7]
    intro H locs ls hP hS hl
    refine lv_iload_n hx hb d_O_numberPlaces_7 rfl (lv_at hl 3 rfl) ?_
    refine lv_iload_n hx hb d_O_numberPlaces_8 rfl (lv_at hl 2 rfl) ?_
    refine lv_icmp_ge (tgt := 37) hx hb d_O_numberPlaces_9 (by decide) (fun cn => ?_) (fun cn => ?_)
    · have h := h.1 cn
      exact W.vret hx hb hr (fun t ht hW => ⟨⟨σ, rfl, h, kBC_of ht hP⟩, hS.F ht⟩) hS.2.2 d_O_numberPlaces_37 hlocks
    · have h := h.2 cn
      refine lv_aload_n hx hb d_O_numberPlaces_12 rfl (lv_at hl 0 rfl) ?_
      refine va_get (D := D) (ci := 1) (v := .ref (ad 16)) (C := RX1) (T := TX1) (N := 14) hx hb htg inG_X1 hown hK hP 3 rfl rfl 0 (by decide) (htg _ m_171) (fun _ h9 => h9) rfl d_O_numberPlaces_13 ?_
      refine lv_aload_n hx hb d_O_numberPlaces_16 rfl (lv_at hl 0 rfl) ?_
      refine va_get (D := D) (ci := 1) (v := .ref (ad 18)) (C := RX1) (T := TX1) (N := 14) hx hb htg inG_X1 hown hK hP 3 rfl rfl 3 (by decide) (htg _ m_177) (fun _ h9 => h9) rfl d_O_numberPlaces_17 ?_
      refine lv_iload_n hx hb d_O_numberPlaces_20 rfl (lv_at hl 3 rfl) ?_
      have hi := h.1
      have h := h.2
      refine va_iald hx hb hK hP 18 0 rfl rfl hi d_O_numberPlaces_21 ?_
      refine lv_iload_n hx hb d_O_numberPlaces_22 rfl (lv_at hl 3 rfl) ?_
      refine lv_aload_n hx hb d_O_numberPlaces_23 rfl (lv_at hl 0 rfl) ?_
      refine va_get (D := D) (ci := 1) (v := .ref (ad 20)) (C := RX1) (T := TX1) (N := 14) hx hb htg inG_X1 hown hK hP 3 rfl rfl 5 (by decide) (htg _ m_179) (fun _ h9 => h9) rfl d_O_numberPlaces_24 ?_
      refine lv_iload_n hx hb d_O_numberPlaces_27 rfl (lv_at hl 1 rfl) ?_
      have hi := h.1
      have h := h.2
      refine va_iald hx hb hK hP 20 0 rfl rfl hi d_O_numberPlaces_28 ?_
      refine lv_isub hx hb d_O_numberPlaces_29 ?_
      have hi := h.1
      have h := h.2
      refine va_iast hx hb hK hP (hD _) hS 16 0 rfl rfl hi d_O_numberPlaces_30 (fun H locs hP _ hS => ?_)
      obtain ⟨σ2, eσ2⟩ : ∃ z : S0, z = st σ 16 (σ 18 x3.toNatClampNeg).toNatClampNeg (x3 - (σ 20 x1.toNatClampNeg)) := ⟨_, rfl⟩
      have hP : va_P D vwCl (wC ad cA cB σ2) H := by rw [eσ2]; exact hP
      have h := h σ2 eσ2
      refine lv_iinc (v := (x3 + 1)) (lv' := [(3, .int (x3 + 1)), (0, .ref (ad 3)), (1, .int x1), (2, .int x2)]) hx hb d_O_numberPlaces_31 hl (k := 3) rfl rfl (by decide) rfl (fun ls hl => ?_)
      refine lv_goto (tgt := 7) hx hb d_O_numberPlaces_34 (by decide) ?_
      rw [hG7] at h
      exact h _ _ _ hP hS (lv_sub hl [1, 2, 3, 0] rfl))
  obtain ⟨H, eH⟩ : ∃ z, z = s.heap := ⟨_, rfl⟩
  have hP : va_P D vwCl (wC ad cA cB σ) H := by rw [eH]; exact hP
  have hS : va_S (kAC ad s.heap.size) s.heap H [] := by rw [eH]; exact hS
  show W p l e (headSpec (Cond.code y_O_numberPlaces c_O_numberPlaces 4 none :: wsG) ({ frames := 0, cells := 0, slots := 0, locals := 0 } : Room)).room s m ([.ref (ad 3), .int a1, .int a2] : List Value).toArray below meth c s.heap [] 0 0 (MQ below (va_Qv post (kBC D ad cA cB) (kAC ad s.heap.size)) ([.ref (ad 3), .int a1, .int a2] : List Value).toArray s 0 0 (kAC ad s.heap.size)) (F0 m 0 ls [])
  suffices k : W p l e (headSpec (Cond.code y_O_numberPlaces c_O_numberPlaces 4 none :: wsG) ({ frames := 0, cells := 0, slots := 0, locals := 0 } : Room)).room s m ([.ref (ad 3), .int a1, .int a2] : List Value).toArray below meth c H [] 0 0 (MQ below (va_Qv post (kBC D ad cA cB) (kAC ad s.heap.size)) ([.ref (ad 3), .int a1, .int a2] : List Value).toArray s 0 0 (kAC ad s.heap.size)) (F0 m 0 ls []) by rw [eH] at k; exact k
  refine lv_aload_n hx hb d_O_numberPlaces_0 rfl (lv_at hl 0 rfl) ?_
  refine va_get (D := D) (ci := 1) (v := .ref (ad 20)) (C := RX1) (T := TX1) (N := 14) hx hb htg inG_X1 hown hK hP 3 rfl rfl 5 (by decide) (htg _ m_179) (fun _ h9 => h9) rfl d_O_numberPlaces_1 ?_
  refine lv_iload_n hx hb d_O_numberPlaces_4 rfl (lv_at hl 1 rfl) ?_
  have hi := h.1
  have h := h.2
  refine va_iald hx hb hK hP 20 0 rfl rfl hi d_O_numberPlaces_5 ?_
  refine lv_topi (fun v1 ev1 => ?_)
  have h := h v1 ev1
  refine lv_istore_n (lv' := [(3, .int v1), (0, .ref (ad 3)), (1, .int a1), (2, .int a2)]) hx hb d_O_numberPlaces_6 rfl hl (by decide) rfl (fun ls hl => ?_)
  rw [hG7] at h
  exact h _ _ _ hP hS (lv_sub hl [1, 2, 3, 0] rfl)
set_option maxHeartbeats 4000000 in
set_option maxRecDepth 100000 in
theorem met_P_pointOf (l : Launch) (D : va_G) (ad : Nat → Nat) (cA cB : ClassId) (hap : kapC ad) (σ : S0) (sz : Nat) (a1 a2 : Int32) (post : Int32 → S0 → Prop) (h : Sp_P_pointOf a1 a2 σ post) : Met l y_P_pointOf (Cond.code y_P_pointOf c_P_pointOf 3 (some .int) :: wsG) ({ frames := 1, cells := 0, slots := 0, locals := 21 } : Room) (kPcC D ad cA cB σ sz [.ref (ad 2), .int a1, .int a2]) (va_Qi post (kBC D ad cA cB) (kAC ad sz)) 0 0 (kAC ad sz) := by
  refine Met.ofW (cc := c_P_pointOf) (maxL := 3) (ret := (some .int)) (by decide) rfl ?_
  intro p e s m args below meth c s₁ B hml hv
  obtain ⟨rfl, hsz, hP, hK, hF⟩ := hv
  have hx := B.exec
  have hb := B.bytes
  have hr := B.returns
  have hts := atoms_spec (ws := (Cond.code y_P_pointOf c_P_pointOf 3 (some .int) :: wsG)) B.pre
  have htg : ∀ w ∈ wsG, w.before ([.ref (ad 2), .int a1, .int a2] : List Value).toArray s = true := fun w h => hts w (List.mem_cons_of_mem _ h)
  have hown : s.vm.findClass RX2 = some m.cls := findClass_of_methodNamed B.named
  have hlocks := B.notSynchronized
  subst hsz
  have hD : ∀ σ, va_D (kAC ad s.heap.size) (wC ad cA cB σ) := fun σ => wC_D hap cA cB σ _
  have hS : va_S (kAC ad s.heap.size) s.heap s.heap [] := va_S.rf
  have hE := hF.1
  have hl := lv_entry ([.ref (ad 2), .int a1, .int a2]) (n := 3) (Nat.le_of_ble_eq_true rfl)
  rw [lg_entry_eq]
  generalize (lg_sl ([.ref (ad 2), .int a1, .int a2]) ++ List.replicate (3 - (lg_sl ([.ref (ad 2), .int a1, .int a2])).length) Slot.unset).toArray = ls at hl ⊢
  have hl : lv_has ls 3 [(0, .ref (ad 2)), (1, .int a1), (2, .int a2)] := hl
  unfold Sp_P_pointOf at h
  obtain ⟨H, eH⟩ : ∃ z, z = s.heap := ⟨_, rfl⟩
  have hP : va_P D vwCl (wC ad cA cB σ) H := by rw [eH]; exact hP
  have hS : va_S (kAC ad s.heap.size) s.heap H [] := by rw [eH]; exact hS
  show W p l e (headSpec (Cond.code y_P_pointOf c_P_pointOf 3 (some .int) :: wsG) ({ frames := 1, cells := 0, slots := 0, locals := 21 } : Room)).room s m ([.ref (ad 2), .int a1, .int a2] : List Value).toArray below meth c s.heap [] 0 0 (MQ below (va_Qi post (kBC D ad cA cB) (kAC ad s.heap.size)) ([.ref (ad 2), .int a1, .int a2] : List Value).toArray s 0 0 (kAC ad s.heap.size)) (F0 m 0 ls [])
  suffices k : W p l e (headSpec (Cond.code y_P_pointOf c_P_pointOf 3 (some .int) :: wsG) ({ frames := 1, cells := 0, slots := 0, locals := 21 } : Room)).room s m ([.ref (ad 2), .int a1, .int a2] : List Value).toArray below meth c H [] 0 0 (MQ below (va_Qi post (kBC D ad cA cB) (kAC ad s.heap.size)) ([.ref (ad 2), .int a1, .int a2] : List Value).toArray s 0 0 (kAC ad s.heap.size)) (F0 m 0 ls []) by rw [eH] at k; exact k
  refine lv_iload_n hx hb d_P_pointOf_0 rfl (lv_at hl 2 rfl) ?_
  refine lv_if_gt (tgt := 11) hx hb d_P_pointOf_1 (by decide) (fun cn => ?_) (fun cn => ?_)
  · have h := h.1 cn
    refine lv_iload_n hx hb d_P_pointOf_11 rfl (lv_at hl 2 rfl) ?_
    refine lv_aload_n hx hb d_P_pointOf_12 rfl (lv_at hl 0 rfl) ?_
    refine lv_iload_n hx hb d_P_pointOf_13 rfl (lv_at hl 1 rfl) ?_
    refine kC_i (va_runV (As := [.int a1]) (rest := [.int a2]) ⟨hx, hb, hml, hown, htg⟩ (met_P_bendsOf l D ad cA cB hap σ H.size a1 _ h) (cwV 1 htg (kG (kG_V m_457 m_458 m_459 m_55 (kG_self m_460))) rfl rfl rfl (by decide +kernel) ⟨Nat.le_of_ble_eq_true rfl, Nat.le_of_ble_eq_true rfl⟩) (kC_preV hK hF hP hS 2 rfl rfl _) rfl rfl hl.1 rfl (lv_room (Nat.le_of_ble_eq_true rfl)) d_P_pointOf_14 ⟨Nat.le_of_ble_eq_true rfl, Nat.le_of_ble_eq_true rfl⟩) hS (fun r2 σ1 H locs h hP hS => ?_)
    refine lv_icmp_le (tgt := 29) hx hb d_P_pointOf_17 (by decide) (fun cn => ?_) (fun cn => ?_)
    · have h := h.1 cn
      refine lv_bipush (v := 16) hx hb d_P_pointOf_29 (by decide) ?_
      refine lv_aload_n hx hb d_P_pointOf_31 rfl (lv_at hl 0 rfl) ?_
      refine va_get (D := D) (ci := 2) (v := .ref (ad 15)) (C := RX2) (T := TX2) (N := 10) hx hb htg inG_X2 hown hK hP 2 rfl rfl 9 (by decide) (htg _ m_143) (fun _ h9 => h9) rfl d_P_pointOf_32 ?_
      refine lv_iload_n hx hb d_P_pointOf_35 rfl (lv_at hl 1 rfl) ?_
      have hi := h.1
      have h := h.2
      refine va_iald hx hb hK hP 15 0 rfl rfl hi d_P_pointOf_36 ?_
      refine lv_iadd hx hb d_P_pointOf_37 ?_
      refine lv_iload_n hx hb d_P_pointOf_38 rfl (lv_at hl 2 rfl) ?_
      refine lv_iadd hx hb d_P_pointOf_39 ?_
      refine lv_iconst (v := 1) hx hb d_P_pointOf_40 (by decide) ?_
      refine lv_isub hx hb d_P_pointOf_41 ?_
      exact W.iret (v := (((16 + (σ1 15 a1.toNatClampNeg)) + a2) - 1)) hx hb hr (fun t ht hW => ⟨⟨_, σ1, rfl, h, kBC_of ht hP⟩, hS.F ht⟩) hS.2.2 d_P_pointOf_42 hlocks
    · have h := h.2 cn
      refine lv_aload_n hx hb d_P_pointOf_20 rfl (lv_at hl 0 rfl) ?_
      refine va_get (D := D) (ci := 2) (v := .ref (ad 12)) (C := RX2) (T := TX2) (N := 10) hx hb htg inG_X2 hown hK hP 2 rfl rfl 2 (by decide) (htg _ m_128) (fun _ h9 => h9) rfl d_P_pointOf_21 ?_
      refine lv_iload_n hx hb d_P_pointOf_24 rfl (lv_at hl 1 rfl) ?_
      have hi := h.1
      have h := h.2
      refine va_iald hx hb hK hP 12 0 rfl rfl hi d_P_pointOf_25 ?_
      refine lv_goto (tgt := 42) hx hb d_P_pointOf_26 (by decide) ?_
      exact W.iret (v := (σ1 12 a1.toNatClampNeg)) hx hb hr (fun t ht hW => ⟨⟨_, σ1, rfl, h, kBC_of ht hP⟩, hS.F ht⟩) hS.2.2 d_P_pointOf_42 hlocks
  · have h := h.2 cn
    refine lv_aload_n hx hb d_P_pointOf_4 rfl (lv_at hl 0 rfl) ?_
    refine va_get (D := D) (ci := 2) (v := .ref (ad 11)) (C := RX2) (T := TX2) (N := 10) hx hb htg inG_X2 hown hK hP 2 rfl rfl 1 (by decide) (htg _ m_125) (fun _ h9 => h9) rfl d_P_pointOf_5 ?_
    refine lv_iload_n hx hb d_P_pointOf_8 rfl (lv_at hl 1 rfl) ?_
    have hi := h.1
    have h := h.2
    refine va_iald hx hb hK hP 11 0 rfl rfl hi d_P_pointOf_9 ?_
    exact W.iret (v := (σ 11 a1.toNatClampNeg)) hx hb hr (fun t ht hW => ⟨⟨_, σ, rfl, h, kBC_of ht hP⟩, hS.F ht⟩) hS.2.2 d_P_pointOf_10 hlocks
set_option maxHeartbeats 4000000 in
set_option maxRecDepth 100000 in
theorem met_O_layMarks (l : Launch) (D : va_G) (ad : Nat → Nat) (cA cB : ClassId) (hap : kapC ad) (σ : S0) (sz : Nat) (post : S0 → Prop) (h : Sp_O_layMarks  σ post) : Met l y_O_layMarks (Cond.code y_O_layMarks c_O_layMarks 5 none :: wsG) ({ frames := 2, cells := 0, slots := 0, locals := 43 } : Room) (kPcC D ad cA cB σ sz [.ref (ad 3), .ref (ad 2)]) (va_Qv post (kBC D ad cA cB) (kAC ad sz)) 0 0 (kAC ad sz) := by
  refine Met.ofW (cc := c_O_layMarks) (maxL := 5) (ret := none) (by decide) rfl ?_
  intro p e s m args below meth c s₁ B hml hv
  obtain ⟨rfl, hsz, hP, hK, hF⟩ := hv
  have hx := B.exec
  have hb := B.bytes
  have hr := B.returns
  have hts := atoms_spec (ws := (Cond.code y_O_layMarks c_O_layMarks 5 none :: wsG)) B.pre
  have htg : ∀ w ∈ wsG, w.before ([.ref (ad 3), .ref (ad 2)] : List Value).toArray s = true := fun w h => hts w (List.mem_cons_of_mem _ h)
  have hown : s.vm.findClass RX1 = some m.cls := findClass_of_methodNamed B.named
  have hlocks := B.notSynchronized
  subst hsz
  have hD : ∀ σ, va_D (kAC ad s.heap.size) (wC ad cA cB σ) := fun σ => wC_D hap cA cB σ _
  have hS : va_S (kAC ad s.heap.size) s.heap s.heap [] := va_S.rf
  have hE := hF.1
  have hl := lv_entry ([.ref (ad 3), .ref (ad 2)]) (n := 5) (Nat.le_of_ble_eq_true rfl)
  rw [lg_entry_eq]
  generalize (lg_sl ([.ref (ad 3), .ref (ad 2)]) ++ List.replicate (5 - (lg_sl ([.ref (ad 3), .ref (ad 2)])).length) Slot.unset).toArray = ls at hl ⊢
  have hl : lv_has ls 5 [(0, .ref (ad 3)), (1, .ref (ad 2))] := hl
  unfold Sp_O_layMarks at h
  obtain ⟨G7, hG7⟩ : ∃ G : Int32 → S0 → Prop, G = fun (x2 : Int32) (σ : S0) => ∀ (H : Heap) (locs : List Loc) (ls : Array Slot), va_P D vwCl (wC ad cA cB σ) H → va_S (kAC ad s.heap.size) s.heap H locs → lv_has ls 5 [(0, .ref (ad 3)), (1, .ref (ad 2)), (2, .int x2)] → W p l e (headSpec (Cond.code y_O_layMarks c_O_layMarks 5 none :: wsG) ({ frames := 2, cells := 0, slots := 0, locals := 43 } : Room)).room s m ([.ref (ad 3), .ref (ad 2)] : List Value).toArray below meth c H locs 0 0 (MQ below (va_Qv post (kBC D ad cA cB) (kAC ad s.heap.size)) ([.ref (ad 3), .ref (ad 2)] : List Value).toArray s 0 0 (kAC ad s.heap.size)) (F0 m 7 ls []) := ⟨_, rfl⟩
  obtain ⟨G27, hG27⟩ : ∃ G : Int32 → Int32 → S0 → Prop, G = fun (x2 x3 : Int32) (σ : S0) => ∀ (H : Heap) (locs : List Loc) (ls : Array Slot), va_P D vwCl (wC ad cA cB σ) H → va_S (kAC ad s.heap.size) s.heap H locs → lv_has ls 5 [(0, .ref (ad 3)), (1, .ref (ad 2)), (2, .int x2), (3, .int x3)] → W p l e (headSpec (Cond.code y_O_layMarks c_O_layMarks 5 none :: wsG) ({ frames := 2, cells := 0, slots := 0, locals := 43 } : Room)).room s m ([.ref (ad 3), .ref (ad 2)] : List Value).toArray below meth c H locs 0 0 (MQ below (va_Qv post (kBC D ad cA cB) (kAC ad s.heap.size)) ([.ref (ad 3), .ref (ad 2)] : List Value).toArray s 0 0 (kAC ad s.heap.size)) (F0 m 27 ls []) := ⟨_, rfl⟩
  obtain ⟨G67, hG67⟩ : ∃ G : Int32 → Int32 → S0 → Prop, G = fun (x2 x3 : Int32) (σ : S0) => ∀ (H : Heap) (locs : List Loc) (ls : Array Slot), va_P D vwCl (wC ad cA cB σ) H → va_S (kAC ad s.heap.size) s.heap H locs → lv_has ls 5 [(0, .ref (ad 3)), (1, .ref (ad 2)), (2, .int x2), (3, .int x3)] → W p l e (headSpec (Cond.code y_O_layMarks c_O_layMarks 5 none :: wsG) ({ frames := 2, cells := 0, slots := 0, locals := 43 } : Room)).room s m ([.ref (ad 3), .ref (ad 2)] : List Value).toArray below meth c H locs 0 0 (MQ below (va_Qv post (kBC D ad cA cB) (kAC ad s.heap.size)) ([.ref (ad 3), .ref (ad 2)] : List Value).toArray s 0 0 (kAC ad s.heap.size)) (F0 m 67 ls []) := ⟨_, rfl⟩
  have h := h G7 G27 G67
  have h := h (by
    intro x2 σ h
    rw [hG7]
    intro H locs ls hP hS hl
    refine lv_iload_n hx hb d_O_layMarks_7 rfl (lv_at hl 2 rfl) ?_
    refine lv_aload_n hx hb d_O_layMarks_8 rfl (lv_at hl 0 rfl) ?_
    refine va_get (D := D) (ci := 1) (v := .int (σ 0 9)) (C := RX1) (T := TX1) (N := 14) hx hb htg inG_X1 hown hK hP 3 rfl rfl 11 (by decide) (htg _ m_185) (fun _ h9 => h9) rfl d_O_layMarks_9 ?_
    refine lv_icmp_ge (tgt := 137) hx hb d_O_layMarks_12 (by decide) (fun cn => ?_) (fun cn => ?_)
    · have h := h.1 cn
      refine lv_aload_n hx hb d_O_layMarks_137 rfl (lv_at hl 0 rfl) ?_
      refine va_get (D := D) (ci := 1) (v := .ref (ad 20)) (C := RX1) (T := TX1) (N := 14) hx hb htg inG_X1 hown hK hP 3 rfl rfl 5 (by decide) (htg _ m_179) (fun _ h9 => h9) rfl d_O_layMarks_138 ?_
      refine lv_aload_n hx hb d_O_layMarks_141 rfl (lv_at hl 0 rfl) ?_
      refine va_get (D := D) (ci := 1) (v := .int (σ 0 9)) (C := RX1) (T := TX1) (N := 14) hx hb htg inG_X1 hown hK hP 3 rfl rfl 11 (by decide) (htg _ m_185) (fun _ h9 => h9) rfl d_O_layMarks_142 ?_
      refine lv_aload_n hx hb d_O_layMarks_145 rfl (lv_at hl 0 rfl) ?_
      refine va_get (D := D) (ci := 1) (v := .int (σ 0 10)) (C := RX1) (T := TX1) (N := 14) hx hb htg inG_X1 hown hK hP 3 rfl rfl 12 (by decide) (htg _ m_186) (fun _ h9 => h9) rfl d_O_layMarks_146 ?_
      have hi := h.1
      have h := h.2
      refine va_iast hx hb hK hP (hD _) hS 20 0 rfl rfl hi d_O_layMarks_149 (fun H locs hP _ hS => ?_)
      obtain ⟨σ2, eσ2⟩ : ∃ z : S0, z = st σ 20 (σ 0 9).toNatClampNeg (σ 0 10) := ⟨_, rfl⟩
      have hP : va_P D vwCl (wC ad cA cB σ2) H := by rw [eσ2]; exact hP
      have h := h σ2 eσ2
      exact W.vret hx hb hr (fun t ht hW => ⟨⟨σ2, rfl, h, kBC_of ht hP⟩, hS.F ht⟩) hS.2.2 d_O_layMarks_150 hlocks
    · have h := h.2 cn
      refine lv_aload_n hx hb d_O_layMarks_15 rfl (lv_at hl 0 rfl) ?_
      refine va_get (D := D) (ci := 1) (v := .ref (ad 20)) (C := RX1) (T := TX1) (N := 14) hx hb htg inG_X1 hown hK hP 3 rfl rfl 5 (by decide) (htg _ m_179) (fun _ h9 => h9) rfl d_O_layMarks_16 ?_
      refine lv_iload_n hx hb d_O_layMarks_19 rfl (lv_at hl 2 rfl) ?_
      refine lv_aload_n hx hb d_O_layMarks_20 rfl (lv_at hl 0 rfl) ?_
      refine va_get (D := D) (ci := 1) (v := .int (σ 0 10)) (C := RX1) (T := TX1) (N := 14) hx hb htg inG_X1 hown hK hP 3 rfl rfl 12 (by decide) (htg _ m_186) (fun _ h9 => h9) rfl d_O_layMarks_21 ?_
      have hi := h.1
      have h := h.2
      refine va_iast hx hb hK hP (hD _) hS 20 0 rfl rfl hi d_O_layMarks_24 (fun H locs hP _ hS => ?_)
      obtain ⟨σ3, eσ3⟩ : ∃ z : S0, z = st σ 20 x2.toNatClampNeg (σ 0 10) := ⟨_, rfl⟩
      have hP : va_P D vwCl (wC ad cA cB σ3) H := by rw [eσ3]; exact hP
      have h := h σ3 eσ3
      refine lv_iconst (v := 0) hx hb d_O_layMarks_25 (by decide) ?_
      refine lv_istore_n (lv' := [(3, .int 0), (0, .ref (ad 3)), (1, .ref (ad 2)), (2, .int x2)]) hx hb d_O_layMarks_26 rfl hl (by decide) rfl (fun ls hl => ?_)
      rw [hG27] at h
      exact h _ _ _ hP hS (lv_sub hl [1, 2, 3, 0] rfl))
  have h := h (by
    intro x2 x3 σ h
    rw [hG27]
    intro H locs ls hP hS hl
    refine lv_iload_n hx hb d_O_layMarks_27 rfl (lv_at hl 3 rfl) ?_
    refine lv_bipush (v := 16) hx hb d_O_layMarks_28 (by decide) ?_
    refine lv_icmp_ge (tgt := 65) hx hb d_O_layMarks_30 (by decide) (fun cn => ?_) (fun cn => ?_)
    · have h := h.1 cn
      refine lv_iconst (v := 0) hx hb d_O_layMarks_65 (by decide) ?_
      refine lv_istore_n (lv' := [(3, .int 0), (0, .ref (ad 3)), (1, .ref (ad 2)), (2, .int x2)]) hx hb d_O_layMarks_66 rfl hl (by decide) rfl (fun ls hl => ?_)
      rw [hG67] at h
      exact h _ _ _ hP hS (lv_sub hl [1, 2, 3, 0] rfl)
    · have h := h.2 cn
      refine lv_aload_n hx hb d_O_layMarks_33 rfl (lv_at hl 1 rfl) ?_
      refine va_get (D := D) (ci := 2) (v := .int (σ 0 4)) (C := RX2) (T := TX2) (N := 10) hx hb htg inG_X2 hown hK hP 2 rfl rfl 3 (by decide) (htg _ m_131) (fun _ h9 => h9) rfl d_O_layMarks_34 ?_
      refine lv_iload_n hx hb d_O_layMarks_37 rfl (lv_at hl 3 rfl) ?_
      refine kC_i (va_runSN (As := [.int (σ 0 4), .int x3]) (rest := []) ⟨hx, hb, hml, hown, htg⟩ (met_M_has l D ad cA cB hap σ H.size (σ 0 4) x3 _ h) ⟨va_cnB (host := "MatrixSheets") 2 htg (kG (kG_self m_318)) rfl rfl rfl (hE _ me_469) (htg _ m_53) (by decide +kernel) ⟨Nat.le_of_ble_eq_true rfl, Nat.le_of_ble_eq_true rfl⟩, htg _ m_317, trivial⟩ (kC_pre hK hF hP hS _) rfl rfl hl.1 rfl (lv_room (Nat.le_of_ble_eq_true rfl)) d_O_layMarks_38 ⟨Nat.le_of_ble_eq_true rfl, Nat.le_of_ble_eq_true rfl⟩) hS (fun r5 σ4 H locs h hP hS => ?_)
      refine lv_if_eq (tgt := 59) hx hb d_O_layMarks_41 (by decide) (fun cn => ?_) (fun cn => ?_)
      · have h := h.1 cn
        refine lv_iinc (v := (x3 + 1)) (lv' := [(3, .int (x3 + 1)), (0, .ref (ad 3)), (1, .ref (ad 2)), (2, .int x2)]) hx hb d_O_layMarks_59 hl (k := 3) rfl rfl (by decide) rfl (fun ls hl => ?_)
        refine lv_goto (tgt := 27) hx hb d_O_layMarks_62 (by decide) ?_
        rw [hG27] at h
        exact h _ _ _ hP hS (lv_sub hl [1, 2, 3, 0] rfl)
      · have h := h.2 cn
        refine lv_aload_n hx hb d_O_layMarks_44 rfl (lv_at hl 1 rfl) ?_
        refine va_get (D := D) (ci := 2) (v := .ref (ad 10)) (C := RX2) (T := TX2) (N := 10) hx hb htg inG_X2 hown hK hP 2 rfl rfl 0 (by decide) (htg _ m_123) (fun _ h9 => h9) rfl d_O_layMarks_45 ?_
        refine lv_iload_n hx hb d_O_layMarks_48 rfl (lv_at hl 3 rfl) ?_
        have hi := h.1
        have h := h.2
        refine va_iald hx hb hK hP 10 0 rfl rfl hi d_O_layMarks_49 ?_
        refine lv_iload_n hx hb d_O_layMarks_50 rfl (lv_at hl 2 rfl) ?_
        refine lv_icmp_ne (tgt := 59) hx hb d_O_layMarks_51 (by decide) (fun cn => ?_) (fun cn => ?_)
        · have h := h.1 cn
          refine lv_iinc (v := (x3 + 1)) (lv' := [(3, .int (x3 + 1)), (0, .ref (ad 3)), (1, .ref (ad 2)), (2, .int x2)]) hx hb d_O_layMarks_59 hl (k := 3) rfl rfl (by decide) rfl (fun ls hl => ?_)
          refine lv_goto (tgt := 27) hx hb d_O_layMarks_62 (by decide) ?_
          rw [hG27] at h
          exact h _ _ _ hP hS (lv_sub hl [1, 2, 3, 0] rfl)
        · have h := h.2 cn
          refine lv_aload_n hx hb d_O_layMarks_54 rfl (lv_at hl 0 rfl) ?_
          refine lv_iload_n hx hb d_O_layMarks_55 rfl (lv_at hl 3 rfl) ?_
          refine kC_v (va_runV (As := [.int x3]) (rest := []) ⟨hx, hb, hml, hown, htg⟩ (met_O_layMark l D ad cA cB hap σ4 H.size x3 _ h) (cwV 1 htg (kG (kG_V m_470 m_472 m_10 m_56 (kG_self m_473))) rfl rfl rfl (by decide +kernel) ⟨Nat.le_of_ble_eq_true rfl, Nat.le_of_ble_eq_true rfl⟩) (kC_preV hK hF hP hS 3 rfl rfl _) rfl rfl hl.1 rfl (lv_room (Nat.le_of_ble_eq_true rfl)) d_O_layMarks_56 ⟨Nat.le_of_ble_eq_true rfl, Nat.le_of_ble_eq_true rfl⟩) hS (fun σ6 H locs h hP hS => ?_)
          refine lv_iinc (v := (x3 + 1)) (lv' := [(3, .int (x3 + 1)), (0, .ref (ad 3)), (1, .ref (ad 2)), (2, .int x2)]) hx hb d_O_layMarks_59 hl (k := 3) rfl rfl (by decide) rfl (fun ls hl => ?_)
          refine lv_goto (tgt := 27) hx hb d_O_layMarks_62 (by decide) ?_
          rw [hG27] at h
          exact h _ _ _ hP hS (lv_sub hl [1, 2, 3, 0] rfl))
  have h := h (by
    intro x2 x3 σ h
    rw [hG67]
    intro H locs ls hP hS hl
    refine lv_iload_n hx hb d_O_layMarks_67 rfl (lv_at hl 3 rfl) ?_
    refine lv_aload_n hx hb d_O_layMarks_68 rfl (lv_at hl 1 rfl) ?_
    refine va_get (D := D) (ci := 2) (v := .int (σ 0 6)) (C := RX2) (T := TX2) (N := 10) hx hb htg inG_X2 hown hK hP 2 rfl rfl 5 (by decide) (htg _ m_136) (fun _ h9 => h9) rfl d_O_layMarks_69 ?_
    refine lv_icmp_ge (tgt := 122) hx hb d_O_layMarks_72 (by decide) (fun cn => ?_) (fun cn => ?_)
    · have h := h.1 cn
      refine lv_aload_n hx hb d_O_layMarks_122 rfl (lv_at hl 0 rfl) ?_
      refine lv_iload_n hx hb d_O_layMarks_123 rfl (lv_at hl 2 rfl) ?_
      refine lv_aload_n hx hb d_O_layMarks_124 rfl (lv_at hl 0 rfl) ?_
      refine va_get (D := D) (ci := 1) (v := .int (σ 0 10)) (C := RX1) (T := TX1) (N := 14) hx hb htg inG_X1 hown hK hP 3 rfl rfl 12 (by decide) (htg _ m_186) (fun _ h9 => h9) rfl d_O_layMarks_125 ?_
      refine kC_v (va_runV (As := [.int x2, .int (σ 0 10)]) (rest := []) ⟨hx, hb, hml, hown, htg⟩ (met_O_numberPlaces l D ad cA cB hap σ H.size x2 (σ 0 10) _ h) (cwV 2 htg (kG (kG_V m_479 m_481 m_11 m_56 (kG_self m_482))) rfl rfl rfl (by decide +kernel) ⟨Nat.le_of_ble_eq_true rfl, Nat.le_of_ble_eq_true rfl⟩) (kC_preV hK hF hP hS 3 rfl rfl _) rfl rfl hl.1 rfl (lv_room (Nat.le_of_ble_eq_true rfl)) d_O_layMarks_128 ⟨Nat.le_of_ble_eq_true rfl, Nat.le_of_ble_eq_true rfl⟩) hS (fun σ7 H locs h hP hS => ?_)
      refine lv_iinc (v := (x2 + 1)) (lv' := [(2, .int (x2 + 1)), (0, .ref (ad 3)), (1, .ref (ad 2)), (3, .int x3)]) hx hb d_O_layMarks_131 hl (k := 2) rfl rfl (by decide) rfl (fun ls hl => ?_)
      refine lv_goto (tgt := 7) hx hb d_O_layMarks_134 (by decide) ?_
      rw [hG7] at h
      exact h _ _ _ hP hS (lv_sub hl [1, 2, 0] rfl)
    · have h := h.2 cn
      refine lv_iload_n hx hb d_O_layMarks_75 rfl (lv_at hl 2 rfl) ?_
      refine lv_aload_n hx hb d_O_layMarks_76 rfl (lv_at hl 1 rfl) ?_
      refine va_get (D := D) (ci := 2) (v := .ref (ad 10)) (C := RX2) (T := TX2) (N := 10) hx hb htg inG_X2 hown hK hP 2 rfl rfl 0 (by decide) (htg _ m_123) (fun _ h9 => h9) rfl d_O_layMarks_77 ?_
      refine lv_aload_n hx hb d_O_layMarks_80 rfl (lv_at hl 1 rfl) ?_
      refine va_get (D := D) (ci := 2) (v := .ref (ad 11)) (C := RX2) (T := TX2) (N := 10) hx hb htg inG_X2 hown hK hP 2 rfl rfl 1 (by decide) (htg _ m_126) (fun _ h9 => h9) rfl d_O_layMarks_81 ?_
      refine lv_iload_n hx hb d_O_layMarks_84 rfl (lv_at hl 3 rfl) ?_
      have hi := h.1
      have h := h.2
      refine va_iald hx hb hK hP 11 0 rfl rfl hi d_O_layMarks_85 ?_
      have hi := h.1
      have h := h.2
      refine va_iald hx hb hK hP 10 0 rfl rfl hi d_O_layMarks_86 ?_
      refine lv_isub hx hb d_O_layMarks_87 ?_
      refine lv_topi (fun v8 ev8 => ?_)
      have h := h v8 ev8
      refine lv_istore (lv' := [(4, .int v8), (0, .ref (ad 3)), (1, .ref (ad 2)), (2, .int x2), (3, .int x3)]) hx hb d_O_layMarks_88 hl (by decide) rfl (fun ls hl => ?_)
      refine lv_iload hx hb d_O_layMarks_90 (lv_at hl 0 rfl) ?_
      refine lv_if_le (tgt := 116) hx hb d_O_layMarks_92 (by decide) (fun cn => ?_) (fun cn => ?_)
      · have h := h.1 cn
        refine lv_iinc (v := (x3 + 1)) (lv' := [(3, .int (x3 + 1)), (4, .int v8), (0, .ref (ad 3)), (1, .ref (ad 2)), (2, .int x2)]) hx hb d_O_layMarks_116 hl (k := 4) rfl rfl (by decide) rfl (fun ls hl => ?_)
        refine lv_goto (tgt := 67) hx hb d_O_layMarks_119 (by decide) ?_
        rw [hG67] at h
        exact h _ _ _ hP hS (lv_sub hl [2, 3, 4, 0] rfl)
      · have h := h.2 cn
        refine lv_iload hx hb d_O_layMarks_95 (lv_at hl 0 rfl) ?_
        refine lv_aload_n hx hb d_O_layMarks_97 rfl (lv_at hl 2 rfl) ?_
        refine lv_iload_n hx hb d_O_layMarks_98 rfl (lv_at hl 4 rfl) ?_
        refine kC_i (va_runV (As := [.int x3]) (rest := [.int v8]) ⟨hx, hb, hml, hown, htg⟩ (met_P_bendsOf l D ad cA cB hap σ H.size x3 _ h) (cwV 1 htg (kG (kG_V m_474 m_458 m_459 m_55 (kG_self m_460))) rfl rfl rfl (by decide +kernel) ⟨Nat.le_of_ble_eq_true rfl, Nat.le_of_ble_eq_true rfl⟩) (kC_preV hK hF hP hS 2 rfl rfl _) rfl rfl hl.1 rfl (lv_room (Nat.le_of_ble_eq_true rfl)) d_O_layMarks_99 ⟨Nat.le_of_ble_eq_true rfl, Nat.le_of_ble_eq_true rfl⟩) hS (fun r10 σ9 H locs h hP hS => ?_)
        refine lv_icmp_gt (tgt := 116) hx hb d_O_layMarks_102 (by decide) (fun cn => ?_) (fun cn => ?_)
        · have h := h.1 cn
          refine lv_iinc (v := (x3 + 1)) (lv' := [(3, .int (x3 + 1)), (4, .int v8), (0, .ref (ad 3)), (1, .ref (ad 2)), (2, .int x2)]) hx hb d_O_layMarks_116 hl (k := 4) rfl rfl (by decide) rfl (fun ls hl => ?_)
          refine lv_goto (tgt := 67) hx hb d_O_layMarks_119 (by decide) ?_
          rw [hG67] at h
          exact h _ _ _ hP hS (lv_sub hl [2, 3, 4, 0] rfl)
        · have h := h.2 cn
          refine lv_aload_n hx hb d_O_layMarks_105 rfl (lv_at hl 1 rfl) ?_
          refine lv_aload_n hx hb d_O_layMarks_106 rfl (lv_at hl 2 rfl) ?_
          refine lv_iload_n hx hb d_O_layMarks_107 rfl (lv_at hl 4 rfl) ?_
          refine lv_iload hx hb d_O_layMarks_108 (lv_at hl 0 rfl) ?_
          refine kC_i (va_runV (As := [.int x3, .int v8]) (rest := [.ref (ad 3)]) ⟨hx, hb, hml, hown, htg⟩ (met_P_pointOf l D ad cA cB hap σ9 H.size x3 v8 _ h) (cwV 2 htg (kG (kG_V m_475 m_476 m_477 m_55 (kG_self m_478))) rfl rfl rfl (by decide +kernel) ⟨Nat.le_of_ble_eq_true rfl, Nat.le_of_ble_eq_true rfl⟩) (kC_preV hK hF hP hS 2 rfl rfl _) rfl rfl hl.1 rfl (lv_room (Nat.le_of_ble_eq_true rfl)) d_O_layMarks_110 ⟨Nat.le_of_ble_eq_true rfl, Nat.le_of_ble_eq_true rfl⟩) hS (fun r12 σ11 H locs h hP hS => ?_)
          refine kC_v (va_runV (As := [.int r12]) (rest := []) ⟨hx, hb, hml, hown, htg⟩ (met_O_layMark l D ad cA cB hap σ11 H.size r12 _ h) (cwV 1 htg (kG (kG_V m_470 m_472 m_10 m_56 (kG_self m_473))) rfl rfl rfl (by decide +kernel) ⟨Nat.le_of_ble_eq_true rfl, Nat.le_of_ble_eq_true rfl⟩) (kC_preV hK hF hP hS 3 rfl rfl _) rfl rfl hl.1 rfl (lv_room (Nat.le_of_ble_eq_true rfl)) d_O_layMarks_113 ⟨Nat.le_of_ble_eq_true rfl, Nat.le_of_ble_eq_true rfl⟩) hS (fun σ13 H locs h hP hS => ?_)
          refine lv_iinc (v := (x3 + 1)) (lv' := [(3, .int (x3 + 1)), (4, .int v8), (0, .ref (ad 3)), (1, .ref (ad 2)), (2, .int x2)]) hx hb d_O_layMarks_116 hl (k := 4) rfl rfl (by decide) rfl (fun ls hl => ?_)
          refine lv_goto (tgt := 67) hx hb d_O_layMarks_119 (by decide) ?_
          rw [hG67] at h
          exact h _ _ _ hP hS (lv_sub hl [2, 3, 4, 0] rfl))
  obtain ⟨H, eH⟩ : ∃ z, z = s.heap := ⟨_, rfl⟩
  have hP : va_P D vwCl (wC ad cA cB σ) H := by rw [eH]; exact hP
  have hS : va_S (kAC ad s.heap.size) s.heap H [] := by rw [eH]; exact hS
  show W p l e (headSpec (Cond.code y_O_layMarks c_O_layMarks 5 none :: wsG) ({ frames := 2, cells := 0, slots := 0, locals := 43 } : Room)).room s m ([.ref (ad 3), .ref (ad 2)] : List Value).toArray below meth c s.heap [] 0 0 (MQ below (va_Qv post (kBC D ad cA cB) (kAC ad s.heap.size)) ([.ref (ad 3), .ref (ad 2)] : List Value).toArray s 0 0 (kAC ad s.heap.size)) (F0 m 0 ls [])
  suffices k : W p l e (headSpec (Cond.code y_O_layMarks c_O_layMarks 5 none :: wsG) ({ frames := 2, cells := 0, slots := 0, locals := 43 } : Room)).room s m ([.ref (ad 3), .ref (ad 2)] : List Value).toArray below meth c H [] 0 0 (MQ below (va_Qv post (kBC D ad cA cB) (kAC ad s.heap.size)) ([.ref (ad 3), .ref (ad 2)] : List Value).toArray s 0 0 (kAC ad s.heap.size)) (F0 m 0 ls []) by rw [eH] at k; exact k
  refine lv_aload_n hx hb d_O_layMarks_0 rfl (lv_at hl 0 rfl) ?_
  refine lv_iconst (v := 0) hx hb d_O_layMarks_1 (by decide) ?_
  refine va_put (D := D) (ci := 1) (v := .int 0) (ty := .int) (C := RX1) (T := TX1) (N := 14) hx hb htg inG_X1 tyX1 tyX1_ok nmX1 hown hK hP (hD _) hS 3 rfl rfl 12 (by decide) (htg _ m_186) (fun _ h9 => h9) rfl (by decide +kernel) rfl rfl (Nat.le_of_ble_eq_true rfl) d_O_layMarks_2 (fun H locs hP _ hS => ?_)
  obtain ⟨σ1, eσ1⟩ : ∃ z : S0, z = st σ 0 10 0 := ⟨_, rfl⟩
  have hP : va_P D vwCl (wC ad cA cB σ1) H := by rw [eσ1]; exact hP
  have h := h σ1 eσ1
  refine lv_iconst (v := 0) hx hb d_O_layMarks_5 (by decide) ?_
  refine lv_istore_n (lv' := [(2, .int 0), (0, .ref (ad 3)), (1, .ref (ad 2))]) hx hb d_O_layMarks_6 rfl hl (by decide) rfl (fun ls hl => ?_)
  rw [hG7] at h
  exact h _ _ _ hP hS (lv_sub hl [1, 2, 0] rfl)
set_option maxHeartbeats 4000000 in
set_option maxRecDepth 100000 in
theorem met_O_layPieces (l : Launch) (D : va_G) (ad : Nat → Nat) (cA cB : ClassId) (hap : kapC ad) (σ : S0) (sz : Nat) (post : S0 → Prop) (h : Sp_O_layPieces  σ post) : Met l y_O_layPieces (Cond.code y_O_layPieces c_O_layPieces 5 none :: wsG) ({ frames := 2, cells := 0, slots := 0, locals := 43 } : Room) (kPcC D ad cA cB σ sz [.ref (ad 3), .ref (ad 2)]) (va_Qv post (kBC D ad cA cB) (kAC ad sz)) 0 0 (kAC ad sz) := by
  refine Met.ofW (cc := c_O_layPieces) (maxL := 5) (ret := none) (by decide) rfl ?_
  intro p e s m args below meth c s₁ B hml hv
  obtain ⟨rfl, hsz, hP, hK, hF⟩ := hv
  have hx := B.exec
  have hb := B.bytes
  have hr := B.returns
  have hts := atoms_spec (ws := (Cond.code y_O_layPieces c_O_layPieces 5 none :: wsG)) B.pre
  have htg : ∀ w ∈ wsG, w.before ([.ref (ad 3), .ref (ad 2)] : List Value).toArray s = true := fun w h => hts w (List.mem_cons_of_mem _ h)
  have hown : s.vm.findClass RX1 = some m.cls := findClass_of_methodNamed B.named
  have hlocks := B.notSynchronized
  subst hsz
  have hD : ∀ σ, va_D (kAC ad s.heap.size) (wC ad cA cB σ) := fun σ => wC_D hap cA cB σ _
  have hS : va_S (kAC ad s.heap.size) s.heap s.heap [] := va_S.rf
  have hE := hF.1
  have hl := lv_entry ([.ref (ad 3), .ref (ad 2)]) (n := 5) (Nat.le_of_ble_eq_true rfl)
  rw [lg_entry_eq]
  generalize (lg_sl ([.ref (ad 3), .ref (ad 2)]) ++ List.replicate (5 - (lg_sl ([.ref (ad 3), .ref (ad 2)])).length) Slot.unset).toArray = ls at hl ⊢
  have hl : lv_has ls 5 [(0, .ref (ad 3)), (1, .ref (ad 2))] := hl
  unfold Sp_O_layPieces at h
  obtain ⟨G7, hG7⟩ : ∃ G : Int32 → S0 → Prop, G = fun (x2 : Int32) (σ : S0) => ∀ (H : Heap) (locs : List Loc) (ls : Array Slot), va_P D vwCl (wC ad cA cB σ) H → va_S (kAC ad s.heap.size) s.heap H locs → lv_has ls 5 [(0, .ref (ad 3)), (1, .ref (ad 2)), (2, .int x2)] → W p l e (headSpec (Cond.code y_O_layPieces c_O_layPieces 5 none :: wsG) ({ frames := 2, cells := 0, slots := 0, locals := 43 } : Room)).room s m ([.ref (ad 3), .ref (ad 2)] : List Value).toArray below meth c H locs 0 0 (MQ below (va_Qv post (kBC D ad cA cB) (kAC ad s.heap.size)) ([.ref (ad 3), .ref (ad 2)] : List Value).toArray s 0 0 (kAC ad s.heap.size)) (F0 m 7 ls []) := ⟨_, rfl⟩
  obtain ⟨G27, hG27⟩ : ∃ G : Int32 → Int32 → S0 → Prop, G = fun (x2 x3 : Int32) (σ : S0) => ∀ (H : Heap) (locs : List Loc) (ls : Array Slot), va_P D vwCl (wC ad cA cB σ) H → va_S (kAC ad s.heap.size) s.heap H locs → lv_has ls 5 [(0, .ref (ad 3)), (1, .ref (ad 2)), (2, .int x2), (3, .int x3)] → W p l e (headSpec (Cond.code y_O_layPieces c_O_layPieces 5 none :: wsG) ({ frames := 2, cells := 0, slots := 0, locals := 43 } : Room)).room s m ([.ref (ad 3), .ref (ad 2)] : List Value).toArray below meth c H locs 0 0 (MQ below (va_Qv post (kBC D ad cA cB) (kAC ad s.heap.size)) ([.ref (ad 3), .ref (ad 2)] : List Value).toArray s 0 0 (kAC ad s.heap.size)) (F0 m 27 ls []) := ⟨_, rfl⟩
  have h := h G7 G27
  have h := h (by
    intro x2 σ h
    rw [hG7]
    intro H locs ls hP hS hl
    refine lv_iload_n hx hb d_O_layPieces_7 rfl (lv_at hl 2 rfl) ?_
    refine lv_aload_n hx hb d_O_layPieces_8 rfl (lv_at hl 0 rfl) ?_
    refine va_get (D := D) (ci := 1) (v := .int (σ 0 9)) (C := RX1) (T := TX1) (N := 14) hx hb htg inG_X1 hown hK hP 3 rfl rfl 11 (by decide) (htg _ m_185) (fun _ h9 => h9) rfl d_O_layPieces_9 ?_
    refine lv_icmp_ge (tgt := 121) hx hb d_O_layPieces_12 (by decide) (fun cn => ?_) (fun cn => ?_)
    · have h := h.1 cn
      refine lv_aload_n hx hb d_O_layPieces_121 rfl (lv_at hl 0 rfl) ?_
      refine va_get (D := D) (ci := 1) (v := .ref (ad 23)) (C := RX1) (T := TX1) (N := 14) hx hb htg inG_X1 hown hK hP 3 rfl rfl 8 (by decide) (htg _ m_182) (fun _ h9 => h9) rfl d_O_layPieces_122 ?_
      refine lv_aload_n hx hb d_O_layPieces_125 rfl (lv_at hl 0 rfl) ?_
      refine va_get (D := D) (ci := 1) (v := .int (σ 0 9)) (C := RX1) (T := TX1) (N := 14) hx hb htg inG_X1 hown hK hP 3 rfl rfl 11 (by decide) (htg _ m_185) (fun _ h9 => h9) rfl d_O_layPieces_126 ?_
      refine lv_aload_n hx hb d_O_layPieces_129 rfl (lv_at hl 0 rfl) ?_
      refine va_get (D := D) (ci := 1) (v := .int (σ 0 11)) (C := RX1) (T := TX1) (N := 14) hx hb htg inG_X1 hown hK hP 3 rfl rfl 13 (by decide) (htg _ m_187) (fun _ h9 => h9) rfl d_O_layPieces_130 ?_
      have hi := h.1
      have h := h.2
      refine va_iast hx hb hK hP (hD _) hS 23 0 rfl rfl hi d_O_layPieces_133 (fun H locs hP _ hS => ?_)
      obtain ⟨σ2, eσ2⟩ : ∃ z : S0, z = st σ 23 (σ 0 9).toNatClampNeg (σ 0 11) := ⟨_, rfl⟩
      have hP : va_P D vwCl (wC ad cA cB σ2) H := by rw [eσ2]; exact hP
      have h := h σ2 eσ2
      exact W.vret hx hb hr (fun t ht hW => ⟨⟨σ2, rfl, h, kBC_of ht hP⟩, hS.F ht⟩) hS.2.2 d_O_layPieces_134 hlocks
    · have h := h.2 cn
      refine lv_aload_n hx hb d_O_layPieces_15 rfl (lv_at hl 0 rfl) ?_
      refine va_get (D := D) (ci := 1) (v := .ref (ad 23)) (C := RX1) (T := TX1) (N := 14) hx hb htg inG_X1 hown hK hP 3 rfl rfl 8 (by decide) (htg _ m_182) (fun _ h9 => h9) rfl d_O_layPieces_16 ?_
      refine lv_iload_n hx hb d_O_layPieces_19 rfl (lv_at hl 2 rfl) ?_
      refine lv_aload_n hx hb d_O_layPieces_20 rfl (lv_at hl 0 rfl) ?_
      refine va_get (D := D) (ci := 1) (v := .int (σ 0 11)) (C := RX1) (T := TX1) (N := 14) hx hb htg inG_X1 hown hK hP 3 rfl rfl 13 (by decide) (htg _ m_187) (fun _ h9 => h9) rfl d_O_layPieces_21 ?_
      have hi := h.1
      have h := h.2
      refine va_iast hx hb hK hP (hD _) hS 23 0 rfl rfl hi d_O_layPieces_24 (fun H locs hP _ hS => ?_)
      obtain ⟨σ3, eσ3⟩ : ∃ z : S0, z = st σ 23 x2.toNatClampNeg (σ 0 11) := ⟨_, rfl⟩
      have hP : va_P D vwCl (wC ad cA cB σ3) H := by rw [eσ3]; exact hP
      have h := h σ3 eσ3
      refine lv_iconst (v := 0) hx hb d_O_layPieces_25 (by decide) ?_
      refine lv_istore_n (lv' := [(3, .int 0), (0, .ref (ad 3)), (1, .ref (ad 2)), (2, .int x2)]) hx hb d_O_layPieces_26 rfl hl (by decide) rfl (fun ls hl => ?_)
      rw [hG27] at h
      exact h _ _ _ hP hS (lv_sub hl [1, 2, 3, 0] rfl))
  have h := h (by
    intro x2 x3 σ h
    rw [hG27]
    intro H locs ls hP hS hl
    refine lv_iload_n hx hb d_O_layPieces_27 rfl (lv_at hl 3 rfl) ?_
    refine lv_aload_n hx hb d_O_layPieces_28 rfl (lv_at hl 1 rfl) ?_
    refine va_get (D := D) (ci := 2) (v := .int (σ 0 6)) (C := RX2) (T := TX2) (N := 10) hx hb htg inG_X2 hown hK hP 2 rfl rfl 5 (by decide) (htg _ m_136) (fun _ h9 => h9) rfl d_O_layPieces_29 ?_
    refine lv_icmp_ge (tgt := 115) hx hb d_O_layPieces_32 (by decide) (fun cn => ?_) (fun cn => ?_)
    · have h := h.1 cn
      refine lv_iinc (v := (x2 + 1)) (lv' := [(2, .int (x2 + 1)), (0, .ref (ad 3)), (1, .ref (ad 2)), (3, .int x3)]) hx hb d_O_layPieces_115 hl (k := 2) rfl rfl (by decide) rfl (fun ls hl => ?_)
      refine lv_goto (tgt := 7) hx hb d_O_layPieces_118 (by decide) ?_
      rw [hG7] at h
      exact h _ _ _ hP hS (lv_sub hl [1, 2, 0] rfl)
    · have h := h.2 cn
      refine lv_iload_n hx hb d_O_layPieces_35 rfl (lv_at hl 2 rfl) ?_
      refine lv_aload_n hx hb d_O_layPieces_36 rfl (lv_at hl 1 rfl) ?_
      refine va_get (D := D) (ci := 2) (v := .ref (ad 10)) (C := RX2) (T := TX2) (N := 10) hx hb htg inG_X2 hown hK hP 2 rfl rfl 0 (by decide) (htg _ m_123) (fun _ h9 => h9) rfl d_O_layPieces_37 ?_
      refine lv_aload_n hx hb d_O_layPieces_40 rfl (lv_at hl 1 rfl) ?_
      refine va_get (D := D) (ci := 2) (v := .ref (ad 11)) (C := RX2) (T := TX2) (N := 10) hx hb htg inG_X2 hown hK hP 2 rfl rfl 1 (by decide) (htg _ m_126) (fun _ h9 => h9) rfl d_O_layPieces_41 ?_
      refine lv_iload_n hx hb d_O_layPieces_44 rfl (lv_at hl 3 rfl) ?_
      have hi := h.1
      have h := h.2
      refine va_iald hx hb hK hP 11 0 rfl rfl hi d_O_layPieces_45 ?_
      have hi := h.1
      have h := h.2
      refine va_iald hx hb hK hP 10 0 rfl rfl hi d_O_layPieces_46 ?_
      refine lv_isub hx hb d_O_layPieces_47 ?_
      refine lv_topi (fun v4 ev4 => ?_)
      have h := h v4 ev4
      refine lv_istore (lv' := [(4, .int v4), (0, .ref (ad 3)), (1, .ref (ad 2)), (2, .int x2), (3, .int x3)]) hx hb d_O_layPieces_48 hl (by decide) rfl (fun ls hl => ?_)
      refine lv_iload hx hb d_O_layPieces_50 (lv_at hl 0 rfl) ?_
      refine lv_if_lt (tgt := 109) hx hb d_O_layPieces_52 (by decide) (fun cn => ?_) (fun cn => ?_)
      · have h := h.1 cn
        refine lv_iinc (v := (x3 + 1)) (lv' := [(3, .int (x3 + 1)), (4, .int v4), (0, .ref (ad 3)), (1, .ref (ad 2)), (2, .int x2)]) hx hb d_O_layPieces_109 hl (k := 4) rfl rfl (by decide) rfl (fun ls hl => ?_)
        refine lv_goto (tgt := 27) hx hb d_O_layPieces_112 (by decide) ?_
        rw [hG27] at h
        exact h _ _ _ hP hS (lv_sub hl [2, 3, 4, 0] rfl)
      · have h := h.2 cn
        refine lv_iload hx hb d_O_layPieces_55 (lv_at hl 0 rfl) ?_
        refine lv_aload_n hx hb d_O_layPieces_57 rfl (lv_at hl 2 rfl) ?_
        refine lv_iload_n hx hb d_O_layPieces_58 rfl (lv_at hl 4 rfl) ?_
        refine kC_i (va_runV (As := [.int x3]) (rest := [.int v4]) ⟨hx, hb, hml, hown, htg⟩ (met_P_bendsOf l D ad cA cB hap σ H.size x3 _ h) (cwV 1 htg (kG (kG_V m_474 m_458 m_459 m_55 (kG_self m_460))) rfl rfl rfl (by decide +kernel) ⟨Nat.le_of_ble_eq_true rfl, Nat.le_of_ble_eq_true rfl⟩) (kC_preV hK hF hP hS 2 rfl rfl _) rfl rfl hl.1 rfl (lv_room (Nat.le_of_ble_eq_true rfl)) d_O_layPieces_59 ⟨Nat.le_of_ble_eq_true rfl, Nat.le_of_ble_eq_true rfl⟩) hS (fun r6 σ5 H locs h hP hS => ?_)
        refine lv_icmp_gt (tgt := 109) hx hb d_O_layPieces_62 (by decide) (fun cn => ?_) (fun cn => ?_)
        · have h := h.1 cn
          refine lv_iinc (v := (x3 + 1)) (lv' := [(3, .int (x3 + 1)), (4, .int v4), (0, .ref (ad 3)), (1, .ref (ad 2)), (2, .int x2)]) hx hb d_O_layPieces_109 hl (k := 4) rfl rfl (by decide) rfl (fun ls hl => ?_)
          refine lv_goto (tgt := 27) hx hb d_O_layPieces_112 (by decide) ?_
          rw [hG27] at h
          exact h _ _ _ hP hS (lv_sub hl [2, 3, 4, 0] rfl)
        · have h := h.2 cn
          refine lv_aload_n hx hb d_O_layPieces_65 rfl (lv_at hl 1 rfl) ?_
          refine va_get (D := D) (ci := 1) (v := .ref (ad 21)) (C := RX1) (T := TX1) (N := 14) hx hb htg inG_X1 hown hK hP 3 rfl rfl 6 (by decide) (htg _ m_180) (fun _ h9 => h9) rfl d_O_layPieces_66 ?_
          refine lv_aload_n hx hb d_O_layPieces_69 rfl (lv_at hl 1 rfl) ?_
          refine va_get (D := D) (ci := 1) (v := .int (σ5 0 11)) (C := RX1) (T := TX1) (N := 14) hx hb htg inG_X1 hown hK hP 3 rfl rfl 13 (by decide) (htg _ m_187) (fun _ h9 => h9) rfl d_O_layPieces_70 ?_
          refine lv_aload_n hx hb d_O_layPieces_73 rfl (lv_at hl 2 rfl) ?_
          refine lv_iload_n hx hb d_O_layPieces_74 rfl (lv_at hl 4 rfl) ?_
          refine lv_iload hx hb d_O_layPieces_75 (lv_at hl 0 rfl) ?_
          refine kC_i (va_runV (As := [.int x3, .int v4]) (rest := [.int (σ5 0 11), .ref (ad 21)]) ⟨hx, hb, hml, hown, htg⟩ (met_P_pointOf l D ad cA cB hap σ5 H.size x3 v4 _ h) (cwV 2 htg (kG (kG_V m_475 m_476 m_477 m_55 (kG_self m_478))) rfl rfl rfl (by decide +kernel) ⟨Nat.le_of_ble_eq_true rfl, Nat.le_of_ble_eq_true rfl⟩) (kC_preV hK hF hP hS 2 rfl rfl _) rfl rfl hl.1 rfl (lv_room (Nat.le_of_ble_eq_true rfl)) d_O_layPieces_77 ⟨Nat.le_of_ble_eq_true rfl, Nat.le_of_ble_eq_true rfl⟩) hS (fun r8 σ7 H locs h hP hS => ?_)
          have hi := h.1
          have h := h.2
          refine va_iast hx hb hK hP (hD _) hS 21 0 rfl rfl hi d_O_layPieces_80 (fun H locs hP _ hS => ?_)
          obtain ⟨σ9, eσ9⟩ : ∃ z : S0, z = st σ7 21 (σ5 0 11).toNatClampNeg r8 := ⟨_, rfl⟩
          have hP : va_P D vwCl (wC ad cA cB σ9) H := by rw [eσ9]; exact hP
          have h := h σ9 eσ9
          refine lv_aload_n hx hb d_O_layPieces_81 rfl (lv_at hl 1 rfl) ?_
          refine va_get (D := D) (ci := 1) (v := .ref (ad 22)) (C := RX1) (T := TX1) (N := 14) hx hb htg inG_X1 hown hK hP 3 rfl rfl 7 (by decide) (htg _ m_181) (fun _ h9 => h9) rfl d_O_layPieces_82 ?_
          refine lv_aload_n hx hb d_O_layPieces_85 rfl (lv_at hl 1 rfl) ?_
          refine va_get (D := D) (ci := 1) (v := .int (σ9 0 11)) (C := RX1) (T := TX1) (N := 14) hx hb htg inG_X1 hown hK hP 3 rfl rfl 13 (by decide) (htg _ m_187) (fun _ h9 => h9) rfl d_O_layPieces_86 ?_
          refine lv_aload_n hx hb d_O_layPieces_89 rfl (lv_at hl 2 rfl) ?_
          refine lv_iload_n hx hb d_O_layPieces_90 rfl (lv_at hl 4 rfl) ?_
          refine lv_iload hx hb d_O_layPieces_91 (lv_at hl 0 rfl) ?_
          refine lv_iconst (v := 1) hx hb d_O_layPieces_93 (by decide) ?_
          refine lv_iadd hx hb d_O_layPieces_94 ?_
          refine kC_i (va_runV (As := [.int x3, .int (v4 + 1)]) (rest := [.int (σ9 0 11), .ref (ad 22)]) ⟨hx, hb, hml, hown, htg⟩ (met_P_pointOf l D ad cA cB hap σ9 H.size x3 (v4 + 1) _ h) (cwV 2 htg (kG (kG_V m_475 m_476 m_477 m_55 (kG_self m_478))) rfl rfl rfl (by decide +kernel) ⟨Nat.le_of_ble_eq_true rfl, Nat.le_of_ble_eq_true rfl⟩) (kC_preV hK hF hP hS 2 rfl rfl _) rfl rfl hl.1 rfl (lv_room (Nat.le_of_ble_eq_true rfl)) d_O_layPieces_95 ⟨Nat.le_of_ble_eq_true rfl, Nat.le_of_ble_eq_true rfl⟩) hS (fun r11 σ10 H locs h hP hS => ?_)
          have hi := h.1
          have h := h.2
          refine va_iast hx hb hK hP (hD _) hS 22 0 rfl rfl hi d_O_layPieces_98 (fun H locs hP _ hS => ?_)
          obtain ⟨σ12, eσ12⟩ : ∃ z : S0, z = st σ10 22 (σ9 0 11).toNatClampNeg r11 := ⟨_, rfl⟩
          have hP : va_P D vwCl (wC ad cA cB σ12) H := by rw [eσ12]; exact hP
          have h := h σ12 eσ12
          refine lv_aload_n hx hb d_O_layPieces_99 rfl (lv_at hl 1 rfl) ?_
          refine lv_dup hx hb d_O_layPieces_100 rfl ?_
          refine va_get (D := D) (ci := 1) (v := .int (σ12 0 11)) (C := RX1) (T := TX1) (N := 14) hx hb htg inG_X1 hown hK hP 3 rfl rfl 13 (by decide) (htg _ m_187) (fun _ h9 => h9) rfl d_O_layPieces_101 ?_
          refine lv_iconst (v := 1) hx hb d_O_layPieces_104 (by decide) ?_
          refine lv_iadd hx hb d_O_layPieces_105 ?_
          refine va_put (D := D) (ci := 1) (v := .int ((σ12 0 11) + 1)) (ty := .int) (C := RX1) (T := TX1) (N := 14) hx hb htg inG_X1 tyX1 tyX1_ok nmX1 hown hK hP (hD _) hS 3 rfl rfl 13 (by decide) (htg _ m_187) (fun _ h9 => h9) rfl (by decide +kernel) rfl rfl (Nat.le_of_ble_eq_true rfl) d_O_layPieces_106 (fun H locs hP _ hS => ?_)
          obtain ⟨σ13, eσ13⟩ : ∃ z : S0, z = st σ12 0 11 ((σ12 0 11) + 1) := ⟨_, rfl⟩
          have hP : va_P D vwCl (wC ad cA cB σ13) H := by rw [eσ13]; exact hP
          have h := h σ13 eσ13
          refine lv_iinc (v := (x3 + 1)) (lv' := [(3, .int (x3 + 1)), (4, .int v4), (0, .ref (ad 3)), (1, .ref (ad 2)), (2, .int x2)]) hx hb d_O_layPieces_109 hl (k := 4) rfl rfl (by decide) rfl (fun ls hl => ?_)
          refine lv_goto (tgt := 27) hx hb d_O_layPieces_112 (by decide) ?_
          rw [hG27] at h
          exact h _ _ _ hP hS (lv_sub hl [2, 3, 4, 0] rfl))
  obtain ⟨H, eH⟩ : ∃ z, z = s.heap := ⟨_, rfl⟩
  have hP : va_P D vwCl (wC ad cA cB σ) H := by rw [eH]; exact hP
  have hS : va_S (kAC ad s.heap.size) s.heap H [] := by rw [eH]; exact hS
  show W p l e (headSpec (Cond.code y_O_layPieces c_O_layPieces 5 none :: wsG) ({ frames := 2, cells := 0, slots := 0, locals := 43 } : Room)).room s m ([.ref (ad 3), .ref (ad 2)] : List Value).toArray below meth c s.heap [] 0 0 (MQ below (va_Qv post (kBC D ad cA cB) (kAC ad s.heap.size)) ([.ref (ad 3), .ref (ad 2)] : List Value).toArray s 0 0 (kAC ad s.heap.size)) (F0 m 0 ls [])
  suffices k : W p l e (headSpec (Cond.code y_O_layPieces c_O_layPieces 5 none :: wsG) ({ frames := 2, cells := 0, slots := 0, locals := 43 } : Room)).room s m ([.ref (ad 3), .ref (ad 2)] : List Value).toArray below meth c H [] 0 0 (MQ below (va_Qv post (kBC D ad cA cB) (kAC ad s.heap.size)) ([.ref (ad 3), .ref (ad 2)] : List Value).toArray s 0 0 (kAC ad s.heap.size)) (F0 m 0 ls []) by rw [eH] at k; exact k
  refine lv_aload_n hx hb d_O_layPieces_0 rfl (lv_at hl 0 rfl) ?_
  refine lv_iconst (v := 0) hx hb d_O_layPieces_1 (by decide) ?_
  refine va_put (D := D) (ci := 1) (v := .int 0) (ty := .int) (C := RX1) (T := TX1) (N := 14) hx hb htg inG_X1 tyX1 tyX1_ok nmX1 hown hK hP (hD _) hS 3 rfl rfl 13 (by decide) (htg _ m_187) (fun _ h9 => h9) rfl (by decide +kernel) rfl rfl (Nat.le_of_ble_eq_true rfl) d_O_layPieces_2 (fun H locs hP _ hS => ?_)
  obtain ⟨σ1, eσ1⟩ : ∃ z : S0, z = st σ 0 11 0 := ⟨_, rfl⟩
  have hP : va_P D vwCl (wC ad cA cB σ1) H := by rw [eσ1]; exact hP
  have h := h σ1 eσ1
  refine lv_iconst (v := 0) hx hb d_O_layPieces_5 (by decide) ?_
  refine lv_istore_n (lv' := [(2, .int 0), (0, .ref (ad 3)), (1, .ref (ad 2))]) hx hb d_O_layPieces_6 rfl hl (by decide) rfl (fun ls hl => ?_)
  rw [hG7] at h
  exact h _ _ _ hP hS (lv_sub hl [1, 2, 0] rfl)
set_option maxHeartbeats 4000000 in
set_option maxRecDepth 100000 in
theorem met_O_countCrossed (l : Launch) (D : va_G) (ad : Nat → Nat) (cA cB : ClassId) (hap : kapC ad) (σ : S0) (sz : Nat) (a1 a2 : Int32) (post : Int32 → S0 → Prop) (h : Sp_O_countCrossed a1 a2 σ post) : Met l y_O_countCrossed (Cond.code y_O_countCrossed c_O_countCrossed 7 (some .int) :: wsG) ({ frames := 0, cells := 0, slots := 0, locals := 0 } : Room) (kPcC D ad cA cB σ sz [.ref (ad 3), .int a1, .int a2]) (va_Qi post (kBC D ad cA cB) (kAC ad sz)) 0 0 (kAC ad sz) := by
  refine Met.ofW (cc := c_O_countCrossed) (maxL := 7) (ret := (some .int)) (by decide) rfl ?_
  intro p e s m args below meth c s₁ B hml hv
  obtain ⟨rfl, hsz, hP, hK, hF⟩ := hv
  have hx := B.exec
  have hb := B.bytes
  have hr := B.returns
  have hts := atoms_spec (ws := (Cond.code y_O_countCrossed c_O_countCrossed 7 (some .int) :: wsG)) B.pre
  have htg : ∀ w ∈ wsG, w.before ([.ref (ad 3), .int a1, .int a2] : List Value).toArray s = true := fun w h => hts w (List.mem_cons_of_mem _ h)
  have hown : s.vm.findClass RX1 = some m.cls := findClass_of_methodNamed B.named
  have hlocks := B.notSynchronized
  subst hsz
  have hD : ∀ σ, va_D (kAC ad s.heap.size) (wC ad cA cB σ) := fun σ => wC_D hap cA cB σ _
  have hS : va_S (kAC ad s.heap.size) s.heap s.heap [] := va_S.rf
  have hE := hF.1
  have hl := lv_entry ([.ref (ad 3), .int a1, .int a2]) (n := 7) (Nat.le_of_ble_eq_true rfl)
  rw [lg_entry_eq]
  generalize (lg_sl ([.ref (ad 3), .int a1, .int a2]) ++ List.replicate (7 - (lg_sl ([.ref (ad 3), .int a1, .int a2])).length) Slot.unset).toArray = ls at hl ⊢
  have hl : lv_has ls 7 [(0, .ref (ad 3)), (1, .int a1), (2, .int a2)] := hl
  unfold Sp_O_countCrossed at h
  obtain ⟨G33, hG33⟩ : ∃ G : Int32 → Int32 → Int32 → Int32 → Int32 → S0 → Prop, G = fun (x2 x3 x4 x5 x6 : Int32) (σ : S0) => ∀ (H : Heap) (locs : List Loc) (ls : Array Slot), va_P D vwCl (wC ad cA cB σ) H → va_S (kAC ad s.heap.size) s.heap H locs → lv_has ls 7 [(0, .ref (ad 3)), (2, .int x2), (3, .int x3), (4, .int x4), (5, .int x5), (6, .int x6)] → W p l e (headSpec (Cond.code y_O_countCrossed c_O_countCrossed 7 (some .int) :: wsG) ({ frames := 0, cells := 0, slots := 0, locals := 0 } : Room)).room s m ([.ref (ad 3), .int a1, .int a2] : List Value).toArray below meth c H locs 0 0 (MQ below (va_Qi post (kBC D ad cA cB) (kAC ad s.heap.size)) ([.ref (ad 3), .int a1, .int a2] : List Value).toArray s 0 0 (kAC ad s.heap.size)) (F0 m 33 ls []) := ⟨_, rfl⟩
  have h := h G33
  have h := h (by
    intro x2 x3 x4 x5 x6 σ h
    rw [hG33]
    intro H locs ls hP hS hl
    refine lv_iload hx hb d_O_countCrossed_33 (lv_at hl 5 rfl) ?_
    refine lv_iload_n hx hb d_O_countCrossed_35 rfl (lv_at hl 1 rfl) ?_
    refine lv_icmp_ge (tgt := 81) hx hb d_O_countCrossed_36 (by decide) (fun cn => ?_) (fun cn => ?_)
    · have h := h.1 cn
      refine lv_iload hx hb d_O_countCrossed_81 (lv_at hl 4 rfl) ?_
      exact W.iret (v := x5) hx hb hr (fun t ht hW => ⟨⟨_, σ, rfl, h, kBC_of ht hP⟩, hS.F ht⟩) hS.2.2 d_O_countCrossed_83 hlocks
    · have h := h.2 cn
      refine lv_aload_n hx hb d_O_countCrossed_39 rfl (lv_at hl 0 rfl) ?_
      refine va_get (D := D) (ci := 1) (v := .ref (ad 16)) (C := RX1) (T := TX1) (N := 14) hx hb htg inG_X1 hown hK hP 3 rfl rfl 0 (by decide) (htg _ m_171) (fun _ h9 => h9) rfl d_O_countCrossed_40 ?_
      refine lv_aload_n hx hb d_O_countCrossed_43 rfl (lv_at hl 0 rfl) ?_
      refine va_get (D := D) (ci := 1) (v := .ref (ad 21)) (C := RX1) (T := TX1) (N := 14) hx hb htg inG_X1 hown hK hP 3 rfl rfl 6 (by decide) (htg _ m_180) (fun _ h9 => h9) rfl d_O_countCrossed_44 ?_
      refine lv_iload hx hb d_O_countCrossed_47 (lv_at hl 5 rfl) ?_
      have hi := h.1
      have h := h.2
      refine va_iald hx hb hK hP 21 0 rfl rfl hi d_O_countCrossed_49 ?_
      have hi := h.1
      have h := h.2
      refine va_iald hx hb hK hP 16 0 rfl rfl hi d_O_countCrossed_50 ?_
      refine lv_iload_n hx hb d_O_countCrossed_51 rfl (lv_at hl 2 rfl) ?_
      refine lv_isub hx hb d_O_countCrossed_52 ?_
      refine lv_aload_n hx hb d_O_countCrossed_53 rfl (lv_at hl 0 rfl) ?_
      refine va_get (D := D) (ci := 1) (v := .ref (ad 16)) (C := RX1) (T := TX1) (N := 14) hx hb htg inG_X1 hown hK hP 3 rfl rfl 0 (by decide) (htg _ m_171) (fun _ h9 => h9) rfl d_O_countCrossed_54 ?_
      refine lv_aload_n hx hb d_O_countCrossed_57 rfl (lv_at hl 0 rfl) ?_
      refine va_get (D := D) (ci := 1) (v := .ref (ad 22)) (C := RX1) (T := TX1) (N := 14) hx hb htg inG_X1 hown hK hP 3 rfl rfl 7 (by decide) (htg _ m_181) (fun _ h9 => h9) rfl d_O_countCrossed_58 ?_
      refine lv_iload hx hb d_O_countCrossed_61 (lv_at hl 5 rfl) ?_
      have hi := h.1
      have h := h.2
      refine va_iald hx hb hK hP 22 0 rfl rfl hi d_O_countCrossed_63 ?_
      have hi := h.1
      have h := h.2
      refine va_iald hx hb hK hP 16 0 rfl rfl hi d_O_countCrossed_64 ?_
      refine lv_iload hx hb d_O_countCrossed_65 (lv_at hl 3 rfl) ?_
      refine lv_isub hx hb d_O_countCrossed_67 ?_
      refine lv_imul hx hb d_O_countCrossed_68 ?_
      refine lv_if_ge (tgt := 75) hx hb d_O_countCrossed_69 (by decide) (fun cn => ?_) (fun cn => ?_)
      · have h := h.1 cn
        refine lv_iinc (v := (x6 + 1)) (lv' := [(6, .int (x6 + 1)), (0, .ref (ad 3)), (2, .int x2), (3, .int x3), (4, .int x4), (5, .int x5)]) hx hb d_O_countCrossed_75 hl (k := 5) rfl rfl (by decide) rfl (fun ls hl => ?_)
        refine lv_goto (tgt := 33) hx hb d_O_countCrossed_78 (by decide) ?_
        rw [hG33] at h
        exact h _ _ _ hP hS (lv_sub hl [1, 2, 3, 4, 5, 0] rfl)
      · have h := h.2 cn
        refine lv_iinc (v := (x5 + 1)) (lv' := [(5, .int (x5 + 1)), (0, .ref (ad 3)), (2, .int x2), (3, .int x3), (4, .int x4), (6, .int x6)]) hx hb d_O_countCrossed_72 hl (k := 4) rfl rfl (by decide) rfl (fun ls hl => ?_)
        refine lv_iinc (v := (x6 + 1)) (lv' := [(6, .int (x6 + 1)), (5, .int (x5 + 1)), (0, .ref (ad 3)), (2, .int x2), (3, .int x3), (4, .int x4)]) hx hb d_O_countCrossed_75 hl (k := 5) rfl rfl (by decide) rfl (fun ls hl => ?_)
        refine lv_goto (tgt := 33) hx hb d_O_countCrossed_78 (by decide) ?_
        rw [hG33] at h
        exact h _ _ _ hP hS (lv_sub hl [2, 3, 4, 5, 1, 0] rfl))
  obtain ⟨H, eH⟩ : ∃ z, z = s.heap := ⟨_, rfl⟩
  have hP : va_P D vwCl (wC ad cA cB σ) H := by rw [eH]; exact hP
  have hS : va_S (kAC ad s.heap.size) s.heap H [] := by rw [eH]; exact hS
  show W p l e (headSpec (Cond.code y_O_countCrossed c_O_countCrossed 7 (some .int) :: wsG) ({ frames := 0, cells := 0, slots := 0, locals := 0 } : Room)).room s m ([.ref (ad 3), .int a1, .int a2] : List Value).toArray below meth c s.heap [] 0 0 (MQ below (va_Qi post (kBC D ad cA cB) (kAC ad s.heap.size)) ([.ref (ad 3), .int a1, .int a2] : List Value).toArray s 0 0 (kAC ad s.heap.size)) (F0 m 0 ls [])
  suffices k : W p l e (headSpec (Cond.code y_O_countCrossed c_O_countCrossed 7 (some .int) :: wsG) ({ frames := 0, cells := 0, slots := 0, locals := 0 } : Room)).room s m ([.ref (ad 3), .int a1, .int a2] : List Value).toArray below meth c H [] 0 0 (MQ below (va_Qi post (kBC D ad cA cB) (kAC ad s.heap.size)) ([.ref (ad 3), .int a1, .int a2] : List Value).toArray s 0 0 (kAC ad s.heap.size)) (F0 m 0 ls []) by rw [eH] at k; exact k
  refine lv_aload_n hx hb d_O_countCrossed_0 rfl (lv_at hl 0 rfl) ?_
  refine va_get (D := D) (ci := 1) (v := .ref (ad 16)) (C := RX1) (T := TX1) (N := 14) hx hb htg inG_X1 hown hK hP 3 rfl rfl 0 (by decide) (htg _ m_171) (fun _ h9 => h9) rfl d_O_countCrossed_1 ?_
  refine lv_aload_n hx hb d_O_countCrossed_4 rfl (lv_at hl 0 rfl) ?_
  refine va_get (D := D) (ci := 1) (v := .ref (ad 21)) (C := RX1) (T := TX1) (N := 14) hx hb htg inG_X1 hown hK hP 3 rfl rfl 6 (by decide) (htg _ m_180) (fun _ h9 => h9) rfl d_O_countCrossed_5 ?_
  refine lv_iload_n hx hb d_O_countCrossed_8 rfl (lv_at hl 1 rfl) ?_
  have hi := h.1
  have h := h.2
  refine va_iald hx hb hK hP 21 0 rfl rfl hi d_O_countCrossed_9 ?_
  have hi := h.1
  have h := h.2
  refine va_iald hx hb hK hP 16 0 rfl rfl hi d_O_countCrossed_10 ?_
  refine lv_topi (fun v1 ev1 => ?_)
  have h := h v1 ev1
  refine lv_istore_n (lv' := [(3, .int v1), (0, .ref (ad 3)), (1, .int a1), (2, .int a2)]) hx hb d_O_countCrossed_11 rfl hl (by decide) rfl (fun ls hl => ?_)
  refine lv_aload_n hx hb d_O_countCrossed_12 rfl (lv_at hl 1 rfl) ?_
  refine va_get (D := D) (ci := 1) (v := .ref (ad 16)) (C := RX1) (T := TX1) (N := 14) hx hb htg inG_X1 hown hK hP 3 rfl rfl 0 (by decide) (htg _ m_171) (fun _ h9 => h9) rfl d_O_countCrossed_13 ?_
  refine lv_aload_n hx hb d_O_countCrossed_16 rfl (lv_at hl 1 rfl) ?_
  refine va_get (D := D) (ci := 1) (v := .ref (ad 22)) (C := RX1) (T := TX1) (N := 14) hx hb htg inG_X1 hown hK hP 3 rfl rfl 7 (by decide) (htg _ m_181) (fun _ h9 => h9) rfl d_O_countCrossed_17 ?_
  refine lv_iload_n hx hb d_O_countCrossed_20 rfl (lv_at hl 2 rfl) ?_
  have hi := h.1
  have h := h.2
  refine va_iald hx hb hK hP 22 0 rfl rfl hi d_O_countCrossed_21 ?_
  have hi := h.1
  have h := h.2
  refine va_iald hx hb hK hP 16 0 rfl rfl hi d_O_countCrossed_22 ?_
  refine lv_topi (fun v2 ev2 => ?_)
  have h := h v2 ev2
  refine lv_istore (lv' := [(4, .int v2), (3, .int v1), (0, .ref (ad 3)), (1, .int a1), (2, .int a2)]) hx hb d_O_countCrossed_23 hl (by decide) rfl (fun ls hl => ?_)
  refine lv_iconst (v := 0) hx hb d_O_countCrossed_25 (by decide) ?_
  refine lv_istore (lv' := [(5, .int 0), (4, .int v2), (3, .int v1), (0, .ref (ad 3)), (1, .int a1), (2, .int a2)]) hx hb d_O_countCrossed_26 hl (by decide) rfl (fun ls hl => ?_)
  refine lv_iload_n hx hb d_O_countCrossed_28 rfl (lv_at hl 4 rfl) ?_
  refine lv_iconst (v := 1) hx hb d_O_countCrossed_29 (by decide) ?_
  refine lv_iadd hx hb d_O_countCrossed_30 ?_
  refine lv_topi (fun v3 ev3 => ?_)
  have h := h v3 ev3
  refine lv_istore (lv' := [(6, .int v3), (5, .int 0), (4, .int v2), (3, .int v1), (0, .ref (ad 3)), (1, .int a1), (2, .int a2)]) hx hb d_O_countCrossed_31 hl (by decide) rfl (fun ls hl => ?_)
  rw [hG33] at h
  exact h _ _ _ hP hS (lv_sub hl [4, 6, 3, 2, 1, 0] rfl)
set_option maxHeartbeats 4000000 in
set_option maxRecDepth 100000 in
theorem met_O_countCrossings (l : Launch) (D : va_G) (ad : Nat → Nat) (cA cB : ClassId) (hap : kapC ad) (σ : S0) (sz : Nat) (post : Int32 → S0 → Prop) (h : Sp_O_countCrossings  σ post) : Met l y_O_countCrossings (Cond.code y_O_countCrossings c_O_countCrossings 4 (some .int) :: wsG) ({ frames := 1, cells := 0, slots := 0, locals := 26 } : Room) (kPcC D ad cA cB σ sz [.ref (ad 3)]) (va_Qi post (kBC D ad cA cB) (kAC ad sz)) 0 0 (kAC ad sz) := by
  refine Met.ofW (cc := c_O_countCrossings) (maxL := 4) (ret := (some .int)) (by decide) rfl ?_
  intro p e s m args below meth c s₁ B hml hv
  obtain ⟨rfl, hsz, hP, hK, hF⟩ := hv
  have hx := B.exec
  have hb := B.bytes
  have hr := B.returns
  have hts := atoms_spec (ws := (Cond.code y_O_countCrossings c_O_countCrossings 4 (some .int) :: wsG)) B.pre
  have htg : ∀ w ∈ wsG, w.before ([.ref (ad 3)] : List Value).toArray s = true := fun w h => hts w (List.mem_cons_of_mem _ h)
  have hown : s.vm.findClass RX1 = some m.cls := findClass_of_methodNamed B.named
  have hlocks := B.notSynchronized
  subst hsz
  have hD : ∀ σ, va_D (kAC ad s.heap.size) (wC ad cA cB σ) := fun σ => wC_D hap cA cB σ _
  have hS : va_S (kAC ad s.heap.size) s.heap s.heap [] := va_S.rf
  have hE := hF.1
  have hl := lv_entry ([.ref (ad 3)]) (n := 4) (Nat.le_of_ble_eq_true rfl)
  rw [lg_entry_eq]
  generalize (lg_sl ([.ref (ad 3)]) ++ List.replicate (4 - (lg_sl ([.ref (ad 3)])).length) Slot.unset).toArray = ls at hl ⊢
  have hl : lv_has ls 4 [(0, .ref (ad 3))] := hl
  unfold Sp_O_countCrossings at h
  obtain ⟨G4, hG4⟩ : ∃ G : Int32 → Int32 → S0 → Prop, G = fun (x1 x2 : Int32) (σ : S0) => ∀ (H : Heap) (locs : List Loc) (ls : Array Slot), va_P D vwCl (wC ad cA cB σ) H → va_S (kAC ad s.heap.size) s.heap H locs → lv_has ls 4 [(0, .ref (ad 3)), (1, .int x1), (2, .int x2)] → W p l e (headSpec (Cond.code y_O_countCrossings c_O_countCrossings 4 (some .int) :: wsG) ({ frames := 1, cells := 0, slots := 0, locals := 26 } : Room)).room s m ([.ref (ad 3)] : List Value).toArray below meth c H locs 0 0 (MQ below (va_Qi post (kBC D ad cA cB) (kAC ad s.heap.size)) ([.ref (ad 3)] : List Value).toArray s 0 0 (kAC ad s.heap.size)) (F0 m 4 ls []) := ⟨_, rfl⟩
  obtain ⟨G19, hG19⟩ : ∃ G : Int32 → Int32 → Int32 → S0 → Prop, G = fun (x1 x2 x3 : Int32) (σ : S0) => ∀ (H : Heap) (locs : List Loc) (ls : Array Slot), va_P D vwCl (wC ad cA cB σ) H → va_S (kAC ad s.heap.size) s.heap H locs → lv_has ls 4 [(0, .ref (ad 3)), (1, .int x1), (2, .int x2), (3, .int x3)] → W p l e (headSpec (Cond.code y_O_countCrossings c_O_countCrossings 4 (some .int) :: wsG) ({ frames := 1, cells := 0, slots := 0, locals := 26 } : Room)).room s m ([.ref (ad 3)] : List Value).toArray below meth c H locs 0 0 (MQ below (va_Qi post (kBC D ad cA cB) (kAC ad s.heap.size)) ([.ref (ad 3)] : List Value).toArray s 0 0 (kAC ad s.heap.size)) (F0 m 19 ls []) := ⟨_, rfl⟩
  have h := h G4 G19
  have h := h (by
    intro x1 x2 σ h
    rw [hG4]
    intro H locs ls hP hS hl
    refine lv_iload_n hx hb d_O_countCrossings_4 rfl (lv_at hl 2 rfl) ?_
    refine lv_aload_n hx hb d_O_countCrossings_5 rfl (lv_at hl 0 rfl) ?_
    refine va_get (D := D) (ci := 1) (v := .int (σ 0 9)) (C := RX1) (T := TX1) (N := 14) hx hb htg inG_X1 hown hK hP 3 rfl rfl 11 (by decide) (htg _ m_185) (fun _ h9 => h9) rfl d_O_countCrossings_6 ?_
    refine lv_icmp_ge (tgt := 59) hx hb d_O_countCrossings_9 (by decide) (fun cn => ?_) (fun cn => ?_)
    · have h := h.1 cn
      refine lv_iload_n hx hb d_O_countCrossings_59 rfl (lv_at hl 1 rfl) ?_
      exact W.iret (v := x1) hx hb hr (fun t ht hW => ⟨⟨_, σ, rfl, h, kBC_of ht hP⟩, hS.F ht⟩) hS.2.2 d_O_countCrossings_60 hlocks
    · have h := h.2 cn
      refine lv_aload_n hx hb d_O_countCrossings_12 rfl (lv_at hl 0 rfl) ?_
      refine va_get (D := D) (ci := 1) (v := .ref (ad 23)) (C := RX1) (T := TX1) (N := 14) hx hb htg inG_X1 hown hK hP 3 rfl rfl 8 (by decide) (htg _ m_182) (fun _ h9 => h9) rfl d_O_countCrossings_13 ?_
      refine lv_iload_n hx hb d_O_countCrossings_16 rfl (lv_at hl 2 rfl) ?_
      have hi := h.1
      have h := h.2
      refine va_iald hx hb hK hP 23 0 rfl rfl hi d_O_countCrossings_17 ?_
      refine lv_topi (fun v1 ev1 => ?_)
      have h := h v1 ev1
      refine lv_istore_n (lv' := [(3, .int v1), (0, .ref (ad 3)), (1, .int x1), (2, .int x2)]) hx hb d_O_countCrossings_18 rfl hl (by decide) rfl (fun ls hl => ?_)
      rw [hG19] at h
      exact h _ _ _ hP hS (lv_sub hl [1, 2, 3, 0] rfl))
  have h := h (by
    intro x1 x2 x3 σ h
    rw [hG19]
    intro H locs ls hP hS hl
    refine lv_iload_n hx hb d_O_countCrossings_19 rfl (lv_at hl 3 rfl) ?_
    refine lv_aload_n hx hb d_O_countCrossings_20 rfl (lv_at hl 0 rfl) ?_
    refine va_get (D := D) (ci := 1) (v := .ref (ad 23)) (C := RX1) (T := TX1) (N := 14) hx hb htg inG_X1 hown hK hP 3 rfl rfl 8 (by decide) (htg _ m_182) (fun _ h9 => h9) rfl d_O_countCrossings_21 ?_
    refine lv_iload_n hx hb d_O_countCrossings_24 rfl (lv_at hl 2 rfl) ?_
    refine lv_iconst (v := 1) hx hb d_O_countCrossings_25 (by decide) ?_
    refine lv_iadd hx hb d_O_countCrossings_26 ?_
    have hi := h.1
    have h := h.2
    refine va_iald hx hb hK hP 23 0 rfl rfl hi d_O_countCrossings_27 ?_
    refine lv_icmp_ge (tgt := 53) hx hb d_O_countCrossings_28 (by decide) (fun cn => ?_) (fun cn => ?_)
    · have h := h.1 cn
      refine lv_iinc (v := (x2 + 1)) (lv' := [(2, .int (x2 + 1)), (0, .ref (ad 3)), (1, .int x1), (3, .int x3)]) hx hb d_O_countCrossings_53 hl (k := 2) rfl rfl (by decide) rfl (fun ls hl => ?_)
      refine lv_goto (tgt := 4) hx hb d_O_countCrossings_56 (by decide) ?_
      rw [hG4] at h
      exact h _ _ _ hP hS (lv_sub hl [1, 2, 0] rfl)
    · have h := h.2 cn
      refine lv_iload_n hx hb d_O_countCrossings_31 rfl (lv_at hl 1 rfl) ?_
      refine lv_aload_n hx hb d_O_countCrossings_32 rfl (lv_at hl 0 rfl) ?_
      refine lv_iload_n hx hb d_O_countCrossings_33 rfl (lv_at hl 3 rfl) ?_
      refine lv_aload_n hx hb d_O_countCrossings_34 rfl (lv_at hl 0 rfl) ?_
      refine va_get (D := D) (ci := 1) (v := .ref (ad 23)) (C := RX1) (T := TX1) (N := 14) hx hb htg inG_X1 hown hK hP 3 rfl rfl 8 (by decide) (htg _ m_182) (fun _ h9 => h9) rfl d_O_countCrossings_35 ?_
      refine lv_iload_n hx hb d_O_countCrossings_38 rfl (lv_at hl 2 rfl) ?_
      refine lv_iconst (v := 1) hx hb d_O_countCrossings_39 (by decide) ?_
      refine lv_iadd hx hb d_O_countCrossings_40 ?_
      have hi := h.1
      have h := h.2
      refine va_iald hx hb hK hP 23 0 rfl rfl hi d_O_countCrossings_41 ?_
      refine kC_i (va_runV (As := [.int x3, .int (σ 23 (x2 + 1).toNatClampNeg)]) (rest := [.int x1]) ⟨hx, hb, hml, hown, htg⟩ (met_O_countCrossed l D ad cA cB hap σ H.size x3 (σ 23 (x2 + 1).toNatClampNeg) _ h) (cwV 2 htg (kG (kG_V m_491 m_493 m_14 m_56 (kG_self m_494))) rfl rfl rfl (by decide +kernel) ⟨Nat.le_of_ble_eq_true rfl, Nat.le_of_ble_eq_true rfl⟩) (kC_preV hK hF hP hS 3 rfl rfl _) rfl rfl hl.1 rfl (lv_room (Nat.le_of_ble_eq_true rfl)) d_O_countCrossings_42 ⟨Nat.le_of_ble_eq_true rfl, Nat.le_of_ble_eq_true rfl⟩) hS (fun r3 σ2 H locs h hP hS => ?_)
      refine lv_iadd hx hb d_O_countCrossings_45 ?_
      refine lv_topi (fun v4 ev4 => ?_)
      have h := h v4 ev4
      refine lv_istore_n (lv' := [(1, .int v4), (0, .ref (ad 3)), (2, .int x2), (3, .int x3)]) hx hb d_O_countCrossings_46 rfl hl (by decide) rfl (fun ls hl => ?_)
      refine lv_iinc (v := (x3 + 1)) (lv' := [(3, .int (x3 + 1)), (1, .int v4), (0, .ref (ad 3)), (2, .int x2)]) hx hb d_O_countCrossings_47 hl (k := 3) rfl rfl (by decide) rfl (fun ls hl => ?_)
      refine lv_goto (tgt := 19) hx hb d_O_countCrossings_50 (by decide) ?_
      rw [hG19] at h
      exact h _ _ _ hP hS (lv_sub hl [2, 1, 3, 0] rfl))
  obtain ⟨H, eH⟩ : ∃ z, z = s.heap := ⟨_, rfl⟩
  have hP : va_P D vwCl (wC ad cA cB σ) H := by rw [eH]; exact hP
  have hS : va_S (kAC ad s.heap.size) s.heap H [] := by rw [eH]; exact hS
  show W p l e (headSpec (Cond.code y_O_countCrossings c_O_countCrossings 4 (some .int) :: wsG) ({ frames := 1, cells := 0, slots := 0, locals := 26 } : Room)).room s m ([.ref (ad 3)] : List Value).toArray below meth c s.heap [] 0 0 (MQ below (va_Qi post (kBC D ad cA cB) (kAC ad s.heap.size)) ([.ref (ad 3)] : List Value).toArray s 0 0 (kAC ad s.heap.size)) (F0 m 0 ls [])
  suffices k : W p l e (headSpec (Cond.code y_O_countCrossings c_O_countCrossings 4 (some .int) :: wsG) ({ frames := 1, cells := 0, slots := 0, locals := 26 } : Room)).room s m ([.ref (ad 3)] : List Value).toArray below meth c H [] 0 0 (MQ below (va_Qi post (kBC D ad cA cB) (kAC ad s.heap.size)) ([.ref (ad 3)] : List Value).toArray s 0 0 (kAC ad s.heap.size)) (F0 m 0 ls []) by rw [eH] at k; exact k
  refine lv_iconst (v := 0) hx hb d_O_countCrossings_0 (by decide) ?_
  refine lv_istore_n (lv' := [(1, .int 0), (0, .ref (ad 3))]) hx hb d_O_countCrossings_1 rfl hl (by decide) rfl (fun ls hl => ?_)
  refine lv_iconst (v := 0) hx hb d_O_countCrossings_2 (by decide) ?_
  refine lv_istore_n (lv' := [(2, .int 0), (1, .int 0), (0, .ref (ad 3))]) hx hb d_O_countCrossings_3 rfl hl (by decide) rfl (fun ls hl => ?_)
  rw [hG4] at h
  exact h _ _ _ hP hS (lv_sub hl [2, 1, 0] rfl)
set_option maxHeartbeats 4000000 in
set_option maxRecDepth 100000 in
theorem met_O_keepBest (l : Launch) (D : va_G) (ad : Nat → Nat) (cA cB : ClassId) (hap : kapC ad) (σ : S0) (sz : Nat) (post : S0 → Prop) (h : Sp_O_keepBest  σ post) : Met l y_O_keepBest (Cond.code y_O_keepBest c_O_keepBest 1 none :: wsG) ({ frames := 1, cells := 0, slots := 0, locals := 60 } : Room) (kPcC D ad cA cB σ sz [.ref (ad 3)]) (va_Qv post (kBC D ad cA cB) (kAC ad sz)) 0 0 (kAC ad sz) := by
  refine Met.ofW (cc := c_O_keepBest) (maxL := 1) (ret := none) (by decide) rfl ?_
  intro p e s m args below meth c s₁ B hml hv
  obtain ⟨rfl, hsz, hP, hK, hF⟩ := hv
  have hx := B.exec
  have hb := B.bytes
  have hr := B.returns
  have hts := atoms_spec (ws := (Cond.code y_O_keepBest c_O_keepBest 1 none :: wsG)) B.pre
  have htg : ∀ w ∈ wsG, w.before ([.ref (ad 3)] : List Value).toArray s = true := fun w h => hts w (List.mem_cons_of_mem _ h)
  have hown : s.vm.findClass RX1 = some m.cls := findClass_of_methodNamed B.named
  have hlocks := B.notSynchronized
  subst hsz
  have hD : ∀ σ, va_D (kAC ad s.heap.size) (wC ad cA cB σ) := fun σ => wC_D hap cA cB σ _
  have hS : va_S (kAC ad s.heap.size) s.heap s.heap [] := va_S.rf
  have hE := hF.1
  have hl := lv_entry ([.ref (ad 3)]) (n := 1) (Nat.le_of_ble_eq_true rfl)
  rw [lg_entry_eq]
  generalize (lg_sl ([.ref (ad 3)]) ++ List.replicate (1 - (lg_sl ([.ref (ad 3)])).length) Slot.unset).toArray = ls at hl ⊢
  have hl : lv_has ls 1 [(0, .ref (ad 3))] := hl
  unfold Sp_O_keepBest at h
  obtain ⟨H, eH⟩ : ∃ z, z = s.heap := ⟨_, rfl⟩
  have hP : va_P D vwCl (wC ad cA cB σ) H := by rw [eH]; exact hP
  have hS : va_S (kAC ad s.heap.size) s.heap H [] := by rw [eH]; exact hS
  show W p l e (headSpec (Cond.code y_O_keepBest c_O_keepBest 1 none :: wsG) ({ frames := 1, cells := 0, slots := 0, locals := 60 } : Room)).room s m ([.ref (ad 3)] : List Value).toArray below meth c s.heap [] 0 0 (MQ below (va_Qv post (kBC D ad cA cB) (kAC ad s.heap.size)) ([.ref (ad 3)] : List Value).toArray s 0 0 (kAC ad s.heap.size)) (F0 m 0 ls [])
  suffices k : W p l e (headSpec (Cond.code y_O_keepBest c_O_keepBest 1 none :: wsG) ({ frames := 1, cells := 0, slots := 0, locals := 60 } : Room)).room s m ([.ref (ad 3)] : List Value).toArray below meth c H [] 0 0 (MQ below (va_Qv post (kBC D ad cA cB) (kAC ad s.heap.size)) ([.ref (ad 3)] : List Value).toArray s 0 0 (kAC ad s.heap.size)) (F0 m 0 ls []) by rw [eH] at k; exact k
  refine lv_aload_n hx hb d_O_keepBest_0 rfl (lv_at hl 0 rfl) ?_
  refine va_get (D := D) (ci := 1) (v := .ref (ad 18)) (C := RX1) (T := TX1) (N := 14) hx hb htg inG_X1 hown hK hP 3 rfl rfl 3 (by decide) (htg _ m_177) (fun _ h9 => h9) rfl d_O_keepBest_1 ?_
  refine lv_iconst (v := 0) hx hb d_O_keepBest_4 (by decide) ?_
  refine lv_aload_n hx hb d_O_keepBest_5 rfl (lv_at hl 0 rfl) ?_
  refine va_get (D := D) (ci := 1) (v := .ref (ad 19)) (C := RX1) (T := TX1) (N := 14) hx hb htg inG_X1 hown hK hP 3 rfl rfl 4 (by decide) (htg _ m_178) (fun _ h9 => h9) rfl d_O_keepBest_6 ?_
  refine lv_iconst (v := 0) hx hb d_O_keepBest_9 (by decide) ?_
  refine lv_aload_n hx hb d_O_keepBest_10 rfl (lv_at hl 0 rfl) ?_
  refine va_get (D := D) (ci := 1) (v := .int (σ 0 10)) (C := RX1) (T := TX1) (N := 14) hx hb htg inG_X1 hown hK hP 3 rfl rfl 12 (by decide) (htg _ m_186) (fun _ h9 => h9) rfl d_O_keepBest_11 ?_
  have hi := h.1
  have h := h.2
  refine va_copyi hx hb (hml.trans hl.1.symm) hown (htg _ m_499) (htg _ m_333) (htg _ m_332) (htg _ m_62) hK hP (hD _) hS 18 19 0 0 rfl rfl rfl rfl rfl (by decide) (by decide) hi.1 (by rw [sb_cl0, Nat.zero_add]; exact hi.2.1) (by rw [sb_cl0, Nat.zero_add]; exact hi.2.2) (fun _ _ => rfl) (Nat.le_of_ble_eq_true rfl) (Nat.le_of_ble_eq_true rfl) d_O_keepBest_14 (fun H locs hP _ hS => ?_)
  obtain ⟨σ1, eσ1⟩ : ∃ z : S0, z = cp σ 18 19 (σ 0 10).toNatClampNeg := ⟨_, rfl⟩
  have hP : va_P D vwCl (wC ad cA cB σ1) H := by rw [eσ1]; exact hP
  have h := h σ1 eσ1
  exact W.vret hx hb hr (fun t ht hW => ⟨⟨σ1, rfl, h, kBC_of ht hP⟩, hS.F ht⟩) hS.2.2 d_O_keepBest_17 hlocks
set_option maxHeartbeats 4000000 in
set_option maxRecDepth 100000 in
theorem met_O_takeBest (l : Launch) (D : va_G) (ad : Nat → Nat) (cA cB : ClassId) (hap : kapC ad) (σ : S0) (sz : Nat) (post : S0 → Prop) (h : Sp_O_takeBest  σ post) : Met l y_O_takeBest (Cond.code y_O_takeBest c_O_takeBest 2 none :: wsG) ({ frames := 1, cells := 0, slots := 0, locals := 60 } : Room) (kPcC D ad cA cB σ sz [.ref (ad 3)]) (va_Qv post (kBC D ad cA cB) (kAC ad sz)) 0 0 (kAC ad sz) := by
  refine Met.ofW (cc := c_O_takeBest) (maxL := 2) (ret := none) (by decide) rfl ?_
  intro p e s m args below meth c s₁ B hml hv
  obtain ⟨rfl, hsz, hP, hK, hF⟩ := hv
  have hx := B.exec
  have hb := B.bytes
  have hr := B.returns
  have hts := atoms_spec (ws := (Cond.code y_O_takeBest c_O_takeBest 2 none :: wsG)) B.pre
  have htg : ∀ w ∈ wsG, w.before ([.ref (ad 3)] : List Value).toArray s = true := fun w h => hts w (List.mem_cons_of_mem _ h)
  have hown : s.vm.findClass RX1 = some m.cls := findClass_of_methodNamed B.named
  have hlocks := B.notSynchronized
  subst hsz
  have hD : ∀ σ, va_D (kAC ad s.heap.size) (wC ad cA cB σ) := fun σ => wC_D hap cA cB σ _
  have hS : va_S (kAC ad s.heap.size) s.heap s.heap [] := va_S.rf
  have hE := hF.1
  have hl := lv_entry ([.ref (ad 3)]) (n := 2) (Nat.le_of_ble_eq_true rfl)
  rw [lg_entry_eq]
  generalize (lg_sl ([.ref (ad 3)]) ++ List.replicate (2 - (lg_sl ([.ref (ad 3)])).length) Slot.unset).toArray = ls at hl ⊢
  have hl : lv_has ls 2 [(0, .ref (ad 3))] := hl
  unfold Sp_O_takeBest at h
  obtain ⟨G19, hG19⟩ : ∃ G : Int32 → S0 → Prop, G = fun (x1 : Int32) (σ : S0) => ∀ (H : Heap) (locs : List Loc) (ls : Array Slot), va_P D vwCl (wC ad cA cB σ) H → va_S (kAC ad s.heap.size) s.heap H locs → lv_has ls 2 [(0, .ref (ad 3)), (1, .int x1)] → W p l e (headSpec (Cond.code y_O_takeBest c_O_takeBest 2 none :: wsG) ({ frames := 1, cells := 0, slots := 0, locals := 60 } : Room)).room s m ([.ref (ad 3)] : List Value).toArray below meth c H locs 0 0 (MQ below (va_Qv post (kBC D ad cA cB) (kAC ad s.heap.size)) ([.ref (ad 3)] : List Value).toArray s 0 0 (kAC ad s.heap.size)) (F0 m 19 ls []) := ⟨_, rfl⟩
  have h := h G19
  have h := h (by
    intro x1 σ h
    rw [hG19]
    intro H locs ls hP hS hl
    refine lv_iload_n hx hb d_O_takeBest_19 rfl (lv_at hl 1 rfl) ?_
    refine lv_aload_n hx hb d_O_takeBest_20 rfl (lv_at hl 0 rfl) ?_
    refine va_get (D := D) (ci := 1) (v := .int (σ 0 9)) (C := RX1) (T := TX1) (N := 14) hx hb htg inG_X1 hown hK hP 3 rfl rfl 11 (by decide) (htg _ m_185) (fun _ h9 => h9) rfl d_O_takeBest_21 ?_
    refine lv_icmp_ge (tgt := 46) hx hb d_O_takeBest_24 (by decide) (fun cn => ?_) (fun cn => ?_)
    · have h := h.1 cn
      exact W.vret hx hb hr (fun t ht hW => ⟨⟨σ, rfl, h, kBC_of ht hP⟩, hS.F ht⟩) hS.2.2 d_O_takeBest_46 hlocks
    · have h := h.2 cn
      refine lv_aload_n hx hb d_O_takeBest_27 rfl (lv_at hl 0 rfl) ?_
      refine lv_iload_n hx hb d_O_takeBest_28 rfl (lv_at hl 1 rfl) ?_
      refine lv_aload_n hx hb d_O_takeBest_29 rfl (lv_at hl 0 rfl) ?_
      refine va_get (D := D) (ci := 1) (v := .ref (ad 20)) (C := RX1) (T := TX1) (N := 14) hx hb htg inG_X1 hown hK hP 3 rfl rfl 5 (by decide) (htg _ m_179) (fun _ h9 => h9) rfl d_O_takeBest_30 ?_
      refine lv_iload_n hx hb d_O_takeBest_33 rfl (lv_at hl 1 rfl) ?_
      refine lv_iconst (v := 1) hx hb d_O_takeBest_34 (by decide) ?_
      refine lv_iadd hx hb d_O_takeBest_35 ?_
      have hi := h.1
      have h := h.2
      refine va_iald hx hb hK hP 20 0 rfl rfl hi d_O_takeBest_36 ?_
      refine kC_v (va_runV (As := [.int x1, .int (σ 20 (x1 + 1).toNatClampNeg)]) (rest := []) ⟨hx, hb, hml, hown, htg⟩ (met_O_numberPlaces l D ad cA cB hap σ H.size x1 (σ 20 (x1 + 1).toNatClampNeg) _ h) (cwV 2 htg (kG (kG_V m_479 m_481 m_11 m_56 (kG_self m_482))) rfl rfl rfl (by decide +kernel) ⟨Nat.le_of_ble_eq_true rfl, Nat.le_of_ble_eq_true rfl⟩) (kC_preV hK hF hP hS 3 rfl rfl _) rfl rfl hl.1 rfl (lv_room (Nat.le_of_ble_eq_true rfl)) d_O_takeBest_37 ⟨Nat.le_of_ble_eq_true rfl, Nat.le_of_ble_eq_true rfl⟩) hS (fun σ2 H locs h hP hS => ?_)
      refine lv_iinc (v := (x1 + 1)) (lv' := [(1, .int (x1 + 1)), (0, .ref (ad 3))]) hx hb d_O_takeBest_40 hl (k := 1) rfl rfl (by decide) rfl (fun ls hl => ?_)
      refine lv_goto (tgt := 19) hx hb d_O_takeBest_43 (by decide) ?_
      rw [hG19] at h
      exact h _ _ _ hP hS (lv_sub hl [1, 0] rfl))
  obtain ⟨H, eH⟩ : ∃ z, z = s.heap := ⟨_, rfl⟩
  have hP : va_P D vwCl (wC ad cA cB σ) H := by rw [eH]; exact hP
  have hS : va_S (kAC ad s.heap.size) s.heap H [] := by rw [eH]; exact hS
  show W p l e (headSpec (Cond.code y_O_takeBest c_O_takeBest 2 none :: wsG) ({ frames := 1, cells := 0, slots := 0, locals := 60 } : Room)).room s m ([.ref (ad 3)] : List Value).toArray below meth c s.heap [] 0 0 (MQ below (va_Qv post (kBC D ad cA cB) (kAC ad s.heap.size)) ([.ref (ad 3)] : List Value).toArray s 0 0 (kAC ad s.heap.size)) (F0 m 0 ls [])
  suffices k : W p l e (headSpec (Cond.code y_O_takeBest c_O_takeBest 2 none :: wsG) ({ frames := 1, cells := 0, slots := 0, locals := 60 } : Room)).room s m ([.ref (ad 3)] : List Value).toArray below meth c H [] 0 0 (MQ below (va_Qv post (kBC D ad cA cB) (kAC ad s.heap.size)) ([.ref (ad 3)] : List Value).toArray s 0 0 (kAC ad s.heap.size)) (F0 m 0 ls []) by rw [eH] at k; exact k
  refine lv_aload_n hx hb d_O_takeBest_0 rfl (lv_at hl 0 rfl) ?_
  refine va_get (D := D) (ci := 1) (v := .ref (ad 19)) (C := RX1) (T := TX1) (N := 14) hx hb htg inG_X1 hown hK hP 3 rfl rfl 4 (by decide) (htg _ m_178) (fun _ h9 => h9) rfl d_O_takeBest_1 ?_
  refine lv_iconst (v := 0) hx hb d_O_takeBest_4 (by decide) ?_
  refine lv_aload_n hx hb d_O_takeBest_5 rfl (lv_at hl 0 rfl) ?_
  refine va_get (D := D) (ci := 1) (v := .ref (ad 18)) (C := RX1) (T := TX1) (N := 14) hx hb htg inG_X1 hown hK hP 3 rfl rfl 3 (by decide) (htg _ m_177) (fun _ h9 => h9) rfl d_O_takeBest_6 ?_
  refine lv_iconst (v := 0) hx hb d_O_takeBest_9 (by decide) ?_
  refine lv_aload_n hx hb d_O_takeBest_10 rfl (lv_at hl 0 rfl) ?_
  refine va_get (D := D) (ci := 1) (v := .int (σ 0 10)) (C := RX1) (T := TX1) (N := 14) hx hb htg inG_X1 hown hK hP 3 rfl rfl 12 (by decide) (htg _ m_186) (fun _ h9 => h9) rfl d_O_takeBest_11 ?_
  have hi := h.1
  have h := h.2
  refine va_copyi hx hb (hml.trans hl.1.symm) hown (htg _ m_499) (htg _ m_333) (htg _ m_332) (htg _ m_62) hK hP (hD _) hS 19 18 0 0 rfl rfl rfl rfl rfl (by decide) (by decide) hi.1 (by rw [sb_cl0, Nat.zero_add]; exact hi.2.1) (by rw [sb_cl0, Nat.zero_add]; exact hi.2.2) (fun _ _ => rfl) (Nat.le_of_ble_eq_true rfl) (Nat.le_of_ble_eq_true rfl) d_O_takeBest_14 (fun H locs hP _ hS => ?_)
  obtain ⟨σ1, eσ1⟩ : ∃ z : S0, z = cp σ 19 18 (σ 0 10).toNatClampNeg := ⟨_, rfl⟩
  have hP : va_P D vwCl (wC ad cA cB σ1) H := by rw [eσ1]; exact hP
  have h := h σ1 eσ1
  refine lv_iconst (v := 0) hx hb d_O_takeBest_17 (by decide) ?_
  refine lv_istore_n (lv' := [(1, .int 0), (0, .ref (ad 3))]) hx hb d_O_takeBest_18 rfl hl (by decide) rfl (fun ls hl => ?_)
  rw [hG19] at h
  exact h _ _ _ hP hS (lv_sub hl [1, 0] rfl)
set_option maxHeartbeats 4000000 in
set_option maxRecDepth 100000 in
theorem met_O_weigh_22_21 (l : Launch) (D : va_G) (ad : Nat → Nat) (cA cB : ClassId) (hap : kapC ad) (σ : S0) (sz : Nat) (a1 a2 : Int32) (post : S0 → Prop) (h : Sp_O_weigh_22_21 a1 a2 σ post) : Met l y_O_weigh (Cond.code y_O_weigh c_O_weigh 6 none :: wsG) ({ frames := 0, cells := 0, slots := 0, locals := 0 } : Room) (kPcC D ad cA cB σ sz [.ref (ad 3), .int a1, .int a2, .ref (ad 22), .ref (ad 21)]) (va_Qv post (kBC D ad cA cB) (kAC ad sz)) 0 0 (kAC ad sz) := by
  refine Met.ofW (cc := c_O_weigh) (maxL := 6) (ret := none) (by decide) rfl ?_
  intro p e s m args below meth c s₁ B hml hv
  obtain ⟨rfl, hsz, hP, hK, hF⟩ := hv
  have hx := B.exec
  have hb := B.bytes
  have hr := B.returns
  have hts := atoms_spec (ws := (Cond.code y_O_weigh c_O_weigh 6 none :: wsG)) B.pre
  have htg : ∀ w ∈ wsG, w.before ([.ref (ad 3), .int a1, .int a2, .ref (ad 22), .ref (ad 21)] : List Value).toArray s = true := fun w h => hts w (List.mem_cons_of_mem _ h)
  have hown : s.vm.findClass RX1 = some m.cls := findClass_of_methodNamed B.named
  have hlocks := B.notSynchronized
  subst hsz
  have hD : ∀ σ, va_D (kAC ad s.heap.size) (wC ad cA cB σ) := fun σ => wC_D hap cA cB σ _
  have hS : va_S (kAC ad s.heap.size) s.heap s.heap [] := va_S.rf
  have hE := hF.1
  have hl := lv_entry ([.ref (ad 3), .int a1, .int a2, .ref (ad 22), .ref (ad 21)]) (n := 6) (Nat.le_of_ble_eq_true rfl)
  rw [lg_entry_eq]
  generalize (lg_sl ([.ref (ad 3), .int a1, .int a2, .ref (ad 22), .ref (ad 21)]) ++ List.replicate (6 - (lg_sl ([.ref (ad 3), .int a1, .int a2, .ref (ad 22), .ref (ad 21)])).length) Slot.unset).toArray = ls at hl ⊢
  have hl : lv_has ls 6 [(0, .ref (ad 3)), (1, .int a1), (2, .int a2), (3, .ref (ad 22)), (4, .ref (ad 21))] := hl
  unfold Sp_O_weigh_22_21 at h
  obtain ⟨G8, hG8⟩ : ∃ G : Int32 → Int32 → Int32 → S0 → Prop, G = fun (x1 x2 x5 : Int32) (σ : S0) => ∀ (H : Heap) (locs : List Loc) (ls : Array Slot), va_P D vwCl (wC ad cA cB σ) H → va_S (kAC ad s.heap.size) s.heap H locs → lv_has ls 6 [(0, .ref (ad 3)), (1, .int x1), (2, .int x2), (3, .ref (ad 22)), (4, .ref (ad 21)), (5, .int x5)] → W p l e (headSpec (Cond.code y_O_weigh c_O_weigh 6 none :: wsG) ({ frames := 0, cells := 0, slots := 0, locals := 0 } : Room)).room s m ([.ref (ad 3), .int a1, .int a2, .ref (ad 22), .ref (ad 21)] : List Value).toArray below meth c H locs 0 0 (MQ below (va_Qv post (kBC D ad cA cB) (kAC ad s.heap.size)) ([.ref (ad 3), .int a1, .int a2, .ref (ad 22), .ref (ad 21)] : List Value).toArray s 0 0 (kAC ad s.heap.size)) (F0 m 8 ls []) := ⟨_, rfl⟩
  obtain ⟨G61, hG61⟩ : ∃ G : Int32 → Int32 → Int32 → S0 → Prop, G = fun (x1 x2 x5 : Int32) (σ : S0) => ∀ (H : Heap) (locs : List Loc) (ls : Array Slot), va_P D vwCl (wC ad cA cB σ) H → va_S (kAC ad s.heap.size) s.heap H locs → lv_has ls 6 [(0, .ref (ad 3)), (1, .int x1), (2, .int x2), (3, .ref (ad 22)), (4, .ref (ad 21)), (5, .int x5)] → W p l e (headSpec (Cond.code y_O_weigh c_O_weigh 6 none :: wsG) ({ frames := 0, cells := 0, slots := 0, locals := 0 } : Room)).room s m ([.ref (ad 3), .int a1, .int a2, .ref (ad 22), .ref (ad 21)] : List Value).toArray below meth c H locs 0 0 (MQ below (va_Qv post (kBC D ad cA cB) (kAC ad s.heap.size)) ([.ref (ad 3), .int a1, .int a2, .ref (ad 22), .ref (ad 21)] : List Value).toArray s 0 0 (kAC ad s.heap.size)) (F0 m 61 ls []) := ⟨_, rfl⟩
  obtain ⟨G123, hG123⟩ : ∃ G : Int32 → Int32 → S0 → Prop, G = fun (x1 x5 : Int32) (σ : S0) => ∀ (H : Heap) (locs : List Loc) (ls : Array Slot), va_P D vwCl (wC ad cA cB σ) H → va_S (kAC ad s.heap.size) s.heap H locs → lv_has ls 6 [(0, .ref (ad 3)), (1, .int x1), (5, .int x5)] → W p l e (headSpec (Cond.code y_O_weigh c_O_weigh 6 none :: wsG) ({ frames := 0, cells := 0, slots := 0, locals := 0 } : Room)).room s m ([.ref (ad 3), .int a1, .int a2, .ref (ad 22), .ref (ad 21)] : List Value).toArray below meth c H locs 0 0 (MQ below (va_Qv post (kBC D ad cA cB) (kAC ad s.heap.size)) ([.ref (ad 3), .int a1, .int a2, .ref (ad 22), .ref (ad 21)] : List Value).toArray s 0 0 (kAC ad s.heap.size)) (F0 m 123 ls []) := ⟨_, rfl⟩
  have h := h G8 G61 G123
  have h := h (by
    intro x1 x2 x5 σ h
    rw [hG8]
    intro H locs ls hP hS hl
    refine lv_iload hx hb d_O_weigh_8 (lv_at hl 5 rfl) ?_
    refine lv_aload_n hx hb d_O_weigh_10 rfl (lv_at hl 0 rfl) ?_
    refine va_get (D := D) (ci := 1) (v := .ref (ad 20)) (C := RX1) (T := TX1) (N := 14) hx hb htg inG_X1 hown hK hP 3 rfl rfl 5 (by decide) (htg _ m_179) (fun _ h9 => h9) rfl d_O_weigh_11 ?_
    refine lv_iload_n hx hb d_O_weigh_14 rfl (lv_at hl 1 rfl) ?_
    refine lv_iconst (v := 1) hx hb d_O_weigh_15 (by decide) ?_
    refine lv_iadd hx hb d_O_weigh_16 ?_
    have hi := h.1
    have h := h.2
    refine va_iald hx hb hK hP 20 0 rfl rfl hi d_O_weigh_17 ?_
    refine lv_icmp_ge (tgt := 53) hx hb d_O_weigh_18 (by decide) (fun cn => ?_) (fun cn => ?_)
    · have h := h.1 cn
      refine lv_aload_n hx hb d_O_weigh_53 rfl (lv_at hl 0 rfl) ?_
      refine va_get (D := D) (ci := 1) (v := .ref (ad 23)) (C := RX1) (T := TX1) (N := 14) hx hb htg inG_X1 hown hK hP 3 rfl rfl 8 (by decide) (htg _ m_182) (fun _ h9 => h9) rfl d_O_weigh_54 ?_
      refine lv_iload_n hx hb d_O_weigh_57 rfl (lv_at hl 2 rfl) ?_
      have hi := h.1
      have h := h.2
      refine va_iald hx hb hK hP 23 0 rfl rfl hi d_O_weigh_58 ?_
      refine lv_topi (fun v2 ev2 => ?_)
      have h := h v2 ev2
      refine lv_istore (lv' := [(5, .int v2), (0, .ref (ad 3)), (1, .int x1), (2, .int x2), (3, .ref (ad 22)), (4, .ref (ad 21))]) hx hb d_O_weigh_59 hl (by decide) rfl (fun ls hl => ?_)
      rw [hG61] at h
      exact h _ _ _ hP hS (lv_sub hl [1, 2, 3, 4, 5, 0] rfl)
    · have h := h.2 cn
      refine lv_aload_n hx hb d_O_weigh_21 rfl (lv_at hl 0 rfl) ?_
      refine va_get (D := D) (ci := 1) (v := .ref (ad 24)) (C := RX1) (T := TX1) (N := 14) hx hb htg inG_X1 hown hK hP 3 rfl rfl 9 (by decide) (htg _ m_183) (fun _ h9 => h9) rfl d_O_weigh_22 ?_
      refine lv_aload_n hx hb d_O_weigh_25 rfl (lv_at hl 0 rfl) ?_
      refine va_get (D := D) (ci := 1) (v := .ref (ad 18)) (C := RX1) (T := TX1) (N := 14) hx hb htg inG_X1 hown hK hP 3 rfl rfl 3 (by decide) (htg _ m_177) (fun _ h9 => h9) rfl d_O_weigh_26 ?_
      refine lv_iload hx hb d_O_weigh_29 (lv_at hl 5 rfl) ?_
      have hi := h.1
      have h := h.2
      refine va_iald hx hb hK hP 18 0 rfl rfl hi d_O_weigh_31 ?_
      refine lv_iconst (v := 0) hx hb d_O_weigh_32 (by decide) ?_
      have hi := h.1
      have h := h.2
      refine va_iast hx hb hK hP (hD _) hS 24 0 rfl rfl hi d_O_weigh_33 (fun H locs hP _ hS => ?_)
      obtain ⟨σ3, eσ3⟩ : ∃ z : S0, z = st σ 24 (σ 18 x5.toNatClampNeg).toNatClampNeg 0 := ⟨_, rfl⟩
      have hP : va_P D vwCl (wC ad cA cB σ3) H := by rw [eσ3]; exact hP
      have h := h σ3 eσ3
      refine lv_aload_n hx hb d_O_weigh_34 rfl (lv_at hl 0 rfl) ?_
      refine va_get (D := D) (ci := 1) (v := .ref (ad 25)) (C := RX1) (T := TX1) (N := 14) hx hb htg inG_X1 hown hK hP 3 rfl rfl 10 (by decide) (htg _ m_184) (fun _ h9 => h9) rfl d_O_weigh_35 ?_
      refine lv_aload_n hx hb d_O_weigh_38 rfl (lv_at hl 0 rfl) ?_
      refine va_get (D := D) (ci := 1) (v := .ref (ad 18)) (C := RX1) (T := TX1) (N := 14) hx hb htg inG_X1 hown hK hP 3 rfl rfl 3 (by decide) (htg _ m_177) (fun _ h9 => h9) rfl d_O_weigh_39 ?_
      refine lv_iload hx hb d_O_weigh_42 (lv_at hl 5 rfl) ?_
      have hi := h.1
      have h := h.2
      refine va_iald hx hb hK hP 18 0 rfl rfl hi d_O_weigh_44 ?_
      refine lv_iconst (v := 0) hx hb d_O_weigh_45 (by decide) ?_
      have hi := h.1
      have h := h.2
      refine va_iast hx hb hK hP (hD _) hS 25 0 rfl rfl hi d_O_weigh_46 (fun H locs hP _ hS => ?_)
      obtain ⟨σ4, eσ4⟩ : ∃ z : S0, z = st σ3 25 (σ3 18 x5.toNatClampNeg).toNatClampNeg 0 := ⟨_, rfl⟩
      have hP : va_P D vwCl (wC ad cA cB σ4) H := by rw [eσ4]; exact hP
      have h := h σ4 eσ4
      refine lv_iinc (v := (x5 + 1)) (lv' := [(5, .int (x5 + 1)), (0, .ref (ad 3)), (1, .int x1), (2, .int x2), (3, .ref (ad 22)), (4, .ref (ad 21))]) hx hb d_O_weigh_47 hl (k := 5) rfl rfl (by decide) rfl (fun ls hl => ?_)
      refine lv_goto (tgt := 8) hx hb d_O_weigh_50 (by decide) ?_
      rw [hG8] at h
      exact h _ _ _ hP hS (lv_sub hl [1, 2, 3, 4, 5, 0] rfl))
  have h := h (by
    intro x1 x2 x5 σ h
    rw [hG61]
    intro H locs ls hP hS hl
    refine lv_iload hx hb d_O_weigh_61 (lv_at hl 5 rfl) ?_
    refine lv_aload_n hx hb d_O_weigh_63 rfl (lv_at hl 0 rfl) ?_
    refine va_get (D := D) (ci := 1) (v := .ref (ad 23)) (C := RX1) (T := TX1) (N := 14) hx hb htg inG_X1 hown hK hP 3 rfl rfl 8 (by decide) (htg _ m_182) (fun _ h9 => h9) rfl d_O_weigh_64 ?_
    refine lv_iload_n hx hb d_O_weigh_67 rfl (lv_at hl 2 rfl) ?_
    refine lv_iconst (v := 1) hx hb d_O_weigh_68 (by decide) ?_
    refine lv_iadd hx hb d_O_weigh_69 ?_
    have hi := h.1
    have h := h.2
    refine va_iald hx hb hK hP 23 0 rfl rfl hi d_O_weigh_70 ?_
    refine lv_icmp_ge (tgt := 115) hx hb d_O_weigh_71 (by decide) (fun cn => ?_) (fun cn => ?_)
    · have h := h.1 cn
      refine lv_aload_n hx hb d_O_weigh_115 rfl (lv_at hl 0 rfl) ?_
      refine va_get (D := D) (ci := 1) (v := .ref (ad 20)) (C := RX1) (T := TX1) (N := 14) hx hb htg inG_X1 hown hK hP 3 rfl rfl 5 (by decide) (htg _ m_179) (fun _ h9 => h9) rfl d_O_weigh_116 ?_
      refine lv_iload_n hx hb d_O_weigh_119 rfl (lv_at hl 1 rfl) ?_
      have hi := h.1
      have h := h.2
      refine va_iald hx hb hK hP 20 0 rfl rfl hi d_O_weigh_120 ?_
      refine lv_topi (fun v5 ev5 => ?_)
      have h := h v5 ev5
      refine lv_istore (lv' := [(5, .int v5), (0, .ref (ad 3)), (1, .int x1), (2, .int x2), (3, .ref (ad 22)), (4, .ref (ad 21))]) hx hb d_O_weigh_121 hl (by decide) rfl (fun ls hl => ?_)
      rw [hG123] at h
      exact h _ _ _ hP hS (lv_sub hl [1, 2, 0] rfl)
    · have h := h.2 cn
      refine lv_aload_n hx hb d_O_weigh_74 rfl (lv_at hl 0 rfl) ?_
      refine va_get (D := D) (ci := 1) (v := .ref (ad 24)) (C := RX1) (T := TX1) (N := 14) hx hb htg inG_X1 hown hK hP 3 rfl rfl 9 (by decide) (htg _ m_183) (fun _ h9 => h9) rfl d_O_weigh_75 ?_
      refine lv_aload_n hx hb d_O_weigh_78 rfl (lv_at hl 3 rfl) ?_
      refine lv_iload hx hb d_O_weigh_79 (lv_at hl 5 rfl) ?_
      have hi := h.1
      have h := h.2
      refine va_iald hx hb hK hP 22 0 rfl rfl hi d_O_weigh_81 ?_
      refine lv_dup2_11 hx hb d_O_weigh_82 rfl rfl ?_
      have hi := h.1
      have h := h.2
      refine va_iald hx hb hK hP 24 0 rfl rfl hi d_O_weigh_83 ?_
      refine lv_aload_n hx hb d_O_weigh_84 rfl (lv_at hl 0 rfl) ?_
      refine va_get (D := D) (ci := 1) (v := .ref (ad 16)) (C := RX1) (T := TX1) (N := 14) hx hb htg inG_X1 hown hK hP 3 rfl rfl 0 (by decide) (htg _ m_171) (fun _ h9 => h9) rfl d_O_weigh_85 ?_
      refine lv_aload hx hb d_O_weigh_88 (lv_at hl 4 rfl) ?_
      refine lv_iload hx hb d_O_weigh_90 (lv_at hl 5 rfl) ?_
      have hi := h.1
      have h := h.2
      refine va_iald hx hb hK hP 21 0 rfl rfl hi d_O_weigh_92 ?_
      have hi := h.1
      have h := h.2
      refine va_iald hx hb hK hP 16 0 rfl rfl hi d_O_weigh_93 ?_
      refine lv_iadd hx hb d_O_weigh_94 ?_
      have hi := h.1
      have h := h.2
      refine va_iast hx hb hK hP (hD _) hS 24 0 rfl rfl hi d_O_weigh_95 (fun H locs hP _ hS => ?_)
      obtain ⟨σ6, eσ6⟩ : ∃ z : S0, z = st σ 24 (σ 22 x5.toNatClampNeg).toNatClampNeg ((σ 24 (σ 22 x5.toNatClampNeg).toNatClampNeg) + (σ 16 (σ 21 x5.toNatClampNeg).toNatClampNeg)) := ⟨_, rfl⟩
      have hP : va_P D vwCl (wC ad cA cB σ6) H := by rw [eσ6]; exact hP
      have h := h σ6 eσ6
      refine lv_aload_n hx hb d_O_weigh_96 rfl (lv_at hl 0 rfl) ?_
      refine va_get (D := D) (ci := 1) (v := .ref (ad 25)) (C := RX1) (T := TX1) (N := 14) hx hb htg inG_X1 hown hK hP 3 rfl rfl 10 (by decide) (htg _ m_184) (fun _ h9 => h9) rfl d_O_weigh_97 ?_
      refine lv_aload_n hx hb d_O_weigh_100 rfl (lv_at hl 3 rfl) ?_
      refine lv_iload hx hb d_O_weigh_101 (lv_at hl 5 rfl) ?_
      have hi := h.1
      have h := h.2
      refine va_iald hx hb hK hP 22 0 rfl rfl hi d_O_weigh_103 ?_
      refine lv_dup2_11 hx hb d_O_weigh_104 rfl rfl ?_
      have hi := h.1
      have h := h.2
      refine va_iald hx hb hK hP 25 0 rfl rfl hi d_O_weigh_105 ?_
      refine lv_iconst (v := 1) hx hb d_O_weigh_106 (by decide) ?_
      refine lv_iadd hx hb d_O_weigh_107 ?_
      have hi := h.1
      have h := h.2
      refine va_iast hx hb hK hP (hD _) hS 25 0 rfl rfl hi d_O_weigh_108 (fun H locs hP _ hS => ?_)
      obtain ⟨σ7, eσ7⟩ : ∃ z : S0, z = st σ6 25 (σ6 22 x5.toNatClampNeg).toNatClampNeg ((σ6 25 (σ6 22 x5.toNatClampNeg).toNatClampNeg) + 1) := ⟨_, rfl⟩
      have hP : va_P D vwCl (wC ad cA cB σ7) H := by rw [eσ7]; exact hP
      have h := h σ7 eσ7
      refine lv_iinc (v := (x5 + 1)) (lv' := [(5, .int (x5 + 1)), (0, .ref (ad 3)), (1, .int x1), (2, .int x2), (3, .ref (ad 22)), (4, .ref (ad 21))]) hx hb d_O_weigh_109 hl (k := 5) rfl rfl (by decide) rfl (fun ls hl => ?_)
      refine lv_goto (tgt := 61) hx hb d_O_weigh_112 (by decide) ?_
      rw [hG61] at h
      exact h _ _ _ hP hS (lv_sub hl [1, 2, 3, 4, 5, 0] rfl))
  have h := h (by
    intro x1 x5 σ h
    rw [hG123]
    intro H locs ls hP hS hl
    refine lv_iload hx hb d_O_weigh_123 (lv_at hl 2 rfl) ?_
    refine lv_aload_n hx hb d_O_weigh_125 rfl (lv_at hl 0 rfl) ?_
    refine va_get (D := D) (ci := 1) (v := .ref (ad 20)) (C := RX1) (T := TX1) (N := 14) hx hb htg inG_X1 hown hK hP 3 rfl rfl 5 (by decide) (htg _ m_179) (fun _ h9 => h9) rfl d_O_weigh_126 ?_
    refine lv_iload_n hx hb d_O_weigh_129 rfl (lv_at hl 1 rfl) ?_
    refine lv_iconst (v := 1) hx hb d_O_weigh_130 (by decide) ?_
    refine lv_iadd hx hb d_O_weigh_131 ?_
    have hi := h.1
    have h := h.2
    refine va_iald hx hb hK hP 20 0 rfl rfl hi d_O_weigh_132 ?_
    refine lv_icmp_ge (tgt := 194) hx hb d_O_weigh_133 (by decide) (fun cn => ?_) (fun cn => ?_)
    · have h := h.1 cn
      exact W.vret hx hb hr (fun t ht hW => ⟨⟨σ, rfl, h, kBC_of ht hP⟩, hS.F ht⟩) hS.2.2 d_O_weigh_194 hlocks
    · have h := h.2 cn
      refine lv_aload_n hx hb d_O_weigh_136 rfl (lv_at hl 0 rfl) ?_
      refine va_get (D := D) (ci := 1) (v := .ref (ad 25)) (C := RX1) (T := TX1) (N := 14) hx hb htg inG_X1 hown hK hP 3 rfl rfl 10 (by decide) (htg _ m_184) (fun _ h9 => h9) rfl d_O_weigh_137 ?_
      refine lv_aload_n hx hb d_O_weigh_140 rfl (lv_at hl 0 rfl) ?_
      refine va_get (D := D) (ci := 1) (v := .ref (ad 18)) (C := RX1) (T := TX1) (N := 14) hx hb htg inG_X1 hown hK hP 3 rfl rfl 3 (by decide) (htg _ m_177) (fun _ h9 => h9) rfl d_O_weigh_141 ?_
      refine lv_iload hx hb d_O_weigh_144 (lv_at hl 2 rfl) ?_
      have hi := h.1
      have h := h.2
      refine va_iald hx hb hK hP 18 0 rfl rfl hi d_O_weigh_146 ?_
      have hi := h.1
      have h := h.2
      refine va_iald hx hb hK hP 25 0 rfl rfl hi d_O_weigh_147 ?_
      refine lv_if_ne (tgt := 188) hx hb d_O_weigh_148 (by decide) (fun cn => ?_) (fun cn => ?_)
      · have h := h.1 cn
        refine lv_iinc (v := (x5 + 1)) (lv' := [(5, .int (x5 + 1)), (0, .ref (ad 3)), (1, .int x1)]) hx hb d_O_weigh_188 hl (k := 2) rfl rfl (by decide) rfl (fun ls hl => ?_)
        refine lv_goto (tgt := 123) hx hb d_O_weigh_191 (by decide) ?_
        rw [hG123] at h
        exact h _ _ _ hP hS (lv_sub hl [1, 2, 0] rfl)
      · have h := h.2 cn
        refine lv_aload_n hx hb d_O_weigh_151 rfl (lv_at hl 0 rfl) ?_
        refine va_get (D := D) (ci := 1) (v := .ref (ad 24)) (C := RX1) (T := TX1) (N := 14) hx hb htg inG_X1 hown hK hP 3 rfl rfl 9 (by decide) (htg _ m_183) (fun _ h9 => h9) rfl d_O_weigh_152 ?_
        refine lv_aload_n hx hb d_O_weigh_155 rfl (lv_at hl 0 rfl) ?_
        refine va_get (D := D) (ci := 1) (v := .ref (ad 18)) (C := RX1) (T := TX1) (N := 14) hx hb htg inG_X1 hown hK hP 3 rfl rfl 3 (by decide) (htg _ m_177) (fun _ h9 => h9) rfl d_O_weigh_156 ?_
        refine lv_iload hx hb d_O_weigh_159 (lv_at hl 2 rfl) ?_
        have hi := h.1
        have h := h.2
        refine va_iald hx hb hK hP 18 0 rfl rfl hi d_O_weigh_161 ?_
        refine lv_aload_n hx hb d_O_weigh_162 rfl (lv_at hl 0 rfl) ?_
        refine va_get (D := D) (ci := 1) (v := .ref (ad 16)) (C := RX1) (T := TX1) (N := 14) hx hb htg inG_X1 hown hK hP 3 rfl rfl 0 (by decide) (htg _ m_171) (fun _ h9 => h9) rfl d_O_weigh_163 ?_
        refine lv_aload_n hx hb d_O_weigh_166 rfl (lv_at hl 0 rfl) ?_
        refine va_get (D := D) (ci := 1) (v := .ref (ad 18)) (C := RX1) (T := TX1) (N := 14) hx hb htg inG_X1 hown hK hP 3 rfl rfl 3 (by decide) (htg _ m_177) (fun _ h9 => h9) rfl d_O_weigh_167 ?_
        refine lv_iload hx hb d_O_weigh_170 (lv_at hl 2 rfl) ?_
        have hi := h.1
        have h := h.2
        refine va_iald hx hb hK hP 18 0 rfl rfl hi d_O_weigh_172 ?_
        have hi := h.1
        have h := h.2
        refine va_iald hx hb hK hP 16 0 rfl rfl hi d_O_weigh_173 ?_
        have hi := h.1
        have h := h.2
        refine va_iast hx hb hK hP (hD _) hS 24 0 rfl rfl hi d_O_weigh_174 (fun H locs hP _ hS => ?_)
        obtain ⟨σ8, eσ8⟩ : ∃ z : S0, z = st σ 24 (σ 18 x5.toNatClampNeg).toNatClampNeg (σ 16 (σ 18 x5.toNatClampNeg).toNatClampNeg) := ⟨_, rfl⟩
        have hP : va_P D vwCl (wC ad cA cB σ8) H := by rw [eσ8]; exact hP
        have h := h σ8 eσ8
        refine lv_aload_n hx hb d_O_weigh_175 rfl (lv_at hl 0 rfl) ?_
        refine va_get (D := D) (ci := 1) (v := .ref (ad 25)) (C := RX1) (T := TX1) (N := 14) hx hb htg inG_X1 hown hK hP 3 rfl rfl 10 (by decide) (htg _ m_184) (fun _ h9 => h9) rfl d_O_weigh_176 ?_
        refine lv_aload_n hx hb d_O_weigh_179 rfl (lv_at hl 0 rfl) ?_
        refine va_get (D := D) (ci := 1) (v := .ref (ad 18)) (C := RX1) (T := TX1) (N := 14) hx hb htg inG_X1 hown hK hP 3 rfl rfl 3 (by decide) (htg _ m_177) (fun _ h9 => h9) rfl d_O_weigh_180 ?_
        refine lv_iload hx hb d_O_weigh_183 (lv_at hl 2 rfl) ?_
        have hi := h.1
        have h := h.2
        refine va_iald hx hb hK hP 18 0 rfl rfl hi d_O_weigh_185 ?_
        refine lv_iconst (v := 1) hx hb d_O_weigh_186 (by decide) ?_
        have hi := h.1
        have h := h.2
        refine va_iast hx hb hK hP (hD _) hS 25 0 rfl rfl hi d_O_weigh_187 (fun H locs hP _ hS => ?_)
        obtain ⟨σ9, eσ9⟩ : ∃ z : S0, z = st σ8 25 (σ8 18 x5.toNatClampNeg).toNatClampNeg 1 := ⟨_, rfl⟩
        have hP : va_P D vwCl (wC ad cA cB σ9) H := by rw [eσ9]; exact hP
        have h := h σ9 eσ9
        refine lv_iinc (v := (x5 + 1)) (lv' := [(5, .int (x5 + 1)), (0, .ref (ad 3)), (1, .int x1)]) hx hb d_O_weigh_188 hl (k := 2) rfl rfl (by decide) rfl (fun ls hl => ?_)
        refine lv_goto (tgt := 123) hx hb d_O_weigh_191 (by decide) ?_
        rw [hG123] at h
        exact h _ _ _ hP hS (lv_sub hl [1, 2, 0] rfl))
  obtain ⟨H, eH⟩ : ∃ z, z = s.heap := ⟨_, rfl⟩
  have hP : va_P D vwCl (wC ad cA cB σ) H := by rw [eH]; exact hP
  have hS : va_S (kAC ad s.heap.size) s.heap H [] := by rw [eH]; exact hS
  show W p l e (headSpec (Cond.code y_O_weigh c_O_weigh 6 none :: wsG) ({ frames := 0, cells := 0, slots := 0, locals := 0 } : Room)).room s m ([.ref (ad 3), .int a1, .int a2, .ref (ad 22), .ref (ad 21)] : List Value).toArray below meth c s.heap [] 0 0 (MQ below (va_Qv post (kBC D ad cA cB) (kAC ad s.heap.size)) ([.ref (ad 3), .int a1, .int a2, .ref (ad 22), .ref (ad 21)] : List Value).toArray s 0 0 (kAC ad s.heap.size)) (F0 m 0 ls [])
  suffices k : W p l e (headSpec (Cond.code y_O_weigh c_O_weigh 6 none :: wsG) ({ frames := 0, cells := 0, slots := 0, locals := 0 } : Room)).room s m ([.ref (ad 3), .int a1, .int a2, .ref (ad 22), .ref (ad 21)] : List Value).toArray below meth c H [] 0 0 (MQ below (va_Qv post (kBC D ad cA cB) (kAC ad s.heap.size)) ([.ref (ad 3), .int a1, .int a2, .ref (ad 22), .ref (ad 21)] : List Value).toArray s 0 0 (kAC ad s.heap.size)) (F0 m 0 ls []) by rw [eH] at k; exact k
  refine lv_aload_n hx hb d_O_weigh_0 rfl (lv_at hl 0 rfl) ?_
  refine va_get (D := D) (ci := 1) (v := .ref (ad 20)) (C := RX1) (T := TX1) (N := 14) hx hb htg inG_X1 hown hK hP 3 rfl rfl 5 (by decide) (htg _ m_179) (fun _ h9 => h9) rfl d_O_weigh_1 ?_
  refine lv_iload_n hx hb d_O_weigh_4 rfl (lv_at hl 1 rfl) ?_
  have hi := h.1
  have h := h.2
  refine va_iald hx hb hK hP 20 0 rfl rfl hi d_O_weigh_5 ?_
  refine lv_topi (fun v1 ev1 => ?_)
  have h := h v1 ev1
  refine lv_istore (lv' := [(5, .int v1), (0, .ref (ad 3)), (1, .int a1), (2, .int a2), (3, .ref (ad 22)), (4, .ref (ad 21))]) hx hb d_O_weigh_6 hl (by decide) rfl (fun ls hl => ?_)
  rw [hG8] at h
  exact h _ _ _ hP hS (lv_sub hl [1, 2, 3, 4, 5, 0] rfl)
set_option maxHeartbeats 4000000 in
set_option maxRecDepth 100000 in
theorem met_O_hasLesserKey (l : Launch) (D : va_G) (ad : Nat → Nat) (cA cB : ClassId) (hap : kapC ad) (σ : S0) (sz : Nat) (a1 a2 : Int32) (post : Int32 → S0 → Prop) (h : Sp_O_hasLesserKey a1 a2 σ post) : Met l y_O_hasLesserKey (Cond.code y_O_hasLesserKey c_O_hasLesserKey 3 (some .boolean) :: wsG) ({ frames := 0, cells := 0, slots := 0, locals := 0 } : Room) (kPcC D ad cA cB σ sz [.ref (ad 3), .int a1, .int a2]) (va_Qi post (kBC D ad cA cB) (kAC ad sz)) 0 0 (kAC ad sz) := by
  refine Met.ofW (cc := c_O_hasLesserKey) (maxL := 3) (ret := (some .boolean)) (by decide) rfl ?_
  intro p e s m args below meth c s₁ B hml hv
  obtain ⟨rfl, hsz, hP, hK, hF⟩ := hv
  have hx := B.exec
  have hb := B.bytes
  have hr := B.returns
  have hts := atoms_spec (ws := (Cond.code y_O_hasLesserKey c_O_hasLesserKey 3 (some .boolean) :: wsG)) B.pre
  have htg : ∀ w ∈ wsG, w.before ([.ref (ad 3), .int a1, .int a2] : List Value).toArray s = true := fun w h => hts w (List.mem_cons_of_mem _ h)
  have hown : s.vm.findClass RX1 = some m.cls := findClass_of_methodNamed B.named
  have hlocks := B.notSynchronized
  subst hsz
  have hD : ∀ σ, va_D (kAC ad s.heap.size) (wC ad cA cB σ) := fun σ => wC_D hap cA cB σ _
  have hS : va_S (kAC ad s.heap.size) s.heap s.heap [] := va_S.rf
  have hE := hF.1
  have hl := lv_entry ([.ref (ad 3), .int a1, .int a2]) (n := 3) (Nat.le_of_ble_eq_true rfl)
  rw [lg_entry_eq]
  generalize (lg_sl ([.ref (ad 3), .int a1, .int a2]) ++ List.replicate (3 - (lg_sl ([.ref (ad 3), .int a1, .int a2])).length) Slot.unset).toArray = ls at hl ⊢
  have hl : lv_has ls 3 [(0, .ref (ad 3)), (1, .int a1), (2, .int a2)] := hl
  unfold Sp_O_hasLesserKey at h
  obtain ⟨H, eH⟩ : ∃ z, z = s.heap := ⟨_, rfl⟩
  have hP : va_P D vwCl (wC ad cA cB σ) H := by rw [eH]; exact hP
  have hS : va_S (kAC ad s.heap.size) s.heap H [] := by rw [eH]; exact hS
  show W p l e (headSpec (Cond.code y_O_hasLesserKey c_O_hasLesserKey 3 (some .boolean) :: wsG) ({ frames := 0, cells := 0, slots := 0, locals := 0 } : Room)).room s m ([.ref (ad 3), .int a1, .int a2] : List Value).toArray below meth c s.heap [] 0 0 (MQ below (va_Qi post (kBC D ad cA cB) (kAC ad s.heap.size)) ([.ref (ad 3), .int a1, .int a2] : List Value).toArray s 0 0 (kAC ad s.heap.size)) (F0 m 0 ls [])
  suffices k : W p l e (headSpec (Cond.code y_O_hasLesserKey c_O_hasLesserKey 3 (some .boolean) :: wsG) ({ frames := 0, cells := 0, slots := 0, locals := 0 } : Room)).room s m ([.ref (ad 3), .int a1, .int a2] : List Value).toArray below meth c H [] 0 0 (MQ below (va_Qi post (kBC D ad cA cB) (kAC ad s.heap.size)) ([.ref (ad 3), .int a1, .int a2] : List Value).toArray s 0 0 (kAC ad s.heap.size)) (F0 m 0 ls []) by rw [eH] at k; exact k
  refine lv_aload_n hx hb d_O_hasLesserKey_0 rfl (lv_at hl 0 rfl) ?_
  refine va_get (D := D) (ci := 1) (v := .ref (ad 24)) (C := RX1) (T := TX1) (N := 14) hx hb htg inG_X1 hown hK hP 3 rfl rfl 9 (by decide) (htg _ m_183) (fun _ h9 => h9) rfl d_O_hasLesserKey_1 ?_
  refine lv_iload_n hx hb d_O_hasLesserKey_4 rfl (lv_at hl 1 rfl) ?_
  have hi := h.1
  have h := h.2
  refine va_iald hx hb hK hP 24 0 rfl rfl hi d_O_hasLesserKey_5 ?_
  refine lv_aload_n hx hb d_O_hasLesserKey_6 rfl (lv_at hl 0 rfl) ?_
  refine va_get (D := D) (ci := 1) (v := .ref (ad 25)) (C := RX1) (T := TX1) (N := 14) hx hb htg inG_X1 hown hK hP 3 rfl rfl 10 (by decide) (htg _ m_184) (fun _ h9 => h9) rfl d_O_hasLesserKey_7 ?_
  refine lv_iload_n hx hb d_O_hasLesserKey_10 rfl (lv_at hl 2 rfl) ?_
  have hi := h.1
  have h := h.2
  refine va_iald hx hb hK hP 25 0 rfl rfl hi d_O_hasLesserKey_11 ?_
  refine lv_imul hx hb d_O_hasLesserKey_12 ?_
  refine lv_aload_n hx hb d_O_hasLesserKey_13 rfl (lv_at hl 0 rfl) ?_
  refine va_get (D := D) (ci := 1) (v := .ref (ad 24)) (C := RX1) (T := TX1) (N := 14) hx hb htg inG_X1 hown hK hP 3 rfl rfl 9 (by decide) (htg _ m_183) (fun _ h9 => h9) rfl d_O_hasLesserKey_14 ?_
  refine lv_iload_n hx hb d_O_hasLesserKey_17 rfl (lv_at hl 2 rfl) ?_
  have hi := h.1
  have h := h.2
  refine va_iald hx hb hK hP 24 0 rfl rfl hi d_O_hasLesserKey_18 ?_
  refine lv_aload_n hx hb d_O_hasLesserKey_19 rfl (lv_at hl 0 rfl) ?_
  refine va_get (D := D) (ci := 1) (v := .ref (ad 25)) (C := RX1) (T := TX1) (N := 14) hx hb htg inG_X1 hown hK hP 3 rfl rfl 10 (by decide) (htg _ m_184) (fun _ h9 => h9) rfl d_O_hasLesserKey_20 ?_
  refine lv_iload_n hx hb d_O_hasLesserKey_23 rfl (lv_at hl 1 rfl) ?_
  have hi := h.1
  have h := h.2
  refine va_iald hx hb hK hP 25 0 rfl rfl hi d_O_hasLesserKey_24 ?_
  refine lv_imul hx hb d_O_hasLesserKey_25 ?_
  refine lv_icmp_ge (tgt := 33) hx hb d_O_hasLesserKey_26 (by decide) (fun cn => ?_) (fun cn => ?_)
  · have h := h.1 cn
    refine lv_iconst (v := 0) hx hb d_O_hasLesserKey_33 (by decide) ?_
    exact W.zret (v := 0) hx hb hr rfl (fun t ht hW => ⟨⟨_, σ, rfl, h, kBC_of ht hP⟩, hS.F ht⟩) hS.2.2 d_O_hasLesserKey_34 hlocks
  · have h := h.2 cn
    refine lv_iconst (v := 1) hx hb d_O_hasLesserKey_29 (by decide) ?_
    refine lv_goto (tgt := 34) hx hb d_O_hasLesserKey_30 (by decide) ?_
    exact W.zret (v := 1) hx hb hr rfl (fun t ht hW => ⟨⟨_, σ, rfl, h, kBC_of ht hP⟩, hS.F ht⟩) hS.2.2 d_O_hasLesserKey_34 hlocks
set_option maxHeartbeats 4000000 in
set_option maxRecDepth 100000 in
theorem met_O_sort (l : Launch) (D : va_G) (ad : Nat → Nat) (cA cB : ClassId) (hap : kapC ad) (σ : S0) (sz : Nat) (a1 a2 : Int32) (post : S0 → Prop) (h : Sp_O_sort a1 a2 σ post) : Met l y_O_sort (Cond.code y_O_sort c_O_sort 6 none :: wsG) ({ frames := 1, cells := 0, slots := 0, locals := 22 } : Room) (kPcC D ad cA cB σ sz [.ref (ad 3), .int a1, .int a2]) (va_Qv post (kBC D ad cA cB) (kAC ad sz)) 0 0 (kAC ad sz) := by
  refine Met.ofW (cc := c_O_sort) (maxL := 6) (ret := none) (by decide) rfl ?_
  intro p e s m args below meth c s₁ B hml hv
  obtain ⟨rfl, hsz, hP, hK, hF⟩ := hv
  have hx := B.exec
  have hb := B.bytes
  have hr := B.returns
  have hts := atoms_spec (ws := (Cond.code y_O_sort c_O_sort 6 none :: wsG)) B.pre
  have htg : ∀ w ∈ wsG, w.before ([.ref (ad 3), .int a1, .int a2] : List Value).toArray s = true := fun w h => hts w (List.mem_cons_of_mem _ h)
  have hown : s.vm.findClass RX1 = some m.cls := findClass_of_methodNamed B.named
  have hlocks := B.notSynchronized
  subst hsz
  have hD : ∀ σ, va_D (kAC ad s.heap.size) (wC ad cA cB σ) := fun σ => wC_D hap cA cB σ _
  have hS : va_S (kAC ad s.heap.size) s.heap s.heap [] := va_S.rf
  have hE := hF.1
  have hl := lv_entry ([.ref (ad 3), .int a1, .int a2]) (n := 6) (Nat.le_of_ble_eq_true rfl)
  rw [lg_entry_eq]
  generalize (lg_sl ([.ref (ad 3), .int a1, .int a2]) ++ List.replicate (6 - (lg_sl ([.ref (ad 3), .int a1, .int a2])).length) Slot.unset).toArray = ls at hl ⊢
  have hl : lv_has ls 6 [(0, .ref (ad 3)), (1, .int a1), (2, .int a2)] := hl
  unfold Sp_O_sort at h
  obtain ⟨G4, hG4⟩ : ∃ G : Int32 → Int32 → Int32 → S0 → Prop, G = fun (x1 x2 x3 : Int32) (σ : S0) => ∀ (H : Heap) (locs : List Loc) (ls : Array Slot), va_P D vwCl (wC ad cA cB σ) H → va_S (kAC ad s.heap.size) s.heap H locs → lv_has ls 6 [(0, .ref (ad 3)), (1, .int x1), (2, .int x2), (3, .int x3)] → W p l e (headSpec (Cond.code y_O_sort c_O_sort 6 none :: wsG) ({ frames := 1, cells := 0, slots := 0, locals := 22 } : Room)).room s m ([.ref (ad 3), .int a1, .int a2] : List Value).toArray below meth c H locs 0 0 (MQ below (va_Qv post (kBC D ad cA cB) (kAC ad s.heap.size)) ([.ref (ad 3), .int a1, .int a2] : List Value).toArray s 0 0 (kAC ad s.heap.size)) (F0 m 4 ls []) := ⟨_, rfl⟩
  obtain ⟨G20, hG20⟩ : ∃ G : Int32 → Int32 → Int32 → Int32 → Int32 → S0 → Prop, G = fun (x1 x2 x3 x4 x5 : Int32) (σ : S0) => ∀ (H : Heap) (locs : List Loc) (ls : Array Slot), va_P D vwCl (wC ad cA cB σ) H → va_S (kAC ad s.heap.size) s.heap H locs → lv_has ls 6 [(0, .ref (ad 3)), (1, .int x1), (2, .int x2), (3, .int x3), (4, .int x4), (5, .int x5)] → W p l e (headSpec (Cond.code y_O_sort c_O_sort 6 none :: wsG) ({ frames := 1, cells := 0, slots := 0, locals := 22 } : Room)).room s m ([.ref (ad 3), .int a1, .int a2] : List Value).toArray below meth c H locs 0 0 (MQ below (va_Qv post (kBC D ad cA cB) (kAC ad s.heap.size)) ([.ref (ad 3), .int a1, .int a2] : List Value).toArray s 0 0 (kAC ad s.heap.size)) (F0 m 20 ls []) := ⟨_, rfl⟩
  obtain ⟨G66, hG66⟩ : ∃ G : Int32 → Int32 → Int32 → Int32 → Int32 → S0 → Prop, G = fun (x1 x2 x3 x4 x5 : Int32) (σ : S0) => ∀ (H : Heap) (locs : List Loc) (ls : Array Slot), va_P D vwCl (wC ad cA cB σ) H → va_S (kAC ad s.heap.size) s.heap H locs → lv_has ls 6 [(0, .ref (ad 3)), (1, .int x1), (2, .int x2), (3, .int x3), (4, .int x4), (5, .int x5)] → W p l e (headSpec (Cond.code y_O_sort c_O_sort 6 none :: wsG) ({ frames := 1, cells := 0, slots := 0, locals := 22 } : Room)).room s m ([.ref (ad 3), .int a1, .int a2] : List Value).toArray below meth c H locs 0 0 (MQ below (va_Qv post (kBC D ad cA cB) (kAC ad s.heap.size)) ([.ref (ad 3), .int a1, .int a2] : List Value).toArray s 0 0 (kAC ad s.heap.size)) (F0 m 66 ls []) := ⟨_, rfl⟩
  have h := h G4 G20 G66
  have h := h (by
    intro x1 x2 x3 σ h
    rw [hG4]
    intro H locs ls hP hS hl
    refine lv_iload_n hx hb d_O_sort_4 rfl (lv_at hl 3 rfl) ?_
    refine lv_iload_n hx hb d_O_sort_5 rfl (lv_at hl 2 rfl) ?_
    refine lv_icmp_ge (tgt := 81) hx hb d_O_sort_6 (by decide) (fun cn => ?_) (fun cn => ?_)
    · have h := h.1 cn
      exact W.vret hx hb hr (fun t ht hW => ⟨⟨σ, rfl, h, kBC_of ht hP⟩, hS.F ht⟩) hS.2.2 d_O_sort_81 hlocks
    · have h := h.2 cn
      refine lv_aload_n hx hb d_O_sort_9 rfl (lv_at hl 0 rfl) ?_
      refine va_get (D := D) (ci := 1) (v := .ref (ad 18)) (C := RX1) (T := TX1) (N := 14) hx hb htg inG_X1 hown hK hP 3 rfl rfl 3 (by decide) (htg _ m_177) (fun _ h9 => h9) rfl d_O_sort_10 ?_
      refine lv_iload_n hx hb d_O_sort_13 rfl (lv_at hl 3 rfl) ?_
      have hi := h.1
      have h := h.2
      refine va_iald hx hb hK hP 18 0 rfl rfl hi d_O_sort_14 ?_
      refine lv_topi (fun v2 ev2 => ?_)
      have h := h v2 ev2
      refine lv_istore (lv' := [(4, .int v2), (0, .ref (ad 3)), (1, .int x1), (2, .int x2), (3, .int x3)]) hx hb d_O_sort_15 hl (by decide) rfl (fun ls hl => ?_)
      refine lv_iload_n hx hb d_O_sort_17 rfl (lv_at hl 4 rfl) ?_
      refine lv_istore (lv' := [(5, .int x3), (4, .int v2), (0, .ref (ad 3)), (1, .int x1), (2, .int x2), (3, .int x3)]) hx hb d_O_sort_18 hl (by decide) rfl (fun ls hl => ?_)
      rw [hG20] at h
      exact h _ _ _ hP hS (lv_sub hl [2, 3, 4, 5, 1, 0] rfl))
  have h := h (by
    intro x1 x2 x3 x4 x5 σ h
    rw [hG20]
    intro H locs ls hP hS hl
    refine lv_iload hx hb d_O_sort_20 (lv_at hl 5 rfl) ?_
    refine lv_iload_n hx hb d_O_sort_22 rfl (lv_at hl 1 rfl) ?_
    refine lv_icmp_le (tgt := 66) hx hb d_O_sort_23 (by decide) (fun cn => ?_) (fun cn => ?_)
    · have h := h.1 cn
      rw [hG66] at h
      exact h _ _ _ hP hS (lv_sub hl [0, 1, 2, 3, 4, 5] rfl)
    · have h := h.2 cn
      refine lv_aload_n hx hb d_O_sort_26 rfl (lv_at hl 0 rfl) ?_
      refine lv_iload hx hb d_O_sort_27 (lv_at hl 4 rfl) ?_
      refine lv_aload_n hx hb d_O_sort_29 rfl (lv_at hl 0 rfl) ?_
      refine va_get (D := D) (ci := 1) (v := .ref (ad 18)) (C := RX1) (T := TX1) (N := 14) hx hb htg inG_X1 hown hK hP 3 rfl rfl 3 (by decide) (htg _ m_177) (fun _ h9 => h9) rfl d_O_sort_30 ?_
      refine lv_iload hx hb d_O_sort_33 (lv_at hl 5 rfl) ?_
      refine lv_iconst (v := 1) hx hb d_O_sort_35 (by decide) ?_
      refine lv_isub hx hb d_O_sort_36 ?_
      have hi := h.1
      have h := h.2
      refine va_iald hx hb hK hP 18 0 rfl rfl hi d_O_sort_37 ?_
      refine kC_i (va_runV (As := [.int x4, .int (σ 18 (x5 - 1).toNatClampNeg)]) (rest := []) ⟨hx, hb, hml, hown, htg⟩ (met_O_hasLesserKey l D ad cA cB hap σ H.size x4 (σ 18 (x5 - 1).toNatClampNeg) _ h) (cwV 2 htg (kG (kG_V m_516 m_518 m_20 m_56 (kG_self m_519))) rfl rfl rfl (by decide +kernel) ⟨Nat.le_of_ble_eq_true rfl, Nat.le_of_ble_eq_true rfl⟩) (kC_preV hK hF hP hS 3 rfl rfl _) rfl rfl hl.1 rfl (lv_room (Nat.le_of_ble_eq_true rfl)) d_O_sort_38 ⟨Nat.le_of_ble_eq_true rfl, Nat.le_of_ble_eq_true rfl⟩) hS (fun r4 σ3 H locs h hP hS => ?_)
      refine lv_if_eq (tgt := 66) hx hb d_O_sort_41 (by decide) (fun cn => ?_) (fun cn => ?_)
      · have h := h.1 cn
        rw [hG66] at h
        exact h _ _ _ hP hS (lv_sub hl [0, 1, 2, 3, 4, 5] rfl)
      · have h := h.2 cn
        refine lv_aload_n hx hb d_O_sort_44 rfl (lv_at hl 0 rfl) ?_
        refine va_get (D := D) (ci := 1) (v := .ref (ad 18)) (C := RX1) (T := TX1) (N := 14) hx hb htg inG_X1 hown hK hP 3 rfl rfl 3 (by decide) (htg _ m_177) (fun _ h9 => h9) rfl d_O_sort_45 ?_
        refine lv_iload hx hb d_O_sort_48 (lv_at hl 5 rfl) ?_
        refine lv_aload_n hx hb d_O_sort_50 rfl (lv_at hl 0 rfl) ?_
        refine va_get (D := D) (ci := 1) (v := .ref (ad 18)) (C := RX1) (T := TX1) (N := 14) hx hb htg inG_X1 hown hK hP 3 rfl rfl 3 (by decide) (htg _ m_177) (fun _ h9 => h9) rfl d_O_sort_51 ?_
        refine lv_iload hx hb d_O_sort_54 (lv_at hl 5 rfl) ?_
        refine lv_iconst (v := 1) hx hb d_O_sort_56 (by decide) ?_
        refine lv_isub hx hb d_O_sort_57 ?_
        have hi := h.1
        have h := h.2
        refine va_iald hx hb hK hP 18 0 rfl rfl hi d_O_sort_58 ?_
        have hi := h.1
        have h := h.2
        refine va_iast hx hb hK hP (hD _) hS 18 0 rfl rfl hi d_O_sort_59 (fun H locs hP _ hS => ?_)
        obtain ⟨σ5, eσ5⟩ : ∃ z : S0, z = st σ3 18 x5.toNatClampNeg (σ3 18 (x5 - 1).toNatClampNeg) := ⟨_, rfl⟩
        have hP : va_P D vwCl (wC ad cA cB σ5) H := by rw [eσ5]; exact hP
        have h := h σ5 eσ5
        refine lv_iinc (v := (x5 + (-1))) (lv' := [(5, .int (x5 + (-1))), (0, .ref (ad 3)), (1, .int x1), (2, .int x2), (3, .int x3), (4, .int x4)]) hx hb d_O_sort_60 hl (k := 5) rfl rfl (by decide) rfl (fun ls hl => ?_)
        refine lv_goto (tgt := 20) hx hb d_O_sort_63 (by decide) ?_
        rw [hG20] at h
        exact h _ _ _ hP hS (lv_sub hl [1, 2, 3, 4, 5, 0] rfl))
  have h := h (by
    intro x1 x2 x3 x4 x5 σ h
    rw [hG66]
    intro H locs ls hP hS hl
    refine lv_aload_n hx hb d_O_sort_66 rfl (lv_at hl 0 rfl) ?_
    refine va_get (D := D) (ci := 1) (v := .ref (ad 18)) (C := RX1) (T := TX1) (N := 14) hx hb htg inG_X1 hown hK hP 3 rfl rfl 3 (by decide) (htg _ m_177) (fun _ h9 => h9) rfl d_O_sort_67 ?_
    refine lv_iload hx hb d_O_sort_70 (lv_at hl 5 rfl) ?_
    refine lv_iload hx hb d_O_sort_72 (lv_at hl 4 rfl) ?_
    have hi := h.1
    have h := h.2
    refine va_iast hx hb hK hP (hD _) hS 18 0 rfl rfl hi d_O_sort_74 (fun H locs hP _ hS => ?_)
    obtain ⟨σ6, eσ6⟩ : ∃ z : S0, z = st σ 18 x5.toNatClampNeg x4 := ⟨_, rfl⟩
    have hP : va_P D vwCl (wC ad cA cB σ6) H := by rw [eσ6]; exact hP
    have h := h σ6 eσ6
    refine lv_iinc (v := (x3 + 1)) (lv' := [(3, .int (x3 + 1)), (0, .ref (ad 3)), (1, .int x1), (2, .int x2), (4, .int x4), (5, .int x5)]) hx hb d_O_sort_75 hl (k := 3) rfl rfl (by decide) rfl (fun ls hl => ?_)
    refine lv_goto (tgt := 4) hx hb d_O_sort_78 (by decide) ?_
    rw [hG4] at h
    exact h _ _ _ hP hS (lv_sub hl [1, 2, 3, 0] rfl))
  obtain ⟨H, eH⟩ : ∃ z, z = s.heap := ⟨_, rfl⟩
  have hP : va_P D vwCl (wC ad cA cB σ) H := by rw [eH]; exact hP
  have hS : va_S (kAC ad s.heap.size) s.heap H [] := by rw [eH]; exact hS
  show W p l e (headSpec (Cond.code y_O_sort c_O_sort 6 none :: wsG) ({ frames := 1, cells := 0, slots := 0, locals := 22 } : Room)).room s m ([.ref (ad 3), .int a1, .int a2] : List Value).toArray below meth c s.heap [] 0 0 (MQ below (va_Qv post (kBC D ad cA cB) (kAC ad s.heap.size)) ([.ref (ad 3), .int a1, .int a2] : List Value).toArray s 0 0 (kAC ad s.heap.size)) (F0 m 0 ls [])
  suffices k : W p l e (headSpec (Cond.code y_O_sort c_O_sort 6 none :: wsG) ({ frames := 1, cells := 0, slots := 0, locals := 22 } : Room)).room s m ([.ref (ad 3), .int a1, .int a2] : List Value).toArray below meth c H [] 0 0 (MQ below (va_Qv post (kBC D ad cA cB) (kAC ad s.heap.size)) ([.ref (ad 3), .int a1, .int a2] : List Value).toArray s 0 0 (kAC ad s.heap.size)) (F0 m 0 ls []) by rw [eH] at k; exact k
  refine lv_iload_n hx hb d_O_sort_0 rfl (lv_at hl 1 rfl) ?_
  refine lv_iconst (v := 1) hx hb d_O_sort_1 (by decide) ?_
  refine lv_iadd hx hb d_O_sort_2 ?_
  refine lv_topi (fun v1 ev1 => ?_)
  have h := h v1 ev1
  refine lv_istore_n (lv' := [(3, .int v1), (0, .ref (ad 3)), (1, .int a1), (2, .int a2)]) hx hb d_O_sort_3 rfl hl (by decide) rfl (fun ls hl => ?_)
  rw [hG4] at h
  exact h _ _ _ hP hS (lv_sub hl [1, 2, 3, 0] rfl)
set_option maxHeartbeats 4000000 in
set_option maxRecDepth 100000 in
theorem met_O_arrange_22_21 (l : Launch) (D : va_G) (ad : Nat → Nat) (cA cB : ClassId) (hap : kapC ad) (σ : S0) (sz : Nat) (a1 a2 : Int32) (post : S0 → Prop) (h : Sp_O_arrange_22_21 a1 a2 σ post) : Met l y_O_arrange (Cond.code y_O_arrange c_O_arrange 5 none :: wsG) ({ frames := 2, cells := 0, slots := 0, locals := 47 } : Room) (kPcC D ad cA cB σ sz [.ref (ad 3), .int a1, .int a2, .ref (ad 22), .ref (ad 21)]) (va_Qv post (kBC D ad cA cB) (kAC ad sz)) 0 0 (kAC ad sz) := by
  refine Met.ofW (cc := c_O_arrange) (maxL := 5) (ret := none) (by decide) rfl ?_
  intro p e s m args below meth c s₁ B hml hv
  obtain ⟨rfl, hsz, hP, hK, hF⟩ := hv
  have hx := B.exec
  have hb := B.bytes
  have hr := B.returns
  have hts := atoms_spec (ws := (Cond.code y_O_arrange c_O_arrange 5 none :: wsG)) B.pre
  have htg : ∀ w ∈ wsG, w.before ([.ref (ad 3), .int a1, .int a2, .ref (ad 22), .ref (ad 21)] : List Value).toArray s = true := fun w h => hts w (List.mem_cons_of_mem _ h)
  have hown : s.vm.findClass RX1 = some m.cls := findClass_of_methodNamed B.named
  have hlocks := B.notSynchronized
  subst hsz
  have hD : ∀ σ, va_D (kAC ad s.heap.size) (wC ad cA cB σ) := fun σ => wC_D hap cA cB σ _
  have hS : va_S (kAC ad s.heap.size) s.heap s.heap [] := va_S.rf
  have hE := hF.1
  have hl := lv_entry ([.ref (ad 3), .int a1, .int a2, .ref (ad 22), .ref (ad 21)]) (n := 5) (Nat.le_of_ble_eq_true rfl)
  rw [lg_entry_eq]
  generalize (lg_sl ([.ref (ad 3), .int a1, .int a2, .ref (ad 22), .ref (ad 21)]) ++ List.replicate (5 - (lg_sl ([.ref (ad 3), .int a1, .int a2, .ref (ad 22), .ref (ad 21)])).length) Slot.unset).toArray = ls at hl ⊢
  have hl : lv_has ls 5 [(0, .ref (ad 3)), (1, .int a1), (2, .int a2), (3, .ref (ad 22)), (4, .ref (ad 21))] := hl
  unfold Sp_O_arrange_22_21 at h
  obtain ⟨H, eH⟩ : ∃ z, z = s.heap := ⟨_, rfl⟩
  have hP : va_P D vwCl (wC ad cA cB σ) H := by rw [eH]; exact hP
  have hS : va_S (kAC ad s.heap.size) s.heap H [] := by rw [eH]; exact hS
  show W p l e (headSpec (Cond.code y_O_arrange c_O_arrange 5 none :: wsG) ({ frames := 2, cells := 0, slots := 0, locals := 47 } : Room)).room s m ([.ref (ad 3), .int a1, .int a2, .ref (ad 22), .ref (ad 21)] : List Value).toArray below meth c s.heap [] 0 0 (MQ below (va_Qv post (kBC D ad cA cB) (kAC ad s.heap.size)) ([.ref (ad 3), .int a1, .int a2, .ref (ad 22), .ref (ad 21)] : List Value).toArray s 0 0 (kAC ad s.heap.size)) (F0 m 0 ls [])
  suffices k : W p l e (headSpec (Cond.code y_O_arrange c_O_arrange 5 none :: wsG) ({ frames := 2, cells := 0, slots := 0, locals := 47 } : Room)).room s m ([.ref (ad 3), .int a1, .int a2, .ref (ad 22), .ref (ad 21)] : List Value).toArray below meth c H [] 0 0 (MQ below (va_Qv post (kBC D ad cA cB) (kAC ad s.heap.size)) ([.ref (ad 3), .int a1, .int a2, .ref (ad 22), .ref (ad 21)] : List Value).toArray s 0 0 (kAC ad s.heap.size)) (F0 m 0 ls []) by rw [eH] at k; exact k
  refine lv_aload_n hx hb d_O_arrange_0 rfl (lv_at hl 0 rfl) ?_
  refine lv_iload_n hx hb d_O_arrange_1 rfl (lv_at hl 1 rfl) ?_
  refine lv_iload_n hx hb d_O_arrange_2 rfl (lv_at hl 2 rfl) ?_
  refine lv_aload_n hx hb d_O_arrange_3 rfl (lv_at hl 3 rfl) ?_
  refine lv_aload hx hb d_O_arrange_4 (lv_at hl 4 rfl) ?_
  refine kC_v (va_runV (As := [.int a1, .int a2, .ref (ad 22), .ref (ad 21)]) (rest := []) ⟨hx, hb, hml, hown, htg⟩ (met_O_weigh_22_21 l D ad cA cB hap σ H.size a1 a2 _ h) (cwV 4 htg (kG (kG_V m_508 m_510 m_18 m_56 (kG_self m_511))) rfl rfl rfl (by decide +kernel) ⟨Nat.le_of_ble_eq_true rfl, Nat.le_of_ble_eq_true rfl⟩) (kC_preV hK hF hP hS 3 rfl rfl _) rfl rfl hl.1 rfl (lv_room (Nat.le_of_ble_eq_true rfl)) d_O_arrange_6 ⟨Nat.le_of_ble_eq_true rfl, Nat.le_of_ble_eq_true rfl⟩) hS (fun σ1 H locs h hP hS => ?_)
  refine lv_aload_n hx hb d_O_arrange_9 rfl (lv_at hl 0 rfl) ?_
  refine lv_aload_n hx hb d_O_arrange_10 rfl (lv_at hl 0 rfl) ?_
  refine va_get (D := D) (ci := 1) (v := .ref (ad 20)) (C := RX1) (T := TX1) (N := 14) hx hb htg inG_X1 hown hK hP 3 rfl rfl 5 (by decide) (htg _ m_179) (fun _ h9 => h9) rfl d_O_arrange_11 ?_
  refine lv_iload_n hx hb d_O_arrange_14 rfl (lv_at hl 1 rfl) ?_
  have hi := h.1
  have h := h.2
  refine va_iald hx hb hK hP 20 0 rfl rfl hi d_O_arrange_15 ?_
  refine lv_aload_n hx hb d_O_arrange_16 rfl (lv_at hl 0 rfl) ?_
  refine va_get (D := D) (ci := 1) (v := .ref (ad 20)) (C := RX1) (T := TX1) (N := 14) hx hb htg inG_X1 hown hK hP 3 rfl rfl 5 (by decide) (htg _ m_179) (fun _ h9 => h9) rfl d_O_arrange_17 ?_
  refine lv_iload_n hx hb d_O_arrange_20 rfl (lv_at hl 1 rfl) ?_
  refine lv_iconst (v := 1) hx hb d_O_arrange_21 (by decide) ?_
  refine lv_iadd hx hb d_O_arrange_22 ?_
  have hi := h.1
  have h := h.2
  refine va_iald hx hb hK hP 20 0 rfl rfl hi d_O_arrange_23 ?_
  refine kC_v (va_runV (As := [.int (σ1 20 a1.toNatClampNeg), .int (σ1 20 (a1 + 1).toNatClampNeg)]) (rest := []) ⟨hx, hb, hml, hown, htg⟩ (met_O_sort l D ad cA cB hap σ1 H.size (σ1 20 a1.toNatClampNeg) (σ1 20 (a1 + 1).toNatClampNeg) _ h) (cwV 2 htg (kG (kG_V m_512 m_514 m_19 m_56 (kG_self m_515))) rfl rfl rfl (by decide +kernel) ⟨Nat.le_of_ble_eq_true rfl, Nat.le_of_ble_eq_true rfl⟩) (kC_preV hK hF hP hS 3 rfl rfl _) rfl rfl hl.1 rfl (lv_room (Nat.le_of_ble_eq_true rfl)) d_O_arrange_24 ⟨Nat.le_of_ble_eq_true rfl, Nat.le_of_ble_eq_true rfl⟩) hS (fun σ2 H locs h hP hS => ?_)
  refine lv_aload_n hx hb d_O_arrange_27 rfl (lv_at hl 0 rfl) ?_
  refine lv_iload_n hx hb d_O_arrange_28 rfl (lv_at hl 1 rfl) ?_
  refine lv_aload_n hx hb d_O_arrange_29 rfl (lv_at hl 0 rfl) ?_
  refine va_get (D := D) (ci := 1) (v := .ref (ad 20)) (C := RX1) (T := TX1) (N := 14) hx hb htg inG_X1 hown hK hP 3 rfl rfl 5 (by decide) (htg _ m_179) (fun _ h9 => h9) rfl d_O_arrange_30 ?_
  refine lv_iload_n hx hb d_O_arrange_33 rfl (lv_at hl 1 rfl) ?_
  refine lv_iconst (v := 1) hx hb d_O_arrange_34 (by decide) ?_
  refine lv_iadd hx hb d_O_arrange_35 ?_
  have hi := h.1
  have h := h.2
  refine va_iald hx hb hK hP 20 0 rfl rfl hi d_O_arrange_36 ?_
  refine kC_v (va_runV (As := [.int a1, .int (σ2 20 (a1 + 1).toNatClampNeg)]) (rest := []) ⟨hx, hb, hml, hown, htg⟩ (met_O_numberPlaces l D ad cA cB hap σ2 H.size a1 (σ2 20 (a1 + 1).toNatClampNeg) _ h) (cwV 2 htg (kG (kG_V m_479 m_481 m_11 m_56 (kG_self m_482))) rfl rfl rfl (by decide +kernel) ⟨Nat.le_of_ble_eq_true rfl, Nat.le_of_ble_eq_true rfl⟩) (kC_preV hK hF hP hS 3 rfl rfl _) rfl rfl hl.1 rfl (lv_room (Nat.le_of_ble_eq_true rfl)) d_O_arrange_37 ⟨Nat.le_of_ble_eq_true rfl, Nat.le_of_ble_eq_true rfl⟩) hS (fun σ3 H locs h hP hS => ?_)
  exact W.vret hx hb hr (fun t ht hW => ⟨⟨σ3, rfl, h, kBC_of ht hP⟩, hS.F ht⟩) hS.2.2 d_O_arrange_40 hlocks
set_option maxHeartbeats 4000000 in
set_option maxRecDepth 100000 in
theorem met_O_weigh_21_22 (l : Launch) (D : va_G) (ad : Nat → Nat) (cA cB : ClassId) (hap : kapC ad) (σ : S0) (sz : Nat) (a1 a2 : Int32) (post : S0 → Prop) (h : Sp_O_weigh_21_22 a1 a2 σ post) : Met l y_O_weigh (Cond.code y_O_weigh c_O_weigh 6 none :: wsG) ({ frames := 0, cells := 0, slots := 0, locals := 0 } : Room) (kPcC D ad cA cB σ sz [.ref (ad 3), .int a1, .int a2, .ref (ad 21), .ref (ad 22)]) (va_Qv post (kBC D ad cA cB) (kAC ad sz)) 0 0 (kAC ad sz) := by
  refine Met.ofW (cc := c_O_weigh) (maxL := 6) (ret := none) (by decide) rfl ?_
  intro p e s m args below meth c s₁ B hml hv
  obtain ⟨rfl, hsz, hP, hK, hF⟩ := hv
  have hx := B.exec
  have hb := B.bytes
  have hr := B.returns
  have hts := atoms_spec (ws := (Cond.code y_O_weigh c_O_weigh 6 none :: wsG)) B.pre
  have htg : ∀ w ∈ wsG, w.before ([.ref (ad 3), .int a1, .int a2, .ref (ad 21), .ref (ad 22)] : List Value).toArray s = true := fun w h => hts w (List.mem_cons_of_mem _ h)
  have hown : s.vm.findClass RX1 = some m.cls := findClass_of_methodNamed B.named
  have hlocks := B.notSynchronized
  subst hsz
  have hD : ∀ σ, va_D (kAC ad s.heap.size) (wC ad cA cB σ) := fun σ => wC_D hap cA cB σ _
  have hS : va_S (kAC ad s.heap.size) s.heap s.heap [] := va_S.rf
  have hE := hF.1
  have hl := lv_entry ([.ref (ad 3), .int a1, .int a2, .ref (ad 21), .ref (ad 22)]) (n := 6) (Nat.le_of_ble_eq_true rfl)
  rw [lg_entry_eq]
  generalize (lg_sl ([.ref (ad 3), .int a1, .int a2, .ref (ad 21), .ref (ad 22)]) ++ List.replicate (6 - (lg_sl ([.ref (ad 3), .int a1, .int a2, .ref (ad 21), .ref (ad 22)])).length) Slot.unset).toArray = ls at hl ⊢
  have hl : lv_has ls 6 [(0, .ref (ad 3)), (1, .int a1), (2, .int a2), (3, .ref (ad 21)), (4, .ref (ad 22))] := hl
  unfold Sp_O_weigh_21_22 at h
  obtain ⟨G8, hG8⟩ : ∃ G : Int32 → Int32 → Int32 → S0 → Prop, G = fun (x1 x2 x5 : Int32) (σ : S0) => ∀ (H : Heap) (locs : List Loc) (ls : Array Slot), va_P D vwCl (wC ad cA cB σ) H → va_S (kAC ad s.heap.size) s.heap H locs → lv_has ls 6 [(0, .ref (ad 3)), (1, .int x1), (2, .int x2), (3, .ref (ad 21)), (4, .ref (ad 22)), (5, .int x5)] → W p l e (headSpec (Cond.code y_O_weigh c_O_weigh 6 none :: wsG) ({ frames := 0, cells := 0, slots := 0, locals := 0 } : Room)).room s m ([.ref (ad 3), .int a1, .int a2, .ref (ad 21), .ref (ad 22)] : List Value).toArray below meth c H locs 0 0 (MQ below (va_Qv post (kBC D ad cA cB) (kAC ad s.heap.size)) ([.ref (ad 3), .int a1, .int a2, .ref (ad 21), .ref (ad 22)] : List Value).toArray s 0 0 (kAC ad s.heap.size)) (F0 m 8 ls []) := ⟨_, rfl⟩
  obtain ⟨G61, hG61⟩ : ∃ G : Int32 → Int32 → Int32 → S0 → Prop, G = fun (x1 x2 x5 : Int32) (σ : S0) => ∀ (H : Heap) (locs : List Loc) (ls : Array Slot), va_P D vwCl (wC ad cA cB σ) H → va_S (kAC ad s.heap.size) s.heap H locs → lv_has ls 6 [(0, .ref (ad 3)), (1, .int x1), (2, .int x2), (3, .ref (ad 21)), (4, .ref (ad 22)), (5, .int x5)] → W p l e (headSpec (Cond.code y_O_weigh c_O_weigh 6 none :: wsG) ({ frames := 0, cells := 0, slots := 0, locals := 0 } : Room)).room s m ([.ref (ad 3), .int a1, .int a2, .ref (ad 21), .ref (ad 22)] : List Value).toArray below meth c H locs 0 0 (MQ below (va_Qv post (kBC D ad cA cB) (kAC ad s.heap.size)) ([.ref (ad 3), .int a1, .int a2, .ref (ad 21), .ref (ad 22)] : List Value).toArray s 0 0 (kAC ad s.heap.size)) (F0 m 61 ls []) := ⟨_, rfl⟩
  obtain ⟨G123, hG123⟩ : ∃ G : Int32 → Int32 → S0 → Prop, G = fun (x1 x5 : Int32) (σ : S0) => ∀ (H : Heap) (locs : List Loc) (ls : Array Slot), va_P D vwCl (wC ad cA cB σ) H → va_S (kAC ad s.heap.size) s.heap H locs → lv_has ls 6 [(0, .ref (ad 3)), (1, .int x1), (5, .int x5)] → W p l e (headSpec (Cond.code y_O_weigh c_O_weigh 6 none :: wsG) ({ frames := 0, cells := 0, slots := 0, locals := 0 } : Room)).room s m ([.ref (ad 3), .int a1, .int a2, .ref (ad 21), .ref (ad 22)] : List Value).toArray below meth c H locs 0 0 (MQ below (va_Qv post (kBC D ad cA cB) (kAC ad s.heap.size)) ([.ref (ad 3), .int a1, .int a2, .ref (ad 21), .ref (ad 22)] : List Value).toArray s 0 0 (kAC ad s.heap.size)) (F0 m 123 ls []) := ⟨_, rfl⟩
  have h := h G8 G61 G123
  have h := h (by
    intro x1 x2 x5 σ h
    rw [hG8]
    intro H locs ls hP hS hl
    refine lv_iload hx hb d_O_weigh_8 (lv_at hl 5 rfl) ?_
    refine lv_aload_n hx hb d_O_weigh_10 rfl (lv_at hl 0 rfl) ?_
    refine va_get (D := D) (ci := 1) (v := .ref (ad 20)) (C := RX1) (T := TX1) (N := 14) hx hb htg inG_X1 hown hK hP 3 rfl rfl 5 (by decide) (htg _ m_179) (fun _ h9 => h9) rfl d_O_weigh_11 ?_
    refine lv_iload_n hx hb d_O_weigh_14 rfl (lv_at hl 1 rfl) ?_
    refine lv_iconst (v := 1) hx hb d_O_weigh_15 (by decide) ?_
    refine lv_iadd hx hb d_O_weigh_16 ?_
    have hi := h.1
    have h := h.2
    refine va_iald hx hb hK hP 20 0 rfl rfl hi d_O_weigh_17 ?_
    refine lv_icmp_ge (tgt := 53) hx hb d_O_weigh_18 (by decide) (fun cn => ?_) (fun cn => ?_)
    · have h := h.1 cn
      refine lv_aload_n hx hb d_O_weigh_53 rfl (lv_at hl 0 rfl) ?_
      refine va_get (D := D) (ci := 1) (v := .ref (ad 23)) (C := RX1) (T := TX1) (N := 14) hx hb htg inG_X1 hown hK hP 3 rfl rfl 8 (by decide) (htg _ m_182) (fun _ h9 => h9) rfl d_O_weigh_54 ?_
      refine lv_iload_n hx hb d_O_weigh_57 rfl (lv_at hl 2 rfl) ?_
      have hi := h.1
      have h := h.2
      refine va_iald hx hb hK hP 23 0 rfl rfl hi d_O_weigh_58 ?_
      refine lv_topi (fun v2 ev2 => ?_)
      have h := h v2 ev2
      refine lv_istore (lv' := [(5, .int v2), (0, .ref (ad 3)), (1, .int x1), (2, .int x2), (3, .ref (ad 21)), (4, .ref (ad 22))]) hx hb d_O_weigh_59 hl (by decide) rfl (fun ls hl => ?_)
      rw [hG61] at h
      exact h _ _ _ hP hS (lv_sub hl [1, 2, 3, 4, 5, 0] rfl)
    · have h := h.2 cn
      refine lv_aload_n hx hb d_O_weigh_21 rfl (lv_at hl 0 rfl) ?_
      refine va_get (D := D) (ci := 1) (v := .ref (ad 24)) (C := RX1) (T := TX1) (N := 14) hx hb htg inG_X1 hown hK hP 3 rfl rfl 9 (by decide) (htg _ m_183) (fun _ h9 => h9) rfl d_O_weigh_22 ?_
      refine lv_aload_n hx hb d_O_weigh_25 rfl (lv_at hl 0 rfl) ?_
      refine va_get (D := D) (ci := 1) (v := .ref (ad 18)) (C := RX1) (T := TX1) (N := 14) hx hb htg inG_X1 hown hK hP 3 rfl rfl 3 (by decide) (htg _ m_177) (fun _ h9 => h9) rfl d_O_weigh_26 ?_
      refine lv_iload hx hb d_O_weigh_29 (lv_at hl 5 rfl) ?_
      have hi := h.1
      have h := h.2
      refine va_iald hx hb hK hP 18 0 rfl rfl hi d_O_weigh_31 ?_
      refine lv_iconst (v := 0) hx hb d_O_weigh_32 (by decide) ?_
      have hi := h.1
      have h := h.2
      refine va_iast hx hb hK hP (hD _) hS 24 0 rfl rfl hi d_O_weigh_33 (fun H locs hP _ hS => ?_)
      obtain ⟨σ3, eσ3⟩ : ∃ z : S0, z = st σ 24 (σ 18 x5.toNatClampNeg).toNatClampNeg 0 := ⟨_, rfl⟩
      have hP : va_P D vwCl (wC ad cA cB σ3) H := by rw [eσ3]; exact hP
      have h := h σ3 eσ3
      refine lv_aload_n hx hb d_O_weigh_34 rfl (lv_at hl 0 rfl) ?_
      refine va_get (D := D) (ci := 1) (v := .ref (ad 25)) (C := RX1) (T := TX1) (N := 14) hx hb htg inG_X1 hown hK hP 3 rfl rfl 10 (by decide) (htg _ m_184) (fun _ h9 => h9) rfl d_O_weigh_35 ?_
      refine lv_aload_n hx hb d_O_weigh_38 rfl (lv_at hl 0 rfl) ?_
      refine va_get (D := D) (ci := 1) (v := .ref (ad 18)) (C := RX1) (T := TX1) (N := 14) hx hb htg inG_X1 hown hK hP 3 rfl rfl 3 (by decide) (htg _ m_177) (fun _ h9 => h9) rfl d_O_weigh_39 ?_
      refine lv_iload hx hb d_O_weigh_42 (lv_at hl 5 rfl) ?_
      have hi := h.1
      have h := h.2
      refine va_iald hx hb hK hP 18 0 rfl rfl hi d_O_weigh_44 ?_
      refine lv_iconst (v := 0) hx hb d_O_weigh_45 (by decide) ?_
      have hi := h.1
      have h := h.2
      refine va_iast hx hb hK hP (hD _) hS 25 0 rfl rfl hi d_O_weigh_46 (fun H locs hP _ hS => ?_)
      obtain ⟨σ4, eσ4⟩ : ∃ z : S0, z = st σ3 25 (σ3 18 x5.toNatClampNeg).toNatClampNeg 0 := ⟨_, rfl⟩
      have hP : va_P D vwCl (wC ad cA cB σ4) H := by rw [eσ4]; exact hP
      have h := h σ4 eσ4
      refine lv_iinc (v := (x5 + 1)) (lv' := [(5, .int (x5 + 1)), (0, .ref (ad 3)), (1, .int x1), (2, .int x2), (3, .ref (ad 21)), (4, .ref (ad 22))]) hx hb d_O_weigh_47 hl (k := 5) rfl rfl (by decide) rfl (fun ls hl => ?_)
      refine lv_goto (tgt := 8) hx hb d_O_weigh_50 (by decide) ?_
      rw [hG8] at h
      exact h _ _ _ hP hS (lv_sub hl [1, 2, 3, 4, 5, 0] rfl))
  have h := h (by
    intro x1 x2 x5 σ h
    rw [hG61]
    intro H locs ls hP hS hl
    refine lv_iload hx hb d_O_weigh_61 (lv_at hl 5 rfl) ?_
    refine lv_aload_n hx hb d_O_weigh_63 rfl (lv_at hl 0 rfl) ?_
    refine va_get (D := D) (ci := 1) (v := .ref (ad 23)) (C := RX1) (T := TX1) (N := 14) hx hb htg inG_X1 hown hK hP 3 rfl rfl 8 (by decide) (htg _ m_182) (fun _ h9 => h9) rfl d_O_weigh_64 ?_
    refine lv_iload_n hx hb d_O_weigh_67 rfl (lv_at hl 2 rfl) ?_
    refine lv_iconst (v := 1) hx hb d_O_weigh_68 (by decide) ?_
    refine lv_iadd hx hb d_O_weigh_69 ?_
    have hi := h.1
    have h := h.2
    refine va_iald hx hb hK hP 23 0 rfl rfl hi d_O_weigh_70 ?_
    refine lv_icmp_ge (tgt := 115) hx hb d_O_weigh_71 (by decide) (fun cn => ?_) (fun cn => ?_)
    · have h := h.1 cn
      refine lv_aload_n hx hb d_O_weigh_115 rfl (lv_at hl 0 rfl) ?_
      refine va_get (D := D) (ci := 1) (v := .ref (ad 20)) (C := RX1) (T := TX1) (N := 14) hx hb htg inG_X1 hown hK hP 3 rfl rfl 5 (by decide) (htg _ m_179) (fun _ h9 => h9) rfl d_O_weigh_116 ?_
      refine lv_iload_n hx hb d_O_weigh_119 rfl (lv_at hl 1 rfl) ?_
      have hi := h.1
      have h := h.2
      refine va_iald hx hb hK hP 20 0 rfl rfl hi d_O_weigh_120 ?_
      refine lv_topi (fun v5 ev5 => ?_)
      have h := h v5 ev5
      refine lv_istore (lv' := [(5, .int v5), (0, .ref (ad 3)), (1, .int x1), (2, .int x2), (3, .ref (ad 21)), (4, .ref (ad 22))]) hx hb d_O_weigh_121 hl (by decide) rfl (fun ls hl => ?_)
      rw [hG123] at h
      exact h _ _ _ hP hS (lv_sub hl [1, 2, 0] rfl)
    · have h := h.2 cn
      refine lv_aload_n hx hb d_O_weigh_74 rfl (lv_at hl 0 rfl) ?_
      refine va_get (D := D) (ci := 1) (v := .ref (ad 24)) (C := RX1) (T := TX1) (N := 14) hx hb htg inG_X1 hown hK hP 3 rfl rfl 9 (by decide) (htg _ m_183) (fun _ h9 => h9) rfl d_O_weigh_75 ?_
      refine lv_aload_n hx hb d_O_weigh_78 rfl (lv_at hl 3 rfl) ?_
      refine lv_iload hx hb d_O_weigh_79 (lv_at hl 5 rfl) ?_
      have hi := h.1
      have h := h.2
      refine va_iald hx hb hK hP 21 0 rfl rfl hi d_O_weigh_81 ?_
      refine lv_dup2_11 hx hb d_O_weigh_82 rfl rfl ?_
      have hi := h.1
      have h := h.2
      refine va_iald hx hb hK hP 24 0 rfl rfl hi d_O_weigh_83 ?_
      refine lv_aload_n hx hb d_O_weigh_84 rfl (lv_at hl 0 rfl) ?_
      refine va_get (D := D) (ci := 1) (v := .ref (ad 16)) (C := RX1) (T := TX1) (N := 14) hx hb htg inG_X1 hown hK hP 3 rfl rfl 0 (by decide) (htg _ m_171) (fun _ h9 => h9) rfl d_O_weigh_85 ?_
      refine lv_aload hx hb d_O_weigh_88 (lv_at hl 4 rfl) ?_
      refine lv_iload hx hb d_O_weigh_90 (lv_at hl 5 rfl) ?_
      have hi := h.1
      have h := h.2
      refine va_iald hx hb hK hP 22 0 rfl rfl hi d_O_weigh_92 ?_
      have hi := h.1
      have h := h.2
      refine va_iald hx hb hK hP 16 0 rfl rfl hi d_O_weigh_93 ?_
      refine lv_iadd hx hb d_O_weigh_94 ?_
      have hi := h.1
      have h := h.2
      refine va_iast hx hb hK hP (hD _) hS 24 0 rfl rfl hi d_O_weigh_95 (fun H locs hP _ hS => ?_)
      obtain ⟨σ6, eσ6⟩ : ∃ z : S0, z = st σ 24 (σ 21 x5.toNatClampNeg).toNatClampNeg ((σ 24 (σ 21 x5.toNatClampNeg).toNatClampNeg) + (σ 16 (σ 22 x5.toNatClampNeg).toNatClampNeg)) := ⟨_, rfl⟩
      have hP : va_P D vwCl (wC ad cA cB σ6) H := by rw [eσ6]; exact hP
      have h := h σ6 eσ6
      refine lv_aload_n hx hb d_O_weigh_96 rfl (lv_at hl 0 rfl) ?_
      refine va_get (D := D) (ci := 1) (v := .ref (ad 25)) (C := RX1) (T := TX1) (N := 14) hx hb htg inG_X1 hown hK hP 3 rfl rfl 10 (by decide) (htg _ m_184) (fun _ h9 => h9) rfl d_O_weigh_97 ?_
      refine lv_aload_n hx hb d_O_weigh_100 rfl (lv_at hl 3 rfl) ?_
      refine lv_iload hx hb d_O_weigh_101 (lv_at hl 5 rfl) ?_
      have hi := h.1
      have h := h.2
      refine va_iald hx hb hK hP 21 0 rfl rfl hi d_O_weigh_103 ?_
      refine lv_dup2_11 hx hb d_O_weigh_104 rfl rfl ?_
      have hi := h.1
      have h := h.2
      refine va_iald hx hb hK hP 25 0 rfl rfl hi d_O_weigh_105 ?_
      refine lv_iconst (v := 1) hx hb d_O_weigh_106 (by decide) ?_
      refine lv_iadd hx hb d_O_weigh_107 ?_
      have hi := h.1
      have h := h.2
      refine va_iast hx hb hK hP (hD _) hS 25 0 rfl rfl hi d_O_weigh_108 (fun H locs hP _ hS => ?_)
      obtain ⟨σ7, eσ7⟩ : ∃ z : S0, z = st σ6 25 (σ6 21 x5.toNatClampNeg).toNatClampNeg ((σ6 25 (σ6 21 x5.toNatClampNeg).toNatClampNeg) + 1) := ⟨_, rfl⟩
      have hP : va_P D vwCl (wC ad cA cB σ7) H := by rw [eσ7]; exact hP
      have h := h σ7 eσ7
      refine lv_iinc (v := (x5 + 1)) (lv' := [(5, .int (x5 + 1)), (0, .ref (ad 3)), (1, .int x1), (2, .int x2), (3, .ref (ad 21)), (4, .ref (ad 22))]) hx hb d_O_weigh_109 hl (k := 5) rfl rfl (by decide) rfl (fun ls hl => ?_)
      refine lv_goto (tgt := 61) hx hb d_O_weigh_112 (by decide) ?_
      rw [hG61] at h
      exact h _ _ _ hP hS (lv_sub hl [1, 2, 3, 4, 5, 0] rfl))
  have h := h (by
    intro x1 x5 σ h
    rw [hG123]
    intro H locs ls hP hS hl
    refine lv_iload hx hb d_O_weigh_123 (lv_at hl 2 rfl) ?_
    refine lv_aload_n hx hb d_O_weigh_125 rfl (lv_at hl 0 rfl) ?_
    refine va_get (D := D) (ci := 1) (v := .ref (ad 20)) (C := RX1) (T := TX1) (N := 14) hx hb htg inG_X1 hown hK hP 3 rfl rfl 5 (by decide) (htg _ m_179) (fun _ h9 => h9) rfl d_O_weigh_126 ?_
    refine lv_iload_n hx hb d_O_weigh_129 rfl (lv_at hl 1 rfl) ?_
    refine lv_iconst (v := 1) hx hb d_O_weigh_130 (by decide) ?_
    refine lv_iadd hx hb d_O_weigh_131 ?_
    have hi := h.1
    have h := h.2
    refine va_iald hx hb hK hP 20 0 rfl rfl hi d_O_weigh_132 ?_
    refine lv_icmp_ge (tgt := 194) hx hb d_O_weigh_133 (by decide) (fun cn => ?_) (fun cn => ?_)
    · have h := h.1 cn
      exact W.vret hx hb hr (fun t ht hW => ⟨⟨σ, rfl, h, kBC_of ht hP⟩, hS.F ht⟩) hS.2.2 d_O_weigh_194 hlocks
    · have h := h.2 cn
      refine lv_aload_n hx hb d_O_weigh_136 rfl (lv_at hl 0 rfl) ?_
      refine va_get (D := D) (ci := 1) (v := .ref (ad 25)) (C := RX1) (T := TX1) (N := 14) hx hb htg inG_X1 hown hK hP 3 rfl rfl 10 (by decide) (htg _ m_184) (fun _ h9 => h9) rfl d_O_weigh_137 ?_
      refine lv_aload_n hx hb d_O_weigh_140 rfl (lv_at hl 0 rfl) ?_
      refine va_get (D := D) (ci := 1) (v := .ref (ad 18)) (C := RX1) (T := TX1) (N := 14) hx hb htg inG_X1 hown hK hP 3 rfl rfl 3 (by decide) (htg _ m_177) (fun _ h9 => h9) rfl d_O_weigh_141 ?_
      refine lv_iload hx hb d_O_weigh_144 (lv_at hl 2 rfl) ?_
      have hi := h.1
      have h := h.2
      refine va_iald hx hb hK hP 18 0 rfl rfl hi d_O_weigh_146 ?_
      have hi := h.1
      have h := h.2
      refine va_iald hx hb hK hP 25 0 rfl rfl hi d_O_weigh_147 ?_
      refine lv_if_ne (tgt := 188) hx hb d_O_weigh_148 (by decide) (fun cn => ?_) (fun cn => ?_)
      · have h := h.1 cn
        refine lv_iinc (v := (x5 + 1)) (lv' := [(5, .int (x5 + 1)), (0, .ref (ad 3)), (1, .int x1)]) hx hb d_O_weigh_188 hl (k := 2) rfl rfl (by decide) rfl (fun ls hl => ?_)
        refine lv_goto (tgt := 123) hx hb d_O_weigh_191 (by decide) ?_
        rw [hG123] at h
        exact h _ _ _ hP hS (lv_sub hl [1, 2, 0] rfl)
      · have h := h.2 cn
        refine lv_aload_n hx hb d_O_weigh_151 rfl (lv_at hl 0 rfl) ?_
        refine va_get (D := D) (ci := 1) (v := .ref (ad 24)) (C := RX1) (T := TX1) (N := 14) hx hb htg inG_X1 hown hK hP 3 rfl rfl 9 (by decide) (htg _ m_183) (fun _ h9 => h9) rfl d_O_weigh_152 ?_
        refine lv_aload_n hx hb d_O_weigh_155 rfl (lv_at hl 0 rfl) ?_
        refine va_get (D := D) (ci := 1) (v := .ref (ad 18)) (C := RX1) (T := TX1) (N := 14) hx hb htg inG_X1 hown hK hP 3 rfl rfl 3 (by decide) (htg _ m_177) (fun _ h9 => h9) rfl d_O_weigh_156 ?_
        refine lv_iload hx hb d_O_weigh_159 (lv_at hl 2 rfl) ?_
        have hi := h.1
        have h := h.2
        refine va_iald hx hb hK hP 18 0 rfl rfl hi d_O_weigh_161 ?_
        refine lv_aload_n hx hb d_O_weigh_162 rfl (lv_at hl 0 rfl) ?_
        refine va_get (D := D) (ci := 1) (v := .ref (ad 16)) (C := RX1) (T := TX1) (N := 14) hx hb htg inG_X1 hown hK hP 3 rfl rfl 0 (by decide) (htg _ m_171) (fun _ h9 => h9) rfl d_O_weigh_163 ?_
        refine lv_aload_n hx hb d_O_weigh_166 rfl (lv_at hl 0 rfl) ?_
        refine va_get (D := D) (ci := 1) (v := .ref (ad 18)) (C := RX1) (T := TX1) (N := 14) hx hb htg inG_X1 hown hK hP 3 rfl rfl 3 (by decide) (htg _ m_177) (fun _ h9 => h9) rfl d_O_weigh_167 ?_
        refine lv_iload hx hb d_O_weigh_170 (lv_at hl 2 rfl) ?_
        have hi := h.1
        have h := h.2
        refine va_iald hx hb hK hP 18 0 rfl rfl hi d_O_weigh_172 ?_
        have hi := h.1
        have h := h.2
        refine va_iald hx hb hK hP 16 0 rfl rfl hi d_O_weigh_173 ?_
        have hi := h.1
        have h := h.2
        refine va_iast hx hb hK hP (hD _) hS 24 0 rfl rfl hi d_O_weigh_174 (fun H locs hP _ hS => ?_)
        obtain ⟨σ8, eσ8⟩ : ∃ z : S0, z = st σ 24 (σ 18 x5.toNatClampNeg).toNatClampNeg (σ 16 (σ 18 x5.toNatClampNeg).toNatClampNeg) := ⟨_, rfl⟩
        have hP : va_P D vwCl (wC ad cA cB σ8) H := by rw [eσ8]; exact hP
        have h := h σ8 eσ8
        refine lv_aload_n hx hb d_O_weigh_175 rfl (lv_at hl 0 rfl) ?_
        refine va_get (D := D) (ci := 1) (v := .ref (ad 25)) (C := RX1) (T := TX1) (N := 14) hx hb htg inG_X1 hown hK hP 3 rfl rfl 10 (by decide) (htg _ m_184) (fun _ h9 => h9) rfl d_O_weigh_176 ?_
        refine lv_aload_n hx hb d_O_weigh_179 rfl (lv_at hl 0 rfl) ?_
        refine va_get (D := D) (ci := 1) (v := .ref (ad 18)) (C := RX1) (T := TX1) (N := 14) hx hb htg inG_X1 hown hK hP 3 rfl rfl 3 (by decide) (htg _ m_177) (fun _ h9 => h9) rfl d_O_weigh_180 ?_
        refine lv_iload hx hb d_O_weigh_183 (lv_at hl 2 rfl) ?_
        have hi := h.1
        have h := h.2
        refine va_iald hx hb hK hP 18 0 rfl rfl hi d_O_weigh_185 ?_
        refine lv_iconst (v := 1) hx hb d_O_weigh_186 (by decide) ?_
        have hi := h.1
        have h := h.2
        refine va_iast hx hb hK hP (hD _) hS 25 0 rfl rfl hi d_O_weigh_187 (fun H locs hP _ hS => ?_)
        obtain ⟨σ9, eσ9⟩ : ∃ z : S0, z = st σ8 25 (σ8 18 x5.toNatClampNeg).toNatClampNeg 1 := ⟨_, rfl⟩
        have hP : va_P D vwCl (wC ad cA cB σ9) H := by rw [eσ9]; exact hP
        have h := h σ9 eσ9
        refine lv_iinc (v := (x5 + 1)) (lv' := [(5, .int (x5 + 1)), (0, .ref (ad 3)), (1, .int x1)]) hx hb d_O_weigh_188 hl (k := 2) rfl rfl (by decide) rfl (fun ls hl => ?_)
        refine lv_goto (tgt := 123) hx hb d_O_weigh_191 (by decide) ?_
        rw [hG123] at h
        exact h _ _ _ hP hS (lv_sub hl [1, 2, 0] rfl))
  obtain ⟨H, eH⟩ : ∃ z, z = s.heap := ⟨_, rfl⟩
  have hP : va_P D vwCl (wC ad cA cB σ) H := by rw [eH]; exact hP
  have hS : va_S (kAC ad s.heap.size) s.heap H [] := by rw [eH]; exact hS
  show W p l e (headSpec (Cond.code y_O_weigh c_O_weigh 6 none :: wsG) ({ frames := 0, cells := 0, slots := 0, locals := 0 } : Room)).room s m ([.ref (ad 3), .int a1, .int a2, .ref (ad 21), .ref (ad 22)] : List Value).toArray below meth c s.heap [] 0 0 (MQ below (va_Qv post (kBC D ad cA cB) (kAC ad s.heap.size)) ([.ref (ad 3), .int a1, .int a2, .ref (ad 21), .ref (ad 22)] : List Value).toArray s 0 0 (kAC ad s.heap.size)) (F0 m 0 ls [])
  suffices k : W p l e (headSpec (Cond.code y_O_weigh c_O_weigh 6 none :: wsG) ({ frames := 0, cells := 0, slots := 0, locals := 0 } : Room)).room s m ([.ref (ad 3), .int a1, .int a2, .ref (ad 21), .ref (ad 22)] : List Value).toArray below meth c H [] 0 0 (MQ below (va_Qv post (kBC D ad cA cB) (kAC ad s.heap.size)) ([.ref (ad 3), .int a1, .int a2, .ref (ad 21), .ref (ad 22)] : List Value).toArray s 0 0 (kAC ad s.heap.size)) (F0 m 0 ls []) by rw [eH] at k; exact k
  refine lv_aload_n hx hb d_O_weigh_0 rfl (lv_at hl 0 rfl) ?_
  refine va_get (D := D) (ci := 1) (v := .ref (ad 20)) (C := RX1) (T := TX1) (N := 14) hx hb htg inG_X1 hown hK hP 3 rfl rfl 5 (by decide) (htg _ m_179) (fun _ h9 => h9) rfl d_O_weigh_1 ?_
  refine lv_iload_n hx hb d_O_weigh_4 rfl (lv_at hl 1 rfl) ?_
  have hi := h.1
  have h := h.2
  refine va_iald hx hb hK hP 20 0 rfl rfl hi d_O_weigh_5 ?_
  refine lv_topi (fun v1 ev1 => ?_)
  have h := h v1 ev1
  refine lv_istore (lv' := [(5, .int v1), (0, .ref (ad 3)), (1, .int a1), (2, .int a2), (3, .ref (ad 21)), (4, .ref (ad 22))]) hx hb d_O_weigh_6 hl (by decide) rfl (fun ls hl => ?_)
  rw [hG8] at h
  exact h _ _ _ hP hS (lv_sub hl [1, 2, 3, 4, 5, 0] rfl)
set_option maxHeartbeats 4000000 in
set_option maxRecDepth 100000 in
theorem met_O_arrange_21_22 (l : Launch) (D : va_G) (ad : Nat → Nat) (cA cB : ClassId) (hap : kapC ad) (σ : S0) (sz : Nat) (a1 a2 : Int32) (post : S0 → Prop) (h : Sp_O_arrange_21_22 a1 a2 σ post) : Met l y_O_arrange (Cond.code y_O_arrange c_O_arrange 5 none :: wsG) ({ frames := 2, cells := 0, slots := 0, locals := 47 } : Room) (kPcC D ad cA cB σ sz [.ref (ad 3), .int a1, .int a2, .ref (ad 21), .ref (ad 22)]) (va_Qv post (kBC D ad cA cB) (kAC ad sz)) 0 0 (kAC ad sz) := by
  refine Met.ofW (cc := c_O_arrange) (maxL := 5) (ret := none) (by decide) rfl ?_
  intro p e s m args below meth c s₁ B hml hv
  obtain ⟨rfl, hsz, hP, hK, hF⟩ := hv
  have hx := B.exec
  have hb := B.bytes
  have hr := B.returns
  have hts := atoms_spec (ws := (Cond.code y_O_arrange c_O_arrange 5 none :: wsG)) B.pre
  have htg : ∀ w ∈ wsG, w.before ([.ref (ad 3), .int a1, .int a2, .ref (ad 21), .ref (ad 22)] : List Value).toArray s = true := fun w h => hts w (List.mem_cons_of_mem _ h)
  have hown : s.vm.findClass RX1 = some m.cls := findClass_of_methodNamed B.named
  have hlocks := B.notSynchronized
  subst hsz
  have hD : ∀ σ, va_D (kAC ad s.heap.size) (wC ad cA cB σ) := fun σ => wC_D hap cA cB σ _
  have hS : va_S (kAC ad s.heap.size) s.heap s.heap [] := va_S.rf
  have hE := hF.1
  have hl := lv_entry ([.ref (ad 3), .int a1, .int a2, .ref (ad 21), .ref (ad 22)]) (n := 5) (Nat.le_of_ble_eq_true rfl)
  rw [lg_entry_eq]
  generalize (lg_sl ([.ref (ad 3), .int a1, .int a2, .ref (ad 21), .ref (ad 22)]) ++ List.replicate (5 - (lg_sl ([.ref (ad 3), .int a1, .int a2, .ref (ad 21), .ref (ad 22)])).length) Slot.unset).toArray = ls at hl ⊢
  have hl : lv_has ls 5 [(0, .ref (ad 3)), (1, .int a1), (2, .int a2), (3, .ref (ad 21)), (4, .ref (ad 22))] := hl
  unfold Sp_O_arrange_21_22 at h
  obtain ⟨H, eH⟩ : ∃ z, z = s.heap := ⟨_, rfl⟩
  have hP : va_P D vwCl (wC ad cA cB σ) H := by rw [eH]; exact hP
  have hS : va_S (kAC ad s.heap.size) s.heap H [] := by rw [eH]; exact hS
  show W p l e (headSpec (Cond.code y_O_arrange c_O_arrange 5 none :: wsG) ({ frames := 2, cells := 0, slots := 0, locals := 47 } : Room)).room s m ([.ref (ad 3), .int a1, .int a2, .ref (ad 21), .ref (ad 22)] : List Value).toArray below meth c s.heap [] 0 0 (MQ below (va_Qv post (kBC D ad cA cB) (kAC ad s.heap.size)) ([.ref (ad 3), .int a1, .int a2, .ref (ad 21), .ref (ad 22)] : List Value).toArray s 0 0 (kAC ad s.heap.size)) (F0 m 0 ls [])
  suffices k : W p l e (headSpec (Cond.code y_O_arrange c_O_arrange 5 none :: wsG) ({ frames := 2, cells := 0, slots := 0, locals := 47 } : Room)).room s m ([.ref (ad 3), .int a1, .int a2, .ref (ad 21), .ref (ad 22)] : List Value).toArray below meth c H [] 0 0 (MQ below (va_Qv post (kBC D ad cA cB) (kAC ad s.heap.size)) ([.ref (ad 3), .int a1, .int a2, .ref (ad 21), .ref (ad 22)] : List Value).toArray s 0 0 (kAC ad s.heap.size)) (F0 m 0 ls []) by rw [eH] at k; exact k
  refine lv_aload_n hx hb d_O_arrange_0 rfl (lv_at hl 0 rfl) ?_
  refine lv_iload_n hx hb d_O_arrange_1 rfl (lv_at hl 1 rfl) ?_
  refine lv_iload_n hx hb d_O_arrange_2 rfl (lv_at hl 2 rfl) ?_
  refine lv_aload_n hx hb d_O_arrange_3 rfl (lv_at hl 3 rfl) ?_
  refine lv_aload hx hb d_O_arrange_4 (lv_at hl 4 rfl) ?_
  refine kC_v (va_runV (As := [.int a1, .int a2, .ref (ad 21), .ref (ad 22)]) (rest := []) ⟨hx, hb, hml, hown, htg⟩ (met_O_weigh_21_22 l D ad cA cB hap σ H.size a1 a2 _ h) (cwV 4 htg (kG (kG_V m_508 m_510 m_18 m_56 (kG_self m_511))) rfl rfl rfl (by decide +kernel) ⟨Nat.le_of_ble_eq_true rfl, Nat.le_of_ble_eq_true rfl⟩) (kC_preV hK hF hP hS 3 rfl rfl _) rfl rfl hl.1 rfl (lv_room (Nat.le_of_ble_eq_true rfl)) d_O_arrange_6 ⟨Nat.le_of_ble_eq_true rfl, Nat.le_of_ble_eq_true rfl⟩) hS (fun σ1 H locs h hP hS => ?_)
  refine lv_aload_n hx hb d_O_arrange_9 rfl (lv_at hl 0 rfl) ?_
  refine lv_aload_n hx hb d_O_arrange_10 rfl (lv_at hl 0 rfl) ?_
  refine va_get (D := D) (ci := 1) (v := .ref (ad 20)) (C := RX1) (T := TX1) (N := 14) hx hb htg inG_X1 hown hK hP 3 rfl rfl 5 (by decide) (htg _ m_179) (fun _ h9 => h9) rfl d_O_arrange_11 ?_
  refine lv_iload_n hx hb d_O_arrange_14 rfl (lv_at hl 1 rfl) ?_
  have hi := h.1
  have h := h.2
  refine va_iald hx hb hK hP 20 0 rfl rfl hi d_O_arrange_15 ?_
  refine lv_aload_n hx hb d_O_arrange_16 rfl (lv_at hl 0 rfl) ?_
  refine va_get (D := D) (ci := 1) (v := .ref (ad 20)) (C := RX1) (T := TX1) (N := 14) hx hb htg inG_X1 hown hK hP 3 rfl rfl 5 (by decide) (htg _ m_179) (fun _ h9 => h9) rfl d_O_arrange_17 ?_
  refine lv_iload_n hx hb d_O_arrange_20 rfl (lv_at hl 1 rfl) ?_
  refine lv_iconst (v := 1) hx hb d_O_arrange_21 (by decide) ?_
  refine lv_iadd hx hb d_O_arrange_22 ?_
  have hi := h.1
  have h := h.2
  refine va_iald hx hb hK hP 20 0 rfl rfl hi d_O_arrange_23 ?_
  refine kC_v (va_runV (As := [.int (σ1 20 a1.toNatClampNeg), .int (σ1 20 (a1 + 1).toNatClampNeg)]) (rest := []) ⟨hx, hb, hml, hown, htg⟩ (met_O_sort l D ad cA cB hap σ1 H.size (σ1 20 a1.toNatClampNeg) (σ1 20 (a1 + 1).toNatClampNeg) _ h) (cwV 2 htg (kG (kG_V m_512 m_514 m_19 m_56 (kG_self m_515))) rfl rfl rfl (by decide +kernel) ⟨Nat.le_of_ble_eq_true rfl, Nat.le_of_ble_eq_true rfl⟩) (kC_preV hK hF hP hS 3 rfl rfl _) rfl rfl hl.1 rfl (lv_room (Nat.le_of_ble_eq_true rfl)) d_O_arrange_24 ⟨Nat.le_of_ble_eq_true rfl, Nat.le_of_ble_eq_true rfl⟩) hS (fun σ2 H locs h hP hS => ?_)
  refine lv_aload_n hx hb d_O_arrange_27 rfl (lv_at hl 0 rfl) ?_
  refine lv_iload_n hx hb d_O_arrange_28 rfl (lv_at hl 1 rfl) ?_
  refine lv_aload_n hx hb d_O_arrange_29 rfl (lv_at hl 0 rfl) ?_
  refine va_get (D := D) (ci := 1) (v := .ref (ad 20)) (C := RX1) (T := TX1) (N := 14) hx hb htg inG_X1 hown hK hP 3 rfl rfl 5 (by decide) (htg _ m_179) (fun _ h9 => h9) rfl d_O_arrange_30 ?_
  refine lv_iload_n hx hb d_O_arrange_33 rfl (lv_at hl 1 rfl) ?_
  refine lv_iconst (v := 1) hx hb d_O_arrange_34 (by decide) ?_
  refine lv_iadd hx hb d_O_arrange_35 ?_
  have hi := h.1
  have h := h.2
  refine va_iald hx hb hK hP 20 0 rfl rfl hi d_O_arrange_36 ?_
  refine kC_v (va_runV (As := [.int a1, .int (σ2 20 (a1 + 1).toNatClampNeg)]) (rest := []) ⟨hx, hb, hml, hown, htg⟩ (met_O_numberPlaces l D ad cA cB hap σ2 H.size a1 (σ2 20 (a1 + 1).toNatClampNeg) _ h) (cwV 2 htg (kG (kG_V m_479 m_481 m_11 m_56 (kG_self m_482))) rfl rfl rfl (by decide +kernel) ⟨Nat.le_of_ble_eq_true rfl, Nat.le_of_ble_eq_true rfl⟩) (kC_preV hK hF hP hS 3 rfl rfl _) rfl rfl hl.1 rfl (lv_room (Nat.le_of_ble_eq_true rfl)) d_O_arrange_37 ⟨Nat.le_of_ble_eq_true rfl, Nat.le_of_ble_eq_true rfl⟩) hS (fun σ3 H locs h hP hS => ?_)
  exact W.vret hx hb hr (fun t ht hW => ⟨⟨σ3, rfl, h, kBC_of ht hP⟩, hS.F ht⟩) hS.2.2 d_O_arrange_40 hlocks
set_option maxHeartbeats 4000000 in
set_option maxRecDepth 100000 in
theorem met_O_runRound (l : Launch) (D : va_G) (ad : Nat → Nat) (cA cB : ClassId) (hap : kapC ad) (σ : S0) (sz : Nat) (post : S0 → Prop) (h : Sp_O_runRound  σ post) : Met l y_O_runRound (Cond.code y_O_runRound c_O_runRound 2 none :: wsG) ({ frames := 3, cells := 0, slots := 0, locals := 71 } : Room) (kPcC D ad cA cB σ sz [.ref (ad 3)]) (va_Qv post (kBC D ad cA cB) (kAC ad sz)) 0 0 (kAC ad sz) := by
  refine Met.ofW (cc := c_O_runRound) (maxL := 2) (ret := none) (by decide) rfl ?_
  intro p e s m args below meth c s₁ B hml hv
  obtain ⟨rfl, hsz, hP, hK, hF⟩ := hv
  have hx := B.exec
  have hb := B.bytes
  have hr := B.returns
  have hts := atoms_spec (ws := (Cond.code y_O_runRound c_O_runRound 2 none :: wsG)) B.pre
  have htg : ∀ w ∈ wsG, w.before ([.ref (ad 3)] : List Value).toArray s = true := fun w h => hts w (List.mem_cons_of_mem _ h)
  have hown : s.vm.findClass RX1 = some m.cls := findClass_of_methodNamed B.named
  have hlocks := B.notSynchronized
  subst hsz
  have hD : ∀ σ, va_D (kAC ad s.heap.size) (wC ad cA cB σ) := fun σ => wC_D hap cA cB σ _
  have hS : va_S (kAC ad s.heap.size) s.heap s.heap [] := va_S.rf
  have hE := hF.1
  have hl := lv_entry ([.ref (ad 3)]) (n := 2) (Nat.le_of_ble_eq_true rfl)
  rw [lg_entry_eq]
  generalize (lg_sl ([.ref (ad 3)]) ++ List.replicate (2 - (lg_sl ([.ref (ad 3)])).length) Slot.unset).toArray = ls at hl ⊢
  have hl : lv_has ls 2 [(0, .ref (ad 3))] := hl
  unfold Sp_O_runRound at h
  obtain ⟨G2, hG2⟩ : ∃ G : Int32 → S0 → Prop, G = fun (x1 : Int32) (σ : S0) => ∀ (H : Heap) (locs : List Loc) (ls : Array Slot), va_P D vwCl (wC ad cA cB σ) H → va_S (kAC ad s.heap.size) s.heap H locs → lv_has ls 2 [(0, .ref (ad 3)), (1, .int x1)] → W p l e (headSpec (Cond.code y_O_runRound c_O_runRound 2 none :: wsG) ({ frames := 3, cells := 0, slots := 0, locals := 71 } : Room)).room s m ([.ref (ad 3)] : List Value).toArray below meth c H locs 0 0 (MQ below (va_Qv post (kBC D ad cA cB) (kAC ad s.heap.size)) ([.ref (ad 3)] : List Value).toArray s 0 0 (kAC ad s.heap.size)) (F0 m 2 ls []) := ⟨_, rfl⟩
  obtain ⟨G39, hG39⟩ : ∃ G : Int32 → S0 → Prop, G = fun (x1 : Int32) (σ : S0) => ∀ (H : Heap) (locs : List Loc) (ls : Array Slot), va_P D vwCl (wC ad cA cB σ) H → va_S (kAC ad s.heap.size) s.heap H locs → lv_has ls 2 [(0, .ref (ad 3)), (1, .int x1)] → W p l e (headSpec (Cond.code y_O_runRound c_O_runRound 2 none :: wsG) ({ frames := 3, cells := 0, slots := 0, locals := 71 } : Room)).room s m ([.ref (ad 3)] : List Value).toArray below meth c H locs 0 0 (MQ below (va_Qv post (kBC D ad cA cB) (kAC ad s.heap.size)) ([.ref (ad 3)] : List Value).toArray s 0 0 (kAC ad s.heap.size)) (F0 m 39 ls []) := ⟨_, rfl⟩
  have h := h G2 G39
  have h := h (by
    intro x1 σ h
    rw [hG2]
    intro H locs ls hP hS hl
    refine lv_iload_n hx hb d_O_runRound_2 rfl (lv_at hl 1 rfl) ?_
    refine lv_aload_n hx hb d_O_runRound_3 rfl (lv_at hl 0 rfl) ?_
    refine va_get (D := D) (ci := 1) (v := .int (σ 0 9)) (C := RX1) (T := TX1) (N := 14) hx hb htg inG_X1 hown hK hP 3 rfl rfl 11 (by decide) (htg _ m_185) (fun _ h9 => h9) rfl d_O_runRound_4 ?_
    refine lv_icmp_ge (tgt := 32) hx hb d_O_runRound_7 (by decide) (fun cn => ?_) (fun cn => ?_)
    · have h := h.1 cn
      refine lv_aload_n hx hb d_O_runRound_32 rfl (lv_at hl 0 rfl) ?_
      refine va_get (D := D) (ci := 1) (v := .int (σ 0 9)) (C := RX1) (T := TX1) (N := 14) hx hb htg inG_X1 hown hK hP 3 rfl rfl 11 (by decide) (htg _ m_185) (fun _ h9 => h9) rfl d_O_runRound_33 ?_
      refine lv_iconst (v := 2) hx hb d_O_runRound_36 (by decide) ?_
      refine lv_isub hx hb d_O_runRound_37 ?_
      refine lv_topi (fun v1 ev1 => ?_)
      have h := h v1 ev1
      refine lv_istore_n (lv' := [(1, .int v1), (0, .ref (ad 3))]) hx hb d_O_runRound_38 rfl hl (by decide) rfl (fun ls hl => ?_)
      rw [hG39] at h
      exact h _ _ _ hP hS (lv_sub hl [1, 0] rfl)
    · have h := h.2 cn
      refine lv_aload_n hx hb d_O_runRound_10 rfl (lv_at hl 0 rfl) ?_
      refine lv_iload_n hx hb d_O_runRound_11 rfl (lv_at hl 1 rfl) ?_
      refine lv_iload_n hx hb d_O_runRound_12 rfl (lv_at hl 1 rfl) ?_
      refine lv_iconst (v := 1) hx hb d_O_runRound_13 (by decide) ?_
      refine lv_isub hx hb d_O_runRound_14 ?_
      refine lv_aload_n hx hb d_O_runRound_15 rfl (lv_at hl 0 rfl) ?_
      refine va_get (D := D) (ci := 1) (v := .ref (ad 22)) (C := RX1) (T := TX1) (N := 14) hx hb htg inG_X1 hown hK hP 3 rfl rfl 7 (by decide) (htg _ m_181) (fun _ h9 => h9) rfl d_O_runRound_16 ?_
      refine lv_aload_n hx hb d_O_runRound_19 rfl (lv_at hl 0 rfl) ?_
      refine va_get (D := D) (ci := 1) (v := .ref (ad 21)) (C := RX1) (T := TX1) (N := 14) hx hb htg inG_X1 hown hK hP 3 rfl rfl 6 (by decide) (htg _ m_180) (fun _ h9 => h9) rfl d_O_runRound_20 ?_
      refine kC_v (va_runV (As := [.int x1, .int (x1 - 1), .ref (ad 22), .ref (ad 21)]) (rest := []) ⟨hx, hb, hml, hown, htg⟩ (met_O_arrange_22_21 l D ad cA cB hap σ H.size x1 (x1 - 1) _ h) (cwV 4 htg (kG (kG_V m_504 m_506 m_17 m_56 (kG_self m_507))) rfl rfl rfl (by decide +kernel) ⟨Nat.le_of_ble_eq_true rfl, Nat.le_of_ble_eq_true rfl⟩) (kC_preV hK hF hP hS 3 rfl rfl _) rfl rfl hl.1 rfl (lv_room (Nat.le_of_ble_eq_true rfl)) d_O_runRound_23 ⟨Nat.le_of_ble_eq_true rfl, Nat.le_of_ble_eq_true rfl⟩) hS (fun σ2 H locs h hP hS => ?_)
      refine lv_iinc (v := (x1 + 1)) (lv' := [(1, .int (x1 + 1)), (0, .ref (ad 3))]) hx hb d_O_runRound_26 hl (k := 1) rfl rfl (by decide) rfl (fun ls hl => ?_)
      refine lv_goto (tgt := 2) hx hb d_O_runRound_29 (by decide) ?_
      rw [hG2] at h
      exact h _ _ _ hP hS (lv_sub hl [1, 0] rfl))
  have h := h (by
    intro x1 σ h
    rw [hG39]
    intro H locs ls hP hS hl
    refine lv_iload_n hx hb d_O_runRound_39 rfl (lv_at hl 1 rfl) ?_
    refine lv_if_lt (tgt := 63) hx hb d_O_runRound_40 (by decide) (fun cn => ?_) (fun cn => ?_)
    · have h := h.1 cn
      exact W.vret hx hb hr (fun t ht hW => ⟨⟨σ, rfl, h, kBC_of ht hP⟩, hS.F ht⟩) hS.2.2 d_O_runRound_63 hlocks
    · have h := h.2 cn
      refine lv_aload_n hx hb d_O_runRound_43 rfl (lv_at hl 0 rfl) ?_
      refine lv_iload_n hx hb d_O_runRound_44 rfl (lv_at hl 1 rfl) ?_
      refine lv_iload_n hx hb d_O_runRound_45 rfl (lv_at hl 1 rfl) ?_
      refine lv_aload_n hx hb d_O_runRound_46 rfl (lv_at hl 0 rfl) ?_
      refine va_get (D := D) (ci := 1) (v := .ref (ad 21)) (C := RX1) (T := TX1) (N := 14) hx hb htg inG_X1 hown hK hP 3 rfl rfl 6 (by decide) (htg _ m_180) (fun _ h9 => h9) rfl d_O_runRound_47 ?_
      refine lv_aload_n hx hb d_O_runRound_50 rfl (lv_at hl 0 rfl) ?_
      refine va_get (D := D) (ci := 1) (v := .ref (ad 22)) (C := RX1) (T := TX1) (N := 14) hx hb htg inG_X1 hown hK hP 3 rfl rfl 7 (by decide) (htg _ m_181) (fun _ h9 => h9) rfl d_O_runRound_51 ?_
      refine kC_v (va_runV (As := [.int x1, .int x1, .ref (ad 21), .ref (ad 22)]) (rest := []) ⟨hx, hb, hml, hown, htg⟩ (met_O_arrange_21_22 l D ad cA cB hap σ H.size x1 x1 _ h) (cwV 4 htg (kG (kG_V m_504 m_506 m_17 m_56 (kG_self m_507))) rfl rfl rfl (by decide +kernel) ⟨Nat.le_of_ble_eq_true rfl, Nat.le_of_ble_eq_true rfl⟩) (kC_preV hK hF hP hS 3 rfl rfl _) rfl rfl hl.1 rfl (lv_room (Nat.le_of_ble_eq_true rfl)) d_O_runRound_54 ⟨Nat.le_of_ble_eq_true rfl, Nat.le_of_ble_eq_true rfl⟩) hS (fun σ3 H locs h hP hS => ?_)
      refine lv_iinc (v := (x1 + (-1))) (lv' := [(1, .int (x1 + (-1))), (0, .ref (ad 3))]) hx hb d_O_runRound_57 hl (k := 1) rfl rfl (by decide) rfl (fun ls hl => ?_)
      refine lv_goto (tgt := 39) hx hb d_O_runRound_60 (by decide) ?_
      rw [hG39] at h
      exact h _ _ _ hP hS (lv_sub hl [1, 0] rfl))
  obtain ⟨H, eH⟩ : ∃ z, z = s.heap := ⟨_, rfl⟩
  have hP : va_P D vwCl (wC ad cA cB σ) H := by rw [eH]; exact hP
  have hS : va_S (kAC ad s.heap.size) s.heap H [] := by rw [eH]; exact hS
  show W p l e (headSpec (Cond.code y_O_runRound c_O_runRound 2 none :: wsG) ({ frames := 3, cells := 0, slots := 0, locals := 71 } : Room)).room s m ([.ref (ad 3)] : List Value).toArray below meth c s.heap [] 0 0 (MQ below (va_Qv post (kBC D ad cA cB) (kAC ad s.heap.size)) ([.ref (ad 3)] : List Value).toArray s 0 0 (kAC ad s.heap.size)) (F0 m 0 ls [])
  suffices k : W p l e (headSpec (Cond.code y_O_runRound c_O_runRound 2 none :: wsG) ({ frames := 3, cells := 0, slots := 0, locals := 71 } : Room)).room s m ([.ref (ad 3)] : List Value).toArray below meth c H [] 0 0 (MQ below (va_Qv post (kBC D ad cA cB) (kAC ad s.heap.size)) ([.ref (ad 3)] : List Value).toArray s 0 0 (kAC ad s.heap.size)) (F0 m 0 ls []) by rw [eH] at k; exact k
  refine lv_iconst (v := 1) hx hb d_O_runRound_0 (by decide) ?_
  refine lv_istore_n (lv' := [(1, .int 1), (0, .ref (ad 3))]) hx hb d_O_runRound_1 rfl hl (by decide) rfl (fun ls hl => ?_)
  rw [hG2] at h
  exact h _ _ _ hP hS (lv_sub hl [1, 0] rfl)
set_option maxHeartbeats 4000000 in
set_option maxRecDepth 100000 in
theorem met_O_make (l : Launch) (D : va_G) (ad : Nat → Nat) (cA cB : ClassId) (hap : kapC ad) (σ : S0) (sz : Nat) (a2 : Int32) (post : Int32 → S0 → Prop) (h : Sp_O_make a2 σ post) : Met l y_O_make (Cond.code y_O_make c_O_make 5 (some .int) :: wsG) ({ frames := 4, cells := 0, slots := 0, locals := 92 } : Room) (kPcC D ad cA cB σ sz [.ref (ad 3), .ref (ad 2), .int a2]) (va_Qi post (kBC D ad cA cB) (kAC ad sz)) 0 0 (kAC ad sz) := by
  refine Met.ofW (cc := c_O_make) (maxL := 5) (ret := (some .int)) (by decide) rfl ?_
  intro p e s m args below meth c s₁ B hml hv
  obtain ⟨rfl, hsz, hP, hK, hF⟩ := hv
  have hx := B.exec
  have hb := B.bytes
  have hr := B.returns
  have hts := atoms_spec (ws := (Cond.code y_O_make c_O_make 5 (some .int) :: wsG)) B.pre
  have htg : ∀ w ∈ wsG, w.before ([.ref (ad 3), .ref (ad 2), .int a2] : List Value).toArray s = true := fun w h => hts w (List.mem_cons_of_mem _ h)
  have hown : s.vm.findClass RX1 = some m.cls := findClass_of_methodNamed B.named
  have hlocks := B.notSynchronized
  subst hsz
  have hD : ∀ σ, va_D (kAC ad s.heap.size) (wC ad cA cB σ) := fun σ => wC_D hap cA cB σ _
  have hS : va_S (kAC ad s.heap.size) s.heap s.heap [] := va_S.rf
  have hE := hF.1
  have hl := lv_entry ([.ref (ad 3), .ref (ad 2), .int a2]) (n := 5) (Nat.le_of_ble_eq_true rfl)
  rw [lg_entry_eq]
  generalize (lg_sl ([.ref (ad 3), .ref (ad 2), .int a2]) ++ List.replicate (5 - (lg_sl ([.ref (ad 3), .ref (ad 2), .int a2])).length) Slot.unset).toArray = ls at hl ⊢
  have hl : lv_has ls 5 [(0, .ref (ad 3)), (1, .ref (ad 2)), (2, .int a2)] := hl
  unfold Sp_O_make at h
  obtain ⟨G42, hG42⟩ : ∃ G : Int32 → Int32 → S0 → Prop, G = fun (x3 x4 : Int32) (σ : S0) => ∀ (H : Heap) (locs : List Loc) (ls : Array Slot), va_P D vwCl (wC ad cA cB σ) H → va_S (kAC ad s.heap.size) s.heap H locs → lv_has ls 5 [(0, .ref (ad 3)), (3, .int x3), (4, .int x4)] → W p l e (headSpec (Cond.code y_O_make c_O_make 5 (some .int) :: wsG) ({ frames := 4, cells := 0, slots := 0, locals := 92 } : Room)).room s m ([.ref (ad 3), .ref (ad 2), .int a2] : List Value).toArray below meth c H locs 0 0 (MQ below (va_Qi post (kBC D ad cA cB) (kAC ad s.heap.size)) ([.ref (ad 3), .ref (ad 2), .int a2] : List Value).toArray s 0 0 (kAC ad s.heap.size)) (F0 m 42 ls []) := ⟨_, rfl⟩
  have h := h G42
  have h := h (by
    intro x3 x4 σ h
    rw [hG42]
    intro H locs ls hP hS hl
    refine lv_iload hx hb d_O_make_42 (lv_at hl 2 rfl) ?_
    refine lv_aload_n hx hb d_O_make_44 rfl (lv_at hl 0 rfl) ?_
    refine va_get (D := D) (ci := 1) (v := .int (σ 0 8)) (C := RX1) (T := TX1) (N := 14) hx hb htg inG_X1 hown hK hP 3 rfl rfl 2 (by decide) (htg _ m_175) (fun _ h9 => h9) rfl d_O_make_45 ?_
    refine lv_icmp_gt (tgt := 95) hx hb d_O_make_48 (by decide) (fun cn => ?_) (fun cn => ?_)
    · have h := h.1 cn
      refine lv_aload_n hx hb d_O_make_95 rfl (lv_at hl 0 rfl) ?_
      refine kC_v (va_runV (As := []) (rest := []) ⟨hx, hb, hml, hown, htg⟩ (met_O_takeBest l D ad cA cB hap σ H.size _ h) (cwV 0 htg (kG (kG_V m_520 m_522 m_21 m_56 (kG_self m_523))) rfl rfl rfl (by decide +kernel) ⟨Nat.le_of_ble_eq_true rfl, Nat.le_of_ble_eq_true rfl⟩) (kC_preV hK hF hP hS 3 rfl rfl _) rfl rfl hl.1 rfl (lv_room (Nat.le_of_ble_eq_true rfl)) d_O_make_96 ⟨Nat.le_of_ble_eq_true rfl, Nat.le_of_ble_eq_true rfl⟩) hS (fun σ9 H locs h hP hS => ?_)
      refine lv_iload_n hx hb d_O_make_99 rfl (lv_at hl 1 rfl) ?_
      exact W.iret (v := x3) hx hb hr (fun t ht hW => ⟨⟨_, σ9, rfl, h, kBC_of ht hP⟩, hS.F ht⟩) hS.2.2 d_O_make_100 hlocks
    · have h := h.2 cn
      refine lv_aload_n hx hb d_O_make_51 rfl (lv_at hl 0 rfl) ?_
      refine kC_v (va_runV (As := []) (rest := []) ⟨hx, hb, hml, hown, htg⟩ (met_O_runRound l D ad cA cB hap σ H.size _ h) (cwV 0 htg (kG (kG_V m_500 m_502 m_16 m_56 (kG_self m_503))) rfl rfl rfl (by decide +kernel) ⟨Nat.le_of_ble_eq_true rfl, Nat.le_of_ble_eq_true rfl⟩) (kC_preV hK hF hP hS 3 rfl rfl _) rfl rfl hl.1 rfl (lv_room (Nat.le_of_ble_eq_true rfl)) d_O_make_52 ⟨Nat.le_of_ble_eq_true rfl, Nat.le_of_ble_eq_true rfl⟩) hS (fun σ10 H locs h hP hS => ?_)
      refine lv_aload_n hx hb d_O_make_55 rfl (lv_at hl 0 rfl) ?_
      refine va_get (D := D) (ci := 1) (v := .ref (ad 17)) (C := RX1) (T := TX1) (N := 14) hx hb htg inG_X1 hown hK hP 3 rfl rfl 1 (by decide) (htg _ m_173) (fun _ h9 => h9) rfl d_O_make_56 ?_
      refine lv_iload hx hb d_O_make_59 (lv_at hl 2 rfl) ?_
      refine lv_aload_n hx hb d_O_make_61 rfl (lv_at hl 0 rfl) ?_
      refine kC_i (va_runV (As := []) (rest := [.int x4, .ref (ad 17)]) ⟨hx, hb, hml, hown, htg⟩ (met_O_countCrossings l D ad cA cB hap σ10 H.size _ h) (cwV 0 htg (kG (kG_V m_487 m_489 m_13 m_56 (kG_self m_490))) rfl rfl rfl (by decide +kernel) ⟨Nat.le_of_ble_eq_true rfl, Nat.le_of_ble_eq_true rfl⟩) (kC_preV hK hF hP hS 3 rfl rfl _) rfl rfl hl.1 rfl (lv_room (Nat.le_of_ble_eq_true rfl)) d_O_make_62 ⟨Nat.le_of_ble_eq_true rfl, Nat.le_of_ble_eq_true rfl⟩) hS (fun r12 σ11 H locs h hP hS => ?_)
      have hi := h.1
      have h := h.2
      refine va_iast hx hb hK hP (hD _) hS 17 0 rfl rfl hi d_O_make_65 (fun H locs hP _ hS => ?_)
      obtain ⟨σ13, eσ13⟩ : ∃ z : S0, z = st σ11 17 x4.toNatClampNeg r12 := ⟨_, rfl⟩
      have hP : va_P D vwCl (wC ad cA cB σ13) H := by rw [eσ13]; exact hP
      have h := h σ13 eσ13
      refine lv_aload_n hx hb d_O_make_66 rfl (lv_at hl 0 rfl) ?_
      refine va_get (D := D) (ci := 1) (v := .ref (ad 17)) (C := RX1) (T := TX1) (N := 14) hx hb htg inG_X1 hown hK hP 3 rfl rfl 1 (by decide) (htg _ m_173) (fun _ h9 => h9) rfl d_O_make_67 ?_
      refine lv_iload hx hb d_O_make_70 (lv_at hl 2 rfl) ?_
      have hi := h.1
      have h := h.2
      refine va_iald hx hb hK hP 17 0 rfl rfl hi d_O_make_72 ?_
      refine lv_iload_n hx hb d_O_make_73 rfl (lv_at hl 1 rfl) ?_
      refine lv_icmp_ge (tgt := 89) hx hb d_O_make_74 (by decide) (fun cn => ?_) (fun cn => ?_)
      · have h := h.1 cn
        refine lv_iinc (v := (x4 + 1)) (lv' := [(4, .int (x4 + 1)), (0, .ref (ad 3)), (3, .int x3)]) hx hb d_O_make_89 hl (k := 2) rfl rfl (by decide) rfl (fun ls hl => ?_)
        refine lv_goto (tgt := 42) hx hb d_O_make_92 (by decide) ?_
        rw [hG42] at h
        exact h _ _ _ hP hS (lv_sub hl [1, 2, 0] rfl)
      · have h := h.2 cn
        refine lv_aload_n hx hb d_O_make_77 rfl (lv_at hl 0 rfl) ?_
        refine va_get (D := D) (ci := 1) (v := .ref (ad 17)) (C := RX1) (T := TX1) (N := 14) hx hb htg inG_X1 hown hK hP 3 rfl rfl 1 (by decide) (htg _ m_173) (fun _ h9 => h9) rfl d_O_make_78 ?_
        refine lv_iload hx hb d_O_make_81 (lv_at hl 2 rfl) ?_
        have hi := h.1
        have h := h.2
        refine va_iald hx hb hK hP 17 0 rfl rfl hi d_O_make_83 ?_
        refine lv_topi (fun v14 ev14 => ?_)
        have h := h v14 ev14
        refine lv_istore_n (lv' := [(3, .int v14), (0, .ref (ad 3)), (4, .int x4)]) hx hb d_O_make_84 rfl hl (by decide) rfl (fun ls hl => ?_)
        refine lv_aload_n hx hb d_O_make_85 rfl (lv_at hl 1 rfl) ?_
        refine kC_v (va_runV (As := []) (rest := []) ⟨hx, hb, hml, hown, htg⟩ (met_O_keepBest l D ad cA cB hap σ13 H.size _ h) (cwV 0 htg (kG (kG_V m_495 m_497 m_15 m_56 (kG_self m_498))) rfl rfl rfl (by decide +kernel) ⟨Nat.le_of_ble_eq_true rfl, Nat.le_of_ble_eq_true rfl⟩) (kC_preV hK hF hP hS 3 rfl rfl _) rfl rfl hl.1 rfl (lv_room (Nat.le_of_ble_eq_true rfl)) d_O_make_86 ⟨Nat.le_of_ble_eq_true rfl, Nat.le_of_ble_eq_true rfl⟩) hS (fun σ15 H locs h hP hS => ?_)
        refine lv_iinc (v := (x4 + 1)) (lv' := [(4, .int (x4 + 1)), (3, .int v14), (0, .ref (ad 3))]) hx hb d_O_make_89 hl (k := 2) rfl rfl (by decide) rfl (fun ls hl => ?_)
        refine lv_goto (tgt := 42) hx hb d_O_make_92 (by decide) ?_
        rw [hG42] at h
        exact h _ _ _ hP hS (lv_sub hl [2, 1, 0] rfl))
  obtain ⟨H, eH⟩ : ∃ z, z = s.heap := ⟨_, rfl⟩
  have hP : va_P D vwCl (wC ad cA cB σ) H := by rw [eH]; exact hP
  have hS : va_S (kAC ad s.heap.size) s.heap H [] := by rw [eH]; exact hS
  show W p l e (headSpec (Cond.code y_O_make c_O_make 5 (some .int) :: wsG) ({ frames := 4, cells := 0, slots := 0, locals := 92 } : Room)).room s m ([.ref (ad 3), .ref (ad 2), .int a2] : List Value).toArray below meth c s.heap [] 0 0 (MQ below (va_Qi post (kBC D ad cA cB) (kAC ad s.heap.size)) ([.ref (ad 3), .ref (ad 2), .int a2] : List Value).toArray s 0 0 (kAC ad s.heap.size)) (F0 m 0 ls [])
  suffices k : W p l e (headSpec (Cond.code y_O_make c_O_make 5 (some .int) :: wsG) ({ frames := 4, cells := 0, slots := 0, locals := 92 } : Room)).room s m ([.ref (ad 3), .ref (ad 2), .int a2] : List Value).toArray below meth c H [] 0 0 (MQ below (va_Qi post (kBC D ad cA cB) (kAC ad s.heap.size)) ([.ref (ad 3), .ref (ad 2), .int a2] : List Value).toArray s 0 0 (kAC ad s.heap.size)) (F0 m 0 ls []) by rw [eH] at k; exact k
  refine lv_aload_n hx hb d_O_make_0 rfl (lv_at hl 0 rfl) ?_
  refine lv_iload_n hx hb d_O_make_1 rfl (lv_at hl 2 rfl) ?_
  refine va_put (D := D) (ci := 1) (v := .int a2) (ty := .int) (C := RX1) (T := TX1) (N := 14) hx hb htg inG_X1 tyX1 tyX1_ok nmX1 hown hK hP (hD _) hS 3 rfl rfl 2 (by decide) (htg _ m_175) (fun _ h9 => h9) rfl (by decide +kernel) rfl rfl (Nat.le_of_ble_eq_true rfl) d_O_make_2 (fun H locs hP _ hS => ?_)
  obtain ⟨σ1, eσ1⟩ : ∃ z : S0, z = st σ 0 8 a2 := ⟨_, rfl⟩
  have hP : va_P D vwCl (wC ad cA cB σ1) H := by rw [eσ1]; exact hP
  have h := h σ1 eσ1
  refine lv_aload_n hx hb d_O_make_5 rfl (lv_at hl 0 rfl) ?_
  refine lv_aload_n hx hb d_O_make_6 rfl (lv_at hl 1 rfl) ?_
  refine va_get (D := D) (ci := 2) (v := .int (σ1 0 5)) (C := RX2) (T := TX2) (N := 10) hx hb htg inG_X2 hown hK hP 2 rfl rfl 4 (by decide) (htg _ m_133) (fun _ h9 => h9) rfl d_O_make_7 ?_
  refine va_put (D := D) (ci := 1) (v := .int (σ1 0 5)) (ty := .int) (C := RX1) (T := TX1) (N := 14) hx hb htg inG_X1 tyX1 tyX1_ok nmX1 hown hK hP (hD _) hS 3 rfl rfl 11 (by decide) (htg _ m_185) (fun _ h9 => h9) rfl (by decide +kernel) rfl rfl (Nat.le_of_ble_eq_true rfl) d_O_make_10 (fun H locs hP _ hS => ?_)
  obtain ⟨σ2, eσ2⟩ : ∃ z : S0, z = st σ1 0 9 (σ1 0 5) := ⟨_, rfl⟩
  have hP : va_P D vwCl (wC ad cA cB σ2) H := by rw [eσ2]; exact hP
  have h := h σ2 eσ2
  refine lv_aload_n hx hb d_O_make_13 rfl (lv_at hl 0 rfl) ?_
  refine lv_aload_n hx hb d_O_make_14 rfl (lv_at hl 1 rfl) ?_
  refine kC_v (va_runV (As := [.ref (ad 2)]) (rest := []) ⟨hx, hb, hml, hown, htg⟩ (met_O_layMarks l D ad cA cB hap σ2 H.size _ h) (cwV 1 htg (kG (kG_V m_465 m_467 m_9 m_56 (kG_self m_468))) rfl rfl rfl (by decide +kernel) ⟨Nat.le_of_ble_eq_true rfl, Nat.le_of_ble_eq_true rfl⟩) (kC_preV hK hF hP hS 3 rfl rfl _) rfl rfl hl.1 rfl (lv_room (Nat.le_of_ble_eq_true rfl)) d_O_make_15 ⟨Nat.le_of_ble_eq_true rfl, Nat.le_of_ble_eq_true rfl⟩) hS (fun σ3 H locs h hP hS => ?_)
  refine lv_aload_n hx hb d_O_make_18 rfl (lv_at hl 0 rfl) ?_
  refine lv_aload_n hx hb d_O_make_19 rfl (lv_at hl 1 rfl) ?_
  refine kC_v (va_runV (As := [.ref (ad 2)]) (rest := []) ⟨hx, hb, hml, hown, htg⟩ (met_O_layPieces l D ad cA cB hap σ3 H.size _ h) (cwV 1 htg (kG (kG_V m_483 m_485 m_12 m_56 (kG_self m_486))) rfl rfl rfl (by decide +kernel) ⟨Nat.le_of_ble_eq_true rfl, Nat.le_of_ble_eq_true rfl⟩) (kC_preV hK hF hP hS 3 rfl rfl _) rfl rfl hl.1 rfl (lv_room (Nat.le_of_ble_eq_true rfl)) d_O_make_20 ⟨Nat.le_of_ble_eq_true rfl, Nat.le_of_ble_eq_true rfl⟩) hS (fun σ4 H locs h hP hS => ?_)
  refine lv_aload_n hx hb d_O_make_23 rfl (lv_at hl 0 rfl) ?_
  refine kC_i (va_runV (As := []) (rest := []) ⟨hx, hb, hml, hown, htg⟩ (met_O_countCrossings l D ad cA cB hap σ4 H.size _ h) (cwV 0 htg (kG (kG_V m_487 m_489 m_13 m_56 (kG_self m_490))) rfl rfl rfl (by decide +kernel) ⟨Nat.le_of_ble_eq_true rfl, Nat.le_of_ble_eq_true rfl⟩) (kC_preV hK hF hP hS 3 rfl rfl _) rfl rfl hl.1 rfl (lv_room (Nat.le_of_ble_eq_true rfl)) d_O_make_24 ⟨Nat.le_of_ble_eq_true rfl, Nat.le_of_ble_eq_true rfl⟩) hS (fun r6 σ5 H locs h hP hS => ?_)
  refine lv_istore_n (lv' := [(3, .int r6), (0, .ref (ad 3)), (1, .ref (ad 2)), (2, .int a2)]) hx hb d_O_make_27 rfl hl (by decide) rfl (fun ls hl => ?_)
  refine lv_aload_n hx hb d_O_make_28 rfl (lv_at hl 1 rfl) ?_
  refine va_get (D := D) (ci := 1) (v := .ref (ad 17)) (C := RX1) (T := TX1) (N := 14) hx hb htg inG_X1 hown hK hP 3 rfl rfl 1 (by decide) (htg _ m_173) (fun _ h9 => h9) rfl d_O_make_29 ?_
  refine lv_iconst (v := 0) hx hb d_O_make_32 (by decide) ?_
  refine lv_iload_n hx hb d_O_make_33 rfl (lv_at hl 0 rfl) ?_
  have hi := h.1
  have h := h.2
  refine va_iast hx hb hK hP (hD _) hS 17 0 rfl rfl hi d_O_make_34 (fun H locs hP _ hS => ?_)
  obtain ⟨σ7, eσ7⟩ : ∃ z : S0, z = st σ5 17 (0 : Int32).toNatClampNeg r6 := ⟨_, rfl⟩
  have hP : va_P D vwCl (wC ad cA cB σ7) H := by rw [eσ7]; exact hP
  have h := h σ7 eσ7
  refine lv_aload_n hx hb d_O_make_35 rfl (lv_at hl 1 rfl) ?_
  refine kC_v (va_runV (As := []) (rest := []) ⟨hx, hb, hml, hown, htg⟩ (met_O_keepBest l D ad cA cB hap σ7 H.size _ h) (cwV 0 htg (kG (kG_V m_495 m_497 m_15 m_56 (kG_self m_498))) rfl rfl rfl (by decide +kernel) ⟨Nat.le_of_ble_eq_true rfl, Nat.le_of_ble_eq_true rfl⟩) (kC_preV hK hF hP hS 3 rfl rfl _) rfl rfl hl.1 rfl (lv_room (Nat.le_of_ble_eq_true rfl)) d_O_make_36 ⟨Nat.le_of_ble_eq_true rfl, Nat.le_of_ble_eq_true rfl⟩) hS (fun σ8 H locs h hP hS => ?_)
  refine lv_iconst (v := 1) hx hb d_O_make_39 (by decide) ?_
  refine lv_istore (lv' := [(4, .int 1), (3, .int r6), (0, .ref (ad 3)), (1, .ref (ad 2)), (2, .int a2)]) hx hb d_O_make_40 hl (by decide) rfl (fun ls hl => ?_)
  rw [hG42] at h
  exact h _ _ _ hP hS (lv_sub hl [2, 1, 0] rfl)
set_option maxHeartbeats 4000000 in
set_option maxRecDepth 100000 in
theorem met_M_numbersOf (l : Launch) (D : va_G) (ad : Nat → Nat) (cA cB : ClassId) (hap : kapC ad) (σ : S0) (sz : Nat) (a1 : Int32) (post : Int32 → S0 → Prop) (h : Sp_M_numbersOf a1 σ post) : Met l y_M_numbersOf (Cond.code y_M_numbersOf c_M_numbersOf 2 (some .int) :: wsG) ({ frames := 1, cells := 0, slots := 0, locals := 21 } : Room) (kPcC D ad cA cB σ sz [.ref (ad 0), .int a1]) (va_Qi post (kBC D ad cA cB) (kAC ad sz)) 0 0 (kAC ad sz) := by
  refine Met.ofW (cc := c_M_numbersOf) (maxL := 2) (ret := (some .int)) (by decide) rfl ?_
  intro p e s m args below meth c s₁ B hml hv
  obtain ⟨rfl, hsz, hP, hK, hF⟩ := hv
  have hx := B.exec
  have hb := B.bytes
  have hr := B.returns
  have hts := atoms_spec (ws := (Cond.code y_M_numbersOf c_M_numbersOf 2 (some .int) :: wsG)) B.pre
  have htg : ∀ w ∈ wsG, w.before ([.ref (ad 0), .int a1] : List Value).toArray s = true := fun w h => hts w (List.mem_cons_of_mem _ h)
  have hown : s.vm.findClass RX3 = some m.cls := findClass_of_methodNamed B.named
  have hlocks := B.notSynchronized
  subst hsz
  have hD : ∀ σ, va_D (kAC ad s.heap.size) (wC ad cA cB σ) := fun σ => wC_D hap cA cB σ _
  have hS : va_S (kAC ad s.heap.size) s.heap s.heap [] := va_S.rf
  have hE := hF.1
  have hl := lv_entry ([.ref (ad 0), .int a1]) (n := 2) (Nat.le_of_ble_eq_true rfl)
  rw [lg_entry_eq]
  generalize (lg_sl ([.ref (ad 0), .int a1]) ++ List.replicate (2 - (lg_sl ([.ref (ad 0), .int a1])).length) Slot.unset).toArray = ls at hl ⊢
  have hl : lv_has ls 2 [(0, .ref (ad 0)), (1, .int a1)] := hl
  unfold Sp_M_numbersOf at h
  obtain ⟨H, eH⟩ : ∃ z, z = s.heap := ⟨_, rfl⟩
  have hP : va_P D vwCl (wC ad cA cB σ) H := by rw [eH]; exact hP
  have hS : va_S (kAC ad s.heap.size) s.heap H [] := by rw [eH]; exact hS
  show W p l e (headSpec (Cond.code y_M_numbersOf c_M_numbersOf 2 (some .int) :: wsG) ({ frames := 1, cells := 0, slots := 0, locals := 21 } : Room)).room s m ([.ref (ad 0), .int a1] : List Value).toArray below meth c s.heap [] 0 0 (MQ below (va_Qi post (kBC D ad cA cB) (kAC ad s.heap.size)) ([.ref (ad 0), .int a1] : List Value).toArray s 0 0 (kAC ad s.heap.size)) (F0 m 0 ls [])
  suffices k : W p l e (headSpec (Cond.code y_M_numbersOf c_M_numbersOf 2 (some .int) :: wsG) ({ frames := 1, cells := 0, slots := 0, locals := 21 } : Room)).room s m ([.ref (ad 0), .int a1] : List Value).toArray below meth c H [] 0 0 (MQ below (va_Qi post (kBC D ad cA cB) (kAC ad s.heap.size)) ([.ref (ad 0), .int a1] : List Value).toArray s 0 0 (kAC ad s.heap.size)) (F0 m 0 ls []) by rw [eH] at k; exact k
  refine lv_iconst (v := 2) hx hb d_M_numbersOf_0 (by decide) ?_
  refine lv_iconst (v := 2) hx hb d_M_numbersOf_1 (by decide) ?_
  refine lv_aload_n hx hb d_M_numbersOf_2 rfl (lv_at hl 0 rfl) ?_
  refine va_get (D := D) (ci := 3) (v := .ref (ad 2)) (C := RX3) (T := TX3) (N := 4) hx hb htg inG_X3 hown hK hP 0 rfl rfl 1 (by decide) (htg _ m_218) (fun _ h9 => h9) rfl d_M_numbersOf_3 ?_
  refine lv_iload_n hx hb d_M_numbersOf_6 rfl (lv_at hl 1 rfl) ?_
  refine kC_i (va_runV (As := [.int a1]) (rest := [.int 2, .int 2]) ⟨hx, hb, hml, hown, htg⟩ (met_P_bendsOf l D ad cA cB hap σ H.size a1 _ h) (cwV 1 htg (kG (kG_V m_573 m_458 m_459 m_55 (kG_self m_460))) rfl rfl rfl (by decide +kernel) ⟨Nat.le_of_ble_eq_true rfl, Nat.le_of_ble_eq_true rfl⟩) (kC_preV hK hF hP hS 2 rfl rfl _) rfl rfl hl.1 rfl (lv_room (Nat.le_of_ble_eq_true rfl)) d_M_numbersOf_7 ⟨Nat.le_of_ble_eq_true rfl, Nat.le_of_ble_eq_true rfl⟩) hS (fun r2 σ1 H locs h hP hS => ?_)
  refine lv_iconst (v := 2) hx hb d_M_numbersOf_10 (by decide) ?_
  refine lv_iadd hx hb d_M_numbersOf_11 ?_
  refine lv_imul hx hb d_M_numbersOf_12 ?_
  refine lv_iadd hx hb d_M_numbersOf_13 ?_
  exact W.iret (v := (2 + (2 * (r2 + 2)))) hx hb hr (fun t ht hW => ⟨⟨_, σ1, rfl, h, kBC_of ht hP⟩, hS.F ht⟩) hS.2.2 d_M_numbersOf_14 hlocks
set_option maxHeartbeats 4000000 in
set_option maxRecDepth 100000 in
theorem met_M_numberOfLinks (l : Launch) (D : va_G) (ad : Nat → Nat) (cA cB : ClassId) (hap : kapC ad) (σ : S0) (sz : Nat) (a1 : Int32) (post : Int32 → S0 → Prop) (h : Sp_M_numberOfLinks a1 σ post) : Met l y_M_numberOfLinks (Cond.code y_M_numberOfLinks c_M_numberOfLinks 5 (some .int) :: wsG) ({ frames := 2, cells := 0, slots := 0, locals := 43 } : Room) (kPcC D ad cA cB σ sz [.ref (ad 0), .int a1]) (va_Qi post (kBC D ad cA cB) (kAC ad sz)) 0 0 (kAC ad sz) := by
  refine Met.ofW (cc := c_M_numberOfLinks) (maxL := 5) (ret := (some .int)) (by decide) rfl ?_
  intro p e s m args below meth c s₁ B hml hv
  obtain ⟨rfl, hsz, hP, hK, hF⟩ := hv
  have hx := B.exec
  have hb := B.bytes
  have hr := B.returns
  have hts := atoms_spec (ws := (Cond.code y_M_numberOfLinks c_M_numberOfLinks 5 (some .int) :: wsG)) B.pre
  have htg : ∀ w ∈ wsG, w.before ([.ref (ad 0), .int a1] : List Value).toArray s = true := fun w h => hts w (List.mem_cons_of_mem _ h)
  have hown : s.vm.findClass RX3 = some m.cls := findClass_of_methodNamed B.named
  have hlocks := B.notSynchronized
  subst hsz
  have hD : ∀ σ, va_D (kAC ad s.heap.size) (wC ad cA cB σ) := fun σ => wC_D hap cA cB σ _
  have hS : va_S (kAC ad s.heap.size) s.heap s.heap [] := va_S.rf
  have hE := hF.1
  have hl := lv_entry ([.ref (ad 0), .int a1]) (n := 5) (Nat.le_of_ble_eq_true rfl)
  rw [lg_entry_eq]
  generalize (lg_sl ([.ref (ad 0), .int a1]) ++ List.replicate (5 - (lg_sl ([.ref (ad 0), .int a1])).length) Slot.unset).toArray = ls at hl ⊢
  have hl : lv_has ls 5 [(0, .ref (ad 0)), (1, .int a1)] := hl
  unfold Sp_M_numberOfLinks at h
  obtain ⟨G4, hG4⟩ : ∃ G : Int32 → Int32 → S0 → Prop, G = fun (x2 x3 : Int32) (σ : S0) => ∀ (H : Heap) (locs : List Loc) (ls : Array Slot), va_P D vwCl (wC ad cA cB σ) H → va_S (kAC ad s.heap.size) s.heap H locs → lv_has ls 5 [(0, .ref (ad 0)), (2, .int x2), (3, .int x3)] → W p l e (headSpec (Cond.code y_M_numberOfLinks c_M_numberOfLinks 5 (some .int) :: wsG) ({ frames := 2, cells := 0, slots := 0, locals := 43 } : Room)).room s m ([.ref (ad 0), .int a1] : List Value).toArray below meth c H locs 0 0 (MQ below (va_Qi post (kBC D ad cA cB) (kAC ad s.heap.size)) ([.ref (ad 0), .int a1] : List Value).toArray s 0 0 (kAC ad s.heap.size)) (F0 m 4 ls []) := ⟨_, rfl⟩
  obtain ⟨G40, hG40⟩ : ∃ G : Int32 → Int32 → S0 → Prop, G = fun (x2 x3 : Int32) (σ : S0) => ∀ (H : Heap) (locs : List Loc) (ls : Array Slot), va_P D vwCl (wC ad cA cB σ) H → va_S (kAC ad s.heap.size) s.heap H locs → lv_has ls 5 [(0, .ref (ad 0)), (2, .int x2), (3, .int x3)] → W p l e (headSpec (Cond.code y_M_numberOfLinks c_M_numberOfLinks 5 (some .int) :: wsG) ({ frames := 2, cells := 0, slots := 0, locals := 43 } : Room)).room s m ([.ref (ad 0), .int a1] : List Value).toArray below meth c H locs 0 0 (MQ below (va_Qi post (kBC D ad cA cB) (kAC ad s.heap.size)) ([.ref (ad 0), .int a1] : List Value).toArray s 0 0 (kAC ad s.heap.size)) (F0 m 40 ls []) := ⟨_, rfl⟩
  have h := h G4 G40
  have h := h (by
    intro x2 x3 σ h
    rw [hG4]
    intro H locs ls hP hS hl
    refine lv_iload_n hx hb d_M_numberOfLinks_4 rfl (lv_at hl 2 rfl) ?_
    refine lv_aload_n hx hb d_M_numberOfLinks_5 rfl (lv_at hl 0 rfl) ?_
    refine va_get (D := D) (ci := 3) (v := .ref (ad 2)) (C := RX3) (T := TX3) (N := 4) hx hb htg inG_X3 hown hK hP 0 rfl rfl 1 (by decide) (htg _ m_218) (fun _ h9 => h9) rfl d_M_numberOfLinks_6 ?_
    refine va_get (D := D) (ci := 2) (v := .int (σ 0 6)) (C := RX2) (T := TX2) (N := 10) hx hb htg inG_X2 hown hK hP 2 rfl rfl 5 (by decide) (htg _ m_138) (fun _ h9 => h9) rfl d_M_numberOfLinks_9 ?_
    refine lv_iconst (v := 1) hx hb d_M_numberOfLinks_12 (by decide) ?_
    refine lv_isub hx hb d_M_numberOfLinks_13 ?_
    refine lv_icmp_ge (tgt := 40) hx hb d_M_numberOfLinks_14 (by decide) (fun cn => ?_) (fun cn => ?_)
    · have h := h.1 cn
      rw [hG40] at h
      exact h _ _ _ hP hS (lv_sub hl [0, 1, 2] rfl)
    · have h := h.2 cn
      refine lv_iload_n hx hb d_M_numberOfLinks_17 rfl (lv_at hl 1 rfl) ?_
      refine lv_aload_n hx hb d_M_numberOfLinks_18 rfl (lv_at hl 0 rfl) ?_
      refine lv_iload_n hx hb d_M_numberOfLinks_19 rfl (lv_at hl 2 rfl) ?_
      refine kC_i (va_runV (As := [.int x3]) (rest := [.int x2]) ⟨hx, hb, hml, hown, htg⟩ (met_M_numbersOf l D ad cA cB hap σ H.size x3 _ h) (cwV 1 htg (kG (kG_V m_600 m_602 m_25 m_53 (kG_self m_603))) rfl rfl rfl (by decide +kernel) ⟨Nat.le_of_ble_eq_true rfl, Nat.le_of_ble_eq_true rfl⟩) (kC_preV hK hF hP hS 0 rfl rfl _) rfl rfl hl.1 rfl (lv_room (Nat.le_of_ble_eq_true rfl)) d_M_numberOfLinks_20 ⟨Nat.le_of_ble_eq_true rfl, Nat.le_of_ble_eq_true rfl⟩) hS (fun r2 σ1 H locs h hP hS => ?_)
      refine lv_icmp_lt (tgt := 40) hx hb d_M_numberOfLinks_23 (by decide) (fun cn => ?_) (fun cn => ?_)
      · have h := h.1 cn
        rw [hG40] at h
        exact h _ _ _ hP hS (lv_sub hl [0, 1, 2] rfl)
      · have h := h.2 cn
        refine lv_iload_n hx hb d_M_numberOfLinks_26 rfl (lv_at hl 1 rfl) ?_
        refine lv_aload_n hx hb d_M_numberOfLinks_27 rfl (lv_at hl 0 rfl) ?_
        refine lv_iload_n hx hb d_M_numberOfLinks_28 rfl (lv_at hl 2 rfl) ?_
        refine kC_i (va_runV (As := [.int x3]) (rest := [.int x2]) ⟨hx, hb, hml, hown, htg⟩ (met_M_numbersOf l D ad cA cB hap σ1 H.size x3 _ h) (cwV 1 htg (kG (kG_V m_600 m_602 m_25 m_53 (kG_self m_603))) rfl rfl rfl (by decide +kernel) ⟨Nat.le_of_ble_eq_true rfl, Nat.le_of_ble_eq_true rfl⟩) (kC_preV hK hF hP hS 0 rfl rfl _) rfl rfl hl.1 rfl (lv_room (Nat.le_of_ble_eq_true rfl)) d_M_numberOfLinks_29 ⟨Nat.le_of_ble_eq_true rfl, Nat.le_of_ble_eq_true rfl⟩) hS (fun r4 σ3 H locs h hP hS => ?_)
        refine lv_isub hx hb d_M_numberOfLinks_32 ?_
        refine lv_topi (fun v5 ev5 => ?_)
        have h := h v5 ev5
        refine lv_istore_n (lv' := [(2, .int v5), (0, .ref (ad 0)), (3, .int x3)]) hx hb d_M_numberOfLinks_33 rfl hl (by decide) rfl (fun ls hl => ?_)
        refine lv_iinc (v := (x3 + 1)) (lv' := [(3, .int (x3 + 1)), (2, .int v5), (0, .ref (ad 0))]) hx hb d_M_numberOfLinks_34 hl (k := 2) rfl rfl (by decide) rfl (fun ls hl => ?_)
        refine lv_goto (tgt := 4) hx hb d_M_numberOfLinks_37 (by decide) ?_
        rw [hG4] at h
        exact h _ _ _ hP hS (lv_sub hl [2, 1, 0] rfl))
  have h := h (by
    intro x2 x3 σ h
    rw [hG40]
    intro H locs ls hP hS hl
    refine lv_iload_n hx hb d_M_numberOfLinks_40 rfl (lv_at hl 1 rfl) ?_
    refine lv_if_ne (tgt := 46) hx hb d_M_numberOfLinks_41 (by decide) (fun cn => ?_) (fun cn => ?_)
    · have h := h.1 cn
      refine lv_iload_n hx hb d_M_numberOfLinks_46 rfl (lv_at hl 1 rfl) ?_
      refine lv_iconst (v := 1) hx hb d_M_numberOfLinks_47 (by decide) ?_
      refine lv_icmp_ne (tgt := 62) hx hb d_M_numberOfLinks_48 (by decide) (fun cn => ?_) (fun cn => ?_)
      · have h := h.1 cn
        refine lv_iload_n hx hb d_M_numberOfLinks_62 rfl (lv_at hl 1 rfl) ?_
        refine lv_iconst (v := 2) hx hb d_M_numberOfLinks_63 (by decide) ?_
        refine lv_isub hx hb d_M_numberOfLinks_64 ?_
        refine lv_iconst (v := 2) hx hb d_M_numberOfLinks_65 (by decide) ?_
        refine lv_idiv hx hb d_M_numberOfLinks_66 (by decide) ?_
        refine lv_topi (fun v6 ev6 => ?_)
        have h := h v6 ev6
        refine lv_istore (lv' := [(4, .int v6), (0, .ref (ad 0)), (2, .int x2), (3, .int x3)]) hx hb d_M_numberOfLinks_67 hl (by decide) rfl (fun ls hl => ?_)
        refine lv_iload_n hx hb d_M_numberOfLinks_69 rfl (lv_at hl 2 rfl) ?_
        refine lv_iconst (v := 2) hx hb d_M_numberOfLinks_70 (by decide) ?_
        refine lv_irem hx hb d_M_numberOfLinks_71 (by decide) ?_
        refine lv_if_ne (tgt := 97) hx hb d_M_numberOfLinks_72 (by decide) (fun cn => ?_) (fun cn => ?_)
        · have h := h.1 cn
          refine lv_bipush (v := 16) hx hb d_M_numberOfLinks_97 (by decide) ?_
          refine lv_aload_n hx hb d_M_numberOfLinks_99 rfl (lv_at hl 1 rfl) ?_
          refine va_get (D := D) (ci := 3) (v := .ref (ad 2)) (C := RX3) (T := TX3) (N := 4) hx hb htg inG_X3 hown hK hP 0 rfl rfl 1 (by decide) (htg _ m_218) (fun _ h9 => h9) rfl d_M_numberOfLinks_100 ?_
          refine va_get (D := D) (ci := 2) (v := .ref (ad 10)) (C := RX2) (T := TX2) (N := 10) hx hb htg inG_X2 hown hK hP 2 rfl rfl 0 (by decide) (htg _ m_124) (fun _ h9 => h9) rfl d_M_numberOfLinks_103 ?_
          refine lv_aload_n hx hb d_M_numberOfLinks_106 rfl (lv_at hl 1 rfl) ?_
          refine va_get (D := D) (ci := 3) (v := .ref (ad 2)) (C := RX3) (T := TX3) (N := 4) hx hb htg inG_X3 hown hK hP 0 rfl rfl 1 (by decide) (htg _ m_218) (fun _ h9 => h9) rfl d_M_numberOfLinks_107 ?_
          refine va_get (D := D) (ci := 2) (v := .ref (ad 11)) (C := RX2) (T := TX2) (N := 10) hx hb htg inG_X2 hown hK hP 2 rfl rfl 1 (by decide) (htg _ m_127) (fun _ h9 => h9) rfl d_M_numberOfLinks_110 ?_
          refine lv_iload_n hx hb d_M_numberOfLinks_113 rfl (lv_at hl 3 rfl) ?_
          have hi := h.1
          have h := h.2
          refine va_iald hx hb hK hP 11 0 rfl rfl hi d_M_numberOfLinks_114 ?_
          have hi := h.1
          have h := h.2
          refine va_iald hx hb hK hP 10 0 rfl rfl hi d_M_numberOfLinks_115 ?_
          refine lv_iload hx hb d_M_numberOfLinks_116 (lv_at hl 0 rfl) ?_
          refine lv_iadd hx hb d_M_numberOfLinks_118 ?_
          refine lv_imul hx hb d_M_numberOfLinks_119 ?_
          exact W.iret (v := (16 * ((σ 10 (σ 11 x3.toNatClampNeg).toNatClampNeg) + v6))) hx hb hr (fun t ht hW => ⟨⟨_, σ, rfl, h, kBC_of ht hP⟩, hS.F ht⟩) hS.2.2 d_M_numberOfLinks_120 hlocks
        · have h := h.2 cn
          refine lv_bipush (v := 16) hx hb d_M_numberOfLinks_75 (by decide) ?_
          refine lv_aload_n hx hb d_M_numberOfLinks_77 rfl (lv_at hl 1 rfl) ?_
          refine va_get (D := D) (ci := 3) (v := .ref (ad 3)) (C := RX3) (T := TX3) (N := 4) hx hb htg inG_X3 hown hK hP 0 rfl rfl 2 (by decide) (htg _ m_219) (fun _ h9 => h9) rfl d_M_numberOfLinks_78 ?_
          refine va_get (D := D) (ci := 1) (v := .ref (ad 16)) (C := RX1) (T := TX1) (N := 14) hx hb htg inG_X1 hown hK hP 3 rfl rfl 0 (by decide) (htg _ m_172) (fun _ h9 => h9) rfl d_M_numberOfLinks_81 ?_
          refine lv_aload_n hx hb d_M_numberOfLinks_84 rfl (lv_at hl 1 rfl) ?_
          refine va_get (D := D) (ci := 3) (v := .ref (ad 2)) (C := RX3) (T := TX3) (N := 4) hx hb htg inG_X3 hown hK hP 0 rfl rfl 1 (by decide) (htg _ m_218) (fun _ h9 => h9) rfl d_M_numberOfLinks_85 ?_
          refine lv_iload_n hx hb d_M_numberOfLinks_88 rfl (lv_at hl 3 rfl) ?_
          refine lv_iload hx hb d_M_numberOfLinks_89 (lv_at hl 0 rfl) ?_
          refine kC_i (va_runV (As := [.int x3, .int v6]) (rest := [.ref (ad 16), .int 16]) ⟨hx, hb, hml, hown, htg⟩ (met_P_pointOf l D ad cA cB hap σ H.size x3 v6 _ h) (cwV 2 htg (kG (kG_V m_574 m_476 m_477 m_55 (kG_self m_478))) rfl rfl rfl (by decide +kernel) ⟨Nat.le_of_ble_eq_true rfl, Nat.le_of_ble_eq_true rfl⟩) (kC_preV hK hF hP hS 2 rfl rfl _) rfl rfl hl.1 rfl (lv_room (Nat.le_of_ble_eq_true rfl)) d_M_numberOfLinks_91 ⟨Nat.le_of_ble_eq_true rfl, Nat.le_of_ble_eq_true rfl⟩) hS (fun r8 σ7 H locs h hP hS => ?_)
          have hi := h.1
          have h := h.2
          refine va_iald hx hb hK hP 16 0 rfl rfl hi d_M_numberOfLinks_94 ?_
          refine lv_imul hx hb d_M_numberOfLinks_95 ?_
          exact W.iret (v := (16 * (σ7 16 r8.toNatClampNeg))) hx hb hr (fun t ht hW => ⟨⟨_, σ7, rfl, h, kBC_of ht hP⟩, hS.F ht⟩) hS.2.2 d_M_numberOfLinks_96 hlocks
      · have h := h.2 cn
        refine lv_aload_n hx hb d_M_numberOfLinks_51 rfl (lv_at hl 0 rfl) ?_
        refine va_get (D := D) (ci := 3) (v := .ref (ad 2)) (C := RX3) (T := TX3) (N := 4) hx hb htg inG_X3 hown hK hP 0 rfl rfl 1 (by decide) (htg _ m_218) (fun _ h9 => h9) rfl d_M_numberOfLinks_52 ?_
        refine lv_iload_n hx hb d_M_numberOfLinks_55 rfl (lv_at hl 2 rfl) ?_
        refine kC_i (va_runV (As := [.int x3]) (rest := []) ⟨hx, hb, hml, hown, htg⟩ (met_P_bendsOf l D ad cA cB hap σ H.size x3 _ h) (cwV 1 htg (kG (kG_V m_573 m_458 m_459 m_55 (kG_self m_460))) rfl rfl rfl (by decide +kernel) ⟨Nat.le_of_ble_eq_true rfl, Nat.le_of_ble_eq_true rfl⟩) (kC_preV hK hF hP hS 2 rfl rfl _) rfl rfl hl.1 rfl (lv_room (Nat.le_of_ble_eq_true rfl)) d_M_numberOfLinks_56 ⟨Nat.le_of_ble_eq_true rfl, Nat.le_of_ble_eq_true rfl⟩) hS (fun r10 σ9 H locs h hP hS => ?_)
        refine lv_iconst (v := 2) hx hb d_M_numberOfLinks_59 (by decide) ?_
        refine lv_iadd hx hb d_M_numberOfLinks_60 ?_
        exact W.iret (v := (r10 + 2)) hx hb hr (fun t ht hW => ⟨⟨_, σ9, rfl, h, kBC_of ht hP⟩, hS.F ht⟩) hS.2.2 d_M_numberOfLinks_61 hlocks
    · have h := h.2 cn
      refine lv_iconst (v := 2) hx hb d_M_numberOfLinks_44 (by decide) ?_
      exact W.iret (v := 2) hx hb hr (fun t ht hW => ⟨⟨_, σ, rfl, h, kBC_of ht hP⟩, hS.F ht⟩) hS.2.2 d_M_numberOfLinks_45 hlocks)
  obtain ⟨H, eH⟩ : ∃ z, z = s.heap := ⟨_, rfl⟩
  have hP : va_P D vwCl (wC ad cA cB σ) H := by rw [eH]; exact hP
  have hS : va_S (kAC ad s.heap.size) s.heap H [] := by rw [eH]; exact hS
  show W p l e (headSpec (Cond.code y_M_numberOfLinks c_M_numberOfLinks 5 (some .int) :: wsG) ({ frames := 2, cells := 0, slots := 0, locals := 43 } : Room)).room s m ([.ref (ad 0), .int a1] : List Value).toArray below meth c s.heap [] 0 0 (MQ below (va_Qi post (kBC D ad cA cB) (kAC ad s.heap.size)) ([.ref (ad 0), .int a1] : List Value).toArray s 0 0 (kAC ad s.heap.size)) (F0 m 0 ls [])
  suffices k : W p l e (headSpec (Cond.code y_M_numberOfLinks c_M_numberOfLinks 5 (some .int) :: wsG) ({ frames := 2, cells := 0, slots := 0, locals := 43 } : Room)).room s m ([.ref (ad 0), .int a1] : List Value).toArray below meth c H [] 0 0 (MQ below (va_Qi post (kBC D ad cA cB) (kAC ad s.heap.size)) ([.ref (ad 0), .int a1] : List Value).toArray s 0 0 (kAC ad s.heap.size)) (F0 m 0 ls []) by rw [eH] at k; exact k
  refine lv_iload_n hx hb d_M_numberOfLinks_0 rfl (lv_at hl 1 rfl) ?_
  refine lv_istore_n (lv' := [(2, .int a1), (0, .ref (ad 0)), (1, .int a1)]) hx hb d_M_numberOfLinks_1 rfl hl (by decide) rfl (fun ls hl => ?_)
  refine lv_iconst (v := 0) hx hb d_M_numberOfLinks_2 (by decide) ?_
  refine lv_istore_n (lv' := [(3, .int 0), (2, .int a1), (0, .ref (ad 0)), (1, .int a1)]) hx hb d_M_numberOfLinks_3 rfl hl (by decide) rfl (fun ls hl => ?_)
  rw [hG4] at h
  exact h _ _ _ hP hS (lv_sub hl [2, 1, 0] rfl)
set_option maxHeartbeats 4000000 in
set_option maxRecDepth 100000 in
theorem met_O_groupAt (l : Launch) (D : va_G) (ad : Nat → Nat) (cA cB : ClassId) (hap : kapC ad) (σ : S0) (sz : Nat) (a1 : Int32) (post : Int32 → S0 → Prop) (h : Sp_O_groupAt a1 σ post) : Met l y_O_groupAt (Cond.code y_O_groupAt c_O_groupAt 4 (some .int) :: wsG) ({ frames := 0, cells := 0, slots := 0, locals := 0 } : Room) (kPcC D ad cA cB σ sz [.ref (ad 3), .int a1]) (va_Qi post (kBC D ad cA cB) (kAC ad sz)) 0 0 (kAC ad sz) := by
  refine Met.ofW (cc := c_O_groupAt) (maxL := 4) (ret := (some .int)) (by decide) rfl ?_
  intro p e s m args below meth c s₁ B hml hv
  obtain ⟨rfl, hsz, hP, hK, hF⟩ := hv
  have hx := B.exec
  have hb := B.bytes
  have hr := B.returns
  have hts := atoms_spec (ws := (Cond.code y_O_groupAt c_O_groupAt 4 (some .int) :: wsG)) B.pre
  have htg : ∀ w ∈ wsG, w.before ([.ref (ad 3), .int a1] : List Value).toArray s = true := fun w h => hts w (List.mem_cons_of_mem _ h)
  have hown : s.vm.findClass RX1 = some m.cls := findClass_of_methodNamed B.named
  have hlocks := B.notSynchronized
  subst hsz
  have hD : ∀ σ, va_D (kAC ad s.heap.size) (wC ad cA cB σ) := fun σ => wC_D hap cA cB σ _
  have hS : va_S (kAC ad s.heap.size) s.heap s.heap [] := va_S.rf
  have hE := hF.1
  have hl := lv_entry ([.ref (ad 3), .int a1]) (n := 4) (Nat.le_of_ble_eq_true rfl)
  rw [lg_entry_eq]
  generalize (lg_sl ([.ref (ad 3), .int a1]) ++ List.replicate (4 - (lg_sl ([.ref (ad 3), .int a1])).length) Slot.unset).toArray = ls at hl ⊢
  have hl : lv_has ls 4 [(0, .ref (ad 3)), (1, .int a1)] := hl
  unfold Sp_O_groupAt at h
  obtain ⟨G4, hG4⟩ : ∃ G : Int32 → Int32 → S0 → Prop, G = fun (x2 x3 : Int32) (σ : S0) => ∀ (H : Heap) (locs : List Loc) (ls : Array Slot), va_P D vwCl (wC ad cA cB σ) H → va_S (kAC ad s.heap.size) s.heap H locs → lv_has ls 4 [(0, .ref (ad 3)), (2, .int x2), (3, .int x3)] → W p l e (headSpec (Cond.code y_O_groupAt c_O_groupAt 4 (some .int) :: wsG) ({ frames := 0, cells := 0, slots := 0, locals := 0 } : Room)).room s m ([.ref (ad 3), .int a1] : List Value).toArray below meth c H locs 0 0 (MQ below (va_Qi post (kBC D ad cA cB) (kAC ad s.heap.size)) ([.ref (ad 3), .int a1] : List Value).toArray s 0 0 (kAC ad s.heap.size)) (F0 m 4 ls []) := ⟨_, rfl⟩
  have h := h G4
  have h := h (by
    intro x2 x3 σ h
    rw [hG4]
    intro H locs ls hP hS hl
    refine lv_iload_n hx hb d_O_groupAt_4 rfl (lv_at hl 2 rfl) ?_
    refine lv_aload_n hx hb d_O_groupAt_5 rfl (lv_at hl 0 rfl) ?_
    refine va_get (D := D) (ci := 1) (v := .int (σ 0 10)) (C := RX1) (T := TX1) (N := 14) hx hb htg inG_X1 hown hK hP 3 rfl rfl 12 (by decide) (htg _ m_186) (fun _ h9 => h9) rfl d_O_groupAt_6 ?_
    refine lv_icmp_ge (tgt := 43) hx hb d_O_groupAt_9 (by decide) (fun cn => ?_) (fun cn => ?_)
    · have h := h.1 cn
      refine lv_iconst (v := 0) hx hb d_O_groupAt_43 (by decide) ?_
      exact W.iret (v := 0) hx hb hr (fun t ht hW => ⟨⟨_, σ, rfl, h, kBC_of ht hP⟩, hS.F ht⟩) hS.2.2 d_O_groupAt_44 hlocks
    · have h := h.2 cn
      refine lv_aload_n hx hb d_O_groupAt_12 rfl (lv_at hl 0 rfl) ?_
      refine va_get (D := D) (ci := 1) (v := .ref (ad 18)) (C := RX1) (T := TX1) (N := 14) hx hb htg inG_X1 hown hK hP 3 rfl rfl 3 (by decide) (htg _ m_177) (fun _ h9 => h9) rfl d_O_groupAt_13 ?_
      refine lv_iload_n hx hb d_O_groupAt_16 rfl (lv_at hl 2 rfl) ?_
      have hi := h.1
      have h := h.2
      refine va_iald hx hb hK hP 18 0 rfl rfl hi d_O_groupAt_17 ?_
      refine lv_bipush (v := 16) hx hb d_O_groupAt_18 (by decide) ?_
      refine lv_icmp_ge (tgt := 37) hx hb d_O_groupAt_20 (by decide) (fun cn => ?_) (fun cn => ?_)
      · have h := h.1 cn
        refine lv_iinc (v := (x3 + 1)) (lv' := [(3, .int (x3 + 1)), (0, .ref (ad 3)), (2, .int x2)]) hx hb d_O_groupAt_37 hl (k := 2) rfl rfl (by decide) rfl (fun ls hl => ?_)
        refine lv_goto (tgt := 4) hx hb d_O_groupAt_40 (by decide) ?_
        rw [hG4] at h
        exact h _ _ _ hP hS (lv_sub hl [1, 2, 0] rfl)
      · have h := h.2 cn
        refine lv_iload_n hx hb d_O_groupAt_23 rfl (lv_at hl 1 rfl) ?_
        refine lv_if_ne (tgt := 34) hx hb d_O_groupAt_24 (by decide) (fun cn => ?_) (fun cn => ?_)
        · have h := h.1 cn
          refine lv_iinc (v := (x2 + (-1))) (lv' := [(2, .int (x2 + (-1))), (0, .ref (ad 3)), (3, .int x3)]) hx hb d_O_groupAt_34 hl (k := 1) rfl rfl (by decide) rfl (fun ls hl => ?_)
          refine lv_iinc (v := (x3 + 1)) (lv' := [(3, .int (x3 + 1)), (2, .int (x2 + (-1))), (0, .ref (ad 3))]) hx hb d_O_groupAt_37 hl (k := 2) rfl rfl (by decide) rfl (fun ls hl => ?_)
          refine lv_goto (tgt := 4) hx hb d_O_groupAt_40 (by decide) ?_
          rw [hG4] at h
          exact h _ _ _ hP hS (lv_sub hl [2, 1, 0] rfl)
        · have h := h.2 cn
          refine lv_aload_n hx hb d_O_groupAt_27 rfl (lv_at hl 0 rfl) ?_
          refine va_get (D := D) (ci := 1) (v := .ref (ad 18)) (C := RX1) (T := TX1) (N := 14) hx hb htg inG_X1 hown hK hP 3 rfl rfl 3 (by decide) (htg _ m_177) (fun _ h9 => h9) rfl d_O_groupAt_28 ?_
          refine lv_iload_n hx hb d_O_groupAt_31 rfl (lv_at hl 2 rfl) ?_
          have hi := h.1
          have h := h.2
          refine va_iald hx hb hK hP 18 0 rfl rfl hi d_O_groupAt_32 ?_
          exact W.iret (v := (σ 18 x3.toNatClampNeg)) hx hb hr (fun t ht hW => ⟨⟨_, σ, rfl, h, kBC_of ht hP⟩, hS.F ht⟩) hS.2.2 d_O_groupAt_33 hlocks)
  obtain ⟨H, eH⟩ : ∃ z, z = s.heap := ⟨_, rfl⟩
  have hP : va_P D vwCl (wC ad cA cB σ) H := by rw [eH]; exact hP
  have hS : va_S (kAC ad s.heap.size) s.heap H [] := by rw [eH]; exact hS
  show W p l e (headSpec (Cond.code y_O_groupAt c_O_groupAt 4 (some .int) :: wsG) ({ frames := 0, cells := 0, slots := 0, locals := 0 } : Room)).room s m ([.ref (ad 3), .int a1] : List Value).toArray below meth c s.heap [] 0 0 (MQ below (va_Qi post (kBC D ad cA cB) (kAC ad s.heap.size)) ([.ref (ad 3), .int a1] : List Value).toArray s 0 0 (kAC ad s.heap.size)) (F0 m 0 ls [])
  suffices k : W p l e (headSpec (Cond.code y_O_groupAt c_O_groupAt 4 (some .int) :: wsG) ({ frames := 0, cells := 0, slots := 0, locals := 0 } : Room)).room s m ([.ref (ad 3), .int a1] : List Value).toArray below meth c H [] 0 0 (MQ below (va_Qi post (kBC D ad cA cB) (kAC ad s.heap.size)) ([.ref (ad 3), .int a1] : List Value).toArray s 0 0 (kAC ad s.heap.size)) (F0 m 0 ls []) by rw [eH] at k; exact k
  refine lv_iload_n hx hb d_O_groupAt_0 rfl (lv_at hl 1 rfl) ?_
  refine lv_istore_n (lv' := [(2, .int a1), (0, .ref (ad 3)), (1, .int a1)]) hx hb d_O_groupAt_1 rfl hl (by decide) rfl (fun ls hl => ?_)
  refine lv_iconst (v := 0) hx hb d_O_groupAt_2 (by decide) ?_
  refine lv_istore_n (lv' := [(3, .int 0), (2, .int a1), (0, .ref (ad 3)), (1, .int a1)]) hx hb d_O_groupAt_3 rfl hl (by decide) rfl (fun ls hl => ?_)
  rw [hG4] at h
  exact h _ _ _ hP hS (lv_sub hl [2, 1, 0] rfl)
set_option maxHeartbeats 4000000 in
set_option maxRecDepth 100000 in
theorem met_M_numberOfGroups (l : Launch) (D : va_G) (ad : Nat → Nat) (cA cB : ClassId) (hap : kapC ad) (σ : S0) (sz : Nat) (a1 : Int32) (post : Int32 → S0 → Prop) (h : Sp_M_numberOfGroups a1 σ post) : Met l y_M_numberOfGroups (Cond.code y_M_numberOfGroups c_M_numberOfGroups 3 (some .int) :: wsG) ({ frames := 1, cells := 0, slots := 0, locals := 23 } : Room) (kPcC D ad cA cB σ sz [.ref (ad 0), .int a1]) (va_Qi post (kBC D ad cA cB) (kAC ad sz)) 0 0 (kAC ad sz) := by
  refine Met.ofW (cc := c_M_numberOfGroups) (maxL := 3) (ret := (some .int)) (by decide) rfl ?_
  intro p e s m args below meth c s₁ B hml hv
  obtain ⟨rfl, hsz, hP, hK, hF⟩ := hv
  have hx := B.exec
  have hb := B.bytes
  have hr := B.returns
  have hts := atoms_spec (ws := (Cond.code y_M_numberOfGroups c_M_numberOfGroups 3 (some .int) :: wsG)) B.pre
  have htg : ∀ w ∈ wsG, w.before ([.ref (ad 0), .int a1] : List Value).toArray s = true := fun w h => hts w (List.mem_cons_of_mem _ h)
  have hown : s.vm.findClass RX3 = some m.cls := findClass_of_methodNamed B.named
  have hlocks := B.notSynchronized
  subst hsz
  have hD : ∀ σ, va_D (kAC ad s.heap.size) (wC ad cA cB σ) := fun σ => wC_D hap cA cB σ _
  have hS : va_S (kAC ad s.heap.size) s.heap s.heap [] := va_S.rf
  have hE := hF.1
  have hl := lv_entry ([.ref (ad 0), .int a1]) (n := 3) (Nat.le_of_ble_eq_true rfl)
  rw [lg_entry_eq]
  generalize (lg_sl ([.ref (ad 0), .int a1]) ++ List.replicate (3 - (lg_sl ([.ref (ad 0), .int a1])).length) Slot.unset).toArray = ls at hl ⊢
  have hl : lv_has ls 3 [(0, .ref (ad 0)), (1, .int a1)] := hl
  unfold Sp_M_numberOfGroups at h
  obtain ⟨H, eH⟩ : ∃ z, z = s.heap := ⟨_, rfl⟩
  have hP : va_P D vwCl (wC ad cA cB σ) H := by rw [eH]; exact hP
  have hS : va_S (kAC ad s.heap.size) s.heap H [] := by rw [eH]; exact hS
  show W p l e (headSpec (Cond.code y_M_numberOfGroups c_M_numberOfGroups 3 (some .int) :: wsG) ({ frames := 1, cells := 0, slots := 0, locals := 23 } : Room)).room s m ([.ref (ad 0), .int a1] : List Value).toArray below meth c s.heap [] 0 0 (MQ below (va_Qi post (kBC D ad cA cB) (kAC ad s.heap.size)) ([.ref (ad 0), .int a1] : List Value).toArray s 0 0 (kAC ad s.heap.size)) (F0 m 0 ls [])
  suffices k : W p l e (headSpec (Cond.code y_M_numberOfGroups c_M_numberOfGroups 3 (some .int) :: wsG) ({ frames := 1, cells := 0, slots := 0, locals := 23 } : Room)).room s m ([.ref (ad 0), .int a1] : List Value).toArray below meth c H [] 0 0 (MQ below (va_Qi post (kBC D ad cA cB) (kAC ad s.heap.size)) ([.ref (ad 0), .int a1] : List Value).toArray s 0 0 (kAC ad s.heap.size)) (F0 m 0 ls []) by rw [eH] at k; exact k
  refine lv_aload_n hx hb d_M_numberOfGroups_0 rfl (lv_at hl 0 rfl) ?_
  refine va_get (D := D) (ci := 3) (v := .ref (ad 3)) (C := RX3) (T := TX3) (N := 4) hx hb htg inG_X3 hown hK hP 0 rfl rfl 2 (by decide) (htg _ m_219) (fun _ h9 => h9) rfl d_M_numberOfGroups_1 ?_
  refine lv_iload_n hx hb d_M_numberOfGroups_4 rfl (lv_at hl 1 rfl) ?_
  refine lv_iconst (v := 4) hx hb d_M_numberOfGroups_5 (by decide) ?_
  refine lv_idiv hx hb d_M_numberOfGroups_6 (by decide) ?_
  refine kC_i (va_runV (As := [.int (a1 / 4)]) (rest := []) ⟨hx, hb, hml, hown, htg⟩ (met_O_groupAt l D ad cA cB hap σ H.size (a1 / 4) _ h) (cwV 1 htg (kG (kG_V m_592 m_593 m_594 m_56 (kG_self m_595))) rfl rfl rfl (by decide +kernel) ⟨Nat.le_of_ble_eq_true rfl, Nat.le_of_ble_eq_true rfl⟩) (kC_preV hK hF hP hS 3 rfl rfl _) rfl rfl hl.1 rfl (lv_room (Nat.le_of_ble_eq_true rfl)) d_M_numberOfGroups_7 ⟨Nat.le_of_ble_eq_true rfl, Nat.le_of_ble_eq_true rfl⟩) hS (fun r2 σ1 H locs h hP hS => ?_)
  refine lv_istore_n (lv' := [(2, .int r2), (0, .ref (ad 0)), (1, .int a1)]) hx hb d_M_numberOfGroups_10 rfl hl (by decide) rfl (fun ls hl => ?_)
  refine lv_iload_n hx hb d_M_numberOfGroups_11 rfl (lv_at hl 2 rfl) ?_
  refine lv_iconst (v := 4) hx hb d_M_numberOfGroups_12 (by decide) ?_
  refine lv_irem hx hb d_M_numberOfGroups_13 (by decide) ?_
  by_cases cn0 : (a1 - a1 / 4 * 4) = 0
  · have h := h.1.1 cn0
    refine lv_tableIn (tgt := 40) hx hb d_M_numberOfGroups_14 (by rw [cn0]; decide) (by rw [cn0]; decide) (by rw [cn0]; rfl) (by decide) ?_
    refine lv_iconst (v := 1) hx hb d_M_numberOfGroups_40 (by decide) ?_
    exact W.iret (v := 1) hx hb hr (fun t ht hW => ⟨⟨_, σ1, rfl, h, kBC_of ht hP⟩, hS.F ht⟩) hS.2.2 d_M_numberOfGroups_41 hlocks
  by_cases cn1 : (a1 - a1 / 4 * 4) = 1
  · have h := h.1.2.1 cn1
    refine lv_tableIn (tgt := 42) hx hb d_M_numberOfGroups_14 (by rw [cn1]; decide) (by rw [cn1]; decide) (by rw [cn1]; rfl) (by decide) ?_
    refine lv_iload_n hx hb d_M_numberOfGroups_42 rfl (lv_at hl 0 rfl) ?_
    exact W.iret (v := r2) hx hb hr (fun t ht hW => ⟨⟨_, σ1, rfl, h, kBC_of ht hP⟩, hS.F ht⟩) hS.2.2 d_M_numberOfGroups_43 hlocks
  by_cases cn2 : (a1 - a1 / 4 * 4) = 2
  · have h := h.1.2.2 cn2
    refine lv_tableIn (tgt := 44) hx hb d_M_numberOfGroups_14 (by rw [cn2]; decide) (by rw [cn2]; decide) (by rw [cn2]; rfl) (by decide) ?_
    refine lv_bipush (v := 16) hx hb d_M_numberOfGroups_44 (by decide) ?_
    refine lv_aload_n hx hb d_M_numberOfGroups_46 rfl (lv_at hl 1 rfl) ?_
    refine va_get (D := D) (ci := 3) (v := .ref (ad 3)) (C := RX3) (T := TX3) (N := 4) hx hb htg inG_X3 hown hK hP 0 rfl rfl 2 (by decide) (htg _ m_219) (fun _ h9 => h9) rfl d_M_numberOfGroups_47 ?_
    refine va_get (D := D) (ci := 1) (v := .ref (ad 16)) (C := RX1) (T := TX1) (N := 14) hx hb htg inG_X1 hown hK hP 3 rfl rfl 0 (by decide) (htg _ m_172) (fun _ h9 => h9) rfl d_M_numberOfGroups_50 ?_
    refine lv_iload_n hx hb d_M_numberOfGroups_53 rfl (lv_at hl 0 rfl) ?_
    have hi := h.1
    have h := h.2
    refine va_iald hx hb hK hP 16 0 rfl rfl hi d_M_numberOfGroups_54 ?_
    refine lv_imul hx hb d_M_numberOfGroups_55 ?_
    exact W.iret (v := (16 * (σ1 16 r2.toNatClampNeg))) hx hb hr (fun t ht hW => ⟨⟨_, σ1, rfl, h, kBC_of ht hP⟩, hS.F ht⟩) hS.2.2 d_M_numberOfGroups_56 hlocks
  have h := h.2 ⟨cn0, cn1, cn2⟩
  refine lv_tableOut (tgt := 57) hx hb d_M_numberOfGroups_14 (sw_out 2 (by decide) (fun j hj => by rcases Nat.lt_or_ge j 1 with q | q; (have : j = 0 := by omega); subst this; exact cn0; rcases Nat.lt_or_ge j 2 with q | q; (have : j = 1 := by omega); subst this; exact cn1; rcases Nat.lt_or_ge j 3 with q | q; (have : j = 2 := by omega); subst this; exact cn2; omega)) (by decide) ?_
  refine lv_bipush (v := 16) hx hb d_M_numberOfGroups_57 (by decide) ?_
  refine lv_aload_n hx hb d_M_numberOfGroups_59 rfl (lv_at hl 1 rfl) ?_
  refine va_get (D := D) (ci := 3) (v := .ref (ad 2)) (C := RX3) (T := TX3) (N := 4) hx hb htg inG_X3 hown hK hP 0 rfl rfl 1 (by decide) (htg _ m_218) (fun _ h9 => h9) rfl d_M_numberOfGroups_60 ?_
  refine va_get (D := D) (ci := 2) (v := .ref (ad 10)) (C := RX2) (T := TX2) (N := 10) hx hb htg inG_X2 hown hK hP 2 rfl rfl 0 (by decide) (htg _ m_124) (fun _ h9 => h9) rfl d_M_numberOfGroups_63 ?_
  refine lv_iload_n hx hb d_M_numberOfGroups_66 rfl (lv_at hl 0 rfl) ?_
  have hi := h.1
  have h := h.2
  refine va_iald hx hb hK hP 10 0 rfl rfl hi d_M_numberOfGroups_67 ?_
  refine lv_imul hx hb d_M_numberOfGroups_68 ?_
  exact W.iret (v := (16 * (σ1 10 r2.toNatClampNeg))) hx hb hr (fun t ht hW => ⟨⟨_, σ1, rfl, h, kBC_of ht hP⟩, hS.F ht⟩) hS.2.2 d_M_numberOfGroups_69 hlocks
end
