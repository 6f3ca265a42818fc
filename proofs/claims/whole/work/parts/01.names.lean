-- ===== PART A: goes FIRST, ahead of the names: the tables' words, and 'selects' of the private methods out of them =====
/-- a private method of a class that the tables say can be made, by its rows of tables_1 -/
def lw_okq (q : MethodName × Nat) : Prop := (q.1.cls ≠ "java/lang/invoke/MethodHandle" ∧ q.1.cls ≠ "java/lang/invoke/VarHandle") ∧ Cond.instantiable q.1.cls q.2 ∈ tables_1 ∧ Cond.privateMethod q.1 ∈ tables_1 ∧ Cond.instanceMethod q.1 ∈ tables_1
theorem lw_p0 : lw_okq (⟨"TabletCells$Batch", "takes", "(I)Z"⟩, 11) := ⟨⟨by decide +kernel, by decide +kernel⟩, List.mem_of_getElem? (i := 18) (by decide +kernel), List.mem_of_getElem? (i := 159) (by decide +kernel), List.mem_of_getElem? (i := 160) (by decide +kernel)⟩
theorem lw_p1 : lw_okq (⟨"TabletCells$Batch", "addCell", "(IIII)V"⟩, 11) := ⟨⟨by decide +kernel, by decide +kernel⟩, List.mem_of_getElem? (i := 18) (by decide +kernel), List.mem_of_getElem? (i := 163) (by decide +kernel), List.mem_of_getElem? (i := 164) (by decide +kernel)⟩
theorem lw_p2 : lw_okq (⟨"TabletCells$Batch", "addChange", "(III)V"⟩, 11) := ⟨⟨by decide +kernel, by decide +kernel⟩, List.mem_of_getElem? (i := 18) (by decide +kernel), List.mem_of_getElem? (i := 167) (by decide +kernel), List.mem_of_getElem? (i := 168) (by decide +kernel)⟩
theorem lw_p3 : lw_okq (⟨"TabletCells$Batch", "addErasure", "(III)V"⟩, 11) := ⟨⟨by decide +kernel, by decide +kernel⟩, List.mem_of_getElem? (i := 18) (by decide +kernel), List.mem_of_getElem? (i := 178) (by decide +kernel), List.mem_of_getElem? (i := 179) (by decide +kernel)⟩
theorem lw_p4 : lw_okq (⟨"TabletCells$Batch", "setExpectation", "(IIZI)V"⟩, 11) := ⟨⟨by decide +kernel, by decide +kernel⟩, List.mem_of_getElem? (i := 18) (by decide +kernel), List.mem_of_getElem? (i := 186) (by decide +kernel), List.mem_of_getElem? (i := 187) (by decide +kernel)⟩
theorem lw_p5 : lw_okq (⟨"TabletCells$Batch", "empty", "()V"⟩, 11) := ⟨⟨by decide +kernel, by decide +kernel⟩, List.mem_of_getElem? (i := 18) (by decide +kernel), List.mem_of_getElem? (i := 198) (by decide +kernel), List.mem_of_getElem? (i := 199) (by decide +kernel)⟩
theorem lw_p6 : lw_okq (⟨"TabletCells", "isExpectationMet", "()Z"⟩, 14) := ⟨⟨by decide +kernel, by decide +kernel⟩, List.mem_of_getElem? (i := 8) (by decide +kernel), List.mem_of_getElem? (i := 202) (by decide +kernel), List.mem_of_getElem? (i := 203) (by decide +kernel)⟩
theorem lw_p7 : lw_okq (⟨"TabletCells", "liveCell", "(IIII)LTabletCells$Entry;"⟩, 14) := ⟨⟨by decide +kernel, by decide +kernel⟩, List.mem_of_getElem? (i := 8) (by decide +kernel), List.mem_of_getElem? (i := 206) (by decide +kernel), List.mem_of_getElem? (i := 207) (by decide +kernel)⟩
theorem lw_p8 : lw_okq (⟨"TabletCells", "indexOfRow", "(I)I"⟩, 14) := ⟨⟨by decide +kernel, by decide +kernel⟩, List.mem_of_getElem? (i := 8) (by decide +kernel), List.mem_of_getElem? (i := 210) (by decide +kernel), List.mem_of_getElem? (i := 211) (by decide +kernel)⟩
theorem lw_p9 : lw_okq (⟨"TabletCells", "isLive", "(LTabletCells$Entry;)Z"⟩, 14) := ⟨⟨by decide +kernel, by decide +kernel⟩, List.mem_of_getElem? (i := 8) (by decide +kernel), List.mem_of_getElem? (i := 214) (by decide +kernel), List.mem_of_getElem? (i := 215) (by decide +kernel)⟩
theorem lw_p10 : lw_okq (⟨"TabletCells", "isOldCell", "(LTabletCells$Entry;)Z"⟩, 14) := ⟨⟨by decide +kernel, by decide +kernel⟩, List.mem_of_getElem? (i := 8) (by decide +kernel), List.mem_of_getElem? (i := 218) (by decide +kernel), List.mem_of_getElem? (i := 219) (by decide +kernel)⟩
theorem lw_p11 : lw_okq (⟨"TabletCells", "applyChanges", "()I"⟩, 14) := ⟨⟨by decide +kernel, by decide +kernel⟩, List.mem_of_getElem? (i := 8) (by decide +kernel), List.mem_of_getElem? (i := 222) (by decide +kernel), List.mem_of_getElem? (i := 223) (by decide +kernel)⟩
theorem lw_p12 : lw_okq (⟨"TabletCells", "applyChange", "(I)V"⟩, 14) := ⟨⟨by decide +kernel, by decide +kernel⟩, List.mem_of_getElem? (i := 8) (by decide +kernel), List.mem_of_getElem? (i := 226) (by decide +kernel), List.mem_of_getElem? (i := 227) (by decide +kernel)⟩
theorem lw_p13 : lw_okq (⟨"TabletCells", "makeEntry", "(IIIZ)LTabletCells$Entry;"⟩, 14) := ⟨⟨by decide +kernel, by decide +kernel⟩, List.mem_of_getElem? (i := 8) (by decide +kernel), List.mem_of_getElem? (i := 230) (by decide +kernel), List.mem_of_getElem? (i := 231) (by decide +kernel)⟩
theorem lw_p14 : lw_okq (⟨"TabletCells", "unusedEntry", "()LTabletCells$Entry;"⟩, 14) := ⟨⟨by decide +kernel, by decide +kernel⟩, List.mem_of_getElem? (i := 8) (by decide +kernel), List.mem_of_getElem? (i := 234) (by decide +kernel), List.mem_of_getElem? (i := 235) (by decide +kernel)⟩
theorem lw_p15 : lw_okq (⟨"TabletCells$Entry", "begin", "(IIIZI)V"⟩, 12) := ⟨⟨by decide +kernel, by decide +kernel⟩, List.mem_of_getElem? (i := 237) (by decide +kernel), List.mem_of_getElem? (i := 291) (by decide +kernel), List.mem_of_getElem? (i := 292) (by decide +kernel)⟩
def lw_privs_1 : List (MethodName × Nat) := [(⟨"TabletCells$Batch", "takes", "(I)Z"⟩, 11), (⟨"TabletCells$Batch", "addCell", "(IIII)V"⟩, 11), (⟨"TabletCells$Batch", "addChange", "(III)V"⟩, 11), (⟨"TabletCells$Batch", "addErasure", "(III)V"⟩, 11), (⟨"TabletCells$Batch", "setExpectation", "(IIZI)V"⟩, 11), (⟨"TabletCells$Batch", "empty", "()V"⟩, 11), (⟨"TabletCells", "isExpectationMet", "()Z"⟩, 14), (⟨"TabletCells", "liveCell", "(IIII)LTabletCells$Entry;"⟩, 14), (⟨"TabletCells", "indexOfRow", "(I)I"⟩, 14), (⟨"TabletCells", "isLive", "(LTabletCells$Entry;)Z"⟩, 14), (⟨"TabletCells", "isOldCell", "(LTabletCells$Entry;)Z"⟩, 14), (⟨"TabletCells", "applyChanges", "()I"⟩, 14), (⟨"TabletCells", "applyChange", "(I)V"⟩, 14), (⟨"TabletCells", "makeEntry", "(IIIZ)LTabletCells$Entry;"⟩, 14), (⟨"TabletCells", "unusedEntry", "()LTabletCells$Entry;"⟩, 14), (⟨"TabletCells$Entry", "begin", "(IIIZI)V"⟩, 12)]
theorem lw_r1 : ∀ q ∈ lw_privs_1, lw_okq q := List.forall_mem_cons.mpr ⟨lw_p0, List.forall_mem_cons.mpr ⟨lw_p1, List.forall_mem_cons.mpr ⟨lw_p2, List.forall_mem_cons.mpr ⟨lw_p3, List.forall_mem_cons.mpr ⟨lw_p4, List.forall_mem_cons.mpr ⟨lw_p5, List.forall_mem_cons.mpr ⟨lw_p6, List.forall_mem_cons.mpr ⟨lw_p7, List.forall_mem_cons.mpr ⟨lw_p8, List.forall_mem_cons.mpr ⟨lw_p9, List.forall_mem_cons.mpr ⟨lw_p10, List.forall_mem_cons.mpr ⟨lw_p11, List.forall_mem_cons.mpr ⟨lw_p12, List.forall_mem_cons.mpr ⟨lw_p13, List.forall_mem_cons.mpr ⟨lw_p14, List.forall_mem_cons.mpr ⟨lw_p15, fun _ h => absurd h List.not_mem_nil⟩⟩⟩⟩⟩⟩⟩⟩⟩⟩⟩⟩⟩⟩⟩⟩
theorem lw_p16 : lw_okq (⟨"TabletCells$Entry", "covers", "(LTabletCells$Entry;)Z"⟩, 12) := ⟨⟨by decide +kernel, by decide +kernel⟩, List.mem_of_getElem? (i := 237) (by decide +kernel), List.mem_of_getElem? (i := 298) (by decide +kernel), List.mem_of_getElem? (i := 299) (by decide +kernel)⟩
theorem lw_p17 : lw_okq (⟨"TabletCells", "insert", "(LTabletCells$Entry;)V"⟩, 14) := ⟨⟨by decide +kernel, by decide +kernel⟩, List.mem_of_getElem? (i := 8) (by decide +kernel), List.mem_of_getElem? (i := 302) (by decide +kernel), List.mem_of_getElem? (i := 303) (by decide +kernel)⟩
theorem lw_p18 : lw_okq (⟨"TabletCells", "eraseBeyondNumber", "(II)V"⟩, 14) := ⟨⟨by decide +kernel, by decide +kernel⟩, List.mem_of_getElem? (i := 8) (by decide +kernel), List.mem_of_getElem? (i := 306) (by decide +kernel), List.mem_of_getElem? (i := 307) (by decide +kernel)⟩
theorem lw_p19 : lw_okq (⟨"TabletCells", "tabletOf", "(I)I"⟩, 14) := ⟨⟨by decide +kernel, by decide +kernel⟩, List.mem_of_getElem? (i := 8) (by decide +kernel), List.mem_of_getElem? (i := 311) (by decide +kernel), List.mem_of_getElem? (i := 312) (by decide +kernel)⟩
theorem lw_p20 : lw_okq (⟨"TabletCells", "entriesIn", "(II)I"⟩, 14) := ⟨⟨by decide +kernel, by decide +kernel⟩, List.mem_of_getElem? (i := 8) (by decide +kernel), List.mem_of_getElem? (i := 315) (by decide +kernel), List.mem_of_getElem? (i := 316) (by decide +kernel)⟩
theorem lw_p21 : lw_okq (⟨"TabletCells", "endOf", "(I)I"⟩, 14) := ⟨⟨by decide +kernel, by decide +kernel⟩, List.mem_of_getElem? (i := 8) (by decide +kernel), List.mem_of_getElem? (i := 319) (by decide +kernel), List.mem_of_getElem? (i := 320) (by decide +kernel)⟩
theorem lw_p22 : lw_okq (⟨"TabletCells", "startOf", "(I)I"⟩, 14) := ⟨⟨by decide +kernel, by decide +kernel⟩, List.mem_of_getElem? (i := 8) (by decide +kernel), List.mem_of_getElem? (i := 323) (by decide +kernel), List.mem_of_getElem? (i := 324) (by decide +kernel)⟩
theorem lw_p23 : lw_okq (⟨"TabletCells", "flushTablet", "(I)I"⟩, 14) := ⟨⟨by decide +kernel, by decide +kernel⟩, List.mem_of_getElem? (i := 8) (by decide +kernel), List.mem_of_getElem? (i := 327) (by decide +kernel), List.mem_of_getElem? (i := 328) (by decide +kernel)⟩
theorem lw_p24 : lw_okq (⟨"TabletCells", "tableCount", "(I)I"⟩, 14) := ⟨⟨by decide +kernel, by decide +kernel⟩, List.mem_of_getElem? (i := 8) (by decide +kernel), List.mem_of_getElem? (i := 331) (by decide +kernel), List.mem_of_getElem? (i := 332) (by decide +kernel)⟩
theorem lw_p25 : lw_okq (⟨"TabletCells", "lookFor", "(I)V"⟩, 14) := ⟨⟨by decide +kernel, by decide +kernel⟩, List.mem_of_getElem? (i := 8) (by decide +kernel), List.mem_of_getElem? (i := 349) (by decide +kernel), List.mem_of_getElem? (i := 350) (by decide +kernel)⟩
theorem lw_p26 : lw_okq (⟨"TabletCells$Sight", "begin", "(I)V"⟩, 5) := ⟨⟨by decide +kernel, by decide +kernel⟩, List.mem_of_getElem? (i := 71) (by decide +kernel), List.mem_of_getElem? (i := 353) (by decide +kernel), List.mem_of_getElem? (i := 354) (by decide +kernel)⟩
theorem lw_p27 : lw_okq (⟨"TabletCells$Sight", "pass", "(II)V"⟩, 5) := ⟨⟨by decide +kernel, by decide +kernel⟩, List.mem_of_getElem? (i := 71) (by decide +kernel), List.mem_of_getElem? (i := 357) (by decide +kernel), List.mem_of_getElem? (i := 358) (by decide +kernel)⟩
theorem lw_p28 : lw_okq (⟨"TabletCells$Sight", "blocksLookedAt", "()I"⟩, 5) := ⟨⟨by decide +kernel, by decide +kernel⟩, List.mem_of_getElem? (i := 71) (by decide +kernel), List.mem_of_getElem? (i := 365) (by decide +kernel), List.mem_of_getElem? (i := 366) (by decide +kernel)⟩
theorem lw_p29 : lw_okq (⟨"TabletCells$Sight", "blocksOfRow", "(I)I"⟩, 5) := ⟨⟨by decide +kernel, by decide +kernel⟩, List.mem_of_getElem? (i := 71) (by decide +kernel), List.mem_of_getElem? (i := 369) (by decide +kernel), List.mem_of_getElem? (i := 370) (by decide +kernel)⟩
theorem lw_p30 : lw_okq (⟨"TabletCells", "addToResult", "(LTabletCells$Entry;)V"⟩, 14) := ⟨⟨by decide +kernel, by decide +kernel⟩, List.mem_of_getElem? (i := 8) (by decide +kernel), List.mem_of_getElem? (i := 382) (by decide +kernel), List.mem_of_getElem? (i := 383) (by decide +kernel)⟩
theorem lw_p31 : lw_okq (⟨"TabletCells", "isTablet", "(I)Z"⟩, 14) := ⟨⟨by decide +kernel, by decide +kernel⟩, List.mem_of_getElem? (i := 8) (by decide +kernel), List.mem_of_getElem? (i := 398) (by decide +kernel), List.mem_of_getElem? (i := 399) (by decide +kernel)⟩
def lw_privs_2 : List (MethodName × Nat) := [(⟨"TabletCells$Entry", "covers", "(LTabletCells$Entry;)Z"⟩, 12), (⟨"TabletCells", "insert", "(LTabletCells$Entry;)V"⟩, 14), (⟨"TabletCells", "eraseBeyondNumber", "(II)V"⟩, 14), (⟨"TabletCells", "tabletOf", "(I)I"⟩, 14), (⟨"TabletCells", "entriesIn", "(II)I"⟩, 14), (⟨"TabletCells", "endOf", "(I)I"⟩, 14), (⟨"TabletCells", "startOf", "(I)I"⟩, 14), (⟨"TabletCells", "flushTablet", "(I)I"⟩, 14), (⟨"TabletCells", "tableCount", "(I)I"⟩, 14), (⟨"TabletCells", "lookFor", "(I)V"⟩, 14), (⟨"TabletCells$Sight", "begin", "(I)V"⟩, 5), (⟨"TabletCells$Sight", "pass", "(II)V"⟩, 5), (⟨"TabletCells$Sight", "blocksLookedAt", "()I"⟩, 5), (⟨"TabletCells$Sight", "blocksOfRow", "(I)I"⟩, 5), (⟨"TabletCells", "addToResult", "(LTabletCells$Entry;)V"⟩, 14), (⟨"TabletCells", "isTablet", "(I)Z"⟩, 14)]
theorem lw_r2 : ∀ q ∈ lw_privs_2, lw_okq q := List.forall_mem_cons.mpr ⟨lw_p16, List.forall_mem_cons.mpr ⟨lw_p17, List.forall_mem_cons.mpr ⟨lw_p18, List.forall_mem_cons.mpr ⟨lw_p19, List.forall_mem_cons.mpr ⟨lw_p20, List.forall_mem_cons.mpr ⟨lw_p21, List.forall_mem_cons.mpr ⟨lw_p22, List.forall_mem_cons.mpr ⟨lw_p23, List.forall_mem_cons.mpr ⟨lw_p24, List.forall_mem_cons.mpr ⟨lw_p25, List.forall_mem_cons.mpr ⟨lw_p26, List.forall_mem_cons.mpr ⟨lw_p27, List.forall_mem_cons.mpr ⟨lw_p28, List.forall_mem_cons.mpr ⟨lw_p29, List.forall_mem_cons.mpr ⟨lw_p30, List.forall_mem_cons.mpr ⟨lw_p31, fun _ h => absurd h List.not_mem_nil⟩⟩⟩⟩⟩⟩⟩⟩⟩⟩⟩⟩⟩⟩⟩⟩
theorem lw_p32 : lw_okq (⟨"TabletCells", "isCoveredInTables", "(II)Z"⟩, 14) := ⟨⟨by decide +kernel, by decide +kernel⟩, List.mem_of_getElem? (i := 8) (by decide +kernel), List.mem_of_getElem? (i := 406) (by decide +kernel), List.mem_of_getElem? (i := 407) (by decide +kernel)⟩
theorem lw_p33 : lw_okq (⟨"TabletCells", "mergeTables", "(II)I"⟩, 14) := ⟨⟨by decide +kernel, by decide +kernel⟩, List.mem_of_getElem? (i := 8) (by decide +kernel), List.mem_of_getElem? (i := 410) (by decide +kernel), List.mem_of_getElem? (i := 411) (by decide +kernel)⟩
theorem lw_p34 : lw_okq (⟨"TabletCells", "removeLeaving", "()V"⟩, 14) := ⟨⟨by decide +kernel, by decide +kernel⟩, List.mem_of_getElem? (i := 8) (by decide +kernel), List.mem_of_getElem? (i := 414) (by decide +kernel), List.mem_of_getElem? (i := 415) (by decide +kernel)⟩
theorem lw_p35 : lw_okq (⟨"TabletCells", "erasuresIn", "(II)I"⟩, 14) := ⟨⟨by decide +kernel, by decide +kernel⟩, List.mem_of_getElem? (i := 8) (by decide +kernel), List.mem_of_getElem? (i := 426) (by decide +kernel), List.mem_of_getElem? (i := 427) (by decide +kernel)⟩
theorem lw_p36 : lw_okq (⟨"TabletCells", "firstRowIn", "(II)I"⟩, 14) := ⟨⟨by decide +kernel, by decide +kernel⟩, List.mem_of_getElem? (i := 8) (by decide +kernel), List.mem_of_getElem? (i := 430) (by decide +kernel), List.mem_of_getElem? (i := 431) (by decide +kernel)⟩
theorem lw_p37 : lw_okq (⟨"TabletCells", "closeGaps", "(I)V"⟩, 14) := ⟨⟨by decide +kernel, by decide +kernel⟩, List.mem_of_getElem? (i := 8) (by decide +kernel), List.mem_of_getElem? (i := 442) (by decide +kernel), List.mem_of_getElem? (i := 443) (by decide +kernel)⟩
theorem lw_p38 : lw_okq (⟨"TabletCells", "moveUpBehind", "(II)V"⟩, 14) := ⟨⟨by decide +kernel, by decide +kernel⟩, List.mem_of_getElem? (i := 8) (by decide +kernel), List.mem_of_getElem? (i := 446) (by decide +kernel), List.mem_of_getElem? (i := 447) (by decide +kernel)⟩
theorem lw_p39 : lw_okq (⟨"TabletCellsModel", "takes", "(I)Z"⟩, 32) := ⟨⟨by decide +kernel, by decide +kernel⟩, List.mem_of_getElem? (i := 461) (by decide +kernel), List.mem_of_getElem? (i := 577) (by decide +kernel), List.mem_of_getElem? (i := 578) (by decide +kernel)⟩
theorem lw_p40 : lw_okq (⟨"TabletCellsModel", "change", "(IIIII)V"⟩, 32) := ⟨⟨by decide +kernel, by decide +kernel⟩, List.mem_of_getElem? (i := 461) (by decide +kernel), List.mem_of_getElem? (i := 584) (by decide +kernel), List.mem_of_getElem? (i := 585) (by decide +kernel)⟩
theorem lw_p41 : lw_okq (⟨"TabletCellsModel", "isMet", "()Z"⟩, 32) := ⟨⟨by decide +kernel, by decide +kernel⟩, List.mem_of_getElem? (i := 461) (by decide +kernel), List.mem_of_getElem? (i := 600) (by decide +kernel), List.mem_of_getElem? (i := 601) (by decide +kernel)⟩
theorem lw_p42 : lw_okq (⟨"TabletCellsModel", "below", "(III)I"⟩, 32) := ⟨⟨by decide +kernel, by decide +kernel⟩, List.mem_of_getElem? (i := 461) (by decide +kernel), List.mem_of_getElem? (i := 604) (by decide +kernel), List.mem_of_getElem? (i := 605) (by decide +kernel)⟩
theorem lw_p43 : lw_okq (⟨"TabletCellsModel", "isLive", "(I)Z"⟩, 32) := ⟨⟨by decide +kernel, by decide +kernel⟩, List.mem_of_getElem? (i := 461) (by decide +kernel), List.mem_of_getElem? (i := 608) (by decide +kernel), List.mem_of_getElem? (i := 609) (by decide +kernel)⟩
theorem lw_p44 : lw_okq (⟨"TabletCellsModel", "isOld", "(I)Z"⟩, 32) := ⟨⟨by decide +kernel, by decide +kernel⟩, List.mem_of_getElem? (i := 461) (by decide +kernel), List.mem_of_getElem? (i := 612) (by decide +kernel), List.mem_of_getElem? (i := 613) (by decide +kernel)⟩
theorem lw_p45 : lw_okq (⟨"TabletCellsModel", "covers", "(II)Z"⟩, 32) := ⟨⟨by decide +kernel, by decide +kernel⟩, List.mem_of_getElem? (i := 461) (by decide +kernel), List.mem_of_getElem? (i := 616) (by decide +kernel), List.mem_of_getElem? (i := 617) (by decide +kernel)⟩
theorem lw_p46 : lw_okq (⟨"TabletCellsModel", "drop", "()V"⟩, 32) := ⟨⟨by decide +kernel, by decide +kernel⟩, List.mem_of_getElem? (i := 461) (by decide +kernel), List.mem_of_getElem? (i := 620) (by decide +kernel), List.mem_of_getElem? (i := 621) (by decide +kernel)⟩
theorem lw_p47 : lw_okq (⟨"TabletCellsModel", "make", "(IIIII)V"⟩, 32) := ⟨⟨by decide +kernel, by decide +kernel⟩, List.mem_of_getElem? (i := 461) (by decide +kernel), List.mem_of_getElem? (i := 624) (by decide +kernel), List.mem_of_getElem? (i := 625) (by decide +kernel)⟩
def lw_privs_3 : List (MethodName × Nat) := [(⟨"TabletCells", "isCoveredInTables", "(II)Z"⟩, 14), (⟨"TabletCells", "mergeTables", "(II)I"⟩, 14), (⟨"TabletCells", "removeLeaving", "()V"⟩, 14), (⟨"TabletCells", "erasuresIn", "(II)I"⟩, 14), (⟨"TabletCells", "firstRowIn", "(II)I"⟩, 14), (⟨"TabletCells", "closeGaps", "(I)V"⟩, 14), (⟨"TabletCells", "moveUpBehind", "(II)V"⟩, 14), (⟨"TabletCellsModel", "takes", "(I)Z"⟩, 32), (⟨"TabletCellsModel", "change", "(IIIII)V"⟩, 32), (⟨"TabletCellsModel", "isMet", "()Z"⟩, 32), (⟨"TabletCellsModel", "below", "(III)I"⟩, 32), (⟨"TabletCellsModel", "isLive", "(I)Z"⟩, 32), (⟨"TabletCellsModel", "isOld", "(I)Z"⟩, 32), (⟨"TabletCellsModel", "covers", "(II)Z"⟩, 32), (⟨"TabletCellsModel", "drop", "()V"⟩, 32), (⟨"TabletCellsModel", "make", "(IIIII)V"⟩, 32)]
theorem lw_r3 : ∀ q ∈ lw_privs_3, lw_okq q := List.forall_mem_cons.mpr ⟨lw_p32, List.forall_mem_cons.mpr ⟨lw_p33, List.forall_mem_cons.mpr ⟨lw_p34, List.forall_mem_cons.mpr ⟨lw_p35, List.forall_mem_cons.mpr ⟨lw_p36, List.forall_mem_cons.mpr ⟨lw_p37, List.forall_mem_cons.mpr ⟨lw_p38, List.forall_mem_cons.mpr ⟨lw_p39, List.forall_mem_cons.mpr ⟨lw_p40, List.forall_mem_cons.mpr ⟨lw_p41, List.forall_mem_cons.mpr ⟨lw_p42, List.forall_mem_cons.mpr ⟨lw_p43, List.forall_mem_cons.mpr ⟨lw_p44, List.forall_mem_cons.mpr ⟨lw_p45, List.forall_mem_cons.mpr ⟨lw_p46, List.forall_mem_cons.mpr ⟨lw_p47, fun _ h => absurd h List.not_mem_nil⟩⟩⟩⟩⟩⟩⟩⟩⟩⟩⟩⟩⟩⟩⟩⟩
theorem lw_p48 : lw_okq (⟨"TabletCellsModel", "tabletWith", "(I)I"⟩, 32) := ⟨⟨by decide +kernel, by decide +kernel⟩, List.mem_of_getElem? (i := 461) (by decide +kernel), List.mem_of_getElem? (i := 628) (by decide +kernel), List.mem_of_getElem? (i := 629) (by decide +kernel)⟩
theorem lw_p49 : lw_okq (⟨"TabletCellsModel", "trim", "(II)V"⟩, 32) := ⟨⟨by decide +kernel, by decide +kernel⟩, List.mem_of_getElem? (i := 461) (by decide +kernel), List.mem_of_getElem? (i := 632) (by decide +kernel), List.mem_of_getElem? (i := 633) (by decide +kernel)⟩
theorem lw_p50 : lw_okq (⟨"TabletCellsModel", "inTable", "(II)I"⟩, 32) := ⟨⟨by decide +kernel, by decide +kernel⟩, List.mem_of_getElem? (i := 461) (by decide +kernel), List.mem_of_getElem? (i := 636) (by decide +kernel), List.mem_of_getElem? (i := 637) (by decide +kernel)⟩
theorem lw_p51 : lw_okq (⟨"TabletCellsModel", "flushed", "(I)I"⟩, 32) := ⟨⟨by decide +kernel, by decide +kernel⟩, List.mem_of_getElem? (i := 461) (by decide +kernel), List.mem_of_getElem? (i := 640) (by decide +kernel), List.mem_of_getElem? (i := 641) (by decide +kernel)⟩
theorem lw_p52 : lw_okq (⟨"TabletCellsModel", "look", "(I)V"⟩, 32) := ⟨⟨by decide +kernel, by decide +kernel⟩, List.mem_of_getElem? (i := 461) (by decide +kernel), List.mem_of_getElem? (i := 661) (by decide +kernel), List.mem_of_getElem? (i := 662) (by decide +kernel)⟩
theorem lw_p53 : lw_okq (⟨"TabletCellsModel", "blocksFor", "(III)I"⟩, 32) := ⟨⟨by decide +kernel, by decide +kernel⟩, List.mem_of_getElem? (i := 461) (by decide +kernel), List.mem_of_getElem? (i := 665) (by decide +kernel), List.mem_of_getElem? (i := 666) (by decide +kernel)⟩
theorem lw_p54 : lw_okq (⟨"TabletCellsModel", "gather", "(IIII)V"⟩, 32) := ⟨⟨by decide +kernel, by decide +kernel⟩, List.mem_of_getElem? (i := 461) (by decide +kernel), List.mem_of_getElem? (i := 678) (by decide +kernel), List.mem_of_getElem? (i := 679) (by decide +kernel)⟩
theorem lw_p55 : lw_okq (⟨"TabletCellsModel", "isTablet", "(I)Z"⟩, 32) := ⟨⟨by decide +kernel, by decide +kernel⟩, List.mem_of_getElem? (i := 461) (by decide +kernel), List.mem_of_getElem? (i := 691) (by decide +kernel), List.mem_of_getElem? (i := 692) (by decide +kernel)⟩
theorem lw_p56 : lw_okq (⟨"TabletCellsModel", "merge", "(IIZ)I"⟩, 32) := ⟨⟨by decide +kernel, by decide +kernel⟩, List.mem_of_getElem? (i := 461) (by decide +kernel), List.mem_of_getElem? (i := 699) (by decide +kernel), List.mem_of_getElem? (i := 700) (by decide +kernel)⟩
theorem lw_p57 : lw_okq (⟨"TabletCellsModel", "isIn", "(III)Z"⟩, 32) := ⟨⟨by decide +kernel, by decide +kernel⟩, List.mem_of_getElem? (i := 461) (by decide +kernel), List.mem_of_getElem? (i := 703) (by decide +kernel), List.mem_of_getElem? (i := 704) (by decide +kernel)⟩
theorem lw_p58 : lw_okq (⟨"TabletCellsModel", "move", "(II)V"⟩, 32) := ⟨⟨by decide +kernel, by decide +kernel⟩, List.mem_of_getElem? (i := 461) (by decide +kernel), List.mem_of_getElem? (i := 707) (by decide +kernel), List.mem_of_getElem? (i := 708) (by decide +kernel)⟩
theorem lw_p59 : lw_okq (⟨"TabletCellsModel", "lastRow", "(I)I"⟩, 32) := ⟨⟨by decide +kernel, by decide +kernel⟩, List.mem_of_getElem? (i := 461) (by decide +kernel), List.mem_of_getElem? (i := 719) (by decide +kernel), List.mem_of_getElem? (i := 720) (by decide +kernel)⟩
theorem lw_p60 : lw_okq (⟨"TabletCellsModel", "close", "(I)V"⟩, 32) := ⟨⟨by decide +kernel, by decide +kernel⟩, List.mem_of_getElem? (i := 461) (by decide +kernel), List.mem_of_getElem? (i := 723) (by decide +kernel), List.mem_of_getElem? (i := 724) (by decide +kernel)⟩
def lw_privs_4 : List (MethodName × Nat) := [(⟨"TabletCellsModel", "tabletWith", "(I)I"⟩, 32), (⟨"TabletCellsModel", "trim", "(II)V"⟩, 32), (⟨"TabletCellsModel", "inTable", "(II)I"⟩, 32), (⟨"TabletCellsModel", "flushed", "(I)I"⟩, 32), (⟨"TabletCellsModel", "look", "(I)V"⟩, 32), (⟨"TabletCellsModel", "blocksFor", "(III)I"⟩, 32), (⟨"TabletCellsModel", "gather", "(IIII)V"⟩, 32), (⟨"TabletCellsModel", "isTablet", "(I)Z"⟩, 32), (⟨"TabletCellsModel", "merge", "(IIZ)I"⟩, 32), (⟨"TabletCellsModel", "isIn", "(III)Z"⟩, 32), (⟨"TabletCellsModel", "move", "(II)V"⟩, 32), (⟨"TabletCellsModel", "lastRow", "(I)I"⟩, 32), (⟨"TabletCellsModel", "close", "(I)V"⟩, 32)]
theorem lw_r4 : ∀ q ∈ lw_privs_4, lw_okq q := List.forall_mem_cons.mpr ⟨lw_p48, List.forall_mem_cons.mpr ⟨lw_p49, List.forall_mem_cons.mpr ⟨lw_p50, List.forall_mem_cons.mpr ⟨lw_p51, List.forall_mem_cons.mpr ⟨lw_p52, List.forall_mem_cons.mpr ⟨lw_p53, List.forall_mem_cons.mpr ⟨lw_p54, List.forall_mem_cons.mpr ⟨lw_p55, List.forall_mem_cons.mpr ⟨lw_p56, List.forall_mem_cons.mpr ⟨lw_p57, List.forall_mem_cons.mpr ⟨lw_p58, List.forall_mem_cons.mpr ⟨lw_p59, List.forall_mem_cons.mpr ⟨lw_p60, fun _ h => absurd h List.not_mem_nil⟩⟩⟩⟩⟩⟩⟩⟩⟩⟩⟩⟩⟩
def lw_privs : List (MethodName × Nat) := lw_privs_1 ++ (lw_privs_2 ++ (lw_privs_3 ++ (lw_privs_4)))
def lw_tbl : List Cond := k2_sels lw_privs ++ tables_1
theorem lw_privs_ok : ∀ q ∈ lw_privs, lw_okq q := by
  show ∀ q ∈ lw_privs_1 ++ (lw_privs_2 ++ (lw_privs_3 ++ (lw_privs_4))), lw_okq q
  exact List.forall_mem_append.mpr ⟨lw_r1, List.forall_mem_append.mpr ⟨lw_r2, List.forall_mem_append.mpr ⟨lw_r3, lw_r4⟩⟩⟩

def R_T : String := "TabletCells"
def R_E : String := "TabletCells$Entry"
def R_B : String := "TabletCells$Batch"
def R_S : String := "TabletCells$Sight"
def R_M : String := "TabletCellsModel"
def R_L : String := "TabletCellsLaw"
def F_T : u_T := fun k => match k with
  | 0 => ("TabletCells", "numbers", "[I", true)
  | 1 => ("TabletCells", "ages", "[I", true)
  | 2 => ("TabletCells", "clock", "I", false)
  | 3 => ("TabletCells", "entries", "[LTabletCells$Entry;", true)
  | 4 => ("TabletCells", "entryCount", "I", false)
  | 5 => ("TabletCells", "lastSequence", "I", false)
  | 6 => ("TabletCells", "firstRows", "[I", true)
  | 7 => ("TabletCells", "tabletCount", "I", false)
  | 8 => ("TabletCells", "batch", "LTabletCells$Batch;", true)
  | 9 => ("TabletCells", "willTear", "Z", false)
  | 10 => ("TabletCells", "result", "[J", true)
  | 11 => ("TabletCells", "resultSize", "I", false)
  | 12 => ("TabletCells", "sight", "LTabletCells$Sight;", true)
  | _ => ("TabletCells", "lookedAt", "I", false)
def tt_T : Nat → FieldType := fun k => match k with
  | 0 => .array .int
  | 1 => .array .int
  | 2 => .int
  | 3 => .array (.object "TabletCells$Entry")
  | 4 => .int
  | 5 => .int
  | 6 => .array .int
  | 7 => .int
  | 8 => .object "TabletCells$Batch"
  | 9 => .boolean
  | 10 => .array .long
  | 11 => .int
  | 12 => .object "TabletCells$Sight"
  | _ => .int
theorem n_T : ∀ a, a < 14 → ∀ b, b < 14 → a ≠ b → (F_T a).2.1 ≠ (F_T b).2.1 := by decide +kernel
theorem tt_T_ok : ∀ k, k < 14 → parseFieldDescriptor (F_T k).2.2.1 = some (tt_T k) := by decide +kernel
def F_E : u_T := fun k => match k with
  | 0 => ("TabletCells$Entry", "row", "I", false)
  | 1 => ("TabletCells$Entry", "column", "I", false)
  | 2 => ("TabletCells$Entry", "family", "I", false)
  | 3 => ("TabletCells$Entry", "time", "I", false)
  | 4 => ("TabletCells$Entry", "isErasure", "Z", false)
  | 5 => ("TabletCells$Entry", "value", "I", false)
  | 6 => ("TabletCells$Entry", "sequence", "I", false)
  | 7 => ("TabletCells$Entry", "place", "I", false)
  | 8 => ("TabletCells$Entry", "table", "I", false)
  | 9 => ("TabletCells$Entry", "opensBatch", "Z", false)
  | 10 => ("TabletCells$Entry", "isCovered", "Z", false)
  | _ => ("TabletCells$Entry", "leaves", "Z", false)
def tt_E : Nat → FieldType := fun k => match k with
  | 0 => .int
  | 1 => .int
  | 2 => .int
  | 3 => .int
  | 4 => .boolean
  | 5 => .int
  | 6 => .int
  | 7 => .int
  | 8 => .int
  | 9 => .boolean
  | 10 => .boolean
  | _ => .boolean
theorem n_E : ∀ a, a < 12 → ∀ b, b < 12 → a ≠ b → (F_E a).2.1 ≠ (F_E b).2.1 := by decide +kernel
theorem tt_E_ok : ∀ k, k < 12 → parseFieldDescriptor (F_E k).2.2.1 = some (tt_E k) := by decide +kernel
def F_B : u_T := fun k => match k with
  | 0 => ("TabletCells$Batch", "row", "I", false)
  | 1 => ("TabletCells$Batch", "size", "I", false)
  | 2 => ("TabletCells$Batch", "columns", "[I", true)
  | 3 => ("TabletCells$Batch", "times", "[I", true)
  | 4 => ("TabletCells$Batch", "values", "[I", true)
  | 5 => ("TabletCells$Batch", "erasures", "[Z", true)
  | 6 => ("TabletCells$Batch", "hasExpectation", "Z", false)
  | 7 => ("TabletCells$Batch", "expectedRow", "I", false)
  | 8 => ("TabletCells$Batch", "expectedColumn", "I", false)
  | 9 => ("TabletCells$Batch", "expectsSome", "Z", false)
  | _ => ("TabletCells$Batch", "expectedValue", "I", false)
def tt_B : Nat → FieldType := fun k => match k with
  | 0 => .int
  | 1 => .int
  | 2 => .array .int
  | 3 => .array .int
  | 4 => .array .int
  | 5 => .array .boolean
  | 6 => .boolean
  | 7 => .int
  | 8 => .int
  | 9 => .boolean
  | _ => .int
theorem n_B : ∀ a, a < 11 → ∀ b, b < 11 → a ≠ b → (F_B a).2.1 ≠ (F_B b).2.1 := by decide +kernel
theorem tt_B_ok : ∀ k, k < 11 → parseFieldDescriptor (F_B k).2.2.1 = some (tt_B k) := by decide +kernel
def F_S : u_T := fun k => match k with
  | 0 => ("TabletCells$Sight", "wanted", "I", false)
  | 1 => ("TabletCells$Sight", "tables", "I", false)
  | 2 => ("TabletCells$Sight", "filters", "[J", true)
  | 3 => ("TabletCells$Sight", "ahead", "[I", true)
  | _ => ("TabletCells$Sight", "ofRow", "[I", true)
def tt_S : Nat → FieldType := fun k => match k with
  | 0 => .int
  | 1 => .int
  | 2 => .array .long
  | 3 => .array .int
  | _ => .array .int
theorem n_S : ∀ a, a < 5 → ∀ b, b < 5 → a ≠ b → (F_S a).2.1 ≠ (F_S b).2.1 := by decide +kernel
theorem tt_S_ok : ∀ k, k < 5 → parseFieldDescriptor (F_S k).2.2.1 = some (tt_S k) := by decide +kernel
def F_M : u_T := fun k => match k with
  | 0 => ("TabletCellsModel", "many", "I", false)
  | 1 => ("TabletCellsModel", "kinds", "[I", false)
  | 2 => ("TabletCellsModel", "rows", "[I", false)
  | 3 => ("TabletCellsModel", "columns", "[I", false)
  | 4 => ("TabletCellsModel", "times", "[I", false)
  | 5 => ("TabletCellsModel", "values", "[I", false)
  | 6 => ("TabletCellsModel", "batches", "[I", false)
  | 7 => ("TabletCellsModel", "tabletOf", "[I", false)
  | 8 => ("TabletCellsModel", "tableOf", "[I", false)
  | 9 => ("TabletCellsModel", "tablets", "I", false)
  | 10 => ("TabletCellsModel", "firstRow", "[I", false)
  | 11 => ("TabletCellsModel", "tableCount", "[I", false)
  | 12 => ("TabletCellsModel", "numbers", "[I", false)
  | 13 => ("TabletCellsModel", "ages", "[I", false)
  | 14 => ("TabletCellsModel", "clock", "I", false)
  | 15 => ("TabletCellsModel", "changes", "I", false)
  | 16 => ("TabletCellsModel", "changeKind", "[I", false)
  | 17 => ("TabletCellsModel", "batchRow", "I", false)
  | 18 => ("TabletCellsModel", "changeColumn", "[I", false)
  | 19 => ("TabletCellsModel", "changeTime", "[I", false)
  | 20 => ("TabletCellsModel", "changeValue", "[I", false)
  | 21 => ("TabletCellsModel", "expects", "Z", false)
  | 22 => ("TabletCellsModel", "expectRow", "I", false)
  | 23 => ("TabletCellsModel", "expectColumn", "I", false)
  | 24 => ("TabletCellsModel", "expectSome", "Z", false)
  | 25 => ("TabletCellsModel", "expectValue", "I", false)
  | 26 => ("TabletCellsModel", "torn", "Z", false)
  | 27 => ("TabletCellsModel", "applied", "I", false)
  | 28 => ("TabletCellsModel", "found", "I", false)
  | 29 => ("TabletCellsModel", "foundPlace", "[I", false)
  | 30 => ("TabletCellsModel", "foundValue", "[I", false)
  | _ => ("TabletCellsModel", "lookedAt", "I", false)
def tt_M : Nat → FieldType := fun k => match k with
  | 0 => .int
  | 1 => .array .int
  | 2 => .array .int
  | 3 => .array .int
  | 4 => .array .int
  | 5 => .array .int
  | 6 => .array .int
  | 7 => .array .int
  | 8 => .array .int
  | 9 => .int
  | 10 => .array .int
  | 11 => .array .int
  | 12 => .array .int
  | 13 => .array .int
  | 14 => .int
  | 15 => .int
  | 16 => .array .int
  | 17 => .int
  | 18 => .array .int
  | 19 => .array .int
  | 20 => .array .int
  | 21 => .boolean
  | 22 => .int
  | 23 => .int
  | 24 => .boolean
  | 25 => .int
  | 26 => .boolean
  | 27 => .int
  | 28 => .int
  | 29 => .array .int
  | 30 => .array .int
  | _ => .int
theorem n_M : ∀ a, a < 32 → ∀ b, b < 32 → a ≠ b → (F_M a).2.1 ≠ (F_M b).2.1 := by decide +kernel
theorem tt_M_ok : ∀ k, k < 32 → parseFieldDescriptor (F_M k).2.2.1 = some (tt_M k) := by decide +kernel
abbrev b_T_init : ByteArray := prog_1_method_1_code
def y_T_init : MethodName := ⟨R_T, "<init>", "(IIII)V"⟩
abbrev b_T_put : ByteArray := prog_1_method_2_code
def y_T_put : MethodName := ⟨R_T, "put", "(IIII)Z"⟩
abbrev b_T_erase : ByteArray := prog_1_method_3_code
def y_T_erase : MethodName := ⟨R_T, "erase", "(III)Z"⟩
abbrev b_T_expect : ByteArray := prog_1_method_4_code
def y_T_expect : MethodName := ⟨R_T, "expect", "(IIZI)Z"⟩
abbrev b_T_apply : ByteArray := prog_1_method_5_code
def y_T_apply : MethodName := ⟨R_T, "apply", "()I"⟩
abbrev b_T_tear : ByteArray := prog_1_method_6_code
def y_T_tear : MethodName := ⟨R_T, "tear", "()V"⟩
abbrev b_T_crash : ByteArray := prog_1_method_7_code
def y_T_crash : MethodName := ⟨R_T, "crash", "()V"⟩
abbrev b_T_tick : ByteArray := prog_1_method_8_code
def y_T_tick : MethodName := ⟨R_T, "tick", "(I)I"⟩
abbrev b_T_isExpectationMet : ByteArray := prog_1_method_9_code
def y_T_isExpectationMet : MethodName := ⟨R_T, "isExpectationMet", "()Z"⟩
abbrev b_T_applyChanges : ByteArray := prog_1_method_10_code
def y_T_applyChanges : MethodName := ⟨R_T, "applyChanges", "()I"⟩
abbrev b_T_applyChange : ByteArray := prog_1_method_11_code
def y_T_applyChange : MethodName := ⟨R_T, "applyChange", "(I)V"⟩
abbrev b_T_eraseBeyondNumber : ByteArray := prog_1_method_12_code
def y_T_eraseBeyondNumber : MethodName := ⟨R_T, "eraseBeyondNumber", "(II)V"⟩
abbrev b_T_get : ByteArray := prog_1_method_13_code
def y_T_get : MethodName := ⟨R_T, "get", "(IIII)J"⟩
abbrev b_T_scan : ByteArray := prog_1_method_14_code
def y_T_scan : MethodName := ⟨R_T, "scan", "(IIIII)I"⟩
abbrev b_T_found : ByteArray := prog_1_method_15_code
def y_T_found : MethodName := ⟨R_T, "found", "(I)J"⟩
abbrev b_T_looked : ByteArray := prog_1_method_16_code
def y_T_looked : MethodName := ⟨R_T, "looked", "()I"⟩
abbrev b_T_addToResult : ByteArray := prog_1_method_17_code
def y_T_addToResult : MethodName := ⟨R_T, "addToResult", "(LTabletCells$Entry;)V"⟩
abbrev b_T_liveCell : ByteArray := prog_1_method_18_code
def y_T_liveCell : MethodName := ⟨R_T, "liveCell", "(IIII)LTabletCells$Entry;"⟩
abbrev b_T_lookFor : ByteArray := prog_1_method_19_code
def y_T_lookFor : MethodName := ⟨R_T, "lookFor", "(I)V"⟩
abbrev b_T_flush : ByteArray := prog_1_method_20_code
def y_T_flush : MethodName := ⟨R_T, "flush", "(I)I"⟩
abbrev b_T_compact : ByteArray := prog_1_method_21_code
def y_T_compact : MethodName := ⟨R_T, "compact", "(II)I"⟩
abbrev b_T_major : ByteArray := prog_1_method_22_code
def y_T_major : MethodName := ⟨R_T, "major", "(I)I"⟩
abbrev b_T_table : ByteArray := prog_1_method_23_code
def y_T_table : MethodName := ⟨R_T, "table", "(III)I"⟩
abbrev b_T_log : ByteArray := prog_1_method_24_code
def y_T_log : MethodName := ⟨R_T, "log", "()I"⟩
abbrev b_T_flushTablet : ByteArray := prog_1_method_25_code
def y_T_flushTablet : MethodName := ⟨R_T, "flushTablet", "(I)I"⟩
abbrev b_T_isCoveredInTables : ByteArray := prog_1_method_26_code
def y_T_isCoveredInTables : MethodName := ⟨R_T, "isCoveredInTables", "(II)Z"⟩
abbrev b_T_mergeTables : ByteArray := prog_1_method_27_code
def y_T_mergeTables : MethodName := ⟨R_T, "mergeTables", "(II)I"⟩
abbrev b_T_entriesIn : ByteArray := prog_1_method_28_code
def y_T_entriesIn : MethodName := ⟨R_T, "entriesIn", "(II)I"⟩
abbrev b_T_erasuresIn : ByteArray := prog_1_method_29_code
def y_T_erasuresIn : MethodName := ⟨R_T, "erasuresIn", "(II)I"⟩
abbrev b_T_firstRowIn : ByteArray := prog_1_method_30_code
def y_T_firstRowIn : MethodName := ⟨R_T, "firstRowIn", "(II)I"⟩
abbrev b_T_tableCount : ByteArray := prog_1_method_31_code
def y_T_tableCount : MethodName := ⟨R_T, "tableCount", "(I)I"⟩
abbrev b_T_split : ByteArray := prog_1_method_32_code
def y_T_split : MethodName := ⟨R_T, "split", "(II)Z"⟩
abbrev b_T_join : ByteArray := prog_1_method_33_code
def y_T_join : MethodName := ⟨R_T, "join", "(I)Z"⟩
abbrev b_T_tablet : ByteArray := prog_1_method_34_code
def y_T_tablet : MethodName := ⟨R_T, "tablet", "(II)I"⟩
abbrev b_T_closeGaps : ByteArray := prog_1_method_35_code
def y_T_closeGaps : MethodName := ⟨R_T, "closeGaps", "(I)V"⟩
abbrev b_T_moveUpBehind : ByteArray := prog_1_method_36_code
def y_T_moveUpBehind : MethodName := ⟨R_T, "moveUpBehind", "(II)V"⟩
abbrev b_T_tabletOf : ByteArray := prog_1_method_37_code
def y_T_tabletOf : MethodName := ⟨R_T, "tabletOf", "(I)I"⟩
abbrev b_T_startOf : ByteArray := prog_1_method_38_code
def y_T_startOf : MethodName := ⟨R_T, "startOf", "(I)I"⟩
abbrev b_T_endOf : ByteArray := prog_1_method_39_code
def y_T_endOf : MethodName := ⟨R_T, "endOf", "(I)I"⟩
abbrev b_T_indexOfRow : ByteArray := prog_1_method_40_code
def y_T_indexOfRow : MethodName := ⟨R_T, "indexOfRow", "(I)I"⟩
abbrev b_T_makeEntry : ByteArray := prog_1_method_41_code
def y_T_makeEntry : MethodName := ⟨R_T, "makeEntry", "(IIIZ)LTabletCells$Entry;"⟩
abbrev b_T_unusedEntry : ByteArray := prog_1_method_42_code
def y_T_unusedEntry : MethodName := ⟨R_T, "unusedEntry", "()LTabletCells$Entry;"⟩
abbrev b_T_insert : ByteArray := prog_1_method_43_code
def y_T_insert : MethodName := ⟨R_T, "insert", "(LTabletCells$Entry;)V"⟩
abbrev b_T_removeLeaving : ByteArray := prog_1_method_44_code
def y_T_removeLeaving : MethodName := ⟨R_T, "removeLeaving", "()V"⟩
abbrev b_T_isLive : ByteArray := prog_1_method_45_code
def y_T_isLive : MethodName := ⟨R_T, "isLive", "(LTabletCells$Entry;)Z"⟩
abbrev b_T_isOldCell : ByteArray := prog_1_method_46_code
def y_T_isOldCell : MethodName := ⟨R_T, "isOldCell", "(LTabletCells$Entry;)Z"⟩
abbrev b_T_isTablet : ByteArray := prog_1_method_47_code
def y_T_isTablet : MethodName := ⟨R_T, "isTablet", "(I)Z"⟩
abbrev b_T_isRow : ByteArray := prog_1_method_48_code
def y_T_isRow : MethodName := ⟨R_T, "isRow", "(I)Z"⟩
abbrev b_T_isColumn : ByteArray := prog_1_method_49_code
def y_T_isColumn : MethodName := ⟨R_T, "isColumn", "(I)Z"⟩
abbrev b_T_isTime : ByteArray := prog_1_method_50_code
def y_T_isTime : MethodName := ⟨R_T, "isTime", "(I)Z"⟩
abbrev b_T_isErasable : ByteArray := prog_1_method_51_code
def y_T_isErasable : MethodName := ⟨R_T, "isErasable", "(II)Z"⟩
abbrev b_T_familyOf : ByteArray := prog_1_method_52_code
def y_T_familyOf : MethodName := ⟨R_T, "familyOf", "(I)I"⟩
abbrev b_T_nearest : ByteArray := prog_1_method_53_code
def y_T_nearest : MethodName := ⟨R_T, "nearest", "(II)I"⟩
abbrev b_T_packed : ByteArray := prog_1_method_54_code
def y_T_packed : MethodName := ⟨R_T, "packed", "(II)J"⟩
abbrev b_M_init : ByteArray := prog_6_method_1_code
def y_M_init : MethodName := ⟨R_M, "<init>", "(IIII)V"⟩
abbrev b_M_nearest : ByteArray := prog_6_method_2_code
def y_M_nearest : MethodName := ⟨R_M, "nearest", "(II)I"⟩
abbrev b_M_isRow : ByteArray := prog_6_method_3_code
def y_M_isRow : MethodName := ⟨R_M, "isRow", "(I)Z"⟩
abbrev b_M_isColumn : ByteArray := prog_6_method_4_code
def y_M_isColumn : MethodName := ⟨R_M, "isColumn", "(I)Z"⟩
abbrev b_M_isTime : ByteArray := prog_6_method_5_code
def y_M_isTime : MethodName := ⟨R_M, "isTime", "(I)Z"⟩
abbrev b_M_isTablet : ByteArray := prog_6_method_6_code
def y_M_isTablet : MethodName := ⟨R_M, "isTablet", "(I)Z"⟩
abbrev b_M_covers : ByteArray := prog_6_method_7_code
def y_M_covers : MethodName := ⟨R_M, "covers", "(II)Z"⟩
abbrev b_M_isOld : ByteArray := prog_6_method_8_code
def y_M_isOld : MethodName := ⟨R_M, "isOld", "(I)Z"⟩
abbrev b_M_isLive : ByteArray := prog_6_method_9_code
def y_M_isLive : MethodName := ⟨R_M, "isLive", "(I)Z"⟩
abbrev b_M_below : ByteArray := prog_6_method_10_code
def y_M_below : MethodName := ⟨R_M, "below", "(III)I"⟩
abbrev b_M_tabletWith : ByteArray := prog_6_method_11_code
def y_M_tabletWith : MethodName := ⟨R_M, "tabletWith", "(I)I"⟩
abbrev b_M_make : ByteArray := prog_6_method_12_code
def y_M_make : MethodName := ⟨R_M, "make", "(IIIII)V"⟩
abbrev b_M_move : ByteArray := prog_6_method_13_code
def y_M_move : MethodName := ⟨R_M, "move", "(II)V"⟩
abbrev b_M_takes : ByteArray := prog_6_method_14_code
def y_M_takes : MethodName := ⟨R_M, "takes", "(I)Z"⟩
abbrev b_M_change : ByteArray := prog_6_method_15_code
def y_M_change : MethodName := ⟨R_M, "change", "(IIIII)V"⟩
abbrev b_M_put : ByteArray := prog_6_method_16_code
def y_M_put : MethodName := ⟨R_M, "put", "(IIII)Z"⟩
abbrev b_M_erase : ByteArray := prog_6_method_17_code
def y_M_erase : MethodName := ⟨R_M, "erase", "(III)Z"⟩
abbrev b_M_expect : ByteArray := prog_6_method_18_code
def y_M_expect : MethodName := ⟨R_M, "expect", "(IIZI)Z"⟩
abbrev b_M_isMet : ByteArray := prog_6_method_19_code
def y_M_isMet : MethodName := ⟨R_M, "isMet", "()Z"⟩
abbrev b_M_drop : ByteArray := prog_6_method_20_code
def y_M_drop : MethodName := ⟨R_M, "drop", "()V"⟩
abbrev b_M_trim : ByteArray := prog_6_method_21_code
def y_M_trim : MethodName := ⟨R_M, "trim", "(II)V"⟩
abbrev b_M_apply : ByteArray := prog_6_method_22_code
def y_M_apply : MethodName := ⟨R_M, "apply", "()I"⟩
abbrev b_M_tear : ByteArray := prog_6_method_23_code
def y_M_tear : MethodName := ⟨R_M, "tear", "()V"⟩
abbrev b_M_crash : ByteArray := prog_6_method_24_code
def y_M_crash : MethodName := ⟨R_M, "crash", "()V"⟩
abbrev b_M_tick : ByteArray := prog_6_method_25_code
def y_M_tick : MethodName := ⟨R_M, "tick", "(I)I"⟩
abbrev b_M_inTable : ByteArray := prog_6_method_26_code
def y_M_inTable : MethodName := ⟨R_M, "inTable", "(II)I"⟩
abbrev b_M_bits : ByteArray := prog_6_method_27_code
def y_M_bits : MethodName := ⟨R_M, "bits", "(I)J"⟩
abbrev b_M_blocksFor : ByteArray := prog_6_method_28_code
def y_M_blocksFor : MethodName := ⟨R_M, "blocksFor", "(III)I"⟩
abbrev b_M_look : ByteArray := prog_6_method_29_code
def y_M_look : MethodName := ⟨R_M, "look", "(I)V"⟩
abbrev b_M_get : ByteArray := prog_6_method_30_code
def y_M_get : MethodName := ⟨R_M, "get", "(IIII)J"⟩
abbrev b_M_gather : ByteArray := prog_6_method_31_code
def y_M_gather : MethodName := ⟨R_M, "gather", "(IIII)V"⟩
abbrev b_M_scan : ByteArray := prog_6_method_32_code
def y_M_scan : MethodName := ⟨R_M, "scan", "(IIIII)I"⟩
abbrev b_M_found : ByteArray := prog_6_method_33_code
def y_M_found : MethodName := ⟨R_M, "found", "(I)J"⟩
abbrev b_M_flushed : ByteArray := prog_6_method_34_code
def y_M_flushed : MethodName := ⟨R_M, "flushed", "(I)I"⟩
abbrev b_M_flush : ByteArray := prog_6_method_35_code
def y_M_flush : MethodName := ⟨R_M, "flush", "(I)I"⟩
abbrev b_M_isIn : ByteArray := prog_6_method_36_code
def y_M_isIn : MethodName := ⟨R_M, "isIn", "(III)Z"⟩
abbrev b_M_merge : ByteArray := prog_6_method_37_code
def y_M_merge : MethodName := ⟨R_M, "merge", "(IIZ)I"⟩
abbrev b_M_compact : ByteArray := prog_6_method_38_code
def y_M_compact : MethodName := ⟨R_M, "compact", "(II)I"⟩
abbrev b_M_major : ByteArray := prog_6_method_39_code
def y_M_major : MethodName := ⟨R_M, "major", "(I)I"⟩
abbrev b_M_lastRow : ByteArray := prog_6_method_40_code
def y_M_lastRow : MethodName := ⟨R_M, "lastRow", "(I)I"⟩
abbrev b_M_close : ByteArray := prog_6_method_41_code
def y_M_close : MethodName := ⟨R_M, "close", "(I)V"⟩
abbrev b_M_split : ByteArray := prog_6_method_42_code
def y_M_split : MethodName := ⟨R_M, "split", "(II)Z"⟩
abbrev b_M_join : ByteArray := prog_6_method_43_code
def y_M_join : MethodName := ⟨R_M, "join", "(I)Z"⟩
abbrev b_M_tablet : ByteArray := prog_6_method_44_code
def y_M_tablet : MethodName := ⟨R_M, "tablet", "(II)I"⟩
abbrev b_M_table : ByteArray := prog_6_method_45_code
def y_M_table : MethodName := ⟨R_M, "table", "(III)I"⟩
abbrev b_M_log : ByteArray := prog_6_method_46_code
def y_M_log : MethodName := ⟨R_M, "log", "()I"⟩
abbrev b_M_looked : ByteArray := prog_6_method_47_code
def y_M_looked : MethodName := ⟨R_M, "looked", "()I"⟩
abbrev b_B_init : ByteArray := prog_2_method_1_code
def y_B_init : MethodName := ⟨R_B, "<init>", "()V"⟩
abbrev b_B_takes : ByteArray := prog_2_method_2_code
def y_B_takes : MethodName := ⟨R_B, "takes", "(I)Z"⟩
abbrev b_B_addCell : ByteArray := prog_2_method_3_code
def y_B_addCell : MethodName := ⟨R_B, "addCell", "(IIII)V"⟩
abbrev b_B_addErasure : ByteArray := prog_2_method_4_code
def y_B_addErasure : MethodName := ⟨R_B, "addErasure", "(III)V"⟩
abbrev b_B_addChange : ByteArray := prog_2_method_5_code
def y_B_addChange : MethodName := ⟨R_B, "addChange", "(III)V"⟩
abbrev b_B_setExpectation : ByteArray := prog_2_method_6_code
def y_B_setExpectation : MethodName := ⟨R_B, "setExpectation", "(IIZI)V"⟩
abbrev b_B_empty : ByteArray := prog_2_method_7_code
def y_B_empty : MethodName := ⟨R_B, "empty", "()V"⟩
abbrev b_E_init : ByteArray := prog_3_method_1_code
def y_E_init : MethodName := ⟨R_E, "<init>", "()V"⟩
abbrev b_E_begin : ByteArray := prog_3_method_2_code
def y_E_begin : MethodName := ⟨R_E, "begin", "(IIIZI)V"⟩
abbrev b_E_covers : ByteArray := prog_3_method_3_code
def y_E_covers : MethodName := ⟨R_E, "covers", "(LTabletCells$Entry;)Z"⟩
abbrev b_S_init : ByteArray := prog_4_method_1_code
def y_S_init : MethodName := ⟨R_S, "<init>", "()V"⟩
abbrev b_S_begin : ByteArray := prog_4_method_2_code
def y_S_begin : MethodName := ⟨R_S, "begin", "(I)V"⟩
abbrev b_S_pass : ByteArray := prog_4_method_3_code
def y_S_pass : MethodName := ⟨R_S, "pass", "(II)V"⟩
abbrev b_S_blocksLookedAt : ByteArray := prog_4_method_4_code
def y_S_blocksLookedAt : MethodName := ⟨R_S, "blocksLookedAt", "()I"⟩
abbrev b_S_blocksOfRow : ByteArray := prog_4_method_5_code
def y_S_blocksOfRow : MethodName := ⟨R_S, "blocksOfRow", "(I)I"⟩
abbrev b_S_bitsOf : ByteArray := prog_4_method_6_code
def y_S_bitsOf : MethodName := ⟨R_S, "bitsOf", "(I)J"⟩
abbrev b_L_cell : ByteArray := method_2_code
def y_L_cell : MethodName := ⟨R_L, "cell", "([II)I"⟩
def y_L_law : MethodName := ⟨R_L, "law", "([I)Z"⟩
def q_ws : List Cond := lw_tbl.filter goodWord
theorem q_mem {w : Cond} (h : w ∈ lw_tbl) (g : goodWord w = true) : w ∈ q_ws := List.mem_filter.mpr ⟨h, g⟩
theorem k_in_L : Cond.initialized R_L ∈ q_ws := q_mem (List.mem_append_right _ (List.mem_of_getElem? (i := 0) (by decide +kernel))) rfl
theorem k_in_T : Cond.initialized R_T ∈ q_ws := q_mem (List.mem_append_right _ (List.mem_of_getElem? (i := 1) (by decide +kernel))) rfl
theorem k_in_B : Cond.initialized R_B ∈ q_ws := q_mem (List.mem_append_right _ (List.mem_of_getElem? (i := 2) (by decide +kernel))) rfl
theorem k_in_S : Cond.initialized R_S ∈ q_ws := q_mem (List.mem_append_right _ (List.mem_of_getElem? (i := 3) (by decide +kernel))) rfl
theorem k_in_Math : Cond.initialized "java/lang/Math" ∈ q_ws := q_mem (List.mem_append_right _ (List.mem_of_getElem? (i := 4) (by decide +kernel))) rfl
theorem k_in_M : Cond.initialized R_M ∈ q_ws := q_mem (List.mem_append_right _ (List.mem_of_getElem? (i := 5) (by decide +kernel))) rfl
theorem k_in_E : Cond.initialized R_E ∈ q_ws := q_mem (List.mem_append_right _ (List.mem_of_getElem? (i := 6) (by decide +kernel))) rfl
theorem k_L_7 : Cond.classLink R_L 7 R_T ∈ q_ws := q_mem (List.mem_append_right _ (List.mem_of_getElem? (i := 7) (by decide +kernel))) rfl
theorem k_ii_T : Cond.instantiable R_T 14 ∈ q_ws := q_mem (List.mem_append_right _ (List.mem_of_getElem? (i := 8) (by decide +kernel))) rfl
theorem k_L_15 : Cond.methodLink R_L 15 y_T_init ∈ q_ws := q_mem (List.mem_append_right _ (List.mem_of_getElem? (i := 9) (by decide +kernel))) rfl
theorem k_im_T_init : Cond.instanceMethod y_T_init ∈ q_ws := q_mem (List.mem_append_right _ (List.mem_of_getElem? (i := 10) (by decide +kernel))) rfl
set_option maxRecDepth 20000 in
theorem k_co_T_init : Cond.code y_T_init b_T_init 5 none ∈ q_ws := q_mem (List.mem_append_right _ (List.mem_of_getElem? (i := 11) rfl)) rfl
theorem k_T_3 : Cond.methodLink R_T 3 objectInit ∈ q_ws := q_mem (List.mem_append_right _ (List.mem_of_getElem? (i := 12) (by decide +kernel))) rfl
theorem k_im_obj : Cond.instanceMethod objectInit ∈ q_ws := q_mem (List.mem_append_right _ (List.mem_of_getElem? (i := 13) (by decide +kernel))) rfl
set_option maxRecDepth 20000 in
theorem k_co_obj : Cond.code objectInit ⟨#[0xb1]⟩ 1 none ∈ q_ws := q_mem (List.mem_append_right _ (List.mem_of_getElem? (i := 14) rfl)) rfl
theorem k_T_20 : Cond.classLink R_T 20 R_E ∈ q_ws := q_mem (List.mem_append_right _ (List.mem_of_getElem? (i := 15) (by decide +kernel))) rfl
theorem k_ao_E : Cond.arrayOver (.object R_E) ∈ lw_tbl := List.mem_append_right _ (List.mem_of_getElem? (i := 16) (by decide +kernel))
theorem k_T_38 : Cond.classLink R_T 38 R_B ∈ q_ws := q_mem (List.mem_append_right _ (List.mem_of_getElem? (i := 17) (by decide +kernel))) rfl
theorem k_ii_B : Cond.instantiable R_B 11 ∈ q_ws := q_mem (List.mem_append_right _ (List.mem_of_getElem? (i := 18) (by decide +kernel))) rfl
theorem k_T_40 : Cond.methodLinkNest R_T 40 y_B_init "TabletCells" ∈ lw_tbl := List.mem_append_right _ (List.mem_of_getElem? (i := 19) (by decide +kernel))
theorem k_im_B_init : Cond.instanceMethod y_B_init ∈ q_ws := q_mem (List.mem_append_right _ (List.mem_of_getElem? (i := 20) (by decide +kernel))) rfl
set_option maxRecDepth 20000 in
theorem k_co_B_init : Cond.code y_B_init b_B_init 1 none ∈ q_ws := q_mem (List.mem_append_right _ (List.mem_of_getElem? (i := 21) rfl)) rfl
theorem k_B_3 : Cond.methodLink R_B 3 objectInit ∈ q_ws := q_mem (List.mem_append_right _ (List.mem_of_getElem? (i := 22) (by decide +kernel))) rfl
theorem k_B_9 : Cond.fieldLink R_B 9 "TabletCells$Batch" "row" "I" ∈ q_ws := q_mem (List.mem_append_right _ (List.mem_of_getElem? (i := 23) (by decide +kernel))) rfl
theorem k_T_142 : Cond.fieldLinkNest R_T 142 "TabletCells$Batch" "row" "I" "TabletCells" ∈ lw_tbl := List.mem_append_right _ (List.mem_of_getElem? (i := 24) (by decide +kernel))
theorem k_B_15 : Cond.fieldLink R_B 15 "TabletCells$Batch" "size" "I" ∈ q_ws := q_mem (List.mem_append_right _ (List.mem_of_getElem? (i := 25) (by decide +kernel))) rfl
theorem k_T_99 : Cond.fieldLinkNest R_T 99 "TabletCells$Batch" "size" "I" "TabletCells" ∈ lw_tbl := List.mem_append_right _ (List.mem_of_getElem? (i := 26) (by decide +kernel))
theorem k_B_18 : Cond.fieldLink R_B 18 "TabletCells$Batch" "columns" "[I" ∈ q_ws := q_mem (List.mem_append_right _ (List.mem_of_getElem? (i := 27) (by decide +kernel))) rfl
theorem k_T_155 : Cond.fieldLinkNest R_T 155 "TabletCells$Batch" "columns" "[I" "TabletCells" ∈ lw_tbl := List.mem_append_right _ (List.mem_of_getElem? (i := 28) (by decide +kernel))
theorem k_B_22 : Cond.fieldLink R_B 22 "TabletCells$Batch" "times" "[I" ∈ q_ws := q_mem (List.mem_append_right _ (List.mem_of_getElem? (i := 29) (by decide +kernel))) rfl
theorem k_T_162 : Cond.fieldLinkNest R_T 162 "TabletCells$Batch" "times" "[I" "TabletCells" ∈ lw_tbl := List.mem_append_right _ (List.mem_of_getElem? (i := 30) (by decide +kernel))
theorem k_B_25 : Cond.fieldLink R_B 25 "TabletCells$Batch" "values" "[I" ∈ q_ws := q_mem (List.mem_append_right _ (List.mem_of_getElem? (i := 31) (by decide +kernel))) rfl
theorem k_T_169 : Cond.fieldLinkNest R_T 169 "TabletCells$Batch" "values" "[I" "TabletCells" ∈ lw_tbl := List.mem_append_right _ (List.mem_of_getElem? (i := 32) (by decide +kernel))
theorem k_B_28 : Cond.fieldLink R_B 28 "TabletCells$Batch" "erasures" "[Z" ∈ q_ws := q_mem (List.mem_append_right _ (List.mem_of_getElem? (i := 33) (by decide +kernel))) rfl
theorem k_T_158 : Cond.fieldLinkNest R_T 158 "TabletCells$Batch" "erasures" "[Z" "TabletCells" ∈ lw_tbl := List.mem_append_right _ (List.mem_of_getElem? (i := 34) (by decide +kernel))
theorem k_B_32 : Cond.fieldLink R_B 32 "TabletCells$Batch" "hasExpectation" "Z" ∈ q_ws := q_mem (List.mem_append_right _ (List.mem_of_getElem? (i := 35) (by decide +kernel))) rfl
theorem k_T_116 : Cond.fieldLinkNest R_T 116 "TabletCells$Batch" "hasExpectation" "Z" "TabletCells" ∈ lw_tbl := List.mem_append_right _ (List.mem_of_getElem? (i := 36) (by decide +kernel))
theorem k_B_36 : Cond.fieldLink R_B 36 "TabletCells$Batch" "expectedRow" "I" ∈ q_ws := q_mem (List.mem_append_right _ (List.mem_of_getElem? (i := 37) (by decide +kernel))) rfl
theorem k_T_119 : Cond.fieldLinkNest R_T 119 "TabletCells$Batch" "expectedRow" "I" "TabletCells" ∈ lw_tbl := List.mem_append_right _ (List.mem_of_getElem? (i := 38) (by decide +kernel))
theorem k_B_39 : Cond.fieldLink R_B 39 "TabletCells$Batch" "expectedColumn" "I" ∈ q_ws := q_mem (List.mem_append_right _ (List.mem_of_getElem? (i := 39) (by decide +kernel))) rfl
theorem k_T_122 : Cond.fieldLinkNest R_T 122 "TabletCells$Batch" "expectedColumn" "I" "TabletCells" ∈ lw_tbl := List.mem_append_right _ (List.mem_of_getElem? (i := 40) (by decide +kernel))
theorem k_B_42 : Cond.fieldLink R_B 42 "TabletCells$Batch" "expectsSome" "Z" ∈ q_ws := q_mem (List.mem_append_right _ (List.mem_of_getElem? (i := 41) (by decide +kernel))) rfl
theorem k_T_129 : Cond.fieldLinkNest R_T 129 "TabletCells$Batch" "expectsSome" "Z" "TabletCells" ∈ lw_tbl := List.mem_append_right _ (List.mem_of_getElem? (i := 42) (by decide +kernel))
theorem k_B_45 : Cond.fieldLink R_B 45 "TabletCells$Batch" "expectedValue" "I" ∈ q_ws := q_mem (List.mem_append_right _ (List.mem_of_getElem? (i := 43) (by decide +kernel))) rfl
theorem k_T_135 : Cond.fieldLinkNest R_T 135 "TabletCells$Batch" "expectedValue" "I" "TabletCells" ∈ lw_tbl := List.mem_append_right _ (List.mem_of_getElem? (i := 44) (by decide +kernel))
theorem k_la_B_0 : u_lay R_B F_B 0 ∈ q_ws := (q_mem (List.mem_append_right _ (List.mem_of_getElem? (i := 45) (by decide +kernel))) rfl : Cond.lays "TabletCells$Batch" "TabletCells$Batch" "row" "I" ∈ q_ws)
theorem k_la_B_1 : u_lay R_B F_B 1 ∈ q_ws := (q_mem (List.mem_append_right _ (List.mem_of_getElem? (i := 47) (by decide +kernel))) rfl : Cond.lays "TabletCells$Batch" "TabletCells$Batch" "size" "I" ∈ q_ws)
theorem k_la_B_2 : u_lay R_B F_B 2 ∈ q_ws := (q_mem (List.mem_append_right _ (List.mem_of_getElem? (i := 49) (by decide +kernel))) rfl : Cond.laysFinal "TabletCells$Batch" "TabletCells$Batch" "columns" "[I" ∈ q_ws)
theorem k_la_B_3 : u_lay R_B F_B 3 ∈ q_ws := (q_mem (List.mem_append_right _ (List.mem_of_getElem? (i := 51) (by decide +kernel))) rfl : Cond.laysFinal "TabletCells$Batch" "TabletCells$Batch" "times" "[I" ∈ q_ws)
theorem k_la_B_4 : u_lay R_B F_B 4 ∈ q_ws := (q_mem (List.mem_append_right _ (List.mem_of_getElem? (i := 53) (by decide +kernel))) rfl : Cond.laysFinal "TabletCells$Batch" "TabletCells$Batch" "values" "[I" ∈ q_ws)
theorem k_la_B_5 : u_lay R_B F_B 5 ∈ q_ws := (q_mem (List.mem_append_right _ (List.mem_of_getElem? (i := 55) (by decide +kernel))) rfl : Cond.laysFinal "TabletCells$Batch" "TabletCells$Batch" "erasures" "[Z" ∈ q_ws)
theorem k_la_B_6 : u_lay R_B F_B 6 ∈ q_ws := (q_mem (List.mem_append_right _ (List.mem_of_getElem? (i := 57) (by decide +kernel))) rfl : Cond.lays "TabletCells$Batch" "TabletCells$Batch" "hasExpectation" "Z" ∈ q_ws)
theorem k_la_B_7 : u_lay R_B F_B 7 ∈ q_ws := (q_mem (List.mem_append_right _ (List.mem_of_getElem? (i := 59) (by decide +kernel))) rfl : Cond.lays "TabletCells$Batch" "TabletCells$Batch" "expectedRow" "I" ∈ q_ws)
theorem k_la_B_8 : u_lay R_B F_B 8 ∈ q_ws := (q_mem (List.mem_append_right _ (List.mem_of_getElem? (i := 61) (by decide +kernel))) rfl : Cond.lays "TabletCells$Batch" "TabletCells$Batch" "expectedColumn" "I" ∈ q_ws)
theorem k_la_B_9 : u_lay R_B F_B 9 ∈ q_ws := (q_mem (List.mem_append_right _ (List.mem_of_getElem? (i := 63) (by decide +kernel))) rfl : Cond.lays "TabletCells$Batch" "TabletCells$Batch" "expectsSome" "Z" ∈ q_ws)
theorem k_la_B_10 : u_lay R_B F_B 10 ∈ q_ws := (q_mem (List.mem_append_right _ (List.mem_of_getElem? (i := 65) (by decide +kernel))) rfl : Cond.lays "TabletCells$Batch" "TabletCells$Batch" "expectedValue" "I" ∈ q_ws)
theorem k_ac_int : Cond.arrayClass .int ∈ q_ws := q_mem (List.mem_append_right _ (List.mem_of_getElem? (i := 68) (by decide +kernel))) rfl
theorem k_ac_boolean : Cond.arrayClass .boolean ∈ q_ws := q_mem (List.mem_append_right _ (List.mem_of_getElem? (i := 69) (by decide +kernel))) rfl
theorem k_T_56 : Cond.classLink R_T 56 R_S ∈ q_ws := q_mem (List.mem_append_right _ (List.mem_of_getElem? (i := 70) (by decide +kernel))) rfl
theorem k_ii_S : Cond.instantiable R_S 5 ∈ q_ws := q_mem (List.mem_append_right _ (List.mem_of_getElem? (i := 71) (by decide +kernel))) rfl
theorem k_T_58 : Cond.methodLinkNest R_T 58 y_S_init "TabletCells" ∈ lw_tbl := List.mem_append_right _ (List.mem_of_getElem? (i := 72) (by decide +kernel))
theorem k_im_S_init : Cond.instanceMethod y_S_init ∈ q_ws := q_mem (List.mem_append_right _ (List.mem_of_getElem? (i := 73) (by decide +kernel))) rfl
set_option maxRecDepth 20000 in
theorem k_co_S_init : Cond.code y_S_init b_S_init 1 none ∈ q_ws := q_mem (List.mem_append_right _ (List.mem_of_getElem? (i := 74) rfl)) rfl
theorem k_S_3 : Cond.methodLink R_S 3 objectInit ∈ q_ws := q_mem (List.mem_append_right _ (List.mem_of_getElem? (i := 75) (by decide +kernel))) rfl
theorem k_S_9 : Cond.fieldLink R_S 9 "TabletCells$Sight" "wanted" "I" ∈ q_ws := q_mem (List.mem_append_right _ (List.mem_of_getElem? (i := 76) (by decide +kernel))) rfl
theorem k_S_15 : Cond.fieldLink R_S 15 "TabletCells$Sight" "tables" "I" ∈ q_ws := q_mem (List.mem_append_right _ (List.mem_of_getElem? (i := 77) (by decide +kernel))) rfl
theorem k_S_18 : Cond.fieldLink R_S 18 "TabletCells$Sight" "filters" "[J" ∈ q_ws := q_mem (List.mem_append_right _ (List.mem_of_getElem? (i := 78) (by decide +kernel))) rfl
theorem k_S_22 : Cond.fieldLink R_S 22 "TabletCells$Sight" "ahead" "[I" ∈ q_ws := q_mem (List.mem_append_right _ (List.mem_of_getElem? (i := 79) (by decide +kernel))) rfl
theorem k_S_26 : Cond.fieldLink R_S 26 "TabletCells$Sight" "ofRow" "[I" ∈ q_ws := q_mem (List.mem_append_right _ (List.mem_of_getElem? (i := 80) (by decide +kernel))) rfl
theorem k_la_S_0 : u_lay R_S F_S 0 ∈ q_ws := (q_mem (List.mem_append_right _ (List.mem_of_getElem? (i := 81) (by decide +kernel))) rfl : Cond.lays "TabletCells$Sight" "TabletCells$Sight" "wanted" "I" ∈ q_ws)
theorem k_la_S_1 : u_lay R_S F_S 1 ∈ q_ws := (q_mem (List.mem_append_right _ (List.mem_of_getElem? (i := 83) (by decide +kernel))) rfl : Cond.lays "TabletCells$Sight" "TabletCells$Sight" "tables" "I" ∈ q_ws)
theorem k_la_S_2 : u_lay R_S F_S 2 ∈ q_ws := (q_mem (List.mem_append_right _ (List.mem_of_getElem? (i := 85) (by decide +kernel))) rfl : Cond.laysFinal "TabletCells$Sight" "TabletCells$Sight" "filters" "[J" ∈ q_ws)
theorem k_la_S_3 : u_lay R_S F_S 3 ∈ q_ws := (q_mem (List.mem_append_right _ (List.mem_of_getElem? (i := 87) (by decide +kernel))) rfl : Cond.laysFinal "TabletCells$Sight" "TabletCells$Sight" "ahead" "[I" ∈ q_ws)
theorem k_la_S_4 : u_lay R_S F_S 4 ∈ q_ws := (q_mem (List.mem_append_right _ (List.mem_of_getElem? (i := 89) (by decide +kernel))) rfl : Cond.laysFinal "TabletCells$Sight" "TabletCells$Sight" "ofRow" "[I" ∈ q_ws)
theorem k_ac_long : Cond.arrayClass .long ∈ q_ws := q_mem (List.mem_append_right _ (List.mem_of_getElem? (i := 92) (by decide +kernel))) rfl
theorem k_T_66 : Cond.methodLink R_T 66 y_T_nearest ∈ q_ws := q_mem (List.mem_append_right _ (List.mem_of_getElem? (i := 93) (by decide +kernel))) rfl
theorem k_st_T_nearest : Cond.static y_T_nearest ∈ q_ws := q_mem (List.mem_append_right _ (List.mem_of_getElem? (i := 94) (by decide +kernel))) rfl
set_option maxRecDepth 20000 in
theorem k_co_T_nearest : Cond.code y_T_nearest b_T_nearest 2 (some .int) ∈ q_ws := q_mem (List.mem_append_right _ (List.mem_of_getElem? (i := 95) rfl)) rfl
theorem k_T_199 : Cond.methodLink R_T 199 Lib.Math.min.name ∈ q_ws := q_mem (List.mem_append_right _ (List.mem_of_getElem? (i := 96) (by decide +kernel))) rfl
theorem k_st_min : Cond.static Lib.Math.min.name ∈ q_ws := q_mem (List.mem_append_right _ (List.mem_of_getElem? (i := 97) (by decide +kernel))) rfl
set_option maxRecDepth 20000 in
theorem k_co_min : Cond.code Lib.Math.min.name Lib.Math.min.code 2 (some .int) ∈ q_ws := q_mem (List.mem_append_right _ (List.mem_of_getElem? (i := 98) rfl)) rfl
theorem k_T_194 : Cond.methodLink R_T 194 Lib.Math.max.name ∈ q_ws := q_mem (List.mem_append_right _ (List.mem_of_getElem? (i := 99) (by decide +kernel))) rfl
theorem k_st_max : Cond.static Lib.Math.max.name ∈ q_ws := q_mem (List.mem_append_right _ (List.mem_of_getElem? (i := 100) (by decide +kernel))) rfl
set_option maxRecDepth 20000 in
theorem k_co_max : Cond.code Lib.Math.max.name Lib.Math.max.code 2 (some .int) ∈ q_ws := q_mem (List.mem_append_right _ (List.mem_of_getElem? (i := 101) rfl)) rfl
theorem k_T_9 : Cond.fieldLink R_T 9 "TabletCells" "numbers" "[I" ∈ q_ws := q_mem (List.mem_append_right _ (List.mem_of_getElem? (i := 102) (by decide +kernel))) rfl
theorem k_T_13 : Cond.fieldLink R_T 13 "TabletCells" "ages" "[I" ∈ q_ws := q_mem (List.mem_append_right _ (List.mem_of_getElem? (i := 103) (by decide +kernel))) rfl
theorem k_T_16 : Cond.fieldLink R_T 16 "TabletCells" "clock" "I" ∈ q_ws := q_mem (List.mem_append_right _ (List.mem_of_getElem? (i := 104) (by decide +kernel))) rfl
theorem k_T_22 : Cond.fieldLink R_T 22 "TabletCells" "entries" "[LTabletCells$Entry;" ∈ q_ws := q_mem (List.mem_append_right _ (List.mem_of_getElem? (i := 105) (by decide +kernel))) rfl
theorem k_T_26 : Cond.fieldLink R_T 26 "TabletCells" "entryCount" "I" ∈ q_ws := q_mem (List.mem_append_right _ (List.mem_of_getElem? (i := 106) (by decide +kernel))) rfl
theorem k_T_29 : Cond.fieldLink R_T 29 "TabletCells" "lastSequence" "I" ∈ q_ws := q_mem (List.mem_append_right _ (List.mem_of_getElem? (i := 107) (by decide +kernel))) rfl
theorem k_T_32 : Cond.fieldLink R_T 32 "TabletCells" "firstRows" "[I" ∈ q_ws := q_mem (List.mem_append_right _ (List.mem_of_getElem? (i := 108) (by decide +kernel))) rfl
theorem k_T_35 : Cond.fieldLink R_T 35 "TabletCells" "tabletCount" "I" ∈ q_ws := q_mem (List.mem_append_right _ (List.mem_of_getElem? (i := 109) (by decide +kernel))) rfl
theorem k_T_41 : Cond.fieldLink R_T 41 "TabletCells" "batch" "LTabletCells$Batch;" ∈ q_ws := q_mem (List.mem_append_right _ (List.mem_of_getElem? (i := 110) (by decide +kernel))) rfl
theorem k_T_45 : Cond.fieldLink R_T 45 "TabletCells" "willTear" "Z" ∈ q_ws := q_mem (List.mem_append_right _ (List.mem_of_getElem? (i := 111) (by decide +kernel))) rfl
theorem k_T_49 : Cond.fieldLink R_T 49 "TabletCells" "result" "[J" ∈ q_ws := q_mem (List.mem_append_right _ (List.mem_of_getElem? (i := 112) (by decide +kernel))) rfl
theorem k_T_53 : Cond.fieldLink R_T 53 "TabletCells" "resultSize" "I" ∈ q_ws := q_mem (List.mem_append_right _ (List.mem_of_getElem? (i := 113) (by decide +kernel))) rfl
theorem k_T_59 : Cond.fieldLink R_T 59 "TabletCells" "sight" "LTabletCells$Sight;" ∈ q_ws := q_mem (List.mem_append_right _ (List.mem_of_getElem? (i := 114) (by decide +kernel))) rfl
theorem k_T_63 : Cond.fieldLink R_T 63 "TabletCells" "lookedAt" "I" ∈ q_ws := q_mem (List.mem_append_right _ (List.mem_of_getElem? (i := 115) (by decide +kernel))) rfl
theorem k_la_T_0 : u_lay R_T F_T 0 ∈ q_ws := (q_mem (List.mem_append_right _ (List.mem_of_getElem? (i := 116) (by decide +kernel))) rfl : Cond.laysFinal "TabletCells" "TabletCells" "numbers" "[I" ∈ q_ws)
theorem k_la_T_1 : u_lay R_T F_T 1 ∈ q_ws := (q_mem (List.mem_append_right _ (List.mem_of_getElem? (i := 118) (by decide +kernel))) rfl : Cond.laysFinal "TabletCells" "TabletCells" "ages" "[I" ∈ q_ws)
theorem k_la_T_2 : u_lay R_T F_T 2 ∈ q_ws := (q_mem (List.mem_append_right _ (List.mem_of_getElem? (i := 120) (by decide +kernel))) rfl : Cond.lays "TabletCells" "TabletCells" "clock" "I" ∈ q_ws)
theorem k_la_T_3 : u_lay R_T F_T 3 ∈ q_ws := (q_mem (List.mem_append_right _ (List.mem_of_getElem? (i := 122) (by decide +kernel))) rfl : Cond.laysFinal "TabletCells" "TabletCells" "entries" "[LTabletCells$Entry;" ∈ q_ws)
theorem k_la_T_4 : u_lay R_T F_T 4 ∈ q_ws := (q_mem (List.mem_append_right _ (List.mem_of_getElem? (i := 124) (by decide +kernel))) rfl : Cond.lays "TabletCells" "TabletCells" "entryCount" "I" ∈ q_ws)
theorem k_la_T_5 : u_lay R_T F_T 5 ∈ q_ws := (q_mem (List.mem_append_right _ (List.mem_of_getElem? (i := 126) (by decide +kernel))) rfl : Cond.lays "TabletCells" "TabletCells" "lastSequence" "I" ∈ q_ws)
theorem k_la_T_6 : u_lay R_T F_T 6 ∈ q_ws := (q_mem (List.mem_append_right _ (List.mem_of_getElem? (i := 128) (by decide +kernel))) rfl : Cond.laysFinal "TabletCells" "TabletCells" "firstRows" "[I" ∈ q_ws)
theorem k_la_T_7 : u_lay R_T F_T 7 ∈ q_ws := (q_mem (List.mem_append_right _ (List.mem_of_getElem? (i := 130) (by decide +kernel))) rfl : Cond.lays "TabletCells" "TabletCells" "tabletCount" "I" ∈ q_ws)
theorem k_la_T_8 : u_lay R_T F_T 8 ∈ q_ws := (q_mem (List.mem_append_right _ (List.mem_of_getElem? (i := 132) (by decide +kernel))) rfl : Cond.laysFinal "TabletCells" "TabletCells" "batch" "LTabletCells$Batch;" ∈ q_ws)
theorem k_la_T_9 : u_lay R_T F_T 9 ∈ q_ws := (q_mem (List.mem_append_right _ (List.mem_of_getElem? (i := 134) (by decide +kernel))) rfl : Cond.lays "TabletCells" "TabletCells" "willTear" "Z" ∈ q_ws)
theorem k_la_T_10 : u_lay R_T F_T 10 ∈ q_ws := (q_mem (List.mem_append_right _ (List.mem_of_getElem? (i := 136) (by decide +kernel))) rfl : Cond.laysFinal "TabletCells" "TabletCells" "result" "[J" ∈ q_ws)
theorem k_la_T_11 : u_lay R_T F_T 11 ∈ q_ws := (q_mem (List.mem_append_right _ (List.mem_of_getElem? (i := 138) (by decide +kernel))) rfl : Cond.lays "TabletCells" "TabletCells" "resultSize" "I" ∈ q_ws)
theorem k_la_T_12 : u_lay R_T F_T 12 ∈ q_ws := (q_mem (List.mem_append_right _ (List.mem_of_getElem? (i := 140) (by decide +kernel))) rfl : Cond.laysFinal "TabletCells" "TabletCells" "sight" "LTabletCells$Sight;" ∈ q_ws)
theorem k_la_T_13 : u_lay R_T F_T 13 ∈ q_ws := (q_mem (List.mem_append_right _ (List.mem_of_getElem? (i := 142) (by decide +kernel))) rfl : Cond.lays "TabletCells" "TabletCells" "lookedAt" "I" ∈ q_ws)
theorem k_L_21 : Cond.methodLink R_L 21 y_T_put ∈ q_ws := q_mem (List.mem_append_right _ (List.mem_of_getElem? (i := 145) (by decide +kernel))) rfl
theorem k_im_T_put : Cond.instanceMethod y_T_put ∈ q_ws := q_mem (List.mem_append_right _ (List.mem_of_getElem? (i := 146) (by decide +kernel))) rfl
theorem k_se_T_put : Cond.selects R_T y_T_put y_T_put ∈ q_ws := q_mem (List.mem_append_right _ (List.mem_of_getElem? (i := 147) (by decide +kernel))) rfl
set_option maxRecDepth 20000 in
theorem k_co_T_put : Cond.code y_T_put b_T_put 5 (some .boolean) ∈ q_ws := q_mem (List.mem_append_right _ (List.mem_of_getElem? (i := 148) rfl)) rfl
theorem k_T_70 : Cond.methodLink R_T 70 y_T_isRow ∈ q_ws := q_mem (List.mem_append_right _ (List.mem_of_getElem? (i := 149) (by decide +kernel))) rfl
theorem k_st_T_isRow : Cond.static y_T_isRow ∈ q_ws := q_mem (List.mem_append_right _ (List.mem_of_getElem? (i := 150) (by decide +kernel))) rfl
set_option maxRecDepth 20000 in
theorem k_co_T_isRow : Cond.code y_T_isRow b_T_isRow 1 (some .boolean) ∈ q_ws := q_mem (List.mem_append_right _ (List.mem_of_getElem? (i := 151) rfl)) rfl
theorem k_T_74 : Cond.methodLink R_T 74 y_T_isColumn ∈ q_ws := q_mem (List.mem_append_right _ (List.mem_of_getElem? (i := 152) (by decide +kernel))) rfl
theorem k_st_T_isColumn : Cond.static y_T_isColumn ∈ q_ws := q_mem (List.mem_append_right _ (List.mem_of_getElem? (i := 153) (by decide +kernel))) rfl
set_option maxRecDepth 20000 in
theorem k_co_T_isColumn : Cond.code y_T_isColumn b_T_isColumn 1 (some .boolean) ∈ q_ws := q_mem (List.mem_append_right _ (List.mem_of_getElem? (i := 154) rfl)) rfl
theorem k_T_77 : Cond.methodLink R_T 77 y_T_isTime ∈ q_ws := q_mem (List.mem_append_right _ (List.mem_of_getElem? (i := 155) (by decide +kernel))) rfl
theorem k_st_T_isTime : Cond.static y_T_isTime ∈ q_ws := q_mem (List.mem_append_right _ (List.mem_of_getElem? (i := 156) (by decide +kernel))) rfl
set_option maxRecDepth 20000 in
theorem k_co_T_isTime : Cond.code y_T_isTime b_T_isTime 1 (some .boolean) ∈ q_ws := q_mem (List.mem_append_right _ (List.mem_of_getElem? (i := 157) rfl)) rfl
theorem k_T_80 : Cond.methodLinkNest R_T 80 y_B_takes "TabletCells" ∈ lw_tbl := List.mem_append_right _ (List.mem_of_getElem? (i := 158) (by decide +kernel))
theorem k_im_B_takes : Cond.instanceMethod y_B_takes ∈ q_ws := q_mem (List.mem_append_right _ (List.mem_of_getElem? (i := 160) (by decide +kernel))) rfl
set_option maxRecDepth 20000 in
theorem k_co_B_takes : Cond.code y_B_takes b_B_takes 2 (some .boolean) ∈ q_ws := q_mem (List.mem_append_right _ (List.mem_of_getElem? (i := 161) rfl)) rfl
theorem k_T_83 : Cond.methodLinkNest R_T 83 y_B_addCell "TabletCells" ∈ lw_tbl := List.mem_append_right _ (List.mem_of_getElem? (i := 162) (by decide +kernel))
theorem k_im_B_addCell : Cond.instanceMethod y_B_addCell ∈ q_ws := q_mem (List.mem_append_right _ (List.mem_of_getElem? (i := 164) (by decide +kernel))) rfl
set_option maxRecDepth 20000 in
theorem k_co_B_addCell : Cond.code y_B_addCell b_B_addCell 5 none ∈ q_ws := q_mem (List.mem_append_right _ (List.mem_of_getElem? (i := 165) rfl)) rfl
theorem k_B_48 : Cond.methodLink R_B 48 y_B_addChange ∈ q_ws := q_mem (List.mem_append_right _ (List.mem_of_getElem? (i := 166) (by decide +kernel))) rfl
theorem k_im_B_addChange : Cond.instanceMethod y_B_addChange ∈ q_ws := q_mem (List.mem_append_right _ (List.mem_of_getElem? (i := 168) (by decide +kernel))) rfl
set_option maxRecDepth 20000 in
theorem k_co_B_addChange : Cond.code y_B_addChange b_B_addChange 4 none ∈ q_ws := q_mem (List.mem_append_right _ (List.mem_of_getElem? (i := 169) rfl)) rfl
theorem k_L_26 : Cond.methodLink R_L 26 y_T_erase ∈ q_ws := q_mem (List.mem_append_right _ (List.mem_of_getElem? (i := 170) (by decide +kernel))) rfl
theorem k_im_T_erase : Cond.instanceMethod y_T_erase ∈ q_ws := q_mem (List.mem_append_right _ (List.mem_of_getElem? (i := 171) (by decide +kernel))) rfl
theorem k_se_T_erase : Cond.selects R_T y_T_erase y_T_erase ∈ q_ws := q_mem (List.mem_append_right _ (List.mem_of_getElem? (i := 172) (by decide +kernel))) rfl
set_option maxRecDepth 20000 in
theorem k_co_T_erase : Cond.code y_T_erase b_T_erase 4 (some .boolean) ∈ q_ws := q_mem (List.mem_append_right _ (List.mem_of_getElem? (i := 173) rfl)) rfl
theorem k_T_87 : Cond.methodLink R_T 87 y_T_isErasable ∈ q_ws := q_mem (List.mem_append_right _ (List.mem_of_getElem? (i := 174) (by decide +kernel))) rfl
theorem k_st_T_isErasable : Cond.static y_T_isErasable ∈ q_ws := q_mem (List.mem_append_right _ (List.mem_of_getElem? (i := 175) (by decide +kernel))) rfl
set_option maxRecDepth 20000 in
theorem k_co_T_isErasable : Cond.code y_T_isErasable b_T_isErasable 2 (some .boolean) ∈ q_ws := q_mem (List.mem_append_right _ (List.mem_of_getElem? (i := 176) rfl)) rfl
theorem k_T_91 : Cond.methodLinkNest R_T 91 y_B_addErasure "TabletCells" ∈ lw_tbl := List.mem_append_right _ (List.mem_of_getElem? (i := 177) (by decide +kernel))
theorem k_im_B_addErasure : Cond.instanceMethod y_B_addErasure ∈ q_ws := q_mem (List.mem_append_right _ (List.mem_of_getElem? (i := 179) (by decide +kernel))) rfl
set_option maxRecDepth 20000 in
theorem k_co_B_addErasure : Cond.code y_B_addErasure b_B_addErasure 4 none ∈ q_ws := q_mem (List.mem_append_right _ (List.mem_of_getElem? (i := 180) rfl)) rfl
theorem k_L_31 : Cond.methodLink R_L 31 y_T_expect ∈ q_ws := q_mem (List.mem_append_right _ (List.mem_of_getElem? (i := 181) (by decide +kernel))) rfl
theorem k_im_T_expect : Cond.instanceMethod y_T_expect ∈ q_ws := q_mem (List.mem_append_right _ (List.mem_of_getElem? (i := 182) (by decide +kernel))) rfl
theorem k_se_T_expect : Cond.selects R_T y_T_expect y_T_expect ∈ q_ws := q_mem (List.mem_append_right _ (List.mem_of_getElem? (i := 183) (by decide +kernel))) rfl
set_option maxRecDepth 20000 in
theorem k_co_T_expect : Cond.code y_T_expect b_T_expect 5 (some .boolean) ∈ q_ws := q_mem (List.mem_append_right _ (List.mem_of_getElem? (i := 184) rfl)) rfl
theorem k_T_95 : Cond.methodLinkNest R_T 95 y_B_setExpectation "TabletCells" ∈ lw_tbl := List.mem_append_right _ (List.mem_of_getElem? (i := 185) (by decide +kernel))
theorem k_im_B_setExpectation : Cond.instanceMethod y_B_setExpectation ∈ q_ws := q_mem (List.mem_append_right _ (List.mem_of_getElem? (i := 187) (by decide +kernel))) rfl
set_option maxRecDepth 20000 in
theorem k_co_B_setExpectation : Cond.code y_B_setExpectation b_B_setExpectation 5 none ∈ q_ws := q_mem (List.mem_append_right _ (List.mem_of_getElem? (i := 188) rfl)) rfl
theorem k_L_36 : Cond.methodLink R_L 36 y_T_apply ∈ q_ws := q_mem (List.mem_append_right _ (List.mem_of_getElem? (i := 189) (by decide +kernel))) rfl
theorem k_im_T_apply : Cond.instanceMethod y_T_apply ∈ q_ws := q_mem (List.mem_append_right _ (List.mem_of_getElem? (i := 190) (by decide +kernel))) rfl
theorem k_se_T_apply : Cond.selects R_T y_T_apply y_T_apply ∈ q_ws := q_mem (List.mem_append_right _ (List.mem_of_getElem? (i := 191) (by decide +kernel))) rfl
set_option maxRecDepth 20000 in
theorem k_co_T_apply : Cond.code y_T_apply b_T_apply 2 (some .int) ∈ q_ws := q_mem (List.mem_append_right _ (List.mem_of_getElem? (i := 192) rfl)) rfl
theorem k_T_102 : Cond.methodLink R_T 102 y_T_crash ∈ q_ws := q_mem (List.mem_append_right _ (List.mem_of_getElem? (i := 193) (by decide +kernel))) rfl
theorem k_im_T_crash : Cond.instanceMethod y_T_crash ∈ q_ws := q_mem (List.mem_append_right _ (List.mem_of_getElem? (i := 194) (by decide +kernel))) rfl
theorem k_se_T_crash : Cond.selects R_T y_T_crash y_T_crash ∈ q_ws := q_mem (List.mem_append_right _ (List.mem_of_getElem? (i := 195) (by decide +kernel))) rfl
set_option maxRecDepth 20000 in
theorem k_co_T_crash : Cond.code y_T_crash b_T_crash 1 none ∈ q_ws := q_mem (List.mem_append_right _ (List.mem_of_getElem? (i := 196) rfl)) rfl
theorem k_T_113 : Cond.methodLinkNest R_T 113 y_B_empty "TabletCells" ∈ lw_tbl := List.mem_append_right _ (List.mem_of_getElem? (i := 197) (by decide +kernel))
theorem k_im_B_empty : Cond.instanceMethod y_B_empty ∈ q_ws := q_mem (List.mem_append_right _ (List.mem_of_getElem? (i := 199) (by decide +kernel))) rfl
set_option maxRecDepth 20000 in
theorem k_co_B_empty : Cond.code y_B_empty b_B_empty 1 none ∈ q_ws := q_mem (List.mem_append_right _ (List.mem_of_getElem? (i := 200) rfl)) rfl
theorem k_T_105 : Cond.methodLink R_T 105 y_T_isExpectationMet ∈ q_ws := q_mem (List.mem_append_right _ (List.mem_of_getElem? (i := 201) (by decide +kernel))) rfl
theorem k_im_T_isExpectationMet : Cond.instanceMethod y_T_isExpectationMet ∈ q_ws := q_mem (List.mem_append_right _ (List.mem_of_getElem? (i := 203) (by decide +kernel))) rfl
set_option maxRecDepth 20000 in
theorem k_co_T_isExpectationMet : Cond.code y_T_isExpectationMet b_T_isExpectationMet 2 (some .boolean) ∈ q_ws := q_mem (List.mem_append_right _ (List.mem_of_getElem? (i := 204) rfl)) rfl
theorem k_T_125 : Cond.methodLink R_T 125 y_T_liveCell ∈ q_ws := q_mem (List.mem_append_right _ (List.mem_of_getElem? (i := 205) (by decide +kernel))) rfl
theorem k_im_T_liveCell : Cond.instanceMethod y_T_liveCell ∈ q_ws := q_mem (List.mem_append_right _ (List.mem_of_getElem? (i := 207) (by decide +kernel))) rfl
set_option maxRecDepth 20000 in
theorem k_co_T_liveCell : Cond.code y_T_liveCell b_T_liveCell 8 (some (.object "TabletCells$Entry")) ∈ q_ws := q_mem (List.mem_append_right _ (List.mem_of_getElem? (i := 208) rfl)) rfl
theorem k_T_214 : Cond.methodLink R_T 214 y_T_indexOfRow ∈ q_ws := q_mem (List.mem_append_right _ (List.mem_of_getElem? (i := 209) (by decide +kernel))) rfl
theorem k_im_T_indexOfRow : Cond.instanceMethod y_T_indexOfRow ∈ q_ws := q_mem (List.mem_append_right _ (List.mem_of_getElem? (i := 211) (by decide +kernel))) rfl
set_option maxRecDepth 20000 in
theorem k_co_T_indexOfRow : Cond.code y_T_indexOfRow b_T_indexOfRow 3 (some .int) ∈ q_ws := q_mem (List.mem_append_right _ (List.mem_of_getElem? (i := 212) rfl)) rfl
theorem k_T_206 : Cond.methodLink R_T 206 y_T_isLive ∈ q_ws := q_mem (List.mem_append_right _ (List.mem_of_getElem? (i := 213) (by decide +kernel))) rfl
theorem k_im_T_isLive : Cond.instanceMethod y_T_isLive ∈ q_ws := q_mem (List.mem_append_right _ (List.mem_of_getElem? (i := 215) (by decide +kernel))) rfl
set_option maxRecDepth 20000 in
theorem k_co_T_isLive : Cond.code y_T_isLive b_T_isLive 2 (some .boolean) ∈ q_ws := q_mem (List.mem_append_right _ (List.mem_of_getElem? (i := 216) rfl)) rfl
theorem k_T_241 : Cond.methodLink R_T 241 y_T_isOldCell ∈ q_ws := q_mem (List.mem_append_right _ (List.mem_of_getElem? (i := 217) (by decide +kernel))) rfl
theorem k_im_T_isOldCell : Cond.instanceMethod y_T_isOldCell ∈ q_ws := q_mem (List.mem_append_right _ (List.mem_of_getElem? (i := 219) (by decide +kernel))) rfl
set_option maxRecDepth 20000 in
theorem k_co_T_isOldCell : Cond.code y_T_isOldCell b_T_isOldCell 3 (some .boolean) ∈ q_ws := q_mem (List.mem_append_right _ (List.mem_of_getElem? (i := 220) rfl)) rfl
theorem k_T_109 : Cond.methodLink R_T 109 y_T_applyChanges ∈ q_ws := q_mem (List.mem_append_right _ (List.mem_of_getElem? (i := 221) (by decide +kernel))) rfl
theorem k_im_T_applyChanges : Cond.instanceMethod y_T_applyChanges ∈ q_ws := q_mem (List.mem_append_right _ (List.mem_of_getElem? (i := 223) (by decide +kernel))) rfl
set_option maxRecDepth 20000 in
theorem k_co_T_applyChanges : Cond.code y_T_applyChanges b_T_applyChanges 4 (some .int) ∈ q_ws := q_mem (List.mem_append_right _ (List.mem_of_getElem? (i := 224) rfl)) rfl
theorem k_T_138 : Cond.methodLink R_T 138 y_T_applyChange ∈ q_ws := q_mem (List.mem_append_right _ (List.mem_of_getElem? (i := 225) (by decide +kernel))) rfl
theorem k_im_T_applyChange : Cond.instanceMethod y_T_applyChange ∈ q_ws := q_mem (List.mem_append_right _ (List.mem_of_getElem? (i := 227) (by decide +kernel))) rfl
set_option maxRecDepth 20000 in
theorem k_co_T_applyChange : Cond.code y_T_applyChange b_T_applyChange 5 none ∈ q_ws := q_mem (List.mem_append_right _ (List.mem_of_getElem? (i := 228) rfl)) rfl
theorem k_T_165 : Cond.methodLink R_T 165 y_T_makeEntry ∈ q_ws := q_mem (List.mem_append_right _ (List.mem_of_getElem? (i := 229) (by decide +kernel))) rfl
theorem k_im_T_makeEntry : Cond.instanceMethod y_T_makeEntry ∈ q_ws := q_mem (List.mem_append_right _ (List.mem_of_getElem? (i := 231) (by decide +kernel))) rfl
set_option maxRecDepth 20000 in
theorem k_co_T_makeEntry : Cond.code y_T_makeEntry b_T_makeEntry 7 (some (.object "TabletCells$Entry")) ∈ q_ws := q_mem (List.mem_append_right _ (List.mem_of_getElem? (i := 232) rfl)) rfl
theorem k_T_274 : Cond.methodLink R_T 274 y_T_unusedEntry ∈ q_ws := q_mem (List.mem_append_right _ (List.mem_of_getElem? (i := 233) (by decide +kernel))) rfl
theorem k_im_T_unusedEntry : Cond.instanceMethod y_T_unusedEntry ∈ q_ws := q_mem (List.mem_append_right _ (List.mem_of_getElem? (i := 235) (by decide +kernel))) rfl
set_option maxRecDepth 20000 in
theorem k_co_T_unusedEntry : Cond.code y_T_unusedEntry b_T_unusedEntry 1 (some (.object "TabletCells$Entry")) ∈ q_ws := q_mem (List.mem_append_right _ (List.mem_of_getElem? (i := 236) rfl)) rfl
theorem k_ii_E : Cond.instantiable R_E 12 ∈ q_ws := q_mem (List.mem_append_right _ (List.mem_of_getElem? (i := 237) (by decide +kernel))) rfl
theorem k_T_287 : Cond.methodLinkNest R_T 287 y_E_init "TabletCells" ∈ lw_tbl := List.mem_append_right _ (List.mem_of_getElem? (i := 238) (by decide +kernel))
theorem k_im_E_init : Cond.instanceMethod y_E_init ∈ q_ws := q_mem (List.mem_append_right _ (List.mem_of_getElem? (i := 239) (by decide +kernel))) rfl
set_option maxRecDepth 20000 in
theorem k_co_E_init : Cond.code y_E_init b_E_init 1 none ∈ q_ws := q_mem (List.mem_append_right _ (List.mem_of_getElem? (i := 240) rfl)) rfl
theorem k_E_3 : Cond.methodLink R_E 3 objectInit ∈ q_ws := q_mem (List.mem_append_right _ (List.mem_of_getElem? (i := 241) (by decide +kernel))) rfl
theorem k_E_9 : Cond.fieldLink R_E 9 "TabletCells$Entry" "row" "I" ∈ q_ws := q_mem (List.mem_append_right _ (List.mem_of_getElem? (i := 242) (by decide +kernel))) rfl
theorem k_T_202 : Cond.fieldLinkNest R_T 202 "TabletCells$Entry" "row" "I" "TabletCells" ∈ lw_tbl := List.mem_append_right _ (List.mem_of_getElem? (i := 243) (by decide +kernel))
theorem k_E_15 : Cond.fieldLink R_E 15 "TabletCells$Entry" "column" "I" ∈ q_ws := q_mem (List.mem_append_right _ (List.mem_of_getElem? (i := 244) (by decide +kernel))) rfl
theorem k_T_203 : Cond.fieldLinkNest R_T 203 "TabletCells$Entry" "column" "I" "TabletCells" ∈ lw_tbl := List.mem_append_right _ (List.mem_of_getElem? (i := 245) (by decide +kernel))
theorem k_E_22 : Cond.fieldLink R_E 22 "TabletCells$Entry" "family" "I" ∈ q_ws := q_mem (List.mem_append_right _ (List.mem_of_getElem? (i := 246) (by decide +kernel))) rfl
theorem k_T_291 : Cond.fieldLinkNest R_T 291 "TabletCells$Entry" "family" "I" "TabletCells" ∈ lw_tbl := List.mem_append_right _ (List.mem_of_getElem? (i := 247) (by decide +kernel))
theorem k_E_25 : Cond.fieldLink R_E 25 "TabletCells$Entry" "time" "I" ∈ q_ws := q_mem (List.mem_append_right _ (List.mem_of_getElem? (i := 248) (by decide +kernel))) rfl
theorem k_T_182 : Cond.fieldLinkNest R_T 182 "TabletCells$Entry" "time" "I" "TabletCells" ∈ lw_tbl := List.mem_append_right _ (List.mem_of_getElem? (i := 249) (by decide +kernel))
theorem k_E_28 : Cond.fieldLink R_E 28 "TabletCells$Entry" "isErasure" "Z" ∈ q_ws := q_mem (List.mem_append_right _ (List.mem_of_getElem? (i := 250) (by decide +kernel))) rfl
theorem k_T_265 : Cond.fieldLinkNest R_T 265 "TabletCells$Entry" "isErasure" "Z" "TabletCells" ∈ lw_tbl := List.mem_append_right _ (List.mem_of_getElem? (i := 251) (by decide +kernel))
theorem k_E_32 : Cond.fieldLink R_E 32 "TabletCells$Entry" "value" "I" ∈ q_ws := q_mem (List.mem_append_right _ (List.mem_of_getElem? (i := 252) (by decide +kernel))) rfl
theorem k_T_132 : Cond.fieldLinkNest R_T 132 "TabletCells$Entry" "value" "I" "TabletCells" ∈ lw_tbl := List.mem_append_right _ (List.mem_of_getElem? (i := 253) (by decide +kernel))
theorem k_E_35 : Cond.fieldLink R_E 35 "TabletCells$Entry" "sequence" "I" ∈ q_ws := q_mem (List.mem_append_right _ (List.mem_of_getElem? (i := 254) (by decide +kernel))) rfl
theorem k_E_38 : Cond.fieldLink R_E 38 "TabletCells$Entry" "place" "I" ∈ q_ws := q_mem (List.mem_append_right _ (List.mem_of_getElem? (i := 255) (by decide +kernel))) rfl
theorem k_T_288 : Cond.fieldLinkNest R_T 288 "TabletCells$Entry" "place" "I" "TabletCells" ∈ lw_tbl := List.mem_append_right _ (List.mem_of_getElem? (i := 256) (by decide +kernel))
theorem k_E_41 : Cond.fieldLink R_E 41 "TabletCells$Entry" "table" "I" ∈ q_ws := q_mem (List.mem_append_right _ (List.mem_of_getElem? (i := 257) (by decide +kernel))) rfl
theorem k_T_226 : Cond.fieldLinkNest R_T 226 "TabletCells$Entry" "table" "I" "TabletCells" ∈ lw_tbl := List.mem_append_right _ (List.mem_of_getElem? (i := 258) (by decide +kernel))
theorem k_E_44 : Cond.fieldLink R_E 44 "TabletCells$Entry" "opensBatch" "Z" ∈ q_ws := q_mem (List.mem_append_right _ (List.mem_of_getElem? (i := 259) (by decide +kernel))) rfl
theorem k_T_172 : Cond.fieldLinkNest R_T 172 "TabletCells$Entry" "opensBatch" "Z" "TabletCells" ∈ lw_tbl := List.mem_append_right _ (List.mem_of_getElem? (i := 260) (by decide +kernel))
theorem k_E_47 : Cond.fieldLink R_E 47 "TabletCells$Entry" "isCovered" "Z" ∈ q_ws := q_mem (List.mem_append_right _ (List.mem_of_getElem? (i := 261) (by decide +kernel))) rfl
theorem k_T_281 : Cond.fieldLinkNest R_T 281 "TabletCells$Entry" "isCovered" "Z" "TabletCells" ∈ lw_tbl := List.mem_append_right _ (List.mem_of_getElem? (i := 262) (by decide +kernel))
theorem k_E_50 : Cond.fieldLink R_E 50 "TabletCells$Entry" "leaves" "Z" ∈ q_ws := q_mem (List.mem_append_right _ (List.mem_of_getElem? (i := 263) (by decide +kernel))) rfl
theorem k_T_247 : Cond.fieldLinkNest R_T 247 "TabletCells$Entry" "leaves" "Z" "TabletCells" ∈ lw_tbl := List.mem_append_right _ (List.mem_of_getElem? (i := 264) (by decide +kernel))
theorem k_la_E_0 : u_lay R_E F_E 0 ∈ q_ws := (q_mem (List.mem_append_right _ (List.mem_of_getElem? (i := 265) (by decide +kernel))) rfl : Cond.lays "TabletCells$Entry" "TabletCells$Entry" "row" "I" ∈ q_ws)
theorem k_la_E_1 : u_lay R_E F_E 1 ∈ q_ws := (q_mem (List.mem_append_right _ (List.mem_of_getElem? (i := 267) (by decide +kernel))) rfl : Cond.lays "TabletCells$Entry" "TabletCells$Entry" "column" "I" ∈ q_ws)
theorem k_la_E_2 : u_lay R_E F_E 2 ∈ q_ws := (q_mem (List.mem_append_right _ (List.mem_of_getElem? (i := 269) (by decide +kernel))) rfl : Cond.lays "TabletCells$Entry" "TabletCells$Entry" "family" "I" ∈ q_ws)
theorem k_la_E_3 : u_lay R_E F_E 3 ∈ q_ws := (q_mem (List.mem_append_right _ (List.mem_of_getElem? (i := 271) (by decide +kernel))) rfl : Cond.lays "TabletCells$Entry" "TabletCells$Entry" "time" "I" ∈ q_ws)
theorem k_la_E_4 : u_lay R_E F_E 4 ∈ q_ws := (q_mem (List.mem_append_right _ (List.mem_of_getElem? (i := 273) (by decide +kernel))) rfl : Cond.lays "TabletCells$Entry" "TabletCells$Entry" "isErasure" "Z" ∈ q_ws)
theorem k_la_E_5 : u_lay R_E F_E 5 ∈ q_ws := (q_mem (List.mem_append_right _ (List.mem_of_getElem? (i := 275) (by decide +kernel))) rfl : Cond.lays "TabletCells$Entry" "TabletCells$Entry" "value" "I" ∈ q_ws)
theorem k_la_E_6 : u_lay R_E F_E 6 ∈ q_ws := (q_mem (List.mem_append_right _ (List.mem_of_getElem? (i := 277) (by decide +kernel))) rfl : Cond.lays "TabletCells$Entry" "TabletCells$Entry" "sequence" "I" ∈ q_ws)
theorem k_la_E_7 : u_lay R_E F_E 7 ∈ q_ws := (q_mem (List.mem_append_right _ (List.mem_of_getElem? (i := 279) (by decide +kernel))) rfl : Cond.lays "TabletCells$Entry" "TabletCells$Entry" "place" "I" ∈ q_ws)
theorem k_la_E_8 : u_lay R_E F_E 8 ∈ q_ws := (q_mem (List.mem_append_right _ (List.mem_of_getElem? (i := 281) (by decide +kernel))) rfl : Cond.lays "TabletCells$Entry" "TabletCells$Entry" "table" "I" ∈ q_ws)
theorem k_la_E_9 : u_lay R_E F_E 9 ∈ q_ws := (q_mem (List.mem_append_right _ (List.mem_of_getElem? (i := 283) (by decide +kernel))) rfl : Cond.lays "TabletCells$Entry" "TabletCells$Entry" "opensBatch" "Z" ∈ q_ws)
theorem k_la_E_10 : u_lay R_E F_E 10 ∈ q_ws := (q_mem (List.mem_append_right _ (List.mem_of_getElem? (i := 285) (by decide +kernel))) rfl : Cond.lays "TabletCells$Entry" "TabletCells$Entry" "isCovered" "Z" ∈ q_ws)
theorem k_la_E_11 : u_lay R_E F_E 11 ∈ q_ws := (q_mem (List.mem_append_right _ (List.mem_of_getElem? (i := 287) (by decide +kernel))) rfl : Cond.lays "TabletCells$Entry" "TabletCells$Entry" "leaves" "Z" ∈ q_ws)
theorem k_T_278 : Cond.methodLinkNest R_T 278 y_E_begin "TabletCells" ∈ lw_tbl := List.mem_append_right _ (List.mem_of_getElem? (i := 290) (by decide +kernel))
theorem k_im_E_begin : Cond.instanceMethod y_E_begin ∈ q_ws := q_mem (List.mem_append_right _ (List.mem_of_getElem? (i := 292) (by decide +kernel))) rfl
set_option maxRecDepth 20000 in
theorem k_co_E_begin : Cond.code y_E_begin b_E_begin 7 none ∈ q_ws := q_mem (List.mem_append_right _ (List.mem_of_getElem? (i := 293) rfl)) rfl
theorem k_E_18 : Cond.methodLinkNest R_E 18 y_T_familyOf "TabletCells" ∈ lw_tbl := List.mem_append_right _ (List.mem_of_getElem? (i := 294) (by decide +kernel))
theorem k_st_T_familyOf : Cond.static y_T_familyOf ∈ q_ws := q_mem (List.mem_append_right _ (List.mem_of_getElem? (i := 295) (by decide +kernel))) rfl
set_option maxRecDepth 20000 in
theorem k_co_T_familyOf : Cond.code y_T_familyOf b_T_familyOf 1 (some .int) ∈ q_ws := q_mem (List.mem_append_right _ (List.mem_of_getElem? (i := 296) rfl)) rfl
theorem k_T_259 : Cond.methodLinkNest R_T 259 y_E_covers "TabletCells" ∈ lw_tbl := List.mem_append_right _ (List.mem_of_getElem? (i := 297) (by decide +kernel))
theorem k_im_E_covers : Cond.instanceMethod y_E_covers ∈ q_ws := q_mem (List.mem_append_right _ (List.mem_of_getElem? (i := 299) (by decide +kernel))) rfl
set_option maxRecDepth 20000 in
theorem k_co_E_covers : Cond.code y_E_covers b_E_covers 2 (some .boolean) ∈ q_ws := q_mem (List.mem_append_right _ (List.mem_of_getElem? (i := 300) rfl)) rfl
theorem k_T_284 : Cond.methodLink R_T 284 y_T_insert ∈ q_ws := q_mem (List.mem_append_right _ (List.mem_of_getElem? (i := 301) (by decide +kernel))) rfl
theorem k_im_T_insert : Cond.instanceMethod y_T_insert ∈ q_ws := q_mem (List.mem_append_right _ (List.mem_of_getElem? (i := 303) (by decide +kernel))) rfl
set_option maxRecDepth 20000 in
theorem k_co_T_insert : Cond.code y_T_insert b_T_insert 3 none ∈ q_ws := q_mem (List.mem_append_right _ (List.mem_of_getElem? (i := 304) rfl)) rfl
theorem k_T_175 : Cond.methodLink R_T 175 y_T_eraseBeyondNumber ∈ q_ws := q_mem (List.mem_append_right _ (List.mem_of_getElem? (i := 305) (by decide +kernel))) rfl
theorem k_im_T_eraseBeyondNumber : Cond.instanceMethod y_T_eraseBeyondNumber ∈ q_ws := q_mem (List.mem_append_right _ (List.mem_of_getElem? (i := 307) (by decide +kernel))) rfl
set_option maxRecDepth 20000 in
theorem k_co_T_eraseBeyondNumber : Cond.code y_T_eraseBeyondNumber b_T_eraseBeyondNumber 5 none ∈ q_ws := q_mem (List.mem_append_right _ (List.mem_of_getElem? (i := 308) rfl)) rfl
theorem k_T_179 : Cond.methodLink R_T 179 y_T_familyOf ∈ q_ws := q_mem (List.mem_append_right _ (List.mem_of_getElem? (i := 309) (by decide +kernel))) rfl
theorem k_T_145 : Cond.methodLink R_T 145 y_T_tabletOf ∈ q_ws := q_mem (List.mem_append_right _ (List.mem_of_getElem? (i := 310) (by decide +kernel))) rfl
theorem k_im_T_tabletOf : Cond.instanceMethod y_T_tabletOf ∈ q_ws := q_mem (List.mem_append_right _ (List.mem_of_getElem? (i := 312) (by decide +kernel))) rfl
set_option maxRecDepth 20000 in
theorem k_co_T_tabletOf : Cond.code y_T_tabletOf b_T_tabletOf 3 (some .int) ∈ q_ws := q_mem (List.mem_append_right _ (List.mem_of_getElem? (i := 313) rfl)) rfl
theorem k_T_149 : Cond.methodLink R_T 149 y_T_entriesIn ∈ q_ws := q_mem (List.mem_append_right _ (List.mem_of_getElem? (i := 314) (by decide +kernel))) rfl
theorem k_im_T_entriesIn : Cond.instanceMethod y_T_entriesIn ∈ q_ws := q_mem (List.mem_append_right _ (List.mem_of_getElem? (i := 316) (by decide +kernel))) rfl
set_option maxRecDepth 20000 in
theorem k_co_T_entriesIn : Cond.code y_T_entriesIn b_T_entriesIn 6 (some .int) ∈ q_ws := q_mem (List.mem_append_right _ (List.mem_of_getElem? (i := 317) rfl)) rfl
theorem k_T_217 : Cond.methodLink R_T 217 y_T_endOf ∈ q_ws := q_mem (List.mem_append_right _ (List.mem_of_getElem? (i := 318) (by decide +kernel))) rfl
theorem k_im_T_endOf : Cond.instanceMethod y_T_endOf ∈ q_ws := q_mem (List.mem_append_right _ (List.mem_of_getElem? (i := 320) (by decide +kernel))) rfl
set_option maxRecDepth 20000 in
theorem k_co_T_endOf : Cond.code y_T_endOf b_T_endOf 2 (some .int) ∈ q_ws := q_mem (List.mem_append_right _ (List.mem_of_getElem? (i := 321) rfl)) rfl
theorem k_T_223 : Cond.methodLink R_T 223 y_T_startOf ∈ q_ws := q_mem (List.mem_append_right _ (List.mem_of_getElem? (i := 322) (by decide +kernel))) rfl
theorem k_im_T_startOf : Cond.instanceMethod y_T_startOf ∈ q_ws := q_mem (List.mem_append_right _ (List.mem_of_getElem? (i := 324) (by decide +kernel))) rfl
set_option maxRecDepth 20000 in
theorem k_co_T_startOf : Cond.code y_T_startOf b_T_startOf 2 (some .int) ∈ q_ws := q_mem (List.mem_append_right _ (List.mem_of_getElem? (i := 325) rfl)) rfl
theorem k_T_152 : Cond.methodLink R_T 152 y_T_flushTablet ∈ q_ws := q_mem (List.mem_append_right _ (List.mem_of_getElem? (i := 326) (by decide +kernel))) rfl
theorem k_im_T_flushTablet : Cond.instanceMethod y_T_flushTablet ∈ q_ws := q_mem (List.mem_append_right _ (List.mem_of_getElem? (i := 328) (by decide +kernel))) rfl
set_option maxRecDepth 20000 in
theorem k_co_T_flushTablet : Cond.code y_T_flushTablet b_T_flushTablet 6 (some .int) ∈ q_ws := q_mem (List.mem_append_right _ (List.mem_of_getElem? (i := 329) rfl)) rfl
theorem k_T_238 : Cond.methodLink R_T 238 y_T_tableCount ∈ q_ws := q_mem (List.mem_append_right _ (List.mem_of_getElem? (i := 330) (by decide +kernel))) rfl
theorem k_im_T_tableCount : Cond.instanceMethod y_T_tableCount ∈ q_ws := q_mem (List.mem_append_right _ (List.mem_of_getElem? (i := 332) (by decide +kernel))) rfl
set_option maxRecDepth 20000 in
theorem k_co_T_tableCount : Cond.code y_T_tableCount b_T_tableCount 5 (some .int) ∈ q_ws := q_mem (List.mem_append_right _ (List.mem_of_getElem? (i := 333) rfl)) rfl
theorem k_L_41 : Cond.methodLink R_L 41 y_T_tear ∈ q_ws := q_mem (List.mem_append_right _ (List.mem_of_getElem? (i := 334) (by decide +kernel))) rfl
theorem k_im_T_tear : Cond.instanceMethod y_T_tear ∈ q_ws := q_mem (List.mem_append_right _ (List.mem_of_getElem? (i := 335) (by decide +kernel))) rfl
theorem k_se_T_tear : Cond.selects R_T y_T_tear y_T_tear ∈ q_ws := q_mem (List.mem_append_right _ (List.mem_of_getElem? (i := 336) (by decide +kernel))) rfl
set_option maxRecDepth 20000 in
theorem k_co_T_tear : Cond.code y_T_tear b_T_tear 1 none ∈ q_ws := q_mem (List.mem_append_right _ (List.mem_of_getElem? (i := 337) rfl)) rfl
theorem k_L_45 : Cond.methodLink R_L 45 y_T_crash ∈ q_ws := q_mem (List.mem_append_right _ (List.mem_of_getElem? (i := 338) (by decide +kernel))) rfl
theorem k_L_49 : Cond.methodLink R_L 49 y_T_tick ∈ q_ws := q_mem (List.mem_append_right _ (List.mem_of_getElem? (i := 339) (by decide +kernel))) rfl
theorem k_im_T_tick : Cond.instanceMethod y_T_tick ∈ q_ws := q_mem (List.mem_append_right _ (List.mem_of_getElem? (i := 340) (by decide +kernel))) rfl
theorem k_se_T_tick : Cond.selects R_T y_T_tick y_T_tick ∈ q_ws := q_mem (List.mem_append_right _ (List.mem_of_getElem? (i := 341) (by decide +kernel))) rfl
set_option maxRecDepth 20000 in
theorem k_co_T_tick : Cond.code y_T_tick b_T_tick 2 (some .int) ∈ q_ws := q_mem (List.mem_append_right _ (List.mem_of_getElem? (i := 342) rfl)) rfl
theorem k_L_54 : Cond.methodLink R_L 54 y_T_get ∈ q_ws := q_mem (List.mem_append_right _ (List.mem_of_getElem? (i := 343) (by decide +kernel))) rfl
theorem k_im_T_get : Cond.instanceMethod y_T_get ∈ q_ws := q_mem (List.mem_append_right _ (List.mem_of_getElem? (i := 344) (by decide +kernel))) rfl
theorem k_se_T_get : Cond.selects R_T y_T_get y_T_get ∈ q_ws := q_mem (List.mem_append_right _ (List.mem_of_getElem? (i := 345) (by decide +kernel))) rfl
set_option maxRecDepth 20000 in
theorem k_co_T_get : Cond.code y_T_get b_T_get 6 (some .long) ∈ q_ws := q_mem (List.mem_append_right _ (List.mem_of_getElem? (i := 346) rfl)) rfl
theorem k_T_185 : Cond.constantLong R_T 185 (-1) ∈ q_ws := q_mem (List.mem_append_right _ (List.mem_of_getElem? (i := 347) (by decide +kernel))) rfl
theorem k_T_187 : Cond.methodLink R_T 187 y_T_lookFor ∈ q_ws := q_mem (List.mem_append_right _ (List.mem_of_getElem? (i := 348) (by decide +kernel))) rfl
theorem k_im_T_lookFor : Cond.instanceMethod y_T_lookFor ∈ q_ws := q_mem (List.mem_append_right _ (List.mem_of_getElem? (i := 350) (by decide +kernel))) rfl
set_option maxRecDepth 20000 in
theorem k_co_T_lookFor : Cond.code y_T_lookFor b_T_lookFor 5 none ∈ q_ws := q_mem (List.mem_append_right _ (List.mem_of_getElem? (i := 351) rfl)) rfl
theorem k_T_220 : Cond.methodLinkNest R_T 220 y_S_begin "TabletCells" ∈ lw_tbl := List.mem_append_right _ (List.mem_of_getElem? (i := 352) (by decide +kernel))
theorem k_im_S_begin : Cond.instanceMethod y_S_begin ∈ q_ws := q_mem (List.mem_append_right _ (List.mem_of_getElem? (i := 354) (by decide +kernel))) rfl
set_option maxRecDepth 20000 in
theorem k_co_S_begin : Cond.code y_S_begin b_S_begin 3 none ∈ q_ws := q_mem (List.mem_append_right _ (List.mem_of_getElem? (i := 355) rfl)) rfl
theorem k_T_229 : Cond.methodLinkNest R_T 229 y_S_pass "TabletCells" ∈ lw_tbl := List.mem_append_right _ (List.mem_of_getElem? (i := 356) (by decide +kernel))
theorem k_im_S_pass : Cond.instanceMethod y_S_pass ∈ q_ws := q_mem (List.mem_append_right _ (List.mem_of_getElem? (i := 358) (by decide +kernel))) rfl
set_option maxRecDepth 20000 in
theorem k_co_S_pass : Cond.code y_S_pass b_S_pass 3 none ∈ q_ws := q_mem (List.mem_append_right _ (List.mem_of_getElem? (i := 359) rfl)) rfl
theorem k_S_29 : Cond.methodLink R_S 29 Lib.Math.max.name ∈ q_ws := q_mem (List.mem_append_right _ (List.mem_of_getElem? (i := 360) (by decide +kernel))) rfl
theorem k_S_35 : Cond.methodLink R_S 35 y_S_bitsOf ∈ q_ws := q_mem (List.mem_append_right _ (List.mem_of_getElem? (i := 361) (by decide +kernel))) rfl
theorem k_st_S_bitsOf : Cond.static y_S_bitsOf ∈ q_ws := q_mem (List.mem_append_right _ (List.mem_of_getElem? (i := 362) (by decide +kernel))) rfl
set_option maxRecDepth 20000 in
theorem k_co_S_bitsOf : Cond.code y_S_bitsOf b_S_bitsOf 1 (some .long) ∈ q_ws := q_mem (List.mem_append_right _ (List.mem_of_getElem? (i := 363) rfl)) rfl
theorem k_T_232 : Cond.methodLinkNest R_T 232 y_S_blocksLookedAt "TabletCells" ∈ lw_tbl := List.mem_append_right _ (List.mem_of_getElem? (i := 364) (by decide +kernel))
theorem k_im_S_blocksLookedAt : Cond.instanceMethod y_S_blocksLookedAt ∈ q_ws := q_mem (List.mem_append_right _ (List.mem_of_getElem? (i := 366) (by decide +kernel))) rfl
set_option maxRecDepth 20000 in
theorem k_co_S_blocksLookedAt : Cond.code y_S_blocksLookedAt b_S_blocksLookedAt 5 (some .int) ∈ q_ws := q_mem (List.mem_append_right _ (List.mem_of_getElem? (i := 367) rfl)) rfl
theorem k_S_39 : Cond.methodLink R_S 39 y_S_blocksOfRow ∈ q_ws := q_mem (List.mem_append_right _ (List.mem_of_getElem? (i := 368) (by decide +kernel))) rfl
theorem k_im_S_blocksOfRow : Cond.instanceMethod y_S_blocksOfRow ∈ q_ws := q_mem (List.mem_append_right _ (List.mem_of_getElem? (i := 370) (by decide +kernel))) rfl
set_option maxRecDepth 20000 in
theorem k_co_S_blocksOfRow : Cond.code y_S_blocksOfRow b_S_blocksOfRow 4 (some .int) ∈ q_ws := q_mem (List.mem_append_right _ (List.mem_of_getElem? (i := 371) rfl)) rfl
theorem k_T_190 : Cond.methodLink R_T 190 y_T_packed ∈ q_ws := q_mem (List.mem_append_right _ (List.mem_of_getElem? (i := 372) (by decide +kernel))) rfl
theorem k_st_T_packed : Cond.static y_T_packed ∈ q_ws := q_mem (List.mem_append_right _ (List.mem_of_getElem? (i := 373) (by decide +kernel))) rfl
set_option maxRecDepth 20000 in
theorem k_co_T_packed : Cond.code y_T_packed b_T_packed 2 (some .long) ∈ q_ws := q_mem (List.mem_append_right _ (List.mem_of_getElem? (i := 374) rfl)) rfl
theorem k_T_294 : Cond.constantLong R_T 294 (4294967296) ∈ q_ws := q_mem (List.mem_append_right _ (List.mem_of_getElem? (i := 375) (by decide +kernel))) rfl
theorem k_T_296 : Cond.constantLong R_T 296 (4294967295) ∈ q_ws := q_mem (List.mem_append_right _ (List.mem_of_getElem? (i := 376) (by decide +kernel))) rfl
theorem k_L_59 : Cond.methodLink R_L 59 y_T_scan ∈ q_ws := q_mem (List.mem_append_right _ (List.mem_of_getElem? (i := 377) (by decide +kernel))) rfl
theorem k_im_T_scan : Cond.instanceMethod y_T_scan ∈ q_ws := q_mem (List.mem_append_right _ (List.mem_of_getElem? (i := 378) (by decide +kernel))) rfl
theorem k_se_T_scan : Cond.selects R_T y_T_scan y_T_scan ∈ q_ws := q_mem (List.mem_append_right _ (List.mem_of_getElem? (i := 379) (by decide +kernel))) rfl
set_option maxRecDepth 20000 in
theorem k_co_T_scan : Cond.code y_T_scan b_T_scan 11 (some .int) ∈ q_ws := q_mem (List.mem_append_right _ (List.mem_of_getElem? (i := 380) rfl)) rfl
theorem k_T_210 : Cond.methodLink R_T 210 y_T_addToResult ∈ q_ws := q_mem (List.mem_append_right _ (List.mem_of_getElem? (i := 381) (by decide +kernel))) rfl
theorem k_im_T_addToResult : Cond.instanceMethod y_T_addToResult ∈ q_ws := q_mem (List.mem_append_right _ (List.mem_of_getElem? (i := 383) (by decide +kernel))) rfl
set_option maxRecDepth 20000 in
theorem k_co_T_addToResult : Cond.code y_T_addToResult b_T_addToResult 2 none ∈ q_ws := q_mem (List.mem_append_right _ (List.mem_of_getElem? (i := 384) rfl)) rfl
theorem k_L_64 : Cond.methodLink R_L 64 y_T_found ∈ q_ws := q_mem (List.mem_append_right _ (List.mem_of_getElem? (i := 385) (by decide +kernel))) rfl
theorem k_im_T_found : Cond.instanceMethod y_T_found ∈ q_ws := q_mem (List.mem_append_right _ (List.mem_of_getElem? (i := 386) (by decide +kernel))) rfl
theorem k_se_T_found : Cond.selects R_T y_T_found y_T_found ∈ q_ws := q_mem (List.mem_append_right _ (List.mem_of_getElem? (i := 387) (by decide +kernel))) rfl
set_option maxRecDepth 20000 in
theorem k_co_T_found : Cond.code y_T_found b_T_found 2 (some .long) ∈ q_ws := q_mem (List.mem_append_right _ (List.mem_of_getElem? (i := 388) rfl)) rfl
theorem k_L_105 : Cond.methodLink R_L 105 y_T_looked ∈ q_ws := q_mem (List.mem_append_right _ (List.mem_of_getElem? (i := 389) (by decide +kernel))) rfl
theorem k_im_T_looked : Cond.instanceMethod y_T_looked ∈ q_ws := q_mem (List.mem_append_right _ (List.mem_of_getElem? (i := 390) (by decide +kernel))) rfl
theorem k_se_T_looked : Cond.selects R_T y_T_looked y_T_looked ∈ q_ws := q_mem (List.mem_append_right _ (List.mem_of_getElem? (i := 391) (by decide +kernel))) rfl
set_option maxRecDepth 20000 in
theorem k_co_T_looked : Cond.code y_T_looked b_T_looked 1 (some .int) ∈ q_ws := q_mem (List.mem_append_right _ (List.mem_of_getElem? (i := 392) rfl)) rfl
theorem k_L_69 : Cond.methodLink R_L 69 y_T_flush ∈ q_ws := q_mem (List.mem_append_right _ (List.mem_of_getElem? (i := 393) (by decide +kernel))) rfl
theorem k_im_T_flush : Cond.instanceMethod y_T_flush ∈ q_ws := q_mem (List.mem_append_right _ (List.mem_of_getElem? (i := 394) (by decide +kernel))) rfl
theorem k_se_T_flush : Cond.selects R_T y_T_flush y_T_flush ∈ q_ws := q_mem (List.mem_append_right _ (List.mem_of_getElem? (i := 395) (by decide +kernel))) rfl
set_option maxRecDepth 20000 in
theorem k_co_T_flush : Cond.code y_T_flush b_T_flush 2 (some .int) ∈ q_ws := q_mem (List.mem_append_right _ (List.mem_of_getElem? (i := 396) rfl)) rfl
theorem k_T_235 : Cond.methodLink R_T 235 y_T_isTablet ∈ q_ws := q_mem (List.mem_append_right _ (List.mem_of_getElem? (i := 397) (by decide +kernel))) rfl
theorem k_im_T_isTablet : Cond.instanceMethod y_T_isTablet ∈ q_ws := q_mem (List.mem_append_right _ (List.mem_of_getElem? (i := 399) (by decide +kernel))) rfl
set_option maxRecDepth 20000 in
theorem k_co_T_isTablet : Cond.code y_T_isTablet b_T_isTablet 2 (some .boolean) ∈ q_ws := q_mem (List.mem_append_right _ (List.mem_of_getElem? (i := 400) rfl)) rfl
theorem k_L_73 : Cond.methodLink R_L 73 y_T_compact ∈ q_ws := q_mem (List.mem_append_right _ (List.mem_of_getElem? (i := 401) (by decide +kernel))) rfl
theorem k_im_T_compact : Cond.instanceMethod y_T_compact ∈ q_ws := q_mem (List.mem_append_right _ (List.mem_of_getElem? (i := 402) (by decide +kernel))) rfl
theorem k_se_T_compact : Cond.selects R_T y_T_compact y_T_compact ∈ q_ws := q_mem (List.mem_append_right _ (List.mem_of_getElem? (i := 403) (by decide +kernel))) rfl
set_option maxRecDepth 20000 in
theorem k_co_T_compact : Cond.code y_T_compact b_T_compact 7 (some .int) ∈ q_ws := q_mem (List.mem_append_right _ (List.mem_of_getElem? (i := 404) rfl)) rfl
theorem k_T_244 : Cond.methodLink R_T 244 y_T_isCoveredInTables ∈ q_ws := q_mem (List.mem_append_right _ (List.mem_of_getElem? (i := 405) (by decide +kernel))) rfl
theorem k_im_T_isCoveredInTables : Cond.instanceMethod y_T_isCoveredInTables ∈ q_ws := q_mem (List.mem_append_right _ (List.mem_of_getElem? (i := 407) (by decide +kernel))) rfl
set_option maxRecDepth 20000 in
theorem k_co_T_isCoveredInTables : Cond.code y_T_isCoveredInTables b_T_isCoveredInTables 5 (some .boolean) ∈ q_ws := q_mem (List.mem_append_right _ (List.mem_of_getElem? (i := 408) rfl)) rfl
theorem k_T_250 : Cond.methodLink R_T 250 y_T_mergeTables ∈ q_ws := q_mem (List.mem_append_right _ (List.mem_of_getElem? (i := 409) (by decide +kernel))) rfl
theorem k_im_T_mergeTables : Cond.instanceMethod y_T_mergeTables ∈ q_ws := q_mem (List.mem_append_right _ (List.mem_of_getElem? (i := 411) (by decide +kernel))) rfl
set_option maxRecDepth 20000 in
theorem k_co_T_mergeTables : Cond.code y_T_mergeTables b_T_mergeTables 7 (some .int) ∈ q_ws := q_mem (List.mem_append_right _ (List.mem_of_getElem? (i := 412) rfl)) rfl
theorem k_T_262 : Cond.methodLink R_T 262 y_T_removeLeaving ∈ q_ws := q_mem (List.mem_append_right _ (List.mem_of_getElem? (i := 413) (by decide +kernel))) rfl
theorem k_im_T_removeLeaving : Cond.instanceMethod y_T_removeLeaving ∈ q_ws := q_mem (List.mem_append_right _ (List.mem_of_getElem? (i := 415) (by decide +kernel))) rfl
set_option maxRecDepth 20000 in
theorem k_co_T_removeLeaving : Cond.code y_T_removeLeaving b_T_removeLeaving 4 none ∈ q_ws := q_mem (List.mem_append_right _ (List.mem_of_getElem? (i := 416) rfl)) rfl
theorem k_L_78 : Cond.methodLink R_L 78 y_T_major ∈ q_ws := q_mem (List.mem_append_right _ (List.mem_of_getElem? (i := 417) (by decide +kernel))) rfl
theorem k_im_T_major : Cond.instanceMethod y_T_major ∈ q_ws := q_mem (List.mem_append_right _ (List.mem_of_getElem? (i := 418) (by decide +kernel))) rfl
theorem k_se_T_major : Cond.selects R_T y_T_major y_T_major ∈ q_ws := q_mem (List.mem_append_right _ (List.mem_of_getElem? (i := 419) (by decide +kernel))) rfl
set_option maxRecDepth 20000 in
theorem k_co_T_major : Cond.code y_T_major b_T_major 4 (some .int) ∈ q_ws := q_mem (List.mem_append_right _ (List.mem_of_getElem? (i := 420) rfl)) rfl
theorem k_L_96 : Cond.methodLink R_L 96 y_T_table ∈ q_ws := q_mem (List.mem_append_right _ (List.mem_of_getElem? (i := 421) (by decide +kernel))) rfl
theorem k_im_T_table : Cond.instanceMethod y_T_table ∈ q_ws := q_mem (List.mem_append_right _ (List.mem_of_getElem? (i := 422) (by decide +kernel))) rfl
theorem k_se_T_table : Cond.selects R_T y_T_table y_T_table ∈ q_ws := q_mem (List.mem_append_right _ (List.mem_of_getElem? (i := 423) (by decide +kernel))) rfl
set_option maxRecDepth 20000 in
theorem k_co_T_table : Cond.code y_T_table b_T_table 4 (some .int) ∈ q_ws := q_mem (List.mem_append_right _ (List.mem_of_getElem? (i := 424) rfl)) rfl
theorem k_T_253 : Cond.methodLink R_T 253 y_T_erasuresIn ∈ q_ws := q_mem (List.mem_append_right _ (List.mem_of_getElem? (i := 425) (by decide +kernel))) rfl
theorem k_im_T_erasuresIn : Cond.instanceMethod y_T_erasuresIn ∈ q_ws := q_mem (List.mem_append_right _ (List.mem_of_getElem? (i := 427) (by decide +kernel))) rfl
set_option maxRecDepth 20000 in
theorem k_co_T_erasuresIn : Cond.code y_T_erasuresIn b_T_erasuresIn 6 (some .int) ∈ q_ws := q_mem (List.mem_append_right _ (List.mem_of_getElem? (i := 428) rfl)) rfl
theorem k_T_256 : Cond.methodLink R_T 256 y_T_firstRowIn ∈ q_ws := q_mem (List.mem_append_right _ (List.mem_of_getElem? (i := 429) (by decide +kernel))) rfl
theorem k_im_T_firstRowIn : Cond.instanceMethod y_T_firstRowIn ∈ q_ws := q_mem (List.mem_append_right _ (List.mem_of_getElem? (i := 431) (by decide +kernel))) rfl
set_option maxRecDepth 20000 in
theorem k_co_T_firstRowIn : Cond.code y_T_firstRowIn b_T_firstRowIn 5 (some .int) ∈ q_ws := q_mem (List.mem_append_right _ (List.mem_of_getElem? (i := 432) rfl)) rfl
theorem k_L_101 : Cond.methodLink R_L 101 y_T_log ∈ q_ws := q_mem (List.mem_append_right _ (List.mem_of_getElem? (i := 433) (by decide +kernel))) rfl
theorem k_im_T_log : Cond.instanceMethod y_T_log ∈ q_ws := q_mem (List.mem_append_right _ (List.mem_of_getElem? (i := 434) (by decide +kernel))) rfl
theorem k_se_T_log : Cond.selects R_T y_T_log y_T_log ∈ q_ws := q_mem (List.mem_append_right _ (List.mem_of_getElem? (i := 435) (by decide +kernel))) rfl
set_option maxRecDepth 20000 in
theorem k_co_T_log : Cond.code y_T_log b_T_log 3 (some .int) ∈ q_ws := q_mem (List.mem_append_right _ (List.mem_of_getElem? (i := 436) rfl)) rfl
theorem k_L_82 : Cond.methodLink R_L 82 y_T_split ∈ q_ws := q_mem (List.mem_append_right _ (List.mem_of_getElem? (i := 437) (by decide +kernel))) rfl
theorem k_im_T_split : Cond.instanceMethod y_T_split ∈ q_ws := q_mem (List.mem_append_right _ (List.mem_of_getElem? (i := 438) (by decide +kernel))) rfl
theorem k_se_T_split : Cond.selects R_T y_T_split y_T_split ∈ q_ws := q_mem (List.mem_append_right _ (List.mem_of_getElem? (i := 439) (by decide +kernel))) rfl
set_option maxRecDepth 20000 in
theorem k_co_T_split : Cond.code y_T_split b_T_split 4 (some .boolean) ∈ q_ws := q_mem (List.mem_append_right _ (List.mem_of_getElem? (i := 440) rfl)) rfl
theorem k_T_268 : Cond.methodLink R_T 268 y_T_closeGaps ∈ q_ws := q_mem (List.mem_append_right _ (List.mem_of_getElem? (i := 441) (by decide +kernel))) rfl
theorem k_im_T_closeGaps : Cond.instanceMethod y_T_closeGaps ∈ q_ws := q_mem (List.mem_append_right _ (List.mem_of_getElem? (i := 443) (by decide +kernel))) rfl
set_option maxRecDepth 20000 in
theorem k_co_T_closeGaps : Cond.code y_T_closeGaps b_T_closeGaps 3 none ∈ q_ws := q_mem (List.mem_append_right _ (List.mem_of_getElem? (i := 444) rfl)) rfl
theorem k_T_271 : Cond.methodLink R_T 271 y_T_moveUpBehind ∈ q_ws := q_mem (List.mem_append_right _ (List.mem_of_getElem? (i := 445) (by decide +kernel))) rfl
theorem k_im_T_moveUpBehind : Cond.instanceMethod y_T_moveUpBehind ∈ q_ws := q_mem (List.mem_append_right _ (List.mem_of_getElem? (i := 447) (by decide +kernel))) rfl
set_option maxRecDepth 20000 in
theorem k_co_T_moveUpBehind : Cond.code y_T_moveUpBehind b_T_moveUpBehind 5 none ∈ q_ws := q_mem (List.mem_append_right _ (List.mem_of_getElem? (i := 448) rfl)) rfl
theorem k_L_87 : Cond.methodLink R_L 87 y_T_join ∈ q_ws := q_mem (List.mem_append_right _ (List.mem_of_getElem? (i := 449) (by decide +kernel))) rfl
theorem k_im_T_join : Cond.instanceMethod y_T_join ∈ q_ws := q_mem (List.mem_append_right _ (List.mem_of_getElem? (i := 450) (by decide +kernel))) rfl
theorem k_se_T_join : Cond.selects R_T y_T_join y_T_join ∈ q_ws := q_mem (List.mem_append_right _ (List.mem_of_getElem? (i := 451) (by decide +kernel))) rfl
set_option maxRecDepth 20000 in
theorem k_co_T_join : Cond.code y_T_join b_T_join 5 (some .boolean) ∈ q_ws := q_mem (List.mem_append_right _ (List.mem_of_getElem? (i := 452) rfl)) rfl
theorem k_L_92 : Cond.methodLink R_L 92 y_T_tablet ∈ q_ws := q_mem (List.mem_append_right _ (List.mem_of_getElem? (i := 453) (by decide +kernel))) rfl
theorem k_im_T_tablet : Cond.instanceMethod y_T_tablet ∈ q_ws := q_mem (List.mem_append_right _ (List.mem_of_getElem? (i := 454) (by decide +kernel))) rfl
theorem k_se_T_tablet : Cond.selects R_T y_T_tablet y_T_tablet ∈ q_ws := q_mem (List.mem_append_right _ (List.mem_of_getElem? (i := 455) (by decide +kernel))) rfl
set_option maxRecDepth 20000 in
theorem k_co_T_tablet : Cond.code y_T_tablet b_T_tablet 3 (some .int) ∈ q_ws := q_mem (List.mem_append_right _ (List.mem_of_getElem? (i := 456) rfl)) rfl
theorem k_L_9 : Cond.methodLink R_L 9 y_L_cell ∈ q_ws := q_mem (List.mem_append_right _ (List.mem_of_getElem? (i := 457) (by decide +kernel))) rfl
theorem k_st_L_cell : Cond.static y_L_cell ∈ q_ws := q_mem (List.mem_append_right _ (List.mem_of_getElem? (i := 458) (by decide +kernel))) rfl
set_option maxRecDepth 20000 in
theorem k_co_L_cell : Cond.code y_L_cell b_L_cell 2 (some .int) ∈ q_ws := q_mem (List.mem_append_right _ (List.mem_of_getElem? (i := 459) rfl)) rfl
theorem k_L_18 : Cond.classLink R_L 18 R_M ∈ q_ws := q_mem (List.mem_append_right _ (List.mem_of_getElem? (i := 460) (by decide +kernel))) rfl
theorem k_ii_M : Cond.instantiable R_M 32 ∈ q_ws := q_mem (List.mem_append_right _ (List.mem_of_getElem? (i := 461) (by decide +kernel))) rfl
theorem k_L_20 : Cond.methodLink R_L 20 y_M_init ∈ q_ws := q_mem (List.mem_append_right _ (List.mem_of_getElem? (i := 462) (by decide +kernel))) rfl
theorem k_im_M_init : Cond.instanceMethod y_M_init ∈ q_ws := q_mem (List.mem_append_right _ (List.mem_of_getElem? (i := 463) (by decide +kernel))) rfl
set_option maxRecDepth 20000 in
theorem k_co_M_init : Cond.code y_M_init b_M_init 5 none ∈ q_ws := q_mem (List.mem_append_right _ (List.mem_of_getElem? (i := 464) rfl)) rfl
theorem k_M_1 : Cond.methodLink R_M 1 objectInit ∈ q_ws := q_mem (List.mem_append_right _ (List.mem_of_getElem? (i := 465) (by decide +kernel))) rfl
theorem k_M_68 : Cond.methodLink R_M 68 y_M_nearest ∈ q_ws := q_mem (List.mem_append_right _ (List.mem_of_getElem? (i := 466) (by decide +kernel))) rfl
theorem k_st_M_nearest : Cond.static y_M_nearest ∈ q_ws := q_mem (List.mem_append_right _ (List.mem_of_getElem? (i := 467) (by decide +kernel))) rfl
set_option maxRecDepth 20000 in
theorem k_co_M_nearest : Cond.code y_M_nearest b_M_nearest 2 (some .int) ∈ q_ws := q_mem (List.mem_append_right _ (List.mem_of_getElem? (i := 468) rfl)) rfl
theorem k_M_79 : Cond.fieldLink R_M 79 "TabletCellsModel" "many" "I" ∈ q_ws := q_mem (List.mem_append_right _ (List.mem_of_getElem? (i := 469) (by decide +kernel))) rfl
theorem k_M_7 : Cond.fieldLink R_M 7 "TabletCellsModel" "kinds" "[I" ∈ q_ws := q_mem (List.mem_append_right _ (List.mem_of_getElem? (i := 470) (by decide +kernel))) rfl
theorem k_M_13 : Cond.fieldLink R_M 13 "TabletCellsModel" "rows" "[I" ∈ q_ws := q_mem (List.mem_append_right _ (List.mem_of_getElem? (i := 471) (by decide +kernel))) rfl
theorem k_M_16 : Cond.fieldLink R_M 16 "TabletCellsModel" "columns" "[I" ∈ q_ws := q_mem (List.mem_append_right _ (List.mem_of_getElem? (i := 472) (by decide +kernel))) rfl
theorem k_M_19 : Cond.fieldLink R_M 19 "TabletCellsModel" "times" "[I" ∈ q_ws := q_mem (List.mem_append_right _ (List.mem_of_getElem? (i := 473) (by decide +kernel))) rfl
theorem k_M_22 : Cond.fieldLink R_M 22 "TabletCellsModel" "values" "[I" ∈ q_ws := q_mem (List.mem_append_right _ (List.mem_of_getElem? (i := 474) (by decide +kernel))) rfl
theorem k_M_25 : Cond.fieldLink R_M 25 "TabletCellsModel" "batches" "[I" ∈ q_ws := q_mem (List.mem_append_right _ (List.mem_of_getElem? (i := 475) (by decide +kernel))) rfl
theorem k_M_28 : Cond.fieldLink R_M 28 "TabletCellsModel" "tabletOf" "[I" ∈ q_ws := q_mem (List.mem_append_right _ (List.mem_of_getElem? (i := 476) (by decide +kernel))) rfl
theorem k_M_31 : Cond.fieldLink R_M 31 "TabletCellsModel" "tableOf" "[I" ∈ q_ws := q_mem (List.mem_append_right _ (List.mem_of_getElem? (i := 477) (by decide +kernel))) rfl
theorem k_M_34 : Cond.fieldLink R_M 34 "TabletCellsModel" "tablets" "I" ∈ q_ws := q_mem (List.mem_append_right _ (List.mem_of_getElem? (i := 478) (by decide +kernel))) rfl
theorem k_M_38 : Cond.fieldLink R_M 38 "TabletCellsModel" "firstRow" "[I" ∈ q_ws := q_mem (List.mem_append_right _ (List.mem_of_getElem? (i := 479) (by decide +kernel))) rfl
theorem k_M_41 : Cond.fieldLink R_M 41 "TabletCellsModel" "tableCount" "[I" ∈ q_ws := q_mem (List.mem_append_right _ (List.mem_of_getElem? (i := 480) (by decide +kernel))) rfl
theorem k_M_44 : Cond.fieldLink R_M 44 "TabletCellsModel" "numbers" "[I" ∈ q_ws := q_mem (List.mem_append_right _ (List.mem_of_getElem? (i := 481) (by decide +kernel))) rfl
theorem k_M_47 : Cond.fieldLink R_M 47 "TabletCellsModel" "ages" "[I" ∈ q_ws := q_mem (List.mem_append_right _ (List.mem_of_getElem? (i := 482) (by decide +kernel))) rfl
theorem k_M_72 : Cond.fieldLink R_M 72 "TabletCellsModel" "clock" "I" ∈ q_ws := q_mem (List.mem_append_right _ (List.mem_of_getElem? (i := 483) (by decide +kernel))) rfl
theorem k_M_99 : Cond.fieldLink R_M 99 "TabletCellsModel" "changes" "I" ∈ q_ws := q_mem (List.mem_append_right _ (List.mem_of_getElem? (i := 484) (by decide +kernel))) rfl
theorem k_M_50 : Cond.fieldLink R_M 50 "TabletCellsModel" "changeKind" "[I" ∈ q_ws := q_mem (List.mem_append_right _ (List.mem_of_getElem? (i := 485) (by decide +kernel))) rfl
theorem k_M_102 : Cond.fieldLink R_M 102 "TabletCellsModel" "batchRow" "I" ∈ q_ws := q_mem (List.mem_append_right _ (List.mem_of_getElem? (i := 486) (by decide +kernel))) rfl
theorem k_M_53 : Cond.fieldLink R_M 53 "TabletCellsModel" "changeColumn" "[I" ∈ q_ws := q_mem (List.mem_append_right _ (List.mem_of_getElem? (i := 487) (by decide +kernel))) rfl
theorem k_M_56 : Cond.fieldLink R_M 56 "TabletCellsModel" "changeTime" "[I" ∈ q_ws := q_mem (List.mem_append_right _ (List.mem_of_getElem? (i := 488) (by decide +kernel))) rfl
theorem k_M_59 : Cond.fieldLink R_M 59 "TabletCellsModel" "changeValue" "[I" ∈ q_ws := q_mem (List.mem_append_right _ (List.mem_of_getElem? (i := 489) (by decide +kernel))) rfl
theorem k_M_118 : Cond.fieldLink R_M 118 "TabletCellsModel" "expects" "Z" ∈ q_ws := q_mem (List.mem_append_right _ (List.mem_of_getElem? (i := 490) (by decide +kernel))) rfl
theorem k_M_122 : Cond.fieldLink R_M 122 "TabletCellsModel" "expectRow" "I" ∈ q_ws := q_mem (List.mem_append_right _ (List.mem_of_getElem? (i := 491) (by decide +kernel))) rfl
theorem k_M_125 : Cond.fieldLink R_M 125 "TabletCellsModel" "expectColumn" "I" ∈ q_ws := q_mem (List.mem_append_right _ (List.mem_of_getElem? (i := 492) (by decide +kernel))) rfl
theorem k_M_128 : Cond.fieldLink R_M 128 "TabletCellsModel" "expectSome" "Z" ∈ q_ws := q_mem (List.mem_append_right _ (List.mem_of_getElem? (i := 493) (by decide +kernel))) rfl
theorem k_M_131 : Cond.fieldLink R_M 131 "TabletCellsModel" "expectValue" "I" ∈ q_ws := q_mem (List.mem_append_right _ (List.mem_of_getElem? (i := 494) (by decide +kernel))) rfl
theorem k_M_148 : Cond.fieldLink R_M 148 "TabletCellsModel" "torn" "Z" ∈ q_ws := q_mem (List.mem_append_right _ (List.mem_of_getElem? (i := 495) (by decide +kernel))) rfl
theorem k_M_89 : Cond.fieldLink R_M 89 "TabletCellsModel" "applied" "I" ∈ q_ws := q_mem (List.mem_append_right _ (List.mem_of_getElem? (i := 496) (by decide +kernel))) rfl
theorem k_M_181 : Cond.fieldLink R_M 181 "TabletCellsModel" "found" "I" ∈ q_ws := q_mem (List.mem_append_right _ (List.mem_of_getElem? (i := 497) (by decide +kernel))) rfl
theorem k_M_62 : Cond.fieldLink R_M 62 "TabletCellsModel" "foundPlace" "[I" ∈ q_ws := q_mem (List.mem_append_right _ (List.mem_of_getElem? (i := 498) (by decide +kernel))) rfl
theorem k_M_65 : Cond.fieldLink R_M 65 "TabletCellsModel" "foundValue" "[I" ∈ q_ws := q_mem (List.mem_append_right _ (List.mem_of_getElem? (i := 499) (by decide +kernel))) rfl
theorem k_M_165 : Cond.fieldLink R_M 165 "TabletCellsModel" "lookedAt" "I" ∈ q_ws := q_mem (List.mem_append_right _ (List.mem_of_getElem? (i := 500) (by decide +kernel))) rfl
theorem k_la_M_0 : u_lay R_M F_M 0 ∈ q_ws := (q_mem (List.mem_append_right _ (List.mem_of_getElem? (i := 501) (by decide +kernel))) rfl : Cond.lays "TabletCellsModel" "TabletCellsModel" "many" "I" ∈ q_ws)
theorem k_la_M_1 : u_lay R_M F_M 1 ∈ q_ws := (q_mem (List.mem_append_right _ (List.mem_of_getElem? (i := 503) (by decide +kernel))) rfl : Cond.lays "TabletCellsModel" "TabletCellsModel" "kinds" "[I" ∈ q_ws)
theorem k_la_M_2 : u_lay R_M F_M 2 ∈ q_ws := (q_mem (List.mem_append_right _ (List.mem_of_getElem? (i := 505) (by decide +kernel))) rfl : Cond.lays "TabletCellsModel" "TabletCellsModel" "rows" "[I" ∈ q_ws)
theorem k_la_M_3 : u_lay R_M F_M 3 ∈ q_ws := (q_mem (List.mem_append_right _ (List.mem_of_getElem? (i := 507) (by decide +kernel))) rfl : Cond.lays "TabletCellsModel" "TabletCellsModel" "columns" "[I" ∈ q_ws)
theorem k_la_M_4 : u_lay R_M F_M 4 ∈ q_ws := (q_mem (List.mem_append_right _ (List.mem_of_getElem? (i := 509) (by decide +kernel))) rfl : Cond.lays "TabletCellsModel" "TabletCellsModel" "times" "[I" ∈ q_ws)
theorem k_la_M_5 : u_lay R_M F_M 5 ∈ q_ws := (q_mem (List.mem_append_right _ (List.mem_of_getElem? (i := 511) (by decide +kernel))) rfl : Cond.lays "TabletCellsModel" "TabletCellsModel" "values" "[I" ∈ q_ws)
theorem k_la_M_6 : u_lay R_M F_M 6 ∈ q_ws := (q_mem (List.mem_append_right _ (List.mem_of_getElem? (i := 513) (by decide +kernel))) rfl : Cond.lays "TabletCellsModel" "TabletCellsModel" "batches" "[I" ∈ q_ws)
theorem k_la_M_7 : u_lay R_M F_M 7 ∈ q_ws := (q_mem (List.mem_append_right _ (List.mem_of_getElem? (i := 515) (by decide +kernel))) rfl : Cond.lays "TabletCellsModel" "TabletCellsModel" "tabletOf" "[I" ∈ q_ws)
theorem k_la_M_8 : u_lay R_M F_M 8 ∈ q_ws := (q_mem (List.mem_append_right _ (List.mem_of_getElem? (i := 517) (by decide +kernel))) rfl : Cond.lays "TabletCellsModel" "TabletCellsModel" "tableOf" "[I" ∈ q_ws)
theorem k_la_M_9 : u_lay R_M F_M 9 ∈ q_ws := (q_mem (List.mem_append_right _ (List.mem_of_getElem? (i := 519) (by decide +kernel))) rfl : Cond.lays "TabletCellsModel" "TabletCellsModel" "tablets" "I" ∈ q_ws)
theorem k_la_M_10 : u_lay R_M F_M 10 ∈ q_ws := (q_mem (List.mem_append_right _ (List.mem_of_getElem? (i := 521) (by decide +kernel))) rfl : Cond.lays "TabletCellsModel" "TabletCellsModel" "firstRow" "[I" ∈ q_ws)
theorem k_la_M_11 : u_lay R_M F_M 11 ∈ q_ws := (q_mem (List.mem_append_right _ (List.mem_of_getElem? (i := 523) (by decide +kernel))) rfl : Cond.lays "TabletCellsModel" "TabletCellsModel" "tableCount" "[I" ∈ q_ws)
theorem k_la_M_12 : u_lay R_M F_M 12 ∈ q_ws := (q_mem (List.mem_append_right _ (List.mem_of_getElem? (i := 525) (by decide +kernel))) rfl : Cond.lays "TabletCellsModel" "TabletCellsModel" "numbers" "[I" ∈ q_ws)
theorem k_la_M_13 : u_lay R_M F_M 13 ∈ q_ws := (q_mem (List.mem_append_right _ (List.mem_of_getElem? (i := 527) (by decide +kernel))) rfl : Cond.lays "TabletCellsModel" "TabletCellsModel" "ages" "[I" ∈ q_ws)
theorem k_la_M_14 : u_lay R_M F_M 14 ∈ q_ws := (q_mem (List.mem_append_right _ (List.mem_of_getElem? (i := 529) (by decide +kernel))) rfl : Cond.lays "TabletCellsModel" "TabletCellsModel" "clock" "I" ∈ q_ws)
theorem k_la_M_15 : u_lay R_M F_M 15 ∈ q_ws := (q_mem (List.mem_append_right _ (List.mem_of_getElem? (i := 531) (by decide +kernel))) rfl : Cond.lays "TabletCellsModel" "TabletCellsModel" "changes" "I" ∈ q_ws)
theorem k_la_M_16 : u_lay R_M F_M 16 ∈ q_ws := (q_mem (List.mem_append_right _ (List.mem_of_getElem? (i := 533) (by decide +kernel))) rfl : Cond.lays "TabletCellsModel" "TabletCellsModel" "changeKind" "[I" ∈ q_ws)
theorem k_la_M_17 : u_lay R_M F_M 17 ∈ q_ws := (q_mem (List.mem_append_right _ (List.mem_of_getElem? (i := 535) (by decide +kernel))) rfl : Cond.lays "TabletCellsModel" "TabletCellsModel" "batchRow" "I" ∈ q_ws)
theorem k_la_M_18 : u_lay R_M F_M 18 ∈ q_ws := (q_mem (List.mem_append_right _ (List.mem_of_getElem? (i := 537) (by decide +kernel))) rfl : Cond.lays "TabletCellsModel" "TabletCellsModel" "changeColumn" "[I" ∈ q_ws)
theorem k_la_M_19 : u_lay R_M F_M 19 ∈ q_ws := (q_mem (List.mem_append_right _ (List.mem_of_getElem? (i := 539) (by decide +kernel))) rfl : Cond.lays "TabletCellsModel" "TabletCellsModel" "changeTime" "[I" ∈ q_ws)
theorem k_la_M_20 : u_lay R_M F_M 20 ∈ q_ws := (q_mem (List.mem_append_right _ (List.mem_of_getElem? (i := 541) (by decide +kernel))) rfl : Cond.lays "TabletCellsModel" "TabletCellsModel" "changeValue" "[I" ∈ q_ws)
theorem k_la_M_21 : u_lay R_M F_M 21 ∈ q_ws := (q_mem (List.mem_append_right _ (List.mem_of_getElem? (i := 543) (by decide +kernel))) rfl : Cond.lays "TabletCellsModel" "TabletCellsModel" "expects" "Z" ∈ q_ws)
theorem k_la_M_22 : u_lay R_M F_M 22 ∈ q_ws := (q_mem (List.mem_append_right _ (List.mem_of_getElem? (i := 545) (by decide +kernel))) rfl : Cond.lays "TabletCellsModel" "TabletCellsModel" "expectRow" "I" ∈ q_ws)
theorem k_la_M_23 : u_lay R_M F_M 23 ∈ q_ws := (q_mem (List.mem_append_right _ (List.mem_of_getElem? (i := 547) (by decide +kernel))) rfl : Cond.lays "TabletCellsModel" "TabletCellsModel" "expectColumn" "I" ∈ q_ws)
theorem k_la_M_24 : u_lay R_M F_M 24 ∈ q_ws := (q_mem (List.mem_append_right _ (List.mem_of_getElem? (i := 549) (by decide +kernel))) rfl : Cond.lays "TabletCellsModel" "TabletCellsModel" "expectSome" "Z" ∈ q_ws)
theorem k_la_M_25 : u_lay R_M F_M 25 ∈ q_ws := (q_mem (List.mem_append_right _ (List.mem_of_getElem? (i := 551) (by decide +kernel))) rfl : Cond.lays "TabletCellsModel" "TabletCellsModel" "expectValue" "I" ∈ q_ws)
theorem k_la_M_26 : u_lay R_M F_M 26 ∈ q_ws := (q_mem (List.mem_append_right _ (List.mem_of_getElem? (i := 553) (by decide +kernel))) rfl : Cond.lays "TabletCellsModel" "TabletCellsModel" "torn" "Z" ∈ q_ws)
theorem k_la_M_27 : u_lay R_M F_M 27 ∈ q_ws := (q_mem (List.mem_append_right _ (List.mem_of_getElem? (i := 555) (by decide +kernel))) rfl : Cond.lays "TabletCellsModel" "TabletCellsModel" "applied" "I" ∈ q_ws)
theorem k_la_M_28 : u_lay R_M F_M 28 ∈ q_ws := (q_mem (List.mem_append_right _ (List.mem_of_getElem? (i := 557) (by decide +kernel))) rfl : Cond.lays "TabletCellsModel" "TabletCellsModel" "found" "I" ∈ q_ws)
theorem k_la_M_29 : u_lay R_M F_M 29 ∈ q_ws := (q_mem (List.mem_append_right _ (List.mem_of_getElem? (i := 559) (by decide +kernel))) rfl : Cond.lays "TabletCellsModel" "TabletCellsModel" "foundPlace" "[I" ∈ q_ws)
theorem k_la_M_30 : u_lay R_M F_M 30 ∈ q_ws := (q_mem (List.mem_append_right _ (List.mem_of_getElem? (i := 561) (by decide +kernel))) rfl : Cond.lays "TabletCellsModel" "TabletCellsModel" "foundValue" "[I" ∈ q_ws)
theorem k_la_M_31 : u_lay R_M F_M 31 ∈ q_ws := (q_mem (List.mem_append_right _ (List.mem_of_getElem? (i := 563) (by decide +kernel))) rfl : Cond.lays "TabletCellsModel" "TabletCellsModel" "lookedAt" "I" ∈ q_ws)
theorem k_L_25 : Cond.methodLink R_L 25 y_M_put ∈ q_ws := q_mem (List.mem_append_right _ (List.mem_of_getElem? (i := 566) (by decide +kernel))) rfl
theorem k_im_M_put : Cond.instanceMethod y_M_put ∈ q_ws := q_mem (List.mem_append_right _ (List.mem_of_getElem? (i := 567) (by decide +kernel))) rfl
theorem k_se_M_put : Cond.selects R_M y_M_put y_M_put ∈ q_ws := q_mem (List.mem_append_right _ (List.mem_of_getElem? (i := 568) (by decide +kernel))) rfl
set_option maxRecDepth 20000 in
theorem k_co_M_put : Cond.code y_M_put b_M_put 5 (some .boolean) ∈ q_ws := q_mem (List.mem_append_right _ (List.mem_of_getElem? (i := 569) rfl)) rfl
theorem k_M_105 : Cond.methodLink R_M 105 y_M_isColumn ∈ q_ws := q_mem (List.mem_append_right _ (List.mem_of_getElem? (i := 570) (by decide +kernel))) rfl
theorem k_st_M_isColumn : Cond.static y_M_isColumn ∈ q_ws := q_mem (List.mem_append_right _ (List.mem_of_getElem? (i := 571) (by decide +kernel))) rfl
set_option maxRecDepth 20000 in
theorem k_co_M_isColumn : Cond.code y_M_isColumn b_M_isColumn 1 (some .boolean) ∈ q_ws := q_mem (List.mem_append_right _ (List.mem_of_getElem? (i := 572) rfl)) rfl
theorem k_M_108 : Cond.methodLink R_M 108 y_M_isTime ∈ q_ws := q_mem (List.mem_append_right _ (List.mem_of_getElem? (i := 573) (by decide +kernel))) rfl
theorem k_st_M_isTime : Cond.static y_M_isTime ∈ q_ws := q_mem (List.mem_append_right _ (List.mem_of_getElem? (i := 574) (by decide +kernel))) rfl
set_option maxRecDepth 20000 in
theorem k_co_M_isTime : Cond.code y_M_isTime b_M_isTime 1 (some .boolean) ∈ q_ws := q_mem (List.mem_append_right _ (List.mem_of_getElem? (i := 575) rfl)) rfl
theorem k_M_111 : Cond.methodLink R_M 111 y_M_takes ∈ q_ws := q_mem (List.mem_append_right _ (List.mem_of_getElem? (i := 576) (by decide +kernel))) rfl
theorem k_im_M_takes : Cond.instanceMethod y_M_takes ∈ q_ws := q_mem (List.mem_append_right _ (List.mem_of_getElem? (i := 578) (by decide +kernel))) rfl
set_option maxRecDepth 20000 in
theorem k_co_M_takes : Cond.code y_M_takes b_M_takes 2 (some .boolean) ∈ q_ws := q_mem (List.mem_append_right _ (List.mem_of_getElem? (i := 579) rfl)) rfl
theorem k_M_96 : Cond.methodLink R_M 96 y_M_isRow ∈ q_ws := q_mem (List.mem_append_right _ (List.mem_of_getElem? (i := 580) (by decide +kernel))) rfl
theorem k_st_M_isRow : Cond.static y_M_isRow ∈ q_ws := q_mem (List.mem_append_right _ (List.mem_of_getElem? (i := 581) (by decide +kernel))) rfl
set_option maxRecDepth 20000 in
theorem k_co_M_isRow : Cond.code y_M_isRow b_M_isRow 1 (some .boolean) ∈ q_ws := q_mem (List.mem_append_right _ (List.mem_of_getElem? (i := 582) rfl)) rfl
theorem k_M_114 : Cond.methodLink R_M 114 y_M_change ∈ q_ws := q_mem (List.mem_append_right _ (List.mem_of_getElem? (i := 583) (by decide +kernel))) rfl
theorem k_im_M_change : Cond.instanceMethod y_M_change ∈ q_ws := q_mem (List.mem_append_right _ (List.mem_of_getElem? (i := 585) (by decide +kernel))) rfl
set_option maxRecDepth 20000 in
theorem k_co_M_change : Cond.code y_M_change b_M_change 6 none ∈ q_ws := q_mem (List.mem_append_right _ (List.mem_of_getElem? (i := 586) rfl)) rfl
theorem k_L_30 : Cond.methodLink R_L 30 y_M_erase ∈ q_ws := q_mem (List.mem_append_right _ (List.mem_of_getElem? (i := 587) (by decide +kernel))) rfl
theorem k_im_M_erase : Cond.instanceMethod y_M_erase ∈ q_ws := q_mem (List.mem_append_right _ (List.mem_of_getElem? (i := 588) (by decide +kernel))) rfl
theorem k_se_M_erase : Cond.selects R_M y_M_erase y_M_erase ∈ q_ws := q_mem (List.mem_append_right _ (List.mem_of_getElem? (i := 589) (by decide +kernel))) rfl
set_option maxRecDepth 20000 in
theorem k_co_M_erase : Cond.code y_M_erase b_M_erase 6 (some .boolean) ∈ q_ws := q_mem (List.mem_append_right _ (List.mem_of_getElem? (i := 590) rfl)) rfl
theorem k_L_35 : Cond.methodLink R_L 35 y_M_expect ∈ q_ws := q_mem (List.mem_append_right _ (List.mem_of_getElem? (i := 591) (by decide +kernel))) rfl
theorem k_im_M_expect : Cond.instanceMethod y_M_expect ∈ q_ws := q_mem (List.mem_append_right _ (List.mem_of_getElem? (i := 592) (by decide +kernel))) rfl
theorem k_se_M_expect : Cond.selects R_M y_M_expect y_M_expect ∈ q_ws := q_mem (List.mem_append_right _ (List.mem_of_getElem? (i := 593) (by decide +kernel))) rfl
set_option maxRecDepth 20000 in
theorem k_co_M_expect : Cond.code y_M_expect b_M_expect 5 (some .boolean) ∈ q_ws := q_mem (List.mem_append_right _ (List.mem_of_getElem? (i := 594) rfl)) rfl
theorem k_L_40 : Cond.methodLink R_L 40 y_M_apply ∈ q_ws := q_mem (List.mem_append_right _ (List.mem_of_getElem? (i := 595) (by decide +kernel))) rfl
theorem k_im_M_apply : Cond.instanceMethod y_M_apply ∈ q_ws := q_mem (List.mem_append_right _ (List.mem_of_getElem? (i := 596) (by decide +kernel))) rfl
theorem k_se_M_apply : Cond.selects R_M y_M_apply y_M_apply ∈ q_ws := q_mem (List.mem_append_right _ (List.mem_of_getElem? (i := 597) (by decide +kernel))) rfl
set_option maxRecDepth 20000 in
theorem k_co_M_apply : Cond.code y_M_apply b_M_apply 7 (some .int) ∈ q_ws := q_mem (List.mem_append_right _ (List.mem_of_getElem? (i := 598) rfl)) rfl
theorem k_M_141 : Cond.methodLink R_M 141 y_M_isMet ∈ q_ws := q_mem (List.mem_append_right _ (List.mem_of_getElem? (i := 599) (by decide +kernel))) rfl
theorem k_im_M_isMet : Cond.instanceMethod y_M_isMet ∈ q_ws := q_mem (List.mem_append_right _ (List.mem_of_getElem? (i := 601) (by decide +kernel))) rfl
set_option maxRecDepth 20000 in
theorem k_co_M_isMet : Cond.code y_M_isMet b_M_isMet 2 (some .boolean) ∈ q_ws := q_mem (List.mem_append_right _ (List.mem_of_getElem? (i := 602) rfl)) rfl
theorem k_M_134 : Cond.methodLink R_M 134 y_M_below ∈ q_ws := q_mem (List.mem_append_right _ (List.mem_of_getElem? (i := 603) (by decide +kernel))) rfl
theorem k_im_M_below : Cond.instanceMethod y_M_below ∈ q_ws := q_mem (List.mem_append_right _ (List.mem_of_getElem? (i := 605) (by decide +kernel))) rfl
set_option maxRecDepth 20000 in
theorem k_co_M_below : Cond.code y_M_below b_M_below 7 (some .int) ∈ q_ws := q_mem (List.mem_append_right _ (List.mem_of_getElem? (i := 606) rfl)) rfl
theorem k_M_86 : Cond.methodLink R_M 86 y_M_isLive ∈ q_ws := q_mem (List.mem_append_right _ (List.mem_of_getElem? (i := 607) (by decide +kernel))) rfl
theorem k_im_M_isLive : Cond.instanceMethod y_M_isLive ∈ q_ws := q_mem (List.mem_append_right _ (List.mem_of_getElem? (i := 609) (by decide +kernel))) rfl
set_option maxRecDepth 20000 in
theorem k_co_M_isLive : Cond.code y_M_isLive b_M_isLive 3 (some .boolean) ∈ q_ws := q_mem (List.mem_append_right _ (List.mem_of_getElem? (i := 610) rfl)) rfl
theorem k_M_75 : Cond.methodLink R_M 75 y_M_isOld ∈ q_ws := q_mem (List.mem_append_right _ (List.mem_of_getElem? (i := 611) (by decide +kernel))) rfl
theorem k_im_M_isOld : Cond.instanceMethod y_M_isOld ∈ q_ws := q_mem (List.mem_append_right _ (List.mem_of_getElem? (i := 613) (by decide +kernel))) rfl
set_option maxRecDepth 20000 in
theorem k_co_M_isOld : Cond.code y_M_isOld b_M_isOld 3 (some .boolean) ∈ q_ws := q_mem (List.mem_append_right _ (List.mem_of_getElem? (i := 614) rfl)) rfl
theorem k_M_82 : Cond.methodLink R_M 82 y_M_covers ∈ q_ws := q_mem (List.mem_append_right _ (List.mem_of_getElem? (i := 615) (by decide +kernel))) rfl
theorem k_im_M_covers : Cond.instanceMethod y_M_covers ∈ q_ws := q_mem (List.mem_append_right _ (List.mem_of_getElem? (i := 617) (by decide +kernel))) rfl
set_option maxRecDepth 20000 in
theorem k_co_M_covers : Cond.code y_M_covers b_M_covers 3 (some .boolean) ∈ q_ws := q_mem (List.mem_append_right _ (List.mem_of_getElem? (i := 618) rfl)) rfl
theorem k_M_145 : Cond.methodLink R_M 145 y_M_drop ∈ q_ws := q_mem (List.mem_append_right _ (List.mem_of_getElem? (i := 619) (by decide +kernel))) rfl
theorem k_im_M_drop : Cond.instanceMethod y_M_drop ∈ q_ws := q_mem (List.mem_append_right _ (List.mem_of_getElem? (i := 621) (by decide +kernel))) rfl
set_option maxRecDepth 20000 in
theorem k_co_M_drop : Cond.code y_M_drop b_M_drop 1 none ∈ q_ws := q_mem (List.mem_append_right _ (List.mem_of_getElem? (i := 622) rfl)) rfl
theorem k_M_138 : Cond.methodLink R_M 138 y_M_make ∈ q_ws := q_mem (List.mem_append_right _ (List.mem_of_getElem? (i := 623) (by decide +kernel))) rfl
theorem k_im_M_make : Cond.instanceMethod y_M_make ∈ q_ws := q_mem (List.mem_append_right _ (List.mem_of_getElem? (i := 625) (by decide +kernel))) rfl
set_option maxRecDepth 20000 in
theorem k_co_M_make : Cond.code y_M_make b_M_make 6 none ∈ q_ws := q_mem (List.mem_append_right _ (List.mem_of_getElem? (i := 626) rfl)) rfl
theorem k_M_92 : Cond.methodLink R_M 92 y_M_tabletWith ∈ q_ws := q_mem (List.mem_append_right _ (List.mem_of_getElem? (i := 627) (by decide +kernel))) rfl
theorem k_im_M_tabletWith : Cond.instanceMethod y_M_tabletWith ∈ q_ws := q_mem (List.mem_append_right _ (List.mem_of_getElem? (i := 629) (by decide +kernel))) rfl
set_option maxRecDepth 20000 in
theorem k_co_M_tabletWith : Cond.code y_M_tabletWith b_M_tabletWith 4 (some .int) ∈ q_ws := q_mem (List.mem_append_right _ (List.mem_of_getElem? (i := 630) rfl)) rfl
theorem k_M_151 : Cond.methodLink R_M 151 y_M_trim ∈ q_ws := q_mem (List.mem_append_right _ (List.mem_of_getElem? (i := 631) (by decide +kernel))) rfl
theorem k_im_M_trim : Cond.instanceMethod y_M_trim ∈ q_ws := q_mem (List.mem_append_right _ (List.mem_of_getElem? (i := 633) (by decide +kernel))) rfl
set_option maxRecDepth 20000 in
theorem k_co_M_trim : Cond.code y_M_trim b_M_trim 7 none ∈ q_ws := q_mem (List.mem_append_right _ (List.mem_of_getElem? (i := 634) rfl)) rfl
theorem k_M_155 : Cond.methodLink R_M 155 y_M_inTable ∈ q_ws := q_mem (List.mem_append_right _ (List.mem_of_getElem? (i := 635) (by decide +kernel))) rfl
theorem k_im_M_inTable : Cond.instanceMethod y_M_inTable ∈ q_ws := q_mem (List.mem_append_right _ (List.mem_of_getElem? (i := 637) (by decide +kernel))) rfl
set_option maxRecDepth 20000 in
theorem k_co_M_inTable : Cond.code y_M_inTable b_M_inTable 5 (some .int) ∈ q_ws := q_mem (List.mem_append_right _ (List.mem_of_getElem? (i := 638) rfl)) rfl
theorem k_M_158 : Cond.methodLink R_M 158 y_M_flushed ∈ q_ws := q_mem (List.mem_append_right _ (List.mem_of_getElem? (i := 639) (by decide +kernel))) rfl
theorem k_im_M_flushed : Cond.instanceMethod y_M_flushed ∈ q_ws := q_mem (List.mem_append_right _ (List.mem_of_getElem? (i := 641) (by decide +kernel))) rfl
set_option maxRecDepth 20000 in
theorem k_co_M_flushed : Cond.code y_M_flushed b_M_flushed 4 (some .int) ∈ q_ws := q_mem (List.mem_append_right _ (List.mem_of_getElem? (i := 642) rfl)) rfl
theorem k_L_44 : Cond.methodLink R_L 44 y_M_tear ∈ q_ws := q_mem (List.mem_append_right _ (List.mem_of_getElem? (i := 643) (by decide +kernel))) rfl
theorem k_im_M_tear : Cond.instanceMethod y_M_tear ∈ q_ws := q_mem (List.mem_append_right _ (List.mem_of_getElem? (i := 644) (by decide +kernel))) rfl
theorem k_se_M_tear : Cond.selects R_M y_M_tear y_M_tear ∈ q_ws := q_mem (List.mem_append_right _ (List.mem_of_getElem? (i := 645) (by decide +kernel))) rfl
set_option maxRecDepth 20000 in
theorem k_co_M_tear : Cond.code y_M_tear b_M_tear 1 none ∈ q_ws := q_mem (List.mem_append_right _ (List.mem_of_getElem? (i := 646) rfl)) rfl
theorem k_L_48 : Cond.methodLink R_L 48 y_M_crash ∈ q_ws := q_mem (List.mem_append_right _ (List.mem_of_getElem? (i := 647) (by decide +kernel))) rfl
theorem k_im_M_crash : Cond.instanceMethod y_M_crash ∈ q_ws := q_mem (List.mem_append_right _ (List.mem_of_getElem? (i := 648) (by decide +kernel))) rfl
theorem k_se_M_crash : Cond.selects R_M y_M_crash y_M_crash ∈ q_ws := q_mem (List.mem_append_right _ (List.mem_of_getElem? (i := 649) (by decide +kernel))) rfl
set_option maxRecDepth 20000 in
theorem k_co_M_crash : Cond.code y_M_crash b_M_crash 1 none ∈ q_ws := q_mem (List.mem_append_right _ (List.mem_of_getElem? (i := 650) rfl)) rfl
theorem k_L_53 : Cond.methodLink R_L 53 y_M_tick ∈ q_ws := q_mem (List.mem_append_right _ (List.mem_of_getElem? (i := 651) (by decide +kernel))) rfl
theorem k_im_M_tick : Cond.instanceMethod y_M_tick ∈ q_ws := q_mem (List.mem_append_right _ (List.mem_of_getElem? (i := 652) (by decide +kernel))) rfl
theorem k_se_M_tick : Cond.selects R_M y_M_tick y_M_tick ∈ q_ws := q_mem (List.mem_append_right _ (List.mem_of_getElem? (i := 653) (by decide +kernel))) rfl
set_option maxRecDepth 20000 in
theorem k_co_M_tick : Cond.code y_M_tick b_M_tick 2 (some .int) ∈ q_ws := q_mem (List.mem_append_right _ (List.mem_of_getElem? (i := 654) rfl)) rfl
theorem k_L_58 : Cond.methodLink R_L 58 y_M_get ∈ q_ws := q_mem (List.mem_append_right _ (List.mem_of_getElem? (i := 655) (by decide +kernel))) rfl
theorem k_im_M_get : Cond.instanceMethod y_M_get ∈ q_ws := q_mem (List.mem_append_right _ (List.mem_of_getElem? (i := 656) (by decide +kernel))) rfl
theorem k_se_M_get : Cond.selects R_M y_M_get y_M_get ∈ q_ws := q_mem (List.mem_append_right _ (List.mem_of_getElem? (i := 657) (by decide +kernel))) rfl
set_option maxRecDepth 20000 in
theorem k_co_M_get : Cond.code y_M_get b_M_get 8 (some .long) ∈ q_ws := q_mem (List.mem_append_right _ (List.mem_of_getElem? (i := 658) rfl)) rfl
theorem k_M_171 : Cond.constantLong R_M 171 (-1) ∈ q_ws := q_mem (List.mem_append_right _ (List.mem_of_getElem? (i := 659) (by decide +kernel))) rfl
theorem k_M_173 : Cond.methodLink R_M 173 y_M_look ∈ q_ws := q_mem (List.mem_append_right _ (List.mem_of_getElem? (i := 660) (by decide +kernel))) rfl
theorem k_im_M_look : Cond.instanceMethod y_M_look ∈ q_ws := q_mem (List.mem_append_right _ (List.mem_of_getElem? (i := 662) (by decide +kernel))) rfl
set_option maxRecDepth 20000 in
theorem k_co_M_look : Cond.code y_M_look b_M_look 4 none ∈ q_ws := q_mem (List.mem_append_right _ (List.mem_of_getElem? (i := 663) rfl)) rfl
theorem k_M_168 : Cond.methodLink R_M 168 y_M_blocksFor ∈ q_ws := q_mem (List.mem_append_right _ (List.mem_of_getElem? (i := 664) (by decide +kernel))) rfl
theorem k_im_M_blocksFor : Cond.instanceMethod y_M_blocksFor ∈ q_ws := q_mem (List.mem_append_right _ (List.mem_of_getElem? (i := 666) (by decide +kernel))) rfl
set_option maxRecDepth 20000 in
theorem k_co_M_blocksFor : Cond.code y_M_blocksFor b_M_blocksFor 10 (some .int) ∈ q_ws := q_mem (List.mem_append_right _ (List.mem_of_getElem? (i := 667) rfl)) rfl
theorem k_M_161 : Cond.methodLink R_M 161 y_M_bits ∈ q_ws := q_mem (List.mem_append_right _ (List.mem_of_getElem? (i := 668) (by decide +kernel))) rfl
theorem k_st_M_bits : Cond.static y_M_bits ∈ q_ws := q_mem (List.mem_append_right _ (List.mem_of_getElem? (i := 669) (by decide +kernel))) rfl
set_option maxRecDepth 20000 in
theorem k_co_M_bits : Cond.code y_M_bits b_M_bits 1 (some .long) ∈ q_ws := q_mem (List.mem_append_right _ (List.mem_of_getElem? (i := 670) rfl)) rfl
theorem k_M_177 : Cond.constantLong R_M 177 (4294967296) ∈ q_ws := q_mem (List.mem_append_right _ (List.mem_of_getElem? (i := 671) (by decide +kernel))) rfl
theorem k_M_179 : Cond.constantLong R_M 179 (4294967295) ∈ q_ws := q_mem (List.mem_append_right _ (List.mem_of_getElem? (i := 672) (by decide +kernel))) rfl
theorem k_L_63 : Cond.methodLink R_L 63 y_M_scan ∈ q_ws := q_mem (List.mem_append_right _ (List.mem_of_getElem? (i := 673) (by decide +kernel))) rfl
theorem k_im_M_scan : Cond.instanceMethod y_M_scan ∈ q_ws := q_mem (List.mem_append_right _ (List.mem_of_getElem? (i := 674) (by decide +kernel))) rfl
theorem k_se_M_scan : Cond.selects R_M y_M_scan y_M_scan ∈ q_ws := q_mem (List.mem_append_right _ (List.mem_of_getElem? (i := 675) (by decide +kernel))) rfl
set_option maxRecDepth 20000 in
theorem k_co_M_scan : Cond.code y_M_scan b_M_scan 8 (some .int) ∈ q_ws := q_mem (List.mem_append_right _ (List.mem_of_getElem? (i := 676) rfl)) rfl
theorem k_M_185 : Cond.methodLink R_M 185 y_M_gather ∈ q_ws := q_mem (List.mem_append_right _ (List.mem_of_getElem? (i := 677) (by decide +kernel))) rfl
theorem k_im_M_gather : Cond.instanceMethod y_M_gather ∈ q_ws := q_mem (List.mem_append_right _ (List.mem_of_getElem? (i := 679) (by decide +kernel))) rfl
set_option maxRecDepth 20000 in
theorem k_co_M_gather : Cond.code y_M_gather b_M_gather 6 none ∈ q_ws := q_mem (List.mem_append_right _ (List.mem_of_getElem? (i := 680) rfl)) rfl
theorem k_M_184 : Cond.constant R_M 184 (80000) ∈ q_ws := q_mem (List.mem_append_right _ (List.mem_of_getElem? (i := 681) (by decide +kernel))) rfl
theorem k_L_68 : Cond.methodLink R_L 68 y_M_found ∈ q_ws := q_mem (List.mem_append_right _ (List.mem_of_getElem? (i := 682) (by decide +kernel))) rfl
theorem k_im_M_found : Cond.instanceMethod y_M_found ∈ q_ws := q_mem (List.mem_append_right _ (List.mem_of_getElem? (i := 683) (by decide +kernel))) rfl
theorem k_se_M_found : Cond.selects R_M y_M_found y_M_found ∈ q_ws := q_mem (List.mem_append_right _ (List.mem_of_getElem? (i := 684) (by decide +kernel))) rfl
set_option maxRecDepth 20000 in
theorem k_co_M_found : Cond.code y_M_found b_M_found 2 (some .long) ∈ q_ws := q_mem (List.mem_append_right _ (List.mem_of_getElem? (i := 685) rfl)) rfl
theorem k_L_72 : Cond.methodLink R_L 72 y_M_flush ∈ q_ws := q_mem (List.mem_append_right _ (List.mem_of_getElem? (i := 686) (by decide +kernel))) rfl
theorem k_im_M_flush : Cond.instanceMethod y_M_flush ∈ q_ws := q_mem (List.mem_append_right _ (List.mem_of_getElem? (i := 687) (by decide +kernel))) rfl
theorem k_se_M_flush : Cond.selects R_M y_M_flush y_M_flush ∈ q_ws := q_mem (List.mem_append_right _ (List.mem_of_getElem? (i := 688) (by decide +kernel))) rfl
set_option maxRecDepth 20000 in
theorem k_co_M_flush : Cond.code y_M_flush b_M_flush 2 (some .int) ∈ q_ws := q_mem (List.mem_append_right _ (List.mem_of_getElem? (i := 689) rfl)) rfl
theorem k_M_189 : Cond.methodLink R_M 189 y_M_isTablet ∈ q_ws := q_mem (List.mem_append_right _ (List.mem_of_getElem? (i := 690) (by decide +kernel))) rfl
theorem k_im_M_isTablet : Cond.instanceMethod y_M_isTablet ∈ q_ws := q_mem (List.mem_append_right _ (List.mem_of_getElem? (i := 692) (by decide +kernel))) rfl
set_option maxRecDepth 20000 in
theorem k_co_M_isTablet : Cond.code y_M_isTablet b_M_isTablet 2 (some .boolean) ∈ q_ws := q_mem (List.mem_append_right _ (List.mem_of_getElem? (i := 693) rfl)) rfl
theorem k_L_77 : Cond.methodLink R_L 77 y_M_compact ∈ q_ws := q_mem (List.mem_append_right _ (List.mem_of_getElem? (i := 694) (by decide +kernel))) rfl
theorem k_im_M_compact : Cond.instanceMethod y_M_compact ∈ q_ws := q_mem (List.mem_append_right _ (List.mem_of_getElem? (i := 695) (by decide +kernel))) rfl
theorem k_se_M_compact : Cond.selects R_M y_M_compact y_M_compact ∈ q_ws := q_mem (List.mem_append_right _ (List.mem_of_getElem? (i := 696) (by decide +kernel))) rfl
set_option maxRecDepth 20000 in
theorem k_co_M_compact : Cond.code y_M_compact b_M_compact 3 (some .int) ∈ q_ws := q_mem (List.mem_append_right _ (List.mem_of_getElem? (i := 697) rfl)) rfl
theorem k_M_199 : Cond.methodLink R_M 199 y_M_merge ∈ q_ws := q_mem (List.mem_append_right _ (List.mem_of_getElem? (i := 698) (by decide +kernel))) rfl
theorem k_im_M_merge : Cond.instanceMethod y_M_merge ∈ q_ws := q_mem (List.mem_append_right _ (List.mem_of_getElem? (i := 700) (by decide +kernel))) rfl
set_option maxRecDepth 20000 in
theorem k_co_M_merge : Cond.code y_M_merge b_M_merge 7 (some .int) ∈ q_ws := q_mem (List.mem_append_right _ (List.mem_of_getElem? (i := 701) rfl)) rfl
theorem k_M_192 : Cond.methodLink R_M 192 y_M_isIn ∈ q_ws := q_mem (List.mem_append_right _ (List.mem_of_getElem? (i := 702) (by decide +kernel))) rfl
theorem k_im_M_isIn : Cond.instanceMethod y_M_isIn ∈ q_ws := q_mem (List.mem_append_right _ (List.mem_of_getElem? (i := 704) (by decide +kernel))) rfl
set_option maxRecDepth 20000 in
theorem k_co_M_isIn : Cond.code y_M_isIn b_M_isIn 4 (some .boolean) ∈ q_ws := q_mem (List.mem_append_right _ (List.mem_of_getElem? (i := 705) rfl)) rfl
theorem k_M_196 : Cond.methodLink R_M 196 y_M_move ∈ q_ws := q_mem (List.mem_append_right _ (List.mem_of_getElem? (i := 706) (by decide +kernel))) rfl
theorem k_im_M_move : Cond.instanceMethod y_M_move ∈ q_ws := q_mem (List.mem_append_right _ (List.mem_of_getElem? (i := 708) (by decide +kernel))) rfl
set_option maxRecDepth 20000 in
theorem k_co_M_move : Cond.code y_M_move b_M_move 3 none ∈ q_ws := q_mem (List.mem_append_right _ (List.mem_of_getElem? (i := 709) rfl)) rfl
theorem k_L_81 : Cond.methodLink R_L 81 y_M_major ∈ q_ws := q_mem (List.mem_append_right _ (List.mem_of_getElem? (i := 710) (by decide +kernel))) rfl
theorem k_im_M_major : Cond.instanceMethod y_M_major ∈ q_ws := q_mem (List.mem_append_right _ (List.mem_of_getElem? (i := 711) (by decide +kernel))) rfl
theorem k_se_M_major : Cond.selects R_M y_M_major y_M_major ∈ q_ws := q_mem (List.mem_append_right _ (List.mem_of_getElem? (i := 712) (by decide +kernel))) rfl
set_option maxRecDepth 20000 in
theorem k_co_M_major : Cond.code y_M_major b_M_major 3 (some .int) ∈ q_ws := q_mem (List.mem_append_right _ (List.mem_of_getElem? (i := 713) rfl)) rfl
theorem k_L_86 : Cond.methodLink R_L 86 y_M_split ∈ q_ws := q_mem (List.mem_append_right _ (List.mem_of_getElem? (i := 714) (by decide +kernel))) rfl
theorem k_im_M_split : Cond.instanceMethod y_M_split ∈ q_ws := q_mem (List.mem_append_right _ (List.mem_of_getElem? (i := 715) (by decide +kernel))) rfl
theorem k_se_M_split : Cond.selects R_M y_M_split y_M_split ∈ q_ws := q_mem (List.mem_append_right _ (List.mem_of_getElem? (i := 716) (by decide +kernel))) rfl
set_option maxRecDepth 20000 in
theorem k_co_M_split : Cond.code y_M_split b_M_split 4 (some .boolean) ∈ q_ws := q_mem (List.mem_append_right _ (List.mem_of_getElem? (i := 717) rfl)) rfl
theorem k_M_203 : Cond.methodLink R_M 203 y_M_lastRow ∈ q_ws := q_mem (List.mem_append_right _ (List.mem_of_getElem? (i := 718) (by decide +kernel))) rfl
theorem k_im_M_lastRow : Cond.instanceMethod y_M_lastRow ∈ q_ws := q_mem (List.mem_append_right _ (List.mem_of_getElem? (i := 720) (by decide +kernel))) rfl
set_option maxRecDepth 20000 in
theorem k_co_M_lastRow : Cond.code y_M_lastRow b_M_lastRow 2 (some .int) ∈ q_ws := q_mem (List.mem_append_right _ (List.mem_of_getElem? (i := 721) rfl)) rfl
theorem k_M_206 : Cond.methodLink R_M 206 y_M_close ∈ q_ws := q_mem (List.mem_append_right _ (List.mem_of_getElem? (i := 722) (by decide +kernel))) rfl
theorem k_im_M_close : Cond.instanceMethod y_M_close ∈ q_ws := q_mem (List.mem_append_right _ (List.mem_of_getElem? (i := 724) (by decide +kernel))) rfl
set_option maxRecDepth 20000 in
theorem k_co_M_close : Cond.code y_M_close b_M_close 5 none ∈ q_ws := q_mem (List.mem_append_right _ (List.mem_of_getElem? (i := 725) rfl)) rfl
theorem k_L_91 : Cond.methodLink R_L 91 y_M_join ∈ q_ws := q_mem (List.mem_append_right _ (List.mem_of_getElem? (i := 726) (by decide +kernel))) rfl
theorem k_im_M_join : Cond.instanceMethod y_M_join ∈ q_ws := q_mem (List.mem_append_right _ (List.mem_of_getElem? (i := 727) (by decide +kernel))) rfl
theorem k_se_M_join : Cond.selects R_M y_M_join y_M_join ∈ q_ws := q_mem (List.mem_append_right _ (List.mem_of_getElem? (i := 728) (by decide +kernel))) rfl
set_option maxRecDepth 20000 in
theorem k_co_M_join : Cond.code y_M_join b_M_join 3 (some .boolean) ∈ q_ws := q_mem (List.mem_append_right _ (List.mem_of_getElem? (i := 729) rfl)) rfl
theorem k_L_95 : Cond.methodLink R_L 95 y_M_tablet ∈ q_ws := q_mem (List.mem_append_right _ (List.mem_of_getElem? (i := 730) (by decide +kernel))) rfl
theorem k_im_M_tablet : Cond.instanceMethod y_M_tablet ∈ q_ws := q_mem (List.mem_append_right _ (List.mem_of_getElem? (i := 731) (by decide +kernel))) rfl
theorem k_se_M_tablet : Cond.selects R_M y_M_tablet y_M_tablet ∈ q_ws := q_mem (List.mem_append_right _ (List.mem_of_getElem? (i := 732) (by decide +kernel))) rfl
set_option maxRecDepth 20000 in
theorem k_co_M_tablet : Cond.code y_M_tablet b_M_tablet 3 (some .int) ∈ q_ws := q_mem (List.mem_append_right _ (List.mem_of_getElem? (i := 733) rfl)) rfl
theorem k_L_100 : Cond.methodLink R_L 100 y_M_table ∈ q_ws := q_mem (List.mem_append_right _ (List.mem_of_getElem? (i := 734) (by decide +kernel))) rfl
theorem k_im_M_table : Cond.instanceMethod y_M_table ∈ q_ws := q_mem (List.mem_append_right _ (List.mem_of_getElem? (i := 735) (by decide +kernel))) rfl
theorem k_se_M_table : Cond.selects R_M y_M_table y_M_table ∈ q_ws := q_mem (List.mem_append_right _ (List.mem_of_getElem? (i := 736) (by decide +kernel))) rfl
set_option maxRecDepth 20000 in
theorem k_co_M_table : Cond.code y_M_table b_M_table 7 (some .int) ∈ q_ws := q_mem (List.mem_append_right _ (List.mem_of_getElem? (i := 737) rfl)) rfl
theorem k_L_104 : Cond.methodLink R_L 104 y_M_log ∈ q_ws := q_mem (List.mem_append_right _ (List.mem_of_getElem? (i := 738) (by decide +kernel))) rfl
theorem k_im_M_log : Cond.instanceMethod y_M_log ∈ q_ws := q_mem (List.mem_append_right _ (List.mem_of_getElem? (i := 739) (by decide +kernel))) rfl
theorem k_se_M_log : Cond.selects R_M y_M_log y_M_log ∈ q_ws := q_mem (List.mem_append_right _ (List.mem_of_getElem? (i := 740) (by decide +kernel))) rfl
set_option maxRecDepth 20000 in
theorem k_co_M_log : Cond.code y_M_log b_M_log 5 (some .int) ∈ q_ws := q_mem (List.mem_append_right _ (List.mem_of_getElem? (i := 741) rfl)) rfl
theorem k_L_108 : Cond.methodLink R_L 108 y_M_looked ∈ q_ws := q_mem (List.mem_append_right _ (List.mem_of_getElem? (i := 742) (by decide +kernel))) rfl
theorem k_im_M_looked : Cond.instanceMethod y_M_looked ∈ q_ws := q_mem (List.mem_append_right _ (List.mem_of_getElem? (i := 743) (by decide +kernel))) rfl
theorem k_se_M_looked : Cond.selects R_M y_M_looked y_M_looked ∈ q_ws := q_mem (List.mem_append_right _ (List.mem_of_getElem? (i := 744) (by decide +kernel))) rfl
set_option maxRecDepth 20000 in
theorem k_co_M_looked : Cond.code y_M_looked b_M_looked 1 (some .int) ∈ q_ws := q_mem (List.mem_append_right _ (List.mem_of_getElem? (i := 745) rfl)) rfl
theorem k_se_B_takes : Cond.selects R_B y_B_takes y_B_takes ∈ q_ws := q_mem (List.mem_append_left _ (List.mem_map.mpr ⟨(y_B_takes, 11), List.mem_of_getElem? (i := 0) (by decide +kernel), rfl⟩)) rfl
theorem k_se_B_addCell : Cond.selects R_B y_B_addCell y_B_addCell ∈ q_ws := q_mem (List.mem_append_left _ (List.mem_map.mpr ⟨(y_B_addCell, 11), List.mem_of_getElem? (i := 1) (by decide +kernel), rfl⟩)) rfl
theorem k_se_B_addChange : Cond.selects R_B y_B_addChange y_B_addChange ∈ q_ws := q_mem (List.mem_append_left _ (List.mem_map.mpr ⟨(y_B_addChange, 11), List.mem_of_getElem? (i := 2) (by decide +kernel), rfl⟩)) rfl
theorem k_se_B_addErasure : Cond.selects R_B y_B_addErasure y_B_addErasure ∈ q_ws := q_mem (List.mem_append_left _ (List.mem_map.mpr ⟨(y_B_addErasure, 11), List.mem_of_getElem? (i := 3) (by decide +kernel), rfl⟩)) rfl
theorem k_se_B_setExpectation : Cond.selects R_B y_B_setExpectation y_B_setExpectation ∈ q_ws := q_mem (List.mem_append_left _ (List.mem_map.mpr ⟨(y_B_setExpectation, 11), List.mem_of_getElem? (i := 4) (by decide +kernel), rfl⟩)) rfl
theorem k_se_B_empty : Cond.selects R_B y_B_empty y_B_empty ∈ q_ws := q_mem (List.mem_append_left _ (List.mem_map.mpr ⟨(y_B_empty, 11), List.mem_of_getElem? (i := 5) (by decide +kernel), rfl⟩)) rfl
theorem k_se_T_isExpectationMet : Cond.selects R_T y_T_isExpectationMet y_T_isExpectationMet ∈ q_ws := q_mem (List.mem_append_left _ (List.mem_map.mpr ⟨(y_T_isExpectationMet, 14), List.mem_of_getElem? (i := 6) (by decide +kernel), rfl⟩)) rfl
theorem k_se_T_liveCell : Cond.selects R_T y_T_liveCell y_T_liveCell ∈ q_ws := q_mem (List.mem_append_left _ (List.mem_map.mpr ⟨(y_T_liveCell, 14), List.mem_of_getElem? (i := 7) (by decide +kernel), rfl⟩)) rfl
theorem k_se_T_indexOfRow : Cond.selects R_T y_T_indexOfRow y_T_indexOfRow ∈ q_ws := q_mem (List.mem_append_left _ (List.mem_map.mpr ⟨(y_T_indexOfRow, 14), List.mem_of_getElem? (i := 8) (by decide +kernel), rfl⟩)) rfl
theorem k_se_T_isLive : Cond.selects R_T y_T_isLive y_T_isLive ∈ q_ws := q_mem (List.mem_append_left _ (List.mem_map.mpr ⟨(y_T_isLive, 14), List.mem_of_getElem? (i := 9) (by decide +kernel), rfl⟩)) rfl
theorem k_se_T_isOldCell : Cond.selects R_T y_T_isOldCell y_T_isOldCell ∈ q_ws := q_mem (List.mem_append_left _ (List.mem_map.mpr ⟨(y_T_isOldCell, 14), List.mem_of_getElem? (i := 10) (by decide +kernel), rfl⟩)) rfl
theorem k_se_T_applyChanges : Cond.selects R_T y_T_applyChanges y_T_applyChanges ∈ q_ws := q_mem (List.mem_append_left _ (List.mem_map.mpr ⟨(y_T_applyChanges, 14), List.mem_of_getElem? (i := 11) (by decide +kernel), rfl⟩)) rfl
theorem k_se_T_applyChange : Cond.selects R_T y_T_applyChange y_T_applyChange ∈ q_ws := q_mem (List.mem_append_left _ (List.mem_map.mpr ⟨(y_T_applyChange, 14), List.mem_of_getElem? (i := 12) (by decide +kernel), rfl⟩)) rfl
theorem k_se_T_makeEntry : Cond.selects R_T y_T_makeEntry y_T_makeEntry ∈ q_ws := q_mem (List.mem_append_left _ (List.mem_map.mpr ⟨(y_T_makeEntry, 14), List.mem_of_getElem? (i := 13) (by decide +kernel), rfl⟩)) rfl
theorem k_se_T_unusedEntry : Cond.selects R_T y_T_unusedEntry y_T_unusedEntry ∈ q_ws := q_mem (List.mem_append_left _ (List.mem_map.mpr ⟨(y_T_unusedEntry, 14), List.mem_of_getElem? (i := 14) (by decide +kernel), rfl⟩)) rfl
theorem k_se_E_begin : Cond.selects R_E y_E_begin y_E_begin ∈ q_ws := q_mem (List.mem_append_left _ (List.mem_map.mpr ⟨(y_E_begin, 12), List.mem_of_getElem? (i := 15) (by decide +kernel), rfl⟩)) rfl
theorem k_se_E_covers : Cond.selects R_E y_E_covers y_E_covers ∈ q_ws := q_mem (List.mem_append_left _ (List.mem_map.mpr ⟨(y_E_covers, 12), List.mem_of_getElem? (i := 16) (by decide +kernel), rfl⟩)) rfl
theorem k_se_T_insert : Cond.selects R_T y_T_insert y_T_insert ∈ q_ws := q_mem (List.mem_append_left _ (List.mem_map.mpr ⟨(y_T_insert, 14), List.mem_of_getElem? (i := 17) (by decide +kernel), rfl⟩)) rfl
theorem k_se_T_eraseBeyondNumber : Cond.selects R_T y_T_eraseBeyondNumber y_T_eraseBeyondNumber ∈ q_ws := q_mem (List.mem_append_left _ (List.mem_map.mpr ⟨(y_T_eraseBeyondNumber, 14), List.mem_of_getElem? (i := 18) (by decide +kernel), rfl⟩)) rfl
theorem k_se_T_tabletOf : Cond.selects R_T y_T_tabletOf y_T_tabletOf ∈ q_ws := q_mem (List.mem_append_left _ (List.mem_map.mpr ⟨(y_T_tabletOf, 14), List.mem_of_getElem? (i := 19) (by decide +kernel), rfl⟩)) rfl
theorem k_se_T_entriesIn : Cond.selects R_T y_T_entriesIn y_T_entriesIn ∈ q_ws := q_mem (List.mem_append_left _ (List.mem_map.mpr ⟨(y_T_entriesIn, 14), List.mem_of_getElem? (i := 20) (by decide +kernel), rfl⟩)) rfl
theorem k_se_T_endOf : Cond.selects R_T y_T_endOf y_T_endOf ∈ q_ws := q_mem (List.mem_append_left _ (List.mem_map.mpr ⟨(y_T_endOf, 14), List.mem_of_getElem? (i := 21) (by decide +kernel), rfl⟩)) rfl
theorem k_se_T_startOf : Cond.selects R_T y_T_startOf y_T_startOf ∈ q_ws := q_mem (List.mem_append_left _ (List.mem_map.mpr ⟨(y_T_startOf, 14), List.mem_of_getElem? (i := 22) (by decide +kernel), rfl⟩)) rfl
theorem k_se_T_flushTablet : Cond.selects R_T y_T_flushTablet y_T_flushTablet ∈ q_ws := q_mem (List.mem_append_left _ (List.mem_map.mpr ⟨(y_T_flushTablet, 14), List.mem_of_getElem? (i := 23) (by decide +kernel), rfl⟩)) rfl
theorem k_se_T_tableCount : Cond.selects R_T y_T_tableCount y_T_tableCount ∈ q_ws := q_mem (List.mem_append_left _ (List.mem_map.mpr ⟨(y_T_tableCount, 14), List.mem_of_getElem? (i := 24) (by decide +kernel), rfl⟩)) rfl
theorem k_se_T_lookFor : Cond.selects R_T y_T_lookFor y_T_lookFor ∈ q_ws := q_mem (List.mem_append_left _ (List.mem_map.mpr ⟨(y_T_lookFor, 14), List.mem_of_getElem? (i := 25) (by decide +kernel), rfl⟩)) rfl
theorem k_se_S_begin : Cond.selects R_S y_S_begin y_S_begin ∈ q_ws := q_mem (List.mem_append_left _ (List.mem_map.mpr ⟨(y_S_begin, 5), List.mem_of_getElem? (i := 26) (by decide +kernel), rfl⟩)) rfl
theorem k_se_S_pass : Cond.selects R_S y_S_pass y_S_pass ∈ q_ws := q_mem (List.mem_append_left _ (List.mem_map.mpr ⟨(y_S_pass, 5), List.mem_of_getElem? (i := 27) (by decide +kernel), rfl⟩)) rfl
theorem k_se_S_blocksLookedAt : Cond.selects R_S y_S_blocksLookedAt y_S_blocksLookedAt ∈ q_ws := q_mem (List.mem_append_left _ (List.mem_map.mpr ⟨(y_S_blocksLookedAt, 5), List.mem_of_getElem? (i := 28) (by decide +kernel), rfl⟩)) rfl
theorem k_se_S_blocksOfRow : Cond.selects R_S y_S_blocksOfRow y_S_blocksOfRow ∈ q_ws := q_mem (List.mem_append_left _ (List.mem_map.mpr ⟨(y_S_blocksOfRow, 5), List.mem_of_getElem? (i := 29) (by decide +kernel), rfl⟩)) rfl
theorem k_se_T_addToResult : Cond.selects R_T y_T_addToResult y_T_addToResult ∈ q_ws := q_mem (List.mem_append_left _ (List.mem_map.mpr ⟨(y_T_addToResult, 14), List.mem_of_getElem? (i := 30) (by decide +kernel), rfl⟩)) rfl
theorem k_se_T_isTablet : Cond.selects R_T y_T_isTablet y_T_isTablet ∈ q_ws := q_mem (List.mem_append_left _ (List.mem_map.mpr ⟨(y_T_isTablet, 14), List.mem_of_getElem? (i := 31) (by decide +kernel), rfl⟩)) rfl
theorem k_se_T_isCoveredInTables : Cond.selects R_T y_T_isCoveredInTables y_T_isCoveredInTables ∈ q_ws := q_mem (List.mem_append_left _ (List.mem_map.mpr ⟨(y_T_isCoveredInTables, 14), List.mem_of_getElem? (i := 32) (by decide +kernel), rfl⟩)) rfl
theorem k_se_T_mergeTables : Cond.selects R_T y_T_mergeTables y_T_mergeTables ∈ q_ws := q_mem (List.mem_append_left _ (List.mem_map.mpr ⟨(y_T_mergeTables, 14), List.mem_of_getElem? (i := 33) (by decide +kernel), rfl⟩)) rfl
theorem k_se_T_removeLeaving : Cond.selects R_T y_T_removeLeaving y_T_removeLeaving ∈ q_ws := q_mem (List.mem_append_left _ (List.mem_map.mpr ⟨(y_T_removeLeaving, 14), List.mem_of_getElem? (i := 34) (by decide +kernel), rfl⟩)) rfl
theorem k_se_T_erasuresIn : Cond.selects R_T y_T_erasuresIn y_T_erasuresIn ∈ q_ws := q_mem (List.mem_append_left _ (List.mem_map.mpr ⟨(y_T_erasuresIn, 14), List.mem_of_getElem? (i := 35) (by decide +kernel), rfl⟩)) rfl
theorem k_se_T_firstRowIn : Cond.selects R_T y_T_firstRowIn y_T_firstRowIn ∈ q_ws := q_mem (List.mem_append_left _ (List.mem_map.mpr ⟨(y_T_firstRowIn, 14), List.mem_of_getElem? (i := 36) (by decide +kernel), rfl⟩)) rfl
theorem k_se_T_closeGaps : Cond.selects R_T y_T_closeGaps y_T_closeGaps ∈ q_ws := q_mem (List.mem_append_left _ (List.mem_map.mpr ⟨(y_T_closeGaps, 14), List.mem_of_getElem? (i := 37) (by decide +kernel), rfl⟩)) rfl
theorem k_se_T_moveUpBehind : Cond.selects R_T y_T_moveUpBehind y_T_moveUpBehind ∈ q_ws := q_mem (List.mem_append_left _ (List.mem_map.mpr ⟨(y_T_moveUpBehind, 14), List.mem_of_getElem? (i := 38) (by decide +kernel), rfl⟩)) rfl
theorem k_se_M_takes : Cond.selects R_M y_M_takes y_M_takes ∈ q_ws := q_mem (List.mem_append_left _ (List.mem_map.mpr ⟨(y_M_takes, 32), List.mem_of_getElem? (i := 39) (by decide +kernel), rfl⟩)) rfl
theorem k_se_M_change : Cond.selects R_M y_M_change y_M_change ∈ q_ws := q_mem (List.mem_append_left _ (List.mem_map.mpr ⟨(y_M_change, 32), List.mem_of_getElem? (i := 40) (by decide +kernel), rfl⟩)) rfl
theorem k_se_M_isMet : Cond.selects R_M y_M_isMet y_M_isMet ∈ q_ws := q_mem (List.mem_append_left _ (List.mem_map.mpr ⟨(y_M_isMet, 32), List.mem_of_getElem? (i := 41) (by decide +kernel), rfl⟩)) rfl
theorem k_se_M_below : Cond.selects R_M y_M_below y_M_below ∈ q_ws := q_mem (List.mem_append_left _ (List.mem_map.mpr ⟨(y_M_below, 32), List.mem_of_getElem? (i := 42) (by decide +kernel), rfl⟩)) rfl
theorem k_se_M_isLive : Cond.selects R_M y_M_isLive y_M_isLive ∈ q_ws := q_mem (List.mem_append_left _ (List.mem_map.mpr ⟨(y_M_isLive, 32), List.mem_of_getElem? (i := 43) (by decide +kernel), rfl⟩)) rfl
theorem k_se_M_isOld : Cond.selects R_M y_M_isOld y_M_isOld ∈ q_ws := q_mem (List.mem_append_left _ (List.mem_map.mpr ⟨(y_M_isOld, 32), List.mem_of_getElem? (i := 44) (by decide +kernel), rfl⟩)) rfl
theorem k_se_M_covers : Cond.selects R_M y_M_covers y_M_covers ∈ q_ws := q_mem (List.mem_append_left _ (List.mem_map.mpr ⟨(y_M_covers, 32), List.mem_of_getElem? (i := 45) (by decide +kernel), rfl⟩)) rfl
theorem k_se_M_drop : Cond.selects R_M y_M_drop y_M_drop ∈ q_ws := q_mem (List.mem_append_left _ (List.mem_map.mpr ⟨(y_M_drop, 32), List.mem_of_getElem? (i := 46) (by decide +kernel), rfl⟩)) rfl
theorem k_se_M_make : Cond.selects R_M y_M_make y_M_make ∈ q_ws := q_mem (List.mem_append_left _ (List.mem_map.mpr ⟨(y_M_make, 32), List.mem_of_getElem? (i := 47) (by decide +kernel), rfl⟩)) rfl
theorem k_se_M_tabletWith : Cond.selects R_M y_M_tabletWith y_M_tabletWith ∈ q_ws := q_mem (List.mem_append_left _ (List.mem_map.mpr ⟨(y_M_tabletWith, 32), List.mem_of_getElem? (i := 48) (by decide +kernel), rfl⟩)) rfl
theorem k_se_M_trim : Cond.selects R_M y_M_trim y_M_trim ∈ q_ws := q_mem (List.mem_append_left _ (List.mem_map.mpr ⟨(y_M_trim, 32), List.mem_of_getElem? (i := 49) (by decide +kernel), rfl⟩)) rfl
theorem k_se_M_inTable : Cond.selects R_M y_M_inTable y_M_inTable ∈ q_ws := q_mem (List.mem_append_left _ (List.mem_map.mpr ⟨(y_M_inTable, 32), List.mem_of_getElem? (i := 50) (by decide +kernel), rfl⟩)) rfl
theorem k_se_M_flushed : Cond.selects R_M y_M_flushed y_M_flushed ∈ q_ws := q_mem (List.mem_append_left _ (List.mem_map.mpr ⟨(y_M_flushed, 32), List.mem_of_getElem? (i := 51) (by decide +kernel), rfl⟩)) rfl
theorem k_se_M_look : Cond.selects R_M y_M_look y_M_look ∈ q_ws := q_mem (List.mem_append_left _ (List.mem_map.mpr ⟨(y_M_look, 32), List.mem_of_getElem? (i := 52) (by decide +kernel), rfl⟩)) rfl
theorem k_se_M_blocksFor : Cond.selects R_M y_M_blocksFor y_M_blocksFor ∈ q_ws := q_mem (List.mem_append_left _ (List.mem_map.mpr ⟨(y_M_blocksFor, 32), List.mem_of_getElem? (i := 53) (by decide +kernel), rfl⟩)) rfl
theorem k_se_M_gather : Cond.selects R_M y_M_gather y_M_gather ∈ q_ws := q_mem (List.mem_append_left _ (List.mem_map.mpr ⟨(y_M_gather, 32), List.mem_of_getElem? (i := 54) (by decide +kernel), rfl⟩)) rfl
theorem k_se_M_isTablet : Cond.selects R_M y_M_isTablet y_M_isTablet ∈ q_ws := q_mem (List.mem_append_left _ (List.mem_map.mpr ⟨(y_M_isTablet, 32), List.mem_of_getElem? (i := 55) (by decide +kernel), rfl⟩)) rfl
theorem k_se_M_merge : Cond.selects R_M y_M_merge y_M_merge ∈ q_ws := q_mem (List.mem_append_left _ (List.mem_map.mpr ⟨(y_M_merge, 32), List.mem_of_getElem? (i := 56) (by decide +kernel), rfl⟩)) rfl
theorem k_se_M_isIn : Cond.selects R_M y_M_isIn y_M_isIn ∈ q_ws := q_mem (List.mem_append_left _ (List.mem_map.mpr ⟨(y_M_isIn, 32), List.mem_of_getElem? (i := 57) (by decide +kernel), rfl⟩)) rfl
theorem k_se_M_move : Cond.selects R_M y_M_move y_M_move ∈ q_ws := q_mem (List.mem_append_left _ (List.mem_map.mpr ⟨(y_M_move, 32), List.mem_of_getElem? (i := 58) (by decide +kernel), rfl⟩)) rfl
theorem k_se_M_lastRow : Cond.selects R_M y_M_lastRow y_M_lastRow ∈ q_ws := q_mem (List.mem_append_left _ (List.mem_map.mpr ⟨(y_M_lastRow, 32), List.mem_of_getElem? (i := 59) (by decide +kernel), rfl⟩)) rfl
theorem k_se_M_close : Cond.selects R_M y_M_close y_M_close ∈ q_ws := q_mem (List.mem_append_left _ (List.mem_map.mpr ⟨(y_M_close, 32), List.mem_of_getElem? (i := 60) (by decide +kernel), rfl⟩)) rfl
theorem in_T : ∀ w ∈ u_ws R_T F_T 14, w ∈ q_ws := fun w hw => by
  obtain ⟨k, hk, rfl⟩ := List.mem_map.mp hw
  have hk := List.mem_range.mp hk
  match k, hk with
  | 0, _ => exact k_la_T_0
  | 1, _ => exact k_la_T_1
  | 2, _ => exact k_la_T_2
  | 3, _ => exact k_la_T_3
  | 4, _ => exact k_la_T_4
  | 5, _ => exact k_la_T_5
  | 6, _ => exact k_la_T_6
  | 7, _ => exact k_la_T_7
  | 8, _ => exact k_la_T_8
  | 9, _ => exact k_la_T_9
  | 10, _ => exact k_la_T_10
  | 11, _ => exact k_la_T_11
  | 12, _ => exact k_la_T_12
  | 13, _ => exact k_la_T_13
  | k + 14, h => omega
theorem n_def_T : ∀ j, j < 14 → defaultValue (tt_T j) = vp_V [.null, .null, .int 0, .null, .int 0, .int 0, .null, .int 0, .null, .int 0, .null, .int 0, .null, .int 0] j := by
  intro j hj
  match j, hj with
  | 0, _ => rfl
  | 1, _ => rfl
  | 2, _ => rfl
  | 3, _ => rfl
  | 4, _ => rfl
  | 5, _ => rfl
  | 6, _ => rfl
  | 7, _ => rfl
  | 8, _ => rfl
  | 9, _ => rfl
  | 10, _ => rfl
  | 11, _ => rfl
  | 12, _ => rfl
  | 13, _ => rfl
  | k + 14, h => omega
theorem in_E : ∀ w ∈ u_ws R_E F_E 12, w ∈ q_ws := fun w hw => by
  obtain ⟨k, hk, rfl⟩ := List.mem_map.mp hw
  have hk := List.mem_range.mp hk
  match k, hk with
  | 0, _ => exact k_la_E_0
  | 1, _ => exact k_la_E_1
  | 2, _ => exact k_la_E_2
  | 3, _ => exact k_la_E_3
  | 4, _ => exact k_la_E_4
  | 5, _ => exact k_la_E_5
  | 6, _ => exact k_la_E_6
  | 7, _ => exact k_la_E_7
  | 8, _ => exact k_la_E_8
  | 9, _ => exact k_la_E_9
  | 10, _ => exact k_la_E_10
  | 11, _ => exact k_la_E_11
  | k + 12, h => omega
theorem n_def_E : ∀ j, j < 12 → defaultValue (tt_E j) = vp_V [.int 0, .int 0, .int 0, .int 0, .int 0, .int 0, .int 0, .int 0, .int 0, .int 0, .int 0, .int 0] j := by
  intro j hj
  match j, hj with
  | 0, _ => rfl
  | 1, _ => rfl
  | 2, _ => rfl
  | 3, _ => rfl
  | 4, _ => rfl
  | 5, _ => rfl
  | 6, _ => rfl
  | 7, _ => rfl
  | 8, _ => rfl
  | 9, _ => rfl
  | 10, _ => rfl
  | 11, _ => rfl
  | k + 12, h => omega
theorem in_B : ∀ w ∈ u_ws R_B F_B 11, w ∈ q_ws := fun w hw => by
  obtain ⟨k, hk, rfl⟩ := List.mem_map.mp hw
  have hk := List.mem_range.mp hk
  match k, hk with
  | 0, _ => exact k_la_B_0
  | 1, _ => exact k_la_B_1
  | 2, _ => exact k_la_B_2
  | 3, _ => exact k_la_B_3
  | 4, _ => exact k_la_B_4
  | 5, _ => exact k_la_B_5
  | 6, _ => exact k_la_B_6
  | 7, _ => exact k_la_B_7
  | 8, _ => exact k_la_B_8
  | 9, _ => exact k_la_B_9
  | 10, _ => exact k_la_B_10
  | k + 11, h => omega
theorem n_def_B : ∀ j, j < 11 → defaultValue (tt_B j) = vp_V [.int 0, .int 0, .null, .null, .null, .null, .int 0, .int 0, .int 0, .int 0, .int 0] j := by
  intro j hj
  match j, hj with
  | 0, _ => rfl
  | 1, _ => rfl
  | 2, _ => rfl
  | 3, _ => rfl
  | 4, _ => rfl
  | 5, _ => rfl
  | 6, _ => rfl
  | 7, _ => rfl
  | 8, _ => rfl
  | 9, _ => rfl
  | 10, _ => rfl
  | k + 11, h => omega
theorem in_S : ∀ w ∈ u_ws R_S F_S 5, w ∈ q_ws := fun w hw => by
  obtain ⟨k, hk, rfl⟩ := List.mem_map.mp hw
  have hk := List.mem_range.mp hk
  match k, hk with
  | 0, _ => exact k_la_S_0
  | 1, _ => exact k_la_S_1
  | 2, _ => exact k_la_S_2
  | 3, _ => exact k_la_S_3
  | 4, _ => exact k_la_S_4
  | k + 5, h => omega
theorem n_def_S : ∀ j, j < 5 → defaultValue (tt_S j) = vp_V [.int 0, .int 0, .null, .null, .null] j := by
  intro j hj
  match j, hj with
  | 0, _ => rfl
  | 1, _ => rfl
  | 2, _ => rfl
  | 3, _ => rfl
  | 4, _ => rfl
  | k + 5, h => omega
theorem in_M : ∀ w ∈ u_ws R_M F_M 32, w ∈ q_ws := fun w hw => by
  obtain ⟨k, hk, rfl⟩ := List.mem_map.mp hw
  have hk := List.mem_range.mp hk
  match k, hk with
  | 0, _ => exact k_la_M_0
  | 1, _ => exact k_la_M_1
  | 2, _ => exact k_la_M_2
  | 3, _ => exact k_la_M_3
  | 4, _ => exact k_la_M_4
  | 5, _ => exact k_la_M_5
  | 6, _ => exact k_la_M_6
  | 7, _ => exact k_la_M_7
  | 8, _ => exact k_la_M_8
  | 9, _ => exact k_la_M_9
  | 10, _ => exact k_la_M_10
  | 11, _ => exact k_la_M_11
  | 12, _ => exact k_la_M_12
  | 13, _ => exact k_la_M_13
  | 14, _ => exact k_la_M_14
  | 15, _ => exact k_la_M_15
  | 16, _ => exact k_la_M_16
  | 17, _ => exact k_la_M_17
  | 18, _ => exact k_la_M_18
  | 19, _ => exact k_la_M_19
  | 20, _ => exact k_la_M_20
  | 21, _ => exact k_la_M_21
  | 22, _ => exact k_la_M_22
  | 23, _ => exact k_la_M_23
  | 24, _ => exact k_la_M_24
  | 25, _ => exact k_la_M_25
  | 26, _ => exact k_la_M_26
  | 27, _ => exact k_la_M_27
  | 28, _ => exact k_la_M_28
  | 29, _ => exact k_la_M_29
  | 30, _ => exact k_la_M_30
  | 31, _ => exact k_la_M_31
  | k + 32, h => omega
theorem n_def_M : ∀ j, j < 32 → defaultValue (tt_M j) = vp_V [.int 0, .null, .null, .null, .null, .null, .null, .null, .null, .int 0, .null, .null, .null, .null, .int 0, .int 0, .null, .int 0, .null, .null, .null, .int 0, .int 0, .int 0, .int 0, .int 0, .int 0, .int 0, .int 0, .null, .null, .int 0] j := by
  intro j hj
  match j, hj with
  | 0, _ => rfl
  | 1, _ => rfl
  | 2, _ => rfl
  | 3, _ => rfl
  | 4, _ => rfl
  | 5, _ => rfl
  | 6, _ => rfl
  | 7, _ => rfl
  | 8, _ => rfl
  | 9, _ => rfl
  | 10, _ => rfl
  | 11, _ => rfl
  | 12, _ => rfl
  | 13, _ => rfl
  | 14, _ => rfl
  | 15, _ => rfl
  | 16, _ => rfl
  | 17, _ => rfl
  | 18, _ => rfl
  | 19, _ => rfl
  | 20, _ => rfl
  | 21, _ => rfl
  | 22, _ => rfl
  | 23, _ => rfl
  | 24, _ => rfl
  | 25, _ => rfl
  | 26, _ => rfl
  | 27, _ => rfl
  | 28, _ => rfl
  | 29, _ => rfl
  | 30, _ => rfl
  | 31, _ => rfl
  | k + 32, h => omega
