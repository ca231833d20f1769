section
-- ===== PART A: goes FIRST, ahead of the names: the tables' words, and 'selects' of the private methods out of them =====
/-- a private method of a class that the tables say can be made, by its rows of tables_1 -/
def lw_okq (q : MethodName × Nat) : Prop := (q.1.cls ≠ "java/lang/invoke/MethodHandle" ∧ q.1.cls ≠ "java/lang/invoke/VarHandle") ∧ Cond.instantiable q.1.cls q.2 ∈ tables_1 ∧ Cond.privateMethod q.1 ∈ tables_1 ∧ Cond.instanceMethod q.1 ∈ tables_1
theorem lw_p0 : lw_okq (⟨"ExtentGroup", "isFew", "()Z"⟩, 8) := ⟨⟨by decide +kernel, by decide +kernel⟩, List.mem_of_getElem? (i := 13) (by decide +kernel), List.mem_of_getElem? (i := 126) (by decide +kernel), List.mem_of_getElem? (i := 127) (by decide +kernel)⟩
theorem lw_p1 : lw_okq (⟨"ExtentGroup", "isQuorum", "(I)Z"⟩, 8) := ⟨⟨by decide +kernel, by decide +kernel⟩, List.mem_of_getElem? (i := 13) (by decide +kernel), List.mem_of_getElem? (i := 130) (by decide +kernel), List.mem_of_getElem? (i := 131) (by decide +kernel)⟩
theorem lw_p2 : lw_okq (⟨"ExtentGroup", "takeRows", "(LExtentGroup$Volume;I)Z"⟩, 8) := ⟨⟨by decide +kernel, by decide +kernel⟩, List.mem_of_getElem? (i := 13) (by decide +kernel), List.mem_of_getElem? (i := 159) (by decide +kernel), List.mem_of_getElem? (i := 160) (by decide +kernel)⟩
theorem lw_p3 : lw_okq (⟨"ExtentGroup", "markTaken", "()V"⟩, 8) := ⟨⟨by decide +kernel, by decide +kernel⟩, List.mem_of_getElem? (i := 13) (by decide +kernel), List.mem_of_getElem? (i := 163) (by decide +kernel), List.mem_of_getElem? (i := 164) (by decide +kernel)⟩
theorem lw_p4 : lw_okq (⟨"ExtentGroup", "take", "(I)V"⟩, 8) := ⟨⟨by decide +kernel, by decide +kernel⟩, List.mem_of_getElem? (i := 13) (by decide +kernel), List.mem_of_getElem? (i := 174) (by decide +kernel), List.mem_of_getElem? (i := 175) (by decide +kernel)⟩
theorem lw_p5 : lw_okq (⟨"ExtentGroup", "pickDisks", "(I)I"⟩, 8) := ⟨⟨by decide +kernel, by decide +kernel⟩, List.mem_of_getElem? (i := 13) (by decide +kernel), List.mem_of_getElem? (i := 178) (by decide +kernel), List.mem_of_getElem? (i := 179) (by decide +kernel)⟩
theorem lw_p6 : lw_okq (⟨"ExtentGroup", "roomiest", "(I)I"⟩, 8) := ⟨⟨by decide +kernel, by decide +kernel⟩, List.mem_of_getElem? (i := 13) (by decide +kernel), List.mem_of_getElem? (i := 182) (by decide +kernel), List.mem_of_getElem? (i := 183) (by decide +kernel)⟩
theorem lw_p7 : lw_okq (⟨"ExtentGroup", "freeCount", "(I)I"⟩, 8) := ⟨⟨by decide +kernel, by decide +kernel⟩, List.mem_of_getElem? (i := 13) (by decide +kernel), List.mem_of_getElem? (i := 186) (by decide +kernel), List.mem_of_getElem? (i := 187) (by decide +kernel)⟩
theorem lw_p8 : lw_okq (⟨"ExtentGroup", "takeRow", "(I[II)V"⟩, 8) := ⟨⟨by decide +kernel, by decide +kernel⟩, List.mem_of_getElem? (i := 13) (by decide +kernel), List.mem_of_getElem? (i := 196) (by decide +kernel), List.mem_of_getElem? (i := 197) (by decide +kernel)⟩
theorem lw_p9 : lw_okq (⟨"ExtentGroup", "leastFree", "(I)I"⟩, 8) := ⟨⟨by decide +kernel, by decide +kernel⟩, List.mem_of_getElem? (i := 13) (by decide +kernel), List.mem_of_getElem? (i := 200) (by decide +kernel), List.mem_of_getElem? (i := 201) (by decide +kernel)⟩
theorem lw_p10 : lw_okq (⟨"ExtentGroup$Layout", "volumesWith", "(ILExtentGroup$Volume;)[LExtentGroup$Volume;"⟩, 2) := ⟨⟨by decide +kernel, by decide +kernel⟩, List.mem_of_getElem? (i := 29) (by decide +kernel), List.mem_of_getElem? (i := 209) (by decide +kernel), List.mem_of_getElem? (i := 210) (by decide +kernel)⟩
theorem lw_p11 : lw_okq (⟨"ExtentGroup", "commit", "(LExtentGroup$Layout;)Z"⟩, 8) := ⟨⟨by decide +kernel, by decide +kernel⟩, List.mem_of_getElem? (i := 13) (by decide +kernel), List.mem_of_getElem? (i := 215) (by decide +kernel), List.mem_of_getElem? (i := 216) (by decide +kernel)⟩
theorem lw_p12 : lw_okq (⟨"ExtentGroup", "putCopy", "(LExtentGroup$Disk;ILExtentGroup$Copy;)Z"⟩, 8) := ⟨⟨by decide +kernel, by decide +kernel⟩, List.mem_of_getElem? (i := 13) (by decide +kernel), List.mem_of_getElem? (i := 231) (by decide +kernel), List.mem_of_getElem? (i := 232) (by decide +kernel)⟩
theorem lw_p13 : lw_okq (⟨"ExtentGroup", "mayAct", "()Z"⟩, 8) := ⟨⟨by decide +kernel, by decide +kernel⟩, List.mem_of_getElem? (i := 13) (by decide +kernel), List.mem_of_getElem? (i := 235) (by decide +kernel), List.mem_of_getElem? (i := 236) (by decide +kernel)⟩
theorem lw_p14 : lw_okq (⟨"ExtentGroup", "goDown", "()V"⟩, 8) := ⟨⟨by decide +kernel, by decide +kernel⟩, List.mem_of_getElem? (i := 13) (by decide +kernel), List.mem_of_getElem? (i := 239) (by decide +kernel), List.mem_of_getElem? (i := 240) (by decide +kernel)⟩
theorem lw_p15 : lw_okq (⟨"ExtentGroup", "isMoving", "(I)Z"⟩, 8) := ⟨⟨by decide +kernel, by decide +kernel⟩, List.mem_of_getElem? (i := 13) (by decide +kernel), List.mem_of_getElem? (i := 247) (by decide +kernel), List.mem_of_getElem? (i := 248) (by decide +kernel)⟩
def lw_privs_1 : List (MethodName × Nat) := [(⟨"ExtentGroup", "isFew", "()Z"⟩, 8), (⟨"ExtentGroup", "isQuorum", "(I)Z"⟩, 8), (⟨"ExtentGroup", "takeRows", "(LExtentGroup$Volume;I)Z"⟩, 8), (⟨"ExtentGroup", "markTaken", "()V"⟩, 8), (⟨"ExtentGroup", "take", "(I)V"⟩, 8), (⟨"ExtentGroup", "pickDisks", "(I)I"⟩, 8), (⟨"ExtentGroup", "roomiest", "(I)I"⟩, 8), (⟨"ExtentGroup", "freeCount", "(I)I"⟩, 8), (⟨"ExtentGroup", "takeRow", "(I[II)V"⟩, 8), (⟨"ExtentGroup", "leastFree", "(I)I"⟩, 8), (⟨"ExtentGroup$Layout", "volumesWith", "(ILExtentGroup$Volume;)[LExtentGroup$Volume;"⟩, 2), (⟨"ExtentGroup", "commit", "(LExtentGroup$Layout;)Z"⟩, 8), (⟨"ExtentGroup", "putCopy", "(LExtentGroup$Disk;ILExtentGroup$Copy;)Z"⟩, 8), (⟨"ExtentGroup", "mayAct", "()Z"⟩, 8), (⟨"ExtentGroup", "goDown", "()V"⟩, 8), (⟨"ExtentGroup", "isMoving", "(I)Z"⟩, 8)]
theorem lw_r1 : ∀ q ∈ lw_privs_1, lw_okq q := List.forall_mem_cons.mpr ⟨lw_p0, List.forall_mem_cons.mpr ⟨lw_p1, List.forall_mem_cons.mpr ⟨lw_p2, List.forall_mem_cons.mpr ⟨lw_p3, List.forall_mem_cons.mpr ⟨lw_p4, List.forall_mem_cons.mpr ⟨lw_p5, List.forall_mem_cons.mpr ⟨lw_p6, List.forall_mem_cons.mpr ⟨lw_p7, List.forall_mem_cons.mpr ⟨lw_p8, List.forall_mem_cons.mpr ⟨lw_p9, List.forall_mem_cons.mpr ⟨lw_p10, List.forall_mem_cons.mpr ⟨lw_p11, List.forall_mem_cons.mpr ⟨lw_p12, List.forall_mem_cons.mpr ⟨lw_p13, List.forall_mem_cons.mpr ⟨lw_p14, List.forall_mem_cons.mpr ⟨lw_p15, fun _ h => absurd h List.not_mem_nil⟩⟩⟩⟩⟩⟩⟩⟩⟩⟩⟩⟩⟩⟩⟩⟩
theorem lw_p16 : lw_okq (⟨"ExtentGroup", "isDisk", "(I)Z"⟩, 8) := ⟨⟨by decide +kernel, by decide +kernel⟩, List.mem_of_getElem? (i := 13) (by decide +kernel), List.mem_of_getElem? (i := 283) (by decide +kernel), List.mem_of_getElem? (i := 284) (by decide +kernel)⟩
theorem lw_p17 : lw_okq (⟨"ExtentGroup", "diskOf", "(I)LExtentGroup$Disk;"⟩, 8) := ⟨⟨by decide +kernel, by decide +kernel⟩, List.mem_of_getElem? (i := 13) (by decide +kernel), List.mem_of_getElem? (i := 287) (by decide +kernel), List.mem_of_getElem? (i := 288) (by decide +kernel)⟩
theorem lw_p18 : lw_okq (⟨"ExtentGroup", "cellAt", "(II)I"⟩, 8) := ⟨⟨by decide +kernel, by decide +kernel⟩, List.mem_of_getElem? (i := 13) (by decide +kernel), List.mem_of_getElem? (i := 336) (by decide +kernel), List.mem_of_getElem? (i := 337) (by decide +kernel)⟩
theorem lw_p19 : lw_okq (⟨"ExtentGroup", "putCell", "(III)Z"⟩, 8) := ⟨⟨by decide +kernel, by decide +kernel⟩, List.mem_of_getElem? (i := 13) (by decide +kernel), List.mem_of_getElem? (i := 340) (by decide +kernel), List.mem_of_getElem? (i := 341) (by decide +kernel)⟩
theorem lw_p20 : lw_okq (⟨"ExtentGroup", "copiedTo", "(III)I"⟩, 8) := ⟨⟨by decide +kernel, by decide +kernel⟩, List.mem_of_getElem? (i := 13) (by decide +kernel), List.mem_of_getElem? (i := 368) (by decide +kernel), List.mem_of_getElem? (i := 369) (by decide +kernel)⟩
theorem lw_p21 : lw_okq (⟨"ExtentGroup", "choose", "()LExtentGroup$Copy;"⟩, 8) := ⟨⟨by decide +kernel, by decide +kernel⟩, List.mem_of_getElem? (i := 13) (by decide +kernel), List.mem_of_getElem? (i := 392) (by decide +kernel), List.mem_of_getElem? (i := 393) (by decide +kernel)⟩
theorem lw_p22 : lw_okq (⟨"ExtentGroup", "presentHolders", "(LExtentGroup$Copy;)I"⟩, 8) := ⟨⟨by decide +kernel, by decide +kernel⟩, List.mem_of_getElem? (i := 13) (by decide +kernel), List.mem_of_getElem? (i := 396) (by decide +kernel), List.mem_of_getElem? (i := 397) (by decide +kernel)⟩
theorem lw_p23 : lw_okq (⟨"ExtentGroup", "bringTo", "(LExtentGroup$Disk;LExtentGroup$Copy;)Z"⟩, 8) := ⟨⟨by decide +kernel, by decide +kernel⟩, List.mem_of_getElem? (i := 13) (by decide +kernel), List.mem_of_getElem? (i := 401) (by decide +kernel), List.mem_of_getElem? (i := 402) (by decide +kernel)⟩
theorem lw_p24 : lw_okq (⟨"ExtentGroupModel", "few", "()Z"⟩, 15) := ⟨⟨by decide +kernel, by decide +kernel⟩, List.mem_of_getElem? (i := 432) (by decide +kernel), List.mem_of_getElem? (i := 488) (by decide +kernel), List.mem_of_getElem? (i := 489) (by decide +kernel)⟩
theorem lw_p25 : lw_okq (⟨"ExtentGroupModel", "quorum", "(I)Z"⟩, 15) := ⟨⟨by decide +kernel, by decide +kernel⟩, List.mem_of_getElem? (i := 432) (by decide +kernel), List.mem_of_getElem? (i := 492) (by decide +kernel), List.mem_of_getElem? (i := 493) (by decide +kernel)⟩
theorem lw_p26 : lw_okq (⟨"ExtentGroupModel", "rowsOf", "(II)I"⟩, 15) := ⟨⟨by decide +kernel, by decide +kernel⟩, List.mem_of_getElem? (i := 432) (by decide +kernel), List.mem_of_getElem? (i := 496) (by decide +kernel), List.mem_of_getElem? (i := 497) (by decide +kernel)⟩
theorem lw_p27 : lw_okq (⟨"ExtentGroupModel", "get", "(II)I"⟩, 15) := ⟨⟨by decide +kernel, by decide +kernel⟩, List.mem_of_getElem? (i := 432) (by decide +kernel), List.mem_of_getElem? (i := 500) (by decide +kernel), List.mem_of_getElem? (i := 501) (by decide +kernel)⟩
theorem lw_p28 : lw_okq (⟨"ExtentGroupModel", "copyMap", "(II)V"⟩, 15) := ⟨⟨by decide +kernel, by decide +kernel⟩, List.mem_of_getElem? (i := 432) (by decide +kernel), List.mem_of_getElem? (i := 504) (by decide +kernel), List.mem_of_getElem? (i := 505) (by decide +kernel)⟩
theorem lw_p29 : lw_okq (⟨"ExtentGroupModel", "set", "(III)V"⟩, 15) := ⟨⟨by decide +kernel, by decide +kernel⟩, List.mem_of_getElem? (i := 432) (by decide +kernel), List.mem_of_getElem? (i := 508) (by decide +kernel), List.mem_of_getElem? (i := 509) (by decide +kernel)⟩
theorem lw_p30 : lw_okq (⟨"ExtentGroupModel", "addRow", "(I)Z"⟩, 15) := ⟨⟨by decide +kernel, by decide +kernel⟩, List.mem_of_getElem? (i := 432) (by decide +kernel), List.mem_of_getElem? (i := 512) (by decide +kernel), List.mem_of_getElem? (i := 513) (by decide +kernel)⟩
theorem lw_p31 : lw_okq (⟨"ExtentGroupModel", "width", "(II)I"⟩, 15) := ⟨⟨by decide +kernel, by decide +kernel⟩, List.mem_of_getElem? (i := 432) (by decide +kernel), List.mem_of_getElem? (i := 516) (by decide +kernel), List.mem_of_getElem? (i := 517) (by decide +kernel)⟩
def lw_privs_2 : List (MethodName × Nat) := [(⟨"ExtentGroup", "isDisk", "(I)Z"⟩, 8), (⟨"ExtentGroup", "diskOf", "(I)LExtentGroup$Disk;"⟩, 8), (⟨"ExtentGroup", "cellAt", "(II)I"⟩, 8), (⟨"ExtentGroup", "putCell", "(III)Z"⟩, 8), (⟨"ExtentGroup", "copiedTo", "(III)I"⟩, 8), (⟨"ExtentGroup", "choose", "()LExtentGroup$Copy;"⟩, 8), (⟨"ExtentGroup", "presentHolders", "(LExtentGroup$Copy;)I"⟩, 8), (⟨"ExtentGroup", "bringTo", "(LExtentGroup$Disk;LExtentGroup$Copy;)Z"⟩, 8), (⟨"ExtentGroupModel", "few", "()Z"⟩, 15), (⟨"ExtentGroupModel", "quorum", "(I)Z"⟩, 15), (⟨"ExtentGroupModel", "rowsOf", "(II)I"⟩, 15), (⟨"ExtentGroupModel", "get", "(II)I"⟩, 15), (⟨"ExtentGroupModel", "copyMap", "(II)V"⟩, 15), (⟨"ExtentGroupModel", "set", "(III)V"⟩, 15), (⟨"ExtentGroupModel", "addRow", "(I)Z"⟩, 15), (⟨"ExtentGroupModel", "width", "(II)I"⟩, 15)]
theorem lw_r2 : ∀ q ∈ lw_privs_2, lw_okq q := List.forall_mem_cons.mpr ⟨lw_p16, List.forall_mem_cons.mpr ⟨lw_p17, List.forall_mem_cons.mpr ⟨lw_p18, List.forall_mem_cons.mpr ⟨lw_p19, List.forall_mem_cons.mpr ⟨lw_p20, List.forall_mem_cons.mpr ⟨lw_p21, List.forall_mem_cons.mpr ⟨lw_p22, List.forall_mem_cons.mpr ⟨lw_p23, List.forall_mem_cons.mpr ⟨lw_p24, List.forall_mem_cons.mpr ⟨lw_p25, List.forall_mem_cons.mpr ⟨lw_p26, List.forall_mem_cons.mpr ⟨lw_p27, List.forall_mem_cons.mpr ⟨lw_p28, List.forall_mem_cons.mpr ⟨lw_p29, List.forall_mem_cons.mpr ⟨lw_p30, List.forall_mem_cons.mpr ⟨lw_p31, fun _ h => absurd h List.not_mem_nil⟩⟩⟩⟩⟩⟩⟩⟩⟩⟩⟩⟩⟩⟩⟩⟩
theorem lw_p32 : lw_okq (⟨"ExtentGroupModel", "freeOf", "(II)I"⟩, 15) := ⟨⟨by decide +kernel, by decide +kernel⟩, List.mem_of_getElem? (i := 432) (by decide +kernel), List.mem_of_getElem? (i := 520) (by decide +kernel), List.mem_of_getElem? (i := 521) (by decide +kernel)⟩
theorem lw_p33 : lw_okq (⟨"ExtentGroupModel", "used", "(II)Z"⟩, 15) := ⟨⟨by decide +kernel, by decide +kernel⟩, List.mem_of_getElem? (i := 432) (by decide +kernel), List.mem_of_getElem? (i := 524) (by decide +kernel), List.mem_of_getElem? (i := 525) (by decide +kernel)⟩
theorem lw_p34 : lw_okq (⟨"ExtentGroupModel", "extentsOf", "(II)I"⟩, 15) := ⟨⟨by decide +kernel, by decide +kernel⟩, List.mem_of_getElem? (i := 432) (by decide +kernel), List.mem_of_getElem? (i := 528) (by decide +kernel), List.mem_of_getElem? (i := 529) (by decide +kernel)⟩
theorem lw_p35 : lw_okq (⟨"ExtentGroupModel", "before", "(I)I"⟩, 15) := ⟨⟨by decide +kernel, by decide +kernel⟩, List.mem_of_getElem? (i := 432) (by decide +kernel), List.mem_of_getElem? (i := 532) (by decide +kernel), List.mem_of_getElem? (i := 533) (by decide +kernel)⟩
theorem lw_p36 : lw_okq (⟨"ExtentGroupModel", "leastFree", "(II)I"⟩, 15) := ⟨⟨by decide +kernel, by decide +kernel⟩, List.mem_of_getElem? (i := 432) (by decide +kernel), List.mem_of_getElem? (i := 536) (by decide +kernel), List.mem_of_getElem? (i := 537) (by decide +kernel)⟩
theorem lw_p37 : lw_okq (⟨"ExtentGroupModel", "commit", "()Z"⟩, 15) := ⟨⟨by decide +kernel, by decide +kernel⟩, List.mem_of_getElem? (i := 432) (by decide +kernel), List.mem_of_getElem? (i := 540) (by decide +kernel), List.mem_of_getElem? (i := 541) (by decide +kernel)⟩
theorem lw_p38 : lw_okq (⟨"ExtentGroupModel", "slotBehind", "(I)I"⟩, 15) := ⟨⟨by decide +kernel, by decide +kernel⟩, List.mem_of_getElem? (i := 432) (by decide +kernel), List.mem_of_getElem? (i := 544) (by decide +kernel), List.mem_of_getElem? (i := 545) (by decide +kernel)⟩
theorem lw_p39 : lw_okq (⟨"ExtentGroupModel", "nextSlot", "(I)I"⟩, 15) := ⟨⟨by decide +kernel, by decide +kernel⟩, List.mem_of_getElem? (i := 432) (by decide +kernel), List.mem_of_getElem? (i := 548) (by decide +kernel), List.mem_of_getElem? (i := 549) (by decide +kernel)⟩
theorem lw_p40 : lw_okq (⟨"ExtentGroupModel", "writeCopy", "(IIII)Z"⟩, 15) := ⟨⟨by decide +kernel, by decide +kernel⟩, List.mem_of_getElem? (i := 432) (by decide +kernel), List.mem_of_getElem? (i := 552) (by decide +kernel), List.mem_of_getElem? (i := 553) (by decide +kernel)⟩
theorem lw_p41 : lw_okq (⟨"ExtentGroupModel", "stops", "()Z"⟩, 15) := ⟨⟨by decide +kernel, by decide +kernel⟩, List.mem_of_getElem? (i := 432) (by decide +kernel), List.mem_of_getElem? (i := 556) (by decide +kernel), List.mem_of_getElem? (i := 557) (by decide +kernel)⟩
theorem lw_p42 : lw_okq (⟨"ExtentGroupModel", "isVolume", "(I)Z"⟩, 15) := ⟨⟨by decide +kernel, by decide +kernel⟩, List.mem_of_getElem? (i := 432) (by decide +kernel), List.mem_of_getElem? (i := 564) (by decide +kernel), List.mem_of_getElem? (i := 565) (by decide +kernel)⟩
theorem lw_p43 : lw_okq (⟨"ExtentGroupModel", "isMoved", "(I)Z"⟩, 15) := ⟨⟨by decide +kernel, by decide +kernel⟩, List.mem_of_getElem? (i := 432) (by decide +kernel), List.mem_of_getElem? (i := 568) (by decide +kernel), List.mem_of_getElem? (i := 569) (by decide +kernel)⟩
theorem lw_p44 : lw_okq (⟨"ExtentGroupModel", "isExtent", "(II)Z"⟩, 15) := ⟨⟨by decide +kernel, by decide +kernel⟩, List.mem_of_getElem? (i := 432) (by decide +kernel), List.mem_of_getElem? (i := 580) (by decide +kernel), List.mem_of_getElem? (i := 581) (by decide +kernel)⟩
theorem lw_p45 : lw_okq (⟨"ExtentGroupModel", "source", "()I"⟩, 15) := ⟨⟨by decide +kernel, by decide +kernel⟩, List.mem_of_getElem? (i := 432) (by decide +kernel), List.mem_of_getElem? (i := 588) (by decide +kernel), List.mem_of_getElem? (i := 589) (by decide +kernel)⟩
theorem lw_p46 : lw_okq (⟨"ExtentGroupModel", "target", "()I"⟩, 15) := ⟨⟨by decide +kernel, by decide +kernel⟩, List.mem_of_getElem? (i := 432) (by decide +kernel), List.mem_of_getElem? (i := 592) (by decide +kernel), List.mem_of_getElem? (i := 593) (by decide +kernel)⟩
theorem lw_p47 : lw_okq (⟨"ExtentGroupModel", "cellAt", "(II)I"⟩, 15) := ⟨⟨by decide +kernel, by decide +kernel⟩, List.mem_of_getElem? (i := 432) (by decide +kernel), List.mem_of_getElem? (i := 596) (by decide +kernel), List.mem_of_getElem? (i := 597) (by decide +kernel)⟩
def lw_privs_3 : List (MethodName × Nat) := [(⟨"ExtentGroupModel", "freeOf", "(II)I"⟩, 15), (⟨"ExtentGroupModel", "used", "(II)Z"⟩, 15), (⟨"ExtentGroupModel", "extentsOf", "(II)I"⟩, 15), (⟨"ExtentGroupModel", "before", "(I)I"⟩, 15), (⟨"ExtentGroupModel", "leastFree", "(II)I"⟩, 15), (⟨"ExtentGroupModel", "commit", "()Z"⟩, 15), (⟨"ExtentGroupModel", "slotBehind", "(I)I"⟩, 15), (⟨"ExtentGroupModel", "nextSlot", "(I)I"⟩, 15), (⟨"ExtentGroupModel", "writeCopy", "(IIII)Z"⟩, 15), (⟨"ExtentGroupModel", "stops", "()Z"⟩, 15), (⟨"ExtentGroupModel", "isVolume", "(I)Z"⟩, 15), (⟨"ExtentGroupModel", "isMoved", "(I)Z"⟩, 15), (⟨"ExtentGroupModel", "isExtent", "(II)Z"⟩, 15), (⟨"ExtentGroupModel", "source", "()I"⟩, 15), (⟨"ExtentGroupModel", "target", "()I"⟩, 15), (⟨"ExtentGroupModel", "cellAt", "(II)I"⟩, 15)]
theorem lw_r3 : ∀ q ∈ lw_privs_3, lw_okq q := List.forall_mem_cons.mpr ⟨lw_p32, List.forall_mem_cons.mpr ⟨lw_p33, List.forall_mem_cons.mpr ⟨lw_p34, List.forall_mem_cons.mpr ⟨lw_p35, List.forall_mem_cons.mpr ⟨lw_p36, List.forall_mem_cons.mpr ⟨lw_p37, List.forall_mem_cons.mpr ⟨lw_p38, List.forall_mem_cons.mpr ⟨lw_p39, List.forall_mem_cons.mpr ⟨lw_p40, List.forall_mem_cons.mpr ⟨lw_p41, List.forall_mem_cons.mpr ⟨lw_p42, List.forall_mem_cons.mpr ⟨lw_p43, List.forall_mem_cons.mpr ⟨lw_p44, List.forall_mem_cons.mpr ⟨lw_p45, List.forall_mem_cons.mpr ⟨lw_p46, List.forall_mem_cons.mpr ⟨lw_p47, fun _ h => absurd h List.not_mem_nil⟩⟩⟩⟩⟩⟩⟩⟩⟩⟩⟩⟩⟩⟩⟩⟩
theorem lw_p48 : lw_okq (⟨"ExtentGroupModel", "isBlock", "(II)Z"⟩, 15) := ⟨⟨by decide +kernel, by decide +kernel⟩, List.mem_of_getElem? (i := 432) (by decide +kernel), List.mem_of_getElem? (i := 608) (by decide +kernel), List.mem_of_getElem? (i := 609) (by decide +kernel)⟩
theorem lw_p49 : lw_okq (⟨"ExtentGroupModel", "extentOf", "(II)I"⟩, 15) := ⟨⟨by decide +kernel, by decide +kernel⟩, List.mem_of_getElem? (i := 432) (by decide +kernel), List.mem_of_getElem? (i := 612) (by decide +kernel), List.mem_of_getElem? (i := 613) (by decide +kernel)⟩
theorem lw_p50 : lw_okq (⟨"ExtentGroupModel", "cellOf", "(II)I"⟩, 15) := ⟨⟨by decide +kernel, by decide +kernel⟩, List.mem_of_getElem? (i := 432) (by decide +kernel), List.mem_of_getElem? (i := 616) (by decide +kernel), List.mem_of_getElem? (i := 617) (by decide +kernel)⟩
theorem lw_p51 : lw_okq (⟨"ExtentGroupModel", "isDisk", "(I)Z"⟩, 15) := ⟨⟨by decide +kernel, by decide +kernel⟩, List.mem_of_getElem? (i := 432) (by decide +kernel), List.mem_of_getElem? (i := 628) (by decide +kernel), List.mem_of_getElem? (i := 629) (by decide +kernel)⟩
theorem lw_p52 : lw_okq (⟨"ExtentGroupModel", "choose", "()I"⟩, 15) := ⟨⟨by decide +kernel, by decide +kernel⟩, List.mem_of_getElem? (i := 432) (by decide +kernel), List.mem_of_getElem? (i := 648) (by decide +kernel), List.mem_of_getElem? (i := 649) (by decide +kernel)⟩
theorem lw_p53 : lw_okq (⟨"ExtentGroupModel", "holds", "(III)Z"⟩, 15) := ⟨⟨by decide +kernel, by decide +kernel⟩, List.mem_of_getElem? (i := 432) (by decide +kernel), List.mem_of_getElem? (i := 652) (by decide +kernel), List.mem_of_getElem? (i := 653) (by decide +kernel)⟩
theorem lw_p54 : lw_okq (⟨"ExtentGroupModel", "settle", "(III)Z"⟩, 15) := ⟨⟨by decide +kernel, by decide +kernel⟩, List.mem_of_getElem? (i := 432) (by decide +kernel), List.mem_of_getElem? (i := 656) (by decide +kernel), List.mem_of_getElem? (i := 657) (by decide +kernel)⟩
def lw_privs_4 : List (MethodName × Nat) := [(⟨"ExtentGroupModel", "isBlock", "(II)Z"⟩, 15), (⟨"ExtentGroupModel", "extentOf", "(II)I"⟩, 15), (⟨"ExtentGroupModel", "cellOf", "(II)I"⟩, 15), (⟨"ExtentGroupModel", "isDisk", "(I)Z"⟩, 15), (⟨"ExtentGroupModel", "choose", "()I"⟩, 15), (⟨"ExtentGroupModel", "holds", "(III)Z"⟩, 15), (⟨"ExtentGroupModel", "settle", "(III)Z"⟩, 15)]
theorem lw_r4 : ∀ q ∈ lw_privs_4, lw_okq q := List.forall_mem_cons.mpr ⟨lw_p48, List.forall_mem_cons.mpr ⟨lw_p49, List.forall_mem_cons.mpr ⟨lw_p50, List.forall_mem_cons.mpr ⟨lw_p51, List.forall_mem_cons.mpr ⟨lw_p52, List.forall_mem_cons.mpr ⟨lw_p53, List.forall_mem_cons.mpr ⟨lw_p54, fun _ h => absurd h List.not_mem_nil⟩⟩⟩⟩⟩⟩⟩
def lw_privs : List (MethodName × Nat) := lw_privs_1 ++ (lw_privs_2 ++ (lw_privs_3 ++ (lw_privs_4)))
def lw_tbl : List Cond := k2_sels lw_privs ++ tables_1
theorem lw_privs_ok : ∀ q ∈ lw_privs, lw_okq q := by
  show ∀ q ∈ lw_privs_1 ++ (lw_privs_2 ++ (lw_privs_3 ++ (lw_privs_4))), lw_okq q
  exact List.forall_mem_append.mpr ⟨lw_r1, List.forall_mem_append.mpr ⟨lw_r2, List.forall_mem_append.mpr ⟨lw_r3, lw_r4⟩⟩⟩
end
section
/-! Names, by program out of the Statement: classes R_, fields T_, types ty_, methods y_ with their code c_; the words that a
contract may use: all of the tables' words that stand. -/
def WS : List Cond := lw_tbl.filter goodWord
theorem ws_at {w : Cond} (i : Nat) (h : lw_tbl[i]? = some w) (g : goodWord w = true) : w ∈ WS := List.mem_filter.mpr ⟨List.mem_of_getElem? h, g⟩
theorem ws_good : ∀ w ∈ WS, goodWord w = true := fun _ h => (List.mem_filter.mp h).2
theorem ws_in {c0 c1 : Cond} (h : c1 ∈ WS) : GoodIn (c0 :: WS) (c1 :: WS) := fun w hw => by
  have hm : w ∈ WS := by
    rcases List.mem_cons.mp hw with rfl | h1
    · exact h
    · exact h1
  exact ⟨List.mem_cons_of_mem _ hm, good_of_word (ws_good w hm)⟩
def R_E : String := "ExtentGroup"
def R_C : String := "ExtentGroup$Copy"
def R_D : String := "ExtentGroup$Disk"
def R_L : String := "ExtentGroup$Layout"
def R_V : String := "ExtentGroup$Move"
def R_U : String := "ExtentGroup$Volume"
def R_M : String := "ExtentGroupModel"
def R_W : String := "ExtentGroupLaw"
def R_JI : String := "java/lang/Integer"
def R_JM : String := "java/lang/Math"
def R_JA : String := "java/util/Arrays"
def R_JO : String := "java/lang/Object"
def R_JS : String := "java/lang/System"
def T_C : u_T := fun k => match k with
  | 0 => ("ExtentGroup$Copy", "number", "I", true)
  | 1 => ("ExtentGroup$Copy", "stamp", "I", true)
  | _ => ("ExtentGroup$Copy", "layout", "LExtentGroup$Layout;", true)
def ty_C : Nat → FieldType := fun k => match k with
  | 0 => .int
  | 1 => .int
  | _ => .object "ExtentGroup$Layout"
theorem nm_C : ∀ a, a < 3 → ∀ b, b < 3 → a ≠ b → (T_C a).2.1 ≠ (T_C b).2.1 := by decide +kernel
theorem ty_C_ok : ∀ k, k < 3 → parseFieldDescriptor (T_C k).2.2.1 = some (ty_C k) := by decide +kernel
set_option maxRecDepth 100000 in
theorem in_C : ∀ w ∈ u_ws R_C T_C 3, w ∈ WS := by
  intro w hw
  obtain ⟨k, hk, rfl⟩ := List.mem_map.mp hw
  have hk : k < 3 := List.mem_range.mp hk
  rcases (show k = 0 ∨ k = 1 ∨ k = 2 by omega) with rfl | rfl | rfl
  · exact ws_at 109 rfl rfl
  · exact ws_at 111 rfl rfl
  · exact ws_at 113 rfl rfl
def T_D : u_T := fun k => match k with
  | 0 => ("ExtentGroup$Disk", "cells", "[I", true)
  | 1 => ("ExtentGroup$Disk", "copies", "[LExtentGroup$Copy;", true)
  | 2 => ("ExtentGroup$Disk", "isTorn", "[Z", true)
  | 3 => ("ExtentGroup$Disk", "nextSlot", "I", false)
  | _ => ("ExtentGroup$Disk", "isPresent", "Z", false)
def ty_D : Nat → FieldType := fun k => match k with
  | 0 => (.array .int)
  | 1 => (.array (.object "ExtentGroup$Copy"))
  | 2 => (.array .boolean)
  | 3 => .int
  | _ => .boolean
theorem nm_D : ∀ a, a < 5 → ∀ b, b < 5 → a ≠ b → (T_D a).2.1 ≠ (T_D b).2.1 := by decide +kernel
theorem ty_D_ok : ∀ k, k < 5 → parseFieldDescriptor (T_D k).2.2.1 = some (ty_D k) := by decide +kernel
set_option maxRecDepth 100000 in
theorem in_D : ∀ w ∈ u_ws R_D T_D 5, w ∈ WS := by
  intro w hw
  obtain ⟨k, hk, rfl⟩ := List.mem_map.mp hw
  have hk : k < 5 := List.mem_range.mp hk
  rcases (show k = 0 ∨ k = 1 ∨ k = 2 ∨ k = 3 ∨ k = 4 by omega) with rfl | rfl | rfl | rfl | rfl
  · exact ws_at 135 rfl rfl
  · exact ws_at 137 rfl rfl
  · exact ws_at 139 rfl rfl
  · exact ws_at 141 rfl rfl
  · exact ws_at 143 rfl rfl
def T_L : u_T := fun k => match k with
  | 0 => ("ExtentGroup$Layout", "volumes", "[LExtentGroup$Volume;", true)
  | _ => ("ExtentGroup$Layout", "move", "LExtentGroup$Move;", true)
def ty_L : Nat → FieldType := fun k => match k with
  | 0 => (.array (.object "ExtentGroup$Volume"))
  | _ => .object "ExtentGroup$Move"
theorem nm_L : ∀ a, a < 2 → ∀ b, b < 2 → a ≠ b → (T_L a).2.1 ≠ (T_L b).2.1 := by decide +kernel
theorem ty_L_ok : ∀ k, k < 2 → parseFieldDescriptor (T_L k).2.2.1 = some (ty_L k) := by decide +kernel
set_option maxRecDepth 100000 in
theorem in_L : ∀ w ∈ u_ws R_L T_L 2, w ∈ WS := by
  intro w hw
  obtain ⟨k, hk, rfl⟩ := List.mem_map.mp hw
  have hk : k < 2 := List.mem_range.mp hk
  rcases (show k = 0 ∨ k = 1 by omega) with rfl | rfl
  · exact ws_at 94 rfl rfl
  · exact ws_at 96 rfl rfl
def T_U : u_T := fun k => match k with
  | 0 => ("ExtentGroup$Volume", "width", "I", true)
  | 1 => ("ExtentGroup$Volume", "chunk", "I", true)
  | 2 => ("ExtentGroup$Volume", "rowCount", "I", true)
  | _ => ("ExtentGroup$Volume", "places", "[I", true)
def ty_U : Nat → FieldType := fun k => match k with
  | 0 => .int
  | 1 => .int
  | 2 => .int
  | _ => (.array .int)
theorem nm_U : ∀ a, a < 4 → ∀ b, b < 4 → a ≠ b → (T_U a).2.1 ≠ (T_U b).2.1 := by decide +kernel
theorem ty_U_ok : ∀ k, k < 4 → parseFieldDescriptor (T_U k).2.2.1 = some (ty_U k) := by decide +kernel
set_option maxRecDepth 100000 in
theorem in_U : ∀ w ∈ u_ws R_U T_U 4, w ∈ WS := by
  intro w hw
  obtain ⟨k, hk, rfl⟩ := List.mem_map.mp hw
  have hk : k < 4 := List.mem_range.mp hk
  rcases (show k = 0 ∨ k = 1 ∨ k = 2 ∨ k = 3 by omega) with rfl | rfl | rfl | rfl
  · exact ws_at 204 rfl rfl
  · exact ws_at 206 rfl rfl
  · exact ws_at 208 rfl rfl
  · exact ws_at 210 rfl rfl
def T_E : u_T := fun k => match k with
  | 0 => ("ExtentGroup", "extentCount", "I", true)
  | 1 => ("ExtentGroup", "disks", "[LExtentGroup$Disk;", true)
  | 2 => ("ExtentGroup", "taken", "[I", true)
  | 3 => ("ExtentGroup", "present", "LExtentGroup$Copy;", false)
  | 4 => ("ExtentGroup", "copied", "I", false)
  | 5 => ("ExtentGroup", "lastStamp", "I", false)
  | 6 => ("ExtentGroup", "up", "Z", false)
  | _ => ("ExtentGroup", "actsBeforeStop", "I", false)
def ty_E : Nat → FieldType := fun k => match k with
  | 0 => .int
  | 1 => (.array (.object "ExtentGroup$Disk"))
  | 2 => (.array .int)
  | 3 => .object "ExtentGroup$Copy"
  | 4 => .int
  | 5 => .int
  | 6 => .boolean
  | _ => .int
theorem nm_E : ∀ a, a < 8 → ∀ b, b < 8 → a ≠ b → (T_E a).2.1 ≠ (T_E b).2.1 := by decide +kernel
theorem ty_E_ok : ∀ k, k < 8 → parseFieldDescriptor (T_E k).2.2.1 = some (ty_E k) := by decide +kernel
set_option maxRecDepth 100000 in
theorem in_E : ∀ w ∈ u_ws R_E T_E 8, w ∈ WS := by
  intro w hw
  obtain ⟨k, hk, rfl⟩ := List.mem_map.mp hw
  have hk : k < 8 := List.mem_range.mp hk
  rcases (show k = 0 ∨ k = 1 ∨ k = 2 ∨ k = 3 ∨ k = 4 ∨ k = 5 ∨ k = 6 ∨ k = 7 by omega) with rfl | rfl | rfl | rfl | rfl | rfl | rfl | rfl
  · exact ws_at 156 rfl rfl
  · exact ws_at 158 rfl rfl
  · exact ws_at 160 rfl rfl
  · exact ws_at 162 rfl rfl
  · exact ws_at 164 rfl rfl
  · exact ws_at 166 rfl rfl
  · exact ws_at 168 rfl rfl
  · exact ws_at 170 rfl rfl
def T_V : u_T := fun k => match k with
  | 0 => ("ExtentGroup$Move", "volume", "I", true)
  | 1 => ("ExtentGroup$Move", "extent", "I", true)
  | 2 => ("ExtentGroup$Move", "source", "I", true)
  | _ => ("ExtentGroup$Move", "target", "I", true)
def ty_V : Nat → FieldType := fun k => match k with
  | 0 => .int
  | 1 => .int
  | 2 => .int
  | _ => .int
theorem nm_V : ∀ a, a < 4 → ∀ b, b < 4 → a ≠ b → (T_V a).2.1 ≠ (T_V b).2.1 := by decide +kernel
theorem ty_V_ok : ∀ k, k < 4 → parseFieldDescriptor (T_V k).2.2.1 = some (ty_V k) := by decide +kernel
set_option maxRecDepth 100000 in
theorem in_V : ∀ w ∈ u_ws R_V T_V 4, w ∈ WS := by
  intro w hw
  obtain ⟨k, hk, rfl⟩ := List.mem_map.mp hw
  have hk : k < 4 := List.mem_range.mp hk
  rcases (show k = 0 ∨ k = 1 ∨ k = 2 ∨ k = 3 by omega) with rfl | rfl | rfl | rfl
  · exact ws_at 362 rfl rfl
  · exact ws_at 364 rfl rfl
  · exact ws_at 366 rfl rfl
  · exact ws_at 368 rfl rfl
def T_M : u_T := fun k => match k with
  | 0 => ("ExtentGroupModel", "n", "I", true)
  | 1 => ("ExtentGroupModel", "extents", "I", true)
  | 2 => ("ExtentGroupModel", "here", "[Z", true)
  | 3 => ("ExtentGroupModel", "cell", "[I", true)
  | 4 => ("ExtentGroupModel", "maps", "[I", true)
  | 5 => ("ExtentGroupModel", "slotNumber", "[I", true)
  | 6 => ("ExtentGroupModel", "slotStamp", "[I", true)
  | 7 => ("ExtentGroupModel", "written", "[I", true)
  | 8 => ("ExtentGroupModel", "number", "I", false)
  | 9 => ("ExtentGroupModel", "stamp", "I", false)
  | 10 => ("ExtentGroupModel", "stamps", "I", false)
  | 11 => ("ExtentGroupModel", "up", "Z", false)
  | 12 => ("ExtentGroupModel", "copied", "I", false)
  | 13 => ("ExtentGroupModel", "armed", "Z", false)
  | _ => ("ExtentGroupModel", "until", "I", false)
def ty_M : Nat → FieldType := fun k => match k with
  | 0 => .int
  | 1 => .int
  | 2 => (.array .boolean)
  | 3 => (.array .int)
  | 4 => (.array .int)
  | 5 => (.array .int)
  | 6 => (.array .int)
  | 7 => (.array .int)
  | 8 => .int
  | 9 => .int
  | 10 => .int
  | 11 => .boolean
  | 12 => .int
  | 13 => .boolean
  | _ => .int
theorem nm_M : ∀ a, a < 15 → ∀ b, b < 15 → a ≠ b → (T_M a).2.1 ≠ (T_M b).2.1 := by decide +kernel
theorem ty_M_ok : ∀ k, k < 15 → parseFieldDescriptor (T_M k).2.2.1 = some (ty_M k) := by decide +kernel
set_option maxRecDepth 100000 in
theorem in_M : ∀ w ∈ u_ws R_M T_M 15, w ∈ WS := by
  intro w hw
  obtain ⟨k, hk, rfl⟩ := List.mem_map.mp hw
  have hk : k < 15 := List.mem_range.mp hk
  rcases (show k = 0 ∨ k = 1 ∨ k = 2 ∨ k = 3 ∨ k = 4 ∨ k = 5 ∨ k = 6 ∨ k = 7 ∨ k = 8 ∨ k = 9 ∨ k = 10 ∨ k = 11 ∨ k = 12 ∨ k = 13 ∨ k = 14 by omega) with rfl | rfl | rfl | rfl | rfl | rfl | rfl | rfl | rfl | rfl | rfl | rfl | rfl | rfl | rfl
  · exact ws_at 507 rfl rfl
  · exact ws_at 509 rfl rfl
  · exact ws_at 511 rfl rfl
  · exact ws_at 513 rfl rfl
  · exact ws_at 515 rfl rfl
  · exact ws_at 517 rfl rfl
  · exact ws_at 519 rfl rfl
  · exact ws_at 521 rfl rfl
  · exact ws_at 523 rfl rfl
  · exact ws_at 525 rfl rfl
  · exact ws_at 527 rfl rfl
  · exact ws_at 529 rfl rfl
  · exact ws_at 531 rfl rfl
  · exact ws_at 533 rfl rfl
  · exact ws_at 535 rfl rfl
abbrev vcl : List vw_C := [(R_C, T_C, 3), (R_D, T_D, 5), (R_L, T_L, 2), (R_U, T_U, 4), (R_E, T_E, 8), (R_V, T_V, 4), (R_M, T_M, 15)]
abbrev c_E_init : ByteArray := prog_1_method_1_code
def y_E_init : MethodName := ⟨R_E, "<init>", "(II)V"⟩
theorem hd_E_init : y_E_init.cls = R_E ∧ y_E_init.cls ≠ "java/lang/invoke/MethodHandle" ∧ y_E_init.cls ≠ "java/lang/invoke/VarHandle" ∧ (parseMethodDescriptor y_E_init.desc).map (fun d => d.parameters.length) = some 2 := ⟨rfl, by decide +kernel, by decide +kernel, by decide +kernel⟩
abbrev c_JM_max : ByteArray := prog_11_method_65_code
def y_JM_max : MethodName := ⟨R_JM, "max", "(II)I"⟩
theorem hd_JM_max : y_JM_max.cls = R_JM ∧ y_JM_max.cls ≠ "java/lang/invoke/MethodHandle" ∧ y_JM_max.cls ≠ "java/lang/invoke/VarHandle" ∧ (parseMethodDescriptor y_JM_max.desc).map (fun d => d.parameters.length) = some 2 := ⟨rfl, by decide +kernel, by decide +kernel, by decide +kernel⟩
abbrev c_JM_min : ByteArray := prog_11_method_69_code
def y_JM_min : MethodName := ⟨R_JM, "min", "(II)I"⟩
theorem hd_JM_min : y_JM_min.cls = R_JM ∧ y_JM_min.cls ≠ "java/lang/invoke/MethodHandle" ∧ y_JM_min.cls ≠ "java/lang/invoke/VarHandle" ∧ (parseMethodDescriptor y_JM_min.desc).map (fun d => d.parameters.length) = some 2 := ⟨rfl, by decide +kernel, by decide +kernel, by decide +kernel⟩
abbrev c_L_init : ByteArray := prog_4_method_1_code
def y_L_init : MethodName := ⟨R_L, "<init>", "([LExtentGroup$Volume;LExtentGroup$Move;)V"⟩
theorem hd_L_init : y_L_init.cls = R_L ∧ y_L_init.cls ≠ "java/lang/invoke/MethodHandle" ∧ y_L_init.cls ≠ "java/lang/invoke/VarHandle" ∧ (parseMethodDescriptor y_L_init.desc).map (fun d => d.parameters.length) = some 2 := ⟨rfl, by decide +kernel, by decide +kernel, by decide +kernel⟩
abbrev c_C_init : ByteArray := prog_2_method_1_code
def y_C_init : MethodName := ⟨R_C, "<init>", "(IILExtentGroup$Layout;)V"⟩
theorem hd_C_init : y_C_init.cls = R_C ∧ y_C_init.cls ≠ "java/lang/invoke/MethodHandle" ∧ y_C_init.cls ≠ "java/lang/invoke/VarHandle" ∧ (parseMethodDescriptor y_C_init.desc).map (fun d => d.parameters.length) = some 3 := ⟨rfl, by decide +kernel, by decide +kernel, by decide +kernel⟩
abbrev c_D_init : ByteArray := prog_3_method_1_code
def y_D_init : MethodName := ⟨R_D, "<init>", "(ILExtentGroup$Copy;)V"⟩
theorem hd_D_init : y_D_init.cls = R_D ∧ y_D_init.cls ≠ "java/lang/invoke/MethodHandle" ∧ y_D_init.cls ≠ "java/lang/invoke/VarHandle" ∧ (parseMethodDescriptor y_D_init.desc).map (fun d => d.parameters.length) = some 2 := ⟨rfl, by decide +kernel, by decide +kernel, by decide +kernel⟩
abbrev c_E_create : ByteArray := prog_1_method_2_code
def y_E_create : MethodName := ⟨R_E, "create", "(III)I"⟩
theorem hd_E_create : y_E_create.cls = R_E ∧ y_E_create.cls ≠ "java/lang/invoke/MethodHandle" ∧ y_E_create.cls ≠ "java/lang/invoke/VarHandle" ∧ (parseMethodDescriptor y_E_create.desc).map (fun d => d.parameters.length) = some 3 := ⟨rfl, by decide +kernel, by decide +kernel, by decide +kernel⟩
abbrev c_E_isShape : ByteArray := prog_1_method_21_code
def y_E_isShape : MethodName := ⟨R_E, "isShape", "(II)Z"⟩
theorem hd_E_isShape : y_E_isShape.cls = R_E ∧ y_E_isShape.cls ≠ "java/lang/invoke/MethodHandle" ∧ y_E_isShape.cls ≠ "java/lang/invoke/VarHandle" ∧ (parseMethodDescriptor y_E_isShape.desc).map (fun d => d.parameters.length) = some 2 := ⟨rfl, by decide +kernel, by decide +kernel, by decide +kernel⟩
abbrev c_E_isFew : ByteArray := prog_1_method_24_code
def y_E_isFew : MethodName := ⟨R_E, "isFew", "()Z"⟩
theorem hd_E_isFew : y_E_isFew.cls = R_E ∧ y_E_isFew.cls ≠ "java/lang/invoke/MethodHandle" ∧ y_E_isFew.cls ≠ "java/lang/invoke/VarHandle" ∧ (parseMethodDescriptor y_E_isFew.desc).map (fun d => d.parameters.length) = some 0 := ⟨rfl, by decide +kernel, by decide +kernel, by decide +kernel⟩
abbrev c_E_isQuorum : ByteArray := prog_1_method_25_code
def y_E_isQuorum : MethodName := ⟨R_E, "isQuorum", "(I)Z"⟩
theorem hd_E_isQuorum : y_E_isQuorum.cls = R_E ∧ y_E_isQuorum.cls ≠ "java/lang/invoke/MethodHandle" ∧ y_E_isQuorum.cls ≠ "java/lang/invoke/VarHandle" ∧ (parseMethodDescriptor y_E_isQuorum.desc).map (fun d => d.parameters.length) = some 1 := ⟨rfl, by decide +kernel, by decide +kernel, by decide +kernel⟩
abbrev c_L_leastAbsent : ByteArray := prog_4_method_3_code
def y_L_leastAbsent : MethodName := ⟨R_L, "leastAbsent", "()I"⟩
theorem hd_L_leastAbsent : y_L_leastAbsent.cls = R_L ∧ y_L_leastAbsent.cls ≠ "java/lang/invoke/MethodHandle" ∧ y_L_leastAbsent.cls ≠ "java/lang/invoke/VarHandle" ∧ (parseMethodDescriptor y_L_leastAbsent.desc).map (fun d => d.parameters.length) = some 0 := ⟨rfl, by decide +kernel, by decide +kernel, by decide +kernel⟩
abbrev c_U_init : ByteArray := prog_6_method_1_code
def y_U_init : MethodName := ⟨R_U, "<init>", "(III[I)V"⟩
theorem hd_U_init : y_U_init.cls = R_U ∧ y_U_init.cls ≠ "java/lang/invoke/MethodHandle" ∧ y_U_init.cls ≠ "java/lang/invoke/VarHandle" ∧ (parseMethodDescriptor y_U_init.desc).map (fun d => d.parameters.length) = some 4 := ⟨rfl, by decide +kernel, by decide +kernel, by decide +kernel⟩
abbrev c_E_takeRows : ByteArray := prog_1_method_41_code
def y_E_takeRows : MethodName := ⟨R_E, "takeRows", "(LExtentGroup$Volume;I)Z"⟩
theorem hd_E_takeRows : y_E_takeRows.cls = R_E ∧ y_E_takeRows.cls ≠ "java/lang/invoke/MethodHandle" ∧ y_E_takeRows.cls ≠ "java/lang/invoke/VarHandle" ∧ (parseMethodDescriptor y_E_takeRows.desc).map (fun d => d.parameters.length) = some 2 := ⟨rfl, by decide +kernel, by decide +kernel, by decide +kernel⟩
abbrev c_E_markTaken : ByteArray := prog_1_method_37_code
def y_E_markTaken : MethodName := ⟨R_E, "markTaken", "()V"⟩
theorem hd_E_markTaken : y_E_markTaken.cls = R_E ∧ y_E_markTaken.cls ≠ "java/lang/invoke/MethodHandle" ∧ y_E_markTaken.cls ≠ "java/lang/invoke/VarHandle" ∧ (parseMethodDescriptor y_E_markTaken.desc).map (fun d => d.parameters.length) = some 0 := ⟨rfl, by decide +kernel, by decide +kernel, by decide +kernel⟩
abbrev c_JA_fill : ByteArray := prog_13_method_103_code
def y_JA_fill : MethodName := ⟨R_JA, "fill", "([II)V"⟩
theorem hd_JA_fill : y_JA_fill.cls = R_JA ∧ y_JA_fill.cls ≠ "java/lang/invoke/MethodHandle" ∧ y_JA_fill.cls ≠ "java/lang/invoke/VarHandle" ∧ (parseMethodDescriptor y_JA_fill.desc).map (fun d => d.parameters.length) = some 2 := ⟨rfl, by decide +kernel, by decide +kernel, by decide +kernel⟩
abbrev c_L_volumeAt : ByteArray := prog_4_method_2_code
def y_L_volumeAt : MethodName := ⟨R_L, "volumeAt", "(I)LExtentGroup$Volume;"⟩
theorem hd_L_volumeAt : y_L_volumeAt.cls = R_L ∧ y_L_volumeAt.cls ≠ "java/lang/invoke/MethodHandle" ∧ y_L_volumeAt.cls ≠ "java/lang/invoke/VarHandle" ∧ (parseMethodDescriptor y_L_volumeAt.desc).map (fun d => d.parameters.length) = some 1 := ⟨rfl, by decide +kernel, by decide +kernel, by decide +kernel⟩
abbrev c_E_take : ByteArray := prog_1_method_38_code
def y_E_take : MethodName := ⟨R_E, "take", "(I)V"⟩
theorem hd_E_take : y_E_take.cls = R_E ∧ y_E_take.cls ≠ "java/lang/invoke/MethodHandle" ∧ y_E_take.cls ≠ "java/lang/invoke/VarHandle" ∧ (parseMethodDescriptor y_E_take.desc).map (fun d => d.parameters.length) = some 1 := ⟨rfl, by decide +kernel, by decide +kernel, by decide +kernel⟩
abbrev c_E_pickDisks : ByteArray := prog_1_method_42_code
def y_E_pickDisks : MethodName := ⟨R_E, "pickDisks", "(I)I"⟩
theorem hd_E_pickDisks : y_E_pickDisks.cls = R_E ∧ y_E_pickDisks.cls ≠ "java/lang/invoke/MethodHandle" ∧ y_E_pickDisks.cls ≠ "java/lang/invoke/VarHandle" ∧ (parseMethodDescriptor y_E_pickDisks.desc).map (fun d => d.parameters.length) = some 1 := ⟨rfl, by decide +kernel, by decide +kernel, by decide +kernel⟩
abbrev c_E_roomiest : ByteArray := prog_1_method_43_code
def y_E_roomiest : MethodName := ⟨R_E, "roomiest", "(I)I"⟩
theorem hd_E_roomiest : y_E_roomiest.cls = R_E ∧ y_E_roomiest.cls ≠ "java/lang/invoke/MethodHandle" ∧ y_E_roomiest.cls ≠ "java/lang/invoke/VarHandle" ∧ (parseMethodDescriptor y_E_roomiest.desc).map (fun d => d.parameters.length) = some 1 := ⟨rfl, by decide +kernel, by decide +kernel, by decide +kernel⟩
abbrev c_E_freeCount : ByteArray := prog_1_method_39_code
def y_E_freeCount : MethodName := ⟨R_E, "freeCount", "(I)I"⟩
theorem hd_E_freeCount : y_E_freeCount.cls = R_E ∧ y_E_freeCount.cls ≠ "java/lang/invoke/MethodHandle" ∧ y_E_freeCount.cls ≠ "java/lang/invoke/VarHandle" ∧ (parseMethodDescriptor y_E_freeCount.desc).map (fun d => d.parameters.length) = some 1 := ⟨rfl, by decide +kernel, by decide +kernel, by decide +kernel⟩
abbrev c_JI_bitCount : ByteArray := prog_10_method_49_code
def y_JI_bitCount : MethodName := ⟨R_JI, "bitCount", "(I)I"⟩
theorem hd_JI_bitCount : y_JI_bitCount.cls = R_JI ∧ y_JI_bitCount.cls ≠ "java/lang/invoke/MethodHandle" ∧ y_JI_bitCount.cls ≠ "java/lang/invoke/VarHandle" ∧ (parseMethodDescriptor y_JI_bitCount.desc).map (fun d => d.parameters.length) = some 1 := ⟨rfl, by decide +kernel, by decide +kernel, by decide +kernel⟩
abbrev c_E_takeRow : ByteArray := prog_1_method_44_code
def y_E_takeRow : MethodName := ⟨R_E, "takeRow", "(I[II)V"⟩
theorem hd_E_takeRow : y_E_takeRow.cls = R_E ∧ y_E_takeRow.cls ≠ "java/lang/invoke/MethodHandle" ∧ y_E_takeRow.cls ≠ "java/lang/invoke/VarHandle" ∧ (parseMethodDescriptor y_E_takeRow.desc).map (fun d => d.parameters.length) = some 3 := ⟨rfl, by decide +kernel, by decide +kernel, by decide +kernel⟩
abbrev c_E_leastFree : ByteArray := prog_1_method_40_code
def y_E_leastFree : MethodName := ⟨R_E, "leastFree", "(I)I"⟩
theorem hd_E_leastFree : y_E_leastFree.cls = R_E ∧ y_E_leastFree.cls ≠ "java/lang/invoke/MethodHandle" ∧ y_E_leastFree.cls ≠ "java/lang/invoke/VarHandle" ∧ (parseMethodDescriptor y_E_leastFree.desc).map (fun d => d.parameters.length) = some 1 := ⟨rfl, by decide +kernel, by decide +kernel, by decide +kernel⟩
abbrev c_L_withVolume : ByteArray := prog_4_method_4_code
def y_L_withVolume : MethodName := ⟨R_L, "withVolume", "(ILExtentGroup$Volume;)LExtentGroup$Layout;"⟩
theorem hd_L_withVolume : y_L_withVolume.cls = R_L ∧ y_L_withVolume.cls ≠ "java/lang/invoke/MethodHandle" ∧ y_L_withVolume.cls ≠ "java/lang/invoke/VarHandle" ∧ (parseMethodDescriptor y_L_withVolume.desc).map (fun d => d.parameters.length) = some 2 := ⟨rfl, by decide +kernel, by decide +kernel, by decide +kernel⟩
abbrev c_L_volumesWith : ByteArray := prog_4_method_7_code
def y_L_volumesWith : MethodName := ⟨R_L, "volumesWith", "(ILExtentGroup$Volume;)[LExtentGroup$Volume;"⟩
theorem hd_L_volumesWith : y_L_volumesWith.cls = R_L ∧ y_L_volumesWith.cls ≠ "java/lang/invoke/MethodHandle" ∧ y_L_volumesWith.cls ≠ "java/lang/invoke/VarHandle" ∧ (parseMethodDescriptor y_L_volumesWith.desc).map (fun d => d.parameters.length) = some 2 := ⟨rfl, by decide +kernel, by decide +kernel, by decide +kernel⟩
abbrev c_E_commit : ByteArray := prog_1_method_33_code
def y_E_commit : MethodName := ⟨R_E, "commit", "(LExtentGroup$Layout;)Z"⟩
theorem hd_E_commit : y_E_commit.cls = R_E ∧ y_E_commit.cls ≠ "java/lang/invoke/MethodHandle" ∧ y_E_commit.cls ≠ "java/lang/invoke/VarHandle" ∧ (parseMethodDescriptor y_E_commit.desc).map (fun d => d.parameters.length) = some 1 := ⟨rfl, by decide +kernel, by decide +kernel, by decide +kernel⟩
abbrev c_D_slotBehind : ByteArray := prog_3_method_3_code
def y_D_slotBehind : MethodName := ⟨R_D, "slotBehind", "(LExtentGroup$Copy;)I"⟩
theorem hd_D_slotBehind : y_D_slotBehind.cls = R_D ∧ y_D_slotBehind.cls ≠ "java/lang/invoke/MethodHandle" ∧ y_D_slotBehind.cls ≠ "java/lang/invoke/VarHandle" ∧ (parseMethodDescriptor y_D_slotBehind.desc).map (fun d => d.parameters.length) = some 1 := ⟨rfl, by decide +kernel, by decide +kernel, by decide +kernel⟩
abbrev c_D_slotWith : ByteArray := prog_3_method_2_code
def y_D_slotWith : MethodName := ⟨R_D, "slotWith", "(LExtentGroup$Copy;)I"⟩
theorem hd_D_slotWith : y_D_slotWith.cls = R_D ∧ y_D_slotWith.cls ≠ "java/lang/invoke/MethodHandle" ∧ y_D_slotWith.cls ≠ "java/lang/invoke/VarHandle" ∧ (parseMethodDescriptor y_D_slotWith.desc).map (fun d => d.parameters.length) = some 1 := ⟨rfl, by decide +kernel, by decide +kernel, by decide +kernel⟩
abbrev c_C_isSame : ByteArray := prog_2_method_2_code
def y_C_isSame : MethodName := ⟨R_C, "isSame", "(LExtentGroup$Copy;)Z"⟩
theorem hd_C_isSame : y_C_isSame.cls = R_C ∧ y_C_isSame.cls ≠ "java/lang/invoke/MethodHandle" ∧ y_C_isSame.cls ≠ "java/lang/invoke/VarHandle" ∧ (parseMethodDescriptor y_C_isSame.desc).map (fun d => d.parameters.length) = some 1 := ⟨rfl, by decide +kernel, by decide +kernel, by decide +kernel⟩
abbrev c_E_putCopy : ByteArray := prog_1_method_32_code
def y_E_putCopy : MethodName := ⟨R_E, "putCopy", "(LExtentGroup$Disk;ILExtentGroup$Copy;)Z"⟩
theorem hd_E_putCopy : y_E_putCopy.cls = R_E ∧ y_E_putCopy.cls ≠ "java/lang/invoke/MethodHandle" ∧ y_E_putCopy.cls ≠ "java/lang/invoke/VarHandle" ∧ (parseMethodDescriptor y_E_putCopy.desc).map (fun d => d.parameters.length) = some 3 := ⟨rfl, by decide +kernel, by decide +kernel, by decide +kernel⟩
abbrev c_E_mayAct : ByteArray := prog_1_method_29_code
def y_E_mayAct : MethodName := ⟨R_E, "mayAct", "()Z"⟩
theorem hd_E_mayAct : y_E_mayAct.cls = R_E ∧ y_E_mayAct.cls ≠ "java/lang/invoke/MethodHandle" ∧ y_E_mayAct.cls ≠ "java/lang/invoke/VarHandle" ∧ (parseMethodDescriptor y_E_mayAct.desc).map (fun d => d.parameters.length) = some 0 := ⟨rfl, by decide +kernel, by decide +kernel, by decide +kernel⟩
abbrev c_E_goDown : ByteArray := prog_1_method_28_code
def y_E_goDown : MethodName := ⟨R_E, "goDown", "()V"⟩
theorem hd_E_goDown : y_E_goDown.cls = R_E ∧ y_E_goDown.cls ≠ "java/lang/invoke/MethodHandle" ∧ y_E_goDown.cls ≠ "java/lang/invoke/VarHandle" ∧ (parseMethodDescriptor y_E_goDown.desc).map (fun d => d.parameters.length) = some 0 := ⟨rfl, by decide +kernel, by decide +kernel, by decide +kernel⟩
abbrev c_E_extend : ByteArray := prog_1_method_3_code
def y_E_extend : MethodName := ⟨R_E, "extend", "(II)I"⟩
theorem hd_E_extend : y_E_extend.cls = R_E ∧ y_E_extend.cls ≠ "java/lang/invoke/MethodHandle" ∧ y_E_extend.cls ≠ "java/lang/invoke/VarHandle" ∧ (parseMethodDescriptor y_E_extend.desc).map (fun d => d.parameters.length) = some 2 := ⟨rfl, by decide +kernel, by decide +kernel, by decide +kernel⟩
abbrev c_E_isMoving : ByteArray := prog_1_method_26_code
def y_E_isMoving : MethodName := ⟨R_E, "isMoving", "(I)Z"⟩
theorem hd_E_isMoving : y_E_isMoving.cls = R_E ∧ y_E_isMoving.cls ≠ "java/lang/invoke/MethodHandle" ∧ y_E_isMoving.cls ≠ "java/lang/invoke/VarHandle" ∧ (parseMethodDescriptor y_E_isMoving.desc).map (fun d => d.parameters.length) = some 1 := ⟨rfl, by decide +kernel, by decide +kernel, by decide +kernel⟩
abbrev c_U_withRows : ByteArray := prog_6_method_2_code
def y_U_withRows : MethodName := ⟨R_U, "withRows", "(I)LExtentGroup$Volume;"⟩
theorem hd_U_withRows : y_U_withRows.cls = R_U ∧ y_U_withRows.cls ≠ "java/lang/invoke/MethodHandle" ∧ y_U_withRows.cls ≠ "java/lang/invoke/VarHandle" ∧ (parseMethodDescriptor y_U_withRows.desc).map (fun d => d.parameters.length) = some 1 := ⟨rfl, by decide +kernel, by decide +kernel, by decide +kernel⟩
abbrev c_JA_copyOf : ByteArray := prog_13_method_123_code
def y_JA_copyOf : MethodName := ⟨R_JA, "copyOf", "([II)[I"⟩
theorem hd_JA_copyOf : y_JA_copyOf.cls = R_JA ∧ y_JA_copyOf.cls ≠ "java/lang/invoke/MethodHandle" ∧ y_JA_copyOf.cls ≠ "java/lang/invoke/VarHandle" ∧ (parseMethodDescriptor y_JA_copyOf.desc).map (fun d => d.parameters.length) = some 2 := ⟨rfl, by decide +kernel, by decide +kernel, by decide +kernel⟩
abbrev c_E_reduce : ByteArray := prog_1_method_4_code
def y_E_reduce : MethodName := ⟨R_E, "reduce", "(II)I"⟩
theorem hd_E_reduce : y_E_reduce.cls = R_E ∧ y_E_reduce.cls ≠ "java/lang/invoke/MethodHandle" ∧ y_E_reduce.cls ≠ "java/lang/invoke/VarHandle" ∧ (parseMethodDescriptor y_E_reduce.desc).map (fun d => d.parameters.length) = some 2 := ⟨rfl, by decide +kernel, by decide +kernel, by decide +kernel⟩
abbrev c_E_move : ByteArray := prog_1_method_5_code
def y_E_move : MethodName := ⟨R_E, "move", "(III)I"⟩
theorem hd_E_move : y_E_move.cls = R_E ∧ y_E_move.cls ≠ "java/lang/invoke/MethodHandle" ∧ y_E_move.cls ≠ "java/lang/invoke/VarHandle" ∧ (parseMethodDescriptor y_E_move.desc).map (fun d => d.parameters.length) = some 3 := ⟨rfl, by decide +kernel, by decide +kernel, by decide +kernel⟩
abbrev c_U_hasExtent : ByteArray := prog_6_method_4_code
def y_U_hasExtent : MethodName := ⟨R_U, "hasExtent", "(I)Z"⟩
theorem hd_U_hasExtent : y_U_hasExtent.cls = R_U ∧ y_U_hasExtent.cls ≠ "java/lang/invoke/MethodHandle" ∧ y_U_hasExtent.cls ≠ "java/lang/invoke/VarHandle" ∧ (parseMethodDescriptor y_U_hasExtent.desc).map (fun d => d.parameters.length) = some 1 := ⟨rfl, by decide +kernel, by decide +kernel, by decide +kernel⟩
abbrev c_E_isDisk : ByteArray := prog_1_method_22_code
def y_E_isDisk : MethodName := ⟨R_E, "isDisk", "(I)Z"⟩
theorem hd_E_isDisk : y_E_isDisk.cls = R_E ∧ y_E_isDisk.cls ≠ "java/lang/invoke/MethodHandle" ∧ y_E_isDisk.cls ≠ "java/lang/invoke/VarHandle" ∧ (parseMethodDescriptor y_E_isDisk.desc).map (fun d => d.parameters.length) = some 1 := ⟨rfl, by decide +kernel, by decide +kernel, by decide +kernel⟩
abbrev c_E_diskOf : ByteArray := prog_1_method_23_code
def y_E_diskOf : MethodName := ⟨R_E, "diskOf", "(I)LExtentGroup$Disk;"⟩
theorem hd_E_diskOf : y_E_diskOf.cls = R_E ∧ y_E_diskOf.cls ≠ "java/lang/invoke/MethodHandle" ∧ y_E_diskOf.cls ≠ "java/lang/invoke/VarHandle" ∧ (parseMethodDescriptor y_E_diskOf.desc).map (fun d => d.parameters.length) = some 1 := ⟨rfl, by decide +kernel, by decide +kernel, by decide +kernel⟩
abbrev c_V_init : ByteArray := prog_5_method_1_code
def y_V_init : MethodName := ⟨R_V, "<init>", "(IIII)V"⟩
theorem hd_V_init : y_V_init.cls = R_V ∧ y_V_init.cls ≠ "java/lang/invoke/MethodHandle" ∧ y_V_init.cls ≠ "java/lang/invoke/VarHandle" ∧ (parseMethodDescriptor y_V_init.desc).map (fun d => d.parameters.length) = some 4 := ⟨rfl, by decide +kernel, by decide +kernel, by decide +kernel⟩
abbrev c_L_withMove : ByteArray := prog_4_method_5_code
def y_L_withMove : MethodName := ⟨R_L, "withMove", "(LExtentGroup$Move;)LExtentGroup$Layout;"⟩
theorem hd_L_withMove : y_L_withMove.cls = R_L ∧ y_L_withMove.cls ≠ "java/lang/invoke/MethodHandle" ∧ y_L_withMove.cls ≠ "java/lang/invoke/VarHandle" ∧ (parseMethodDescriptor y_L_withMove.desc).map (fun d => d.parameters.length) = some 1 := ⟨rfl, by decide +kernel, by decide +kernel, by decide +kernel⟩
abbrev c_E_step : ByteArray := prog_1_method_6_code
def y_E_step : MethodName := ⟨R_E, "step", "()I"⟩
theorem hd_E_step : y_E_step.cls = R_E ∧ y_E_step.cls ≠ "java/lang/invoke/MethodHandle" ∧ y_E_step.cls ≠ "java/lang/invoke/VarHandle" ∧ (parseMethodDescriptor y_E_step.desc).map (fun d => d.parameters.length) = some 0 := ⟨rfl, by decide +kernel, by decide +kernel, by decide +kernel⟩
abbrev c_L_withMoveDone : ByteArray := prog_4_method_6_code
def y_L_withMoveDone : MethodName := ⟨R_L, "withMoveDone", "()LExtentGroup$Layout;"⟩
theorem hd_L_withMoveDone : y_L_withMoveDone.cls = R_L ∧ y_L_withMoveDone.cls ≠ "java/lang/invoke/MethodHandle" ∧ y_L_withMoveDone.cls ≠ "java/lang/invoke/VarHandle" ∧ (parseMethodDescriptor y_L_withMoveDone.desc).map (fun d => d.parameters.length) = some 0 := ⟨rfl, by decide +kernel, by decide +kernel, by decide +kernel⟩
abbrev c_U_withPlace : ByteArray := prog_6_method_3_code
def y_U_withPlace : MethodName := ⟨R_U, "withPlace", "(II)LExtentGroup$Volume;"⟩
theorem hd_U_withPlace : y_U_withPlace.cls = R_U ∧ y_U_withPlace.cls ≠ "java/lang/invoke/MethodHandle" ∧ y_U_withPlace.cls ≠ "java/lang/invoke/VarHandle" ∧ (parseMethodDescriptor y_U_withPlace.desc).map (fun d => d.parameters.length) = some 2 := ⟨rfl, by decide +kernel, by decide +kernel, by decide +kernel⟩
abbrev c_E_cellAt : ByteArray := prog_1_method_30_code
def y_E_cellAt : MethodName := ⟨R_E, "cellAt", "(II)I"⟩
theorem hd_E_cellAt : y_E_cellAt.cls = R_E ∧ y_E_cellAt.cls ≠ "java/lang/invoke/MethodHandle" ∧ y_E_cellAt.cls ≠ "java/lang/invoke/VarHandle" ∧ (parseMethodDescriptor y_E_cellAt.desc).map (fun d => d.parameters.length) = some 2 := ⟨rfl, by decide +kernel, by decide +kernel, by decide +kernel⟩
abbrev c_E_putCell : ByteArray := prog_1_method_31_code
def y_E_putCell : MethodName := ⟨R_E, "putCell", "(III)Z"⟩
theorem hd_E_putCell : y_E_putCell.cls = R_E ∧ y_E_putCell.cls ≠ "java/lang/invoke/MethodHandle" ∧ y_E_putCell.cls ≠ "java/lang/invoke/VarHandle" ∧ (parseMethodDescriptor y_E_putCell.desc).map (fun d => d.parameters.length) = some 3 := ⟨rfl, by decide +kernel, by decide +kernel, by decide +kernel⟩
abbrev c_E_cancel : ByteArray := prog_1_method_7_code
def y_E_cancel : MethodName := ⟨R_E, "cancel", "()I"⟩
theorem hd_E_cancel : y_E_cancel.cls = R_E ∧ y_E_cancel.cls ≠ "java/lang/invoke/MethodHandle" ∧ y_E_cancel.cls ≠ "java/lang/invoke/VarHandle" ∧ (parseMethodDescriptor y_E_cancel.desc).map (fun d => d.parameters.length) = some 0 := ⟨rfl, by decide +kernel, by decide +kernel, by decide +kernel⟩
abbrev c_E_read : ByteArray := prog_1_method_8_code
def y_E_read : MethodName := ⟨R_E, "read", "(II)I"⟩
theorem hd_E_read : y_E_read.cls = R_E ∧ y_E_read.cls ≠ "java/lang/invoke/MethodHandle" ∧ y_E_read.cls ≠ "java/lang/invoke/VarHandle" ∧ (parseMethodDescriptor y_E_read.desc).map (fun d => d.parameters.length) = some 2 := ⟨rfl, by decide +kernel, by decide +kernel, by decide +kernel⟩
abbrev c_U_hasBlock : ByteArray := prog_6_method_5_code
def y_U_hasBlock : MethodName := ⟨R_U, "hasBlock", "(I)Z"⟩
theorem hd_U_hasBlock : y_U_hasBlock.cls = R_U ∧ y_U_hasBlock.cls ≠ "java/lang/invoke/MethodHandle" ∧ y_U_hasBlock.cls ≠ "java/lang/invoke/VarHandle" ∧ (parseMethodDescriptor y_U_hasBlock.desc).map (fun d => d.parameters.length) = some 1 := ⟨rfl, by decide +kernel, by decide +kernel, by decide +kernel⟩
abbrev c_U_extentOf : ByteArray := prog_6_method_6_code
def y_U_extentOf : MethodName := ⟨R_U, "extentOf", "(I)I"⟩
theorem hd_U_extentOf : y_U_extentOf.cls = R_U ∧ y_U_extentOf.cls ≠ "java/lang/invoke/MethodHandle" ∧ y_U_extentOf.cls ≠ "java/lang/invoke/VarHandle" ∧ (parseMethodDescriptor y_U_extentOf.desc).map (fun d => d.parameters.length) = some 1 := ⟨rfl, by decide +kernel, by decide +kernel, by decide +kernel⟩
abbrev c_U_cellOf : ByteArray := prog_6_method_7_code
def y_U_cellOf : MethodName := ⟨R_U, "cellOf", "(I)I"⟩
theorem hd_U_cellOf : y_U_cellOf.cls = R_U ∧ y_U_cellOf.cls ≠ "java/lang/invoke/MethodHandle" ∧ y_U_cellOf.cls ≠ "java/lang/invoke/VarHandle" ∧ (parseMethodDescriptor y_U_cellOf.desc).map (fun d => d.parameters.length) = some 1 := ⟨rfl, by decide +kernel, by decide +kernel, by decide +kernel⟩
abbrev c_E_write : ByteArray := prog_1_method_9_code
def y_E_write : MethodName := ⟨R_E, "write", "(III)I"⟩
theorem hd_E_write : y_E_write.cls = R_E ∧ y_E_write.cls ≠ "java/lang/invoke/MethodHandle" ∧ y_E_write.cls ≠ "java/lang/invoke/VarHandle" ∧ (parseMethodDescriptor y_E_write.desc).map (fun d => d.parameters.length) = some 3 := ⟨rfl, by decide +kernel, by decide +kernel, by decide +kernel⟩
abbrev c_E_copiedTo : ByteArray := prog_1_method_27_code
def y_E_copiedTo : MethodName := ⟨R_E, "copiedTo", "(III)I"⟩
theorem hd_E_copiedTo : y_E_copiedTo.cls = R_E ∧ y_E_copiedTo.cls ≠ "java/lang/invoke/MethodHandle" ∧ y_E_copiedTo.cls ≠ "java/lang/invoke/VarHandle" ∧ (parseMethodDescriptor y_E_copiedTo.desc).map (fun d => d.parameters.length) = some 3 := ⟨rfl, by decide +kernel, by decide +kernel, by decide +kernel⟩
abbrev c_E_pull : ByteArray := prog_1_method_10_code
def y_E_pull : MethodName := ⟨R_E, "pull", "(I)Z"⟩
theorem hd_E_pull : y_E_pull.cls = R_E ∧ y_E_pull.cls ≠ "java/lang/invoke/MethodHandle" ∧ y_E_pull.cls ≠ "java/lang/invoke/VarHandle" ∧ (parseMethodDescriptor y_E_pull.desc).map (fun d => d.parameters.length) = some 1 := ⟨rfl, by decide +kernel, by decide +kernel, by decide +kernel⟩
abbrev c_E_plug : ByteArray := prog_1_method_11_code
def y_E_plug : MethodName := ⟨R_E, "plug", "(I)Z"⟩
theorem hd_E_plug : y_E_plug.cls = R_E ∧ y_E_plug.cls ≠ "java/lang/invoke/MethodHandle" ∧ y_E_plug.cls ≠ "java/lang/invoke/VarHandle" ∧ (parseMethodDescriptor y_E_plug.desc).map (fun d => d.parameters.length) = some 1 := ⟨rfl, by decide +kernel, by decide +kernel, by decide +kernel⟩
abbrev c_E_arm : ByteArray := prog_1_method_12_code
def y_E_arm : MethodName := ⟨R_E, "arm", "(I)Z"⟩
theorem hd_E_arm : y_E_arm.cls = R_E ∧ y_E_arm.cls ≠ "java/lang/invoke/MethodHandle" ∧ y_E_arm.cls ≠ "java/lang/invoke/VarHandle" ∧ (parseMethodDescriptor y_E_arm.desc).map (fun d => d.parameters.length) = some 1 := ⟨rfl, by decide +kernel, by decide +kernel, by decide +kernel⟩
abbrev c_E_crash : ByteArray := prog_1_method_13_code
def y_E_crash : MethodName := ⟨R_E, "crash", "()Z"⟩
theorem hd_E_crash : y_E_crash.cls = R_E ∧ y_E_crash.cls ≠ "java/lang/invoke/MethodHandle" ∧ y_E_crash.cls ≠ "java/lang/invoke/VarHandle" ∧ (parseMethodDescriptor y_E_crash.desc).map (fun d => d.parameters.length) = some 0 := ⟨rfl, by decide +kernel, by decide +kernel, by decide +kernel⟩
abbrev c_E_activate : ByteArray := prog_1_method_14_code
def y_E_activate : MethodName := ⟨R_E, "activate", "()I"⟩
theorem hd_E_activate : y_E_activate.cls = R_E ∧ y_E_activate.cls ≠ "java/lang/invoke/MethodHandle" ∧ y_E_activate.cls ≠ "java/lang/invoke/VarHandle" ∧ (parseMethodDescriptor y_E_activate.desc).map (fun d => d.parameters.length) = some 0 := ⟨rfl, by decide +kernel, by decide +kernel, by decide +kernel⟩
abbrev c_E_choose : ByteArray := prog_1_method_34_code
def y_E_choose : MethodName := ⟨R_E, "choose", "()LExtentGroup$Copy;"⟩
theorem hd_E_choose : y_E_choose.cls = R_E ∧ y_E_choose.cls ≠ "java/lang/invoke/MethodHandle" ∧ y_E_choose.cls ≠ "java/lang/invoke/VarHandle" ∧ (parseMethodDescriptor y_E_choose.desc).map (fun d => d.parameters.length) = some 0 := ⟨rfl, by decide +kernel, by decide +kernel, by decide +kernel⟩
abbrev c_E_presentHolders : ByteArray := prog_1_method_35_code
def y_E_presentHolders : MethodName := ⟨R_E, "presentHolders", "(LExtentGroup$Copy;)I"⟩
theorem hd_E_presentHolders : y_E_presentHolders.cls = R_E ∧ y_E_presentHolders.cls ≠ "java/lang/invoke/MethodHandle" ∧ y_E_presentHolders.cls ≠ "java/lang/invoke/VarHandle" ∧ (parseMethodDescriptor y_E_presentHolders.desc).map (fun d => d.parameters.length) = some 1 := ⟨rfl, by decide +kernel, by decide +kernel, by decide +kernel⟩
abbrev c_E_bringTo : ByteArray := prog_1_method_36_code
def y_E_bringTo : MethodName := ⟨R_E, "bringTo", "(LExtentGroup$Disk;LExtentGroup$Copy;)Z"⟩
theorem hd_E_bringTo : y_E_bringTo.cls = R_E ∧ y_E_bringTo.cls ≠ "java/lang/invoke/MethodHandle" ∧ y_E_bringTo.cls ≠ "java/lang/invoke/VarHandle" ∧ (parseMethodDescriptor y_E_bringTo.desc).map (fun d => d.parameters.length) = some 2 := ⟨rfl, by decide +kernel, by decide +kernel, by decide +kernel⟩
abbrev c_E_where : ByteArray := prog_1_method_15_code
def y_E_where : MethodName := ⟨R_E, "where", "(II)I"⟩
theorem hd_E_where : y_E_where.cls = R_E ∧ y_E_where.cls ≠ "java/lang/invoke/MethodHandle" ∧ y_E_where.cls ≠ "java/lang/invoke/VarHandle" ∧ (parseMethodDescriptor y_E_where.desc).map (fun d => d.parameters.length) = some 2 := ⟨rfl, by decide +kernel, by decide +kernel, by decide +kernel⟩
abbrev c_E_rows : ByteArray := prog_1_method_16_code
def y_E_rows : MethodName := ⟨R_E, "rows", "(I)I"⟩
theorem hd_E_rows : y_E_rows.cls = R_E ∧ y_E_rows.cls ≠ "java/lang/invoke/MethodHandle" ∧ y_E_rows.cls ≠ "java/lang/invoke/VarHandle" ∧ (parseMethodDescriptor y_E_rows.desc).map (fun d => d.parameters.length) = some 1 := ⟨rfl, by decide +kernel, by decide +kernel, by decide +kernel⟩
abbrev c_E_free : ByteArray := prog_1_method_17_code
def y_E_free : MethodName := ⟨R_E, "free", "(I)I"⟩
theorem hd_E_free : y_E_free.cls = R_E ∧ y_E_free.cls ≠ "java/lang/invoke/MethodHandle" ∧ y_E_free.cls ≠ "java/lang/invoke/VarHandle" ∧ (parseMethodDescriptor y_E_free.desc).map (fun d => d.parameters.length) = some 1 := ⟨rfl, by decide +kernel, by decide +kernel, by decide +kernel⟩
abbrev c_E_moving : ByteArray := prog_1_method_18_code
def y_E_moving : MethodName := ⟨R_E, "moving", "()I"⟩
theorem hd_E_moving : y_E_moving.cls = R_E ∧ y_E_moving.cls ≠ "java/lang/invoke/MethodHandle" ∧ y_E_moving.cls ≠ "java/lang/invoke/VarHandle" ∧ (parseMethodDescriptor y_E_moving.desc).map (fun d => d.parameters.length) = some 0 := ⟨rfl, by decide +kernel, by decide +kernel, by decide +kernel⟩
abbrev c_E_sequence : ByteArray := prog_1_method_19_code
def y_E_sequence : MethodName := ⟨R_E, "sequence", "()I"⟩
theorem hd_E_sequence : y_E_sequence.cls = R_E ∧ y_E_sequence.cls ≠ "java/lang/invoke/MethodHandle" ∧ y_E_sequence.cls ≠ "java/lang/invoke/VarHandle" ∧ (parseMethodDescriptor y_E_sequence.desc).map (fun d => d.parameters.length) = some 0 := ⟨rfl, by decide +kernel, by decide +kernel, by decide +kernel⟩
abbrev c_E_slot : ByteArray := prog_1_method_20_code
def y_E_slot : MethodName := ⟨R_E, "slot", "(II)I"⟩
theorem hd_E_slot : y_E_slot.cls = R_E ∧ y_E_slot.cls ≠ "java/lang/invoke/MethodHandle" ∧ y_E_slot.cls ≠ "java/lang/invoke/VarHandle" ∧ (parseMethodDescriptor y_E_slot.desc).map (fun d => d.parameters.length) = some 2 := ⟨rfl, by decide +kernel, by decide +kernel, by decide +kernel⟩
abbrev c_W_cell : ByteArray := method_2_code
def y_W_cell : MethodName := ⟨R_W, "cell", "([II)I"⟩
theorem hd_W_cell : y_W_cell.cls = R_W ∧ y_W_cell.cls ≠ "java/lang/invoke/MethodHandle" ∧ y_W_cell.cls ≠ "java/lang/invoke/VarHandle" ∧ (parseMethodDescriptor y_W_cell.desc).map (fun d => d.parameters.length) = some 2 := ⟨rfl, by decide +kernel, by decide +kernel, by decide +kernel⟩
abbrev c_M_init : ByteArray := prog_8_method_1_code
def y_M_init : MethodName := ⟨R_M, "<init>", "(II)V"⟩
theorem hd_M_init : y_M_init.cls = R_M ∧ y_M_init.cls ≠ "java/lang/invoke/MethodHandle" ∧ y_M_init.cls ≠ "java/lang/invoke/VarHandle" ∧ (parseMethodDescriptor y_M_init.desc).map (fun d => d.parameters.length) = some 2 := ⟨rfl, by decide +kernel, by decide +kernel, by decide +kernel⟩
abbrev c_M_create : ByteArray := prog_8_method_22_code
def y_M_create : MethodName := ⟨R_M, "create", "(III)I"⟩
theorem hd_M_create : y_M_create.cls = R_M ∧ y_M_create.cls ≠ "java/lang/invoke/MethodHandle" ∧ y_M_create.cls ≠ "java/lang/invoke/VarHandle" ∧ (parseMethodDescriptor y_M_create.desc).map (fun d => d.parameters.length) = some 3 := ⟨rfl, by decide +kernel, by decide +kernel, by decide +kernel⟩
abbrev c_M_few : ByteArray := prog_8_method_20_code
def y_M_few : MethodName := ⟨R_M, "few", "()Z"⟩
theorem hd_M_few : y_M_few.cls = R_M ∧ y_M_few.cls ≠ "java/lang/invoke/MethodHandle" ∧ y_M_few.cls ≠ "java/lang/invoke/VarHandle" ∧ (parseMethodDescriptor y_M_few.desc).map (fun d => d.parameters.length) = some 0 := ⟨rfl, by decide +kernel, by decide +kernel, by decide +kernel⟩
abbrev c_M_quorum : ByteArray := prog_8_method_19_code
def y_M_quorum : MethodName := ⟨R_M, "quorum", "(I)Z"⟩
theorem hd_M_quorum : y_M_quorum.cls = R_M ∧ y_M_quorum.cls ≠ "java/lang/invoke/MethodHandle" ∧ y_M_quorum.cls ≠ "java/lang/invoke/VarHandle" ∧ (parseMethodDescriptor y_M_quorum.desc).map (fun d => d.parameters.length) = some 1 := ⟨rfl, by decide +kernel, by decide +kernel, by decide +kernel⟩
abbrev c_M_rowsOf : ByteArray := prog_8_method_6_code
def y_M_rowsOf : MethodName := ⟨R_M, "rowsOf", "(II)I"⟩
theorem hd_M_rowsOf : y_M_rowsOf.cls = R_M ∧ y_M_rowsOf.cls ≠ "java/lang/invoke/MethodHandle" ∧ y_M_rowsOf.cls ≠ "java/lang/invoke/VarHandle" ∧ (parseMethodDescriptor y_M_rowsOf.desc).map (fun d => d.parameters.length) = some 2 := ⟨rfl, by decide +kernel, by decide +kernel, by decide +kernel⟩
abbrev c_M_get : ByteArray := prog_8_method_2_code
def y_M_get : MethodName := ⟨R_M, "get", "(II)I"⟩
theorem hd_M_get : y_M_get.cls = R_M ∧ y_M_get.cls ≠ "java/lang/invoke/MethodHandle" ∧ y_M_get.cls ≠ "java/lang/invoke/VarHandle" ∧ (parseMethodDescriptor y_M_get.desc).map (fun d => d.parameters.length) = some 2 := ⟨rfl, by decide +kernel, by decide +kernel, by decide +kernel⟩
abbrev c_M_copyMap : ByteArray := prog_8_method_4_code
def y_M_copyMap : MethodName := ⟨R_M, "copyMap", "(II)V"⟩
theorem hd_M_copyMap : y_M_copyMap.cls = R_M ∧ y_M_copyMap.cls ≠ "java/lang/invoke/MethodHandle" ∧ y_M_copyMap.cls ≠ "java/lang/invoke/VarHandle" ∧ (parseMethodDescriptor y_M_copyMap.desc).map (fun d => d.parameters.length) = some 2 := ⟨rfl, by decide +kernel, by decide +kernel, by decide +kernel⟩
abbrev c_M_set : ByteArray := prog_8_method_3_code
def y_M_set : MethodName := ⟨R_M, "set", "(III)V"⟩
theorem hd_M_set : y_M_set.cls = R_M ∧ y_M_set.cls ≠ "java/lang/invoke/MethodHandle" ∧ y_M_set.cls ≠ "java/lang/invoke/VarHandle" ∧ (parseMethodDescriptor y_M_set.desc).map (fun d => d.parameters.length) = some 3 := ⟨rfl, by decide +kernel, by decide +kernel, by decide +kernel⟩
abbrev c_M_addRow : ByteArray := prog_8_method_13_code
def y_M_addRow : MethodName := ⟨R_M, "addRow", "(I)Z"⟩
theorem hd_M_addRow : y_M_addRow.cls = R_M ∧ y_M_addRow.cls ≠ "java/lang/invoke/MethodHandle" ∧ y_M_addRow.cls ≠ "java/lang/invoke/VarHandle" ∧ (parseMethodDescriptor y_M_addRow.desc).map (fun d => d.parameters.length) = some 1 := ⟨rfl, by decide +kernel, by decide +kernel, by decide +kernel⟩
abbrev c_M_width : ByteArray := prog_8_method_5_code
def y_M_width : MethodName := ⟨R_M, "width", "(II)I"⟩
theorem hd_M_width : y_M_width.cls = R_M ∧ y_M_width.cls ≠ "java/lang/invoke/MethodHandle" ∧ y_M_width.cls ≠ "java/lang/invoke/VarHandle" ∧ (parseMethodDescriptor y_M_width.desc).map (fun d => d.parameters.length) = some 2 := ⟨rfl, by decide +kernel, by decide +kernel, by decide +kernel⟩
abbrev c_M_freeOf : ByteArray := prog_8_method_10_code
def y_M_freeOf : MethodName := ⟨R_M, "freeOf", "(II)I"⟩
theorem hd_M_freeOf : y_M_freeOf.cls = R_M ∧ y_M_freeOf.cls ≠ "java/lang/invoke/MethodHandle" ∧ y_M_freeOf.cls ≠ "java/lang/invoke/VarHandle" ∧ (parseMethodDescriptor y_M_freeOf.desc).map (fun d => d.parameters.length) = some 2 := ⟨rfl, by decide +kernel, by decide +kernel, by decide +kernel⟩
abbrev c_M_used : ByteArray := prog_8_method_9_code
def y_M_used : MethodName := ⟨R_M, "used", "(II)Z"⟩
theorem hd_M_used : y_M_used.cls = R_M ∧ y_M_used.cls ≠ "java/lang/invoke/MethodHandle" ∧ y_M_used.cls ≠ "java/lang/invoke/VarHandle" ∧ (parseMethodDescriptor y_M_used.desc).map (fun d => d.parameters.length) = some 2 := ⟨rfl, by decide +kernel, by decide +kernel, by decide +kernel⟩
abbrev c_M_extentsOf : ByteArray := prog_8_method_8_code
def y_M_extentsOf : MethodName := ⟨R_M, "extentsOf", "(II)I"⟩
theorem hd_M_extentsOf : y_M_extentsOf.cls = R_M ∧ y_M_extentsOf.cls ≠ "java/lang/invoke/MethodHandle" ∧ y_M_extentsOf.cls ≠ "java/lang/invoke/VarHandle" ∧ (parseMethodDescriptor y_M_extentsOf.desc).map (fun d => d.parameters.length) = some 2 := ⟨rfl, by decide +kernel, by decide +kernel, by decide +kernel⟩
abbrev c_M_before : ByteArray := prog_8_method_12_code
def y_M_before : MethodName := ⟨R_M, "before", "(I)I"⟩
theorem hd_M_before : y_M_before.cls = R_M ∧ y_M_before.cls ≠ "java/lang/invoke/MethodHandle" ∧ y_M_before.cls ≠ "java/lang/invoke/VarHandle" ∧ (parseMethodDescriptor y_M_before.desc).map (fun d => d.parameters.length) = some 1 := ⟨rfl, by decide +kernel, by decide +kernel, by decide +kernel⟩
abbrev c_M_leastFree : ByteArray := prog_8_method_11_code
def y_M_leastFree : MethodName := ⟨R_M, "leastFree", "(II)I"⟩
theorem hd_M_leastFree : y_M_leastFree.cls = R_M ∧ y_M_leastFree.cls ≠ "java/lang/invoke/MethodHandle" ∧ y_M_leastFree.cls ≠ "java/lang/invoke/VarHandle" ∧ (parseMethodDescriptor y_M_leastFree.desc).map (fun d => d.parameters.length) = some 2 := ⟨rfl, by decide +kernel, by decide +kernel, by decide +kernel⟩
abbrev c_M_commit : ByteArray := prog_8_method_18_code
def y_M_commit : MethodName := ⟨R_M, "commit", "()Z"⟩
theorem hd_M_commit : y_M_commit.cls = R_M ∧ y_M_commit.cls ≠ "java/lang/invoke/MethodHandle" ∧ y_M_commit.cls ≠ "java/lang/invoke/VarHandle" ∧ (parseMethodDescriptor y_M_commit.desc).map (fun d => d.parameters.length) = some 0 := ⟨rfl, by decide +kernel, by decide +kernel, by decide +kernel⟩
abbrev c_M_slotBehind : ByteArray := prog_8_method_17_code
def y_M_slotBehind : MethodName := ⟨R_M, "slotBehind", "(I)I"⟩
theorem hd_M_slotBehind : y_M_slotBehind.cls = R_M ∧ y_M_slotBehind.cls ≠ "java/lang/invoke/MethodHandle" ∧ y_M_slotBehind.cls ≠ "java/lang/invoke/VarHandle" ∧ (parseMethodDescriptor y_M_slotBehind.desc).map (fun d => d.parameters.length) = some 1 := ⟨rfl, by decide +kernel, by decide +kernel, by decide +kernel⟩
abbrev c_M_nextSlot : ByteArray := prog_8_method_16_code
def y_M_nextSlot : MethodName := ⟨R_M, "nextSlot", "(I)I"⟩
theorem hd_M_nextSlot : y_M_nextSlot.cls = R_M ∧ y_M_nextSlot.cls ≠ "java/lang/invoke/MethodHandle" ∧ y_M_nextSlot.cls ≠ "java/lang/invoke/VarHandle" ∧ (parseMethodDescriptor y_M_nextSlot.desc).map (fun d => d.parameters.length) = some 1 := ⟨rfl, by decide +kernel, by decide +kernel, by decide +kernel⟩
abbrev c_M_writeCopy : ByteArray := prog_8_method_15_code
def y_M_writeCopy : MethodName := ⟨R_M, "writeCopy", "(IIII)Z"⟩
theorem hd_M_writeCopy : y_M_writeCopy.cls = R_M ∧ y_M_writeCopy.cls ≠ "java/lang/invoke/MethodHandle" ∧ y_M_writeCopy.cls ≠ "java/lang/invoke/VarHandle" ∧ (parseMethodDescriptor y_M_writeCopy.desc).map (fun d => d.parameters.length) = some 4 := ⟨rfl, by decide +kernel, by decide +kernel, by decide +kernel⟩
abbrev c_M_stops : ByteArray := prog_8_method_14_code
def y_M_stops : MethodName := ⟨R_M, "stops", "()Z"⟩
theorem hd_M_stops : y_M_stops.cls = R_M ∧ y_M_stops.cls ≠ "java/lang/invoke/MethodHandle" ∧ y_M_stops.cls ≠ "java/lang/invoke/VarHandle" ∧ (parseMethodDescriptor y_M_stops.desc).map (fun d => d.parameters.length) = some 0 := ⟨rfl, by decide +kernel, by decide +kernel, by decide +kernel⟩
abbrev c_M_extend : ByteArray := prog_8_method_23_code
def y_M_extend : MethodName := ⟨R_M, "extend", "(II)I"⟩
theorem hd_M_extend : y_M_extend.cls = R_M ∧ y_M_extend.cls ≠ "java/lang/invoke/MethodHandle" ∧ y_M_extend.cls ≠ "java/lang/invoke/VarHandle" ∧ (parseMethodDescriptor y_M_extend.desc).map (fun d => d.parameters.length) = some 2 := ⟨rfl, by decide +kernel, by decide +kernel, by decide +kernel⟩
abbrev c_M_isVolume : ByteArray := prog_8_method_7_code
def y_M_isVolume : MethodName := ⟨R_M, "isVolume", "(I)Z"⟩
theorem hd_M_isVolume : y_M_isVolume.cls = R_M ∧ y_M_isVolume.cls ≠ "java/lang/invoke/MethodHandle" ∧ y_M_isVolume.cls ≠ "java/lang/invoke/VarHandle" ∧ (parseMethodDescriptor y_M_isVolume.desc).map (fun d => d.parameters.length) = some 1 := ⟨rfl, by decide +kernel, by decide +kernel, by decide +kernel⟩
abbrev c_M_isMoved : ByteArray := prog_8_method_21_code
def y_M_isMoved : MethodName := ⟨R_M, "isMoved", "(I)Z"⟩
theorem hd_M_isMoved : y_M_isMoved.cls = R_M ∧ y_M_isMoved.cls ≠ "java/lang/invoke/MethodHandle" ∧ y_M_isMoved.cls ≠ "java/lang/invoke/VarHandle" ∧ (parseMethodDescriptor y_M_isMoved.desc).map (fun d => d.parameters.length) = some 1 := ⟨rfl, by decide +kernel, by decide +kernel, by decide +kernel⟩
abbrev c_M_reduce : ByteArray := prog_8_method_24_code
def y_M_reduce : MethodName := ⟨R_M, "reduce", "(II)I"⟩
theorem hd_M_reduce : y_M_reduce.cls = R_M ∧ y_M_reduce.cls ≠ "java/lang/invoke/MethodHandle" ∧ y_M_reduce.cls ≠ "java/lang/invoke/VarHandle" ∧ (parseMethodDescriptor y_M_reduce.desc).map (fun d => d.parameters.length) = some 2 := ⟨rfl, by decide +kernel, by decide +kernel, by decide +kernel⟩
abbrev c_M_move : ByteArray := prog_8_method_28_code
def y_M_move : MethodName := ⟨R_M, "move", "(III)I"⟩
theorem hd_M_move : y_M_move.cls = R_M ∧ y_M_move.cls ≠ "java/lang/invoke/MethodHandle" ∧ y_M_move.cls ≠ "java/lang/invoke/VarHandle" ∧ (parseMethodDescriptor y_M_move.desc).map (fun d => d.parameters.length) = some 3 := ⟨rfl, by decide +kernel, by decide +kernel, by decide +kernel⟩
abbrev c_M_isExtent : ByteArray := prog_8_method_27_code
def y_M_isExtent : MethodName := ⟨R_M, "isExtent", "(II)Z"⟩
theorem hd_M_isExtent : y_M_isExtent.cls = R_M ∧ y_M_isExtent.cls ≠ "java/lang/invoke/MethodHandle" ∧ y_M_isExtent.cls ≠ "java/lang/invoke/VarHandle" ∧ (parseMethodDescriptor y_M_isExtent.desc).map (fun d => d.parameters.length) = some 2 := ⟨rfl, by decide +kernel, by decide +kernel, by decide +kernel⟩
abbrev c_M_step : ByteArray := prog_8_method_30_code
def y_M_step : MethodName := ⟨R_M, "step", "()I"⟩
theorem hd_M_step : y_M_step.cls = R_M ∧ y_M_step.cls ≠ "java/lang/invoke/MethodHandle" ∧ y_M_step.cls ≠ "java/lang/invoke/VarHandle" ∧ (parseMethodDescriptor y_M_step.desc).map (fun d => d.parameters.length) = some 0 := ⟨rfl, by decide +kernel, by decide +kernel, by decide +kernel⟩
abbrev c_M_source : ByteArray := prog_8_method_25_code
def y_M_source : MethodName := ⟨R_M, "source", "()I"⟩
theorem hd_M_source : y_M_source.cls = R_M ∧ y_M_source.cls ≠ "java/lang/invoke/MethodHandle" ∧ y_M_source.cls ≠ "java/lang/invoke/VarHandle" ∧ (parseMethodDescriptor y_M_source.desc).map (fun d => d.parameters.length) = some 0 := ⟨rfl, by decide +kernel, by decide +kernel, by decide +kernel⟩
abbrev c_M_target : ByteArray := prog_8_method_26_code
def y_M_target : MethodName := ⟨R_M, "target", "()I"⟩
theorem hd_M_target : y_M_target.cls = R_M ∧ y_M_target.cls ≠ "java/lang/invoke/MethodHandle" ∧ y_M_target.cls ≠ "java/lang/invoke/VarHandle" ∧ (parseMethodDescriptor y_M_target.desc).map (fun d => d.parameters.length) = some 0 := ⟨rfl, by decide +kernel, by decide +kernel, by decide +kernel⟩
abbrev c_M_cellAt : ByteArray := prog_8_method_29_code
def y_M_cellAt : MethodName := ⟨R_M, "cellAt", "(II)I"⟩
theorem hd_M_cellAt : y_M_cellAt.cls = R_M ∧ y_M_cellAt.cls ≠ "java/lang/invoke/MethodHandle" ∧ y_M_cellAt.cls ≠ "java/lang/invoke/VarHandle" ∧ (parseMethodDescriptor y_M_cellAt.desc).map (fun d => d.parameters.length) = some 2 := ⟨rfl, by decide +kernel, by decide +kernel, by decide +kernel⟩
abbrev c_M_cancel : ByteArray := prog_8_method_31_code
def y_M_cancel : MethodName := ⟨R_M, "cancel", "()I"⟩
theorem hd_M_cancel : y_M_cancel.cls = R_M ∧ y_M_cancel.cls ≠ "java/lang/invoke/MethodHandle" ∧ y_M_cancel.cls ≠ "java/lang/invoke/VarHandle" ∧ (parseMethodDescriptor y_M_cancel.desc).map (fun d => d.parameters.length) = some 0 := ⟨rfl, by decide +kernel, by decide +kernel, by decide +kernel⟩
abbrev c_M_read : ByteArray := prog_8_method_35_code
def y_M_read : MethodName := ⟨R_M, "read", "(II)I"⟩
theorem hd_M_read : y_M_read.cls = R_M ∧ y_M_read.cls ≠ "java/lang/invoke/MethodHandle" ∧ y_M_read.cls ≠ "java/lang/invoke/VarHandle" ∧ (parseMethodDescriptor y_M_read.desc).map (fun d => d.parameters.length) = some 2 := ⟨rfl, by decide +kernel, by decide +kernel, by decide +kernel⟩
abbrev c_M_isBlock : ByteArray := prog_8_method_34_code
def y_M_isBlock : MethodName := ⟨R_M, "isBlock", "(II)Z"⟩
theorem hd_M_isBlock : y_M_isBlock.cls = R_M ∧ y_M_isBlock.cls ≠ "java/lang/invoke/MethodHandle" ∧ y_M_isBlock.cls ≠ "java/lang/invoke/VarHandle" ∧ (parseMethodDescriptor y_M_isBlock.desc).map (fun d => d.parameters.length) = some 2 := ⟨rfl, by decide +kernel, by decide +kernel, by decide +kernel⟩
abbrev c_M_extentOf : ByteArray := prog_8_method_32_code
def y_M_extentOf : MethodName := ⟨R_M, "extentOf", "(II)I"⟩
theorem hd_M_extentOf : y_M_extentOf.cls = R_M ∧ y_M_extentOf.cls ≠ "java/lang/invoke/MethodHandle" ∧ y_M_extentOf.cls ≠ "java/lang/invoke/VarHandle" ∧ (parseMethodDescriptor y_M_extentOf.desc).map (fun d => d.parameters.length) = some 2 := ⟨rfl, by decide +kernel, by decide +kernel, by decide +kernel⟩
abbrev c_M_cellOf : ByteArray := prog_8_method_33_code
def y_M_cellOf : MethodName := ⟨R_M, "cellOf", "(II)I"⟩
theorem hd_M_cellOf : y_M_cellOf.cls = R_M ∧ y_M_cellOf.cls ≠ "java/lang/invoke/MethodHandle" ∧ y_M_cellOf.cls ≠ "java/lang/invoke/VarHandle" ∧ (parseMethodDescriptor y_M_cellOf.desc).map (fun d => d.parameters.length) = some 2 := ⟨rfl, by decide +kernel, by decide +kernel, by decide +kernel⟩
abbrev c_M_write : ByteArray := prog_8_method_36_code
def y_M_write : MethodName := ⟨R_M, "write", "(III)I"⟩
theorem hd_M_write : y_M_write.cls = R_M ∧ y_M_write.cls ≠ "java/lang/invoke/MethodHandle" ∧ y_M_write.cls ≠ "java/lang/invoke/VarHandle" ∧ (parseMethodDescriptor y_M_write.desc).map (fun d => d.parameters.length) = some 3 := ⟨rfl, by decide +kernel, by decide +kernel, by decide +kernel⟩
abbrev c_M_pull : ByteArray := prog_8_method_38_code
def y_M_pull : MethodName := ⟨R_M, "pull", "(I)Z"⟩
theorem hd_M_pull : y_M_pull.cls = R_M ∧ y_M_pull.cls ≠ "java/lang/invoke/MethodHandle" ∧ y_M_pull.cls ≠ "java/lang/invoke/VarHandle" ∧ (parseMethodDescriptor y_M_pull.desc).map (fun d => d.parameters.length) = some 1 := ⟨rfl, by decide +kernel, by decide +kernel, by decide +kernel⟩
abbrev c_M_isDisk : ByteArray := prog_8_method_37_code
def y_M_isDisk : MethodName := ⟨R_M, "isDisk", "(I)Z"⟩
theorem hd_M_isDisk : y_M_isDisk.cls = R_M ∧ y_M_isDisk.cls ≠ "java/lang/invoke/MethodHandle" ∧ y_M_isDisk.cls ≠ "java/lang/invoke/VarHandle" ∧ (parseMethodDescriptor y_M_isDisk.desc).map (fun d => d.parameters.length) = some 1 := ⟨rfl, by decide +kernel, by decide +kernel, by decide +kernel⟩
abbrev c_M_plug : ByteArray := prog_8_method_39_code
def y_M_plug : MethodName := ⟨R_M, "plug", "(I)Z"⟩
theorem hd_M_plug : y_M_plug.cls = R_M ∧ y_M_plug.cls ≠ "java/lang/invoke/MethodHandle" ∧ y_M_plug.cls ≠ "java/lang/invoke/VarHandle" ∧ (parseMethodDescriptor y_M_plug.desc).map (fun d => d.parameters.length) = some 1 := ⟨rfl, by decide +kernel, by decide +kernel, by decide +kernel⟩
abbrev c_M_arm : ByteArray := prog_8_method_40_code
def y_M_arm : MethodName := ⟨R_M, "arm", "(I)Z"⟩
theorem hd_M_arm : y_M_arm.cls = R_M ∧ y_M_arm.cls ≠ "java/lang/invoke/MethodHandle" ∧ y_M_arm.cls ≠ "java/lang/invoke/VarHandle" ∧ (parseMethodDescriptor y_M_arm.desc).map (fun d => d.parameters.length) = some 1 := ⟨rfl, by decide +kernel, by decide +kernel, by decide +kernel⟩
abbrev c_M_crash : ByteArray := prog_8_method_41_code
def y_M_crash : MethodName := ⟨R_M, "crash", "()Z"⟩
theorem hd_M_crash : y_M_crash.cls = R_M ∧ y_M_crash.cls ≠ "java/lang/invoke/MethodHandle" ∧ y_M_crash.cls ≠ "java/lang/invoke/VarHandle" ∧ (parseMethodDescriptor y_M_crash.desc).map (fun d => d.parameters.length) = some 0 := ⟨rfl, by decide +kernel, by decide +kernel, by decide +kernel⟩
abbrev c_M_activate : ByteArray := prog_8_method_45_code
def y_M_activate : MethodName := ⟨R_M, "activate", "()I"⟩
theorem hd_M_activate : y_M_activate.cls = R_M ∧ y_M_activate.cls ≠ "java/lang/invoke/MethodHandle" ∧ y_M_activate.cls ≠ "java/lang/invoke/VarHandle" ∧ (parseMethodDescriptor y_M_activate.desc).map (fun d => d.parameters.length) = some 0 := ⟨rfl, by decide +kernel, by decide +kernel, by decide +kernel⟩
abbrev c_M_choose : ByteArray := prog_8_method_43_code
def y_M_choose : MethodName := ⟨R_M, "choose", "()I"⟩
theorem hd_M_choose : y_M_choose.cls = R_M ∧ y_M_choose.cls ≠ "java/lang/invoke/MethodHandle" ∧ y_M_choose.cls ≠ "java/lang/invoke/VarHandle" ∧ (parseMethodDescriptor y_M_choose.desc).map (fun d => d.parameters.length) = some 0 := ⟨rfl, by decide +kernel, by decide +kernel, by decide +kernel⟩
abbrev c_M_holds : ByteArray := prog_8_method_42_code
def y_M_holds : MethodName := ⟨R_M, "holds", "(III)Z"⟩
theorem hd_M_holds : y_M_holds.cls = R_M ∧ y_M_holds.cls ≠ "java/lang/invoke/MethodHandle" ∧ y_M_holds.cls ≠ "java/lang/invoke/VarHandle" ∧ (parseMethodDescriptor y_M_holds.desc).map (fun d => d.parameters.length) = some 3 := ⟨rfl, by decide +kernel, by decide +kernel, by decide +kernel⟩
abbrev c_M_settle : ByteArray := prog_8_method_44_code
def y_M_settle : MethodName := ⟨R_M, "settle", "(III)Z"⟩
theorem hd_M_settle : y_M_settle.cls = R_M ∧ y_M_settle.cls ≠ "java/lang/invoke/MethodHandle" ∧ y_M_settle.cls ≠ "java/lang/invoke/VarHandle" ∧ (parseMethodDescriptor y_M_settle.desc).map (fun d => d.parameters.length) = some 3 := ⟨rfl, by decide +kernel, by decide +kernel, by decide +kernel⟩
abbrev c_M_where : ByteArray := prog_8_method_46_code
def y_M_where : MethodName := ⟨R_M, "where", "(II)I"⟩
theorem hd_M_where : y_M_where.cls = R_M ∧ y_M_where.cls ≠ "java/lang/invoke/MethodHandle" ∧ y_M_where.cls ≠ "java/lang/invoke/VarHandle" ∧ (parseMethodDescriptor y_M_where.desc).map (fun d => d.parameters.length) = some 2 := ⟨rfl, by decide +kernel, by decide +kernel, by decide +kernel⟩
abbrev c_M_rows : ByteArray := prog_8_method_47_code
def y_M_rows : MethodName := ⟨R_M, "rows", "(I)I"⟩
theorem hd_M_rows : y_M_rows.cls = R_M ∧ y_M_rows.cls ≠ "java/lang/invoke/MethodHandle" ∧ y_M_rows.cls ≠ "java/lang/invoke/VarHandle" ∧ (parseMethodDescriptor y_M_rows.desc).map (fun d => d.parameters.length) = some 1 := ⟨rfl, by decide +kernel, by decide +kernel, by decide +kernel⟩
abbrev c_M_free : ByteArray := prog_8_method_48_code
def y_M_free : MethodName := ⟨R_M, "free", "(I)I"⟩
theorem hd_M_free : y_M_free.cls = R_M ∧ y_M_free.cls ≠ "java/lang/invoke/MethodHandle" ∧ y_M_free.cls ≠ "java/lang/invoke/VarHandle" ∧ (parseMethodDescriptor y_M_free.desc).map (fun d => d.parameters.length) = some 1 := ⟨rfl, by decide +kernel, by decide +kernel, by decide +kernel⟩
abbrev c_M_moving : ByteArray := prog_8_method_49_code
def y_M_moving : MethodName := ⟨R_M, "moving", "()I"⟩
theorem hd_M_moving : y_M_moving.cls = R_M ∧ y_M_moving.cls ≠ "java/lang/invoke/MethodHandle" ∧ y_M_moving.cls ≠ "java/lang/invoke/VarHandle" ∧ (parseMethodDescriptor y_M_moving.desc).map (fun d => d.parameters.length) = some 0 := ⟨rfl, by decide +kernel, by decide +kernel, by decide +kernel⟩
abbrev c_M_sequence : ByteArray := prog_8_method_50_code
def y_M_sequence : MethodName := ⟨R_M, "sequence", "()I"⟩
theorem hd_M_sequence : y_M_sequence.cls = R_M ∧ y_M_sequence.cls ≠ "java/lang/invoke/MethodHandle" ∧ y_M_sequence.cls ≠ "java/lang/invoke/VarHandle" ∧ (parseMethodDescriptor y_M_sequence.desc).map (fun d => d.parameters.length) = some 0 := ⟨rfl, by decide +kernel, by decide +kernel, by decide +kernel⟩
abbrev c_M_slot : ByteArray := prog_8_method_51_code
def y_M_slot : MethodName := ⟨R_M, "slot", "(II)I"⟩
theorem hd_M_slot : y_M_slot.cls = R_M ∧ y_M_slot.cls ≠ "java/lang/invoke/MethodHandle" ∧ y_M_slot.cls ≠ "java/lang/invoke/VarHandle" ∧ (parseMethodDescriptor y_M_slot.desc).map (fun d => d.parameters.length) = some 2 := ⟨rfl, by decide +kernel, by decide +kernel, by decide +kernel⟩
set_option maxRecDepth 100000 in
theorem cl_W_7 : Cond.classLink R_W 7 "ExtentGroup" ∈ WS := ws_at 67 rfl rfl
set_option maxRecDepth 100000 in
theorem ml_W_15 : (Cond.methodLink R_W 15 y_E_init ∈ WS ∧ Cond.code y_E_init c_E_init 6 none ∈ WS ∧ Cond.initialized R_E ∈ WS) ∧ Cond.instanceMethod y_E_init ∈ WS := ⟨⟨ws_at 69 rfl rfl, ws_at 71 rfl rfl, ws_at 56 rfl rfl⟩, ws_at 70 rfl rfl⟩
set_option maxRecDepth 100000 in
theorem ml_E_7 : (Cond.methodLink R_E 7 y_JM_max ∈ WS ∧ Cond.code y_JM_max c_JM_max 2 (some .int) ∈ WS ∧ Cond.initialized R_JM ∈ WS) ∧ Cond.static y_JM_max ∈ WS := ⟨⟨ws_at 75 rfl rfl, ws_at 77 rfl rfl, ws_at 57 rfl rfl⟩, ws_at 76 rfl rfl⟩
set_option maxRecDepth 100000 in
theorem ml_E_13 : (Cond.methodLink R_E 13 y_JM_min ∈ WS ∧ Cond.code y_JM_min c_JM_min 2 (some .int) ∈ WS ∧ Cond.initialized R_JM ∈ WS) ∧ Cond.static y_JM_min ∈ WS := ⟨⟨ws_at 78 rfl rfl, ws_at 80 rfl rfl, ws_at 57 rfl rfl⟩, ws_at 79 rfl rfl⟩
set_option maxRecDepth 100000 in
theorem cl_E_22 : Cond.classLink R_E 22 "ExtentGroup$Copy" ∈ WS := ws_at 81 rfl rfl
set_option maxRecDepth 100000 in
theorem cl_E_24 : Cond.classLink R_E 24 "ExtentGroup$Layout" ∈ WS := ws_at 83 rfl rfl
set_option maxRecDepth 100000 in
theorem cl_E_26 : Cond.classLink R_E 26 "ExtentGroup$Volume" ∈ WS := ws_at 85 rfl rfl
set_option maxRecDepth 100000 in
theorem ml_E_28 : (Cond.methodLink R_E 28 y_L_init ∈ WS ∧ Cond.code y_L_init c_L_init 3 none ∈ WS ∧ Cond.initialized R_L ∈ WS) ∧ Cond.instanceMethod y_L_init ∈ WS := ⟨⟨ws_at 87 rfl rfl, ws_at 89 rfl rfl, ws_at 59 rfl rfl⟩, ws_at 88 rfl rfl⟩
set_option maxRecDepth 100000 in
theorem fl_L_9 : Cond.fieldLink R_L 9 "ExtentGroup$Layout" "volumes" "[LExtentGroup$Volume;" ∈ WS := ws_at 91 rfl rfl
set_option maxRecDepth 100000 in
theorem fl_L_15 : Cond.fieldLink R_L 15 "ExtentGroup$Layout" "move" "LExtentGroup$Move;" ∈ WS := ws_at 92 rfl rfl
set_option maxRecDepth 100000 in
theorem fl_E_121 : Cond.fieldLink R_E 121 "ExtentGroup$Layout" "move" "LExtentGroup$Move;" ∈ WS := ws_at 93 rfl rfl
set_option maxRecDepth 100000 in
theorem ml_E_31 : (Cond.methodLink R_E 31 y_C_init ∈ WS ∧ Cond.code y_C_init c_C_init 4 none ∈ WS ∧ Cond.initialized R_C ∈ WS) ∧ Cond.instanceMethod y_C_init ∈ WS := ⟨⟨ws_at 99 rfl rfl, ws_at 101 rfl rfl, ws_at 58 rfl rfl⟩, ws_at 100 rfl rfl⟩
set_option maxRecDepth 100000 in
theorem fl_C_7 : Cond.fieldLink R_C 7 "ExtentGroup$Copy" "number" "I" ∈ WS := ws_at 103 rfl rfl
set_option maxRecDepth 100000 in
theorem fl_E_192 : Cond.fieldLink R_E 192 "ExtentGroup$Copy" "number" "I" ∈ WS := ws_at 104 rfl rfl
set_option maxRecDepth 100000 in
theorem fl_C_13 : Cond.fieldLink R_C 13 "ExtentGroup$Copy" "stamp" "I" ∈ WS := ws_at 105 rfl rfl
set_option maxRecDepth 100000 in
theorem fl_E_54 : Cond.fieldLink R_E 54 "ExtentGroup$Copy" "stamp" "I" ∈ WS := ws_at 106 rfl rfl
set_option maxRecDepth 100000 in
theorem fl_C_16 : Cond.fieldLink R_C 16 "ExtentGroup$Copy" "layout" "LExtentGroup$Layout;" ∈ WS := ws_at 107 rfl rfl
set_option maxRecDepth 100000 in
theorem fl_E_75 : Cond.fieldLink R_E 75 "ExtentGroup$Copy" "layout" "LExtentGroup$Layout;" ∈ WS := ws_at 108 rfl rfl
set_option maxRecDepth 100000 in
theorem cl_E_34 : Cond.classLink R_E 34 "ExtentGroup$Disk" ∈ WS := ws_at 116 rfl rfl
set_option maxRecDepth 100000 in
theorem ml_E_40 : (Cond.methodLink R_E 40 y_D_init ∈ WS ∧ Cond.code y_D_init c_D_init 3 none ∈ WS ∧ Cond.initialized R_D ∈ WS) ∧ Cond.instanceMethod y_D_init ∈ WS := ⟨⟨ws_at 119 rfl rfl, ws_at 121 rfl rfl, ws_at 60 rfl rfl⟩, ws_at 120 rfl rfl⟩
set_option maxRecDepth 100000 in
theorem cl_D_15 : Cond.classLink R_D 15 "ExtentGroup$Copy" ∈ WS := ws_at 123 rfl rfl
set_option maxRecDepth 100000 in
theorem fl_D_9 : Cond.fieldLink R_D 9 "ExtentGroup$Disk" "cells" "[I" ∈ WS := ws_at 125 rfl rfl
set_option maxRecDepth 100000 in
theorem fl_E_215 : Cond.fieldLink R_E 215 "ExtentGroup$Disk" "cells" "[I" ∈ WS := ws_at 126 rfl rfl
set_option maxRecDepth 100000 in
theorem fl_D_17 : Cond.fieldLink R_D 17 "ExtentGroup$Disk" "copies" "[LExtentGroup$Copy;" ∈ WS := ws_at 127 rfl rfl
set_option maxRecDepth 100000 in
theorem fl_E_208 : Cond.fieldLink R_E 208 "ExtentGroup$Disk" "copies" "[LExtentGroup$Copy;" ∈ WS := ws_at 128 rfl rfl
set_option maxRecDepth 100000 in
theorem fl_D_21 : Cond.fieldLink R_D 21 "ExtentGroup$Disk" "isTorn" "[Z" ∈ WS := ws_at 129 rfl rfl
set_option maxRecDepth 100000 in
theorem fl_E_204 : Cond.fieldLink R_E 204 "ExtentGroup$Disk" "isTorn" "[Z" ∈ WS := ws_at 130 rfl rfl
set_option maxRecDepth 100000 in
theorem fl_D_25 : Cond.fieldLink R_D 25 "ExtentGroup$Disk" "nextSlot" "I" ∈ WS := ws_at 131 rfl rfl
set_option maxRecDepth 100000 in
theorem fl_E_221 : Cond.fieldLink R_E 221 "ExtentGroup$Disk" "nextSlot" "I" ∈ WS := ws_at 132 rfl rfl
set_option maxRecDepth 100000 in
theorem fl_D_29 : Cond.fieldLink R_D 29 "ExtentGroup$Disk" "isPresent" "Z" ∈ WS := ws_at 133 rfl rfl
set_option maxRecDepth 100000 in
theorem fl_E_132 : Cond.fieldLink R_E 132 "ExtentGroup$Disk" "isPresent" "Z" ∈ WS := ws_at 134 rfl rfl
set_option maxRecDepth 100000 in
theorem fl_E_16 : Cond.fieldLink R_E 16 "ExtentGroup" "extentCount" "I" ∈ WS := ws_at 148 rfl rfl
set_option maxRecDepth 100000 in
theorem fl_E_36 : Cond.fieldLink R_E 36 "ExtentGroup" "disks" "[LExtentGroup$Disk;" ∈ WS := ws_at 149 rfl rfl
set_option maxRecDepth 100000 in
theorem fl_E_43 : Cond.fieldLink R_E 43 "ExtentGroup" "taken" "[I" ∈ WS := ws_at 150 rfl rfl
set_option maxRecDepth 100000 in
theorem fl_E_47 : Cond.fieldLink R_E 47 "ExtentGroup" "present" "LExtentGroup$Copy;" ∈ WS := ws_at 151 rfl rfl
set_option maxRecDepth 100000 in
theorem fl_E_51 : Cond.fieldLink R_E 51 "ExtentGroup" "copied" "I" ∈ WS := ws_at 152 rfl rfl
set_option maxRecDepth 100000 in
theorem fl_E_57 : Cond.fieldLink R_E 57 "ExtentGroup" "lastStamp" "I" ∈ WS := ws_at 153 rfl rfl
set_option maxRecDepth 100000 in
theorem fl_E_60 : Cond.fieldLink R_E 60 "ExtentGroup" "up" "Z" ∈ WS := ws_at 154 rfl rfl
set_option maxRecDepth 100000 in
theorem fl_E_64 : Cond.fieldLink R_E 64 "ExtentGroup" "actsBeforeStop" "I" ∈ WS := ws_at 155 rfl rfl
set_option maxRecDepth 100000 in
theorem ml_W_21 : (Cond.methodLink R_W 21 y_E_create ∈ WS ∧ Cond.code y_E_create c_E_create 6 (some .int) ∈ WS ∧ Cond.initialized R_E ∈ WS) ∧ Cond.instanceMethod y_E_create ∈ WS ∧ Cond.selects R_E y_E_create y_E_create ∈ WS := ⟨⟨ws_at 173 rfl rfl, ws_at 176 rfl rfl, ws_at 56 rfl rfl⟩, ws_at 174 rfl rfl, ws_at 175 rfl rfl⟩
set_option maxRecDepth 100000 in
theorem ml_E_67 : (Cond.methodLink R_E 67 y_E_isShape ∈ WS ∧ Cond.code y_E_isShape c_E_isShape 2 (some .boolean) ∈ WS ∧ Cond.initialized R_E ∈ WS) ∧ Cond.static y_E_isShape ∈ WS := ⟨⟨ws_at 177 rfl rfl, ws_at 179 rfl rfl, ws_at 56 rfl rfl⟩, ws_at 178 rfl rfl⟩
set_option maxRecDepth 100000 in
theorem ml_E_71 : (Cond.methodLink R_E 71 y_E_isFew ∈ WS ∧ Cond.code y_E_isFew c_E_isFew 3 (some .boolean) ∈ WS ∧ Cond.initialized R_E ∈ WS) ∧ Cond.instanceMethod y_E_isFew ∈ WS ∧ Cond.selects R_E y_E_isFew y_E_isFew ∈ WS := ⟨⟨ws_at 180 rfl rfl, ws_at 183 rfl rfl, ws_at 56 rfl rfl⟩, ws_at 182 rfl rfl, ws_at 0 rfl rfl⟩
set_option maxRecDepth 100000 in
theorem ml_E_212 : (Cond.methodLink R_E 212 y_E_isQuorum ∈ WS ∧ Cond.code y_E_isQuorum c_E_isQuorum 2 (some .boolean) ∈ WS ∧ Cond.initialized R_E ∈ WS) ∧ Cond.instanceMethod y_E_isQuorum ∈ WS ∧ Cond.selects R_E y_E_isQuorum y_E_isQuorum ∈ WS := ⟨⟨ws_at 184 rfl rfl, ws_at 187 rfl rfl, ws_at 56 rfl rfl⟩, ws_at 186 rfl rfl, ws_at 1 rfl rfl⟩
set_option maxRecDepth 100000 in
theorem ml_E_79 : (Cond.methodLink R_E 79 y_L_leastAbsent ∈ WS ∧ Cond.code y_L_leastAbsent c_L_leastAbsent 2 (some .int) ∈ WS ∧ Cond.initialized R_L ∈ WS) ∧ Cond.instanceMethod y_L_leastAbsent ∈ WS ∧ Cond.selects R_L y_L_leastAbsent y_L_leastAbsent ∈ WS := ⟨⟨ws_at 188 rfl rfl, ws_at 191 rfl rfl, ws_at 59 rfl rfl⟩, ws_at 189 rfl rfl, ws_at 190 rfl rfl⟩
set_option maxRecDepth 100000 in
theorem ml_E_83 : (Cond.methodLink R_E 83 y_U_init ∈ WS ∧ Cond.code y_U_init c_U_init 5 none ∈ WS ∧ Cond.initialized R_U ∈ WS) ∧ Cond.instanceMethod y_U_init ∈ WS := ⟨⟨ws_at 193 rfl rfl, ws_at 195 rfl rfl, ws_at 62 rfl rfl⟩, ws_at 194 rfl rfl⟩
set_option maxRecDepth 100000 in
theorem fl_U_9 : Cond.fieldLink R_U 9 "ExtentGroup$Volume" "width" "I" ∈ WS := ws_at 197 rfl rfl
set_option maxRecDepth 100000 in
theorem fl_E_102 : Cond.fieldLink R_E 102 "ExtentGroup$Volume" "width" "I" ∈ WS := ws_at 198 rfl rfl
set_option maxRecDepth 100000 in
theorem fl_U_15 : Cond.fieldLink R_U 15 "ExtentGroup$Volume" "chunk" "I" ∈ WS := ws_at 199 rfl rfl
set_option maxRecDepth 100000 in
theorem fl_U_18 : Cond.fieldLink R_U 18 "ExtentGroup$Volume" "rowCount" "I" ∈ WS := ws_at 200 rfl rfl
set_option maxRecDepth 100000 in
theorem fl_E_105 : Cond.fieldLink R_E 105 "ExtentGroup$Volume" "rowCount" "I" ∈ WS := ws_at 201 rfl rfl
set_option maxRecDepth 100000 in
theorem fl_U_21 : Cond.fieldLink R_U 21 "ExtentGroup$Volume" "places" "[I" ∈ WS := ws_at 202 rfl rfl
set_option maxRecDepth 100000 in
theorem fl_E_125 : Cond.fieldLink R_E 125 "ExtentGroup$Volume" "places" "[I" ∈ WS := ws_at 203 rfl rfl
set_option maxRecDepth 100000 in
theorem ml_E_86 : (Cond.methodLink R_E 86 y_E_takeRows ∈ WS ∧ Cond.code y_E_takeRows c_E_takeRows 5 (some .boolean) ∈ WS ∧ Cond.initialized R_E ∈ WS) ∧ Cond.instanceMethod y_E_takeRows ∈ WS ∧ Cond.selects R_E y_E_takeRows y_E_takeRows ∈ WS := ⟨⟨ws_at 213 rfl rfl, ws_at 216 rfl rfl, ws_at 56 rfl rfl⟩, ws_at 215 rfl rfl, ws_at 2 rfl rfl⟩
set_option maxRecDepth 100000 in
theorem ml_E_135 : (Cond.methodLink R_E 135 y_E_markTaken ∈ WS ∧ Cond.code y_E_markTaken c_E_markTaken 4 none ∈ WS ∧ Cond.initialized R_E ∈ WS) ∧ Cond.instanceMethod y_E_markTaken ∈ WS ∧ Cond.selects R_E y_E_markTaken y_E_markTaken ∈ WS := ⟨⟨ws_at 217 rfl rfl, ws_at 220 rfl rfl, ws_at 56 rfl rfl⟩, ws_at 219 rfl rfl, ws_at 3 rfl rfl⟩
set_option maxRecDepth 100000 in
theorem ml_E_238 : (Cond.methodLink R_E 238 y_JA_fill ∈ WS ∧ Cond.code y_JA_fill c_JA_fill 4 none ∈ WS ∧ Cond.initialized R_JA ∈ WS) ∧ Cond.static y_JA_fill ∈ WS := ⟨⟨ws_at 221 rfl rfl, ws_at 223 rfl rfl, ws_at 63 rfl rfl⟩, ws_at 222 rfl rfl⟩
set_option maxRecDepth 100000 in
theorem ml_E_98 : (Cond.methodLink R_E 98 y_L_volumeAt ∈ WS ∧ Cond.code y_L_volumeAt c_L_volumeAt 2 (some (.object "ExtentGroup$Volume")) ∈ WS ∧ Cond.initialized R_L ∈ WS) ∧ Cond.instanceMethod y_L_volumeAt ∈ WS ∧ Cond.selects R_L y_L_volumeAt y_L_volumeAt ∈ WS := ⟨⟨ws_at 224 rfl rfl, ws_at 227 rfl rfl, ws_at 59 rfl rfl⟩, ws_at 225 rfl rfl, ws_at 226 rfl rfl⟩
set_option maxRecDepth 100000 in
theorem ml_E_244 : (Cond.methodLink R_E 244 y_E_take ∈ WS ∧ Cond.code y_E_take c_E_take 2 none ∈ WS ∧ Cond.initialized R_E ∈ WS) ∧ Cond.instanceMethod y_E_take ∈ WS ∧ Cond.selects R_E y_E_take y_E_take ∈ WS := ⟨⟨ws_at 228 rfl rfl, ws_at 231 rfl rfl, ws_at 56 rfl rfl⟩, ws_at 230 rfl rfl, ws_at 4 rfl rfl⟩
set_option maxRecDepth 100000 in
theorem ml_E_253 : (Cond.methodLink R_E 253 y_E_pickDisks ∈ WS ∧ Cond.code y_E_pickDisks c_E_pickDisks 5 (some .int) ∈ WS ∧ Cond.initialized R_E ∈ WS) ∧ Cond.instanceMethod y_E_pickDisks ∈ WS ∧ Cond.selects R_E y_E_pickDisks y_E_pickDisks ∈ WS := ⟨⟨ws_at 232 rfl rfl, ws_at 235 rfl rfl, ws_at 56 rfl rfl⟩, ws_at 234 rfl rfl, ws_at 5 rfl rfl⟩
set_option maxRecDepth 100000 in
theorem ml_E_260 : (Cond.methodLink R_E 260 y_E_roomiest ∈ WS ∧ Cond.code y_E_roomiest c_E_roomiest 6 (some .int) ∈ WS ∧ Cond.initialized R_E ∈ WS) ∧ Cond.instanceMethod y_E_roomiest ∈ WS ∧ Cond.selects R_E y_E_roomiest y_E_roomiest ∈ WS := ⟨⟨ws_at 236 rfl rfl, ws_at 239 rfl rfl, ws_at 56 rfl rfl⟩, ws_at 238 rfl rfl, ws_at 6 rfl rfl⟩
set_option maxRecDepth 100000 in
theorem ml_E_195 : (Cond.methodLink R_E 195 y_E_freeCount ∈ WS ∧ Cond.code y_E_freeCount c_E_freeCount 2 (some .int) ∈ WS ∧ Cond.initialized R_E ∈ WS) ∧ Cond.instanceMethod y_E_freeCount ∈ WS ∧ Cond.selects R_E y_E_freeCount y_E_freeCount ∈ WS := ⟨⟨ws_at 240 rfl rfl, ws_at 243 rfl rfl, ws_at 56 rfl rfl⟩, ws_at 242 rfl rfl, ws_at 7 rfl rfl⟩
set_option maxRecDepth 100000 in
theorem ml_E_248 : (Cond.methodLink R_E 248 y_JI_bitCount ∈ WS ∧ Cond.code y_JI_bitCount c_JI_bitCount 1 (some .int) ∈ WS ∧ Cond.initialized R_JI ∈ WS) ∧ Cond.static y_JI_bitCount ∈ WS := ⟨⟨ws_at 244 rfl rfl, ws_at 246 rfl rfl, ws_at 64 rfl rfl⟩, ws_at 245 rfl rfl⟩
set_option maxRecDepth 100000 in
theorem ml_E_256 : (Cond.methodLink R_E 256 y_E_takeRow ∈ WS ∧ Cond.code y_E_takeRow c_E_takeRow 6 none ∈ WS ∧ Cond.initialized R_E ∈ WS) ∧ Cond.instanceMethod y_E_takeRow ∈ WS ∧ Cond.selects R_E y_E_takeRow y_E_takeRow ∈ WS := ⟨⟨ws_at 250 rfl rfl, ws_at 253 rfl rfl, ws_at 56 rfl rfl⟩, ws_at 252 rfl rfl, ws_at 8 rfl rfl⟩
set_option maxRecDepth 100000 in
theorem ml_E_138 : (Cond.methodLink R_E 138 y_E_leastFree ∈ WS ∧ Cond.code y_E_leastFree c_E_leastFree 3 (some .int) ∈ WS ∧ Cond.initialized R_E ∈ WS) ∧ Cond.instanceMethod y_E_leastFree ∈ WS ∧ Cond.selects R_E y_E_leastFree y_E_leastFree ∈ WS := ⟨⟨ws_at 254 rfl rfl, ws_at 257 rfl rfl, ws_at 56 rfl rfl⟩, ws_at 256 rfl rfl, ws_at 9 rfl rfl⟩
set_option maxRecDepth 100000 in
theorem ml_E_90 : (Cond.methodLink R_E 90 y_L_withVolume ∈ WS ∧ Cond.code y_L_withVolume c_L_withVolume 3 (some (.object "ExtentGroup$Layout")) ∈ WS ∧ Cond.initialized R_L ∈ WS) ∧ Cond.instanceMethod y_L_withVolume ∈ WS ∧ Cond.selects R_L y_L_withVolume y_L_withVolume ∈ WS := ⟨⟨ws_at 258 rfl rfl, ws_at 261 rfl rfl, ws_at 59 rfl rfl⟩, ws_at 259 rfl rfl, ws_at 260 rfl rfl⟩
set_option maxRecDepth 100000 in
theorem cl_L_10 : Cond.classLink R_L 10 "ExtentGroup$Layout" ∈ WS := ws_at 262 rfl rfl
set_option maxRecDepth 100000 in
theorem ml_L_19 : (Cond.methodLink R_L 19 y_L_volumesWith ∈ WS ∧ Cond.code y_L_volumesWith c_L_volumesWith 5 (some (.array (.object "ExtentGroup$Volume"))) ∈ WS ∧ Cond.initialized R_L ∈ WS) ∧ Cond.instanceMethod y_L_volumesWith ∈ WS ∧ Cond.selects R_L y_L_volumesWith y_L_volumesWith ∈ WS := ⟨⟨ws_at 263 rfl rfl, ws_at 266 rfl rfl, ws_at 59 rfl rfl⟩, ws_at 265 rfl rfl, ws_at 10 rfl rfl⟩
set_option maxRecDepth 100000 in
theorem cl_L_43 : Cond.classLink R_L 43 "ExtentGroup$Volume" ∈ WS := ws_at 267 rfl rfl
set_option maxRecDepth 100000 in
theorem ml_L_23 : (Cond.methodLink R_L 23 y_L_init ∈ WS ∧ Cond.code y_L_init c_L_init 3 none ∈ WS ∧ Cond.initialized R_L ∈ WS) ∧ Cond.instanceMethod y_L_init ∈ WS := ⟨⟨ws_at 268 rfl rfl, ws_at 89 rfl rfl, ws_at 59 rfl rfl⟩, ws_at 88 rfl rfl⟩
set_option maxRecDepth 100000 in
theorem ml_E_94 : (Cond.methodLink R_E 94 y_E_commit ∈ WS ∧ Cond.code y_E_commit c_E_commit 5 (some .boolean) ∈ WS ∧ Cond.initialized R_E ∈ WS) ∧ Cond.instanceMethod y_E_commit ∈ WS ∧ Cond.selects R_E y_E_commit y_E_commit ∈ WS := ⟨⟨ws_at 269 rfl rfl, ws_at 272 rfl rfl, ws_at 56 rfl rfl⟩, ws_at 271 rfl rfl, ws_at 11 rfl rfl⟩
set_option maxRecDepth 100000 in
theorem ml_E_224 : (Cond.methodLink R_E 224 y_D_slotBehind ∈ WS ∧ Cond.code y_D_slotBehind c_D_slotBehind 3 (some .int) ∈ WS ∧ Cond.initialized R_D ∈ WS) ∧ Cond.instanceMethod y_D_slotBehind ∈ WS ∧ Cond.selects R_D y_D_slotBehind y_D_slotBehind ∈ WS := ⟨⟨ws_at 273 rfl rfl, ws_at 276 rfl rfl, ws_at 60 rfl rfl⟩, ws_at 274 rfl rfl, ws_at 275 rfl rfl⟩
set_option maxRecDepth 100000 in
theorem ml_D_37 : (Cond.methodLink R_D 37 y_D_slotWith ∈ WS ∧ Cond.code y_D_slotWith c_D_slotWith 3 (some .int) ∈ WS ∧ Cond.initialized R_D ∈ WS) ∧ Cond.instanceMethod y_D_slotWith ∈ WS ∧ Cond.selects R_D y_D_slotWith y_D_slotWith ∈ WS := ⟨⟨ws_at 277 rfl rfl, ws_at 280 rfl rfl, ws_at 60 rfl rfl⟩, ws_at 278 rfl rfl, ws_at 279 rfl rfl⟩
set_option maxRecDepth 100000 in
theorem ml_D_33 : (Cond.methodLink R_D 33 y_C_isSame ∈ WS ∧ Cond.code y_C_isSame c_C_isSame 2 (some .boolean) ∈ WS ∧ Cond.initialized R_C ∈ WS) ∧ Cond.instanceMethod y_C_isSame ∈ WS ∧ Cond.selects R_C y_C_isSame y_C_isSame ∈ WS := ⟨⟨ws_at 281 rfl rfl, ws_at 284 rfl rfl, ws_at 58 rfl rfl⟩, ws_at 282 rfl rfl, ws_at 283 rfl rfl⟩
set_option maxRecDepth 100000 in
theorem ml_E_228 : (Cond.methodLink R_E 228 y_E_putCopy ∈ WS ∧ Cond.code y_E_putCopy c_E_putCopy 5 (some .boolean) ∈ WS ∧ Cond.initialized R_E ∈ WS) ∧ Cond.instanceMethod y_E_putCopy ∈ WS ∧ Cond.selects R_E y_E_putCopy y_E_putCopy ∈ WS := ⟨⟨ws_at 285 rfl rfl, ws_at 288 rfl rfl, ws_at 56 rfl rfl⟩, ws_at 287 rfl rfl, ws_at 12 rfl rfl⟩
set_option maxRecDepth 100000 in
theorem ml_E_218 : (Cond.methodLink R_E 218 y_E_mayAct ∈ WS ∧ Cond.code y_E_mayAct c_E_mayAct 1 (some .boolean) ∈ WS ∧ Cond.initialized R_E ∈ WS) ∧ Cond.instanceMethod y_E_mayAct ∈ WS ∧ Cond.selects R_E y_E_mayAct y_E_mayAct ∈ WS := ⟨⟨ws_at 289 rfl rfl, ws_at 292 rfl rfl, ws_at 56 rfl rfl⟩, ws_at 291 rfl rfl, ws_at 13 rfl rfl⟩
set_option maxRecDepth 100000 in
theorem ml_E_181 : (Cond.methodLink R_E 181 y_E_goDown ∈ WS ∧ Cond.code y_E_goDown c_E_goDown 1 none ∈ WS ∧ Cond.initialized R_E ∈ WS) ∧ Cond.instanceMethod y_E_goDown ∈ WS ∧ Cond.selects R_E y_E_goDown y_E_goDown ∈ WS := ⟨⟨ws_at 293 rfl rfl, ws_at 296 rfl rfl, ws_at 56 rfl rfl⟩, ws_at 295 rfl rfl, ws_at 14 rfl rfl⟩
set_option maxRecDepth 100000 in
theorem ml_W_26 : (Cond.methodLink R_W 26 y_E_extend ∈ WS ∧ Cond.code y_E_extend c_E_extend 5 (some .int) ∈ WS ∧ Cond.initialized R_E ∈ WS) ∧ Cond.instanceMethod y_E_extend ∈ WS ∧ Cond.selects R_E y_E_extend y_E_extend ∈ WS := ⟨⟨ws_at 297 rfl rfl, ws_at 300 rfl rfl, ws_at 56 rfl rfl⟩, ws_at 298 rfl rfl, ws_at 299 rfl rfl⟩
set_option maxRecDepth 100000 in
theorem ml_E_108 : (Cond.methodLink R_E 108 y_E_isMoving ∈ WS ∧ Cond.code y_E_isMoving c_E_isMoving 3 (some .boolean) ∈ WS ∧ Cond.initialized R_E ∈ WS) ∧ Cond.instanceMethod y_E_isMoving ∈ WS ∧ Cond.selects R_E y_E_isMoving y_E_isMoving ∈ WS := ⟨⟨ws_at 301 rfl rfl, ws_at 304 rfl rfl, ws_at 56 rfl rfl⟩, ws_at 303 rfl rfl, ws_at 15 rfl rfl⟩
set_option maxRecDepth 100000 in
theorem ml_E_112 : (Cond.methodLink R_E 112 y_U_withRows ∈ WS ∧ Cond.code y_U_withRows c_U_withRows 2 (some (.object "ExtentGroup$Volume")) ∈ WS ∧ Cond.initialized R_U ∈ WS) ∧ Cond.instanceMethod y_U_withRows ∈ WS ∧ Cond.selects R_U y_U_withRows y_U_withRows ∈ WS := ⟨⟨ws_at 305 rfl rfl, ws_at 308 rfl rfl, ws_at 62 rfl rfl⟩, ws_at 306 rfl rfl, ws_at 307 rfl rfl⟩
set_option maxRecDepth 100000 in
theorem cl_U_10 : Cond.classLink R_U 10 "ExtentGroup$Volume" ∈ WS := ws_at 309 rfl rfl
set_option maxRecDepth 100000 in
theorem ml_U_25 : (Cond.methodLink R_U 25 y_JA_copyOf ∈ WS ∧ Cond.code y_JA_copyOf c_JA_copyOf 3 (some (.array .int)) ∈ WS ∧ Cond.initialized R_JA ∈ WS) ∧ Cond.static y_JA_copyOf ∈ WS := ⟨⟨ws_at 310 rfl rfl, ws_at 312 rfl rfl, ws_at 63 rfl rfl⟩, ws_at 311 rfl rfl⟩
set_option maxRecDepth 100000 in
theorem cl_JA_317 : Cond.classLink R_JA 317 "[I" ∈ WS := ws_at 319 rfl rfl
set_option maxRecDepth 100000 in
theorem ml_JA_304 : (Cond.methodLink R_JA 304 y_JM_min ∈ WS ∧ Cond.code y_JM_min c_JM_min 2 (some .int) ∈ WS ∧ Cond.initialized R_JM ∈ WS) ∧ Cond.static y_JM_min ∈ WS := ⟨⟨ws_at 320 rfl rfl, ws_at 80 rfl rfl, ws_at 57 rfl rfl⟩, ws_at 79 rfl rfl⟩
set_option maxRecDepth 100000 in
theorem ml_U_31 : (Cond.methodLink R_U 31 y_U_init ∈ WS ∧ Cond.code y_U_init c_U_init 5 none ∈ WS ∧ Cond.initialized R_U ∈ WS) ∧ Cond.instanceMethod y_U_init ∈ WS := ⟨⟨ws_at 324 rfl rfl, ws_at 195 rfl rfl, ws_at 62 rfl rfl⟩, ws_at 194 rfl rfl⟩
set_option maxRecDepth 100000 in
theorem ml_W_31 : (Cond.methodLink R_W 31 y_E_reduce ∈ WS ∧ Cond.code y_E_reduce c_E_reduce 6 (some .int) ∈ WS ∧ Cond.initialized R_E ∈ WS) ∧ Cond.instanceMethod y_E_reduce ∈ WS ∧ Cond.selects R_E y_E_reduce y_E_reduce ∈ WS := ⟨⟨ws_at 325 rfl rfl, ws_at 328 rfl rfl, ws_at 56 rfl rfl⟩, ws_at 326 rfl rfl, ws_at 327 rfl rfl⟩
set_option maxRecDepth 100000 in
theorem ml_W_35 : (Cond.methodLink R_W 35 y_E_move ∈ WS ∧ Cond.code y_E_move c_E_move 7 (some .int) ∈ WS ∧ Cond.initialized R_E ∈ WS) ∧ Cond.instanceMethod y_E_move ∈ WS ∧ Cond.selects R_E y_E_move y_E_move ∈ WS := ⟨⟨ws_at 329 rfl rfl, ws_at 332 rfl rfl, ws_at 56 rfl rfl⟩, ws_at 330 rfl rfl, ws_at 331 rfl rfl⟩
set_option maxRecDepth 100000 in
theorem ml_E_115 : (Cond.methodLink R_E 115 y_U_hasExtent ∈ WS ∧ Cond.code y_U_hasExtent c_U_hasExtent 2 (some .boolean) ∈ WS ∧ Cond.initialized R_U ∈ WS) ∧ Cond.instanceMethod y_U_hasExtent ∈ WS ∧ Cond.selects R_U y_U_hasExtent y_U_hasExtent ∈ WS := ⟨⟨ws_at 333 rfl rfl, ws_at 336 rfl rfl, ws_at 62 rfl rfl⟩, ws_at 334 rfl rfl, ws_at 335 rfl rfl⟩
set_option maxRecDepth 100000 in
theorem ml_E_118 : (Cond.methodLink R_E 118 y_E_isDisk ∈ WS ∧ Cond.code y_E_isDisk c_E_isDisk 2 (some .boolean) ∈ WS ∧ Cond.initialized R_E ∈ WS) ∧ Cond.instanceMethod y_E_isDisk ∈ WS ∧ Cond.selects R_E y_E_isDisk y_E_isDisk ∈ WS := ⟨⟨ws_at 337 rfl rfl, ws_at 340 rfl rfl, ws_at 56 rfl rfl⟩, ws_at 339 rfl rfl, ws_at 16 rfl rfl⟩
set_option maxRecDepth 100000 in
theorem ml_E_128 : (Cond.methodLink R_E 128 y_E_diskOf ∈ WS ∧ Cond.code y_E_diskOf c_E_diskOf 2 (some (.object "ExtentGroup$Disk")) ∈ WS ∧ Cond.initialized R_E ∈ WS) ∧ Cond.instanceMethod y_E_diskOf ∈ WS ∧ Cond.selects R_E y_E_diskOf y_E_diskOf ∈ WS := ⟨⟨ws_at 341 rfl rfl, ws_at 344 rfl rfl, ws_at 56 rfl rfl⟩, ws_at 343 rfl rfl, ws_at 17 rfl rfl⟩
set_option maxRecDepth 100000 in
theorem cl_E_142 : Cond.classLink R_E 142 "ExtentGroup$Move" ∈ WS := ws_at 345 rfl rfl
set_option maxRecDepth 100000 in
theorem ml_E_144 : (Cond.methodLink R_E 144 y_V_init ∈ WS ∧ Cond.code y_V_init c_V_init 5 none ∈ WS ∧ Cond.initialized R_V ∈ WS) ∧ Cond.instanceMethod y_V_init ∈ WS := ⟨⟨ws_at 347 rfl rfl, ws_at 349 rfl rfl, ws_at 66 rfl rfl⟩, ws_at 348 rfl rfl⟩
set_option maxRecDepth 100000 in
theorem fl_V_7 : Cond.fieldLink R_V 7 "ExtentGroup$Move" "volume" "I" ∈ WS := ws_at 351 rfl rfl
set_option maxRecDepth 100000 in
theorem fl_L_26 : Cond.fieldLink R_L 26 "ExtentGroup$Move" "volume" "I" ∈ WS := ws_at 352 rfl rfl
set_option maxRecDepth 100000 in
theorem fl_E_198 : Cond.fieldLink R_E 198 "ExtentGroup$Move" "volume" "I" ∈ WS := ws_at 353 rfl rfl
set_option maxRecDepth 100000 in
theorem fl_V_13 : Cond.fieldLink R_V 13 "ExtentGroup$Move" "extent" "I" ∈ WS := ws_at 354 rfl rfl
set_option maxRecDepth 100000 in
theorem fl_L_36 : Cond.fieldLink R_L 36 "ExtentGroup$Move" "extent" "I" ∈ WS := ws_at 355 rfl rfl
set_option maxRecDepth 100000 in
theorem fl_E_201 : Cond.fieldLink R_E 201 "ExtentGroup$Move" "extent" "I" ∈ WS := ws_at 356 rfl rfl
set_option maxRecDepth 100000 in
theorem fl_V_16 : Cond.fieldLink R_V 16 "ExtentGroup$Move" "source" "I" ∈ WS := ws_at 357 rfl rfl
set_option maxRecDepth 100000 in
theorem fl_E_151 : Cond.fieldLink R_E 151 "ExtentGroup$Move" "source" "I" ∈ WS := ws_at 358 rfl rfl
set_option maxRecDepth 100000 in
theorem fl_V_19 : Cond.fieldLink R_V 19 "ExtentGroup$Move" "target" "I" ∈ WS := ws_at 359 rfl rfl
set_option maxRecDepth 100000 in
theorem fl_L_39 : Cond.fieldLink R_L 39 "ExtentGroup$Move" "target" "I" ∈ WS := ws_at 360 rfl rfl
set_option maxRecDepth 100000 in
theorem fl_E_154 : Cond.fieldLink R_E 154 "ExtentGroup$Move" "target" "I" ∈ WS := ws_at 361 rfl rfl
set_option maxRecDepth 100000 in
theorem ml_E_147 : (Cond.methodLink R_E 147 y_L_withMove ∈ WS ∧ Cond.code y_L_withMove c_L_withMove 2 (some (.object "ExtentGroup$Layout")) ∈ WS ∧ Cond.initialized R_L ∈ WS) ∧ Cond.instanceMethod y_L_withMove ∈ WS ∧ Cond.selects R_L y_L_withMove y_L_withMove ∈ WS := ⟨⟨ws_at 371 rfl rfl, ws_at 374 rfl rfl, ws_at 59 rfl rfl⟩, ws_at 372 rfl rfl, ws_at 373 rfl rfl⟩
set_option maxRecDepth 100000 in
theorem ml_W_39 : (Cond.methodLink R_W 39 y_E_step ∈ WS ∧ Cond.code y_E_step c_E_step 2 (some .int) ∈ WS ∧ Cond.initialized R_E ∈ WS) ∧ Cond.instanceMethod y_E_step ∈ WS ∧ Cond.selects R_E y_E_step y_E_step ∈ WS := ⟨⟨ws_at 375 rfl rfl, ws_at 378 rfl rfl, ws_at 56 rfl rfl⟩, ws_at 376 rfl rfl, ws_at 377 rfl rfl⟩
set_option maxRecDepth 100000 in
theorem ml_E_157 : (Cond.methodLink R_E 157 y_L_withMoveDone ∈ WS ∧ Cond.code y_L_withMoveDone c_L_withMoveDone 2 (some (.object "ExtentGroup$Layout")) ∈ WS ∧ Cond.initialized R_L ∈ WS) ∧ Cond.instanceMethod y_L_withMoveDone ∈ WS ∧ Cond.selects R_L y_L_withMoveDone y_L_withMoveDone ∈ WS := ⟨⟨ws_at 379 rfl rfl, ws_at 382 rfl rfl, ws_at 59 rfl rfl⟩, ws_at 380 rfl rfl, ws_at 381 rfl rfl⟩
set_option maxRecDepth 100000 in
theorem ml_L_32 : (Cond.methodLink R_L 32 y_L_volumeAt ∈ WS ∧ Cond.code y_L_volumeAt c_L_volumeAt 2 (some (.object "ExtentGroup$Volume")) ∈ WS ∧ Cond.initialized R_L ∈ WS) ∧ Cond.instanceMethod y_L_volumeAt ∈ WS ∧ Cond.selects R_L y_L_volumeAt y_L_volumeAt ∈ WS := ⟨⟨ws_at 383 rfl rfl, ws_at 227 rfl rfl, ws_at 59 rfl rfl⟩, ws_at 225 rfl rfl, ws_at 226 rfl rfl⟩
set_option maxRecDepth 100000 in
theorem ml_L_42 : (Cond.methodLink R_L 42 y_U_withPlace ∈ WS ∧ Cond.code y_U_withPlace c_U_withPlace 4 (some (.object "ExtentGroup$Volume")) ∈ WS ∧ Cond.initialized R_U ∈ WS) ∧ Cond.instanceMethod y_U_withPlace ∈ WS ∧ Cond.selects R_U y_U_withPlace y_U_withPlace ∈ WS := ⟨⟨ws_at 384 rfl rfl, ws_at 387 rfl rfl, ws_at 62 rfl rfl⟩, ws_at 385 rfl rfl, ws_at 386 rfl rfl⟩
set_option maxRecDepth 100000 in
theorem ml_U_34 : (Cond.methodLink R_U 34 y_U_withRows ∈ WS ∧ Cond.code y_U_withRows c_U_withRows 2 (some (.object "ExtentGroup$Volume")) ∈ WS ∧ Cond.initialized R_U ∈ WS) ∧ Cond.instanceMethod y_U_withRows ∈ WS ∧ Cond.selects R_U y_U_withRows y_U_withRows ∈ WS := ⟨⟨ws_at 388 rfl rfl, ws_at 308 rfl rfl, ws_at 62 rfl rfl⟩, ws_at 306 rfl rfl, ws_at 307 rfl rfl⟩
set_option maxRecDepth 100000 in
theorem ml_U_38 : (Cond.methodLink R_U 38 y_U_hasExtent ∈ WS ∧ Cond.code y_U_hasExtent c_U_hasExtent 2 (some .boolean) ∈ WS ∧ Cond.initialized R_U ∈ WS) ∧ Cond.instanceMethod y_U_hasExtent ∈ WS ∧ Cond.selects R_U y_U_hasExtent y_U_hasExtent ∈ WS := ⟨⟨ws_at 389 rfl rfl, ws_at 336 rfl rfl, ws_at 62 rfl rfl⟩, ws_at 334 rfl rfl, ws_at 335 rfl rfl⟩
set_option maxRecDepth 100000 in
theorem ml_E_161 : (Cond.methodLink R_E 161 y_E_cellAt ∈ WS ∧ Cond.code y_E_cellAt c_E_cellAt 3 (some .int) ∈ WS ∧ Cond.initialized R_E ∈ WS) ∧ Cond.instanceMethod y_E_cellAt ∈ WS ∧ Cond.selects R_E y_E_cellAt y_E_cellAt ∈ WS := ⟨⟨ws_at 390 rfl rfl, ws_at 393 rfl rfl, ws_at 56 rfl rfl⟩, ws_at 392 rfl rfl, ws_at 18 rfl rfl⟩
set_option maxRecDepth 100000 in
theorem ml_E_164 : (Cond.methodLink R_E 164 y_E_putCell ∈ WS ∧ Cond.code y_E_putCell c_E_putCell 4 (some .boolean) ∈ WS ∧ Cond.initialized R_E ∈ WS) ∧ Cond.instanceMethod y_E_putCell ∈ WS ∧ Cond.selects R_E y_E_putCell y_E_putCell ∈ WS := ⟨⟨ws_at 394 rfl rfl, ws_at 397 rfl rfl, ws_at 56 rfl rfl⟩, ws_at 396 rfl rfl, ws_at 19 rfl rfl⟩
set_option maxRecDepth 100000 in
theorem ml_W_44 : (Cond.methodLink R_W 44 y_E_cancel ∈ WS ∧ Cond.code y_E_cancel c_E_cancel 1 (some .int) ∈ WS ∧ Cond.initialized R_E ∈ WS) ∧ Cond.instanceMethod y_E_cancel ∈ WS ∧ Cond.selects R_E y_E_cancel y_E_cancel ∈ WS := ⟨⟨ws_at 398 rfl rfl, ws_at 401 rfl rfl, ws_at 56 rfl rfl⟩, ws_at 399 rfl rfl, ws_at 400 rfl rfl⟩
set_option maxRecDepth 100000 in
theorem ml_W_48 : (Cond.methodLink R_W 48 y_E_read ∈ WS ∧ Cond.code y_E_read c_E_read 5 (some .int) ∈ WS ∧ Cond.initialized R_E ∈ WS) ∧ Cond.instanceMethod y_E_read ∈ WS ∧ Cond.selects R_E y_E_read y_E_read ∈ WS := ⟨⟨ws_at 402 rfl rfl, ws_at 405 rfl rfl, ws_at 56 rfl rfl⟩, ws_at 403 rfl rfl, ws_at 404 rfl rfl⟩
set_option maxRecDepth 100000 in
theorem ml_E_168 : (Cond.methodLink R_E 168 y_U_hasBlock ∈ WS ∧ Cond.code y_U_hasBlock c_U_hasBlock 2 (some .boolean) ∈ WS ∧ Cond.initialized R_U ∈ WS) ∧ Cond.instanceMethod y_U_hasBlock ∈ WS ∧ Cond.selects R_U y_U_hasBlock y_U_hasBlock ∈ WS := ⟨⟨ws_at 406 rfl rfl, ws_at 409 rfl rfl, ws_at 62 rfl rfl⟩, ws_at 407 rfl rfl, ws_at 408 rfl rfl⟩
set_option maxRecDepth 100000 in
theorem ml_E_171 : (Cond.methodLink R_E 171 y_U_extentOf ∈ WS ∧ Cond.code y_U_extentOf c_U_extentOf 4 (some .int) ∈ WS ∧ Cond.initialized R_U ∈ WS) ∧ Cond.instanceMethod y_U_extentOf ∈ WS ∧ Cond.selects R_U y_U_extentOf y_U_extentOf ∈ WS := ⟨⟨ws_at 410 rfl rfl, ws_at 413 rfl rfl, ws_at 62 rfl rfl⟩, ws_at 411 rfl rfl, ws_at 412 rfl rfl⟩
set_option maxRecDepth 100000 in
theorem ml_E_174 : (Cond.methodLink R_E 174 y_U_cellOf ∈ WS ∧ Cond.code y_U_cellOf c_U_cellOf 3 (some .int) ∈ WS ∧ Cond.initialized R_U ∈ WS) ∧ Cond.instanceMethod y_U_cellOf ∈ WS ∧ Cond.selects R_U y_U_cellOf y_U_cellOf ∈ WS := ⟨⟨ws_at 414 rfl rfl, ws_at 417 rfl rfl, ws_at 62 rfl rfl⟩, ws_at 415 rfl rfl, ws_at 416 rfl rfl⟩
set_option maxRecDepth 100000 in
theorem ml_W_52 : (Cond.methodLink R_W 52 y_E_write ∈ WS ∧ Cond.code y_E_write c_E_write 9 (some .int) ∈ WS ∧ Cond.initialized R_E ∈ WS) ∧ Cond.instanceMethod y_E_write ∈ WS ∧ Cond.selects R_E y_E_write y_E_write ∈ WS := ⟨⟨ws_at 418 rfl rfl, ws_at 421 rfl rfl, ws_at 56 rfl rfl⟩, ws_at 419 rfl rfl, ws_at 420 rfl rfl⟩
set_option maxRecDepth 100000 in
theorem ml_E_177 : (Cond.methodLink R_E 177 y_E_copiedTo ∈ WS ∧ Cond.code y_E_copiedTo c_E_copiedTo 5 (some .int) ∈ WS ∧ Cond.initialized R_E ∈ WS) ∧ Cond.instanceMethod y_E_copiedTo ∈ WS ∧ Cond.selects R_E y_E_copiedTo y_E_copiedTo ∈ WS := ⟨⟨ws_at 422 rfl rfl, ws_at 425 rfl rfl, ws_at 56 rfl rfl⟩, ws_at 424 rfl rfl, ws_at 20 rfl rfl⟩
set_option maxRecDepth 100000 in
theorem ml_W_56 : (Cond.methodLink R_W 56 y_E_pull ∈ WS ∧ Cond.code y_E_pull c_E_pull 2 (some .boolean) ∈ WS ∧ Cond.initialized R_E ∈ WS) ∧ Cond.instanceMethod y_E_pull ∈ WS ∧ Cond.selects R_E y_E_pull y_E_pull ∈ WS := ⟨⟨ws_at 426 rfl rfl, ws_at 429 rfl rfl, ws_at 56 rfl rfl⟩, ws_at 427 rfl rfl, ws_at 428 rfl rfl⟩
set_option maxRecDepth 100000 in
theorem ml_W_61 : (Cond.methodLink R_W 61 y_E_plug ∈ WS ∧ Cond.code y_E_plug c_E_plug 2 (some .boolean) ∈ WS ∧ Cond.initialized R_E ∈ WS) ∧ Cond.instanceMethod y_E_plug ∈ WS ∧ Cond.selects R_E y_E_plug y_E_plug ∈ WS := ⟨⟨ws_at 430 rfl rfl, ws_at 433 rfl rfl, ws_at 56 rfl rfl⟩, ws_at 431 rfl rfl, ws_at 432 rfl rfl⟩
set_option maxRecDepth 100000 in
theorem ml_W_65 : (Cond.methodLink R_W 65 y_E_arm ∈ WS ∧ Cond.code y_E_arm c_E_arm 2 (some .boolean) ∈ WS ∧ Cond.initialized R_E ∈ WS) ∧ Cond.instanceMethod y_E_arm ∈ WS ∧ Cond.selects R_E y_E_arm y_E_arm ∈ WS := ⟨⟨ws_at 434 rfl rfl, ws_at 437 rfl rfl, ws_at 56 rfl rfl⟩, ws_at 435 rfl rfl, ws_at 436 rfl rfl⟩
set_option maxRecDepth 100000 in
theorem ml_W_69 : (Cond.methodLink R_W 69 y_E_crash ∈ WS ∧ Cond.code y_E_crash c_E_crash 1 (some .boolean) ∈ WS ∧ Cond.initialized R_E ∈ WS) ∧ Cond.instanceMethod y_E_crash ∈ WS ∧ Cond.selects R_E y_E_crash y_E_crash ∈ WS := ⟨⟨ws_at 438 rfl rfl, ws_at 441 rfl rfl, ws_at 56 rfl rfl⟩, ws_at 439 rfl rfl, ws_at 440 rfl rfl⟩
set_option maxRecDepth 100000 in
theorem ml_W_74 : (Cond.methodLink R_W 74 y_E_activate ∈ WS ∧ Cond.code y_E_activate c_E_activate 3 (some .int) ∈ WS ∧ Cond.initialized R_E ∈ WS) ∧ Cond.instanceMethod y_E_activate ∈ WS ∧ Cond.selects R_E y_E_activate y_E_activate ∈ WS := ⟨⟨ws_at 442 rfl rfl, ws_at 445 rfl rfl, ws_at 56 rfl rfl⟩, ws_at 443 rfl rfl, ws_at 444 rfl rfl⟩
set_option maxRecDepth 100000 in
theorem ml_E_184 : (Cond.methodLink R_E 184 y_E_choose ∈ WS ∧ Cond.code y_E_choose c_E_choose 6 (some (.object "ExtentGroup$Copy")) ∈ WS ∧ Cond.initialized R_E ∈ WS) ∧ Cond.instanceMethod y_E_choose ∈ WS ∧ Cond.selects R_E y_E_choose y_E_choose ∈ WS := ⟨⟨ws_at 446 rfl rfl, ws_at 449 rfl rfl, ws_at 56 rfl rfl⟩, ws_at 448 rfl rfl, ws_at 21 rfl rfl⟩
set_option maxRecDepth 100000 in
theorem ml_E_232 : (Cond.methodLink R_E 232 y_E_presentHolders ∈ WS ∧ Cond.code y_E_presentHolders c_E_presentHolders 4 (some .int) ∈ WS ∧ Cond.initialized R_E ∈ WS) ∧ Cond.instanceMethod y_E_presentHolders ∈ WS ∧ Cond.selects R_E y_E_presentHolders y_E_presentHolders ∈ WS := ⟨⟨ws_at 450 rfl rfl, ws_at 453 rfl rfl, ws_at 56 rfl rfl⟩, ws_at 452 rfl rfl, ws_at 22 rfl rfl⟩
set_option maxRecDepth 100000 in
theorem ml_E_235 : (Cond.methodLink R_E 235 y_D_slotWith ∈ WS ∧ Cond.code y_D_slotWith c_D_slotWith 3 (some .int) ∈ WS ∧ Cond.initialized R_D ∈ WS) ∧ Cond.instanceMethod y_D_slotWith ∈ WS ∧ Cond.selects R_D y_D_slotWith y_D_slotWith ∈ WS := ⟨⟨ws_at 454 rfl rfl, ws_at 280 rfl rfl, ws_at 60 rfl rfl⟩, ws_at 278 rfl rfl, ws_at 279 rfl rfl⟩
set_option maxRecDepth 100000 in
theorem ml_E_188 : (Cond.methodLink R_E 188 y_E_bringTo ∈ WS ∧ Cond.code y_E_bringTo c_E_bringTo 5 (some .boolean) ∈ WS ∧ Cond.initialized R_E ∈ WS) ∧ Cond.instanceMethod y_E_bringTo ∈ WS ∧ Cond.selects R_E y_E_bringTo y_E_bringTo ∈ WS := ⟨⟨ws_at 455 rfl rfl, ws_at 458 rfl rfl, ws_at 56 rfl rfl⟩, ws_at 457 rfl rfl, ws_at 23 rfl rfl⟩
set_option maxRecDepth 100000 in
theorem ml_W_78 : (Cond.methodLink R_W 78 y_E_where ∈ WS ∧ Cond.code y_E_where c_E_where 4 (some .int) ∈ WS ∧ Cond.initialized R_E ∈ WS) ∧ Cond.instanceMethod y_E_where ∈ WS ∧ Cond.selects R_E y_E_where y_E_where ∈ WS := ⟨⟨ws_at 459 rfl rfl, ws_at 462 rfl rfl, ws_at 56 rfl rfl⟩, ws_at 460 rfl rfl, ws_at 461 rfl rfl⟩
set_option maxRecDepth 100000 in
theorem ml_W_82 : (Cond.methodLink R_W 82 y_E_rows ∈ WS ∧ Cond.code y_E_rows c_E_rows 3 (some .int) ∈ WS ∧ Cond.initialized R_E ∈ WS) ∧ Cond.instanceMethod y_E_rows ∈ WS ∧ Cond.selects R_E y_E_rows y_E_rows ∈ WS := ⟨⟨ws_at 463 rfl rfl, ws_at 466 rfl rfl, ws_at 56 rfl rfl⟩, ws_at 464 rfl rfl, ws_at 465 rfl rfl⟩
set_option maxRecDepth 100000 in
theorem ml_W_87 : (Cond.methodLink R_W 87 y_E_free ∈ WS ∧ Cond.code y_E_free c_E_free 2 (some .int) ∈ WS ∧ Cond.initialized R_E ∈ WS) ∧ Cond.instanceMethod y_E_free ∈ WS ∧ Cond.selects R_E y_E_free y_E_free ∈ WS := ⟨⟨ws_at 467 rfl rfl, ws_at 470 rfl rfl, ws_at 56 rfl rfl⟩, ws_at 468 rfl rfl, ws_at 469 rfl rfl⟩
set_option maxRecDepth 100000 in
theorem ml_W_91 : (Cond.methodLink R_W 91 y_E_moving ∈ WS ∧ Cond.code y_E_moving c_E_moving 2 (some .int) ∈ WS ∧ Cond.initialized R_E ∈ WS) ∧ Cond.instanceMethod y_E_moving ∈ WS ∧ Cond.selects R_E y_E_moving y_E_moving ∈ WS := ⟨⟨ws_at 471 rfl rfl, ws_at 474 rfl rfl, ws_at 56 rfl rfl⟩, ws_at 472 rfl rfl, ws_at 473 rfl rfl⟩
set_option maxRecDepth 100000 in
theorem ml_W_95 : (Cond.methodLink R_W 95 y_E_sequence ∈ WS ∧ Cond.code y_E_sequence c_E_sequence 1 (some .int) ∈ WS ∧ Cond.initialized R_E ∈ WS) ∧ Cond.instanceMethod y_E_sequence ∈ WS ∧ Cond.selects R_E y_E_sequence y_E_sequence ∈ WS := ⟨⟨ws_at 475 rfl rfl, ws_at 478 rfl rfl, ws_at 56 rfl rfl⟩, ws_at 476 rfl rfl, ws_at 477 rfl rfl⟩
set_option maxRecDepth 100000 in
theorem ml_W_99 : (Cond.methodLink R_W 99 y_E_slot ∈ WS ∧ Cond.code y_E_slot c_E_slot 4 (some .int) ∈ WS ∧ Cond.initialized R_E ∈ WS) ∧ Cond.instanceMethod y_E_slot ∈ WS ∧ Cond.selects R_E y_E_slot y_E_slot ∈ WS := ⟨⟨ws_at 479 rfl rfl, ws_at 482 rfl rfl, ws_at 56 rfl rfl⟩, ws_at 480 rfl rfl, ws_at 481 rfl rfl⟩
set_option maxRecDepth 100000 in
theorem ml_W_9 : (Cond.methodLink R_W 9 y_W_cell ∈ WS ∧ Cond.code y_W_cell c_W_cell 2 (some .int) ∈ WS ∧ Cond.initialized R_W ∈ WS) ∧ Cond.static y_W_cell ∈ WS := ⟨⟨ws_at 483 rfl rfl, ws_at 485 rfl rfl, ws_at 55 rfl rfl⟩, ws_at 484 rfl rfl⟩
set_option maxRecDepth 100000 in
theorem cl_W_18 : Cond.classLink R_W 18 "ExtentGroupModel" ∈ WS := ws_at 486 rfl rfl
set_option maxRecDepth 100000 in
theorem ml_W_20 : (Cond.methodLink R_W 20 y_M_init ∈ WS ∧ Cond.code y_M_init c_M_init 4 none ∈ WS ∧ Cond.initialized R_M ∈ WS) ∧ Cond.instanceMethod y_M_init ∈ WS := ⟨⟨ws_at 488 rfl rfl, ws_at 490 rfl rfl, ws_at 61 rfl rfl⟩, ws_at 489 rfl rfl⟩
set_option maxRecDepth 100000 in
theorem fl_M_29 : Cond.fieldLink R_M 29 "ExtentGroupModel" "n" "I" ∈ WS := ws_at 492 rfl rfl
set_option maxRecDepth 100000 in
theorem fl_M_33 : Cond.fieldLink R_M 33 "ExtentGroupModel" "extents" "I" ∈ WS := ws_at 493 rfl rfl
set_option maxRecDepth 100000 in
theorem fl_M_7 : Cond.fieldLink R_M 7 "ExtentGroupModel" "here" "[Z" ∈ WS := ws_at 494 rfl rfl
set_option maxRecDepth 100000 in
theorem fl_M_13 : Cond.fieldLink R_M 13 "ExtentGroupModel" "cell" "[I" ∈ WS := ws_at 495 rfl rfl
set_option maxRecDepth 100000 in
theorem fl_M_17 : Cond.fieldLink R_M 17 "ExtentGroupModel" "maps" "[I" ∈ WS := ws_at 496 rfl rfl
set_option maxRecDepth 100000 in
theorem fl_M_20 : Cond.fieldLink R_M 20 "ExtentGroupModel" "slotNumber" "[I" ∈ WS := ws_at 497 rfl rfl
set_option maxRecDepth 100000 in
theorem fl_M_23 : Cond.fieldLink R_M 23 "ExtentGroupModel" "slotStamp" "[I" ∈ WS := ws_at 498 rfl rfl
set_option maxRecDepth 100000 in
theorem fl_M_26 : Cond.fieldLink R_M 26 "ExtentGroupModel" "written" "[I" ∈ WS := ws_at 499 rfl rfl
set_option maxRecDepth 100000 in
theorem fl_M_36 : Cond.fieldLink R_M 36 "ExtentGroupModel" "number" "I" ∈ WS := ws_at 500 rfl rfl
set_option maxRecDepth 100000 in
theorem fl_M_39 : Cond.fieldLink R_M 39 "ExtentGroupModel" "stamp" "I" ∈ WS := ws_at 501 rfl rfl
set_option maxRecDepth 100000 in
theorem fl_M_42 : Cond.fieldLink R_M 42 "ExtentGroupModel" "stamps" "I" ∈ WS := ws_at 502 rfl rfl
set_option maxRecDepth 100000 in
theorem fl_M_45 : Cond.fieldLink R_M 45 "ExtentGroupModel" "up" "Z" ∈ WS := ws_at 503 rfl rfl
set_option maxRecDepth 100000 in
theorem fl_M_126 : Cond.fieldLink R_M 126 "ExtentGroupModel" "copied" "I" ∈ WS := ws_at 504 rfl rfl
set_option maxRecDepth 100000 in
theorem fl_M_80 : Cond.fieldLink R_M 80 "ExtentGroupModel" "armed" "Z" ∈ WS := ws_at 505 rfl rfl
set_option maxRecDepth 100000 in
theorem fl_M_83 : Cond.fieldLink R_M 83 "ExtentGroupModel" "until" "I" ∈ WS := ws_at 506 rfl rfl
set_option maxRecDepth 100000 in
theorem ml_W_25 : (Cond.methodLink R_W 25 y_M_create ∈ WS ∧ Cond.code y_M_create c_M_create 6 (some .int) ∈ WS ∧ Cond.initialized R_M ∈ WS) ∧ Cond.instanceMethod y_M_create ∈ WS ∧ Cond.selects R_M y_M_create y_M_create ∈ WS := ⟨⟨ws_at 538 rfl rfl, ws_at 541 rfl rfl, ws_at 61 rfl rfl⟩, ws_at 539 rfl rfl, ws_at 540 rfl rfl⟩
set_option maxRecDepth 100000 in
theorem ml_M_108 : (Cond.methodLink R_M 108 y_M_few ∈ WS ∧ Cond.code y_M_few c_M_few 3 (some .boolean) ∈ WS ∧ Cond.initialized R_M ∈ WS) ∧ Cond.instanceMethod y_M_few ∈ WS ∧ Cond.selects R_M y_M_few y_M_few ∈ WS := ⟨⟨ws_at 542 rfl rfl, ws_at 545 rfl rfl, ws_at 61 rfl rfl⟩, ws_at 544 rfl rfl, ws_at 24 rfl rfl⟩
set_option maxRecDepth 100000 in
theorem ml_M_104 : (Cond.methodLink R_M 104 y_M_quorum ∈ WS ∧ Cond.code y_M_quorum c_M_quorum 2 (some .boolean) ∈ WS ∧ Cond.initialized R_M ∈ WS) ∧ Cond.instanceMethod y_M_quorum ∈ WS ∧ Cond.selects R_M y_M_quorum y_M_quorum ∈ WS := ⟨⟨ws_at 546 rfl rfl, ws_at 549 rfl rfl, ws_at 61 rfl rfl⟩, ws_at 548 rfl rfl, ws_at 25 rfl rfl⟩
set_option maxRecDepth 100000 in
theorem ml_M_53 : (Cond.methodLink R_M 53 y_M_rowsOf ∈ WS ∧ Cond.code y_M_rowsOf c_M_rowsOf 3 (some .int) ∈ WS ∧ Cond.initialized R_M ∈ WS) ∧ Cond.instanceMethod y_M_rowsOf ∈ WS ∧ Cond.selects R_M y_M_rowsOf y_M_rowsOf ∈ WS := ⟨⟨ws_at 550 rfl rfl, ws_at 553 rfl rfl, ws_at 61 rfl rfl⟩, ws_at 552 rfl rfl, ws_at 26 rfl rfl⟩
set_option maxRecDepth 100000 in
theorem ml_M_49 : (Cond.methodLink R_M 49 y_M_get ∈ WS ∧ Cond.code y_M_get c_M_get 3 (some .int) ∈ WS ∧ Cond.initialized R_M ∈ WS) ∧ Cond.instanceMethod y_M_get ∈ WS ∧ Cond.selects R_M y_M_get y_M_get ∈ WS := ⟨⟨ws_at 554 rfl rfl, ws_at 557 rfl rfl, ws_at 61 rfl rfl⟩, ws_at 556 rfl rfl, ws_at 27 rfl rfl⟩
set_option maxRecDepth 100000 in
theorem ml_M_90 : (Cond.methodLink R_M 90 y_M_copyMap ∈ WS ∧ Cond.code y_M_copyMap c_M_copyMap 4 none ∈ WS ∧ Cond.initialized R_M ∈ WS) ∧ Cond.instanceMethod y_M_copyMap ∈ WS ∧ Cond.selects R_M y_M_copyMap y_M_copyMap ∈ WS := ⟨⟨ws_at 558 rfl rfl, ws_at 561 rfl rfl, ws_at 61 rfl rfl⟩, ws_at 560 rfl rfl, ws_at 28 rfl rfl⟩
set_option maxRecDepth 100000 in
theorem ml_M_76 : (Cond.methodLink R_M 76 y_M_set ∈ WS ∧ Cond.code y_M_set c_M_set 4 none ∈ WS ∧ Cond.initialized R_M ∈ WS) ∧ Cond.instanceMethod y_M_set ∈ WS ∧ Cond.selects R_M y_M_set y_M_set ∈ WS := ⟨⟨ws_at 562 rfl rfl, ws_at 565 rfl rfl, ws_at 61 rfl rfl⟩, ws_at 564 rfl rfl, ws_at 29 rfl rfl⟩
set_option maxRecDepth 100000 in
theorem ml_M_111 : (Cond.methodLink R_M 111 y_M_addRow ∈ WS ∧ Cond.code y_M_addRow c_M_addRow 7 (some .boolean) ∈ WS ∧ Cond.initialized R_M ∈ WS) ∧ Cond.instanceMethod y_M_addRow ∈ WS ∧ Cond.selects R_M y_M_addRow y_M_addRow ∈ WS := ⟨⟨ws_at 566 rfl rfl, ws_at 569 rfl rfl, ws_at 61 rfl rfl⟩, ws_at 568 rfl rfl, ws_at 30 rfl rfl⟩
set_option maxRecDepth 100000 in
theorem ml_M_56 : (Cond.methodLink R_M 56 y_M_width ∈ WS ∧ Cond.code y_M_width c_M_width 3 (some .int) ∈ WS ∧ Cond.initialized R_M ∈ WS) ∧ Cond.instanceMethod y_M_width ∈ WS ∧ Cond.selects R_M y_M_width y_M_width ∈ WS := ⟨⟨ws_at 570 rfl rfl, ws_at 573 rfl rfl, ws_at 61 rfl rfl⟩, ws_at 572 rfl rfl, ws_at 31 rfl rfl⟩
set_option maxRecDepth 100000 in
theorem ml_M_66 : (Cond.methodLink R_M 66 y_M_freeOf ∈ WS ∧ Cond.code y_M_freeOf c_M_freeOf 5 (some .int) ∈ WS ∧ Cond.initialized R_M ∈ WS) ∧ Cond.instanceMethod y_M_freeOf ∈ WS ∧ Cond.selects R_M y_M_freeOf y_M_freeOf ∈ WS := ⟨⟨ws_at 574 rfl rfl, ws_at 577 rfl rfl, ws_at 61 rfl rfl⟩, ws_at 576 rfl rfl, ws_at 32 rfl rfl⟩
set_option maxRecDepth 100000 in
theorem ml_M_62 : (Cond.methodLink R_M 62 y_M_used ∈ WS ∧ Cond.code y_M_used c_M_used 7 (some .boolean) ∈ WS ∧ Cond.initialized R_M ∈ WS) ∧ Cond.instanceMethod y_M_used ∈ WS ∧ Cond.selects R_M y_M_used y_M_used ∈ WS := ⟨⟨ws_at 578 rfl rfl, ws_at 581 rfl rfl, ws_at 61 rfl rfl⟩, ws_at 580 rfl rfl, ws_at 33 rfl rfl⟩
set_option maxRecDepth 100000 in
theorem ml_M_59 : (Cond.methodLink R_M 59 y_M_extentsOf ∈ WS ∧ Cond.code y_M_extentsOf c_M_extentsOf 3 (some .int) ∈ WS ∧ Cond.initialized R_M ∈ WS) ∧ Cond.instanceMethod y_M_extentsOf ∈ WS ∧ Cond.selects R_M y_M_extentsOf y_M_extentsOf ∈ WS := ⟨⟨ws_at 582 rfl rfl, ws_at 585 rfl rfl, ws_at 61 rfl rfl⟩, ws_at 584 rfl rfl, ws_at 34 rfl rfl⟩
set_option maxRecDepth 100000 in
theorem ml_M_69 : (Cond.methodLink R_M 69 y_M_before ∈ WS ∧ Cond.code y_M_before c_M_before 6 (some .int) ∈ WS ∧ Cond.initialized R_M ∈ WS) ∧ Cond.instanceMethod y_M_before ∈ WS ∧ Cond.selects R_M y_M_before y_M_before ∈ WS := ⟨⟨ws_at 586 rfl rfl, ws_at 589 rfl rfl, ws_at 61 rfl rfl⟩, ws_at 588 rfl rfl, ws_at 35 rfl rfl⟩
set_option maxRecDepth 100000 in
theorem ml_M_73 : (Cond.methodLink R_M 73 y_M_leastFree ∈ WS ∧ Cond.code y_M_leastFree c_M_leastFree 4 (some .int) ∈ WS ∧ Cond.initialized R_M ∈ WS) ∧ Cond.instanceMethod y_M_leastFree ∈ WS ∧ Cond.selects R_M y_M_leastFree y_M_leastFree ∈ WS := ⟨⟨ws_at 590 rfl rfl, ws_at 593 rfl rfl, ws_at 61 rfl rfl⟩, ws_at 592 rfl rfl, ws_at 36 rfl rfl⟩
set_option maxRecDepth 100000 in
theorem ml_M_114 : (Cond.methodLink R_M 114 y_M_commit ∈ WS ∧ Cond.code y_M_commit c_M_commit 3 (some .boolean) ∈ WS ∧ Cond.initialized R_M ∈ WS) ∧ Cond.instanceMethod y_M_commit ∈ WS ∧ Cond.selects R_M y_M_commit y_M_commit ∈ WS := ⟨⟨ws_at 594 rfl rfl, ws_at 597 rfl rfl, ws_at 61 rfl rfl⟩, ws_at 596 rfl rfl, ws_at 37 rfl rfl⟩
set_option maxRecDepth 100000 in
theorem ml_M_97 : (Cond.methodLink R_M 97 y_M_slotBehind ∈ WS ∧ Cond.code y_M_slotBehind c_M_slotBehind 4 (some .int) ∈ WS ∧ Cond.initialized R_M ∈ WS) ∧ Cond.instanceMethod y_M_slotBehind ∈ WS ∧ Cond.selects R_M y_M_slotBehind y_M_slotBehind ∈ WS := ⟨⟨ws_at 598 rfl rfl, ws_at 601 rfl rfl, ws_at 61 rfl rfl⟩, ws_at 600 rfl rfl, ws_at 38 rfl rfl⟩
set_option maxRecDepth 100000 in
theorem ml_M_94 : (Cond.methodLink R_M 94 y_M_nextSlot ∈ WS ∧ Cond.code y_M_nextSlot c_M_nextSlot 2 (some .int) ∈ WS ∧ Cond.initialized R_M ∈ WS) ∧ Cond.instanceMethod y_M_nextSlot ∈ WS ∧ Cond.selects R_M y_M_nextSlot y_M_nextSlot ∈ WS := ⟨⟨ws_at 602 rfl rfl, ws_at 605 rfl rfl, ws_at 61 rfl rfl⟩, ws_at 604 rfl rfl, ws_at 39 rfl rfl⟩
set_option maxRecDepth 100000 in
theorem ml_M_100 : (Cond.methodLink R_M 100 y_M_writeCopy ∈ WS ∧ Cond.code y_M_writeCopy c_M_writeCopy 7 (some .boolean) ∈ WS ∧ Cond.initialized R_M ∈ WS) ∧ Cond.instanceMethod y_M_writeCopy ∈ WS ∧ Cond.selects R_M y_M_writeCopy y_M_writeCopy ∈ WS := ⟨⟨ws_at 606 rfl rfl, ws_at 609 rfl rfl, ws_at 61 rfl rfl⟩, ws_at 608 rfl rfl, ws_at 40 rfl rfl⟩
set_option maxRecDepth 100000 in
theorem ml_M_86 : (Cond.methodLink R_M 86 y_M_stops ∈ WS ∧ Cond.code y_M_stops c_M_stops 2 (some .boolean) ∈ WS ∧ Cond.initialized R_M ∈ WS) ∧ Cond.instanceMethod y_M_stops ∈ WS ∧ Cond.selects R_M y_M_stops y_M_stops ∈ WS := ⟨⟨ws_at 610 rfl rfl, ws_at 613 rfl rfl, ws_at 61 rfl rfl⟩, ws_at 612 rfl rfl, ws_at 41 rfl rfl⟩
set_option maxRecDepth 100000 in
theorem ml_W_30 : (Cond.methodLink R_W 30 y_M_extend ∈ WS ∧ Cond.code y_M_extend c_M_extend 4 (some .int) ∈ WS ∧ Cond.initialized R_M ∈ WS) ∧ Cond.instanceMethod y_M_extend ∈ WS ∧ Cond.selects R_M y_M_extend y_M_extend ∈ WS := ⟨⟨ws_at 614 rfl rfl, ws_at 617 rfl rfl, ws_at 61 rfl rfl⟩, ws_at 615 rfl rfl, ws_at 616 rfl rfl⟩
set_option maxRecDepth 100000 in
theorem ml_M_117 : (Cond.methodLink R_M 117 y_M_isVolume ∈ WS ∧ Cond.code y_M_isVolume c_M_isVolume 2 (some .boolean) ∈ WS ∧ Cond.initialized R_M ∈ WS) ∧ Cond.instanceMethod y_M_isVolume ∈ WS ∧ Cond.selects R_M y_M_isVolume y_M_isVolume ∈ WS := ⟨⟨ws_at 618 rfl rfl, ws_at 621 rfl rfl, ws_at 61 rfl rfl⟩, ws_at 620 rfl rfl, ws_at 42 rfl rfl⟩
set_option maxRecDepth 100000 in
theorem ml_M_120 : (Cond.methodLink R_M 120 y_M_isMoved ∈ WS ∧ Cond.code y_M_isMoved c_M_isMoved 2 (some .boolean) ∈ WS ∧ Cond.initialized R_M ∈ WS) ∧ Cond.instanceMethod y_M_isMoved ∈ WS ∧ Cond.selects R_M y_M_isMoved y_M_isMoved ∈ WS := ⟨⟨ws_at 622 rfl rfl, ws_at 625 rfl rfl, ws_at 61 rfl rfl⟩, ws_at 624 rfl rfl, ws_at 43 rfl rfl⟩
set_option maxRecDepth 100000 in
theorem ml_W_34 : (Cond.methodLink R_W 34 y_M_reduce ∈ WS ∧ Cond.code y_M_reduce c_M_reduce 3 (some .int) ∈ WS ∧ Cond.initialized R_M ∈ WS) ∧ Cond.instanceMethod y_M_reduce ∈ WS ∧ Cond.selects R_M y_M_reduce y_M_reduce ∈ WS := ⟨⟨ws_at 626 rfl rfl, ws_at 629 rfl rfl, ws_at 61 rfl rfl⟩, ws_at 627 rfl rfl, ws_at 628 rfl rfl⟩
set_option maxRecDepth 100000 in
theorem ml_W_38 : (Cond.methodLink R_W 38 y_M_move ∈ WS ∧ Cond.code y_M_move c_M_move 6 (some .int) ∈ WS ∧ Cond.initialized R_M ∈ WS) ∧ Cond.instanceMethod y_M_move ∈ WS ∧ Cond.selects R_M y_M_move y_M_move ∈ WS := ⟨⟨ws_at 630 rfl rfl, ws_at 633 rfl rfl, ws_at 61 rfl rfl⟩, ws_at 631 rfl rfl, ws_at 632 rfl rfl⟩
set_option maxRecDepth 100000 in
theorem ml_M_123 : (Cond.methodLink R_M 123 y_M_isExtent ∈ WS ∧ Cond.code y_M_isExtent c_M_isExtent 3 (some .boolean) ∈ WS ∧ Cond.initialized R_M ∈ WS) ∧ Cond.instanceMethod y_M_isExtent ∈ WS ∧ Cond.selects R_M y_M_isExtent y_M_isExtent ∈ WS := ⟨⟨ws_at 634 rfl rfl, ws_at 637 rfl rfl, ws_at 61 rfl rfl⟩, ws_at 636 rfl rfl, ws_at 44 rfl rfl⟩
set_option maxRecDepth 100000 in
theorem ml_W_43 : (Cond.methodLink R_W 43 y_M_step ∈ WS ∧ Cond.code y_M_step c_M_step 3 (some .int) ∈ WS ∧ Cond.initialized R_M ∈ WS) ∧ Cond.instanceMethod y_M_step ∈ WS ∧ Cond.selects R_M y_M_step y_M_step ∈ WS := ⟨⟨ws_at 638 rfl rfl, ws_at 641 rfl rfl, ws_at 61 rfl rfl⟩, ws_at 639 rfl rfl, ws_at 640 rfl rfl⟩
set_option maxRecDepth 100000 in
theorem ml_M_129 : (Cond.methodLink R_M 129 y_M_source ∈ WS ∧ Cond.code y_M_source c_M_source 1 (some .int) ∈ WS ∧ Cond.initialized R_M ∈ WS) ∧ Cond.instanceMethod y_M_source ∈ WS ∧ Cond.selects R_M y_M_source y_M_source ∈ WS := ⟨⟨ws_at 642 rfl rfl, ws_at 645 rfl rfl, ws_at 61 rfl rfl⟩, ws_at 644 rfl rfl, ws_at 45 rfl rfl⟩
set_option maxRecDepth 100000 in
theorem ml_M_133 : (Cond.methodLink R_M 133 y_M_target ∈ WS ∧ Cond.code y_M_target c_M_target 1 (some .int) ∈ WS ∧ Cond.initialized R_M ∈ WS) ∧ Cond.instanceMethod y_M_target ∈ WS ∧ Cond.selects R_M y_M_target y_M_target ∈ WS := ⟨⟨ws_at 646 rfl rfl, ws_at 649 rfl rfl, ws_at 61 rfl rfl⟩, ws_at 648 rfl rfl, ws_at 46 rfl rfl⟩
set_option maxRecDepth 100000 in
theorem ml_M_136 : (Cond.methodLink R_M 136 y_M_cellAt ∈ WS ∧ Cond.code y_M_cellAt c_M_cellAt 3 (some .int) ∈ WS ∧ Cond.initialized R_M ∈ WS) ∧ Cond.instanceMethod y_M_cellAt ∈ WS ∧ Cond.selects R_M y_M_cellAt y_M_cellAt ∈ WS := ⟨⟨ws_at 650 rfl rfl, ws_at 653 rfl rfl, ws_at 61 rfl rfl⟩, ws_at 652 rfl rfl, ws_at 47 rfl rfl⟩
set_option maxRecDepth 100000 in
theorem ml_W_47 : (Cond.methodLink R_W 47 y_M_cancel ∈ WS ∧ Cond.code y_M_cancel c_M_cancel 1 (some .int) ∈ WS ∧ Cond.initialized R_M ∈ WS) ∧ Cond.instanceMethod y_M_cancel ∈ WS ∧ Cond.selects R_M y_M_cancel y_M_cancel ∈ WS := ⟨⟨ws_at 654 rfl rfl, ws_at 657 rfl rfl, ws_at 61 rfl rfl⟩, ws_at 655 rfl rfl, ws_at 656 rfl rfl⟩
set_option maxRecDepth 100000 in
theorem ml_W_51 : (Cond.methodLink R_W 51 y_M_read ∈ WS ∧ Cond.code y_M_read c_M_read 5 (some .int) ∈ WS ∧ Cond.initialized R_M ∈ WS) ∧ Cond.instanceMethod y_M_read ∈ WS ∧ Cond.selects R_M y_M_read y_M_read ∈ WS := ⟨⟨ws_at 658 rfl rfl, ws_at 661 rfl rfl, ws_at 61 rfl rfl⟩, ws_at 659 rfl rfl, ws_at 660 rfl rfl⟩
set_option maxRecDepth 100000 in
theorem ml_M_139 : (Cond.methodLink R_M 139 y_M_isBlock ∈ WS ∧ Cond.code y_M_isBlock c_M_isBlock 3 (some .boolean) ∈ WS ∧ Cond.initialized R_M ∈ WS) ∧ Cond.instanceMethod y_M_isBlock ∈ WS ∧ Cond.selects R_M y_M_isBlock y_M_isBlock ∈ WS := ⟨⟨ws_at 662 rfl rfl, ws_at 665 rfl rfl, ws_at 61 rfl rfl⟩, ws_at 664 rfl rfl, ws_at 48 rfl rfl⟩
set_option maxRecDepth 100000 in
theorem ml_M_142 : (Cond.methodLink R_M 142 y_M_extentOf ∈ WS ∧ Cond.code y_M_extentOf c_M_extentOf 6 (some .int) ∈ WS ∧ Cond.initialized R_M ∈ WS) ∧ Cond.instanceMethod y_M_extentOf ∈ WS ∧ Cond.selects R_M y_M_extentOf y_M_extentOf ∈ WS := ⟨⟨ws_at 666 rfl rfl, ws_at 669 rfl rfl, ws_at 61 rfl rfl⟩, ws_at 668 rfl rfl, ws_at 49 rfl rfl⟩
set_option maxRecDepth 100000 in
theorem ml_M_145 : (Cond.methodLink R_M 145 y_M_cellOf ∈ WS ∧ Cond.code y_M_cellOf c_M_cellOf 6 (some .int) ∈ WS ∧ Cond.initialized R_M ∈ WS) ∧ Cond.instanceMethod y_M_cellOf ∈ WS ∧ Cond.selects R_M y_M_cellOf y_M_cellOf ∈ WS := ⟨⟨ws_at 670 rfl rfl, ws_at 673 rfl rfl, ws_at 61 rfl rfl⟩, ws_at 672 rfl rfl, ws_at 50 rfl rfl⟩
set_option maxRecDepth 100000 in
theorem ml_W_55 : (Cond.methodLink R_W 55 y_M_write ∈ WS ∧ Cond.code y_M_write c_M_write 8 (some .int) ∈ WS ∧ Cond.initialized R_M ∈ WS) ∧ Cond.instanceMethod y_M_write ∈ WS ∧ Cond.selects R_M y_M_write y_M_write ∈ WS := ⟨⟨ws_at 674 rfl rfl, ws_at 677 rfl rfl, ws_at 61 rfl rfl⟩, ws_at 675 rfl rfl, ws_at 676 rfl rfl⟩
set_option maxRecDepth 100000 in
theorem ml_W_60 : (Cond.methodLink R_W 60 y_M_pull ∈ WS ∧ Cond.code y_M_pull c_M_pull 2 (some .boolean) ∈ WS ∧ Cond.initialized R_M ∈ WS) ∧ Cond.instanceMethod y_M_pull ∈ WS ∧ Cond.selects R_M y_M_pull y_M_pull ∈ WS := ⟨⟨ws_at 678 rfl rfl, ws_at 681 rfl rfl, ws_at 61 rfl rfl⟩, ws_at 679 rfl rfl, ws_at 680 rfl rfl⟩
set_option maxRecDepth 100000 in
theorem ml_M_148 : (Cond.methodLink R_M 148 y_M_isDisk ∈ WS ∧ Cond.code y_M_isDisk c_M_isDisk 2 (some .boolean) ∈ WS ∧ Cond.initialized R_M ∈ WS) ∧ Cond.instanceMethod y_M_isDisk ∈ WS ∧ Cond.selects R_M y_M_isDisk y_M_isDisk ∈ WS := ⟨⟨ws_at 682 rfl rfl, ws_at 685 rfl rfl, ws_at 61 rfl rfl⟩, ws_at 684 rfl rfl, ws_at 51 rfl rfl⟩
set_option maxRecDepth 100000 in
theorem ml_W_64 : (Cond.methodLink R_W 64 y_M_plug ∈ WS ∧ Cond.code y_M_plug c_M_plug 2 (some .boolean) ∈ WS ∧ Cond.initialized R_M ∈ WS) ∧ Cond.instanceMethod y_M_plug ∈ WS ∧ Cond.selects R_M y_M_plug y_M_plug ∈ WS := ⟨⟨ws_at 686 rfl rfl, ws_at 689 rfl rfl, ws_at 61 rfl rfl⟩, ws_at 687 rfl rfl, ws_at 688 rfl rfl⟩
set_option maxRecDepth 100000 in
theorem ml_W_68 : (Cond.methodLink R_W 68 y_M_arm ∈ WS ∧ Cond.code y_M_arm c_M_arm 2 (some .boolean) ∈ WS ∧ Cond.initialized R_M ∈ WS) ∧ Cond.instanceMethod y_M_arm ∈ WS ∧ Cond.selects R_M y_M_arm y_M_arm ∈ WS := ⟨⟨ws_at 690 rfl rfl, ws_at 693 rfl rfl, ws_at 61 rfl rfl⟩, ws_at 691 rfl rfl, ws_at 692 rfl rfl⟩
set_option maxRecDepth 100000 in
theorem ml_W_73 : (Cond.methodLink R_W 73 y_M_crash ∈ WS ∧ Cond.code y_M_crash c_M_crash 1 (some .boolean) ∈ WS ∧ Cond.initialized R_M ∈ WS) ∧ Cond.instanceMethod y_M_crash ∈ WS ∧ Cond.selects R_M y_M_crash y_M_crash ∈ WS := ⟨⟨ws_at 694 rfl rfl, ws_at 697 rfl rfl, ws_at 61 rfl rfl⟩, ws_at 695 rfl rfl, ws_at 696 rfl rfl⟩
set_option maxRecDepth 100000 in
theorem ml_W_77 : (Cond.methodLink R_W 77 y_M_activate ∈ WS ∧ Cond.code y_M_activate c_M_activate 5 (some .int) ∈ WS ∧ Cond.initialized R_M ∈ WS) ∧ Cond.instanceMethod y_M_activate ∈ WS ∧ Cond.selects R_M y_M_activate y_M_activate ∈ WS := ⟨⟨ws_at 698 rfl rfl, ws_at 701 rfl rfl, ws_at 61 rfl rfl⟩, ws_at 699 rfl rfl, ws_at 700 rfl rfl⟩
set_option maxRecDepth 100000 in
theorem ml_M_155 : (Cond.methodLink R_M 155 y_M_choose ∈ WS ∧ Cond.code y_M_choose c_M_choose 5 (some .int) ∈ WS ∧ Cond.initialized R_M ∈ WS) ∧ Cond.instanceMethod y_M_choose ∈ WS ∧ Cond.selects R_M y_M_choose y_M_choose ∈ WS := ⟨⟨ws_at 702 rfl rfl, ws_at 705 rfl rfl, ws_at 61 rfl rfl⟩, ws_at 704 rfl rfl, ws_at 52 rfl rfl⟩
set_option maxRecDepth 100000 in
theorem ml_M_151 : (Cond.methodLink R_M 151 y_M_holds ∈ WS ∧ Cond.code y_M_holds c_M_holds 6 (some .boolean) ∈ WS ∧ Cond.initialized R_M ∈ WS) ∧ Cond.instanceMethod y_M_holds ∈ WS ∧ Cond.selects R_M y_M_holds y_M_holds ∈ WS := ⟨⟨ws_at 706 rfl rfl, ws_at 709 rfl rfl, ws_at 61 rfl rfl⟩, ws_at 708 rfl rfl, ws_at 53 rfl rfl⟩
set_option maxRecDepth 100000 in
theorem ml_M_158 : (Cond.methodLink R_M 158 y_M_settle ∈ WS ∧ Cond.code y_M_settle c_M_settle 5 (some .boolean) ∈ WS ∧ Cond.initialized R_M ∈ WS) ∧ Cond.instanceMethod y_M_settle ∈ WS ∧ Cond.selects R_M y_M_settle y_M_settle ∈ WS := ⟨⟨ws_at 710 rfl rfl, ws_at 713 rfl rfl, ws_at 61 rfl rfl⟩, ws_at 712 rfl rfl, ws_at 54 rfl rfl⟩
set_option maxRecDepth 100000 in
theorem ml_W_81 : (Cond.methodLink R_W 81 y_M_where ∈ WS ∧ Cond.code y_M_where c_M_where 3 (some .int) ∈ WS ∧ Cond.initialized R_M ∈ WS) ∧ Cond.instanceMethod y_M_where ∈ WS ∧ Cond.selects R_M y_M_where y_M_where ∈ WS := ⟨⟨ws_at 714 rfl rfl, ws_at 717 rfl rfl, ws_at 61 rfl rfl⟩, ws_at 715 rfl rfl, ws_at 716 rfl rfl⟩
set_option maxRecDepth 100000 in
theorem ml_W_86 : (Cond.methodLink R_W 86 y_M_rows ∈ WS ∧ Cond.code y_M_rows c_M_rows 2 (some .int) ∈ WS ∧ Cond.initialized R_M ∈ WS) ∧ Cond.instanceMethod y_M_rows ∈ WS ∧ Cond.selects R_M y_M_rows y_M_rows ∈ WS := ⟨⟨ws_at 718 rfl rfl, ws_at 721 rfl rfl, ws_at 61 rfl rfl⟩, ws_at 719 rfl rfl, ws_at 720 rfl rfl⟩
set_option maxRecDepth 100000 in
theorem ml_W_90 : (Cond.methodLink R_W 90 y_M_free ∈ WS ∧ Cond.code y_M_free c_M_free 2 (some .int) ∈ WS ∧ Cond.initialized R_M ∈ WS) ∧ Cond.instanceMethod y_M_free ∈ WS ∧ Cond.selects R_M y_M_free y_M_free ∈ WS := ⟨⟨ws_at 722 rfl rfl, ws_at 725 rfl rfl, ws_at 61 rfl rfl⟩, ws_at 723 rfl rfl, ws_at 724 rfl rfl⟩
set_option maxRecDepth 100000 in
theorem ml_W_94 : (Cond.methodLink R_W 94 y_M_moving ∈ WS ∧ Cond.code y_M_moving c_M_moving 2 (some .int) ∈ WS ∧ Cond.initialized R_M ∈ WS) ∧ Cond.instanceMethod y_M_moving ∈ WS ∧ Cond.selects R_M y_M_moving y_M_moving ∈ WS := ⟨⟨ws_at 726 rfl rfl, ws_at 729 rfl rfl, ws_at 61 rfl rfl⟩, ws_at 727 rfl rfl, ws_at 728 rfl rfl⟩
set_option maxRecDepth 100000 in
theorem ml_W_98 : (Cond.methodLink R_W 98 y_M_sequence ∈ WS ∧ Cond.code y_M_sequence c_M_sequence 1 (some .int) ∈ WS ∧ Cond.initialized R_M ∈ WS) ∧ Cond.instanceMethod y_M_sequence ∈ WS ∧ Cond.selects R_M y_M_sequence y_M_sequence ∈ WS := ⟨⟨ws_at 730 rfl rfl, ws_at 733 rfl rfl, ws_at 61 rfl rfl⟩, ws_at 731 rfl rfl, ws_at 732 rfl rfl⟩
set_option maxRecDepth 100000 in
theorem ml_W_102 : (Cond.methodLink R_W 102 y_M_slot ∈ WS ∧ Cond.code y_M_slot c_M_slot 3 (some .int) ∈ WS ∧ Cond.initialized R_M ∈ WS) ∧ Cond.instanceMethod y_M_slot ∈ WS ∧ Cond.selects R_M y_M_slot y_M_slot ∈ WS := ⟨⟨ws_at 734 rfl rfl, ws_at 737 rfl rfl, ws_at 61 rfl rfl⟩, ws_at 735 rfl rfl, ws_at 736 rfl rfl⟩
set_option maxRecDepth 100000 in
theorem kc_acopy_4 : Cond.initialized "java/lang/System" ∈ WS := ws_at 65 rfl rfl
set_option maxRecDepth 100000 in
theorem oi_E : Cond.methodLink R_E 1 Lib.objectInit ∈ WS := ws_at 72 rfl rfl
set_option maxRecDepth 100000 in
theorem oi_inst : Cond.instanceMethod Lib.objectInit ∈ WS := ws_at 73 rfl rfl
set_option maxRecDepth 100000 in
theorem oi_code : Cond.code Lib.objectInit ⟨#[0xb1]⟩ 1 none ∈ WS := ws_at 74 rfl rfl
set_option maxRecDepth 100000 in
theorem oi_L : Cond.methodLink R_L 3 Lib.objectInit ∈ WS := ws_at 90 rfl rfl
set_option maxRecDepth 100000 in
theorem oi_C : Cond.methodLink R_C 1 Lib.objectInit ∈ WS := ws_at 102 rfl rfl
set_option maxRecDepth 100000 in
theorem oi_D : Cond.methodLink R_D 3 Lib.objectInit ∈ WS := ws_at 122 rfl rfl
set_option maxRecDepth 100000 in
theorem kc_arr_int : Cond.arrayClass .int ∈ WS := ws_at 146 rfl rfl
set_option maxRecDepth 100000 in
theorem kc_arr_boolean : Cond.arrayClass .boolean ∈ WS := ws_at 147 rfl rfl
set_option maxRecDepth 100000 in
theorem oi_U : Cond.methodLink R_U 3 Lib.objectInit ∈ WS := ws_at 196 rfl rfl
set_option maxRecDepth 100000 in
theorem kc_JI_265 : Cond.constant R_JI 265 1431655765 ∈ WS := ws_at 247 rfl rfl
set_option maxRecDepth 100000 in
theorem kc_JI_266 : Cond.constant R_JI 266 858993459 ∈ WS := ws_at 248 rfl rfl
set_option maxRecDepth 100000 in
theorem kc_JI_267 : Cond.constant R_JI 267 252645135 ∈ WS := ws_at 249 rfl rfl
set_option maxRecDepth 100000 in
theorem kc_clone_1 : Cond.methodLink R_JA 316 ⟨"[I", "clone", "()Ljava/lang/Object;"⟩ ∈ WS := ws_at 313 rfl rfl
set_option maxRecDepth 100000 in
theorem kc_clone_2 : Cond.sameMethod "[I" "java/lang/Object" "clone" "()Ljava/lang/Object;" ∈ WS := ws_at 314 rfl rfl
set_option maxRecDepth 100000 in
theorem kc_clone_3 : Cond.native ⟨"java/lang/Object", "clone", "()Ljava/lang/Object;"⟩ ∈ WS := ws_at 315 rfl rfl
set_option maxRecDepth 100000 in
theorem kc_clone_4 : Cond.instanceMethod ⟨"java/lang/Object", "clone", "()Ljava/lang/Object;"⟩ ∈ WS := ws_at 316 rfl rfl
set_option maxRecDepth 100000 in
theorem kc_clone_5 : Cond.selects "[I" ⟨"[I", "clone", "()Ljava/lang/Object;"⟩ ⟨"java/lang/Object", "clone", "()Ljava/lang/Object;"⟩ ∈ WS := ws_at 317 rfl rfl
set_option maxRecDepth 100000 in
theorem kc_acopy_1 : Cond.methodLink R_JA 150 arraycopyName ∈ WS := ws_at 321 rfl rfl
set_option maxRecDepth 100000 in
theorem kc_acopy_3 : Cond.static arraycopyName ∈ WS := ws_at 322 rfl rfl
set_option maxRecDepth 100000 in
theorem kc_acopy_2 : Cond.native arraycopyName ∈ WS := ws_at 323 rfl rfl
set_option maxRecDepth 100000 in
theorem oi_V : Cond.methodLink R_V 1 Lib.objectInit ∈ WS := ws_at 350 rfl rfl
set_option maxRecDepth 100000 in
theorem oi_M : Cond.methodLink R_M 1 Lib.objectInit ∈ WS := ws_at 491 rfl rfl
set_option maxRecDepth 100000 in
theorem mk_C : Cond.instantiable R_C 3 ∈ WS ∧ Cond.initialized R_C ∈ WS := ⟨ws_at 82 rfl rfl, ws_at 58 rfl rfl⟩
set_option maxRecDepth 100000 in
theorem mk_D : Cond.instantiable R_D 5 ∈ WS ∧ Cond.initialized R_D ∈ WS := ⟨ws_at 118 rfl rfl, ws_at 60 rfl rfl⟩
set_option maxRecDepth 100000 in
theorem mk_L : Cond.instantiable R_L 2 ∈ WS ∧ Cond.initialized R_L ∈ WS := ⟨ws_at 84 rfl rfl, ws_at 59 rfl rfl⟩
set_option maxRecDepth 100000 in
theorem mk_U : Cond.instantiable R_U 4 ∈ WS ∧ Cond.initialized R_U ∈ WS := ⟨ws_at 192 rfl rfl, ws_at 62 rfl rfl⟩
set_option maxRecDepth 100000 in
theorem mk_E : Cond.instantiable R_E 8 ∈ WS ∧ Cond.initialized R_E ∈ WS := ⟨ws_at 68 rfl rfl, ws_at 56 rfl rfl⟩
set_option maxRecDepth 100000 in
theorem mk_V : Cond.instantiable R_V 4 ∈ WS ∧ Cond.initialized R_V ∈ WS := ⟨ws_at 346 rfl rfl, ws_at 66 rfl rfl⟩
set_option maxRecDepth 100000 in
theorem mk_M : Cond.instantiable R_M 15 ∈ WS ∧ Cond.initialized R_M ∈ WS := ⟨ws_at 487 rfl rfl, ws_at 61 rfl rfl⟩
end
section
theorem d_M_init_0 : decode c_M_init 0 = .ok (.aload_n 0, 1) := by decide +kernel
theorem d_M_init_1 : decode c_M_init 1 = .ok (.invokespecial 1, 3) := by decide +kernel
theorem d_M_init_4 : decode c_M_init 4 = .ok (.aload_n 0, 1) := by decide +kernel
theorem d_M_init_5 : decode c_M_init 5 = .ok (.iconst 5, 1) := by decide +kernel
theorem d_M_init_6 : decode c_M_init 6 = .ok (.newarray .boolean, 2) := by decide +kernel
theorem d_M_init_8 : decode c_M_init 8 = .ok (.putfield 7, 3) := by decide +kernel
theorem d_M_init_11 : decode c_M_init 11 = .ok (.aload_n 0, 1) := by decide +kernel
theorem d_M_init_12 : decode c_M_init 12 = .ok (.sipush 320, 3) := by decide +kernel
theorem d_M_init_15 : decode c_M_init 15 = .ok (.newarray .int, 2) := by decide +kernel
theorem d_M_init_17 : decode c_M_init 17 = .ok (.putfield 13, 3) := by decide +kernel
theorem d_M_init_20 : decode c_M_init 20 = .ok (.aload_n 0, 1) := by decide +kernel
theorem d_M_init_21 : decode c_M_init 21 = .ok (.sipush 1088, 3) := by decide +kernel
theorem d_M_init_24 : decode c_M_init 24 = .ok (.newarray .int, 2) := by decide +kernel
theorem d_M_init_26 : decode c_M_init 26 = .ok (.putfield 17, 3) := by decide +kernel
theorem d_M_init_29 : decode c_M_init 29 = .ok (.aload_n 0, 1) := by decide +kernel
theorem d_M_init_30 : decode c_M_init 30 = .ok (.bipush 15, 2) := by decide +kernel
theorem d_M_init_32 : decode c_M_init 32 = .ok (.newarray .int, 2) := by decide +kernel
theorem d_M_init_34 : decode c_M_init 34 = .ok (.putfield 20, 3) := by decide +kernel
theorem d_M_init_37 : decode c_M_init 37 = .ok (.aload_n 0, 1) := by decide +kernel
theorem d_M_init_38 : decode c_M_init 38 = .ok (.bipush 15, 2) := by decide +kernel
theorem d_M_init_40 : decode c_M_init 40 = .ok (.newarray .int, 2) := by decide +kernel
theorem d_M_init_42 : decode c_M_init 42 = .ok (.putfield 23, 3) := by decide +kernel
theorem d_M_init_45 : decode c_M_init 45 = .ok (.aload_n 0, 1) := by decide +kernel
theorem d_M_init_46 : decode c_M_init 46 = .ok (.iconst 5, 1) := by decide +kernel
theorem d_M_init_47 : decode c_M_init 47 = .ok (.newarray .int, 2) := by decide +kernel
theorem d_M_init_49 : decode c_M_init 49 = .ok (.putfield 26, 3) := by decide +kernel
theorem d_M_init_52 : decode c_M_init 52 = .ok (.aload_n 0, 1) := by decide +kernel
theorem d_M_init_53 : decode c_M_init 53 = .ok (.iload_n 1, 1) := by decide +kernel
theorem d_M_init_54 : decode c_M_init 54 = .ok (.iconst 2, 1) := by decide +kernel
theorem d_M_init_55 : decode c_M_init 55 = .ok (.if_icmp .ge 7, 3) := by decide +kernel
theorem d_M_init_58 : decode c_M_init 58 = .ok (.iconst 2, 1) := by decide +kernel
theorem d_M_init_59 : decode c_M_init 59 = .ok (.goto 13, 3) := by decide +kernel
theorem d_M_init_62 : decode c_M_init 62 = .ok (.iload_n 1, 1) := by decide +kernel
theorem d_M_init_63 : decode c_M_init 63 = .ok (.iconst 5, 1) := by decide +kernel
theorem d_M_init_64 : decode c_M_init 64 = .ok (.if_icmp .le 7, 3) := by decide +kernel
theorem d_M_init_67 : decode c_M_init 67 = .ok (.iconst 5, 1) := by decide +kernel
theorem d_M_init_68 : decode c_M_init 68 = .ok (.goto 4, 3) := by decide +kernel
theorem d_M_init_71 : decode c_M_init 71 = .ok (.iload_n 1, 1) := by decide +kernel
theorem d_M_init_72 : decode c_M_init 72 = .ok (.putfield 29, 3) := by decide +kernel
theorem d_M_init_75 : decode c_M_init 75 = .ok (.aload_n 0, 1) := by decide +kernel
theorem d_M_init_76 : decode c_M_init 76 = .ok (.iload_n 2, 1) := by decide +kernel
theorem d_M_init_77 : decode c_M_init 77 = .ok (.iconst 2, 1) := by decide +kernel
theorem d_M_init_78 : decode c_M_init 78 = .ok (.if_icmp .ge 7, 3) := by decide +kernel
theorem d_M_init_81 : decode c_M_init 81 = .ok (.iconst 2, 1) := by decide +kernel
theorem d_M_init_82 : decode c_M_init 82 = .ok (.goto 15, 3) := by decide +kernel
theorem d_M_init_85 : decode c_M_init 85 = .ok (.iload_n 2, 1) := by decide +kernel
theorem d_M_init_86 : decode c_M_init 86 = .ok (.bipush 10, 2) := by decide +kernel
theorem d_M_init_88 : decode c_M_init 88 = .ok (.if_icmp .le 8, 3) := by decide +kernel
theorem d_M_init_91 : decode c_M_init 91 = .ok (.bipush 10, 2) := by decide +kernel
theorem d_M_init_93 : decode c_M_init 93 = .ok (.goto 4, 3) := by decide +kernel
theorem d_M_init_96 : decode c_M_init 96 = .ok (.iload_n 2, 1) := by decide +kernel
theorem d_M_init_97 : decode c_M_init 97 = .ok (.putfield 33, 3) := by decide +kernel
theorem d_M_init_100 : decode c_M_init 100 = .ok (.iconst 0, 1) := by decide +kernel
theorem d_M_init_101 : decode c_M_init 101 = .ok (.istore_n 3, 1) := by decide +kernel
theorem d_M_init_102 : decode c_M_init 102 = .ok (.iload_n 3, 1) := by decide +kernel
theorem d_M_init_103 : decode c_M_init 103 = .ok (.bipush 17, 2) := by decide +kernel
theorem d_M_init_105 : decode c_M_init 105 = .ok (.if_icmp .ge 22, 3) := by decide +kernel
theorem d_M_init_108 : decode c_M_init 108 = .ok (.aload_n 0, 1) := by decide +kernel
theorem d_M_init_109 : decode c_M_init 109 = .ok (.getfield 17, 3) := by decide +kernel
theorem d_M_init_112 : decode c_M_init 112 = .ok (.bipush 64, 2) := by decide +kernel
theorem d_M_init_114 : decode c_M_init 114 = .ok (.iload_n 3, 1) := by decide +kernel
theorem d_M_init_115 : decode c_M_init 115 = .ok (.imul, 1) := by decide +kernel
theorem d_M_init_116 : decode c_M_init 116 = .ok (.bipush 60, 2) := by decide +kernel
theorem d_M_init_118 : decode c_M_init 118 = .ok (.iadd, 1) := by decide +kernel
theorem d_M_init_119 : decode c_M_init 119 = .ok (.iconst (-1), 1) := by decide +kernel
theorem d_M_init_120 : decode c_M_init 120 = .ok (.iastore, 1) := by decide +kernel
theorem d_M_init_121 : decode c_M_init 121 = .ok (.iinc 3 1, 3) := by decide +kernel
theorem d_M_init_124 : decode c_M_init 124 = .ok (.goto (-22), 3) := by decide +kernel
theorem d_M_init_127 : decode c_M_init 127 = .ok (.iconst 0, 1) := by decide +kernel
theorem d_M_init_128 : decode c_M_init 128 = .ok (.istore_n 3, 1) := by decide +kernel
theorem d_M_init_129 : decode c_M_init 129 = .ok (.iload_n 3, 1) := by decide +kernel
theorem d_M_init_130 : decode c_M_init 130 = .ok (.aload_n 0, 1) := by decide +kernel
theorem d_M_init_131 : decode c_M_init 131 = .ok (.getfield 29, 3) := by decide +kernel
theorem d_M_init_134 : decode c_M_init 134 = .ok (.if_icmp .ge 41, 3) := by decide +kernel
theorem d_M_init_137 : decode c_M_init 137 = .ok (.aload_n 0, 1) := by decide +kernel
theorem d_M_init_138 : decode c_M_init 138 = .ok (.getfield 7, 3) := by decide +kernel
theorem d_M_init_141 : decode c_M_init 141 = .ok (.iload_n 3, 1) := by decide +kernel
theorem d_M_init_142 : decode c_M_init 142 = .ok (.iconst 1, 1) := by decide +kernel
theorem d_M_init_143 : decode c_M_init 143 = .ok (.bastore, 1) := by decide +kernel
theorem d_M_init_144 : decode c_M_init 144 = .ok (.aload_n 0, 1) := by decide +kernel
theorem d_M_init_145 : decode c_M_init 145 = .ok (.getfield 20, 3) := by decide +kernel
theorem d_M_init_148 : decode c_M_init 148 = .ok (.iconst 3, 1) := by decide +kernel
theorem d_M_init_149 : decode c_M_init 149 = .ok (.iload_n 3, 1) := by decide +kernel
theorem d_M_init_150 : decode c_M_init 150 = .ok (.imul, 1) := by decide +kernel
theorem d_M_init_151 : decode c_M_init 151 = .ok (.iconst 1, 1) := by decide +kernel
theorem d_M_init_152 : decode c_M_init 152 = .ok (.iastore, 1) := by decide +kernel
theorem d_M_init_153 : decode c_M_init 153 = .ok (.aload_n 0, 1) := by decide +kernel
theorem d_M_init_154 : decode c_M_init 154 = .ok (.getfield 23, 3) := by decide +kernel
theorem d_M_init_157 : decode c_M_init 157 = .ok (.iconst 3, 1) := by decide +kernel
theorem d_M_init_158 : decode c_M_init 158 = .ok (.iload_n 3, 1) := by decide +kernel
theorem d_M_init_159 : decode c_M_init 159 = .ok (.imul, 1) := by decide +kernel
theorem d_M_init_160 : decode c_M_init 160 = .ok (.iconst 1, 1) := by decide +kernel
theorem d_M_init_161 : decode c_M_init 161 = .ok (.iastore, 1) := by decide +kernel
theorem d_M_init_162 : decode c_M_init 162 = .ok (.aload_n 0, 1) := by decide +kernel
theorem d_M_init_163 : decode c_M_init 163 = .ok (.getfield 26, 3) := by decide +kernel
theorem d_M_init_166 : decode c_M_init 166 = .ok (.iload_n 3, 1) := by decide +kernel
theorem d_M_init_167 : decode c_M_init 167 = .ok (.iconst 1, 1) := by decide +kernel
theorem d_M_init_168 : decode c_M_init 168 = .ok (.iastore, 1) := by decide +kernel
theorem d_M_init_169 : decode c_M_init 169 = .ok (.iinc 3 1, 3) := by decide +kernel
theorem d_M_init_172 : decode c_M_init 172 = .ok (.goto (-43), 3) := by decide +kernel
theorem d_M_init_175 : decode c_M_init 175 = .ok (.aload_n 0, 1) := by decide +kernel
theorem d_M_init_176 : decode c_M_init 176 = .ok (.iconst 1, 1) := by decide +kernel
theorem d_M_init_177 : decode c_M_init 177 = .ok (.putfield 36, 3) := by decide +kernel
theorem d_M_init_180 : decode c_M_init 180 = .ok (.aload_n 0, 1) := by decide +kernel
theorem d_M_init_181 : decode c_M_init 181 = .ok (.iconst 1, 1) := by decide +kernel
theorem d_M_init_182 : decode c_M_init 182 = .ok (.putfield 39, 3) := by decide +kernel
theorem d_M_init_185 : decode c_M_init 185 = .ok (.aload_n 0, 1) := by decide +kernel
theorem d_M_init_186 : decode c_M_init 186 = .ok (.iconst 1, 1) := by decide +kernel
theorem d_M_init_187 : decode c_M_init 187 = .ok (.putfield 42, 3) := by decide +kernel
theorem d_M_init_190 : decode c_M_init 190 = .ok (.aload_n 0, 1) := by decide +kernel
theorem d_M_init_191 : decode c_M_init 191 = .ok (.iconst 1, 1) := by decide +kernel
theorem d_M_init_192 : decode c_M_init 192 = .ok (.putfield 45, 3) := by decide +kernel
theorem d_M_init_195 : decode c_M_init 195 = .ok (.return_, 1) := by decide +kernel
theorem d_M_create_0 : decode c_M_create 0 = .ok (.aload_n 0, 1) := by decide +kernel
theorem d_M_create_1 : decode c_M_create 1 = .ok (.getfield 45, 3) := by decide +kernel
theorem d_M_create_4 : decode c_M_create 4 = .ok (.ifCond .ne 6, 3) := by decide +kernel
theorem d_M_create_7 : decode c_M_create 7 = .ok (.bipush (-2), 2) := by decide +kernel
theorem d_M_create_9 : decode c_M_create 9 = .ok (.ireturn, 1) := by decide +kernel
theorem d_M_create_10 : decode c_M_create 10 = .ok (.iload_n 1, 1) := by decide +kernel
theorem d_M_create_11 : decode c_M_create 11 = .ok (.iconst 1, 1) := by decide +kernel
theorem d_M_create_12 : decode c_M_create 12 = .ok (.if_icmp .lt 36, 3) := by decide +kernel
theorem d_M_create_15 : decode c_M_create 15 = .ok (.iload_n 1, 1) := by decide +kernel
theorem d_M_create_16 : decode c_M_create 16 = .ok (.iconst 4, 1) := by decide +kernel
theorem d_M_create_17 : decode c_M_create 17 = .ok (.if_icmp .gt 31, 3) := by decide +kernel
theorem d_M_create_20 : decode c_M_create 20 = .ok (.iload_n 2, 1) := by decide +kernel
theorem d_M_create_21 : decode c_M_create 21 = .ok (.iconst 1, 1) := by decide +kernel
theorem d_M_create_22 : decode c_M_create 22 = .ok (.if_icmp .eq 13, 3) := by decide +kernel
theorem d_M_create_25 : decode c_M_create 25 = .ok (.iload_n 2, 1) := by decide +kernel
theorem d_M_create_26 : decode c_M_create 26 = .ok (.iconst 2, 1) := by decide +kernel
theorem d_M_create_27 : decode c_M_create 27 = .ok (.if_icmp .eq 8, 3) := by decide +kernel
theorem d_M_create_30 : decode c_M_create 30 = .ok (.iload_n 2, 1) := by decide +kernel
theorem d_M_create_31 : decode c_M_create 31 = .ok (.iconst 4, 1) := by decide +kernel
theorem d_M_create_32 : decode c_M_create 32 = .ok (.if_icmp .ne 16, 3) := by decide +kernel
theorem d_M_create_35 : decode c_M_create 35 = .ok (.iload_n 3, 1) := by decide +kernel
theorem d_M_create_36 : decode c_M_create 36 = .ok (.iconst 1, 1) := by decide +kernel
theorem d_M_create_37 : decode c_M_create 37 = .ok (.if_icmp .lt 11, 3) := by decide +kernel
theorem d_M_create_40 : decode c_M_create 40 = .ok (.iload_n 3, 1) := by decide +kernel
theorem d_M_create_41 : decode c_M_create 41 = .ok (.bipush 12, 2) := by decide +kernel
theorem d_M_create_43 : decode c_M_create 43 = .ok (.iload_n 1, 1) := by decide +kernel
theorem d_M_create_44 : decode c_M_create 44 = .ok (.idiv, 1) := by decide +kernel
theorem d_M_create_45 : decode c_M_create 45 = .ok (.if_icmp .le 5, 3) := by decide +kernel
theorem d_M_create_48 : decode c_M_create 48 = .ok (.iconst (-1), 1) := by decide +kernel
theorem d_M_create_49 : decode c_M_create 49 = .ok (.ireturn, 1) := by decide +kernel
theorem d_M_create_50 : decode c_M_create 50 = .ok (.aload_n 0, 1) := by decide +kernel
theorem d_M_create_51 : decode c_M_create 51 = .ok (.invokevirtual 108, 3) := by decide +kernel
theorem d_M_create_54 : decode c_M_create 54 = .ok (.ifCond .eq 6, 3) := by decide +kernel
theorem d_M_create_57 : decode c_M_create 57 = .ok (.bipush (-3), 2) := by decide +kernel
theorem d_M_create_59 : decode c_M_create 59 = .ok (.ireturn, 1) := by decide +kernel
theorem d_M_create_60 : decode c_M_create 60 = .ok (.iconst 0, 1) := by decide +kernel
theorem d_M_create_61 : decode c_M_create 61 = .ok (.istore 4, 2) := by decide +kernel
theorem d_M_create_63 : decode c_M_create 63 = .ok (.iload 4, 2) := by decide +kernel
theorem d_M_create_65 : decode c_M_create 65 = .ok (.iconst 4, 1) := by decide +kernel
theorem d_M_create_66 : decode c_M_create 66 = .ok (.if_icmp .ge 20, 3) := by decide +kernel
theorem d_M_create_69 : decode c_M_create 69 = .ok (.aload_n 0, 1) := by decide +kernel
theorem d_M_create_70 : decode c_M_create 70 = .ok (.bipush 15, 2) := by decide +kernel
theorem d_M_create_72 : decode c_M_create 72 = .ok (.iload 4, 2) := by decide +kernel
theorem d_M_create_74 : decode c_M_create 74 = .ok (.invokevirtual 53, 3) := by decide +kernel
theorem d_M_create_77 : decode c_M_create 77 = .ok (.ifCond .le 9, 3) := by decide +kernel
theorem d_M_create_80 : decode c_M_create 80 = .ok (.iinc 4 1, 3) := by decide +kernel
theorem d_M_create_83 : decode c_M_create 83 = .ok (.goto (-20), 3) := by decide +kernel
theorem d_M_create_86 : decode c_M_create 86 = .ok (.iload 4, 2) := by decide +kernel
theorem d_M_create_88 : decode c_M_create 88 = .ok (.iconst 4, 1) := by decide +kernel
theorem d_M_create_89 : decode c_M_create 89 = .ok (.if_icmp .ne 6, 3) := by decide +kernel
theorem d_M_create_92 : decode c_M_create 92 = .ok (.bipush (-10), 2) := by decide +kernel
theorem d_M_create_94 : decode c_M_create 94 = .ok (.ireturn, 1) := by decide +kernel
theorem d_M_create_95 : decode c_M_create 95 = .ok (.aload_n 0, 1) := by decide +kernel
theorem d_M_create_96 : decode c_M_create 96 = .ok (.bipush 15, 2) := by decide +kernel
theorem d_M_create_98 : decode c_M_create 98 = .ok (.bipush 16, 2) := by decide +kernel
theorem d_M_create_100 : decode c_M_create 100 = .ok (.invokevirtual 90, 3) := by decide +kernel
theorem d_M_create_103 : decode c_M_create 103 = .ok (.aload_n 0, 1) := by decide +kernel
theorem d_M_create_104 : decode c_M_create 104 = .ok (.bipush 16, 2) := by decide +kernel
theorem d_M_create_106 : decode c_M_create 106 = .ok (.bipush 15, 2) := by decide +kernel
theorem d_M_create_108 : decode c_M_create 108 = .ok (.iload 4, 2) := by decide +kernel
theorem d_M_create_110 : decode c_M_create 110 = .ok (.imul, 1) := by decide +kernel
theorem d_M_create_111 : decode c_M_create 111 = .ok (.iload_n 1, 1) := by decide +kernel
theorem d_M_create_112 : decode c_M_create 112 = .ok (.invokevirtual 76, 3) := by decide +kernel
theorem d_M_create_115 : decode c_M_create 115 = .ok (.aload_n 0, 1) := by decide +kernel
theorem d_M_create_116 : decode c_M_create 116 = .ok (.bipush 16, 2) := by decide +kernel
theorem d_M_create_118 : decode c_M_create 118 = .ok (.bipush 15, 2) := by decide +kernel
theorem d_M_create_120 : decode c_M_create 120 = .ok (.iload 4, 2) := by decide +kernel
theorem d_M_create_122 : decode c_M_create 122 = .ok (.imul, 1) := by decide +kernel
theorem d_M_create_123 : decode c_M_create 123 = .ok (.iconst 1, 1) := by decide +kernel
theorem d_M_create_124 : decode c_M_create 124 = .ok (.iadd, 1) := by decide +kernel
theorem d_M_create_125 : decode c_M_create 125 = .ok (.iload_n 2, 1) := by decide +kernel
theorem d_M_create_126 : decode c_M_create 126 = .ok (.invokevirtual 76, 3) := by decide +kernel
theorem d_M_create_129 : decode c_M_create 129 = .ok (.aload_n 0, 1) := by decide +kernel
theorem d_M_create_130 : decode c_M_create 130 = .ok (.bipush 16, 2) := by decide +kernel
theorem d_M_create_132 : decode c_M_create 132 = .ok (.bipush 15, 2) := by decide +kernel
theorem d_M_create_134 : decode c_M_create 134 = .ok (.iload 4, 2) := by decide +kernel
theorem d_M_create_136 : decode c_M_create 136 = .ok (.imul, 1) := by decide +kernel
theorem d_M_create_137 : decode c_M_create 137 = .ok (.iconst 2, 1) := by decide +kernel
theorem d_M_create_138 : decode c_M_create 138 = .ok (.iadd, 1) := by decide +kernel
theorem d_M_create_139 : decode c_M_create 139 = .ok (.iconst 0, 1) := by decide +kernel
theorem d_M_create_140 : decode c_M_create 140 = .ok (.invokevirtual 76, 3) := by decide +kernel
theorem d_M_create_143 : decode c_M_create 143 = .ok (.iconst 0, 1) := by decide +kernel
theorem d_M_create_144 : decode c_M_create 144 = .ok (.istore 5, 2) := by decide +kernel
theorem d_M_create_146 : decode c_M_create 146 = .ok (.iload 5, 2) := by decide +kernel
theorem d_M_create_148 : decode c_M_create 148 = .ok (.iload_n 3, 1) := by decide +kernel
theorem d_M_create_149 : decode c_M_create 149 = .ok (.if_icmp .ge 21, 3) := by decide +kernel
theorem d_M_create_152 : decode c_M_create 152 = .ok (.aload_n 0, 1) := by decide +kernel
theorem d_M_create_153 : decode c_M_create 153 = .ok (.iload 4, 2) := by decide +kernel
theorem d_M_create_155 : decode c_M_create 155 = .ok (.invokevirtual 111, 3) := by decide +kernel
theorem d_M_create_158 : decode c_M_create 158 = .ok (.ifCond .ne 6, 3) := by decide +kernel
theorem d_M_create_161 : decode c_M_create 161 = .ok (.bipush (-5), 2) := by decide +kernel
theorem d_M_create_163 : decode c_M_create 163 = .ok (.ireturn, 1) := by decide +kernel
theorem d_M_create_164 : decode c_M_create 164 = .ok (.iinc 5 1, 3) := by decide +kernel
theorem d_M_create_167 : decode c_M_create 167 = .ok (.goto (-21), 3) := by decide +kernel
theorem d_M_create_170 : decode c_M_create 170 = .ok (.aload_n 0, 1) := by decide +kernel
theorem d_M_create_171 : decode c_M_create 171 = .ok (.invokevirtual 114, 3) := by decide +kernel
theorem d_M_create_174 : decode c_M_create 174 = .ok (.ifCond .eq 8, 3) := by decide +kernel
theorem d_M_create_177 : decode c_M_create 177 = .ok (.iload 4, 2) := by decide +kernel
theorem d_M_create_179 : decode c_M_create 179 = .ok (.goto 5, 3) := by decide +kernel
theorem d_M_create_182 : decode c_M_create 182 = .ok (.bipush (-7), 2) := by decide +kernel
theorem d_M_create_184 : decode c_M_create 184 = .ok (.ireturn, 1) := by decide +kernel
theorem d_M_few_0 : decode c_M_few 0 = .ok (.iconst 0, 1) := by decide +kernel
theorem d_M_few_1 : decode c_M_few 1 = .ok (.istore_n 1, 1) := by decide +kernel
theorem d_M_few_2 : decode c_M_few 2 = .ok (.iconst 0, 1) := by decide +kernel
theorem d_M_few_3 : decode c_M_few 3 = .ok (.istore_n 2, 1) := by decide +kernel
theorem d_M_few_4 : decode c_M_few 4 = .ok (.iload_n 2, 1) := by decide +kernel
theorem d_M_few_5 : decode c_M_few 5 = .ok (.aload_n 0, 1) := by decide +kernel
theorem d_M_few_6 : decode c_M_few 6 = .ok (.getfield 29, 3) := by decide +kernel
theorem d_M_few_9 : decode c_M_few 9 = .ok (.if_icmp .ge 26, 3) := by decide +kernel
theorem d_M_few_12 : decode c_M_few 12 = .ok (.iload_n 1, 1) := by decide +kernel
theorem d_M_few_13 : decode c_M_few 13 = .ok (.aload_n 0, 1) := by decide +kernel
theorem d_M_few_14 : decode c_M_few 14 = .ok (.getfield 7, 3) := by decide +kernel
theorem d_M_few_17 : decode c_M_few 17 = .ok (.iload_n 2, 1) := by decide +kernel
theorem d_M_few_18 : decode c_M_few 18 = .ok (.baload, 1) := by decide +kernel
theorem d_M_few_19 : decode c_M_few 19 = .ok (.ifCond .eq 7, 3) := by decide +kernel
theorem d_M_few_22 : decode c_M_few 22 = .ok (.iconst 1, 1) := by decide +kernel
theorem d_M_few_23 : decode c_M_few 23 = .ok (.goto 4, 3) := by decide +kernel
theorem d_M_few_26 : decode c_M_few 26 = .ok (.iconst 0, 1) := by decide +kernel
theorem d_M_few_27 : decode c_M_few 27 = .ok (.iadd, 1) := by decide +kernel
theorem d_M_few_28 : decode c_M_few 28 = .ok (.istore_n 1, 1) := by decide +kernel
theorem d_M_few_29 : decode c_M_few 29 = .ok (.iinc 2 1, 3) := by decide +kernel
theorem d_M_few_32 : decode c_M_few 32 = .ok (.goto (-28), 3) := by decide +kernel
theorem d_M_few_35 : decode c_M_few 35 = .ok (.aload_n 0, 1) := by decide +kernel
theorem d_M_few_36 : decode c_M_few 36 = .ok (.iload_n 1, 1) := by decide +kernel
theorem d_M_few_37 : decode c_M_few 37 = .ok (.invokevirtual 104, 3) := by decide +kernel
theorem d_M_few_40 : decode c_M_few 40 = .ok (.ifCond .ne 7, 3) := by decide +kernel
theorem d_M_few_43 : decode c_M_few 43 = .ok (.iconst 1, 1) := by decide +kernel
theorem d_M_few_44 : decode c_M_few 44 = .ok (.goto 4, 3) := by decide +kernel
theorem d_M_few_47 : decode c_M_few 47 = .ok (.iconst 0, 1) := by decide +kernel
theorem d_M_few_48 : decode c_M_few 48 = .ok (.ireturn, 1) := by decide +kernel
theorem d_M_quorum_0 : decode c_M_quorum 0 = .ok (.iconst 2, 1) := by decide +kernel
theorem d_M_quorum_1 : decode c_M_quorum 1 = .ok (.iload_n 1, 1) := by decide +kernel
theorem d_M_quorum_2 : decode c_M_quorum 2 = .ok (.imul, 1) := by decide +kernel
theorem d_M_quorum_3 : decode c_M_quorum 3 = .ok (.aload_n 0, 1) := by decide +kernel
theorem d_M_quorum_4 : decode c_M_quorum 4 = .ok (.getfield 29, 3) := by decide +kernel
theorem d_M_quorum_7 : decode c_M_quorum 7 = .ok (.if_icmp .le 7, 3) := by decide +kernel
theorem d_M_quorum_10 : decode c_M_quorum 10 = .ok (.iconst 1, 1) := by decide +kernel
theorem d_M_quorum_11 : decode c_M_quorum 11 = .ok (.goto 4, 3) := by decide +kernel
theorem d_M_quorum_14 : decode c_M_quorum 14 = .ok (.iconst 0, 1) := by decide +kernel
theorem d_M_quorum_15 : decode c_M_quorum 15 = .ok (.ireturn, 1) := by decide +kernel
theorem d_M_rowsOf_0 : decode c_M_rowsOf 0 = .ok (.aload_n 0, 1) := by decide +kernel
theorem d_M_rowsOf_1 : decode c_M_rowsOf 1 = .ok (.iload_n 1, 1) := by decide +kernel
theorem d_M_rowsOf_2 : decode c_M_rowsOf 2 = .ok (.bipush 15, 2) := by decide +kernel
theorem d_M_rowsOf_4 : decode c_M_rowsOf 4 = .ok (.iload_n 2, 1) := by decide +kernel
theorem d_M_rowsOf_5 : decode c_M_rowsOf 5 = .ok (.imul, 1) := by decide +kernel
theorem d_M_rowsOf_6 : decode c_M_rowsOf 6 = .ok (.iconst 2, 1) := by decide +kernel
theorem d_M_rowsOf_7 : decode c_M_rowsOf 7 = .ok (.iadd, 1) := by decide +kernel
theorem d_M_rowsOf_8 : decode c_M_rowsOf 8 = .ok (.invokevirtual 49, 3) := by decide +kernel
theorem d_M_rowsOf_11 : decode c_M_rowsOf 11 = .ok (.ireturn, 1) := by decide +kernel
theorem d_M_get_0 : decode c_M_get 0 = .ok (.aload_n 0, 1) := by decide +kernel
theorem d_M_get_1 : decode c_M_get 1 = .ok (.getfield 17, 3) := by decide +kernel
theorem d_M_get_4 : decode c_M_get 4 = .ok (.bipush 64, 2) := by decide +kernel
theorem d_M_get_6 : decode c_M_get 6 = .ok (.iload_n 1, 1) := by decide +kernel
theorem d_M_get_7 : decode c_M_get 7 = .ok (.imul, 1) := by decide +kernel
theorem d_M_get_8 : decode c_M_get 8 = .ok (.iload_n 2, 1) := by decide +kernel
theorem d_M_get_9 : decode c_M_get 9 = .ok (.iadd, 1) := by decide +kernel
theorem d_M_get_10 : decode c_M_get 10 = .ok (.iaload, 1) := by decide +kernel
theorem d_M_get_11 : decode c_M_get 11 = .ok (.ireturn, 1) := by decide +kernel
theorem d_M_copyMap_0 : decode c_M_copyMap 0 = .ok (.iconst 0, 1) := by decide +kernel
theorem d_M_copyMap_1 : decode c_M_copyMap 1 = .ok (.istore_n 3, 1) := by decide +kernel
theorem d_M_copyMap_2 : decode c_M_copyMap 2 = .ok (.iload_n 3, 1) := by decide +kernel
theorem d_M_copyMap_3 : decode c_M_copyMap 3 = .ok (.bipush 64, 2) := by decide +kernel
theorem d_M_copyMap_5 : decode c_M_copyMap 5 = .ok (.if_icmp .ge 31, 3) := by decide +kernel
theorem d_M_copyMap_8 : decode c_M_copyMap 8 = .ok (.aload_n 0, 1) := by decide +kernel
theorem d_M_copyMap_9 : decode c_M_copyMap 9 = .ok (.getfield 17, 3) := by decide +kernel
theorem d_M_copyMap_12 : decode c_M_copyMap 12 = .ok (.bipush 64, 2) := by decide +kernel
theorem d_M_copyMap_14 : decode c_M_copyMap 14 = .ok (.iload_n 2, 1) := by decide +kernel
theorem d_M_copyMap_15 : decode c_M_copyMap 15 = .ok (.imul, 1) := by decide +kernel
theorem d_M_copyMap_16 : decode c_M_copyMap 16 = .ok (.iload_n 3, 1) := by decide +kernel
theorem d_M_copyMap_17 : decode c_M_copyMap 17 = .ok (.iadd, 1) := by decide +kernel
theorem d_M_copyMap_18 : decode c_M_copyMap 18 = .ok (.aload_n 0, 1) := by decide +kernel
theorem d_M_copyMap_19 : decode c_M_copyMap 19 = .ok (.getfield 17, 3) := by decide +kernel
theorem d_M_copyMap_22 : decode c_M_copyMap 22 = .ok (.bipush 64, 2) := by decide +kernel
theorem d_M_copyMap_24 : decode c_M_copyMap 24 = .ok (.iload_n 1, 1) := by decide +kernel
theorem d_M_copyMap_25 : decode c_M_copyMap 25 = .ok (.imul, 1) := by decide +kernel
theorem d_M_copyMap_26 : decode c_M_copyMap 26 = .ok (.iload_n 3, 1) := by decide +kernel
theorem d_M_copyMap_27 : decode c_M_copyMap 27 = .ok (.iadd, 1) := by decide +kernel
theorem d_M_copyMap_28 : decode c_M_copyMap 28 = .ok (.iaload, 1) := by decide +kernel
theorem d_M_copyMap_29 : decode c_M_copyMap 29 = .ok (.iastore, 1) := by decide +kernel
theorem d_M_copyMap_30 : decode c_M_copyMap 30 = .ok (.iinc 3 1, 3) := by decide +kernel
theorem d_M_copyMap_33 : decode c_M_copyMap 33 = .ok (.goto (-31), 3) := by decide +kernel
theorem d_M_copyMap_36 : decode c_M_copyMap 36 = .ok (.return_, 1) := by decide +kernel
theorem d_M_set_0 : decode c_M_set 0 = .ok (.aload_n 0, 1) := by decide +kernel
theorem d_M_set_1 : decode c_M_set 1 = .ok (.getfield 17, 3) := by decide +kernel
theorem d_M_set_4 : decode c_M_set 4 = .ok (.bipush 64, 2) := by decide +kernel
theorem d_M_set_6 : decode c_M_set 6 = .ok (.iload_n 1, 1) := by decide +kernel
theorem d_M_set_7 : decode c_M_set 7 = .ok (.imul, 1) := by decide +kernel
theorem d_M_set_8 : decode c_M_set 8 = .ok (.iload_n 2, 1) := by decide +kernel
theorem d_M_set_9 : decode c_M_set 9 = .ok (.iadd, 1) := by decide +kernel
theorem d_M_set_10 : decode c_M_set 10 = .ok (.iload_n 3, 1) := by decide +kernel
theorem d_M_set_11 : decode c_M_set 11 = .ok (.iastore, 1) := by decide +kernel
theorem d_M_set_12 : decode c_M_set 12 = .ok (.return_, 1) := by decide +kernel
theorem d_M_addRow_0 : decode c_M_addRow 0 = .ok (.aload_n 0, 1) := by decide +kernel
theorem d_M_addRow_1 : decode c_M_addRow 1 = .ok (.bipush 16, 2) := by decide +kernel
theorem d_M_addRow_3 : decode c_M_addRow 3 = .ok (.iload_n 1, 1) := by decide +kernel
theorem d_M_addRow_4 : decode c_M_addRow 4 = .ok (.invokevirtual 56, 3) := by decide +kernel
theorem d_M_addRow_7 : decode c_M_addRow 7 = .ok (.istore_n 2, 1) := by decide +kernel
theorem d_M_addRow_8 : decode c_M_addRow 8 = .ok (.iconst 0, 1) := by decide +kernel
theorem d_M_addRow_9 : decode c_M_addRow 9 = .ok (.istore_n 3, 1) := by decide +kernel
theorem d_M_addRow_10 : decode c_M_addRow 10 = .ok (.iconst 0, 1) := by decide +kernel
theorem d_M_addRow_11 : decode c_M_addRow 11 = .ok (.istore 4, 2) := by decide +kernel
theorem d_M_addRow_13 : decode c_M_addRow 13 = .ok (.iconst 0, 1) := by decide +kernel
theorem d_M_addRow_14 : decode c_M_addRow 14 = .ok (.istore 5, 2) := by decide +kernel
theorem d_M_addRow_16 : decode c_M_addRow 16 = .ok (.iload 5, 2) := by decide +kernel
theorem d_M_addRow_18 : decode c_M_addRow 18 = .ok (.aload_n 0, 1) := by decide +kernel
theorem d_M_addRow_19 : decode c_M_addRow 19 = .ok (.getfield 29, 3) := by decide +kernel
theorem d_M_addRow_22 : decode c_M_addRow 22 = .ok (.if_icmp .ge 78, 3) := by decide +kernel
theorem d_M_addRow_25 : decode c_M_addRow 25 = .ok (.aload_n 0, 1) := by decide +kernel
theorem d_M_addRow_26 : decode c_M_addRow 26 = .ok (.getfield 7, 3) := by decide +kernel
theorem d_M_addRow_29 : decode c_M_addRow 29 = .ok (.iload 5, 2) := by decide +kernel
theorem d_M_addRow_31 : decode c_M_addRow 31 = .ok (.baload, 1) := by decide +kernel
theorem d_M_addRow_32 : decode c_M_addRow 32 = .ok (.ifCond .eq 18, 3) := by decide +kernel
theorem d_M_addRow_35 : decode c_M_addRow 35 = .ok (.aload_n 0, 1) := by decide +kernel
theorem d_M_addRow_36 : decode c_M_addRow 36 = .ok (.bipush 16, 2) := by decide +kernel
theorem d_M_addRow_38 : decode c_M_addRow 38 = .ok (.iload 5, 2) := by decide +kernel
theorem d_M_addRow_40 : decode c_M_addRow 40 = .ok (.invokevirtual 66, 3) := by decide +kernel
theorem d_M_addRow_43 : decode c_M_addRow 43 = .ok (.ifCond .le 7, 3) := by decide +kernel
theorem d_M_addRow_46 : decode c_M_addRow 46 = .ok (.iconst 1, 1) := by decide +kernel
theorem d_M_addRow_47 : decode c_M_addRow 47 = .ok (.goto 4, 3) := by decide +kernel
theorem d_M_addRow_50 : decode c_M_addRow 50 = .ok (.iconst 0, 1) := by decide +kernel
theorem d_M_addRow_51 : decode c_M_addRow 51 = .ok (.istore 6, 2) := by decide +kernel
theorem d_M_addRow_53 : decode c_M_addRow 53 = .ok (.iload_n 3, 1) := by decide +kernel
theorem d_M_addRow_54 : decode c_M_addRow 54 = .ok (.iload 6, 2) := by decide +kernel
theorem d_M_addRow_56 : decode c_M_addRow 56 = .ok (.ifCond .eq 7, 3) := by decide +kernel
theorem d_M_addRow_59 : decode c_M_addRow 59 = .ok (.iconst 1, 1) := by decide +kernel
theorem d_M_addRow_60 : decode c_M_addRow 60 = .ok (.goto 4, 3) := by decide +kernel
theorem d_M_addRow_63 : decode c_M_addRow 63 = .ok (.iconst 0, 1) := by decide +kernel
theorem d_M_addRow_64 : decode c_M_addRow 64 = .ok (.iadd, 1) := by decide +kernel
theorem d_M_addRow_65 : decode c_M_addRow 65 = .ok (.istore_n 3, 1) := by decide +kernel
theorem d_M_addRow_66 : decode c_M_addRow 66 = .ok (.iload 4, 2) := by decide +kernel
theorem d_M_addRow_68 : decode c_M_addRow 68 = .ok (.iload 6, 2) := by decide +kernel
theorem d_M_addRow_70 : decode c_M_addRow 70 = .ok (.ifCond .eq 20, 3) := by decide +kernel
theorem d_M_addRow_73 : decode c_M_addRow 73 = .ok (.aload_n 0, 1) := by decide +kernel
theorem d_M_addRow_74 : decode c_M_addRow 74 = .ok (.iload 5, 2) := by decide +kernel
theorem d_M_addRow_76 : decode c_M_addRow 76 = .ok (.invokevirtual 69, 3) := by decide +kernel
theorem d_M_addRow_79 : decode c_M_addRow 79 = .ok (.iload_n 2, 1) := by decide +kernel
theorem d_M_addRow_80 : decode c_M_addRow 80 = .ok (.if_icmp .ge 10, 3) := by decide +kernel
theorem d_M_addRow_83 : decode c_M_addRow 83 = .ok (.iconst 1, 1) := by decide +kernel
theorem d_M_addRow_84 : decode c_M_addRow 84 = .ok (.iload 5, 2) := by decide +kernel
theorem d_M_addRow_86 : decode c_M_addRow 86 = .ok (.ishl, 1) := by decide +kernel
theorem d_M_addRow_87 : decode c_M_addRow 87 = .ok (.goto 4, 3) := by decide +kernel
theorem d_M_addRow_90 : decode c_M_addRow 90 = .ok (.iconst 0, 1) := by decide +kernel
theorem d_M_addRow_91 : decode c_M_addRow 91 = .ok (.ior, 1) := by decide +kernel
theorem d_M_addRow_92 : decode c_M_addRow 92 = .ok (.istore 4, 2) := by decide +kernel
theorem d_M_addRow_94 : decode c_M_addRow 94 = .ok (.iinc 5 1, 3) := by decide +kernel
theorem d_M_addRow_97 : decode c_M_addRow 97 = .ok (.goto (-81), 3) := by decide +kernel
theorem d_M_addRow_100 : decode c_M_addRow 100 = .ok (.iload_n 3, 1) := by decide +kernel
theorem d_M_addRow_101 : decode c_M_addRow 101 = .ok (.iload_n 2, 1) := by decide +kernel
theorem d_M_addRow_102 : decode c_M_addRow 102 = .ok (.if_icmp .ge 5, 3) := by decide +kernel
theorem d_M_addRow_105 : decode c_M_addRow 105 = .ok (.iconst 0, 1) := by decide +kernel
theorem d_M_addRow_106 : decode c_M_addRow 106 = .ok (.ireturn, 1) := by decide +kernel
theorem d_M_addRow_107 : decode c_M_addRow 107 = .ok (.bipush 15, 2) := by decide +kernel
theorem d_M_addRow_109 : decode c_M_addRow 109 = .ok (.iload_n 1, 1) := by decide +kernel
theorem d_M_addRow_110 : decode c_M_addRow 110 = .ok (.imul, 1) := by decide +kernel
theorem d_M_addRow_111 : decode c_M_addRow 111 = .ok (.iconst 3, 1) := by decide +kernel
theorem d_M_addRow_112 : decode c_M_addRow 112 = .ok (.iadd, 1) := by decide +kernel
theorem d_M_addRow_113 : decode c_M_addRow 113 = .ok (.aload_n 0, 1) := by decide +kernel
theorem d_M_addRow_114 : decode c_M_addRow 114 = .ok (.bipush 16, 2) := by decide +kernel
theorem d_M_addRow_116 : decode c_M_addRow 116 = .ok (.iload_n 1, 1) := by decide +kernel
theorem d_M_addRow_117 : decode c_M_addRow 117 = .ok (.invokevirtual 59, 3) := by decide +kernel
theorem d_M_addRow_120 : decode c_M_addRow 120 = .ok (.iadd, 1) := by decide +kernel
theorem d_M_addRow_121 : decode c_M_addRow 121 = .ok (.istore 5, 2) := by decide +kernel
theorem d_M_addRow_123 : decode c_M_addRow 123 = .ok (.iconst 0, 1) := by decide +kernel
theorem d_M_addRow_124 : decode c_M_addRow 124 = .ok (.istore 6, 2) := by decide +kernel
theorem d_M_addRow_126 : decode c_M_addRow 126 = .ok (.iload 6, 2) := by decide +kernel
theorem d_M_addRow_128 : decode c_M_addRow 128 = .ok (.aload_n 0, 1) := by decide +kernel
theorem d_M_addRow_129 : decode c_M_addRow 129 = .ok (.getfield 29, 3) := by decide +kernel
theorem d_M_addRow_132 : decode c_M_addRow 132 = .ok (.if_icmp .ge 39, 3) := by decide +kernel
theorem d_M_addRow_135 : decode c_M_addRow 135 = .ok (.iload 4, 2) := by decide +kernel
theorem d_M_addRow_137 : decode c_M_addRow 137 = .ok (.iload 6, 2) := by decide +kernel
theorem d_M_addRow_139 : decode c_M_addRow 139 = .ok (.ishr, 1) := by decide +kernel
theorem d_M_addRow_140 : decode c_M_addRow 140 = .ok (.iconst 1, 1) := by decide +kernel
theorem d_M_addRow_141 : decode c_M_addRow 141 = .ok (.iand, 1) := by decide +kernel
theorem d_M_addRow_142 : decode c_M_addRow 142 = .ok (.iconst 1, 1) := by decide +kernel
theorem d_M_addRow_143 : decode c_M_addRow 143 = .ok (.if_icmp .ne 22, 3) := by decide +kernel
theorem d_M_addRow_146 : decode c_M_addRow 146 = .ok (.aload_n 0, 1) := by decide +kernel
theorem d_M_addRow_147 : decode c_M_addRow 147 = .ok (.bipush 16, 2) := by decide +kernel
theorem d_M_addRow_149 : decode c_M_addRow 149 = .ok (.iload 5, 2) := by decide +kernel
theorem d_M_addRow_151 : decode c_M_addRow 151 = .ok (.aload_n 0, 1) := by decide +kernel
theorem d_M_addRow_152 : decode c_M_addRow 152 = .ok (.bipush 16, 2) := by decide +kernel
theorem d_M_addRow_154 : decode c_M_addRow 154 = .ok (.iload 6, 2) := by decide +kernel
theorem d_M_addRow_156 : decode c_M_addRow 156 = .ok (.invokevirtual 73, 3) := by decide +kernel
theorem d_M_addRow_159 : decode c_M_addRow 159 = .ok (.invokevirtual 76, 3) := by decide +kernel
theorem d_M_addRow_162 : decode c_M_addRow 162 = .ok (.iinc 5 1, 3) := by decide +kernel
theorem d_M_addRow_165 : decode c_M_addRow 165 = .ok (.iinc 6 1, 3) := by decide +kernel
theorem d_M_addRow_168 : decode c_M_addRow 168 = .ok (.goto (-42), 3) := by decide +kernel
theorem d_M_addRow_171 : decode c_M_addRow 171 = .ok (.aload_n 0, 1) := by decide +kernel
theorem d_M_addRow_172 : decode c_M_addRow 172 = .ok (.bipush 16, 2) := by decide +kernel
theorem d_M_addRow_174 : decode c_M_addRow 174 = .ok (.bipush 15, 2) := by decide +kernel
theorem d_M_addRow_176 : decode c_M_addRow 176 = .ok (.iload_n 1, 1) := by decide +kernel
theorem d_M_addRow_177 : decode c_M_addRow 177 = .ok (.imul, 1) := by decide +kernel
theorem d_M_addRow_178 : decode c_M_addRow 178 = .ok (.iconst 2, 1) := by decide +kernel
theorem d_M_addRow_179 : decode c_M_addRow 179 = .ok (.iadd, 1) := by decide +kernel
theorem d_M_addRow_180 : decode c_M_addRow 180 = .ok (.aload_n 0, 1) := by decide +kernel
theorem d_M_addRow_181 : decode c_M_addRow 181 = .ok (.bipush 16, 2) := by decide +kernel
theorem d_M_addRow_183 : decode c_M_addRow 183 = .ok (.iload_n 1, 1) := by decide +kernel
theorem d_M_addRow_184 : decode c_M_addRow 184 = .ok (.invokevirtual 53, 3) := by decide +kernel
theorem d_M_addRow_187 : decode c_M_addRow 187 = .ok (.iconst 1, 1) := by decide +kernel
theorem d_M_addRow_188 : decode c_M_addRow 188 = .ok (.iadd, 1) := by decide +kernel
theorem d_M_addRow_189 : decode c_M_addRow 189 = .ok (.invokevirtual 76, 3) := by decide +kernel
theorem d_M_addRow_192 : decode c_M_addRow 192 = .ok (.iconst 1, 1) := by decide +kernel
theorem d_M_addRow_193 : decode c_M_addRow 193 = .ok (.ireturn, 1) := by decide +kernel
theorem d_M_width_0 : decode c_M_width 0 = .ok (.aload_n 0, 1) := by decide +kernel
theorem d_M_width_1 : decode c_M_width 1 = .ok (.iload_n 1, 1) := by decide +kernel
theorem d_M_width_2 : decode c_M_width 2 = .ok (.bipush 15, 2) := by decide +kernel
theorem d_M_width_4 : decode c_M_width 4 = .ok (.iload_n 2, 1) := by decide +kernel
theorem d_M_width_5 : decode c_M_width 5 = .ok (.imul, 1) := by decide +kernel
theorem d_M_width_6 : decode c_M_width 6 = .ok (.invokevirtual 49, 3) := by decide +kernel
theorem d_M_width_9 : decode c_M_width 9 = .ok (.ireturn, 1) := by decide +kernel
theorem d_M_freeOf_0 : decode c_M_freeOf 0 = .ok (.iconst 0, 1) := by decide +kernel
theorem d_M_freeOf_1 : decode c_M_freeOf 1 = .ok (.istore_n 3, 1) := by decide +kernel
theorem d_M_freeOf_2 : decode c_M_freeOf 2 = .ok (.iconst 0, 1) := by decide +kernel
theorem d_M_freeOf_3 : decode c_M_freeOf 3 = .ok (.istore 4, 2) := by decide +kernel
theorem d_M_freeOf_5 : decode c_M_freeOf 5 = .ok (.iload 4, 2) := by decide +kernel
theorem d_M_freeOf_7 : decode c_M_freeOf 7 = .ok (.aload_n 0, 1) := by decide +kernel
theorem d_M_freeOf_8 : decode c_M_freeOf 8 = .ok (.getfield 33, 3) := by decide +kernel
theorem d_M_freeOf_11 : decode c_M_freeOf 11 = .ok (.if_icmp .ge 32, 3) := by decide +kernel
theorem d_M_freeOf_14 : decode c_M_freeOf 14 = .ok (.iload_n 3, 1) := by decide +kernel
theorem d_M_freeOf_15 : decode c_M_freeOf 15 = .ok (.aload_n 0, 1) := by decide +kernel
theorem d_M_freeOf_16 : decode c_M_freeOf 16 = .ok (.iload_n 1, 1) := by decide +kernel
theorem d_M_freeOf_17 : decode c_M_freeOf 17 = .ok (.bipush 16, 2) := by decide +kernel
theorem d_M_freeOf_19 : decode c_M_freeOf 19 = .ok (.iload_n 2, 1) := by decide +kernel
theorem d_M_freeOf_20 : decode c_M_freeOf 20 = .ok (.imul, 1) := by decide +kernel
theorem d_M_freeOf_21 : decode c_M_freeOf 21 = .ok (.iload 4, 2) := by decide +kernel
theorem d_M_freeOf_23 : decode c_M_freeOf 23 = .ok (.iadd, 1) := by decide +kernel
theorem d_M_freeOf_24 : decode c_M_freeOf 24 = .ok (.invokevirtual 62, 3) := by decide +kernel
theorem d_M_freeOf_27 : decode c_M_freeOf 27 = .ok (.ifCond .eq 7, 3) := by decide +kernel
theorem d_M_freeOf_30 : decode c_M_freeOf 30 = .ok (.iconst 0, 1) := by decide +kernel
theorem d_M_freeOf_31 : decode c_M_freeOf 31 = .ok (.goto 4, 3) := by decide +kernel
theorem d_M_freeOf_34 : decode c_M_freeOf 34 = .ok (.iconst 1, 1) := by decide +kernel
theorem d_M_freeOf_35 : decode c_M_freeOf 35 = .ok (.iadd, 1) := by decide +kernel
theorem d_M_freeOf_36 : decode c_M_freeOf 36 = .ok (.istore_n 3, 1) := by decide +kernel
theorem d_M_freeOf_37 : decode c_M_freeOf 37 = .ok (.iinc 4 1, 3) := by decide +kernel
theorem d_M_freeOf_40 : decode c_M_freeOf 40 = .ok (.goto (-35), 3) := by decide +kernel
theorem d_M_freeOf_43 : decode c_M_freeOf 43 = .ok (.iload_n 3, 1) := by decide +kernel
theorem d_M_freeOf_44 : decode c_M_freeOf 44 = .ok (.ireturn, 1) := by decide +kernel
theorem d_M_used_0 : decode c_M_used 0 = .ok (.aload_n 0, 1) := by decide +kernel
theorem d_M_used_1 : decode c_M_used 1 = .ok (.iload_n 1, 1) := by decide +kernel
theorem d_M_used_2 : decode c_M_used 2 = .ok (.bipush 60, 2) := by decide +kernel
theorem d_M_used_4 : decode c_M_used 4 = .ok (.invokevirtual 49, 3) := by decide +kernel
theorem d_M_used_7 : decode c_M_used 7 = .ok (.ifCond .lt 18, 3) := by decide +kernel
theorem d_M_used_10 : decode c_M_used 10 = .ok (.aload_n 0, 1) := by decide +kernel
theorem d_M_used_11 : decode c_M_used 11 = .ok (.iload_n 1, 1) := by decide +kernel
theorem d_M_used_12 : decode c_M_used 12 = .ok (.bipush 62, 2) := by decide +kernel
theorem d_M_used_14 : decode c_M_used 14 = .ok (.invokevirtual 49, 3) := by decide +kernel
theorem d_M_used_17 : decode c_M_used 17 = .ok (.iload_n 2, 1) := by decide +kernel
theorem d_M_used_18 : decode c_M_used 18 = .ok (.if_icmp .ne 7, 3) := by decide +kernel
theorem d_M_used_21 : decode c_M_used 21 = .ok (.iconst 1, 1) := by decide +kernel
theorem d_M_used_22 : decode c_M_used 22 = .ok (.goto 4, 3) := by decide +kernel
theorem d_M_used_25 : decode c_M_used 25 = .ok (.iconst 0, 1) := by decide +kernel
theorem d_M_used_26 : decode c_M_used 26 = .ok (.istore_n 3, 1) := by decide +kernel
theorem d_M_used_27 : decode c_M_used 27 = .ok (.iconst 0, 1) := by decide +kernel
theorem d_M_used_28 : decode c_M_used 28 = .ok (.istore 4, 2) := by decide +kernel
theorem d_M_used_30 : decode c_M_used 30 = .ok (.iload 4, 2) := by decide +kernel
theorem d_M_used_32 : decode c_M_used 32 = .ok (.iconst 4, 1) := by decide +kernel
theorem d_M_used_33 : decode c_M_used 33 = .ok (.if_icmp .ge 63, 3) := by decide +kernel
theorem d_M_used_36 : decode c_M_used 36 = .ok (.aload_n 0, 1) := by decide +kernel
theorem d_M_used_37 : decode c_M_used 37 = .ok (.iload_n 1, 1) := by decide +kernel
theorem d_M_used_38 : decode c_M_used 38 = .ok (.iload 4, 2) := by decide +kernel
theorem d_M_used_40 : decode c_M_used 40 = .ok (.invokevirtual 59, 3) := by decide +kernel
theorem d_M_used_43 : decode c_M_used 43 = .ok (.istore 5, 2) := by decide +kernel
theorem d_M_used_45 : decode c_M_used 45 = .ok (.iconst 0, 1) := by decide +kernel
theorem d_M_used_46 : decode c_M_used 46 = .ok (.istore 6, 2) := by decide +kernel
theorem d_M_used_48 : decode c_M_used 48 = .ok (.iload 6, 2) := by decide +kernel
theorem d_M_used_50 : decode c_M_used 50 = .ok (.iload 5, 2) := by decide +kernel
theorem d_M_used_52 : decode c_M_used 52 = .ok (.if_icmp .ge 38, 3) := by decide +kernel
theorem d_M_used_55 : decode c_M_used 55 = .ok (.iload_n 3, 1) := by decide +kernel
theorem d_M_used_56 : decode c_M_used 56 = .ok (.ifCond .ne 22, 3) := by decide +kernel
theorem d_M_used_59 : decode c_M_used 59 = .ok (.aload_n 0, 1) := by decide +kernel
theorem d_M_used_60 : decode c_M_used 60 = .ok (.iload_n 1, 1) := by decide +kernel
theorem d_M_used_61 : decode c_M_used 61 = .ok (.bipush 15, 2) := by decide +kernel
theorem d_M_used_63 : decode c_M_used 63 = .ok (.iload 4, 2) := by decide +kernel
theorem d_M_used_65 : decode c_M_used 65 = .ok (.imul, 1) := by decide +kernel
theorem d_M_used_66 : decode c_M_used 66 = .ok (.iconst 3, 1) := by decide +kernel
theorem d_M_used_67 : decode c_M_used 67 = .ok (.iadd, 1) := by decide +kernel
theorem d_M_used_68 : decode c_M_used 68 = .ok (.iload 6, 2) := by decide +kernel
theorem d_M_used_70 : decode c_M_used 70 = .ok (.iadd, 1) := by decide +kernel
theorem d_M_used_71 : decode c_M_used 71 = .ok (.invokevirtual 49, 3) := by decide +kernel
theorem d_M_used_74 : decode c_M_used 74 = .ok (.iload_n 2, 1) := by decide +kernel
theorem d_M_used_75 : decode c_M_used 75 = .ok (.if_icmp .ne 7, 3) := by decide +kernel
theorem d_M_used_78 : decode c_M_used 78 = .ok (.iconst 1, 1) := by decide +kernel
theorem d_M_used_79 : decode c_M_used 79 = .ok (.goto 4, 3) := by decide +kernel
theorem d_M_used_82 : decode c_M_used 82 = .ok (.iconst 0, 1) := by decide +kernel
theorem d_M_used_83 : decode c_M_used 83 = .ok (.istore_n 3, 1) := by decide +kernel
theorem d_M_used_84 : decode c_M_used 84 = .ok (.iinc 6 1, 3) := by decide +kernel
theorem d_M_used_87 : decode c_M_used 87 = .ok (.goto (-39), 3) := by decide +kernel
theorem d_M_used_90 : decode c_M_used 90 = .ok (.iinc 4 1, 3) := by decide +kernel
theorem d_M_used_93 : decode c_M_used 93 = .ok (.goto (-63), 3) := by decide +kernel
theorem d_M_used_96 : decode c_M_used 96 = .ok (.iload_n 3, 1) := by decide +kernel
theorem d_M_used_97 : decode c_M_used 97 = .ok (.ireturn, 1) := by decide +kernel
theorem d_M_extentsOf_0 : decode c_M_extentsOf 0 = .ok (.aload_n 0, 1) := by decide +kernel
theorem d_M_extentsOf_1 : decode c_M_extentsOf 1 = .ok (.iload_n 1, 1) := by decide +kernel
theorem d_M_extentsOf_2 : decode c_M_extentsOf 2 = .ok (.iload_n 2, 1) := by decide +kernel
theorem d_M_extentsOf_3 : decode c_M_extentsOf 3 = .ok (.invokevirtual 56, 3) := by decide +kernel
theorem d_M_extentsOf_6 : decode c_M_extentsOf 6 = .ok (.aload_n 0, 1) := by decide +kernel
theorem d_M_extentsOf_7 : decode c_M_extentsOf 7 = .ok (.iload_n 1, 1) := by decide +kernel
theorem d_M_extentsOf_8 : decode c_M_extentsOf 8 = .ok (.iload_n 2, 1) := by decide +kernel
theorem d_M_extentsOf_9 : decode c_M_extentsOf 9 = .ok (.invokevirtual 53, 3) := by decide +kernel
theorem d_M_extentsOf_12 : decode c_M_extentsOf 12 = .ok (.imul, 1) := by decide +kernel
theorem d_M_extentsOf_13 : decode c_M_extentsOf 13 = .ok (.ireturn, 1) := by decide +kernel
theorem d_M_before_0 : decode c_M_before 0 = .ok (.aload_n 0, 1) := by decide +kernel
theorem d_M_before_1 : decode c_M_before 1 = .ok (.bipush 16, 2) := by decide +kernel
theorem d_M_before_3 : decode c_M_before 3 = .ok (.iload_n 1, 1) := by decide +kernel
theorem d_M_before_4 : decode c_M_before 4 = .ok (.invokevirtual 66, 3) := by decide +kernel
theorem d_M_before_7 : decode c_M_before 7 = .ok (.istore_n 2, 1) := by decide +kernel
theorem d_M_before_8 : decode c_M_before 8 = .ok (.iconst 0, 1) := by decide +kernel
theorem d_M_before_9 : decode c_M_before 9 = .ok (.istore_n 3, 1) := by decide +kernel
theorem d_M_before_10 : decode c_M_before 10 = .ok (.iconst 0, 1) := by decide +kernel
theorem d_M_before_11 : decode c_M_before 11 = .ok (.istore 4, 2) := by decide +kernel
theorem d_M_before_13 : decode c_M_before 13 = .ok (.iload 4, 2) := by decide +kernel
theorem d_M_before_15 : decode c_M_before 15 = .ok (.aload_n 0, 1) := by decide +kernel
theorem d_M_before_16 : decode c_M_before 16 = .ok (.getfield 29, 3) := by decide +kernel
theorem d_M_before_19 : decode c_M_before 19 = .ok (.if_icmp .ge 65, 3) := by decide +kernel
theorem d_M_before_22 : decode c_M_before 22 = .ok (.aload_n 0, 1) := by decide +kernel
theorem d_M_before_23 : decode c_M_before 23 = .ok (.getfield 7, 3) := by decide +kernel
theorem d_M_before_26 : decode c_M_before 26 = .ok (.iload 4, 2) := by decide +kernel
theorem d_M_before_28 : decode c_M_before 28 = .ok (.baload, 1) := by decide +kernel
theorem d_M_before_29 : decode c_M_before 29 = .ok (.ifCond .eq 14, 3) := by decide +kernel
theorem d_M_before_32 : decode c_M_before 32 = .ok (.aload_n 0, 1) := by decide +kernel
theorem d_M_before_33 : decode c_M_before 33 = .ok (.bipush 16, 2) := by decide +kernel
theorem d_M_before_35 : decode c_M_before 35 = .ok (.iload 4, 2) := by decide +kernel
theorem d_M_before_37 : decode c_M_before 37 = .ok (.invokevirtual 66, 3) := by decide +kernel
theorem d_M_before_40 : decode c_M_before 40 = .ok (.goto 4, 3) := by decide +kernel
theorem d_M_before_43 : decode c_M_before 43 = .ok (.iconst 0, 1) := by decide +kernel
theorem d_M_before_44 : decode c_M_before 44 = .ok (.istore 5, 2) := by decide +kernel
theorem d_M_before_46 : decode c_M_before 46 = .ok (.iload_n 3, 1) := by decide +kernel
theorem d_M_before_47 : decode c_M_before 47 = .ok (.iload 4, 2) := by decide +kernel
theorem d_M_before_49 : decode c_M_before 49 = .ok (.iload_n 1, 1) := by decide +kernel
theorem d_M_before_50 : decode c_M_before 50 = .ok (.if_icmp .eq 25, 3) := by decide +kernel
theorem d_M_before_53 : decode c_M_before 53 = .ok (.iload 5, 2) := by decide +kernel
theorem d_M_before_55 : decode c_M_before 55 = .ok (.iload_n 2, 1) := by decide +kernel
theorem d_M_before_56 : decode c_M_before 56 = .ok (.if_icmp .gt 15, 3) := by decide +kernel
theorem d_M_before_59 : decode c_M_before 59 = .ok (.iload 5, 2) := by decide +kernel
theorem d_M_before_61 : decode c_M_before 61 = .ok (.iload_n 2, 1) := by decide +kernel
theorem d_M_before_62 : decode c_M_before 62 = .ok (.if_icmp .ne 13, 3) := by decide +kernel
theorem d_M_before_65 : decode c_M_before 65 = .ok (.iload 4, 2) := by decide +kernel
theorem d_M_before_67 : decode c_M_before 67 = .ok (.iload_n 1, 1) := by decide +kernel
theorem d_M_before_68 : decode c_M_before 68 = .ok (.if_icmp .ge 7, 3) := by decide +kernel
theorem d_M_before_71 : decode c_M_before 71 = .ok (.iconst 1, 1) := by decide +kernel
theorem d_M_before_72 : decode c_M_before 72 = .ok (.goto 4, 3) := by decide +kernel
theorem d_M_before_75 : decode c_M_before 75 = .ok (.iconst 0, 1) := by decide +kernel
theorem d_M_before_76 : decode c_M_before 76 = .ok (.iadd, 1) := by decide +kernel
theorem d_M_before_77 : decode c_M_before 77 = .ok (.istore_n 3, 1) := by decide +kernel
theorem d_M_before_78 : decode c_M_before 78 = .ok (.iinc 4 1, 3) := by decide +kernel
theorem d_M_before_81 : decode c_M_before 81 = .ok (.goto (-68), 3) := by decide +kernel
theorem d_M_before_84 : decode c_M_before 84 = .ok (.iload_n 3, 1) := by decide +kernel
theorem d_M_before_85 : decode c_M_before 85 = .ok (.ireturn, 1) := by decide +kernel
theorem d_M_leastFree_0 : decode c_M_leastFree 0 = .ok (.iconst 0, 1) := by decide +kernel
theorem d_M_leastFree_1 : decode c_M_leastFree 1 = .ok (.istore_n 3, 1) := by decide +kernel
theorem d_M_leastFree_2 : decode c_M_leastFree 2 = .ok (.iload_n 3, 1) := by decide +kernel
theorem d_M_leastFree_3 : decode c_M_leastFree 3 = .ok (.aload_n 0, 1) := by decide +kernel
theorem d_M_leastFree_4 : decode c_M_leastFree 4 = .ok (.getfield 33, 3) := by decide +kernel
theorem d_M_leastFree_7 : decode c_M_leastFree 7 = .ok (.if_icmp .ge 30, 3) := by decide +kernel
theorem d_M_leastFree_10 : decode c_M_leastFree 10 = .ok (.aload_n 0, 1) := by decide +kernel
theorem d_M_leastFree_11 : decode c_M_leastFree 11 = .ok (.iload_n 1, 1) := by decide +kernel
theorem d_M_leastFree_12 : decode c_M_leastFree 12 = .ok (.bipush 16, 2) := by decide +kernel
theorem d_M_leastFree_14 : decode c_M_leastFree 14 = .ok (.iload_n 2, 1) := by decide +kernel
theorem d_M_leastFree_15 : decode c_M_leastFree 15 = .ok (.imul, 1) := by decide +kernel
theorem d_M_leastFree_16 : decode c_M_leastFree 16 = .ok (.iload_n 3, 1) := by decide +kernel
theorem d_M_leastFree_17 : decode c_M_leastFree 17 = .ok (.iadd, 1) := by decide +kernel
theorem d_M_leastFree_18 : decode c_M_leastFree 18 = .ok (.invokevirtual 62, 3) := by decide +kernel
theorem d_M_leastFree_21 : decode c_M_leastFree 21 = .ok (.ifCond .ne 10, 3) := by decide +kernel
theorem d_M_leastFree_24 : decode c_M_leastFree 24 = .ok (.bipush 16, 2) := by decide +kernel
theorem d_M_leastFree_26 : decode c_M_leastFree 26 = .ok (.iload_n 2, 1) := by decide +kernel
theorem d_M_leastFree_27 : decode c_M_leastFree 27 = .ok (.imul, 1) := by decide +kernel
theorem d_M_leastFree_28 : decode c_M_leastFree 28 = .ok (.iload_n 3, 1) := by decide +kernel
theorem d_M_leastFree_29 : decode c_M_leastFree 29 = .ok (.iadd, 1) := by decide +kernel
theorem d_M_leastFree_30 : decode c_M_leastFree 30 = .ok (.ireturn, 1) := by decide +kernel
theorem d_M_leastFree_31 : decode c_M_leastFree 31 = .ok (.iinc 3 1, 3) := by decide +kernel
theorem d_M_leastFree_34 : decode c_M_leastFree 34 = .ok (.goto (-32), 3) := by decide +kernel
theorem d_M_leastFree_37 : decode c_M_leastFree 37 = .ok (.iconst (-1), 1) := by decide +kernel
theorem d_M_leastFree_38 : decode c_M_leastFree 38 = .ok (.ireturn, 1) := by decide +kernel
theorem d_M_commit_0 : decode c_M_commit 0 = .ok (.aload_n 0, 1) := by decide +kernel
theorem d_M_commit_1 : decode c_M_commit 1 = .ok (.dup, 1) := by decide +kernel
theorem d_M_commit_2 : decode c_M_commit 2 = .ok (.getfield 42, 3) := by decide +kernel
theorem d_M_commit_5 : decode c_M_commit 5 = .ok (.iconst 1, 1) := by decide +kernel
theorem d_M_commit_6 : decode c_M_commit 6 = .ok (.iadd, 1) := by decide +kernel
theorem d_M_commit_7 : decode c_M_commit 7 = .ok (.putfield 42, 3) := by decide +kernel
theorem d_M_commit_10 : decode c_M_commit 10 = .ok (.aload_n 0, 1) := by decide +kernel
theorem d_M_commit_11 : decode c_M_commit 11 = .ok (.getfield 42, 3) := by decide +kernel
theorem d_M_commit_14 : decode c_M_commit 14 = .ok (.istore_n 1, 1) := by decide +kernel
theorem d_M_commit_15 : decode c_M_commit 15 = .ok (.iconst 0, 1) := by decide +kernel
theorem d_M_commit_16 : decode c_M_commit 16 = .ok (.istore_n 2, 1) := by decide +kernel
theorem d_M_commit_17 : decode c_M_commit 17 = .ok (.iload_n 2, 1) := by decide +kernel
theorem d_M_commit_18 : decode c_M_commit 18 = .ok (.aload_n 0, 1) := by decide +kernel
theorem d_M_commit_19 : decode c_M_commit 19 = .ok (.getfield 29, 3) := by decide +kernel
theorem d_M_commit_22 : decode c_M_commit 22 = .ok (.if_icmp .ge 41, 3) := by decide +kernel
theorem d_M_commit_25 : decode c_M_commit 25 = .ok (.aload_n 0, 1) := by decide +kernel
theorem d_M_commit_26 : decode c_M_commit 26 = .ok (.getfield 7, 3) := by decide +kernel
theorem d_M_commit_29 : decode c_M_commit 29 = .ok (.iload_n 2, 1) := by decide +kernel
theorem d_M_commit_30 : decode c_M_commit 30 = .ok (.baload, 1) := by decide +kernel
theorem d_M_commit_31 : decode c_M_commit 31 = .ok (.ifCond .eq 26, 3) := by decide +kernel
theorem d_M_commit_34 : decode c_M_commit 34 = .ok (.aload_n 0, 1) := by decide +kernel
theorem d_M_commit_35 : decode c_M_commit 35 = .ok (.aload_n 0, 1) := by decide +kernel
theorem d_M_commit_36 : decode c_M_commit 36 = .ok (.iload_n 2, 1) := by decide +kernel
theorem d_M_commit_37 : decode c_M_commit 37 = .ok (.invokevirtual 97, 3) := by decide +kernel
theorem d_M_commit_40 : decode c_M_commit 40 = .ok (.bipush 16, 2) := by decide +kernel
theorem d_M_commit_42 : decode c_M_commit 42 = .ok (.aload_n 0, 1) := by decide +kernel
theorem d_M_commit_43 : decode c_M_commit 43 = .ok (.getfield 36, 3) := by decide +kernel
theorem d_M_commit_46 : decode c_M_commit 46 = .ok (.iconst 1, 1) := by decide +kernel
theorem d_M_commit_47 : decode c_M_commit 47 = .ok (.iadd, 1) := by decide +kernel
theorem d_M_commit_48 : decode c_M_commit 48 = .ok (.iload_n 1, 1) := by decide +kernel
theorem d_M_commit_49 : decode c_M_commit 49 = .ok (.invokevirtual 100, 3) := by decide +kernel
theorem d_M_commit_52 : decode c_M_commit 52 = .ok (.ifCond .ne 5, 3) := by decide +kernel
theorem d_M_commit_55 : decode c_M_commit 55 = .ok (.iconst 0, 1) := by decide +kernel
theorem d_M_commit_56 : decode c_M_commit 56 = .ok (.ireturn, 1) := by decide +kernel
theorem d_M_commit_57 : decode c_M_commit 57 = .ok (.iinc 2 1, 3) := by decide +kernel
theorem d_M_commit_60 : decode c_M_commit 60 = .ok (.goto (-43), 3) := by decide +kernel
theorem d_M_commit_63 : decode c_M_commit 63 = .ok (.aload_n 0, 1) := by decide +kernel
theorem d_M_commit_64 : decode c_M_commit 64 = .ok (.dup, 1) := by decide +kernel
theorem d_M_commit_65 : decode c_M_commit 65 = .ok (.getfield 36, 3) := by decide +kernel
theorem d_M_commit_68 : decode c_M_commit 68 = .ok (.iconst 1, 1) := by decide +kernel
theorem d_M_commit_69 : decode c_M_commit 69 = .ok (.iadd, 1) := by decide +kernel
theorem d_M_commit_70 : decode c_M_commit 70 = .ok (.putfield 36, 3) := by decide +kernel
theorem d_M_commit_73 : decode c_M_commit 73 = .ok (.aload_n 0, 1) := by decide +kernel
theorem d_M_commit_74 : decode c_M_commit 74 = .ok (.iload_n 1, 1) := by decide +kernel
theorem d_M_commit_75 : decode c_M_commit 75 = .ok (.putfield 39, 3) := by decide +kernel
theorem d_M_commit_78 : decode c_M_commit 78 = .ok (.aload_n 0, 1) := by decide +kernel
theorem d_M_commit_79 : decode c_M_commit 79 = .ok (.bipush 16, 2) := by decide +kernel
theorem d_M_commit_81 : decode c_M_commit 81 = .ok (.bipush 15, 2) := by decide +kernel
theorem d_M_commit_83 : decode c_M_commit 83 = .ok (.invokevirtual 90, 3) := by decide +kernel
theorem d_M_commit_86 : decode c_M_commit 86 = .ok (.iconst 1, 1) := by decide +kernel
theorem d_M_commit_87 : decode c_M_commit 87 = .ok (.ireturn, 1) := by decide +kernel
theorem d_M_slotBehind_0 : decode c_M_slotBehind 0 = .ok (.aload_n 0, 1) := by decide +kernel
theorem d_M_slotBehind_1 : decode c_M_slotBehind 1 = .ok (.iload_n 1, 1) := by decide +kernel
theorem d_M_slotBehind_2 : decode c_M_slotBehind 2 = .ok (.invokevirtual 94, 3) := by decide +kernel
theorem d_M_slotBehind_5 : decode c_M_slotBehind 5 = .ok (.istore_n 2, 1) := by decide +kernel
theorem d_M_slotBehind_6 : decode c_M_slotBehind 6 = .ok (.iconst 0, 1) := by decide +kernel
theorem d_M_slotBehind_7 : decode c_M_slotBehind 7 = .ok (.istore_n 3, 1) := by decide +kernel
theorem d_M_slotBehind_8 : decode c_M_slotBehind 8 = .ok (.iload_n 3, 1) := by decide +kernel
theorem d_M_slotBehind_9 : decode c_M_slotBehind 9 = .ok (.iconst 3, 1) := by decide +kernel
theorem d_M_slotBehind_10 : decode c_M_slotBehind 10 = .ok (.if_icmp .ge 57, 3) := by decide +kernel
theorem d_M_slotBehind_13 : decode c_M_slotBehind 13 = .ok (.aload_n 0, 1) := by decide +kernel
theorem d_M_slotBehind_14 : decode c_M_slotBehind 14 = .ok (.getfield 20, 3) := by decide +kernel
theorem d_M_slotBehind_17 : decode c_M_slotBehind 17 = .ok (.iconst 3, 1) := by decide +kernel
theorem d_M_slotBehind_18 : decode c_M_slotBehind 18 = .ok (.iload_n 1, 1) := by decide +kernel
theorem d_M_slotBehind_19 : decode c_M_slotBehind 19 = .ok (.imul, 1) := by decide +kernel
theorem d_M_slotBehind_20 : decode c_M_slotBehind 20 = .ok (.iload_n 3, 1) := by decide +kernel
theorem d_M_slotBehind_21 : decode c_M_slotBehind 21 = .ok (.iadd, 1) := by decide +kernel
theorem d_M_slotBehind_22 : decode c_M_slotBehind 22 = .ok (.iaload, 1) := by decide +kernel
theorem d_M_slotBehind_23 : decode c_M_slotBehind 23 = .ok (.aload_n 0, 1) := by decide +kernel
theorem d_M_slotBehind_24 : decode c_M_slotBehind 24 = .ok (.getfield 36, 3) := by decide +kernel
theorem d_M_slotBehind_27 : decode c_M_slotBehind 27 = .ok (.if_icmp .ne 32, 3) := by decide +kernel
theorem d_M_slotBehind_30 : decode c_M_slotBehind 30 = .ok (.aload_n 0, 1) := by decide +kernel
theorem d_M_slotBehind_31 : decode c_M_slotBehind 31 = .ok (.getfield 23, 3) := by decide +kernel
theorem d_M_slotBehind_34 : decode c_M_slotBehind 34 = .ok (.iconst 3, 1) := by decide +kernel
theorem d_M_slotBehind_35 : decode c_M_slotBehind 35 = .ok (.iload_n 1, 1) := by decide +kernel
theorem d_M_slotBehind_36 : decode c_M_slotBehind 36 = .ok (.imul, 1) := by decide +kernel
theorem d_M_slotBehind_37 : decode c_M_slotBehind 37 = .ok (.iload_n 3, 1) := by decide +kernel
theorem d_M_slotBehind_38 : decode c_M_slotBehind 38 = .ok (.iadd, 1) := by decide +kernel
theorem d_M_slotBehind_39 : decode c_M_slotBehind 39 = .ok (.iaload, 1) := by decide +kernel
theorem d_M_slotBehind_40 : decode c_M_slotBehind 40 = .ok (.aload_n 0, 1) := by decide +kernel
theorem d_M_slotBehind_41 : decode c_M_slotBehind 41 = .ok (.getfield 39, 3) := by decide +kernel
theorem d_M_slotBehind_44 : decode c_M_slotBehind 44 = .ok (.if_icmp .ne 15, 3) := by decide +kernel
theorem d_M_slotBehind_47 : decode c_M_slotBehind 47 = .ok (.iconst 3, 1) := by decide +kernel
theorem d_M_slotBehind_48 : decode c_M_slotBehind 48 = .ok (.iload_n 1, 1) := by decide +kernel
theorem d_M_slotBehind_49 : decode c_M_slotBehind 49 = .ok (.imul, 1) := by decide +kernel
theorem d_M_slotBehind_50 : decode c_M_slotBehind 50 = .ok (.iload_n 3, 1) := by decide +kernel
theorem d_M_slotBehind_51 : decode c_M_slotBehind 51 = .ok (.iconst 1, 1) := by decide +kernel
theorem d_M_slotBehind_52 : decode c_M_slotBehind 52 = .ok (.iadd, 1) := by decide +kernel
theorem d_M_slotBehind_53 : decode c_M_slotBehind 53 = .ok (.iconst 3, 1) := by decide +kernel
theorem d_M_slotBehind_54 : decode c_M_slotBehind 54 = .ok (.irem, 1) := by decide +kernel
theorem d_M_slotBehind_55 : decode c_M_slotBehind 55 = .ok (.iadd, 1) := by decide +kernel
theorem d_M_slotBehind_56 : decode c_M_slotBehind 56 = .ok (.goto 4, 3) := by decide +kernel
theorem d_M_slotBehind_59 : decode c_M_slotBehind 59 = .ok (.iload_n 2, 1) := by decide +kernel
theorem d_M_slotBehind_60 : decode c_M_slotBehind 60 = .ok (.istore_n 2, 1) := by decide +kernel
theorem d_M_slotBehind_61 : decode c_M_slotBehind 61 = .ok (.iinc 3 1, 3) := by decide +kernel
theorem d_M_slotBehind_64 : decode c_M_slotBehind 64 = .ok (.goto (-56), 3) := by decide +kernel
theorem d_M_slotBehind_67 : decode c_M_slotBehind 67 = .ok (.iload_n 2, 1) := by decide +kernel
theorem d_M_slotBehind_68 : decode c_M_slotBehind 68 = .ok (.ireturn, 1) := by decide +kernel
theorem d_M_nextSlot_0 : decode c_M_nextSlot 0 = .ok (.iconst 3, 1) := by decide +kernel
theorem d_M_nextSlot_1 : decode c_M_nextSlot 1 = .ok (.iload_n 1, 1) := by decide +kernel
theorem d_M_nextSlot_2 : decode c_M_nextSlot 2 = .ok (.imul, 1) := by decide +kernel
theorem d_M_nextSlot_3 : decode c_M_nextSlot 3 = .ok (.aload_n 0, 1) := by decide +kernel
theorem d_M_nextSlot_4 : decode c_M_nextSlot 4 = .ok (.getfield 26, 3) := by decide +kernel
theorem d_M_nextSlot_7 : decode c_M_nextSlot 7 = .ok (.iload_n 1, 1) := by decide +kernel
theorem d_M_nextSlot_8 : decode c_M_nextSlot 8 = .ok (.iaload, 1) := by decide +kernel
theorem d_M_nextSlot_9 : decode c_M_nextSlot 9 = .ok (.iconst 3, 1) := by decide +kernel
theorem d_M_nextSlot_10 : decode c_M_nextSlot 10 = .ok (.irem, 1) := by decide +kernel
theorem d_M_nextSlot_11 : decode c_M_nextSlot 11 = .ok (.iadd, 1) := by decide +kernel
theorem d_M_nextSlot_12 : decode c_M_nextSlot 12 = .ok (.ireturn, 1) := by decide +kernel
theorem d_M_writeCopy_0 : decode c_M_writeCopy 0 = .ok (.iload_n 1, 1) := by decide +kernel
theorem d_M_writeCopy_1 : decode c_M_writeCopy 1 = .ok (.iconst 3, 1) := by decide +kernel
theorem d_M_writeCopy_2 : decode c_M_writeCopy 2 = .ok (.idiv, 1) := by decide +kernel
theorem d_M_writeCopy_3 : decode c_M_writeCopy 3 = .ok (.istore 5, 2) := by decide +kernel
theorem d_M_writeCopy_5 : decode c_M_writeCopy 5 = .ok (.aload_n 0, 1) := by decide +kernel
theorem d_M_writeCopy_6 : decode c_M_writeCopy 6 = .ok (.invokevirtual 86, 3) := by decide +kernel
theorem d_M_writeCopy_9 : decode c_M_writeCopy 9 = .ok (.istore 6, 2) := by decide +kernel
theorem d_M_writeCopy_11 : decode c_M_writeCopy 11 = .ok (.aload_n 0, 1) := by decide +kernel
theorem d_M_writeCopy_12 : decode c_M_writeCopy 12 = .ok (.getfield 26, 3) := by decide +kernel
theorem d_M_writeCopy_15 : decode c_M_writeCopy 15 = .ok (.iload 5, 2) := by decide +kernel
theorem d_M_writeCopy_17 : decode c_M_writeCopy 17 = .ok (.dup2, 1) := by decide +kernel
theorem d_M_writeCopy_18 : decode c_M_writeCopy 18 = .ok (.iaload, 1) := by decide +kernel
theorem d_M_writeCopy_19 : decode c_M_writeCopy 19 = .ok (.iconst 1, 1) := by decide +kernel
theorem d_M_writeCopy_20 : decode c_M_writeCopy 20 = .ok (.iadd, 1) := by decide +kernel
theorem d_M_writeCopy_21 : decode c_M_writeCopy 21 = .ok (.iastore, 1) := by decide +kernel
theorem d_M_writeCopy_22 : decode c_M_writeCopy 22 = .ok (.aload_n 0, 1) := by decide +kernel
theorem d_M_writeCopy_23 : decode c_M_writeCopy 23 = .ok (.iload_n 2, 1) := by decide +kernel
theorem d_M_writeCopy_24 : decode c_M_writeCopy 24 = .ok (.iload_n 1, 1) := by decide +kernel
theorem d_M_writeCopy_25 : decode c_M_writeCopy 25 = .ok (.invokevirtual 90, 3) := by decide +kernel
theorem d_M_writeCopy_28 : decode c_M_writeCopy 28 = .ok (.aload_n 0, 1) := by decide +kernel
theorem d_M_writeCopy_29 : decode c_M_writeCopy 29 = .ok (.getfield 20, 3) := by decide +kernel
theorem d_M_writeCopy_32 : decode c_M_writeCopy 32 = .ok (.iload_n 1, 1) := by decide +kernel
theorem d_M_writeCopy_33 : decode c_M_writeCopy 33 = .ok (.iload 6, 2) := by decide +kernel
theorem d_M_writeCopy_35 : decode c_M_writeCopy 35 = .ok (.ifCond .eq 8, 3) := by decide +kernel
theorem d_M_writeCopy_38 : decode c_M_writeCopy 38 = .ok (.bipush (-11), 2) := by decide +kernel
theorem d_M_writeCopy_40 : decode c_M_writeCopy 40 = .ok (.goto 4, 3) := by decide +kernel
theorem d_M_writeCopy_43 : decode c_M_writeCopy 43 = .ok (.iload_n 3, 1) := by decide +kernel
theorem d_M_writeCopy_44 : decode c_M_writeCopy 44 = .ok (.iastore, 1) := by decide +kernel
theorem d_M_writeCopy_45 : decode c_M_writeCopy 45 = .ok (.aload_n 0, 1) := by decide +kernel
theorem d_M_writeCopy_46 : decode c_M_writeCopy 46 = .ok (.getfield 23, 3) := by decide +kernel
theorem d_M_writeCopy_49 : decode c_M_writeCopy 49 = .ok (.iload_n 1, 1) := by decide +kernel
theorem d_M_writeCopy_50 : decode c_M_writeCopy 50 = .ok (.iload 6, 2) := by decide +kernel
theorem d_M_writeCopy_52 : decode c_M_writeCopy 52 = .ok (.ifCond .eq 7, 3) := by decide +kernel
theorem d_M_writeCopy_55 : decode c_M_writeCopy 55 = .ok (.iconst 0, 1) := by decide +kernel
theorem d_M_writeCopy_56 : decode c_M_writeCopy 56 = .ok (.goto 5, 3) := by decide +kernel
theorem d_M_writeCopy_59 : decode c_M_writeCopy 59 = .ok (.iload 4, 2) := by decide +kernel
theorem d_M_writeCopy_61 : decode c_M_writeCopy 61 = .ok (.iastore, 1) := by decide +kernel
theorem d_M_writeCopy_62 : decode c_M_writeCopy 62 = .ok (.iload 6, 2) := by decide +kernel
theorem d_M_writeCopy_64 : decode c_M_writeCopy 64 = .ok (.ifCond .ne 7, 3) := by decide +kernel
theorem d_M_writeCopy_67 : decode c_M_writeCopy 67 = .ok (.iconst 1, 1) := by decide +kernel
theorem d_M_writeCopy_68 : decode c_M_writeCopy 68 = .ok (.goto 4, 3) := by decide +kernel
theorem d_M_writeCopy_71 : decode c_M_writeCopy 71 = .ok (.iconst 0, 1) := by decide +kernel
theorem d_M_writeCopy_72 : decode c_M_writeCopy 72 = .ok (.ireturn, 1) := by decide +kernel
theorem d_M_stops_0 : decode c_M_stops 0 = .ok (.aload_n 0, 1) := by decide +kernel
theorem d_M_stops_1 : decode c_M_stops 1 = .ok (.getfield 80, 3) := by decide +kernel
theorem d_M_stops_4 : decode c_M_stops 4 = .ok (.ifCond .eq 14, 3) := by decide +kernel
theorem d_M_stops_7 : decode c_M_stops 7 = .ok (.aload_n 0, 1) := by decide +kernel
theorem d_M_stops_8 : decode c_M_stops 8 = .ok (.getfield 83, 3) := by decide +kernel
theorem d_M_stops_11 : decode c_M_stops 11 = .ok (.ifCond .ne 7, 3) := by decide +kernel
theorem d_M_stops_14 : decode c_M_stops 14 = .ok (.iconst 1, 1) := by decide +kernel
theorem d_M_stops_15 : decode c_M_stops 15 = .ok (.goto 4, 3) := by decide +kernel
theorem d_M_stops_18 : decode c_M_stops 18 = .ok (.iconst 0, 1) := by decide +kernel
theorem d_M_stops_19 : decode c_M_stops 19 = .ok (.istore_n 1, 1) := by decide +kernel
theorem d_M_stops_20 : decode c_M_stops 20 = .ok (.aload_n 0, 1) := by decide +kernel
theorem d_M_stops_21 : decode c_M_stops 21 = .ok (.dup, 1) := by decide +kernel
theorem d_M_stops_22 : decode c_M_stops 22 = .ok (.getfield 83, 3) := by decide +kernel
theorem d_M_stops_25 : decode c_M_stops 25 = .ok (.iconst 1, 1) := by decide +kernel
theorem d_M_stops_26 : decode c_M_stops 26 = .ok (.isub, 1) := by decide +kernel
theorem d_M_stops_27 : decode c_M_stops 27 = .ok (.putfield 83, 3) := by decide +kernel
theorem d_M_stops_30 : decode c_M_stops 30 = .ok (.iload_n 1, 1) := by decide +kernel
theorem d_M_stops_31 : decode c_M_stops 31 = .ok (.ifCond .eq 13, 3) := by decide +kernel
theorem d_M_stops_34 : decode c_M_stops 34 = .ok (.aload_n 0, 1) := by decide +kernel
theorem d_M_stops_35 : decode c_M_stops 35 = .ok (.iconst 0, 1) := by decide +kernel
theorem d_M_stops_36 : decode c_M_stops 36 = .ok (.putfield 80, 3) := by decide +kernel
theorem d_M_stops_39 : decode c_M_stops 39 = .ok (.aload_n 0, 1) := by decide +kernel
theorem d_M_stops_40 : decode c_M_stops 40 = .ok (.iconst 0, 1) := by decide +kernel
theorem d_M_stops_41 : decode c_M_stops 41 = .ok (.putfield 45, 3) := by decide +kernel
theorem d_M_stops_44 : decode c_M_stops 44 = .ok (.iload_n 1, 1) := by decide +kernel
theorem d_M_stops_45 : decode c_M_stops 45 = .ok (.ireturn, 1) := by decide +kernel
theorem d_M_extend_0 : decode c_M_extend 0 = .ok (.aload_n 0, 1) := by decide +kernel
theorem d_M_extend_1 : decode c_M_extend 1 = .ok (.getfield 45, 3) := by decide +kernel
theorem d_M_extend_4 : decode c_M_extend 4 = .ok (.ifCond .ne 6, 3) := by decide +kernel
theorem d_M_extend_7 : decode c_M_extend 7 = .ok (.bipush (-2), 2) := by decide +kernel
theorem d_M_extend_9 : decode c_M_extend 9 = .ok (.ireturn, 1) := by decide +kernel
theorem d_M_extend_10 : decode c_M_extend 10 = .ok (.aload_n 0, 1) := by decide +kernel
theorem d_M_extend_11 : decode c_M_extend 11 = .ok (.iload_n 1, 1) := by decide +kernel
theorem d_M_extend_12 : decode c_M_extend 12 = .ok (.invokevirtual 117, 3) := by decide +kernel
theorem d_M_extend_15 : decode c_M_extend 15 = .ok (.ifCond .eq 30, 3) := by decide +kernel
theorem d_M_extend_18 : decode c_M_extend 18 = .ok (.iload_n 2, 1) := by decide +kernel
theorem d_M_extend_19 : decode c_M_extend 19 = .ok (.iconst 1, 1) := by decide +kernel
theorem d_M_extend_20 : decode c_M_extend 20 = .ok (.if_icmp .lt 25, 3) := by decide +kernel
theorem d_M_extend_23 : decode c_M_extend 23 = .ok (.iload_n 2, 1) := by decide +kernel
theorem d_M_extend_24 : decode c_M_extend 24 = .ok (.bipush 12, 2) := by decide +kernel
theorem d_M_extend_26 : decode c_M_extend 26 = .ok (.aload_n 0, 1) := by decide +kernel
theorem d_M_extend_27 : decode c_M_extend 27 = .ok (.bipush 15, 2) := by decide +kernel
theorem d_M_extend_29 : decode c_M_extend 29 = .ok (.iload_n 1, 1) := by decide +kernel
theorem d_M_extend_30 : decode c_M_extend 30 = .ok (.invokevirtual 56, 3) := by decide +kernel
theorem d_M_extend_33 : decode c_M_extend 33 = .ok (.idiv, 1) := by decide +kernel
theorem d_M_extend_34 : decode c_M_extend 34 = .ok (.aload_n 0, 1) := by decide +kernel
theorem d_M_extend_35 : decode c_M_extend 35 = .ok (.bipush 15, 2) := by decide +kernel
theorem d_M_extend_37 : decode c_M_extend 37 = .ok (.iload_n 1, 1) := by decide +kernel
theorem d_M_extend_38 : decode c_M_extend 38 = .ok (.invokevirtual 53, 3) := by decide +kernel
theorem d_M_extend_41 : decode c_M_extend 41 = .ok (.isub, 1) := by decide +kernel
theorem d_M_extend_42 : decode c_M_extend 42 = .ok (.if_icmp .le 5, 3) := by decide +kernel
theorem d_M_extend_45 : decode c_M_extend 45 = .ok (.iconst (-1), 1) := by decide +kernel
theorem d_M_extend_46 : decode c_M_extend 46 = .ok (.ireturn, 1) := by decide +kernel
theorem d_M_extend_47 : decode c_M_extend 47 = .ok (.aload_n 0, 1) := by decide +kernel
theorem d_M_extend_48 : decode c_M_extend 48 = .ok (.invokevirtual 108, 3) := by decide +kernel
theorem d_M_extend_51 : decode c_M_extend 51 = .ok (.ifCond .eq 6, 3) := by decide +kernel
theorem d_M_extend_54 : decode c_M_extend 54 = .ok (.bipush (-3), 2) := by decide +kernel
theorem d_M_extend_56 : decode c_M_extend 56 = .ok (.ireturn, 1) := by decide +kernel
theorem d_M_extend_57 : decode c_M_extend 57 = .ok (.aload_n 0, 1) := by decide +kernel
theorem d_M_extend_58 : decode c_M_extend 58 = .ok (.iload_n 1, 1) := by decide +kernel
theorem d_M_extend_59 : decode c_M_extend 59 = .ok (.invokevirtual 120, 3) := by decide +kernel
theorem d_M_extend_62 : decode c_M_extend 62 = .ok (.ifCond .eq 6, 3) := by decide +kernel
theorem d_M_extend_65 : decode c_M_extend 65 = .ok (.bipush (-4), 2) := by decide +kernel
theorem d_M_extend_67 : decode c_M_extend 67 = .ok (.ireturn, 1) := by decide +kernel
theorem d_M_extend_68 : decode c_M_extend 68 = .ok (.aload_n 0, 1) := by decide +kernel
theorem d_M_extend_69 : decode c_M_extend 69 = .ok (.bipush 15, 2) := by decide +kernel
theorem d_M_extend_71 : decode c_M_extend 71 = .ok (.bipush 16, 2) := by decide +kernel
theorem d_M_extend_73 : decode c_M_extend 73 = .ok (.invokevirtual 90, 3) := by decide +kernel
theorem d_M_extend_76 : decode c_M_extend 76 = .ok (.iconst 0, 1) := by decide +kernel
theorem d_M_extend_77 : decode c_M_extend 77 = .ok (.istore_n 3, 1) := by decide +kernel
theorem d_M_extend_78 : decode c_M_extend 78 = .ok (.iload_n 3, 1) := by decide +kernel
theorem d_M_extend_79 : decode c_M_extend 79 = .ok (.iload_n 2, 1) := by decide +kernel
theorem d_M_extend_80 : decode c_M_extend 80 = .ok (.if_icmp .ge 20, 3) := by decide +kernel
theorem d_M_extend_83 : decode c_M_extend 83 = .ok (.aload_n 0, 1) := by decide +kernel
theorem d_M_extend_84 : decode c_M_extend 84 = .ok (.iload_n 1, 1) := by decide +kernel
theorem d_M_extend_85 : decode c_M_extend 85 = .ok (.invokevirtual 111, 3) := by decide +kernel
theorem d_M_extend_88 : decode c_M_extend 88 = .ok (.ifCond .ne 6, 3) := by decide +kernel
theorem d_M_extend_91 : decode c_M_extend 91 = .ok (.bipush (-5), 2) := by decide +kernel
theorem d_M_extend_93 : decode c_M_extend 93 = .ok (.ireturn, 1) := by decide +kernel
theorem d_M_extend_94 : decode c_M_extend 94 = .ok (.iinc 3 1, 3) := by decide +kernel
theorem d_M_extend_97 : decode c_M_extend 97 = .ok (.goto (-19), 3) := by decide +kernel
theorem d_M_extend_100 : decode c_M_extend 100 = .ok (.aload_n 0, 1) := by decide +kernel
theorem d_M_extend_101 : decode c_M_extend 101 = .ok (.invokevirtual 114, 3) := by decide +kernel
theorem d_M_extend_104 : decode c_M_extend 104 = .ok (.ifCond .eq 13, 3) := by decide +kernel
theorem d_M_extend_107 : decode c_M_extend 107 = .ok (.aload_n 0, 1) := by decide +kernel
theorem d_M_extend_108 : decode c_M_extend 108 = .ok (.bipush 15, 2) := by decide +kernel
theorem d_M_extend_110 : decode c_M_extend 110 = .ok (.iload_n 1, 1) := by decide +kernel
theorem d_M_extend_111 : decode c_M_extend 111 = .ok (.invokevirtual 53, 3) := by decide +kernel
theorem d_M_extend_114 : decode c_M_extend 114 = .ok (.goto 5, 3) := by decide +kernel
theorem d_M_extend_117 : decode c_M_extend 117 = .ok (.bipush (-7), 2) := by decide +kernel
theorem d_M_extend_119 : decode c_M_extend 119 = .ok (.ireturn, 1) := by decide +kernel
theorem d_M_isVolume_0 : decode c_M_isVolume 0 = .ok (.iload_n 1, 1) := by decide +kernel
theorem d_M_isVolume_1 : decode c_M_isVolume 1 = .ok (.ifCond .lt 22, 3) := by decide +kernel
theorem d_M_isVolume_4 : decode c_M_isVolume 4 = .ok (.iload_n 1, 1) := by decide +kernel
theorem d_M_isVolume_5 : decode c_M_isVolume 5 = .ok (.iconst 4, 1) := by decide +kernel
theorem d_M_isVolume_6 : decode c_M_isVolume 6 = .ok (.if_icmp .ge 17, 3) := by decide +kernel
theorem d_M_isVolume_9 : decode c_M_isVolume 9 = .ok (.aload_n 0, 1) := by decide +kernel
theorem d_M_isVolume_10 : decode c_M_isVolume 10 = .ok (.bipush 15, 2) := by decide +kernel
theorem d_M_isVolume_12 : decode c_M_isVolume 12 = .ok (.iload_n 1, 1) := by decide +kernel
theorem d_M_isVolume_13 : decode c_M_isVolume 13 = .ok (.invokevirtual 53, 3) := by decide +kernel
theorem d_M_isVolume_16 : decode c_M_isVolume 16 = .ok (.ifCond .le 7, 3) := by decide +kernel
theorem d_M_isVolume_19 : decode c_M_isVolume 19 = .ok (.iconst 1, 1) := by decide +kernel
theorem d_M_isVolume_20 : decode c_M_isVolume 20 = .ok (.goto 4, 3) := by decide +kernel
theorem d_M_isVolume_23 : decode c_M_isVolume 23 = .ok (.iconst 0, 1) := by decide +kernel
theorem d_M_isVolume_24 : decode c_M_isVolume 24 = .ok (.ireturn, 1) := by decide +kernel
theorem d_M_isMoved_0 : decode c_M_isMoved 0 = .ok (.aload_n 0, 1) := by decide +kernel
theorem d_M_isMoved_1 : decode c_M_isMoved 1 = .ok (.bipush 15, 2) := by decide +kernel
theorem d_M_isMoved_3 : decode c_M_isMoved 3 = .ok (.bipush 60, 2) := by decide +kernel
theorem d_M_isMoved_5 : decode c_M_isMoved 5 = .ok (.invokevirtual 49, 3) := by decide +kernel
theorem d_M_isMoved_8 : decode c_M_isMoved 8 = .ok (.iload_n 1, 1) := by decide +kernel
theorem d_M_isMoved_9 : decode c_M_isMoved 9 = .ok (.if_icmp .ne 7, 3) := by decide +kernel
theorem d_M_isMoved_12 : decode c_M_isMoved 12 = .ok (.iconst 1, 1) := by decide +kernel
theorem d_M_isMoved_13 : decode c_M_isMoved 13 = .ok (.goto 4, 3) := by decide +kernel
theorem d_M_isMoved_16 : decode c_M_isMoved 16 = .ok (.iconst 0, 1) := by decide +kernel
theorem d_M_isMoved_17 : decode c_M_isMoved 17 = .ok (.ireturn, 1) := by decide +kernel
theorem d_M_reduce_0 : decode c_M_reduce 0 = .ok (.aload_n 0, 1) := by decide +kernel
theorem d_M_reduce_1 : decode c_M_reduce 1 = .ok (.getfield 45, 3) := by decide +kernel
theorem d_M_reduce_4 : decode c_M_reduce 4 = .ok (.ifCond .ne 6, 3) := by decide +kernel
theorem d_M_reduce_7 : decode c_M_reduce 7 = .ok (.bipush (-2), 2) := by decide +kernel
theorem d_M_reduce_9 : decode c_M_reduce 9 = .ok (.ireturn, 1) := by decide +kernel
theorem d_M_reduce_10 : decode c_M_reduce 10 = .ok (.aload_n 0, 1) := by decide +kernel
theorem d_M_reduce_11 : decode c_M_reduce 11 = .ok (.iload_n 1, 1) := by decide +kernel
theorem d_M_reduce_12 : decode c_M_reduce 12 = .ok (.invokevirtual 117, 3) := by decide +kernel
theorem d_M_reduce_15 : decode c_M_reduce 15 = .ok (.ifCond .eq 19, 3) := by decide +kernel
theorem d_M_reduce_18 : decode c_M_reduce 18 = .ok (.iload_n 2, 1) := by decide +kernel
theorem d_M_reduce_19 : decode c_M_reduce 19 = .ok (.iconst 1, 1) := by decide +kernel
theorem d_M_reduce_20 : decode c_M_reduce 20 = .ok (.if_icmp .lt 14, 3) := by decide +kernel
theorem d_M_reduce_23 : decode c_M_reduce 23 = .ok (.iload_n 2, 1) := by decide +kernel
theorem d_M_reduce_24 : decode c_M_reduce 24 = .ok (.aload_n 0, 1) := by decide +kernel
theorem d_M_reduce_25 : decode c_M_reduce 25 = .ok (.bipush 15, 2) := by decide +kernel
theorem d_M_reduce_27 : decode c_M_reduce 27 = .ok (.iload_n 1, 1) := by decide +kernel
theorem d_M_reduce_28 : decode c_M_reduce 28 = .ok (.invokevirtual 53, 3) := by decide +kernel
theorem d_M_reduce_31 : decode c_M_reduce 31 = .ok (.if_icmp .le 5, 3) := by decide +kernel
theorem d_M_reduce_34 : decode c_M_reduce 34 = .ok (.iconst (-1), 1) := by decide +kernel
theorem d_M_reduce_35 : decode c_M_reduce 35 = .ok (.ireturn, 1) := by decide +kernel
theorem d_M_reduce_36 : decode c_M_reduce 36 = .ok (.aload_n 0, 1) := by decide +kernel
theorem d_M_reduce_37 : decode c_M_reduce 37 = .ok (.invokevirtual 108, 3) := by decide +kernel
theorem d_M_reduce_40 : decode c_M_reduce 40 = .ok (.ifCond .eq 6, 3) := by decide +kernel
theorem d_M_reduce_43 : decode c_M_reduce 43 = .ok (.bipush (-3), 2) := by decide +kernel
theorem d_M_reduce_45 : decode c_M_reduce 45 = .ok (.ireturn, 1) := by decide +kernel
theorem d_M_reduce_46 : decode c_M_reduce 46 = .ok (.aload_n 0, 1) := by decide +kernel
theorem d_M_reduce_47 : decode c_M_reduce 47 = .ok (.iload_n 1, 1) := by decide +kernel
theorem d_M_reduce_48 : decode c_M_reduce 48 = .ok (.invokevirtual 120, 3) := by decide +kernel
theorem d_M_reduce_51 : decode c_M_reduce 51 = .ok (.ifCond .eq 6, 3) := by decide +kernel
theorem d_M_reduce_54 : decode c_M_reduce 54 = .ok (.bipush (-4), 2) := by decide +kernel
theorem d_M_reduce_56 : decode c_M_reduce 56 = .ok (.ireturn, 1) := by decide +kernel
theorem d_M_reduce_57 : decode c_M_reduce 57 = .ok (.aload_n 0, 1) := by decide +kernel
theorem d_M_reduce_58 : decode c_M_reduce 58 = .ok (.bipush 15, 2) := by decide +kernel
theorem d_M_reduce_60 : decode c_M_reduce 60 = .ok (.bipush 16, 2) := by decide +kernel
theorem d_M_reduce_62 : decode c_M_reduce 62 = .ok (.invokevirtual 90, 3) := by decide +kernel
theorem d_M_reduce_65 : decode c_M_reduce 65 = .ok (.aload_n 0, 1) := by decide +kernel
theorem d_M_reduce_66 : decode c_M_reduce 66 = .ok (.bipush 16, 2) := by decide +kernel
theorem d_M_reduce_68 : decode c_M_reduce 68 = .ok (.bipush 15, 2) := by decide +kernel
theorem d_M_reduce_70 : decode c_M_reduce 70 = .ok (.iload_n 1, 1) := by decide +kernel
theorem d_M_reduce_71 : decode c_M_reduce 71 = .ok (.imul, 1) := by decide +kernel
theorem d_M_reduce_72 : decode c_M_reduce 72 = .ok (.iconst 2, 1) := by decide +kernel
theorem d_M_reduce_73 : decode c_M_reduce 73 = .ok (.iadd, 1) := by decide +kernel
theorem d_M_reduce_74 : decode c_M_reduce 74 = .ok (.aload_n 0, 1) := by decide +kernel
theorem d_M_reduce_75 : decode c_M_reduce 75 = .ok (.bipush 15, 2) := by decide +kernel
theorem d_M_reduce_77 : decode c_M_reduce 77 = .ok (.iload_n 1, 1) := by decide +kernel
theorem d_M_reduce_78 : decode c_M_reduce 78 = .ok (.invokevirtual 53, 3) := by decide +kernel
theorem d_M_reduce_81 : decode c_M_reduce 81 = .ok (.iload_n 2, 1) := by decide +kernel
theorem d_M_reduce_82 : decode c_M_reduce 82 = .ok (.isub, 1) := by decide +kernel
theorem d_M_reduce_83 : decode c_M_reduce 83 = .ok (.invokevirtual 76, 3) := by decide +kernel
theorem d_M_reduce_86 : decode c_M_reduce 86 = .ok (.aload_n 0, 1) := by decide +kernel
theorem d_M_reduce_87 : decode c_M_reduce 87 = .ok (.invokevirtual 114, 3) := by decide +kernel
theorem d_M_reduce_90 : decode c_M_reduce 90 = .ok (.ifCond .eq 13, 3) := by decide +kernel
theorem d_M_reduce_93 : decode c_M_reduce 93 = .ok (.aload_n 0, 1) := by decide +kernel
theorem d_M_reduce_94 : decode c_M_reduce 94 = .ok (.bipush 15, 2) := by decide +kernel
theorem d_M_reduce_96 : decode c_M_reduce 96 = .ok (.iload_n 1, 1) := by decide +kernel
theorem d_M_reduce_97 : decode c_M_reduce 97 = .ok (.invokevirtual 53, 3) := by decide +kernel
theorem d_M_reduce_100 : decode c_M_reduce 100 = .ok (.goto 5, 3) := by decide +kernel
theorem d_M_reduce_103 : decode c_M_reduce 103 = .ok (.bipush (-7), 2) := by decide +kernel
theorem d_M_reduce_105 : decode c_M_reduce 105 = .ok (.ireturn, 1) := by decide +kernel
theorem d_M_move_0 : decode c_M_move 0 = .ok (.aload_n 0, 1) := by decide +kernel
theorem d_M_move_1 : decode c_M_move 1 = .ok (.getfield 45, 3) := by decide +kernel
theorem d_M_move_4 : decode c_M_move 4 = .ok (.ifCond .ne 6, 3) := by decide +kernel
theorem d_M_move_7 : decode c_M_move 7 = .ok (.bipush (-2), 2) := by decide +kernel
theorem d_M_move_9 : decode c_M_move 9 = .ok (.ireturn, 1) := by decide +kernel
theorem d_M_move_10 : decode c_M_move 10 = .ok (.aload_n 0, 1) := by decide +kernel
theorem d_M_move_11 : decode c_M_move 11 = .ok (.iload_n 1, 1) := by decide +kernel
theorem d_M_move_12 : decode c_M_move 12 = .ok (.iload_n 2, 1) := by decide +kernel
theorem d_M_move_13 : decode c_M_move 13 = .ok (.invokevirtual 123, 3) := by decide +kernel
theorem d_M_move_16 : decode c_M_move 16 = .ok (.ifCond .eq 15, 3) := by decide +kernel
theorem d_M_move_19 : decode c_M_move 19 = .ok (.iload_n 3, 1) := by decide +kernel
theorem d_M_move_20 : decode c_M_move 20 = .ok (.ifCond .lt 11, 3) := by decide +kernel
theorem d_M_move_23 : decode c_M_move 23 = .ok (.iload_n 3, 1) := by decide +kernel
theorem d_M_move_24 : decode c_M_move 24 = .ok (.aload_n 0, 1) := by decide +kernel
theorem d_M_move_25 : decode c_M_move 25 = .ok (.getfield 29, 3) := by decide +kernel
theorem d_M_move_28 : decode c_M_move 28 = .ok (.if_icmp .lt 5, 3) := by decide +kernel
theorem d_M_move_31 : decode c_M_move 31 = .ok (.iconst (-1), 1) := by decide +kernel
theorem d_M_move_32 : decode c_M_move 32 = .ok (.ireturn, 1) := by decide +kernel
theorem d_M_move_33 : decode c_M_move 33 = .ok (.aload_n 0, 1) := by decide +kernel
theorem d_M_move_34 : decode c_M_move 34 = .ok (.invokevirtual 108, 3) := by decide +kernel
theorem d_M_move_37 : decode c_M_move 37 = .ok (.ifCond .eq 6, 3) := by decide +kernel
theorem d_M_move_40 : decode c_M_move 40 = .ok (.bipush (-3), 2) := by decide +kernel
theorem d_M_move_42 : decode c_M_move 42 = .ok (.ireturn, 1) := by decide +kernel
theorem d_M_move_43 : decode c_M_move 43 = .ok (.aload_n 0, 1) := by decide +kernel
theorem d_M_move_44 : decode c_M_move 44 = .ok (.bipush 15, 2) := by decide +kernel
theorem d_M_move_46 : decode c_M_move 46 = .ok (.bipush 60, 2) := by decide +kernel
theorem d_M_move_48 : decode c_M_move 48 = .ok (.invokevirtual 49, 3) := by decide +kernel
theorem d_M_move_51 : decode c_M_move 51 = .ok (.ifCond .lt 6, 3) := by decide +kernel
theorem d_M_move_54 : decode c_M_move 54 = .ok (.bipush (-4), 2) := by decide +kernel
theorem d_M_move_56 : decode c_M_move 56 = .ok (.ireturn, 1) := by decide +kernel
theorem d_M_move_57 : decode c_M_move 57 = .ok (.aload_n 0, 1) := by decide +kernel
theorem d_M_move_58 : decode c_M_move 58 = .ok (.bipush 15, 2) := by decide +kernel
theorem d_M_move_60 : decode c_M_move 60 = .ok (.bipush 15, 2) := by decide +kernel
theorem d_M_move_62 : decode c_M_move 62 = .ok (.iload_n 1, 1) := by decide +kernel
theorem d_M_move_63 : decode c_M_move 63 = .ok (.imul, 1) := by decide +kernel
theorem d_M_move_64 : decode c_M_move 64 = .ok (.iconst 3, 1) := by decide +kernel
theorem d_M_move_65 : decode c_M_move 65 = .ok (.iadd, 1) := by decide +kernel
theorem d_M_move_66 : decode c_M_move 66 = .ok (.iload_n 2, 1) := by decide +kernel
theorem d_M_move_67 : decode c_M_move 67 = .ok (.iadd, 1) := by decide +kernel
theorem d_M_move_68 : decode c_M_move 68 = .ok (.invokevirtual 49, 3) := by decide +kernel
theorem d_M_move_71 : decode c_M_move 71 = .ok (.istore 4, 2) := by decide +kernel
theorem d_M_move_73 : decode c_M_move 73 = .ok (.aload_n 0, 1) := by decide +kernel
theorem d_M_move_74 : decode c_M_move 74 = .ok (.getfield 7, 3) := by decide +kernel
theorem d_M_move_77 : decode c_M_move 77 = .ok (.iload 4, 2) := by decide +kernel
theorem d_M_move_79 : decode c_M_move 79 = .ok (.bipush 16, 2) := by decide +kernel
theorem d_M_move_81 : decode c_M_move 81 = .ok (.idiv, 1) := by decide +kernel
theorem d_M_move_82 : decode c_M_move 82 = .ok (.baload, 1) := by decide +kernel
theorem d_M_move_83 : decode c_M_move 83 = .ok (.ifCond .eq 12, 3) := by decide +kernel
theorem d_M_move_86 : decode c_M_move 86 = .ok (.aload_n 0, 1) := by decide +kernel
theorem d_M_move_87 : decode c_M_move 87 = .ok (.getfield 7, 3) := by decide +kernel
theorem d_M_move_90 : decode c_M_move 90 = .ok (.iload_n 3, 1) := by decide +kernel
theorem d_M_move_91 : decode c_M_move 91 = .ok (.baload, 1) := by decide +kernel
theorem d_M_move_92 : decode c_M_move 92 = .ok (.ifCond .ne 6, 3) := by decide +kernel
theorem d_M_move_95 : decode c_M_move 95 = .ok (.bipush (-6), 2) := by decide +kernel
theorem d_M_move_97 : decode c_M_move 97 = .ok (.ireturn, 1) := by decide +kernel
theorem d_M_move_98 : decode c_M_move 98 = .ok (.aload_n 0, 1) := by decide +kernel
theorem d_M_move_99 : decode c_M_move 99 = .ok (.bipush 15, 2) := by decide +kernel
theorem d_M_move_101 : decode c_M_move 101 = .ok (.iload_n 3, 1) := by decide +kernel
theorem d_M_move_102 : decode c_M_move 102 = .ok (.invokevirtual 73, 3) := by decide +kernel
theorem d_M_move_105 : decode c_M_move 105 = .ok (.istore 5, 2) := by decide +kernel
theorem d_M_move_107 : decode c_M_move 107 = .ok (.iload 5, 2) := by decide +kernel
theorem d_M_move_109 : decode c_M_move 109 = .ok (.ifCond .ge 6, 3) := by decide +kernel
theorem d_M_move_112 : decode c_M_move 112 = .ok (.bipush (-5), 2) := by decide +kernel
theorem d_M_move_114 : decode c_M_move 114 = .ok (.ireturn, 1) := by decide +kernel
theorem d_M_move_115 : decode c_M_move 115 = .ok (.aload_n 0, 1) := by decide +kernel
theorem d_M_move_116 : decode c_M_move 116 = .ok (.bipush 15, 2) := by decide +kernel
theorem d_M_move_118 : decode c_M_move 118 = .ok (.bipush 16, 2) := by decide +kernel
theorem d_M_move_120 : decode c_M_move 120 = .ok (.invokevirtual 90, 3) := by decide +kernel
theorem d_M_move_123 : decode c_M_move 123 = .ok (.aload_n 0, 1) := by decide +kernel
theorem d_M_move_124 : decode c_M_move 124 = .ok (.bipush 16, 2) := by decide +kernel
theorem d_M_move_126 : decode c_M_move 126 = .ok (.bipush 60, 2) := by decide +kernel
theorem d_M_move_128 : decode c_M_move 128 = .ok (.iload_n 1, 1) := by decide +kernel
theorem d_M_move_129 : decode c_M_move 129 = .ok (.invokevirtual 76, 3) := by decide +kernel
theorem d_M_move_132 : decode c_M_move 132 = .ok (.aload_n 0, 1) := by decide +kernel
theorem d_M_move_133 : decode c_M_move 133 = .ok (.bipush 16, 2) := by decide +kernel
theorem d_M_move_135 : decode c_M_move 135 = .ok (.bipush 61, 2) := by decide +kernel
theorem d_M_move_137 : decode c_M_move 137 = .ok (.iload_n 2, 1) := by decide +kernel
theorem d_M_move_138 : decode c_M_move 138 = .ok (.invokevirtual 76, 3) := by decide +kernel
theorem d_M_move_141 : decode c_M_move 141 = .ok (.aload_n 0, 1) := by decide +kernel
theorem d_M_move_142 : decode c_M_move 142 = .ok (.bipush 16, 2) := by decide +kernel
theorem d_M_move_144 : decode c_M_move 144 = .ok (.bipush 62, 2) := by decide +kernel
theorem d_M_move_146 : decode c_M_move 146 = .ok (.iload 5, 2) := by decide +kernel
theorem d_M_move_148 : decode c_M_move 148 = .ok (.invokevirtual 76, 3) := by decide +kernel
theorem d_M_move_151 : decode c_M_move 151 = .ok (.aload_n 0, 1) := by decide +kernel
theorem d_M_move_152 : decode c_M_move 152 = .ok (.invokevirtual 114, 3) := by decide +kernel
theorem d_M_move_155 : decode c_M_move 155 = .ok (.ifCond .ne 6, 3) := by decide +kernel
theorem d_M_move_158 : decode c_M_move 158 = .ok (.bipush (-7), 2) := by decide +kernel
theorem d_M_move_160 : decode c_M_move 160 = .ok (.ireturn, 1) := by decide +kernel
theorem d_M_move_161 : decode c_M_move 161 = .ok (.aload_n 0, 1) := by decide +kernel
theorem d_M_move_162 : decode c_M_move 162 = .ok (.iconst 0, 1) := by decide +kernel
theorem d_M_move_163 : decode c_M_move 163 = .ok (.putfield 126, 3) := by decide +kernel
theorem d_M_move_166 : decode c_M_move 166 = .ok (.iconst 0, 1) := by decide +kernel
theorem d_M_move_167 : decode c_M_move 167 = .ok (.ireturn, 1) := by decide +kernel
theorem d_M_isExtent_0 : decode c_M_isExtent 0 = .ok (.aload_n 0, 1) := by decide +kernel
theorem d_M_isExtent_1 : decode c_M_isExtent 1 = .ok (.iload_n 1, 1) := by decide +kernel
theorem d_M_isExtent_2 : decode c_M_isExtent 2 = .ok (.invokevirtual 117, 3) := by decide +kernel
theorem d_M_isExtent_5 : decode c_M_isExtent 5 = .ok (.ifCond .eq 22, 3) := by decide +kernel
theorem d_M_isExtent_8 : decode c_M_isExtent 8 = .ok (.iload_n 2, 1) := by decide +kernel
theorem d_M_isExtent_9 : decode c_M_isExtent 9 = .ok (.ifCond .lt 18, 3) := by decide +kernel
theorem d_M_isExtent_12 : decode c_M_isExtent 12 = .ok (.iload_n 2, 1) := by decide +kernel
theorem d_M_isExtent_13 : decode c_M_isExtent 13 = .ok (.aload_n 0, 1) := by decide +kernel
theorem d_M_isExtent_14 : decode c_M_isExtent 14 = .ok (.bipush 15, 2) := by decide +kernel
theorem d_M_isExtent_16 : decode c_M_isExtent 16 = .ok (.iload_n 1, 1) := by decide +kernel
theorem d_M_isExtent_17 : decode c_M_isExtent 17 = .ok (.invokevirtual 59, 3) := by decide +kernel
theorem d_M_isExtent_20 : decode c_M_isExtent 20 = .ok (.if_icmp .ge 7, 3) := by decide +kernel
theorem d_M_isExtent_23 : decode c_M_isExtent 23 = .ok (.iconst 1, 1) := by decide +kernel
theorem d_M_isExtent_24 : decode c_M_isExtent 24 = .ok (.goto 4, 3) := by decide +kernel
theorem d_M_isExtent_27 : decode c_M_isExtent 27 = .ok (.iconst 0, 1) := by decide +kernel
theorem d_M_isExtent_28 : decode c_M_isExtent 28 = .ok (.ireturn, 1) := by decide +kernel
theorem d_M_step_0 : decode c_M_step 0 = .ok (.aload_n 0, 1) := by decide +kernel
theorem d_M_step_1 : decode c_M_step 1 = .ok (.getfield 45, 3) := by decide +kernel
theorem d_M_step_4 : decode c_M_step 4 = .ok (.ifCond .ne 6, 3) := by decide +kernel
theorem d_M_step_7 : decode c_M_step 7 = .ok (.bipush (-2), 2) := by decide +kernel
theorem d_M_step_9 : decode c_M_step 9 = .ok (.ireturn, 1) := by decide +kernel
theorem d_M_step_10 : decode c_M_step 10 = .ok (.aload_n 0, 1) := by decide +kernel
theorem d_M_step_11 : decode c_M_step 11 = .ok (.bipush 15, 2) := by decide +kernel
theorem d_M_step_13 : decode c_M_step 13 = .ok (.bipush 60, 2) := by decide +kernel
theorem d_M_step_15 : decode c_M_step 15 = .ok (.invokevirtual 49, 3) := by decide +kernel
theorem d_M_step_18 : decode c_M_step 18 = .ok (.ifCond .ge 6, 3) := by decide +kernel
theorem d_M_step_21 : decode c_M_step 21 = .ok (.bipush (-8), 2) := by decide +kernel
theorem d_M_step_23 : decode c_M_step 23 = .ok (.ireturn, 1) := by decide +kernel
theorem d_M_step_24 : decode c_M_step 24 = .ok (.aload_n 0, 1) := by decide +kernel
theorem d_M_step_25 : decode c_M_step 25 = .ok (.invokevirtual 108, 3) := by decide +kernel
theorem d_M_step_28 : decode c_M_step 28 = .ok (.ifCond .eq 6, 3) := by decide +kernel
theorem d_M_step_31 : decode c_M_step 31 = .ok (.bipush (-3), 2) := by decide +kernel
theorem d_M_step_33 : decode c_M_step 33 = .ok (.ireturn, 1) := by decide +kernel
theorem d_M_step_34 : decode c_M_step 34 = .ok (.aload_n 0, 1) := by decide +kernel
theorem d_M_step_35 : decode c_M_step 35 = .ok (.invokevirtual 129, 3) := by decide +kernel
theorem d_M_step_38 : decode c_M_step 38 = .ok (.istore_n 1, 1) := by decide +kernel
theorem d_M_step_39 : decode c_M_step 39 = .ok (.aload_n 0, 1) := by decide +kernel
theorem d_M_step_40 : decode c_M_step 40 = .ok (.invokevirtual 133, 3) := by decide +kernel
theorem d_M_step_43 : decode c_M_step 43 = .ok (.istore_n 2, 1) := by decide +kernel
theorem d_M_step_44 : decode c_M_step 44 = .ok (.aload_n 0, 1) := by decide +kernel
theorem d_M_step_45 : decode c_M_step 45 = .ok (.getfield 7, 3) := by decide +kernel
theorem d_M_step_48 : decode c_M_step 48 = .ok (.iload_n 1, 1) := by decide +kernel
theorem d_M_step_49 : decode c_M_step 49 = .ok (.bipush 16, 2) := by decide +kernel
theorem d_M_step_51 : decode c_M_step 51 = .ok (.idiv, 1) := by decide +kernel
theorem d_M_step_52 : decode c_M_step 52 = .ok (.baload, 1) := by decide +kernel
theorem d_M_step_53 : decode c_M_step 53 = .ok (.ifCond .eq 15, 3) := by decide +kernel
theorem d_M_step_56 : decode c_M_step 56 = .ok (.aload_n 0, 1) := by decide +kernel
theorem d_M_step_57 : decode c_M_step 57 = .ok (.getfield 7, 3) := by decide +kernel
theorem d_M_step_60 : decode c_M_step 60 = .ok (.iload_n 2, 1) := by decide +kernel
theorem d_M_step_61 : decode c_M_step 61 = .ok (.bipush 16, 2) := by decide +kernel
theorem d_M_step_63 : decode c_M_step 63 = .ok (.idiv, 1) := by decide +kernel
theorem d_M_step_64 : decode c_M_step 64 = .ok (.baload, 1) := by decide +kernel
theorem d_M_step_65 : decode c_M_step 65 = .ok (.ifCond .ne 6, 3) := by decide +kernel
theorem d_M_step_68 : decode c_M_step 68 = .ok (.bipush (-6), 2) := by decide +kernel
theorem d_M_step_70 : decode c_M_step 70 = .ok (.ireturn, 1) := by decide +kernel
theorem d_M_step_71 : decode c_M_step 71 = .ok (.aload_n 0, 1) := by decide +kernel
theorem d_M_step_72 : decode c_M_step 72 = .ok (.getfield 126, 3) := by decide +kernel
theorem d_M_step_75 : decode c_M_step 75 = .ok (.iconst 4, 1) := by decide +kernel
theorem d_M_step_76 : decode c_M_step 76 = .ok (.if_icmp .ge 58, 3) := by decide +kernel
theorem d_M_step_79 : decode c_M_step 79 = .ok (.aload_n 0, 1) := by decide +kernel
theorem d_M_step_80 : decode c_M_step 80 = .ok (.invokevirtual 86, 3) := by decide +kernel
theorem d_M_step_83 : decode c_M_step 83 = .ok (.ifCond .eq 6, 3) := by decide +kernel
theorem d_M_step_86 : decode c_M_step 86 = .ok (.bipush (-7), 2) := by decide +kernel
theorem d_M_step_88 : decode c_M_step 88 = .ok (.ireturn, 1) := by decide +kernel
theorem d_M_step_89 : decode c_M_step 89 = .ok (.aload_n 0, 1) := by decide +kernel
theorem d_M_step_90 : decode c_M_step 90 = .ok (.getfield 13, 3) := by decide +kernel
theorem d_M_step_93 : decode c_M_step 93 = .ok (.aload_n 0, 1) := by decide +kernel
theorem d_M_step_94 : decode c_M_step 94 = .ok (.iload_n 2, 1) := by decide +kernel
theorem d_M_step_95 : decode c_M_step 95 = .ok (.aload_n 0, 1) := by decide +kernel
theorem d_M_step_96 : decode c_M_step 96 = .ok (.getfield 126, 3) := by decide +kernel
theorem d_M_step_99 : decode c_M_step 99 = .ok (.invokevirtual 136, 3) := by decide +kernel
theorem d_M_step_102 : decode c_M_step 102 = .ok (.aload_n 0, 1) := by decide +kernel
theorem d_M_step_103 : decode c_M_step 103 = .ok (.getfield 13, 3) := by decide +kernel
theorem d_M_step_106 : decode c_M_step 106 = .ok (.aload_n 0, 1) := by decide +kernel
theorem d_M_step_107 : decode c_M_step 107 = .ok (.iload_n 1, 1) := by decide +kernel
theorem d_M_step_108 : decode c_M_step 108 = .ok (.aload_n 0, 1) := by decide +kernel
theorem d_M_step_109 : decode c_M_step 109 = .ok (.getfield 126, 3) := by decide +kernel
theorem d_M_step_112 : decode c_M_step 112 = .ok (.invokevirtual 136, 3) := by decide +kernel
theorem d_M_step_115 : decode c_M_step 115 = .ok (.iaload, 1) := by decide +kernel
theorem d_M_step_116 : decode c_M_step 116 = .ok (.iastore, 1) := by decide +kernel
theorem d_M_step_117 : decode c_M_step 117 = .ok (.aload_n 0, 1) := by decide +kernel
theorem d_M_step_118 : decode c_M_step 118 = .ok (.dup, 1) := by decide +kernel
theorem d_M_step_119 : decode c_M_step 119 = .ok (.getfield 126, 3) := by decide +kernel
theorem d_M_step_122 : decode c_M_step 122 = .ok (.iconst 1, 1) := by decide +kernel
theorem d_M_step_123 : decode c_M_step 123 = .ok (.iadd, 1) := by decide +kernel
theorem d_M_step_124 : decode c_M_step 124 = .ok (.putfield 126, 3) := by decide +kernel
theorem d_M_step_127 : decode c_M_step 127 = .ok (.iconst 4, 1) := by decide +kernel
theorem d_M_step_128 : decode c_M_step 128 = .ok (.aload_n 0, 1) := by decide +kernel
theorem d_M_step_129 : decode c_M_step 129 = .ok (.getfield 126, 3) := by decide +kernel
theorem d_M_step_132 : decode c_M_step 132 = .ok (.isub, 1) := by decide +kernel
theorem d_M_step_133 : decode c_M_step 133 = .ok (.ireturn, 1) := by decide +kernel
theorem d_M_step_134 : decode c_M_step 134 = .ok (.aload_n 0, 1) := by decide +kernel
theorem d_M_step_135 : decode c_M_step 135 = .ok (.bipush 15, 2) := by decide +kernel
theorem d_M_step_137 : decode c_M_step 137 = .ok (.bipush 16, 2) := by decide +kernel
theorem d_M_step_139 : decode c_M_step 139 = .ok (.invokevirtual 90, 3) := by decide +kernel
theorem d_M_step_142 : decode c_M_step 142 = .ok (.aload_n 0, 1) := by decide +kernel
theorem d_M_step_143 : decode c_M_step 143 = .ok (.bipush 16, 2) := by decide +kernel
theorem d_M_step_145 : decode c_M_step 145 = .ok (.bipush 15, 2) := by decide +kernel
theorem d_M_step_147 : decode c_M_step 147 = .ok (.aload_n 0, 1) := by decide +kernel
theorem d_M_step_148 : decode c_M_step 148 = .ok (.bipush 15, 2) := by decide +kernel
theorem d_M_step_150 : decode c_M_step 150 = .ok (.bipush 60, 2) := by decide +kernel
theorem d_M_step_152 : decode c_M_step 152 = .ok (.invokevirtual 49, 3) := by decide +kernel
theorem d_M_step_155 : decode c_M_step 155 = .ok (.imul, 1) := by decide +kernel
theorem d_M_step_156 : decode c_M_step 156 = .ok (.iconst 3, 1) := by decide +kernel
theorem d_M_step_157 : decode c_M_step 157 = .ok (.iadd, 1) := by decide +kernel
theorem d_M_step_158 : decode c_M_step 158 = .ok (.aload_n 0, 1) := by decide +kernel
theorem d_M_step_159 : decode c_M_step 159 = .ok (.bipush 15, 2) := by decide +kernel
theorem d_M_step_161 : decode c_M_step 161 = .ok (.bipush 61, 2) := by decide +kernel
theorem d_M_step_163 : decode c_M_step 163 = .ok (.invokevirtual 49, 3) := by decide +kernel
theorem d_M_step_166 : decode c_M_step 166 = .ok (.iadd, 1) := by decide +kernel
theorem d_M_step_167 : decode c_M_step 167 = .ok (.iload_n 2, 1) := by decide +kernel
theorem d_M_step_168 : decode c_M_step 168 = .ok (.invokevirtual 76, 3) := by decide +kernel
theorem d_M_step_171 : decode c_M_step 171 = .ok (.aload_n 0, 1) := by decide +kernel
theorem d_M_step_172 : decode c_M_step 172 = .ok (.bipush 16, 2) := by decide +kernel
theorem d_M_step_174 : decode c_M_step 174 = .ok (.bipush 60, 2) := by decide +kernel
theorem d_M_step_176 : decode c_M_step 176 = .ok (.iconst (-1), 1) := by decide +kernel
theorem d_M_step_177 : decode c_M_step 177 = .ok (.invokevirtual 76, 3) := by decide +kernel
theorem d_M_step_180 : decode c_M_step 180 = .ok (.aload_n 0, 1) := by decide +kernel
theorem d_M_step_181 : decode c_M_step 181 = .ok (.invokevirtual 114, 3) := by decide +kernel
theorem d_M_step_184 : decode c_M_step 184 = .ok (.ifCond .eq 7, 3) := by decide +kernel
theorem d_M_step_187 : decode c_M_step 187 = .ok (.iconst 4, 1) := by decide +kernel
theorem d_M_step_188 : decode c_M_step 188 = .ok (.goto 5, 3) := by decide +kernel
theorem d_M_step_191 : decode c_M_step 191 = .ok (.bipush (-7), 2) := by decide +kernel
theorem d_M_step_193 : decode c_M_step 193 = .ok (.ireturn, 1) := by decide +kernel
theorem d_M_source_0 : decode c_M_source 0 = .ok (.aload_n 0, 1) := by decide +kernel
theorem d_M_source_1 : decode c_M_source 1 = .ok (.bipush 15, 2) := by decide +kernel
theorem d_M_source_3 : decode c_M_source 3 = .ok (.bipush 15, 2) := by decide +kernel
theorem d_M_source_5 : decode c_M_source 5 = .ok (.aload_n 0, 1) := by decide +kernel
theorem d_M_source_6 : decode c_M_source 6 = .ok (.bipush 15, 2) := by decide +kernel
theorem d_M_source_8 : decode c_M_source 8 = .ok (.bipush 60, 2) := by decide +kernel
theorem d_M_source_10 : decode c_M_source 10 = .ok (.invokevirtual 49, 3) := by decide +kernel
theorem d_M_source_13 : decode c_M_source 13 = .ok (.imul, 1) := by decide +kernel
theorem d_M_source_14 : decode c_M_source 14 = .ok (.iconst 3, 1) := by decide +kernel
theorem d_M_source_15 : decode c_M_source 15 = .ok (.iadd, 1) := by decide +kernel
theorem d_M_source_16 : decode c_M_source 16 = .ok (.aload_n 0, 1) := by decide +kernel
theorem d_M_source_17 : decode c_M_source 17 = .ok (.bipush 15, 2) := by decide +kernel
theorem d_M_source_19 : decode c_M_source 19 = .ok (.bipush 61, 2) := by decide +kernel
theorem d_M_source_21 : decode c_M_source 21 = .ok (.invokevirtual 49, 3) := by decide +kernel
theorem d_M_source_24 : decode c_M_source 24 = .ok (.iadd, 1) := by decide +kernel
theorem d_M_source_25 : decode c_M_source 25 = .ok (.invokevirtual 49, 3) := by decide +kernel
theorem d_M_source_28 : decode c_M_source 28 = .ok (.ireturn, 1) := by decide +kernel
theorem d_M_target_0 : decode c_M_target 0 = .ok (.aload_n 0, 1) := by decide +kernel
theorem d_M_target_1 : decode c_M_target 1 = .ok (.bipush 15, 2) := by decide +kernel
theorem d_M_target_3 : decode c_M_target 3 = .ok (.bipush 62, 2) := by decide +kernel
theorem d_M_target_5 : decode c_M_target 5 = .ok (.invokevirtual 49, 3) := by decide +kernel
theorem d_M_target_8 : decode c_M_target 8 = .ok (.ireturn, 1) := by decide +kernel
theorem d_M_cellAt_0 : decode c_M_cellAt 0 = .ok (.bipush 64, 2) := by decide +kernel
theorem d_M_cellAt_2 : decode c_M_cellAt 2 = .ok (.iload_n 1, 1) := by decide +kernel
theorem d_M_cellAt_3 : decode c_M_cellAt 3 = .ok (.bipush 16, 2) := by decide +kernel
theorem d_M_cellAt_5 : decode c_M_cellAt 5 = .ok (.idiv, 1) := by decide +kernel
theorem d_M_cellAt_6 : decode c_M_cellAt 6 = .ok (.imul, 1) := by decide +kernel
theorem d_M_cellAt_7 : decode c_M_cellAt 7 = .ok (.iconst 4, 1) := by decide +kernel
theorem d_M_cellAt_8 : decode c_M_cellAt 8 = .ok (.iload_n 1, 1) := by decide +kernel
theorem d_M_cellAt_9 : decode c_M_cellAt 9 = .ok (.bipush 16, 2) := by decide +kernel
theorem d_M_cellAt_11 : decode c_M_cellAt 11 = .ok (.irem, 1) := by decide +kernel
theorem d_M_cellAt_12 : decode c_M_cellAt 12 = .ok (.imul, 1) := by decide +kernel
theorem d_M_cellAt_13 : decode c_M_cellAt 13 = .ok (.iadd, 1) := by decide +kernel
theorem d_M_cellAt_14 : decode c_M_cellAt 14 = .ok (.iload_n 2, 1) := by decide +kernel
theorem d_M_cellAt_15 : decode c_M_cellAt 15 = .ok (.iadd, 1) := by decide +kernel
theorem d_M_cellAt_16 : decode c_M_cellAt 16 = .ok (.ireturn, 1) := by decide +kernel
theorem d_M_cancel_0 : decode c_M_cancel 0 = .ok (.aload_n 0, 1) := by decide +kernel
theorem d_M_cancel_1 : decode c_M_cancel 1 = .ok (.getfield 45, 3) := by decide +kernel
theorem d_M_cancel_4 : decode c_M_cancel 4 = .ok (.ifCond .ne 6, 3) := by decide +kernel
theorem d_M_cancel_7 : decode c_M_cancel 7 = .ok (.bipush (-2), 2) := by decide +kernel
theorem d_M_cancel_9 : decode c_M_cancel 9 = .ok (.ireturn, 1) := by decide +kernel
theorem d_M_cancel_10 : decode c_M_cancel 10 = .ok (.aload_n 0, 1) := by decide +kernel
theorem d_M_cancel_11 : decode c_M_cancel 11 = .ok (.bipush 15, 2) := by decide +kernel
theorem d_M_cancel_13 : decode c_M_cancel 13 = .ok (.bipush 60, 2) := by decide +kernel
theorem d_M_cancel_15 : decode c_M_cancel 15 = .ok (.invokevirtual 49, 3) := by decide +kernel
theorem d_M_cancel_18 : decode c_M_cancel 18 = .ok (.ifCond .ge 6, 3) := by decide +kernel
theorem d_M_cancel_21 : decode c_M_cancel 21 = .ok (.bipush (-8), 2) := by decide +kernel
theorem d_M_cancel_23 : decode c_M_cancel 23 = .ok (.ireturn, 1) := by decide +kernel
theorem d_M_cancel_24 : decode c_M_cancel 24 = .ok (.aload_n 0, 1) := by decide +kernel
theorem d_M_cancel_25 : decode c_M_cancel 25 = .ok (.invokevirtual 108, 3) := by decide +kernel
theorem d_M_cancel_28 : decode c_M_cancel 28 = .ok (.ifCond .eq 6, 3) := by decide +kernel
theorem d_M_cancel_31 : decode c_M_cancel 31 = .ok (.bipush (-3), 2) := by decide +kernel
theorem d_M_cancel_33 : decode c_M_cancel 33 = .ok (.ireturn, 1) := by decide +kernel
theorem d_M_cancel_34 : decode c_M_cancel 34 = .ok (.aload_n 0, 1) := by decide +kernel
theorem d_M_cancel_35 : decode c_M_cancel 35 = .ok (.bipush 15, 2) := by decide +kernel
theorem d_M_cancel_37 : decode c_M_cancel 37 = .ok (.bipush 16, 2) := by decide +kernel
theorem d_M_cancel_39 : decode c_M_cancel 39 = .ok (.invokevirtual 90, 3) := by decide +kernel
theorem d_M_cancel_42 : decode c_M_cancel 42 = .ok (.aload_n 0, 1) := by decide +kernel
theorem d_M_cancel_43 : decode c_M_cancel 43 = .ok (.bipush 16, 2) := by decide +kernel
theorem d_M_cancel_45 : decode c_M_cancel 45 = .ok (.bipush 60, 2) := by decide +kernel
theorem d_M_cancel_47 : decode c_M_cancel 47 = .ok (.iconst (-1), 1) := by decide +kernel
theorem d_M_cancel_48 : decode c_M_cancel 48 = .ok (.invokevirtual 76, 3) := by decide +kernel
theorem d_M_cancel_51 : decode c_M_cancel 51 = .ok (.aload_n 0, 1) := by decide +kernel
theorem d_M_cancel_52 : decode c_M_cancel 52 = .ok (.invokevirtual 114, 3) := by decide +kernel
theorem d_M_cancel_55 : decode c_M_cancel 55 = .ok (.ifCond .eq 7, 3) := by decide +kernel
theorem d_M_cancel_58 : decode c_M_cancel 58 = .ok (.iconst 0, 1) := by decide +kernel
theorem d_M_cancel_59 : decode c_M_cancel 59 = .ok (.goto 5, 3) := by decide +kernel
theorem d_M_cancel_62 : decode c_M_cancel 62 = .ok (.bipush (-7), 2) := by decide +kernel
theorem d_M_cancel_64 : decode c_M_cancel 64 = .ok (.ireturn, 1) := by decide +kernel
theorem d_M_read_0 : decode c_M_read 0 = .ok (.aload_n 0, 1) := by decide +kernel
theorem d_M_read_1 : decode c_M_read 1 = .ok (.getfield 45, 3) := by decide +kernel
theorem d_M_read_4 : decode c_M_read 4 = .ok (.ifCond .ne 6, 3) := by decide +kernel
theorem d_M_read_7 : decode c_M_read 7 = .ok (.bipush (-2), 2) := by decide +kernel
theorem d_M_read_9 : decode c_M_read 9 = .ok (.ireturn, 1) := by decide +kernel
theorem d_M_read_10 : decode c_M_read 10 = .ok (.aload_n 0, 1) := by decide +kernel
theorem d_M_read_11 : decode c_M_read 11 = .ok (.iload_n 1, 1) := by decide +kernel
theorem d_M_read_12 : decode c_M_read 12 = .ok (.iload_n 2, 1) := by decide +kernel
theorem d_M_read_13 : decode c_M_read 13 = .ok (.invokevirtual 139, 3) := by decide +kernel
theorem d_M_read_16 : decode c_M_read 16 = .ok (.ifCond .ne 5, 3) := by decide +kernel
theorem d_M_read_19 : decode c_M_read 19 = .ok (.iconst (-1), 1) := by decide +kernel
theorem d_M_read_20 : decode c_M_read 20 = .ok (.ireturn, 1) := by decide +kernel
theorem d_M_read_21 : decode c_M_read 21 = .ok (.aload_n 0, 1) := by decide +kernel
theorem d_M_read_22 : decode c_M_read 22 = .ok (.bipush 15, 2) := by decide +kernel
theorem d_M_read_24 : decode c_M_read 24 = .ok (.bipush 15, 2) := by decide +kernel
theorem d_M_read_26 : decode c_M_read 26 = .ok (.iload_n 1, 1) := by decide +kernel
theorem d_M_read_27 : decode c_M_read 27 = .ok (.imul, 1) := by decide +kernel
theorem d_M_read_28 : decode c_M_read 28 = .ok (.iconst 3, 1) := by decide +kernel
theorem d_M_read_29 : decode c_M_read 29 = .ok (.iadd, 1) := by decide +kernel
theorem d_M_read_30 : decode c_M_read 30 = .ok (.aload_n 0, 1) := by decide +kernel
theorem d_M_read_31 : decode c_M_read 31 = .ok (.iload_n 1, 1) := by decide +kernel
theorem d_M_read_32 : decode c_M_read 32 = .ok (.iload_n 2, 1) := by decide +kernel
theorem d_M_read_33 : decode c_M_read 33 = .ok (.invokevirtual 142, 3) := by decide +kernel
theorem d_M_read_36 : decode c_M_read 36 = .ok (.iadd, 1) := by decide +kernel
theorem d_M_read_37 : decode c_M_read 37 = .ok (.invokevirtual 49, 3) := by decide +kernel
theorem d_M_read_40 : decode c_M_read 40 = .ok (.istore_n 3, 1) := by decide +kernel
theorem d_M_read_41 : decode c_M_read 41 = .ok (.aload_n 0, 1) := by decide +kernel
theorem d_M_read_42 : decode c_M_read 42 = .ok (.iload_n 1, 1) := by decide +kernel
theorem d_M_read_43 : decode c_M_read 43 = .ok (.iload_n 2, 1) := by decide +kernel
theorem d_M_read_44 : decode c_M_read 44 = .ok (.invokevirtual 145, 3) := by decide +kernel
theorem d_M_read_47 : decode c_M_read 47 = .ok (.istore 4, 2) := by decide +kernel
theorem d_M_read_49 : decode c_M_read 49 = .ok (.aload_n 0, 1) := by decide +kernel
theorem d_M_read_50 : decode c_M_read 50 = .ok (.getfield 7, 3) := by decide +kernel
theorem d_M_read_53 : decode c_M_read 53 = .ok (.iload_n 3, 1) := by decide +kernel
theorem d_M_read_54 : decode c_M_read 54 = .ok (.bipush 16, 2) := by decide +kernel
theorem d_M_read_56 : decode c_M_read 56 = .ok (.idiv, 1) := by decide +kernel
theorem d_M_read_57 : decode c_M_read 57 = .ok (.baload, 1) := by decide +kernel
theorem d_M_read_58 : decode c_M_read 58 = .ok (.ifCond .eq 18, 3) := by decide +kernel
theorem d_M_read_61 : decode c_M_read 61 = .ok (.aload_n 0, 1) := by decide +kernel
theorem d_M_read_62 : decode c_M_read 62 = .ok (.getfield 13, 3) := by decide +kernel
theorem d_M_read_65 : decode c_M_read 65 = .ok (.aload_n 0, 1) := by decide +kernel
theorem d_M_read_66 : decode c_M_read 66 = .ok (.iload_n 3, 1) := by decide +kernel
theorem d_M_read_67 : decode c_M_read 67 = .ok (.iload 4, 2) := by decide +kernel
theorem d_M_read_69 : decode c_M_read 69 = .ok (.invokevirtual 136, 3) := by decide +kernel
theorem d_M_read_72 : decode c_M_read 72 = .ok (.iaload, 1) := by decide +kernel
theorem d_M_read_73 : decode c_M_read 73 = .ok (.goto 5, 3) := by decide +kernel
theorem d_M_read_76 : decode c_M_read 76 = .ok (.bipush (-6), 2) := by decide +kernel
theorem d_M_read_78 : decode c_M_read 78 = .ok (.ireturn, 1) := by decide +kernel
theorem d_M_isBlock_0 : decode c_M_isBlock 0 = .ok (.aload_n 0, 1) := by decide +kernel
theorem d_M_isBlock_1 : decode c_M_isBlock 1 = .ok (.iload_n 1, 1) := by decide +kernel
theorem d_M_isBlock_2 : decode c_M_isBlock 2 = .ok (.invokevirtual 117, 3) := by decide +kernel
theorem d_M_isBlock_5 : decode c_M_isBlock 5 = .ok (.ifCond .eq 24, 3) := by decide +kernel
theorem d_M_isBlock_8 : decode c_M_isBlock 8 = .ok (.iload_n 2, 1) := by decide +kernel
theorem d_M_isBlock_9 : decode c_M_isBlock 9 = .ok (.ifCond .lt 20, 3) := by decide +kernel
theorem d_M_isBlock_12 : decode c_M_isBlock 12 = .ok (.iload_n 2, 1) := by decide +kernel
theorem d_M_isBlock_13 : decode c_M_isBlock 13 = .ok (.iconst 4, 1) := by decide +kernel
theorem d_M_isBlock_14 : decode c_M_isBlock 14 = .ok (.aload_n 0, 1) := by decide +kernel
theorem d_M_isBlock_15 : decode c_M_isBlock 15 = .ok (.bipush 15, 2) := by decide +kernel
theorem d_M_isBlock_17 : decode c_M_isBlock 17 = .ok (.iload_n 1, 1) := by decide +kernel
theorem d_M_isBlock_18 : decode c_M_isBlock 18 = .ok (.invokevirtual 59, 3) := by decide +kernel
theorem d_M_isBlock_21 : decode c_M_isBlock 21 = .ok (.imul, 1) := by decide +kernel
theorem d_M_isBlock_22 : decode c_M_isBlock 22 = .ok (.if_icmp .ge 7, 3) := by decide +kernel
theorem d_M_isBlock_25 : decode c_M_isBlock 25 = .ok (.iconst 1, 1) := by decide +kernel
theorem d_M_isBlock_26 : decode c_M_isBlock 26 = .ok (.goto 4, 3) := by decide +kernel
theorem d_M_isBlock_29 : decode c_M_isBlock 29 = .ok (.iconst 0, 1) := by decide +kernel
theorem d_M_isBlock_30 : decode c_M_isBlock 30 = .ok (.ireturn, 1) := by decide +kernel
theorem d_M_extentOf_0 : decode c_M_extentOf 0 = .ok (.aload_n 0, 1) := by decide +kernel
theorem d_M_extentOf_1 : decode c_M_extentOf 1 = .ok (.bipush 15, 2) := by decide +kernel
theorem d_M_extentOf_3 : decode c_M_extentOf 3 = .ok (.iload_n 1, 1) := by decide +kernel
theorem d_M_extentOf_4 : decode c_M_extentOf 4 = .ok (.invokevirtual 56, 3) := by decide +kernel
theorem d_M_extentOf_7 : decode c_M_extentOf 7 = .ok (.istore_n 3, 1) := by decide +kernel
theorem d_M_extentOf_8 : decode c_M_extentOf 8 = .ok (.aload_n 0, 1) := by decide +kernel
theorem d_M_extentOf_9 : decode c_M_extentOf 9 = .ok (.bipush 15, 2) := by decide +kernel
theorem d_M_extentOf_11 : decode c_M_extentOf 11 = .ok (.bipush 15, 2) := by decide +kernel
theorem d_M_extentOf_13 : decode c_M_extentOf 13 = .ok (.iload_n 1, 1) := by decide +kernel
theorem d_M_extentOf_14 : decode c_M_extentOf 14 = .ok (.imul, 1) := by decide +kernel
theorem d_M_extentOf_15 : decode c_M_extentOf 15 = .ok (.iconst 1, 1) := by decide +kernel
theorem d_M_extentOf_16 : decode c_M_extentOf 16 = .ok (.iadd, 1) := by decide +kernel
theorem d_M_extentOf_17 : decode c_M_extentOf 17 = .ok (.invokevirtual 49, 3) := by decide +kernel
theorem d_M_extentOf_20 : decode c_M_extentOf 20 = .ok (.istore 4, 2) := by decide +kernel
theorem d_M_extentOf_22 : decode c_M_extentOf 22 = .ok (.iload_n 2, 1) := by decide +kernel
theorem d_M_extentOf_23 : decode c_M_extentOf 23 = .ok (.iconst 4, 1) := by decide +kernel
theorem d_M_extentOf_24 : decode c_M_extentOf 24 = .ok (.iload_n 3, 1) := by decide +kernel
theorem d_M_extentOf_25 : decode c_M_extentOf 25 = .ok (.imul, 1) := by decide +kernel
theorem d_M_extentOf_26 : decode c_M_extentOf 26 = .ok (.irem, 1) := by decide +kernel
theorem d_M_extentOf_27 : decode c_M_extentOf 27 = .ok (.istore 5, 2) := by decide +kernel
theorem d_M_extentOf_29 : decode c_M_extentOf 29 = .ok (.iload_n 3, 1) := by decide +kernel
theorem d_M_extentOf_30 : decode c_M_extentOf 30 = .ok (.iload_n 2, 1) := by decide +kernel
theorem d_M_extentOf_31 : decode c_M_extentOf 31 = .ok (.iconst 4, 1) := by decide +kernel
theorem d_M_extentOf_32 : decode c_M_extentOf 32 = .ok (.iload_n 3, 1) := by decide +kernel
theorem d_M_extentOf_33 : decode c_M_extentOf 33 = .ok (.imul, 1) := by decide +kernel
theorem d_M_extentOf_34 : decode c_M_extentOf 34 = .ok (.idiv, 1) := by decide +kernel
theorem d_M_extentOf_35 : decode c_M_extentOf 35 = .ok (.imul, 1) := by decide +kernel
theorem d_M_extentOf_36 : decode c_M_extentOf 36 = .ok (.iload 5, 2) := by decide +kernel
theorem d_M_extentOf_38 : decode c_M_extentOf 38 = .ok (.iload 4, 2) := by decide +kernel
theorem d_M_extentOf_40 : decode c_M_extentOf 40 = .ok (.idiv, 1) := by decide +kernel
theorem d_M_extentOf_41 : decode c_M_extentOf 41 = .ok (.iload_n 3, 1) := by decide +kernel
theorem d_M_extentOf_42 : decode c_M_extentOf 42 = .ok (.irem, 1) := by decide +kernel
theorem d_M_extentOf_43 : decode c_M_extentOf 43 = .ok (.iadd, 1) := by decide +kernel
theorem d_M_extentOf_44 : decode c_M_extentOf 44 = .ok (.ireturn, 1) := by decide +kernel
theorem d_M_cellOf_0 : decode c_M_cellOf 0 = .ok (.aload_n 0, 1) := by decide +kernel
theorem d_M_cellOf_1 : decode c_M_cellOf 1 = .ok (.bipush 15, 2) := by decide +kernel
theorem d_M_cellOf_3 : decode c_M_cellOf 3 = .ok (.iload_n 1, 1) := by decide +kernel
theorem d_M_cellOf_4 : decode c_M_cellOf 4 = .ok (.invokevirtual 56, 3) := by decide +kernel
theorem d_M_cellOf_7 : decode c_M_cellOf 7 = .ok (.istore_n 3, 1) := by decide +kernel
theorem d_M_cellOf_8 : decode c_M_cellOf 8 = .ok (.aload_n 0, 1) := by decide +kernel
theorem d_M_cellOf_9 : decode c_M_cellOf 9 = .ok (.bipush 15, 2) := by decide +kernel
theorem d_M_cellOf_11 : decode c_M_cellOf 11 = .ok (.bipush 15, 2) := by decide +kernel
theorem d_M_cellOf_13 : decode c_M_cellOf 13 = .ok (.iload_n 1, 1) := by decide +kernel
theorem d_M_cellOf_14 : decode c_M_cellOf 14 = .ok (.imul, 1) := by decide +kernel
theorem d_M_cellOf_15 : decode c_M_cellOf 15 = .ok (.iconst 1, 1) := by decide +kernel
theorem d_M_cellOf_16 : decode c_M_cellOf 16 = .ok (.iadd, 1) := by decide +kernel
theorem d_M_cellOf_17 : decode c_M_cellOf 17 = .ok (.invokevirtual 49, 3) := by decide +kernel
theorem d_M_cellOf_20 : decode c_M_cellOf 20 = .ok (.istore 4, 2) := by decide +kernel
theorem d_M_cellOf_22 : decode c_M_cellOf 22 = .ok (.iload_n 2, 1) := by decide +kernel
theorem d_M_cellOf_23 : decode c_M_cellOf 23 = .ok (.iconst 4, 1) := by decide +kernel
theorem d_M_cellOf_24 : decode c_M_cellOf 24 = .ok (.iload_n 3, 1) := by decide +kernel
theorem d_M_cellOf_25 : decode c_M_cellOf 25 = .ok (.imul, 1) := by decide +kernel
theorem d_M_cellOf_26 : decode c_M_cellOf 26 = .ok (.irem, 1) := by decide +kernel
theorem d_M_cellOf_27 : decode c_M_cellOf 27 = .ok (.istore 5, 2) := by decide +kernel
theorem d_M_cellOf_29 : decode c_M_cellOf 29 = .ok (.iload 5, 2) := by decide +kernel
theorem d_M_cellOf_31 : decode c_M_cellOf 31 = .ok (.iload 4, 2) := by decide +kernel
theorem d_M_cellOf_33 : decode c_M_cellOf 33 = .ok (.idiv, 1) := by decide +kernel
theorem d_M_cellOf_34 : decode c_M_cellOf 34 = .ok (.iload_n 3, 1) := by decide +kernel
theorem d_M_cellOf_35 : decode c_M_cellOf 35 = .ok (.idiv, 1) := by decide +kernel
theorem d_M_cellOf_36 : decode c_M_cellOf 36 = .ok (.iload 4, 2) := by decide +kernel
theorem d_M_cellOf_38 : decode c_M_cellOf 38 = .ok (.imul, 1) := by decide +kernel
theorem d_M_cellOf_39 : decode c_M_cellOf 39 = .ok (.iload 5, 2) := by decide +kernel
theorem d_M_cellOf_41 : decode c_M_cellOf 41 = .ok (.iload 4, 2) := by decide +kernel
theorem d_M_cellOf_43 : decode c_M_cellOf 43 = .ok (.irem, 1) := by decide +kernel
theorem d_M_cellOf_44 : decode c_M_cellOf 44 = .ok (.iadd, 1) := by decide +kernel
theorem d_M_cellOf_45 : decode c_M_cellOf 45 = .ok (.ireturn, 1) := by decide +kernel
theorem d_M_write_0 : decode c_M_write 0 = .ok (.aload_n 0, 1) := by decide +kernel
theorem d_M_write_1 : decode c_M_write 1 = .ok (.getfield 45, 3) := by decide +kernel
theorem d_M_write_4 : decode c_M_write 4 = .ok (.ifCond .ne 6, 3) := by decide +kernel
theorem d_M_write_7 : decode c_M_write 7 = .ok (.bipush (-2), 2) := by decide +kernel
theorem d_M_write_9 : decode c_M_write 9 = .ok (.ireturn, 1) := by decide +kernel
theorem d_M_write_10 : decode c_M_write 10 = .ok (.aload_n 0, 1) := by decide +kernel
theorem d_M_write_11 : decode c_M_write 11 = .ok (.iload_n 1, 1) := by decide +kernel
theorem d_M_write_12 : decode c_M_write 12 = .ok (.iload_n 2, 1) := by decide +kernel
theorem d_M_write_13 : decode c_M_write 13 = .ok (.invokevirtual 139, 3) := by decide +kernel
theorem d_M_write_16 : decode c_M_write 16 = .ok (.ifCond .eq 7, 3) := by decide +kernel
theorem d_M_write_19 : decode c_M_write 19 = .ok (.iload_n 3, 1) := by decide +kernel
theorem d_M_write_20 : decode c_M_write 20 = .ok (.ifCond .ge 5, 3) := by decide +kernel
theorem d_M_write_23 : decode c_M_write 23 = .ok (.iconst (-1), 1) := by decide +kernel
theorem d_M_write_24 : decode c_M_write 24 = .ok (.ireturn, 1) := by decide +kernel
theorem d_M_write_25 : decode c_M_write 25 = .ok (.aload_n 0, 1) := by decide +kernel
theorem d_M_write_26 : decode c_M_write 26 = .ok (.iload_n 1, 1) := by decide +kernel
theorem d_M_write_27 : decode c_M_write 27 = .ok (.iload_n 2, 1) := by decide +kernel
theorem d_M_write_28 : decode c_M_write 28 = .ok (.invokevirtual 142, 3) := by decide +kernel
theorem d_M_write_31 : decode c_M_write 31 = .ok (.istore 4, 2) := by decide +kernel
theorem d_M_write_33 : decode c_M_write 33 = .ok (.aload_n 0, 1) := by decide +kernel
theorem d_M_write_34 : decode c_M_write 34 = .ok (.iload_n 1, 1) := by decide +kernel
theorem d_M_write_35 : decode c_M_write 35 = .ok (.iload_n 2, 1) := by decide +kernel
theorem d_M_write_36 : decode c_M_write 36 = .ok (.invokevirtual 145, 3) := by decide +kernel
theorem d_M_write_39 : decode c_M_write 39 = .ok (.istore 5, 2) := by decide +kernel
theorem d_M_write_41 : decode c_M_write 41 = .ok (.aload_n 0, 1) := by decide +kernel
theorem d_M_write_42 : decode c_M_write 42 = .ok (.bipush 15, 2) := by decide +kernel
theorem d_M_write_44 : decode c_M_write 44 = .ok (.bipush 15, 2) := by decide +kernel
theorem d_M_write_46 : decode c_M_write 46 = .ok (.iload_n 1, 1) := by decide +kernel
theorem d_M_write_47 : decode c_M_write 47 = .ok (.imul, 1) := by decide +kernel
theorem d_M_write_48 : decode c_M_write 48 = .ok (.iconst 3, 1) := by decide +kernel
theorem d_M_write_49 : decode c_M_write 49 = .ok (.iadd, 1) := by decide +kernel
theorem d_M_write_50 : decode c_M_write 50 = .ok (.iload 4, 2) := by decide +kernel
theorem d_M_write_52 : decode c_M_write 52 = .ok (.iadd, 1) := by decide +kernel
theorem d_M_write_53 : decode c_M_write 53 = .ok (.invokevirtual 49, 3) := by decide +kernel
theorem d_M_write_56 : decode c_M_write 56 = .ok (.istore 6, 2) := by decide +kernel
theorem d_M_write_58 : decode c_M_write 58 = .ok (.aload_n 0, 1) := by decide +kernel
theorem d_M_write_59 : decode c_M_write 59 = .ok (.iload_n 1, 1) := by decide +kernel
theorem d_M_write_60 : decode c_M_write 60 = .ok (.invokevirtual 120, 3) := by decide +kernel
theorem d_M_write_63 : decode c_M_write 63 = .ok (.ifCond .eq 29, 3) := by decide +kernel
theorem d_M_write_66 : decode c_M_write 66 = .ok (.aload_n 0, 1) := by decide +kernel
theorem d_M_write_67 : decode c_M_write 67 = .ok (.bipush 15, 2) := by decide +kernel
theorem d_M_write_69 : decode c_M_write 69 = .ok (.bipush 61, 2) := by decide +kernel
theorem d_M_write_71 : decode c_M_write 71 = .ok (.invokevirtual 49, 3) := by decide +kernel
theorem d_M_write_74 : decode c_M_write 74 = .ok (.iload 4, 2) := by decide +kernel
theorem d_M_write_76 : decode c_M_write 76 = .ok (.if_icmp .ne 16, 3) := by decide +kernel
theorem d_M_write_79 : decode c_M_write 79 = .ok (.iload 5, 2) := by decide +kernel
theorem d_M_write_81 : decode c_M_write 81 = .ok (.aload_n 0, 1) := by decide +kernel
theorem d_M_write_82 : decode c_M_write 82 = .ok (.getfield 126, 3) := by decide +kernel
theorem d_M_write_85 : decode c_M_write 85 = .ok (.if_icmp .ge 7, 3) := by decide +kernel
theorem d_M_write_88 : decode c_M_write 88 = .ok (.iconst 1, 1) := by decide +kernel
theorem d_M_write_89 : decode c_M_write 89 = .ok (.goto 4, 3) := by decide +kernel
theorem d_M_write_92 : decode c_M_write 92 = .ok (.iconst 0, 1) := by decide +kernel
theorem d_M_write_93 : decode c_M_write 93 = .ok (.istore 7, 2) := by decide +kernel
theorem d_M_write_95 : decode c_M_write 95 = .ok (.aload_n 0, 1) := by decide +kernel
theorem d_M_write_96 : decode c_M_write 96 = .ok (.getfield 7, 3) := by decide +kernel
theorem d_M_write_99 : decode c_M_write 99 = .ok (.iload 6, 2) := by decide +kernel
theorem d_M_write_101 : decode c_M_write 101 = .ok (.bipush 16, 2) := by decide +kernel
theorem d_M_write_103 : decode c_M_write 103 = .ok (.idiv, 1) := by decide +kernel
theorem d_M_write_104 : decode c_M_write 104 = .ok (.baload, 1) := by decide +kernel
theorem d_M_write_105 : decode c_M_write 105 = .ok (.ifCond .eq 23, 3) := by decide +kernel
theorem d_M_write_108 : decode c_M_write 108 = .ok (.iload 7, 2) := by decide +kernel
theorem d_M_write_110 : decode c_M_write 110 = .ok (.ifCond .eq 21, 3) := by decide +kernel
theorem d_M_write_113 : decode c_M_write 113 = .ok (.aload_n 0, 1) := by decide +kernel
theorem d_M_write_114 : decode c_M_write 114 = .ok (.getfield 7, 3) := by decide +kernel
theorem d_M_write_117 : decode c_M_write 117 = .ok (.aload_n 0, 1) := by decide +kernel
theorem d_M_write_118 : decode c_M_write 118 = .ok (.invokevirtual 133, 3) := by decide +kernel
theorem d_M_write_121 : decode c_M_write 121 = .ok (.bipush 16, 2) := by decide +kernel
theorem d_M_write_123 : decode c_M_write 123 = .ok (.idiv, 1) := by decide +kernel
theorem d_M_write_124 : decode c_M_write 124 = .ok (.baload, 1) := by decide +kernel
theorem d_M_write_125 : decode c_M_write 125 = .ok (.ifCond .ne 6, 3) := by decide +kernel
theorem d_M_write_128 : decode c_M_write 128 = .ok (.bipush (-6), 2) := by decide +kernel
theorem d_M_write_130 : decode c_M_write 130 = .ok (.ireturn, 1) := by decide +kernel
theorem d_M_write_131 : decode c_M_write 131 = .ok (.aload_n 0, 1) := by decide +kernel
theorem d_M_write_132 : decode c_M_write 132 = .ok (.invokevirtual 86, 3) := by decide +kernel
theorem d_M_write_135 : decode c_M_write 135 = .ok (.ifCond .eq 6, 3) := by decide +kernel
theorem d_M_write_138 : decode c_M_write 138 = .ok (.bipush (-7), 2) := by decide +kernel
theorem d_M_write_140 : decode c_M_write 140 = .ok (.ireturn, 1) := by decide +kernel
theorem d_M_write_141 : decode c_M_write 141 = .ok (.aload_n 0, 1) := by decide +kernel
theorem d_M_write_142 : decode c_M_write 142 = .ok (.getfield 13, 3) := by decide +kernel
theorem d_M_write_145 : decode c_M_write 145 = .ok (.aload_n 0, 1) := by decide +kernel
theorem d_M_write_146 : decode c_M_write 146 = .ok (.iload 6, 2) := by decide +kernel
theorem d_M_write_148 : decode c_M_write 148 = .ok (.iload 5, 2) := by decide +kernel
theorem d_M_write_150 : decode c_M_write 150 = .ok (.invokevirtual 136, 3) := by decide +kernel
theorem d_M_write_153 : decode c_M_write 153 = .ok (.iload_n 3, 1) := by decide +kernel
theorem d_M_write_154 : decode c_M_write 154 = .ok (.iastore, 1) := by decide +kernel
theorem d_M_write_155 : decode c_M_write 155 = .ok (.iload 7, 2) := by decide +kernel
theorem d_M_write_157 : decode c_M_write 157 = .ok (.ifCond .ne 5, 3) := by decide +kernel
theorem d_M_write_160 : decode c_M_write 160 = .ok (.iconst 1, 1) := by decide +kernel
theorem d_M_write_161 : decode c_M_write 161 = .ok (.ireturn, 1) := by decide +kernel
theorem d_M_write_162 : decode c_M_write 162 = .ok (.aload_n 0, 1) := by decide +kernel
theorem d_M_write_163 : decode c_M_write 163 = .ok (.invokevirtual 86, 3) := by decide +kernel
theorem d_M_write_166 : decode c_M_write 166 = .ok (.ifCond .eq 6, 3) := by decide +kernel
theorem d_M_write_169 : decode c_M_write 169 = .ok (.bipush (-7), 2) := by decide +kernel
theorem d_M_write_171 : decode c_M_write 171 = .ok (.ireturn, 1) := by decide +kernel
theorem d_M_write_172 : decode c_M_write 172 = .ok (.aload_n 0, 1) := by decide +kernel
theorem d_M_write_173 : decode c_M_write 173 = .ok (.getfield 13, 3) := by decide +kernel
theorem d_M_write_176 : decode c_M_write 176 = .ok (.aload_n 0, 1) := by decide +kernel
theorem d_M_write_177 : decode c_M_write 177 = .ok (.aload_n 0, 1) := by decide +kernel
theorem d_M_write_178 : decode c_M_write 178 = .ok (.invokevirtual 133, 3) := by decide +kernel
theorem d_M_write_181 : decode c_M_write 181 = .ok (.iload 5, 2) := by decide +kernel
theorem d_M_write_183 : decode c_M_write 183 = .ok (.invokevirtual 136, 3) := by decide +kernel
theorem d_M_write_186 : decode c_M_write 186 = .ok (.iload_n 3, 1) := by decide +kernel
theorem d_M_write_187 : decode c_M_write 187 = .ok (.iastore, 1) := by decide +kernel
theorem d_M_write_188 : decode c_M_write 188 = .ok (.iconst 2, 1) := by decide +kernel
theorem d_M_write_189 : decode c_M_write 189 = .ok (.ireturn, 1) := by decide +kernel
theorem d_M_pull_0 : decode c_M_pull 0 = .ok (.aload_n 0, 1) := by decide +kernel
theorem d_M_pull_1 : decode c_M_pull 1 = .ok (.iload_n 1, 1) := by decide +kernel
theorem d_M_pull_2 : decode c_M_pull 2 = .ok (.invokevirtual 148, 3) := by decide +kernel
theorem d_M_pull_5 : decode c_M_pull 5 = .ok (.ifCond .eq 12, 3) := by decide +kernel
theorem d_M_pull_8 : decode c_M_pull 8 = .ok (.aload_n 0, 1) := by decide +kernel
theorem d_M_pull_9 : decode c_M_pull 9 = .ok (.getfield 7, 3) := by decide +kernel
theorem d_M_pull_12 : decode c_M_pull 12 = .ok (.iload_n 1, 1) := by decide +kernel
theorem d_M_pull_13 : decode c_M_pull 13 = .ok (.baload, 1) := by decide +kernel
theorem d_M_pull_14 : decode c_M_pull 14 = .ok (.ifCond .ne 5, 3) := by decide +kernel
theorem d_M_pull_17 : decode c_M_pull 17 = .ok (.iconst 0, 1) := by decide +kernel
theorem d_M_pull_18 : decode c_M_pull 18 = .ok (.ireturn, 1) := by decide +kernel
theorem d_M_pull_19 : decode c_M_pull 19 = .ok (.aload_n 0, 1) := by decide +kernel
theorem d_M_pull_20 : decode c_M_pull 20 = .ok (.getfield 7, 3) := by decide +kernel
theorem d_M_pull_23 : decode c_M_pull 23 = .ok (.iload_n 1, 1) := by decide +kernel
theorem d_M_pull_24 : decode c_M_pull 24 = .ok (.iconst 0, 1) := by decide +kernel
theorem d_M_pull_25 : decode c_M_pull 25 = .ok (.bastore, 1) := by decide +kernel
theorem d_M_pull_26 : decode c_M_pull 26 = .ok (.iconst 1, 1) := by decide +kernel
theorem d_M_pull_27 : decode c_M_pull 27 = .ok (.ireturn, 1) := by decide +kernel
theorem d_M_isDisk_0 : decode c_M_isDisk 0 = .ok (.iload_n 1, 1) := by decide +kernel
theorem d_M_isDisk_1 : decode c_M_isDisk 1 = .ok (.ifCond .lt 15, 3) := by decide +kernel
theorem d_M_isDisk_4 : decode c_M_isDisk 4 = .ok (.iload_n 1, 1) := by decide +kernel
theorem d_M_isDisk_5 : decode c_M_isDisk 5 = .ok (.aload_n 0, 1) := by decide +kernel
theorem d_M_isDisk_6 : decode c_M_isDisk 6 = .ok (.getfield 29, 3) := by decide +kernel
theorem d_M_isDisk_9 : decode c_M_isDisk 9 = .ok (.if_icmp .ge 7, 3) := by decide +kernel
theorem d_M_isDisk_12 : decode c_M_isDisk 12 = .ok (.iconst 1, 1) := by decide +kernel
theorem d_M_isDisk_13 : decode c_M_isDisk 13 = .ok (.goto 4, 3) := by decide +kernel
theorem d_M_isDisk_16 : decode c_M_isDisk 16 = .ok (.iconst 0, 1) := by decide +kernel
theorem d_M_isDisk_17 : decode c_M_isDisk 17 = .ok (.ireturn, 1) := by decide +kernel
theorem d_M_plug_0 : decode c_M_plug 0 = .ok (.aload_n 0, 1) := by decide +kernel
theorem d_M_plug_1 : decode c_M_plug 1 = .ok (.iload_n 1, 1) := by decide +kernel
theorem d_M_plug_2 : decode c_M_plug 2 = .ok (.invokevirtual 148, 3) := by decide +kernel
theorem d_M_plug_5 : decode c_M_plug 5 = .ok (.ifCond .eq 12, 3) := by decide +kernel
theorem d_M_plug_8 : decode c_M_plug 8 = .ok (.aload_n 0, 1) := by decide +kernel
theorem d_M_plug_9 : decode c_M_plug 9 = .ok (.getfield 7, 3) := by decide +kernel
theorem d_M_plug_12 : decode c_M_plug 12 = .ok (.iload_n 1, 1) := by decide +kernel
theorem d_M_plug_13 : decode c_M_plug 13 = .ok (.baload, 1) := by decide +kernel
theorem d_M_plug_14 : decode c_M_plug 14 = .ok (.ifCond .eq 5, 3) := by decide +kernel
theorem d_M_plug_17 : decode c_M_plug 17 = .ok (.iconst 0, 1) := by decide +kernel
theorem d_M_plug_18 : decode c_M_plug 18 = .ok (.ireturn, 1) := by decide +kernel
theorem d_M_plug_19 : decode c_M_plug 19 = .ok (.aload_n 0, 1) := by decide +kernel
theorem d_M_plug_20 : decode c_M_plug 20 = .ok (.getfield 7, 3) := by decide +kernel
theorem d_M_plug_23 : decode c_M_plug 23 = .ok (.iload_n 1, 1) := by decide +kernel
theorem d_M_plug_24 : decode c_M_plug 24 = .ok (.iconst 1, 1) := by decide +kernel
theorem d_M_plug_25 : decode c_M_plug 25 = .ok (.bastore, 1) := by decide +kernel
theorem d_M_plug_26 : decode c_M_plug 26 = .ok (.iconst 1, 1) := by decide +kernel
theorem d_M_plug_27 : decode c_M_plug 27 = .ok (.ireturn, 1) := by decide +kernel
theorem d_M_arm_0 : decode c_M_arm 0 = .ok (.iload_n 1, 1) := by decide +kernel
theorem d_M_arm_1 : decode c_M_arm 1 = .ok (.ifCond .lt 9, 3) := by decide +kernel
theorem d_M_arm_4 : decode c_M_arm 4 = .ok (.iload_n 1, 1) := by decide +kernel
theorem d_M_arm_5 : decode c_M_arm 5 = .ok (.bipush 100, 2) := by decide +kernel
theorem d_M_arm_7 : decode c_M_arm 7 = .ok (.if_icmp .le 5, 3) := by decide +kernel
theorem d_M_arm_10 : decode c_M_arm 10 = .ok (.iconst 0, 1) := by decide +kernel
theorem d_M_arm_11 : decode c_M_arm 11 = .ok (.ireturn, 1) := by decide +kernel
theorem d_M_arm_12 : decode c_M_arm 12 = .ok (.aload_n 0, 1) := by decide +kernel
theorem d_M_arm_13 : decode c_M_arm 13 = .ok (.iconst 1, 1) := by decide +kernel
theorem d_M_arm_14 : decode c_M_arm 14 = .ok (.putfield 80, 3) := by decide +kernel
theorem d_M_arm_17 : decode c_M_arm 17 = .ok (.aload_n 0, 1) := by decide +kernel
theorem d_M_arm_18 : decode c_M_arm 18 = .ok (.iload_n 1, 1) := by decide +kernel
theorem d_M_arm_19 : decode c_M_arm 19 = .ok (.putfield 83, 3) := by decide +kernel
theorem d_M_arm_22 : decode c_M_arm 22 = .ok (.iconst 1, 1) := by decide +kernel
theorem d_M_arm_23 : decode c_M_arm 23 = .ok (.ireturn, 1) := by decide +kernel
theorem d_M_crash_0 : decode c_M_crash 0 = .ok (.aload_n 0, 1) := by decide +kernel
theorem d_M_crash_1 : decode c_M_crash 1 = .ok (.getfield 45, 3) := by decide +kernel
theorem d_M_crash_4 : decode c_M_crash 4 = .ok (.ifCond .ne 5, 3) := by decide +kernel
theorem d_M_crash_7 : decode c_M_crash 7 = .ok (.iconst 0, 1) := by decide +kernel
theorem d_M_crash_8 : decode c_M_crash 8 = .ok (.ireturn, 1) := by decide +kernel
theorem d_M_crash_9 : decode c_M_crash 9 = .ok (.aload_n 0, 1) := by decide +kernel
theorem d_M_crash_10 : decode c_M_crash 10 = .ok (.iconst 0, 1) := by decide +kernel
theorem d_M_crash_11 : decode c_M_crash 11 = .ok (.putfield 45, 3) := by decide +kernel
theorem d_M_crash_14 : decode c_M_crash 14 = .ok (.aload_n 0, 1) := by decide +kernel
theorem d_M_crash_15 : decode c_M_crash 15 = .ok (.iconst 0, 1) := by decide +kernel
theorem d_M_crash_16 : decode c_M_crash 16 = .ok (.putfield 80, 3) := by decide +kernel
theorem d_M_crash_19 : decode c_M_crash 19 = .ok (.iconst 1, 1) := by decide +kernel
theorem d_M_crash_20 : decode c_M_crash 20 = .ok (.ireturn, 1) := by decide +kernel
theorem d_M_activate_0 : decode c_M_activate 0 = .ok (.aload_n 0, 1) := by decide +kernel
theorem d_M_activate_1 : decode c_M_activate 1 = .ok (.getfield 45, 3) := by decide +kernel
theorem d_M_activate_4 : decode c_M_activate 4 = .ok (.ifCond .eq 6, 3) := by decide +kernel
theorem d_M_activate_7 : decode c_M_activate 7 = .ok (.bipush (-9), 2) := by decide +kernel
theorem d_M_activate_9 : decode c_M_activate 9 = .ok (.ireturn, 1) := by decide +kernel
theorem d_M_activate_10 : decode c_M_activate 10 = .ok (.aload_n 0, 1) := by decide +kernel
theorem d_M_activate_11 : decode c_M_activate 11 = .ok (.invokevirtual 155, 3) := by decide +kernel
theorem d_M_activate_14 : decode c_M_activate 14 = .ok (.istore_n 1, 1) := by decide +kernel
theorem d_M_activate_15 : decode c_M_activate 15 = .ok (.iload_n 1, 1) := by decide +kernel
theorem d_M_activate_16 : decode c_M_activate 16 = .ok (.ifCond .ge 6, 3) := by decide +kernel
theorem d_M_activate_19 : decode c_M_activate 19 = .ok (.bipush (-3), 2) := by decide +kernel
theorem d_M_activate_21 : decode c_M_activate 21 = .ok (.ireturn, 1) := by decide +kernel
theorem d_M_activate_22 : decode c_M_activate 22 = .ok (.aload_n 0, 1) := by decide +kernel
theorem d_M_activate_23 : decode c_M_activate 23 = .ok (.getfield 20, 3) := by decide +kernel
theorem d_M_activate_26 : decode c_M_activate 26 = .ok (.iload_n 1, 1) := by decide +kernel
theorem d_M_activate_27 : decode c_M_activate 27 = .ok (.iaload, 1) := by decide +kernel
theorem d_M_activate_28 : decode c_M_activate 28 = .ok (.istore_n 2, 1) := by decide +kernel
theorem d_M_activate_29 : decode c_M_activate 29 = .ok (.aload_n 0, 1) := by decide +kernel
theorem d_M_activate_30 : decode c_M_activate 30 = .ok (.getfield 23, 3) := by decide +kernel
theorem d_M_activate_33 : decode c_M_activate 33 = .ok (.iload_n 1, 1) := by decide +kernel
theorem d_M_activate_34 : decode c_M_activate 34 = .ok (.iaload, 1) := by decide +kernel
theorem d_M_activate_35 : decode c_M_activate 35 = .ok (.istore_n 3, 1) := by decide +kernel
theorem d_M_activate_36 : decode c_M_activate 36 = .ok (.aload_n 0, 1) := by decide +kernel
theorem d_M_activate_37 : decode c_M_activate 37 = .ok (.iload_n 1, 1) := by decide +kernel
theorem d_M_activate_38 : decode c_M_activate 38 = .ok (.bipush 16, 2) := by decide +kernel
theorem d_M_activate_40 : decode c_M_activate 40 = .ok (.invokevirtual 90, 3) := by decide +kernel
theorem d_M_activate_43 : decode c_M_activate 43 = .ok (.iconst 0, 1) := by decide +kernel
theorem d_M_activate_44 : decode c_M_activate 44 = .ok (.istore 4, 2) := by decide +kernel
theorem d_M_activate_46 : decode c_M_activate 46 = .ok (.iload 4, 2) := by decide +kernel
theorem d_M_activate_48 : decode c_M_activate 48 = .ok (.aload_n 0, 1) := by decide +kernel
theorem d_M_activate_49 : decode c_M_activate 49 = .ok (.getfield 29, 3) := by decide +kernel
theorem d_M_activate_52 : decode c_M_activate 52 = .ok (.if_icmp .ge 33, 3) := by decide +kernel
theorem d_M_activate_55 : decode c_M_activate 55 = .ok (.aload_n 0, 1) := by decide +kernel
theorem d_M_activate_56 : decode c_M_activate 56 = .ok (.getfield 7, 3) := by decide +kernel
theorem d_M_activate_59 : decode c_M_activate 59 = .ok (.iload 4, 2) := by decide +kernel
theorem d_M_activate_61 : decode c_M_activate 61 = .ok (.baload, 1) := by decide +kernel
theorem d_M_activate_62 : decode c_M_activate 62 = .ok (.ifCond .eq 17, 3) := by decide +kernel
theorem d_M_activate_65 : decode c_M_activate 65 = .ok (.aload_n 0, 1) := by decide +kernel
theorem d_M_activate_66 : decode c_M_activate 66 = .ok (.iload 4, 2) := by decide +kernel
theorem d_M_activate_68 : decode c_M_activate 68 = .ok (.iload_n 2, 1) := by decide +kernel
theorem d_M_activate_69 : decode c_M_activate 69 = .ok (.iload_n 3, 1) := by decide +kernel
theorem d_M_activate_70 : decode c_M_activate 70 = .ok (.invokevirtual 158, 3) := by decide +kernel
theorem d_M_activate_73 : decode c_M_activate 73 = .ok (.ifCond .ne 6, 3) := by decide +kernel
theorem d_M_activate_76 : decode c_M_activate 76 = .ok (.bipush (-7), 2) := by decide +kernel
theorem d_M_activate_78 : decode c_M_activate 78 = .ok (.ireturn, 1) := by decide +kernel
theorem d_M_activate_79 : decode c_M_activate 79 = .ok (.iinc 4 1, 3) := by decide +kernel
theorem d_M_activate_82 : decode c_M_activate 82 = .ok (.goto (-36), 3) := by decide +kernel
theorem d_M_activate_85 : decode c_M_activate 85 = .ok (.aload_n 0, 1) := by decide +kernel
theorem d_M_activate_86 : decode c_M_activate 86 = .ok (.bipush 16, 2) := by decide +kernel
theorem d_M_activate_88 : decode c_M_activate 88 = .ok (.bipush 15, 2) := by decide +kernel
theorem d_M_activate_90 : decode c_M_activate 90 = .ok (.invokevirtual 90, 3) := by decide +kernel
theorem d_M_activate_93 : decode c_M_activate 93 = .ok (.aload_n 0, 1) := by decide +kernel
theorem d_M_activate_94 : decode c_M_activate 94 = .ok (.iload_n 2, 1) := by decide +kernel
theorem d_M_activate_95 : decode c_M_activate 95 = .ok (.putfield 36, 3) := by decide +kernel
theorem d_M_activate_98 : decode c_M_activate 98 = .ok (.aload_n 0, 1) := by decide +kernel
theorem d_M_activate_99 : decode c_M_activate 99 = .ok (.iload_n 3, 1) := by decide +kernel
theorem d_M_activate_100 : decode c_M_activate 100 = .ok (.putfield 39, 3) := by decide +kernel
theorem d_M_activate_103 : decode c_M_activate 103 = .ok (.aload_n 0, 1) := by decide +kernel
theorem d_M_activate_104 : decode c_M_activate 104 = .ok (.iconst 0, 1) := by decide +kernel
theorem d_M_activate_105 : decode c_M_activate 105 = .ok (.putfield 126, 3) := by decide +kernel
theorem d_M_activate_108 : decode c_M_activate 108 = .ok (.aload_n 0, 1) := by decide +kernel
theorem d_M_activate_109 : decode c_M_activate 109 = .ok (.iconst 1, 1) := by decide +kernel
theorem d_M_activate_110 : decode c_M_activate 110 = .ok (.putfield 45, 3) := by decide +kernel
theorem d_M_activate_113 : decode c_M_activate 113 = .ok (.iload_n 2, 1) := by decide +kernel
theorem d_M_activate_114 : decode c_M_activate 114 = .ok (.ireturn, 1) := by decide +kernel
theorem d_M_choose_0 : decode c_M_choose 0 = .ok (.iconst (-1), 1) := by decide +kernel
theorem d_M_choose_1 : decode c_M_choose 1 = .ok (.istore_n 1, 1) := by decide +kernel
theorem d_M_choose_2 : decode c_M_choose 2 = .ok (.iconst 0, 1) := by decide +kernel
theorem d_M_choose_3 : decode c_M_choose 3 = .ok (.istore_n 2, 1) := by decide +kernel
theorem d_M_choose_4 : decode c_M_choose 4 = .ok (.iload_n 2, 1) := by decide +kernel
theorem d_M_choose_5 : decode c_M_choose 5 = .ok (.iconst 3, 1) := by decide +kernel
theorem d_M_choose_6 : decode c_M_choose 6 = .ok (.aload_n 0, 1) := by decide +kernel
theorem d_M_choose_7 : decode c_M_choose 7 = .ok (.getfield 29, 3) := by decide +kernel
theorem d_M_choose_10 : decode c_M_choose 10 = .ok (.imul, 1) := by decide +kernel
theorem d_M_choose_11 : decode c_M_choose 11 = .ok (.if_icmp .ge 129, 3) := by decide +kernel
theorem d_M_choose_14 : decode c_M_choose 14 = .ok (.iconst 0, 1) := by decide +kernel
theorem d_M_choose_15 : decode c_M_choose 15 = .ok (.istore_n 3, 1) := by decide +kernel
theorem d_M_choose_16 : decode c_M_choose 16 = .ok (.iconst 0, 1) := by decide +kernel
theorem d_M_choose_17 : decode c_M_choose 17 = .ok (.istore 4, 2) := by decide +kernel
theorem d_M_choose_19 : decode c_M_choose 19 = .ok (.iload 4, 2) := by decide +kernel
theorem d_M_choose_21 : decode c_M_choose 21 = .ok (.aload_n 0, 1) := by decide +kernel
theorem d_M_choose_22 : decode c_M_choose 22 = .ok (.getfield 29, 3) := by decide +kernel
theorem d_M_choose_25 : decode c_M_choose 25 = .ok (.if_icmp .ge 48, 3) := by decide +kernel
theorem d_M_choose_28 : decode c_M_choose 28 = .ok (.iload_n 3, 1) := by decide +kernel
theorem d_M_choose_29 : decode c_M_choose 29 = .ok (.aload_n 0, 1) := by decide +kernel
theorem d_M_choose_30 : decode c_M_choose 30 = .ok (.getfield 7, 3) := by decide +kernel
theorem d_M_choose_33 : decode c_M_choose 33 = .ok (.iload 4, 2) := by decide +kernel
theorem d_M_choose_35 : decode c_M_choose 35 = .ok (.baload, 1) := by decide +kernel
theorem d_M_choose_36 : decode c_M_choose 36 = .ok (.ifCond .eq 28, 3) := by decide +kernel
theorem d_M_choose_39 : decode c_M_choose 39 = .ok (.aload_n 0, 1) := by decide +kernel
theorem d_M_choose_40 : decode c_M_choose 40 = .ok (.iload 4, 2) := by decide +kernel
theorem d_M_choose_42 : decode c_M_choose 42 = .ok (.aload_n 0, 1) := by decide +kernel
theorem d_M_choose_43 : decode c_M_choose 43 = .ok (.getfield 20, 3) := by decide +kernel
theorem d_M_choose_46 : decode c_M_choose 46 = .ok (.iload_n 2, 1) := by decide +kernel
theorem d_M_choose_47 : decode c_M_choose 47 = .ok (.iaload, 1) := by decide +kernel
theorem d_M_choose_48 : decode c_M_choose 48 = .ok (.aload_n 0, 1) := by decide +kernel
theorem d_M_choose_49 : decode c_M_choose 49 = .ok (.getfield 23, 3) := by decide +kernel
theorem d_M_choose_52 : decode c_M_choose 52 = .ok (.iload_n 2, 1) := by decide +kernel
theorem d_M_choose_53 : decode c_M_choose 53 = .ok (.iaload, 1) := by decide +kernel
theorem d_M_choose_54 : decode c_M_choose 54 = .ok (.invokevirtual 151, 3) := by decide +kernel
theorem d_M_choose_57 : decode c_M_choose 57 = .ok (.ifCond .eq 7, 3) := by decide +kernel
theorem d_M_choose_60 : decode c_M_choose 60 = .ok (.iconst 1, 1) := by decide +kernel
theorem d_M_choose_61 : decode c_M_choose 61 = .ok (.goto 4, 3) := by decide +kernel
theorem d_M_choose_64 : decode c_M_choose 64 = .ok (.iconst 0, 1) := by decide +kernel
theorem d_M_choose_65 : decode c_M_choose 65 = .ok (.iadd, 1) := by decide +kernel
theorem d_M_choose_66 : decode c_M_choose 66 = .ok (.istore_n 3, 1) := by decide +kernel
theorem d_M_choose_67 : decode c_M_choose 67 = .ok (.iinc 4 1, 3) := by decide +kernel
theorem d_M_choose_70 : decode c_M_choose 70 = .ok (.goto (-51), 3) := by decide +kernel
theorem d_M_choose_73 : decode c_M_choose 73 = .ok (.aload_n 0, 1) := by decide +kernel
theorem d_M_choose_74 : decode c_M_choose 74 = .ok (.getfield 7, 3) := by decide +kernel
theorem d_M_choose_77 : decode c_M_choose 77 = .ok (.iload_n 2, 1) := by decide +kernel
theorem d_M_choose_78 : decode c_M_choose 78 = .ok (.iconst 3, 1) := by decide +kernel
theorem d_M_choose_79 : decode c_M_choose 79 = .ok (.idiv, 1) := by decide +kernel
theorem d_M_choose_80 : decode c_M_choose 80 = .ok (.baload, 1) := by decide +kernel
theorem d_M_choose_81 : decode c_M_choose 81 = .ok (.ifCond .eq 24, 3) := by decide +kernel
theorem d_M_choose_84 : decode c_M_choose 84 = .ok (.aload_n 0, 1) := by decide +kernel
theorem d_M_choose_85 : decode c_M_choose 85 = .ok (.getfield 20, 3) := by decide +kernel
theorem d_M_choose_88 : decode c_M_choose 88 = .ok (.iload_n 2, 1) := by decide +kernel
theorem d_M_choose_89 : decode c_M_choose 89 = .ok (.iaload, 1) := by decide +kernel
theorem d_M_choose_90 : decode c_M_choose 90 = .ok (.ifCond .le 15, 3) := by decide +kernel
theorem d_M_choose_93 : decode c_M_choose 93 = .ok (.aload_n 0, 1) := by decide +kernel
theorem d_M_choose_94 : decode c_M_choose 94 = .ok (.iload_n 3, 1) := by decide +kernel
theorem d_M_choose_95 : decode c_M_choose 95 = .ok (.invokevirtual 104, 3) := by decide +kernel
theorem d_M_choose_98 : decode c_M_choose 98 = .ok (.ifCond .eq 7, 3) := by decide +kernel
theorem d_M_choose_101 : decode c_M_choose 101 = .ok (.iconst 1, 1) := by decide +kernel
theorem d_M_choose_102 : decode c_M_choose 102 = .ok (.goto 4, 3) := by decide +kernel
theorem d_M_choose_105 : decode c_M_choose 105 = .ok (.iconst 0, 1) := by decide +kernel
theorem d_M_choose_106 : decode c_M_choose 106 = .ok (.istore 4, 2) := by decide +kernel
theorem d_M_choose_108 : decode c_M_choose 108 = .ok (.iload 4, 2) := by decide +kernel
theorem d_M_choose_110 : decode c_M_choose 110 = .ok (.ifCond .eq 24, 3) := by decide +kernel
theorem d_M_choose_113 : decode c_M_choose 113 = .ok (.iload_n 1, 1) := by decide +kernel
theorem d_M_choose_114 : decode c_M_choose 114 = .ok (.ifCond .lt 18, 3) := by decide +kernel
theorem d_M_choose_117 : decode c_M_choose 117 = .ok (.aload_n 0, 1) := by decide +kernel
theorem d_M_choose_118 : decode c_M_choose 118 = .ok (.getfield 20, 3) := by decide +kernel
theorem d_M_choose_121 : decode c_M_choose 121 = .ok (.iload_n 2, 1) := by decide +kernel
theorem d_M_choose_122 : decode c_M_choose 122 = .ok (.iaload, 1) := by decide +kernel
theorem d_M_choose_123 : decode c_M_choose 123 = .ok (.aload_n 0, 1) := by decide +kernel
theorem d_M_choose_124 : decode c_M_choose 124 = .ok (.getfield 20, 3) := by decide +kernel
theorem d_M_choose_127 : decode c_M_choose 127 = .ok (.iload_n 1, 1) := by decide +kernel
theorem d_M_choose_128 : decode c_M_choose 128 = .ok (.iaload, 1) := by decide +kernel
theorem d_M_choose_129 : decode c_M_choose 129 = .ok (.if_icmp .le 5, 3) := by decide +kernel
theorem d_M_choose_132 : decode c_M_choose 132 = .ok (.iload_n 2, 1) := by decide +kernel
theorem d_M_choose_133 : decode c_M_choose 133 = .ok (.istore_n 1, 1) := by decide +kernel
theorem d_M_choose_134 : decode c_M_choose 134 = .ok (.iinc 2 1, 3) := by decide +kernel
theorem d_M_choose_137 : decode c_M_choose 137 = .ok (.goto (-133), 3) := by decide +kernel
theorem d_M_choose_140 : decode c_M_choose 140 = .ok (.iload_n 1, 1) := by decide +kernel
theorem d_M_choose_141 : decode c_M_choose 141 = .ok (.ireturn, 1) := by decide +kernel
theorem d_M_holds_0 : decode c_M_holds 0 = .ok (.iconst 0, 1) := by decide +kernel
theorem d_M_holds_1 : decode c_M_holds 1 = .ok (.istore 4, 2) := by decide +kernel
theorem d_M_holds_3 : decode c_M_holds 3 = .ok (.iconst 3, 1) := by decide +kernel
theorem d_M_holds_4 : decode c_M_holds 4 = .ok (.iload_n 1, 1) := by decide +kernel
theorem d_M_holds_5 : decode c_M_holds 5 = .ok (.imul, 1) := by decide +kernel
theorem d_M_holds_6 : decode c_M_holds 6 = .ok (.istore 5, 2) := by decide +kernel
theorem d_M_holds_8 : decode c_M_holds 8 = .ok (.iload 5, 2) := by decide +kernel
theorem d_M_holds_10 : decode c_M_holds 10 = .ok (.iconst 3, 1) := by decide +kernel
theorem d_M_holds_11 : decode c_M_holds 11 = .ok (.iload_n 1, 1) := by decide +kernel
theorem d_M_holds_12 : decode c_M_holds 12 = .ok (.imul, 1) := by decide +kernel
theorem d_M_holds_13 : decode c_M_holds 13 = .ok (.iconst 3, 1) := by decide +kernel
theorem d_M_holds_14 : decode c_M_holds 14 = .ok (.iadd, 1) := by decide +kernel
theorem d_M_holds_15 : decode c_M_holds 15 = .ok (.if_icmp .ge 43, 3) := by decide +kernel
theorem d_M_holds_18 : decode c_M_holds 18 = .ok (.iload 4, 2) := by decide +kernel
theorem d_M_holds_20 : decode c_M_holds 20 = .ok (.ifCond .ne 25, 3) := by decide +kernel
theorem d_M_holds_23 : decode c_M_holds 23 = .ok (.aload_n 0, 1) := by decide +kernel
theorem d_M_holds_24 : decode c_M_holds 24 = .ok (.getfield 20, 3) := by decide +kernel
theorem d_M_holds_27 : decode c_M_holds 27 = .ok (.iload 5, 2) := by decide +kernel
theorem d_M_holds_29 : decode c_M_holds 29 = .ok (.iaload, 1) := by decide +kernel
theorem d_M_holds_30 : decode c_M_holds 30 = .ok (.iload_n 2, 1) := by decide +kernel
theorem d_M_holds_31 : decode c_M_holds 31 = .ok (.if_icmp .ne 18, 3) := by decide +kernel
theorem d_M_holds_34 : decode c_M_holds 34 = .ok (.aload_n 0, 1) := by decide +kernel
theorem d_M_holds_35 : decode c_M_holds 35 = .ok (.getfield 23, 3) := by decide +kernel
theorem d_M_holds_38 : decode c_M_holds 38 = .ok (.iload 5, 2) := by decide +kernel
theorem d_M_holds_40 : decode c_M_holds 40 = .ok (.iaload, 1) := by decide +kernel
theorem d_M_holds_41 : decode c_M_holds 41 = .ok (.iload_n 3, 1) := by decide +kernel
theorem d_M_holds_42 : decode c_M_holds 42 = .ok (.if_icmp .ne 7, 3) := by decide +kernel
theorem d_M_holds_45 : decode c_M_holds 45 = .ok (.iconst 1, 1) := by decide +kernel
theorem d_M_holds_46 : decode c_M_holds 46 = .ok (.goto 4, 3) := by decide +kernel
theorem d_M_holds_49 : decode c_M_holds 49 = .ok (.iconst 0, 1) := by decide +kernel
theorem d_M_holds_50 : decode c_M_holds 50 = .ok (.istore 4, 2) := by decide +kernel
theorem d_M_holds_52 : decode c_M_holds 52 = .ok (.iinc 5 1, 3) := by decide +kernel
theorem d_M_holds_55 : decode c_M_holds 55 = .ok (.goto (-47), 3) := by decide +kernel
theorem d_M_holds_58 : decode c_M_holds 58 = .ok (.iload 4, 2) := by decide +kernel
theorem d_M_holds_60 : decode c_M_holds 60 = .ok (.ireturn, 1) := by decide +kernel
theorem d_M_settle_0 : decode c_M_settle 0 = .ok (.iconst 3, 1) := by decide +kernel
theorem d_M_settle_1 : decode c_M_settle 1 = .ok (.iload_n 1, 1) := by decide +kernel
theorem d_M_settle_2 : decode c_M_settle 2 = .ok (.imul, 1) := by decide +kernel
theorem d_M_settle_3 : decode c_M_settle 3 = .ok (.istore 4, 2) := by decide +kernel
theorem d_M_settle_5 : decode c_M_settle 5 = .ok (.iload 4, 2) := by decide +kernel
theorem d_M_settle_7 : decode c_M_settle 7 = .ok (.iconst 3, 1) := by decide +kernel
theorem d_M_settle_8 : decode c_M_settle 8 = .ok (.iload_n 1, 1) := by decide +kernel
theorem d_M_settle_9 : decode c_M_settle 9 = .ok (.imul, 1) := by decide +kernel
theorem d_M_settle_10 : decode c_M_settle 10 = .ok (.iconst 3, 1) := by decide +kernel
theorem d_M_settle_11 : decode c_M_settle 11 = .ok (.iadd, 1) := by decide +kernel
theorem d_M_settle_12 : decode c_M_settle 12 = .ok (.if_icmp .ge 45, 3) := by decide +kernel
theorem d_M_settle_15 : decode c_M_settle 15 = .ok (.aload_n 0, 1) := by decide +kernel
theorem d_M_settle_16 : decode c_M_settle 16 = .ok (.getfield 20, 3) := by decide +kernel
theorem d_M_settle_19 : decode c_M_settle 19 = .ok (.iload 4, 2) := by decide +kernel
theorem d_M_settle_21 : decode c_M_settle 21 = .ok (.iaload, 1) := by decide +kernel
theorem d_M_settle_22 : decode c_M_settle 22 = .ok (.iload_n 2, 1) := by decide +kernel
theorem d_M_settle_23 : decode c_M_settle 23 = .ok (.if_icmp .le 28, 3) := by decide +kernel
theorem d_M_settle_26 : decode c_M_settle 26 = .ok (.aload_n 0, 1) := by decide +kernel
theorem d_M_settle_27 : decode c_M_settle 27 = .ok (.invokevirtual 86, 3) := by decide +kernel
theorem d_M_settle_30 : decode c_M_settle 30 = .ok (.ifCond .eq 5, 3) := by decide +kernel
theorem d_M_settle_33 : decode c_M_settle 33 = .ok (.iconst 0, 1) := by decide +kernel
theorem d_M_settle_34 : decode c_M_settle 34 = .ok (.ireturn, 1) := by decide +kernel
theorem d_M_settle_35 : decode c_M_settle 35 = .ok (.aload_n 0, 1) := by decide +kernel
theorem d_M_settle_36 : decode c_M_settle 36 = .ok (.getfield 20, 3) := by decide +kernel
theorem d_M_settle_39 : decode c_M_settle 39 = .ok (.iload 4, 2) := by decide +kernel
theorem d_M_settle_41 : decode c_M_settle 41 = .ok (.iconst 0, 1) := by decide +kernel
theorem d_M_settle_42 : decode c_M_settle 42 = .ok (.iastore, 1) := by decide +kernel
theorem d_M_settle_43 : decode c_M_settle 43 = .ok (.aload_n 0, 1) := by decide +kernel
theorem d_M_settle_44 : decode c_M_settle 44 = .ok (.getfield 23, 3) := by decide +kernel
theorem d_M_settle_47 : decode c_M_settle 47 = .ok (.iload 4, 2) := by decide +kernel
theorem d_M_settle_49 : decode c_M_settle 49 = .ok (.iconst 0, 1) := by decide +kernel
theorem d_M_settle_50 : decode c_M_settle 50 = .ok (.iastore, 1) := by decide +kernel
theorem d_M_settle_51 : decode c_M_settle 51 = .ok (.iinc 4 1, 3) := by decide +kernel
theorem d_M_settle_54 : decode c_M_settle 54 = .ok (.goto (-49), 3) := by decide +kernel
theorem d_M_settle_57 : decode c_M_settle 57 = .ok (.aload_n 0, 1) := by decide +kernel
theorem d_M_settle_58 : decode c_M_settle 58 = .ok (.iload_n 1, 1) := by decide +kernel
theorem d_M_settle_59 : decode c_M_settle 59 = .ok (.iload_n 2, 1) := by decide +kernel
theorem d_M_settle_60 : decode c_M_settle 60 = .ok (.iload_n 3, 1) := by decide +kernel
theorem d_M_settle_61 : decode c_M_settle 61 = .ok (.invokevirtual 151, 3) := by decide +kernel
theorem d_M_settle_64 : decode c_M_settle 64 = .ok (.ifCond .ne 19, 3) := by decide +kernel
theorem d_M_settle_67 : decode c_M_settle 67 = .ok (.aload_n 0, 1) := by decide +kernel
theorem d_M_settle_68 : decode c_M_settle 68 = .ok (.aload_n 0, 1) := by decide +kernel
theorem d_M_settle_69 : decode c_M_settle 69 = .ok (.iload_n 1, 1) := by decide +kernel
theorem d_M_settle_70 : decode c_M_settle 70 = .ok (.invokevirtual 94, 3) := by decide +kernel
theorem d_M_settle_73 : decode c_M_settle 73 = .ok (.bipush 16, 2) := by decide +kernel
theorem d_M_settle_75 : decode c_M_settle 75 = .ok (.iload_n 2, 1) := by decide +kernel
theorem d_M_settle_76 : decode c_M_settle 76 = .ok (.iload_n 3, 1) := by decide +kernel
theorem d_M_settle_77 : decode c_M_settle 77 = .ok (.invokevirtual 100, 3) := by decide +kernel
theorem d_M_settle_80 : decode c_M_settle 80 = .ok (.ifCond .eq 7, 3) := by decide +kernel
theorem d_M_settle_83 : decode c_M_settle 83 = .ok (.iconst 1, 1) := by decide +kernel
theorem d_M_settle_84 : decode c_M_settle 84 = .ok (.goto 4, 3) := by decide +kernel
theorem d_M_settle_87 : decode c_M_settle 87 = .ok (.iconst 0, 1) := by decide +kernel
theorem d_M_settle_88 : decode c_M_settle 88 = .ok (.ireturn, 1) := by decide +kernel
theorem d_M_where_0 : decode c_M_where 0 = .ok (.aload_n 0, 1) := by decide +kernel
theorem d_M_where_1 : decode c_M_where 1 = .ok (.getfield 45, 3) := by decide +kernel
theorem d_M_where_4 : decode c_M_where 4 = .ok (.ifCond .ne 6, 3) := by decide +kernel
theorem d_M_where_7 : decode c_M_where 7 = .ok (.bipush (-2), 2) := by decide +kernel
theorem d_M_where_9 : decode c_M_where 9 = .ok (.ireturn, 1) := by decide +kernel
theorem d_M_where_10 : decode c_M_where 10 = .ok (.aload_n 0, 1) := by decide +kernel
theorem d_M_where_11 : decode c_M_where 11 = .ok (.iload_n 1, 1) := by decide +kernel
theorem d_M_where_12 : decode c_M_where 12 = .ok (.iload_n 2, 1) := by decide +kernel
theorem d_M_where_13 : decode c_M_where 13 = .ok (.invokevirtual 123, 3) := by decide +kernel
theorem d_M_where_16 : decode c_M_where 16 = .ok (.ifCond .eq 20, 3) := by decide +kernel
theorem d_M_where_19 : decode c_M_where 19 = .ok (.aload_n 0, 1) := by decide +kernel
theorem d_M_where_20 : decode c_M_where 20 = .ok (.bipush 15, 2) := by decide +kernel
theorem d_M_where_22 : decode c_M_where 22 = .ok (.bipush 15, 2) := by decide +kernel
theorem d_M_where_24 : decode c_M_where 24 = .ok (.iload_n 1, 1) := by decide +kernel
theorem d_M_where_25 : decode c_M_where 25 = .ok (.imul, 1) := by decide +kernel
theorem d_M_where_26 : decode c_M_where 26 = .ok (.iconst 3, 1) := by decide +kernel
theorem d_M_where_27 : decode c_M_where 27 = .ok (.iadd, 1) := by decide +kernel
theorem d_M_where_28 : decode c_M_where 28 = .ok (.iload_n 2, 1) := by decide +kernel
theorem d_M_where_29 : decode c_M_where 29 = .ok (.iadd, 1) := by decide +kernel
theorem d_M_where_30 : decode c_M_where 30 = .ok (.invokevirtual 49, 3) := by decide +kernel
theorem d_M_where_33 : decode c_M_where 33 = .ok (.goto 4, 3) := by decide +kernel
theorem d_M_where_36 : decode c_M_where 36 = .ok (.iconst (-1), 1) := by decide +kernel
theorem d_M_where_37 : decode c_M_where 37 = .ok (.ireturn, 1) := by decide +kernel
theorem d_M_rows_0 : decode c_M_rows 0 = .ok (.aload_n 0, 1) := by decide +kernel
theorem d_M_rows_1 : decode c_M_rows 1 = .ok (.getfield 45, 3) := by decide +kernel
theorem d_M_rows_4 : decode c_M_rows 4 = .ok (.ifCond .ne 8, 3) := by decide +kernel
theorem d_M_rows_7 : decode c_M_rows 7 = .ok (.bipush (-2), 2) := by decide +kernel
theorem d_M_rows_9 : decode c_M_rows 9 = .ok (.goto 22, 3) := by decide +kernel
theorem d_M_rows_12 : decode c_M_rows 12 = .ok (.aload_n 0, 1) := by decide +kernel
theorem d_M_rows_13 : decode c_M_rows 13 = .ok (.iload_n 1, 1) := by decide +kernel
theorem d_M_rows_14 : decode c_M_rows 14 = .ok (.invokevirtual 117, 3) := by decide +kernel
theorem d_M_rows_17 : decode c_M_rows 17 = .ok (.ifCond .eq 13, 3) := by decide +kernel
theorem d_M_rows_20 : decode c_M_rows 20 = .ok (.aload_n 0, 1) := by decide +kernel
theorem d_M_rows_21 : decode c_M_rows 21 = .ok (.bipush 15, 2) := by decide +kernel
theorem d_M_rows_23 : decode c_M_rows 23 = .ok (.iload_n 1, 1) := by decide +kernel
theorem d_M_rows_24 : decode c_M_rows 24 = .ok (.invokevirtual 53, 3) := by decide +kernel
theorem d_M_rows_27 : decode c_M_rows 27 = .ok (.goto 4, 3) := by decide +kernel
theorem d_M_rows_30 : decode c_M_rows 30 = .ok (.iconst (-1), 1) := by decide +kernel
theorem d_M_rows_31 : decode c_M_rows 31 = .ok (.ireturn, 1) := by decide +kernel
theorem d_M_free_0 : decode c_M_free 0 = .ok (.aload_n 0, 1) := by decide +kernel
theorem d_M_free_1 : decode c_M_free 1 = .ok (.getfield 45, 3) := by decide +kernel
theorem d_M_free_4 : decode c_M_free 4 = .ok (.ifCond .ne 8, 3) := by decide +kernel
theorem d_M_free_7 : decode c_M_free 7 = .ok (.bipush (-2), 2) := by decide +kernel
theorem d_M_free_9 : decode c_M_free 9 = .ok (.goto 22, 3) := by decide +kernel
theorem d_M_free_12 : decode c_M_free 12 = .ok (.aload_n 0, 1) := by decide +kernel
theorem d_M_free_13 : decode c_M_free 13 = .ok (.iload_n 1, 1) := by decide +kernel
theorem d_M_free_14 : decode c_M_free 14 = .ok (.invokevirtual 148, 3) := by decide +kernel
theorem d_M_free_17 : decode c_M_free 17 = .ok (.ifCond .eq 13, 3) := by decide +kernel
theorem d_M_free_20 : decode c_M_free 20 = .ok (.aload_n 0, 1) := by decide +kernel
theorem d_M_free_21 : decode c_M_free 21 = .ok (.bipush 15, 2) := by decide +kernel
theorem d_M_free_23 : decode c_M_free 23 = .ok (.iload_n 1, 1) := by decide +kernel
theorem d_M_free_24 : decode c_M_free 24 = .ok (.invokevirtual 66, 3) := by decide +kernel
theorem d_M_free_27 : decode c_M_free 27 = .ok (.goto 4, 3) := by decide +kernel
theorem d_M_free_30 : decode c_M_free 30 = .ok (.iconst (-1), 1) := by decide +kernel
theorem d_M_free_31 : decode c_M_free 31 = .ok (.ireturn, 1) := by decide +kernel
theorem d_M_moving_0 : decode c_M_moving 0 = .ok (.aload_n 0, 1) := by decide +kernel
theorem d_M_moving_1 : decode c_M_moving 1 = .ok (.getfield 45, 3) := by decide +kernel
theorem d_M_moving_4 : decode c_M_moving 4 = .ok (.ifCond .ne 6, 3) := by decide +kernel
theorem d_M_moving_7 : decode c_M_moving 7 = .ok (.bipush (-2), 2) := by decide +kernel
theorem d_M_moving_9 : decode c_M_moving 9 = .ok (.ireturn, 1) := by decide +kernel
theorem d_M_moving_10 : decode c_M_moving 10 = .ok (.aload_n 0, 1) := by decide +kernel
theorem d_M_moving_11 : decode c_M_moving 11 = .ok (.bipush 15, 2) := by decide +kernel
theorem d_M_moving_13 : decode c_M_moving 13 = .ok (.bipush 60, 2) := by decide +kernel
theorem d_M_moving_15 : decode c_M_moving 15 = .ok (.invokevirtual 49, 3) := by decide +kernel
theorem d_M_moving_18 : decode c_M_moving 18 = .ok (.istore_n 1, 1) := by decide +kernel
theorem d_M_moving_19 : decode c_M_moving 19 = .ok (.iload_n 1, 1) := by decide +kernel
theorem d_M_moving_20 : decode c_M_moving 20 = .ok (.ifCond .ge 8, 3) := by decide +kernel
theorem d_M_moving_23 : decode c_M_moving 23 = .ok (.bipush (-8), 2) := by decide +kernel
theorem d_M_moving_25 : decode c_M_moving 25 = .ok (.goto 25, 3) := by decide +kernel
theorem d_M_moving_28 : decode c_M_moving 28 = .ok (.sipush 128, 3) := by decide +kernel
theorem d_M_moving_31 : decode c_M_moving 31 = .ok (.iload_n 1, 1) := by decide +kernel
theorem d_M_moving_32 : decode c_M_moving 32 = .ok (.imul, 1) := by decide +kernel
theorem d_M_moving_33 : decode c_M_moving 33 = .ok (.bipush 16, 2) := by decide +kernel
theorem d_M_moving_35 : decode c_M_moving 35 = .ok (.aload_n 0, 1) := by decide +kernel
theorem d_M_moving_36 : decode c_M_moving 36 = .ok (.getfield 126, 3) := by decide +kernel
theorem d_M_moving_39 : decode c_M_moving 39 = .ok (.imul, 1) := by decide +kernel
theorem d_M_moving_40 : decode c_M_moving 40 = .ok (.iadd, 1) := by decide +kernel
theorem d_M_moving_41 : decode c_M_moving 41 = .ok (.aload_n 0, 1) := by decide +kernel
theorem d_M_moving_42 : decode c_M_moving 42 = .ok (.bipush 15, 2) := by decide +kernel
theorem d_M_moving_44 : decode c_M_moving 44 = .ok (.bipush 61, 2) := by decide +kernel
theorem d_M_moving_46 : decode c_M_moving 46 = .ok (.invokevirtual 49, 3) := by decide +kernel
theorem d_M_moving_49 : decode c_M_moving 49 = .ok (.iadd, 1) := by decide +kernel
theorem d_M_moving_50 : decode c_M_moving 50 = .ok (.ireturn, 1) := by decide +kernel
theorem d_M_sequence_0 : decode c_M_sequence 0 = .ok (.aload_n 0, 1) := by decide +kernel
theorem d_M_sequence_1 : decode c_M_sequence 1 = .ok (.getfield 45, 3) := by decide +kernel
theorem d_M_sequence_4 : decode c_M_sequence 4 = .ok (.ifCond .eq 10, 3) := by decide +kernel
theorem d_M_sequence_7 : decode c_M_sequence 7 = .ok (.aload_n 0, 1) := by decide +kernel
theorem d_M_sequence_8 : decode c_M_sequence 8 = .ok (.getfield 36, 3) := by decide +kernel
theorem d_M_sequence_11 : decode c_M_sequence 11 = .ok (.goto 5, 3) := by decide +kernel
theorem d_M_sequence_14 : decode c_M_sequence 14 = .ok (.bipush (-2), 2) := by decide +kernel
theorem d_M_sequence_16 : decode c_M_sequence 16 = .ok (.ireturn, 1) := by decide +kernel
theorem d_M_slot_0 : decode c_M_slot 0 = .ok (.aload_n 0, 1) := by decide +kernel
theorem d_M_slot_1 : decode c_M_slot 1 = .ok (.iload_n 1, 1) := by decide +kernel
theorem d_M_slot_2 : decode c_M_slot 2 = .ok (.invokevirtual 148, 3) := by decide +kernel
theorem d_M_slot_5 : decode c_M_slot 5 = .ok (.ifCond .eq 25, 3) := by decide +kernel
theorem d_M_slot_8 : decode c_M_slot 8 = .ok (.iload_n 2, 1) := by decide +kernel
theorem d_M_slot_9 : decode c_M_slot 9 = .ok (.ifCond .lt 21, 3) := by decide +kernel
theorem d_M_slot_12 : decode c_M_slot 12 = .ok (.iload_n 2, 1) := by decide +kernel
theorem d_M_slot_13 : decode c_M_slot 13 = .ok (.iconst 3, 1) := by decide +kernel
theorem d_M_slot_14 : decode c_M_slot 14 = .ok (.if_icmp .ge 16, 3) := by decide +kernel
theorem d_M_slot_17 : decode c_M_slot 17 = .ok (.aload_n 0, 1) := by decide +kernel
theorem d_M_slot_18 : decode c_M_slot 18 = .ok (.getfield 20, 3) := by decide +kernel
theorem d_M_slot_21 : decode c_M_slot 21 = .ok (.iconst 3, 1) := by decide +kernel
theorem d_M_slot_22 : decode c_M_slot 22 = .ok (.iload_n 1, 1) := by decide +kernel
theorem d_M_slot_23 : decode c_M_slot 23 = .ok (.imul, 1) := by decide +kernel
theorem d_M_slot_24 : decode c_M_slot 24 = .ok (.iload_n 2, 1) := by decide +kernel
theorem d_M_slot_25 : decode c_M_slot 25 = .ok (.iadd, 1) := by decide +kernel
theorem d_M_slot_26 : decode c_M_slot 26 = .ok (.iaload, 1) := by decide +kernel
theorem d_M_slot_27 : decode c_M_slot 27 = .ok (.goto 4, 3) := by decide +kernel
theorem d_M_slot_30 : decode c_M_slot 30 = .ok (.iconst (-1), 1) := by decide +kernel
theorem d_M_slot_31 : decode c_M_slot 31 = .ok (.ireturn, 1) := by decide +kernel
end
section
theorem d_E_init_0 : decode c_E_init 0 = .ok (.aload_n 0, 1) := by decide +kernel
theorem d_E_init_1 : decode c_E_init 1 = .ok (.invokespecial 1, 3) := by decide +kernel
theorem d_E_init_4 : decode c_E_init 4 = .ok (.iload_n 1, 1) := by decide +kernel
theorem d_E_init_5 : decode c_E_init 5 = .ok (.iconst 2, 1) := by decide +kernel
theorem d_E_init_6 : decode c_E_init 6 = .ok (.invokestatic 7, 3) := by decide +kernel
theorem d_E_init_9 : decode c_E_init 9 = .ok (.iconst 5, 1) := by decide +kernel
theorem d_E_init_10 : decode c_E_init 10 = .ok (.invokestatic 13, 3) := by decide +kernel
theorem d_E_init_13 : decode c_E_init 13 = .ok (.istore_n 3, 1) := by decide +kernel
theorem d_E_init_14 : decode c_E_init 14 = .ok (.aload_n 0, 1) := by decide +kernel
theorem d_E_init_15 : decode c_E_init 15 = .ok (.iload_n 2, 1) := by decide +kernel
theorem d_E_init_16 : decode c_E_init 16 = .ok (.iconst 2, 1) := by decide +kernel
theorem d_E_init_17 : decode c_E_init 17 = .ok (.invokestatic 7, 3) := by decide +kernel
theorem d_E_init_20 : decode c_E_init 20 = .ok (.bipush 10, 2) := by decide +kernel
theorem d_E_init_22 : decode c_E_init 22 = .ok (.invokestatic 13, 3) := by decide +kernel
theorem d_E_init_25 : decode c_E_init 25 = .ok (.putfield 16, 3) := by decide +kernel
theorem d_E_init_28 : decode c_E_init 28 = .ok (.new 22, 3) := by decide +kernel
theorem d_E_init_31 : decode c_E_init 31 = .ok (.dup, 1) := by decide +kernel
theorem d_E_init_32 : decode c_E_init 32 = .ok (.iconst 1, 1) := by decide +kernel
theorem d_E_init_33 : decode c_E_init 33 = .ok (.iconst 1, 1) := by decide +kernel
theorem d_E_init_34 : decode c_E_init 34 = .ok (.new 24, 3) := by decide +kernel
theorem d_E_init_37 : decode c_E_init 37 = .ok (.dup, 1) := by decide +kernel
theorem d_E_init_38 : decode c_E_init 38 = .ok (.iconst 4, 1) := by decide +kernel
theorem d_E_init_39 : decode c_E_init 39 = .ok (.anewarray 26, 3) := by decide +kernel
theorem d_E_init_42 : decode c_E_init 42 = .ok (.aconst_null, 1) := by decide +kernel
theorem d_E_init_43 : decode c_E_init 43 = .ok (.invokespecial 28, 3) := by decide +kernel
theorem d_E_init_46 : decode c_E_init 46 = .ok (.invokespecial 31, 3) := by decide +kernel
theorem d_E_init_49 : decode c_E_init 49 = .ok (.astore 4, 2) := by decide +kernel
theorem d_E_init_51 : decode c_E_init 51 = .ok (.aload_n 0, 1) := by decide +kernel
theorem d_E_init_52 : decode c_E_init 52 = .ok (.iload_n 3, 1) := by decide +kernel
theorem d_E_init_53 : decode c_E_init 53 = .ok (.anewarray 34, 3) := by decide +kernel
theorem d_E_init_56 : decode c_E_init 56 = .ok (.putfield 36, 3) := by decide +kernel
theorem d_E_init_59 : decode c_E_init 59 = .ok (.iconst 0, 1) := by decide +kernel
theorem d_E_init_60 : decode c_E_init 60 = .ok (.istore 5, 2) := by decide +kernel
theorem d_E_init_62 : decode c_E_init 62 = .ok (.iload 5, 2) := by decide +kernel
theorem d_E_init_64 : decode c_E_init 64 = .ok (.iload_n 3, 1) := by decide +kernel
theorem d_E_init_65 : decode c_E_init 65 = .ok (.if_icmp .ge 29, 3) := by decide +kernel
theorem d_E_init_68 : decode c_E_init 68 = .ok (.aload_n 0, 1) := by decide +kernel
theorem d_E_init_69 : decode c_E_init 69 = .ok (.getfield 36, 3) := by decide +kernel
theorem d_E_init_72 : decode c_E_init 72 = .ok (.iload 5, 2) := by decide +kernel
theorem d_E_init_74 : decode c_E_init 74 = .ok (.new 34, 3) := by decide +kernel
theorem d_E_init_77 : decode c_E_init 77 = .ok (.dup, 1) := by decide +kernel
theorem d_E_init_78 : decode c_E_init 78 = .ok (.aload_n 0, 1) := by decide +kernel
theorem d_E_init_79 : decode c_E_init 79 = .ok (.getfield 16, 3) := by decide +kernel
theorem d_E_init_82 : decode c_E_init 82 = .ok (.aload 4, 2) := by decide +kernel
theorem d_E_init_84 : decode c_E_init 84 = .ok (.invokespecial 40, 3) := by decide +kernel
theorem d_E_init_87 : decode c_E_init 87 = .ok (.aastore, 1) := by decide +kernel
theorem d_E_init_88 : decode c_E_init 88 = .ok (.iinc 5 1, 3) := by decide +kernel
theorem d_E_init_91 : decode c_E_init 91 = .ok (.goto (-29), 3) := by decide +kernel
theorem d_E_init_94 : decode c_E_init 94 = .ok (.aload_n 0, 1) := by decide +kernel
theorem d_E_init_95 : decode c_E_init 95 = .ok (.iload_n 3, 1) := by decide +kernel
theorem d_E_init_96 : decode c_E_init 96 = .ok (.newarray .int, 2) := by decide +kernel
theorem d_E_init_98 : decode c_E_init 98 = .ok (.putfield 43, 3) := by decide +kernel
theorem d_E_init_101 : decode c_E_init 101 = .ok (.aload_n 0, 1) := by decide +kernel
theorem d_E_init_102 : decode c_E_init 102 = .ok (.aload 4, 2) := by decide +kernel
theorem d_E_init_104 : decode c_E_init 104 = .ok (.putfield 47, 3) := by decide +kernel
theorem d_E_init_107 : decode c_E_init 107 = .ok (.aload_n 0, 1) := by decide +kernel
theorem d_E_init_108 : decode c_E_init 108 = .ok (.iconst 0, 1) := by decide +kernel
theorem d_E_init_109 : decode c_E_init 109 = .ok (.putfield 51, 3) := by decide +kernel
theorem d_E_init_112 : decode c_E_init 112 = .ok (.aload_n 0, 1) := by decide +kernel
theorem d_E_init_113 : decode c_E_init 113 = .ok (.aload 4, 2) := by decide +kernel
theorem d_E_init_115 : decode c_E_init 115 = .ok (.getfield 54, 3) := by decide +kernel
theorem d_E_init_118 : decode c_E_init 118 = .ok (.putfield 57, 3) := by decide +kernel
theorem d_E_init_121 : decode c_E_init 121 = .ok (.aload_n 0, 1) := by decide +kernel
theorem d_E_init_122 : decode c_E_init 122 = .ok (.iconst 1, 1) := by decide +kernel
theorem d_E_init_123 : decode c_E_init 123 = .ok (.putfield 60, 3) := by decide +kernel
theorem d_E_init_126 : decode c_E_init 126 = .ok (.aload_n 0, 1) := by decide +kernel
theorem d_E_init_127 : decode c_E_init 127 = .ok (.iconst (-1), 1) := by decide +kernel
theorem d_E_init_128 : decode c_E_init 128 = .ok (.putfield 64, 3) := by decide +kernel
theorem d_E_init_131 : decode c_E_init 131 = .ok (.return_, 1) := by decide +kernel
theorem d_E_create_0 : decode c_E_create 0 = .ok (.aload_n 0, 1) := by decide +kernel
theorem d_E_create_1 : decode c_E_create 1 = .ok (.getfield 60, 3) := by decide +kernel
theorem d_E_create_4 : decode c_E_create 4 = .ok (.ifCond .ne 6, 3) := by decide +kernel
theorem d_E_create_7 : decode c_E_create 7 = .ok (.bipush (-2), 2) := by decide +kernel
theorem d_E_create_9 : decode c_E_create 9 = .ok (.ireturn, 1) := by decide +kernel
theorem d_E_create_10 : decode c_E_create 10 = .ok (.iload_n 1, 1) := by decide +kernel
theorem d_E_create_11 : decode c_E_create 11 = .ok (.iload_n 2, 1) := by decide +kernel
theorem d_E_create_12 : decode c_E_create 12 = .ok (.invokestatic 67, 3) := by decide +kernel
theorem d_E_create_15 : decode c_E_create 15 = .ok (.ifCond .eq 16, 3) := by decide +kernel
theorem d_E_create_18 : decode c_E_create 18 = .ok (.iload_n 3, 1) := by decide +kernel
theorem d_E_create_19 : decode c_E_create 19 = .ok (.iconst 1, 1) := by decide +kernel
theorem d_E_create_20 : decode c_E_create 20 = .ok (.if_icmp .lt 11, 3) := by decide +kernel
theorem d_E_create_23 : decode c_E_create 23 = .ok (.iload_n 3, 1) := by decide +kernel
theorem d_E_create_24 : decode c_E_create 24 = .ok (.bipush 12, 2) := by decide +kernel
theorem d_E_create_26 : decode c_E_create 26 = .ok (.iload_n 1, 1) := by decide +kernel
theorem d_E_create_27 : decode c_E_create 27 = .ok (.idiv, 1) := by decide +kernel
theorem d_E_create_28 : decode c_E_create 28 = .ok (.if_icmp .le 5, 3) := by decide +kernel
theorem d_E_create_31 : decode c_E_create 31 = .ok (.iconst (-1), 1) := by decide +kernel
theorem d_E_create_32 : decode c_E_create 32 = .ok (.ireturn, 1) := by decide +kernel
theorem d_E_create_33 : decode c_E_create 33 = .ok (.aload_n 0, 1) := by decide +kernel
theorem d_E_create_34 : decode c_E_create 34 = .ok (.invokevirtual 71, 3) := by decide +kernel
theorem d_E_create_37 : decode c_E_create 37 = .ok (.ifCond .eq 6, 3) := by decide +kernel
theorem d_E_create_40 : decode c_E_create 40 = .ok (.bipush (-3), 2) := by decide +kernel
theorem d_E_create_42 : decode c_E_create 42 = .ok (.ireturn, 1) := by decide +kernel
theorem d_E_create_43 : decode c_E_create 43 = .ok (.aload_n 0, 1) := by decide +kernel
theorem d_E_create_44 : decode c_E_create 44 = .ok (.getfield 47, 3) := by decide +kernel
theorem d_E_create_47 : decode c_E_create 47 = .ok (.getfield 75, 3) := by decide +kernel
theorem d_E_create_50 : decode c_E_create 50 = .ok (.invokevirtual 79, 3) := by decide +kernel
theorem d_E_create_53 : decode c_E_create 53 = .ok (.istore 4, 2) := by decide +kernel
theorem d_E_create_55 : decode c_E_create 55 = .ok (.iload 4, 2) := by decide +kernel
theorem d_E_create_57 : decode c_E_create 57 = .ok (.iconst (-1), 1) := by decide +kernel
theorem d_E_create_58 : decode c_E_create 58 = .ok (.if_icmp .ne 6, 3) := by decide +kernel
theorem d_E_create_61 : decode c_E_create 61 = .ok (.bipush (-10), 2) := by decide +kernel
theorem d_E_create_63 : decode c_E_create 63 = .ok (.ireturn, 1) := by decide +kernel
theorem d_E_create_64 : decode c_E_create 64 = .ok (.new 26, 3) := by decide +kernel
theorem d_E_create_67 : decode c_E_create 67 = .ok (.dup, 1) := by decide +kernel
theorem d_E_create_68 : decode c_E_create 68 = .ok (.iload_n 1, 1) := by decide +kernel
theorem d_E_create_69 : decode c_E_create 69 = .ok (.iload_n 2, 1) := by decide +kernel
theorem d_E_create_70 : decode c_E_create 70 = .ok (.iload_n 3, 1) := by decide +kernel
theorem d_E_create_71 : decode c_E_create 71 = .ok (.iload_n 1, 1) := by decide +kernel
theorem d_E_create_72 : decode c_E_create 72 = .ok (.iload_n 3, 1) := by decide +kernel
theorem d_E_create_73 : decode c_E_create 73 = .ok (.imul, 1) := by decide +kernel
theorem d_E_create_74 : decode c_E_create 74 = .ok (.newarray .int, 2) := by decide +kernel
theorem d_E_create_76 : decode c_E_create 76 = .ok (.invokespecial 83, 3) := by decide +kernel
theorem d_E_create_79 : decode c_E_create 79 = .ok (.astore 5, 2) := by decide +kernel
theorem d_E_create_81 : decode c_E_create 81 = .ok (.aload_n 0, 1) := by decide +kernel
theorem d_E_create_82 : decode c_E_create 82 = .ok (.aload 5, 2) := by decide +kernel
theorem d_E_create_84 : decode c_E_create 84 = .ok (.iconst 0, 1) := by decide +kernel
theorem d_E_create_85 : decode c_E_create 85 = .ok (.invokevirtual 86, 3) := by decide +kernel
theorem d_E_create_88 : decode c_E_create 88 = .ok (.ifCond .ne 6, 3) := by decide +kernel
theorem d_E_create_91 : decode c_E_create 91 = .ok (.bipush (-5), 2) := by decide +kernel
theorem d_E_create_93 : decode c_E_create 93 = .ok (.ireturn, 1) := by decide +kernel
theorem d_E_create_94 : decode c_E_create 94 = .ok (.aload_n 0, 1) := by decide +kernel
theorem d_E_create_95 : decode c_E_create 95 = .ok (.aload_n 0, 1) := by decide +kernel
theorem d_E_create_96 : decode c_E_create 96 = .ok (.getfield 47, 3) := by decide +kernel
theorem d_E_create_99 : decode c_E_create 99 = .ok (.getfield 75, 3) := by decide +kernel
theorem d_E_create_102 : decode c_E_create 102 = .ok (.iload 4, 2) := by decide +kernel
theorem d_E_create_104 : decode c_E_create 104 = .ok (.aload 5, 2) := by decide +kernel
theorem d_E_create_106 : decode c_E_create 106 = .ok (.invokevirtual 90, 3) := by decide +kernel
theorem d_E_create_109 : decode c_E_create 109 = .ok (.invokevirtual 94, 3) := by decide +kernel
theorem d_E_create_112 : decode c_E_create 112 = .ok (.ifCond .eq 8, 3) := by decide +kernel
theorem d_E_create_115 : decode c_E_create 115 = .ok (.iload 4, 2) := by decide +kernel
theorem d_E_create_117 : decode c_E_create 117 = .ok (.goto 5, 3) := by decide +kernel
theorem d_E_create_120 : decode c_E_create 120 = .ok (.bipush (-7), 2) := by decide +kernel
theorem d_E_create_122 : decode c_E_create 122 = .ok (.ireturn, 1) := by decide +kernel
theorem d_E_isShape_0 : decode c_E_isShape 0 = .ok (.iload_n 0, 1) := by decide +kernel
theorem d_E_isShape_1 : decode c_E_isShape 1 = .ok (.iconst 1, 1) := by decide +kernel
theorem d_E_isShape_2 : decode c_E_isShape 2 = .ok (.if_icmp .lt 27, 3) := by decide +kernel
theorem d_E_isShape_5 : decode c_E_isShape 5 = .ok (.iload_n 0, 1) := by decide +kernel
theorem d_E_isShape_6 : decode c_E_isShape 6 = .ok (.iconst 4, 1) := by decide +kernel
theorem d_E_isShape_7 : decode c_E_isShape 7 = .ok (.if_icmp .gt 22, 3) := by decide +kernel
theorem d_E_isShape_10 : decode c_E_isShape 10 = .ok (.iload_n 1, 1) := by decide +kernel
theorem d_E_isShape_11 : decode c_E_isShape 11 = .ok (.iconst 1, 1) := by decide +kernel
theorem d_E_isShape_12 : decode c_E_isShape 12 = .ok (.if_icmp .eq 13, 3) := by decide +kernel
theorem d_E_isShape_15 : decode c_E_isShape 15 = .ok (.iload_n 1, 1) := by decide +kernel
theorem d_E_isShape_16 : decode c_E_isShape 16 = .ok (.iconst 2, 1) := by decide +kernel
theorem d_E_isShape_17 : decode c_E_isShape 17 = .ok (.if_icmp .eq 8, 3) := by decide +kernel
theorem d_E_isShape_20 : decode c_E_isShape 20 = .ok (.iload_n 1, 1) := by decide +kernel
theorem d_E_isShape_21 : decode c_E_isShape 21 = .ok (.iconst 4, 1) := by decide +kernel
theorem d_E_isShape_22 : decode c_E_isShape 22 = .ok (.if_icmp .ne 7, 3) := by decide +kernel
theorem d_E_isShape_25 : decode c_E_isShape 25 = .ok (.iconst 1, 1) := by decide +kernel
theorem d_E_isShape_26 : decode c_E_isShape 26 = .ok (.goto 4, 3) := by decide +kernel
theorem d_E_isShape_29 : decode c_E_isShape 29 = .ok (.iconst 0, 1) := by decide +kernel
theorem d_E_isShape_30 : decode c_E_isShape 30 = .ok (.ireturn, 1) := by decide +kernel
theorem d_E_isFew_0 : decode c_E_isFew 0 = .ok (.iconst 0, 1) := by decide +kernel
theorem d_E_isFew_1 : decode c_E_isFew 1 = .ok (.istore_n 1, 1) := by decide +kernel
theorem d_E_isFew_2 : decode c_E_isFew 2 = .ok (.iconst 0, 1) := by decide +kernel
theorem d_E_isFew_3 : decode c_E_isFew 3 = .ok (.istore_n 2, 1) := by decide +kernel
theorem d_E_isFew_4 : decode c_E_isFew 4 = .ok (.iload_n 2, 1) := by decide +kernel
theorem d_E_isFew_5 : decode c_E_isFew 5 = .ok (.aload_n 0, 1) := by decide +kernel
theorem d_E_isFew_6 : decode c_E_isFew 6 = .ok (.getfield 36, 3) := by decide +kernel
theorem d_E_isFew_9 : decode c_E_isFew 9 = .ok (.arraylength, 1) := by decide +kernel
theorem d_E_isFew_10 : decode c_E_isFew 10 = .ok (.if_icmp .ge 24, 3) := by decide +kernel
theorem d_E_isFew_13 : decode c_E_isFew 13 = .ok (.aload_n 0, 1) := by decide +kernel
theorem d_E_isFew_14 : decode c_E_isFew 14 = .ok (.getfield 36, 3) := by decide +kernel
theorem d_E_isFew_17 : decode c_E_isFew 17 = .ok (.iload_n 2, 1) := by decide +kernel
theorem d_E_isFew_18 : decode c_E_isFew 18 = .ok (.aaload, 1) := by decide +kernel
theorem d_E_isFew_19 : decode c_E_isFew 19 = .ok (.getfield 132, 3) := by decide +kernel
theorem d_E_isFew_22 : decode c_E_isFew 22 = .ok (.ifCond .eq 6, 3) := by decide +kernel
theorem d_E_isFew_25 : decode c_E_isFew 25 = .ok (.iinc 1 1, 3) := by decide +kernel
theorem d_E_isFew_28 : decode c_E_isFew 28 = .ok (.iinc 2 1, 3) := by decide +kernel
theorem d_E_isFew_31 : decode c_E_isFew 31 = .ok (.goto (-27), 3) := by decide +kernel
theorem d_E_isFew_34 : decode c_E_isFew 34 = .ok (.aload_n 0, 1) := by decide +kernel
theorem d_E_isFew_35 : decode c_E_isFew 35 = .ok (.iload_n 1, 1) := by decide +kernel
theorem d_E_isFew_36 : decode c_E_isFew 36 = .ok (.invokevirtual 212, 3) := by decide +kernel
theorem d_E_isFew_39 : decode c_E_isFew 39 = .ok (.ifCond .ne 7, 3) := by decide +kernel
theorem d_E_isFew_42 : decode c_E_isFew 42 = .ok (.iconst 1, 1) := by decide +kernel
theorem d_E_isFew_43 : decode c_E_isFew 43 = .ok (.goto 4, 3) := by decide +kernel
theorem d_E_isFew_46 : decode c_E_isFew 46 = .ok (.iconst 0, 1) := by decide +kernel
theorem d_E_isFew_47 : decode c_E_isFew 47 = .ok (.ireturn, 1) := by decide +kernel
theorem d_E_isQuorum_0 : decode c_E_isQuorum 0 = .ok (.iconst 2, 1) := by decide +kernel
theorem d_E_isQuorum_1 : decode c_E_isQuorum 1 = .ok (.iload_n 1, 1) := by decide +kernel
theorem d_E_isQuorum_2 : decode c_E_isQuorum 2 = .ok (.imul, 1) := by decide +kernel
theorem d_E_isQuorum_3 : decode c_E_isQuorum 3 = .ok (.aload_n 0, 1) := by decide +kernel
theorem d_E_isQuorum_4 : decode c_E_isQuorum 4 = .ok (.getfield 36, 3) := by decide +kernel
theorem d_E_isQuorum_7 : decode c_E_isQuorum 7 = .ok (.arraylength, 1) := by decide +kernel
theorem d_E_isQuorum_8 : decode c_E_isQuorum 8 = .ok (.if_icmp .le 7, 3) := by decide +kernel
theorem d_E_isQuorum_11 : decode c_E_isQuorum 11 = .ok (.iconst 1, 1) := by decide +kernel
theorem d_E_isQuorum_12 : decode c_E_isQuorum 12 = .ok (.goto 4, 3) := by decide +kernel
theorem d_E_isQuorum_15 : decode c_E_isQuorum 15 = .ok (.iconst 0, 1) := by decide +kernel
theorem d_E_isQuorum_16 : decode c_E_isQuorum 16 = .ok (.ireturn, 1) := by decide +kernel
theorem d_E_takeRows_0 : decode c_E_takeRows 0 = .ok (.aload_n 0, 1) := by decide +kernel
theorem d_E_takeRows_1 : decode c_E_takeRows 1 = .ok (.invokevirtual 135, 3) := by decide +kernel
theorem d_E_takeRows_4 : decode c_E_takeRows 4 = .ok (.iload_n 2, 1) := by decide +kernel
theorem d_E_takeRows_5 : decode c_E_takeRows 5 = .ok (.istore_n 3, 1) := by decide +kernel
theorem d_E_takeRows_6 : decode c_E_takeRows 6 = .ok (.iload_n 3, 1) := by decide +kernel
theorem d_E_takeRows_7 : decode c_E_takeRows 7 = .ok (.aload_n 1, 1) := by decide +kernel
theorem d_E_takeRows_8 : decode c_E_takeRows 8 = .ok (.getfield 105, 3) := by decide +kernel
theorem d_E_takeRows_11 : decode c_E_takeRows 11 = .ok (.if_icmp .ge 42, 3) := by decide +kernel
theorem d_E_takeRows_14 : decode c_E_takeRows 14 = .ok (.aload_n 0, 1) := by decide +kernel
theorem d_E_takeRows_15 : decode c_E_takeRows 15 = .ok (.aload_n 1, 1) := by decide +kernel
theorem d_E_takeRows_16 : decode c_E_takeRows 16 = .ok (.getfield 102, 3) := by decide +kernel
theorem d_E_takeRows_19 : decode c_E_takeRows 19 = .ok (.invokevirtual 253, 3) := by decide +kernel
theorem d_E_takeRows_22 : decode c_E_takeRows 22 = .ok (.istore 4, 2) := by decide +kernel
theorem d_E_takeRows_24 : decode c_E_takeRows 24 = .ok (.iload 4, 2) := by decide +kernel
theorem d_E_takeRows_26 : decode c_E_takeRows 26 = .ok (.ifCond .ne 5, 3) := by decide +kernel
theorem d_E_takeRows_29 : decode c_E_takeRows 29 = .ok (.iconst 0, 1) := by decide +kernel
theorem d_E_takeRows_30 : decode c_E_takeRows 30 = .ok (.ireturn, 1) := by decide +kernel
theorem d_E_takeRows_31 : decode c_E_takeRows 31 = .ok (.aload_n 0, 1) := by decide +kernel
theorem d_E_takeRows_32 : decode c_E_takeRows 32 = .ok (.iload 4, 2) := by decide +kernel
theorem d_E_takeRows_34 : decode c_E_takeRows 34 = .ok (.aload_n 1, 1) := by decide +kernel
theorem d_E_takeRows_35 : decode c_E_takeRows 35 = .ok (.getfield 125, 3) := by decide +kernel
theorem d_E_takeRows_38 : decode c_E_takeRows 38 = .ok (.iload_n 3, 1) := by decide +kernel
theorem d_E_takeRows_39 : decode c_E_takeRows 39 = .ok (.aload_n 1, 1) := by decide +kernel
theorem d_E_takeRows_40 : decode c_E_takeRows 40 = .ok (.getfield 102, 3) := by decide +kernel
theorem d_E_takeRows_43 : decode c_E_takeRows 43 = .ok (.imul, 1) := by decide +kernel
theorem d_E_takeRows_44 : decode c_E_takeRows 44 = .ok (.invokevirtual 256, 3) := by decide +kernel
theorem d_E_takeRows_47 : decode c_E_takeRows 47 = .ok (.iinc 3 1, 3) := by decide +kernel
theorem d_E_takeRows_50 : decode c_E_takeRows 50 = .ok (.goto (-44), 3) := by decide +kernel
theorem d_E_takeRows_53 : decode c_E_takeRows 53 = .ok (.iconst 1, 1) := by decide +kernel
theorem d_E_takeRows_54 : decode c_E_takeRows 54 = .ok (.ireturn, 1) := by decide +kernel
theorem d_E_markTaken_0 : decode c_E_markTaken 0 = .ok (.aload_n 0, 1) := by decide +kernel
theorem d_E_markTaken_1 : decode c_E_markTaken 1 = .ok (.getfield 43, 3) := by decide +kernel
theorem d_E_markTaken_4 : decode c_E_markTaken 4 = .ok (.iconst 0, 1) := by decide +kernel
theorem d_E_markTaken_5 : decode c_E_markTaken 5 = .ok (.invokestatic 238, 3) := by decide +kernel
theorem d_E_markTaken_8 : decode c_E_markTaken 8 = .ok (.iconst 0, 1) := by decide +kernel
theorem d_E_markTaken_9 : decode c_E_markTaken 9 = .ok (.istore_n 1, 1) := by decide +kernel
theorem d_E_markTaken_10 : decode c_E_markTaken 10 = .ok (.iload_n 1, 1) := by decide +kernel
theorem d_E_markTaken_11 : decode c_E_markTaken 11 = .ok (.iconst 4, 1) := by decide +kernel
theorem d_E_markTaken_12 : decode c_E_markTaken 12 = .ok (.if_icmp .ge 52, 3) := by decide +kernel
theorem d_E_markTaken_15 : decode c_E_markTaken 15 = .ok (.aload_n 0, 1) := by decide +kernel
theorem d_E_markTaken_16 : decode c_E_markTaken 16 = .ok (.getfield 47, 3) := by decide +kernel
theorem d_E_markTaken_19 : decode c_E_markTaken 19 = .ok (.getfield 75, 3) := by decide +kernel
theorem d_E_markTaken_22 : decode c_E_markTaken 22 = .ok (.iload_n 1, 1) := by decide +kernel
theorem d_E_markTaken_23 : decode c_E_markTaken 23 = .ok (.invokevirtual 98, 3) := by decide +kernel
theorem d_E_markTaken_26 : decode c_E_markTaken 26 = .ok (.astore_n 2, 1) := by decide +kernel
theorem d_E_markTaken_27 : decode c_E_markTaken 27 = .ok (.iconst 0, 1) := by decide +kernel
theorem d_E_markTaken_28 : decode c_E_markTaken 28 = .ok (.istore_n 3, 1) := by decide +kernel
theorem d_E_markTaken_29 : decode c_E_markTaken 29 = .ok (.aload_n 2, 1) := by decide +kernel
theorem d_E_markTaken_30 : decode c_E_markTaken 30 = .ok (.ifnull 28, 3) := by decide +kernel
theorem d_E_markTaken_33 : decode c_E_markTaken 33 = .ok (.iload_n 3, 1) := by decide +kernel
theorem d_E_markTaken_34 : decode c_E_markTaken 34 = .ok (.aload_n 2, 1) := by decide +kernel
theorem d_E_markTaken_35 : decode c_E_markTaken 35 = .ok (.getfield 125, 3) := by decide +kernel
theorem d_E_markTaken_38 : decode c_E_markTaken 38 = .ok (.arraylength, 1) := by decide +kernel
theorem d_E_markTaken_39 : decode c_E_markTaken 39 = .ok (.if_icmp .ge 19, 3) := by decide +kernel
theorem d_E_markTaken_42 : decode c_E_markTaken 42 = .ok (.aload_n 0, 1) := by decide +kernel
theorem d_E_markTaken_43 : decode c_E_markTaken 43 = .ok (.aload_n 2, 1) := by decide +kernel
theorem d_E_markTaken_44 : decode c_E_markTaken 44 = .ok (.getfield 125, 3) := by decide +kernel
theorem d_E_markTaken_47 : decode c_E_markTaken 47 = .ok (.iload_n 3, 1) := by decide +kernel
theorem d_E_markTaken_48 : decode c_E_markTaken 48 = .ok (.iaload, 1) := by decide +kernel
theorem d_E_markTaken_49 : decode c_E_markTaken 49 = .ok (.invokevirtual 244, 3) := by decide +kernel
theorem d_E_markTaken_52 : decode c_E_markTaken 52 = .ok (.iinc 3 1, 3) := by decide +kernel
theorem d_E_markTaken_55 : decode c_E_markTaken 55 = .ok (.goto (-26), 3) := by decide +kernel
theorem d_E_markTaken_58 : decode c_E_markTaken 58 = .ok (.iinc 1 1, 3) := by decide +kernel
theorem d_E_markTaken_61 : decode c_E_markTaken 61 = .ok (.goto (-51), 3) := by decide +kernel
theorem d_E_markTaken_64 : decode c_E_markTaken 64 = .ok (.aload_n 0, 1) := by decide +kernel
theorem d_E_markTaken_65 : decode c_E_markTaken 65 = .ok (.getfield 47, 3) := by decide +kernel
theorem d_E_markTaken_68 : decode c_E_markTaken 68 = .ok (.getfield 75, 3) := by decide +kernel
theorem d_E_markTaken_71 : decode c_E_markTaken 71 = .ok (.getfield 121, 3) := by decide +kernel
theorem d_E_markTaken_74 : decode c_E_markTaken 74 = .ok (.ifnull 20, 3) := by decide +kernel
theorem d_E_markTaken_77 : decode c_E_markTaken 77 = .ok (.aload_n 0, 1) := by decide +kernel
theorem d_E_markTaken_78 : decode c_E_markTaken 78 = .ok (.aload_n 0, 1) := by decide +kernel
theorem d_E_markTaken_79 : decode c_E_markTaken 79 = .ok (.getfield 47, 3) := by decide +kernel
theorem d_E_markTaken_82 : decode c_E_markTaken 82 = .ok (.getfield 75, 3) := by decide +kernel
theorem d_E_markTaken_85 : decode c_E_markTaken 85 = .ok (.getfield 121, 3) := by decide +kernel
theorem d_E_markTaken_88 : decode c_E_markTaken 88 = .ok (.getfield 154, 3) := by decide +kernel
theorem d_E_markTaken_91 : decode c_E_markTaken 91 = .ok (.invokevirtual 244, 3) := by decide +kernel
theorem d_E_markTaken_94 : decode c_E_markTaken 94 = .ok (.return_, 1) := by decide +kernel
theorem d_E_take_0 : decode c_E_take 0 = .ok (.aload_n 0, 1) := by decide +kernel
theorem d_E_take_1 : decode c_E_take 1 = .ok (.getfield 43, 3) := by decide +kernel
theorem d_E_take_4 : decode c_E_take 4 = .ok (.iload_n 1, 1) := by decide +kernel
theorem d_E_take_5 : decode c_E_take 5 = .ok (.bipush 16, 2) := by decide +kernel
theorem d_E_take_7 : decode c_E_take 7 = .ok (.idiv, 1) := by decide +kernel
theorem d_E_take_8 : decode c_E_take 8 = .ok (.dup2, 1) := by decide +kernel
theorem d_E_take_9 : decode c_E_take 9 = .ok (.iaload, 1) := by decide +kernel
theorem d_E_take_10 : decode c_E_take 10 = .ok (.iconst 1, 1) := by decide +kernel
theorem d_E_take_11 : decode c_E_take 11 = .ok (.iload_n 1, 1) := by decide +kernel
theorem d_E_take_12 : decode c_E_take 12 = .ok (.bipush 16, 2) := by decide +kernel
theorem d_E_take_14 : decode c_E_take 14 = .ok (.irem, 1) := by decide +kernel
theorem d_E_take_15 : decode c_E_take 15 = .ok (.ishl, 1) := by decide +kernel
theorem d_E_take_16 : decode c_E_take 16 = .ok (.ior, 1) := by decide +kernel
theorem d_E_take_17 : decode c_E_take 17 = .ok (.iastore, 1) := by decide +kernel
theorem d_E_take_18 : decode c_E_take 18 = .ok (.return_, 1) := by decide +kernel
theorem d_E_pickDisks_0 : decode c_E_pickDisks 0 = .ok (.iconst 0, 1) := by decide +kernel
theorem d_E_pickDisks_1 : decode c_E_pickDisks 1 = .ok (.istore_n 2, 1) := by decide +kernel
theorem d_E_pickDisks_2 : decode c_E_pickDisks 2 = .ok (.iconst 0, 1) := by decide +kernel
theorem d_E_pickDisks_3 : decode c_E_pickDisks 3 = .ok (.istore_n 3, 1) := by decide +kernel
theorem d_E_pickDisks_4 : decode c_E_pickDisks 4 = .ok (.iload_n 3, 1) := by decide +kernel
theorem d_E_pickDisks_5 : decode c_E_pickDisks 5 = .ok (.iload_n 1, 1) := by decide +kernel
theorem d_E_pickDisks_6 : decode c_E_pickDisks 6 = .ok (.if_icmp .ge 31, 3) := by decide +kernel
theorem d_E_pickDisks_9 : decode c_E_pickDisks 9 = .ok (.aload_n 0, 1) := by decide +kernel
theorem d_E_pickDisks_10 : decode c_E_pickDisks 10 = .ok (.iload_n 2, 1) := by decide +kernel
theorem d_E_pickDisks_11 : decode c_E_pickDisks 11 = .ok (.invokevirtual 260, 3) := by decide +kernel
theorem d_E_pickDisks_14 : decode c_E_pickDisks 14 = .ok (.istore 4, 2) := by decide +kernel
theorem d_E_pickDisks_16 : decode c_E_pickDisks 16 = .ok (.iload 4, 2) := by decide +kernel
theorem d_E_pickDisks_18 : decode c_E_pickDisks 18 = .ok (.iconst (-1), 1) := by decide +kernel
theorem d_E_pickDisks_19 : decode c_E_pickDisks 19 = .ok (.if_icmp .ne 5, 3) := by decide +kernel
theorem d_E_pickDisks_22 : decode c_E_pickDisks 22 = .ok (.iconst 0, 1) := by decide +kernel
theorem d_E_pickDisks_23 : decode c_E_pickDisks 23 = .ok (.ireturn, 1) := by decide +kernel
theorem d_E_pickDisks_24 : decode c_E_pickDisks 24 = .ok (.iload_n 2, 1) := by decide +kernel
theorem d_E_pickDisks_25 : decode c_E_pickDisks 25 = .ok (.iconst 1, 1) := by decide +kernel
theorem d_E_pickDisks_26 : decode c_E_pickDisks 26 = .ok (.iload 4, 2) := by decide +kernel
theorem d_E_pickDisks_28 : decode c_E_pickDisks 28 = .ok (.ishl, 1) := by decide +kernel
theorem d_E_pickDisks_29 : decode c_E_pickDisks 29 = .ok (.ior, 1) := by decide +kernel
theorem d_E_pickDisks_30 : decode c_E_pickDisks 30 = .ok (.istore_n 2, 1) := by decide +kernel
theorem d_E_pickDisks_31 : decode c_E_pickDisks 31 = .ok (.iinc 3 1, 3) := by decide +kernel
theorem d_E_pickDisks_34 : decode c_E_pickDisks 34 = .ok (.goto (-30), 3) := by decide +kernel
theorem d_E_pickDisks_37 : decode c_E_pickDisks 37 = .ok (.iload_n 2, 1) := by decide +kernel
theorem d_E_pickDisks_38 : decode c_E_pickDisks 38 = .ok (.ireturn, 1) := by decide +kernel
theorem d_E_roomiest_0 : decode c_E_roomiest 0 = .ok (.iconst (-1), 1) := by decide +kernel
theorem d_E_roomiest_1 : decode c_E_roomiest 1 = .ok (.istore_n 2, 1) := by decide +kernel
theorem d_E_roomiest_2 : decode c_E_roomiest 2 = .ok (.iconst 0, 1) := by decide +kernel
theorem d_E_roomiest_3 : decode c_E_roomiest 3 = .ok (.istore_n 3, 1) := by decide +kernel
theorem d_E_roomiest_4 : decode c_E_roomiest 4 = .ok (.iconst 0, 1) := by decide +kernel
theorem d_E_roomiest_5 : decode c_E_roomiest 5 = .ok (.istore 4, 2) := by decide +kernel
theorem d_E_roomiest_7 : decode c_E_roomiest 7 = .ok (.iload 4, 2) := by decide +kernel
theorem d_E_roomiest_9 : decode c_E_roomiest 9 = .ok (.aload_n 0, 1) := by decide +kernel
theorem d_E_roomiest_10 : decode c_E_roomiest 10 = .ok (.getfield 36, 3) := by decide +kernel
theorem d_E_roomiest_13 : decode c_E_roomiest 13 = .ok (.arraylength, 1) := by decide +kernel
theorem d_E_roomiest_14 : decode c_E_roomiest 14 = .ok (.if_icmp .ge 63, 3) := by decide +kernel
theorem d_E_roomiest_17 : decode c_E_roomiest 17 = .ok (.aload_n 0, 1) := by decide +kernel
theorem d_E_roomiest_18 : decode c_E_roomiest 18 = .ok (.getfield 36, 3) := by decide +kernel
theorem d_E_roomiest_21 : decode c_E_roomiest 21 = .ok (.iload 4, 2) := by decide +kernel
theorem d_E_roomiest_23 : decode c_E_roomiest 23 = .ok (.aaload, 1) := by decide +kernel
theorem d_E_roomiest_24 : decode c_E_roomiest 24 = .ok (.getfield 132, 3) := by decide +kernel
theorem d_E_roomiest_27 : decode c_E_roomiest 27 = .ok (.ifCond .eq 16, 3) := by decide +kernel
theorem d_E_roomiest_30 : decode c_E_roomiest 30 = .ok (.iload_n 1, 1) := by decide +kernel
theorem d_E_roomiest_31 : decode c_E_roomiest 31 = .ok (.iconst 1, 1) := by decide +kernel
theorem d_E_roomiest_32 : decode c_E_roomiest 32 = .ok (.iload 4, 2) := by decide +kernel
theorem d_E_roomiest_34 : decode c_E_roomiest 34 = .ok (.ishl, 1) := by decide +kernel
theorem d_E_roomiest_35 : decode c_E_roomiest 35 = .ok (.iand, 1) := by decide +kernel
theorem d_E_roomiest_36 : decode c_E_roomiest 36 = .ok (.ifCond .ne 7, 3) := by decide +kernel
theorem d_E_roomiest_39 : decode c_E_roomiest 39 = .ok (.iconst 1, 1) := by decide +kernel
theorem d_E_roomiest_40 : decode c_E_roomiest 40 = .ok (.goto 4, 3) := by decide +kernel
theorem d_E_roomiest_43 : decode c_E_roomiest 43 = .ok (.iconst 0, 1) := by decide +kernel
theorem d_E_roomiest_44 : decode c_E_roomiest 44 = .ok (.istore 5, 2) := by decide +kernel
theorem d_E_roomiest_46 : decode c_E_roomiest 46 = .ok (.iload 5, 2) := by decide +kernel
theorem d_E_roomiest_48 : decode c_E_roomiest 48 = .ok (.ifCond .eq 23, 3) := by decide +kernel
theorem d_E_roomiest_51 : decode c_E_roomiest 51 = .ok (.aload_n 0, 1) := by decide +kernel
theorem d_E_roomiest_52 : decode c_E_roomiest 52 = .ok (.iload 4, 2) := by decide +kernel
theorem d_E_roomiest_54 : decode c_E_roomiest 54 = .ok (.invokevirtual 195, 3) := by decide +kernel
theorem d_E_roomiest_57 : decode c_E_roomiest 57 = .ok (.iload_n 3, 1) := by decide +kernel
theorem d_E_roomiest_58 : decode c_E_roomiest 58 = .ok (.if_icmp .le 13, 3) := by decide +kernel
theorem d_E_roomiest_61 : decode c_E_roomiest 61 = .ok (.iload 4, 2) := by decide +kernel
theorem d_E_roomiest_63 : decode c_E_roomiest 63 = .ok (.istore_n 2, 1) := by decide +kernel
theorem d_E_roomiest_64 : decode c_E_roomiest 64 = .ok (.aload_n 0, 1) := by decide +kernel
theorem d_E_roomiest_65 : decode c_E_roomiest 65 = .ok (.iload 4, 2) := by decide +kernel
theorem d_E_roomiest_67 : decode c_E_roomiest 67 = .ok (.invokevirtual 195, 3) := by decide +kernel
theorem d_E_roomiest_70 : decode c_E_roomiest 70 = .ok (.istore_n 3, 1) := by decide +kernel
theorem d_E_roomiest_71 : decode c_E_roomiest 71 = .ok (.iinc 4 1, 3) := by decide +kernel
theorem d_E_roomiest_74 : decode c_E_roomiest 74 = .ok (.goto (-67), 3) := by decide +kernel
theorem d_E_roomiest_77 : decode c_E_roomiest 77 = .ok (.iload_n 2, 1) := by decide +kernel
theorem d_E_roomiest_78 : decode c_E_roomiest 78 = .ok (.ireturn, 1) := by decide +kernel
theorem d_E_freeCount_0 : decode c_E_freeCount 0 = .ok (.aload_n 0, 1) := by decide +kernel
theorem d_E_freeCount_1 : decode c_E_freeCount 1 = .ok (.getfield 16, 3) := by decide +kernel
theorem d_E_freeCount_4 : decode c_E_freeCount 4 = .ok (.aload_n 0, 1) := by decide +kernel
theorem d_E_freeCount_5 : decode c_E_freeCount 5 = .ok (.getfield 43, 3) := by decide +kernel
theorem d_E_freeCount_8 : decode c_E_freeCount 8 = .ok (.iload_n 1, 1) := by decide +kernel
theorem d_E_freeCount_9 : decode c_E_freeCount 9 = .ok (.iaload, 1) := by decide +kernel
theorem d_E_freeCount_10 : decode c_E_freeCount 10 = .ok (.invokestatic 248, 3) := by decide +kernel
theorem d_E_freeCount_13 : decode c_E_freeCount 13 = .ok (.isub, 1) := by decide +kernel
theorem d_E_freeCount_14 : decode c_E_freeCount 14 = .ok (.ireturn, 1) := by decide +kernel
theorem d_E_takeRow_0 : decode c_E_takeRow 0 = .ok (.iload_n 3, 1) := by decide +kernel
theorem d_E_takeRow_1 : decode c_E_takeRow 1 = .ok (.istore 4, 2) := by decide +kernel
theorem d_E_takeRow_3 : decode c_E_takeRow 3 = .ok (.iconst 0, 1) := by decide +kernel
theorem d_E_takeRow_4 : decode c_E_takeRow 4 = .ok (.istore 5, 2) := by decide +kernel
theorem d_E_takeRow_6 : decode c_E_takeRow 6 = .ok (.iload 5, 2) := by decide +kernel
theorem d_E_takeRow_8 : decode c_E_takeRow 8 = .ok (.aload_n 0, 1) := by decide +kernel
theorem d_E_takeRow_9 : decode c_E_takeRow 9 = .ok (.getfield 36, 3) := by decide +kernel
theorem d_E_takeRow_12 : decode c_E_takeRow 12 = .ok (.arraylength, 1) := by decide +kernel
theorem d_E_takeRow_13 : decode c_E_takeRow 13 = .ok (.if_icmp .ge 46, 3) := by decide +kernel
theorem d_E_takeRow_16 : decode c_E_takeRow 16 = .ok (.iload 4, 2) := by decide +kernel
theorem d_E_takeRow_18 : decode c_E_takeRow 18 = .ok (.aload_n 2, 1) := by decide +kernel
theorem d_E_takeRow_19 : decode c_E_takeRow 19 = .ok (.arraylength, 1) := by decide +kernel
theorem d_E_takeRow_20 : decode c_E_takeRow 20 = .ok (.if_icmp .ge 39, 3) := by decide +kernel
theorem d_E_takeRow_23 : decode c_E_takeRow 23 = .ok (.iload_n 1, 1) := by decide +kernel
theorem d_E_takeRow_24 : decode c_E_takeRow 24 = .ok (.iconst 1, 1) := by decide +kernel
theorem d_E_takeRow_25 : decode c_E_takeRow 25 = .ok (.iload 5, 2) := by decide +kernel
theorem d_E_takeRow_27 : decode c_E_takeRow 27 = .ok (.ishl, 1) := by decide +kernel
theorem d_E_takeRow_28 : decode c_E_takeRow 28 = .ok (.iand, 1) := by decide +kernel
theorem d_E_takeRow_29 : decode c_E_takeRow 29 = .ok (.ifCond .eq 24, 3) := by decide +kernel
theorem d_E_takeRow_32 : decode c_E_takeRow 32 = .ok (.aload_n 2, 1) := by decide +kernel
theorem d_E_takeRow_33 : decode c_E_takeRow 33 = .ok (.iload 4, 2) := by decide +kernel
theorem d_E_takeRow_35 : decode c_E_takeRow 35 = .ok (.aload_n 0, 1) := by decide +kernel
theorem d_E_takeRow_36 : decode c_E_takeRow 36 = .ok (.iload 5, 2) := by decide +kernel
theorem d_E_takeRow_38 : decode c_E_takeRow 38 = .ok (.invokevirtual 138, 3) := by decide +kernel
theorem d_E_takeRow_41 : decode c_E_takeRow 41 = .ok (.iastore, 1) := by decide +kernel
theorem d_E_takeRow_42 : decode c_E_takeRow 42 = .ok (.aload_n 0, 1) := by decide +kernel
theorem d_E_takeRow_43 : decode c_E_takeRow 43 = .ok (.aload_n 2, 1) := by decide +kernel
theorem d_E_takeRow_44 : decode c_E_takeRow 44 = .ok (.iload 4, 2) := by decide +kernel
theorem d_E_takeRow_46 : decode c_E_takeRow 46 = .ok (.iaload, 1) := by decide +kernel
theorem d_E_takeRow_47 : decode c_E_takeRow 47 = .ok (.invokevirtual 244, 3) := by decide +kernel
theorem d_E_takeRow_50 : decode c_E_takeRow 50 = .ok (.iinc 4 1, 3) := by decide +kernel
theorem d_E_takeRow_53 : decode c_E_takeRow 53 = .ok (.iinc 5 1, 3) := by decide +kernel
theorem d_E_takeRow_56 : decode c_E_takeRow 56 = .ok (.goto (-50), 3) := by decide +kernel
theorem d_E_takeRow_59 : decode c_E_takeRow 59 = .ok (.return_, 1) := by decide +kernel
theorem d_E_leastFree_0 : decode c_E_leastFree 0 = .ok (.iconst 0, 1) := by decide +kernel
theorem d_E_leastFree_1 : decode c_E_leastFree 1 = .ok (.istore_n 2, 1) := by decide +kernel
theorem d_E_leastFree_2 : decode c_E_leastFree 2 = .ok (.iload_n 2, 1) := by decide +kernel
theorem d_E_leastFree_3 : decode c_E_leastFree 3 = .ok (.aload_n 0, 1) := by decide +kernel
theorem d_E_leastFree_4 : decode c_E_leastFree 4 = .ok (.getfield 16, 3) := by decide +kernel
theorem d_E_leastFree_7 : decode c_E_leastFree 7 = .ok (.if_icmp .ge 29, 3) := by decide +kernel
theorem d_E_leastFree_10 : decode c_E_leastFree 10 = .ok (.aload_n 0, 1) := by decide +kernel
theorem d_E_leastFree_11 : decode c_E_leastFree 11 = .ok (.getfield 43, 3) := by decide +kernel
theorem d_E_leastFree_14 : decode c_E_leastFree 14 = .ok (.iload_n 1, 1) := by decide +kernel
theorem d_E_leastFree_15 : decode c_E_leastFree 15 = .ok (.iaload, 1) := by decide +kernel
theorem d_E_leastFree_16 : decode c_E_leastFree 16 = .ok (.iconst 1, 1) := by decide +kernel
theorem d_E_leastFree_17 : decode c_E_leastFree 17 = .ok (.iload_n 2, 1) := by decide +kernel
theorem d_E_leastFree_18 : decode c_E_leastFree 18 = .ok (.ishl, 1) := by decide +kernel
theorem d_E_leastFree_19 : decode c_E_leastFree 19 = .ok (.iand, 1) := by decide +kernel
theorem d_E_leastFree_20 : decode c_E_leastFree 20 = .ok (.ifCond .ne 10, 3) := by decide +kernel
theorem d_E_leastFree_23 : decode c_E_leastFree 23 = .ok (.bipush 16, 2) := by decide +kernel
theorem d_E_leastFree_25 : decode c_E_leastFree 25 = .ok (.iload_n 1, 1) := by decide +kernel
theorem d_E_leastFree_26 : decode c_E_leastFree 26 = .ok (.imul, 1) := by decide +kernel
theorem d_E_leastFree_27 : decode c_E_leastFree 27 = .ok (.iload_n 2, 1) := by decide +kernel
theorem d_E_leastFree_28 : decode c_E_leastFree 28 = .ok (.iadd, 1) := by decide +kernel
theorem d_E_leastFree_29 : decode c_E_leastFree 29 = .ok (.ireturn, 1) := by decide +kernel
theorem d_E_leastFree_30 : decode c_E_leastFree 30 = .ok (.iinc 2 1, 3) := by decide +kernel
theorem d_E_leastFree_33 : decode c_E_leastFree 33 = .ok (.goto (-31), 3) := by decide +kernel
theorem d_E_leastFree_36 : decode c_E_leastFree 36 = .ok (.iconst (-1), 1) := by decide +kernel
theorem d_E_leastFree_37 : decode c_E_leastFree 37 = .ok (.ireturn, 1) := by decide +kernel
theorem d_E_commit_0 : decode c_E_commit 0 = .ok (.aload_n 0, 1) := by decide +kernel
theorem d_E_commit_1 : decode c_E_commit 1 = .ok (.dup, 1) := by decide +kernel
theorem d_E_commit_2 : decode c_E_commit 2 = .ok (.getfield 57, 3) := by decide +kernel
theorem d_E_commit_5 : decode c_E_commit 5 = .ok (.iconst 1, 1) := by decide +kernel
theorem d_E_commit_6 : decode c_E_commit 6 = .ok (.iadd, 1) := by decide +kernel
theorem d_E_commit_7 : decode c_E_commit 7 = .ok (.putfield 57, 3) := by decide +kernel
theorem d_E_commit_10 : decode c_E_commit 10 = .ok (.new 22, 3) := by decide +kernel
theorem d_E_commit_13 : decode c_E_commit 13 = .ok (.dup, 1) := by decide +kernel
theorem d_E_commit_14 : decode c_E_commit 14 = .ok (.aload_n 0, 1) := by decide +kernel
theorem d_E_commit_15 : decode c_E_commit 15 = .ok (.getfield 47, 3) := by decide +kernel
theorem d_E_commit_18 : decode c_E_commit 18 = .ok (.getfield 192, 3) := by decide +kernel
theorem d_E_commit_21 : decode c_E_commit 21 = .ok (.iconst 1, 1) := by decide +kernel
theorem d_E_commit_22 : decode c_E_commit 22 = .ok (.iadd, 1) := by decide +kernel
theorem d_E_commit_23 : decode c_E_commit 23 = .ok (.aload_n 0, 1) := by decide +kernel
theorem d_E_commit_24 : decode c_E_commit 24 = .ok (.getfield 57, 3) := by decide +kernel
theorem d_E_commit_27 : decode c_E_commit 27 = .ok (.aload_n 1, 1) := by decide +kernel
theorem d_E_commit_28 : decode c_E_commit 28 = .ok (.invokespecial 31, 3) := by decide +kernel
theorem d_E_commit_31 : decode c_E_commit 31 = .ok (.astore_n 2, 1) := by decide +kernel
theorem d_E_commit_32 : decode c_E_commit 32 = .ok (.iconst 0, 1) := by decide +kernel
theorem d_E_commit_33 : decode c_E_commit 33 = .ok (.istore_n 3, 1) := by decide +kernel
theorem d_E_commit_34 : decode c_E_commit 34 = .ok (.iload_n 3, 1) := by decide +kernel
theorem d_E_commit_35 : decode c_E_commit 35 = .ok (.aload_n 0, 1) := by decide +kernel
theorem d_E_commit_36 : decode c_E_commit 36 = .ok (.getfield 36, 3) := by decide +kernel
theorem d_E_commit_39 : decode c_E_commit 39 = .ok (.arraylength, 1) := by decide +kernel
theorem d_E_commit_40 : decode c_E_commit 40 = .ok (.if_icmp .ge 46, 3) := by decide +kernel
theorem d_E_commit_43 : decode c_E_commit 43 = .ok (.aload_n 0, 1) := by decide +kernel
theorem d_E_commit_44 : decode c_E_commit 44 = .ok (.getfield 36, 3) := by decide +kernel
theorem d_E_commit_47 : decode c_E_commit 47 = .ok (.iload_n 3, 1) := by decide +kernel
theorem d_E_commit_48 : decode c_E_commit 48 = .ok (.aaload, 1) := by decide +kernel
theorem d_E_commit_49 : decode c_E_commit 49 = .ok (.astore 4, 2) := by decide +kernel
theorem d_E_commit_51 : decode c_E_commit 51 = .ok (.aload 4, 2) := by decide +kernel
theorem d_E_commit_53 : decode c_E_commit 53 = .ok (.getfield 132, 3) := by decide +kernel
theorem d_E_commit_56 : decode c_E_commit 56 = .ok (.ifCond .eq 24, 3) := by decide +kernel
theorem d_E_commit_59 : decode c_E_commit 59 = .ok (.aload_n 0, 1) := by decide +kernel
theorem d_E_commit_60 : decode c_E_commit 60 = .ok (.aload 4, 2) := by decide +kernel
theorem d_E_commit_62 : decode c_E_commit 62 = .ok (.aload 4, 2) := by decide +kernel
theorem d_E_commit_64 : decode c_E_commit 64 = .ok (.aload_n 0, 1) := by decide +kernel
theorem d_E_commit_65 : decode c_E_commit 65 = .ok (.getfield 47, 3) := by decide +kernel
theorem d_E_commit_68 : decode c_E_commit 68 = .ok (.invokevirtual 224, 3) := by decide +kernel
theorem d_E_commit_71 : decode c_E_commit 71 = .ok (.aload_n 2, 1) := by decide +kernel
theorem d_E_commit_72 : decode c_E_commit 72 = .ok (.invokevirtual 228, 3) := by decide +kernel
theorem d_E_commit_75 : decode c_E_commit 75 = .ok (.ifCond .ne 5, 3) := by decide +kernel
theorem d_E_commit_78 : decode c_E_commit 78 = .ok (.iconst 0, 1) := by decide +kernel
theorem d_E_commit_79 : decode c_E_commit 79 = .ok (.ireturn, 1) := by decide +kernel
theorem d_E_commit_80 : decode c_E_commit 80 = .ok (.iinc 3 1, 3) := by decide +kernel
theorem d_E_commit_83 : decode c_E_commit 83 = .ok (.goto (-49), 3) := by decide +kernel
theorem d_E_commit_86 : decode c_E_commit 86 = .ok (.aload_n 0, 1) := by decide +kernel
theorem d_E_commit_87 : decode c_E_commit 87 = .ok (.aload_n 2, 1) := by decide +kernel
theorem d_E_commit_88 : decode c_E_commit 88 = .ok (.putfield 47, 3) := by decide +kernel
theorem d_E_commit_91 : decode c_E_commit 91 = .ok (.iconst 1, 1) := by decide +kernel
theorem d_E_commit_92 : decode c_E_commit 92 = .ok (.ireturn, 1) := by decide +kernel
theorem d_E_putCopy_0 : decode c_E_putCopy 0 = .ok (.aload_n 0, 1) := by decide +kernel
theorem d_E_putCopy_1 : decode c_E_putCopy 1 = .ok (.invokevirtual 218, 3) := by decide +kernel
theorem d_E_putCopy_4 : decode c_E_putCopy 4 = .ok (.istore 4, 2) := by decide +kernel
theorem d_E_putCopy_6 : decode c_E_putCopy 6 = .ok (.aload_n 1, 1) := by decide +kernel
theorem d_E_putCopy_7 : decode c_E_putCopy 7 = .ok (.getfield 208, 3) := by decide +kernel
theorem d_E_putCopy_10 : decode c_E_putCopy 10 = .ok (.iload_n 2, 1) := by decide +kernel
theorem d_E_putCopy_11 : decode c_E_putCopy 11 = .ok (.iload 4, 2) := by decide +kernel
theorem d_E_putCopy_13 : decode c_E_putCopy 13 = .ok (.ifCond .eq 7, 3) := by decide +kernel
theorem d_E_putCopy_16 : decode c_E_putCopy 16 = .ok (.aload_n 3, 1) := by decide +kernel
theorem d_E_putCopy_17 : decode c_E_putCopy 17 = .ok (.goto 4, 3) := by decide +kernel
theorem d_E_putCopy_20 : decode c_E_putCopy 20 = .ok (.aconst_null, 1) := by decide +kernel
theorem d_E_putCopy_21 : decode c_E_putCopy 21 = .ok (.aastore, 1) := by decide +kernel
theorem d_E_putCopy_22 : decode c_E_putCopy 22 = .ok (.aload_n 1, 1) := by decide +kernel
theorem d_E_putCopy_23 : decode c_E_putCopy 23 = .ok (.getfield 204, 3) := by decide +kernel
theorem d_E_putCopy_26 : decode c_E_putCopy 26 = .ok (.iload_n 2, 1) := by decide +kernel
theorem d_E_putCopy_27 : decode c_E_putCopy 27 = .ok (.iload 4, 2) := by decide +kernel
theorem d_E_putCopy_29 : decode c_E_putCopy 29 = .ok (.ifCond .ne 7, 3) := by decide +kernel
theorem d_E_putCopy_32 : decode c_E_putCopy 32 = .ok (.iconst 1, 1) := by decide +kernel
theorem d_E_putCopy_33 : decode c_E_putCopy 33 = .ok (.goto 4, 3) := by decide +kernel
theorem d_E_putCopy_36 : decode c_E_putCopy 36 = .ok (.iconst 0, 1) := by decide +kernel
theorem d_E_putCopy_37 : decode c_E_putCopy 37 = .ok (.bastore, 1) := by decide +kernel
theorem d_E_putCopy_38 : decode c_E_putCopy 38 = .ok (.aload_n 1, 1) := by decide +kernel
theorem d_E_putCopy_39 : decode c_E_putCopy 39 = .ok (.aload_n 1, 1) := by decide +kernel
theorem d_E_putCopy_40 : decode c_E_putCopy 40 = .ok (.getfield 221, 3) := by decide +kernel
theorem d_E_putCopy_43 : decode c_E_putCopy 43 = .ok (.iconst 1, 1) := by decide +kernel
theorem d_E_putCopy_44 : decode c_E_putCopy 44 = .ok (.iadd, 1) := by decide +kernel
theorem d_E_putCopy_45 : decode c_E_putCopy 45 = .ok (.iconst 3, 1) := by decide +kernel
theorem d_E_putCopy_46 : decode c_E_putCopy 46 = .ok (.irem, 1) := by decide +kernel
theorem d_E_putCopy_47 : decode c_E_putCopy 47 = .ok (.putfield 221, 3) := by decide +kernel
theorem d_E_putCopy_50 : decode c_E_putCopy 50 = .ok (.iload 4, 2) := by decide +kernel
theorem d_E_putCopy_52 : decode c_E_putCopy 52 = .ok (.ireturn, 1) := by decide +kernel
theorem d_E_mayAct_0 : decode c_E_mayAct 0 = .ok (.aload_n 0, 1) := by decide +kernel
theorem d_E_mayAct_1 : decode c_E_mayAct 1 = .ok (.getfield 64, 3) := by decide +kernel
theorem d_E_mayAct_4 : decode c_E_mayAct 4 = .ok (.ifCond .ne 9, 3) := by decide +kernel
theorem d_E_mayAct_7 : decode c_E_mayAct 7 = .ok (.aload_n 0, 1) := by decide +kernel
theorem d_E_mayAct_8 : decode c_E_mayAct 8 = .ok (.invokevirtual 181, 3) := by decide +kernel
theorem d_E_mayAct_11 : decode c_E_mayAct 11 = .ok (.iconst 0, 1) := by decide +kernel
theorem d_E_mayAct_12 : decode c_E_mayAct 12 = .ok (.ireturn, 1) := by decide +kernel
theorem d_E_mayAct_13 : decode c_E_mayAct 13 = .ok (.aload_n 0, 1) := by decide +kernel
theorem d_E_mayAct_14 : decode c_E_mayAct 14 = .ok (.getfield 64, 3) := by decide +kernel
theorem d_E_mayAct_17 : decode c_E_mayAct 17 = .ok (.ifCond .le 13, 3) := by decide +kernel
theorem d_E_mayAct_20 : decode c_E_mayAct 20 = .ok (.aload_n 0, 1) := by decide +kernel
theorem d_E_mayAct_21 : decode c_E_mayAct 21 = .ok (.dup, 1) := by decide +kernel
theorem d_E_mayAct_22 : decode c_E_mayAct 22 = .ok (.getfield 64, 3) := by decide +kernel
theorem d_E_mayAct_25 : decode c_E_mayAct 25 = .ok (.iconst 1, 1) := by decide +kernel
theorem d_E_mayAct_26 : decode c_E_mayAct 26 = .ok (.isub, 1) := by decide +kernel
theorem d_E_mayAct_27 : decode c_E_mayAct 27 = .ok (.putfield 64, 3) := by decide +kernel
theorem d_E_mayAct_30 : decode c_E_mayAct 30 = .ok (.iconst 1, 1) := by decide +kernel
theorem d_E_mayAct_31 : decode c_E_mayAct 31 = .ok (.ireturn, 1) := by decide +kernel
theorem d_E_goDown_0 : decode c_E_goDown 0 = .ok (.aload_n 0, 1) := by decide +kernel
theorem d_E_goDown_1 : decode c_E_goDown 1 = .ok (.iconst 0, 1) := by decide +kernel
theorem d_E_goDown_2 : decode c_E_goDown 2 = .ok (.putfield 60, 3) := by decide +kernel
theorem d_E_goDown_5 : decode c_E_goDown 5 = .ok (.aload_n 0, 1) := by decide +kernel
theorem d_E_goDown_6 : decode c_E_goDown 6 = .ok (.iconst (-1), 1) := by decide +kernel
theorem d_E_goDown_7 : decode c_E_goDown 7 = .ok (.putfield 64, 3) := by decide +kernel
theorem d_E_goDown_10 : decode c_E_goDown 10 = .ok (.return_, 1) := by decide +kernel
theorem d_E_extend_0 : decode c_E_extend 0 = .ok (.aload_n 0, 1) := by decide +kernel
theorem d_E_extend_1 : decode c_E_extend 1 = .ok (.getfield 60, 3) := by decide +kernel
theorem d_E_extend_4 : decode c_E_extend 4 = .ok (.ifCond .ne 6, 3) := by decide +kernel
theorem d_E_extend_7 : decode c_E_extend 7 = .ok (.bipush (-2), 2) := by decide +kernel
theorem d_E_extend_9 : decode c_E_extend 9 = .ok (.ireturn, 1) := by decide +kernel
theorem d_E_extend_10 : decode c_E_extend 10 = .ok (.aload_n 0, 1) := by decide +kernel
theorem d_E_extend_11 : decode c_E_extend 11 = .ok (.getfield 47, 3) := by decide +kernel
theorem d_E_extend_14 : decode c_E_extend 14 = .ok (.getfield 75, 3) := by decide +kernel
theorem d_E_extend_17 : decode c_E_extend 17 = .ok (.iload_n 1, 1) := by decide +kernel
theorem d_E_extend_18 : decode c_E_extend 18 = .ok (.invokevirtual 98, 3) := by decide +kernel
theorem d_E_extend_21 : decode c_E_extend 21 = .ok (.astore_n 3, 1) := by decide +kernel
theorem d_E_extend_22 : decode c_E_extend 22 = .ok (.aload_n 3, 1) := by decide +kernel
theorem d_E_extend_23 : decode c_E_extend 23 = .ok (.ifnull 24, 3) := by decide +kernel
theorem d_E_extend_26 : decode c_E_extend 26 = .ok (.iload_n 2, 1) := by decide +kernel
theorem d_E_extend_27 : decode c_E_extend 27 = .ok (.iconst 1, 1) := by decide +kernel
theorem d_E_extend_28 : decode c_E_extend 28 = .ok (.if_icmp .lt 19, 3) := by decide +kernel
theorem d_E_extend_31 : decode c_E_extend 31 = .ok (.iload_n 2, 1) := by decide +kernel
theorem d_E_extend_32 : decode c_E_extend 32 = .ok (.bipush 12, 2) := by decide +kernel
theorem d_E_extend_34 : decode c_E_extend 34 = .ok (.aload_n 3, 1) := by decide +kernel
theorem d_E_extend_35 : decode c_E_extend 35 = .ok (.getfield 102, 3) := by decide +kernel
theorem d_E_extend_38 : decode c_E_extend 38 = .ok (.idiv, 1) := by decide +kernel
theorem d_E_extend_39 : decode c_E_extend 39 = .ok (.aload_n 3, 1) := by decide +kernel
theorem d_E_extend_40 : decode c_E_extend 40 = .ok (.getfield 105, 3) := by decide +kernel
theorem d_E_extend_43 : decode c_E_extend 43 = .ok (.isub, 1) := by decide +kernel
theorem d_E_extend_44 : decode c_E_extend 44 = .ok (.if_icmp .le 5, 3) := by decide +kernel
theorem d_E_extend_47 : decode c_E_extend 47 = .ok (.iconst (-1), 1) := by decide +kernel
theorem d_E_extend_48 : decode c_E_extend 48 = .ok (.ireturn, 1) := by decide +kernel
theorem d_E_extend_49 : decode c_E_extend 49 = .ok (.aload_n 0, 1) := by decide +kernel
theorem d_E_extend_50 : decode c_E_extend 50 = .ok (.invokevirtual 71, 3) := by decide +kernel
theorem d_E_extend_53 : decode c_E_extend 53 = .ok (.ifCond .eq 6, 3) := by decide +kernel
theorem d_E_extend_56 : decode c_E_extend 56 = .ok (.bipush (-3), 2) := by decide +kernel
theorem d_E_extend_58 : decode c_E_extend 58 = .ok (.ireturn, 1) := by decide +kernel
theorem d_E_extend_59 : decode c_E_extend 59 = .ok (.aload_n 0, 1) := by decide +kernel
theorem d_E_extend_60 : decode c_E_extend 60 = .ok (.iload_n 1, 1) := by decide +kernel
theorem d_E_extend_61 : decode c_E_extend 61 = .ok (.invokevirtual 108, 3) := by decide +kernel
theorem d_E_extend_64 : decode c_E_extend 64 = .ok (.ifCond .eq 6, 3) := by decide +kernel
theorem d_E_extend_67 : decode c_E_extend 67 = .ok (.bipush (-4), 2) := by decide +kernel
theorem d_E_extend_69 : decode c_E_extend 69 = .ok (.ireturn, 1) := by decide +kernel
theorem d_E_extend_70 : decode c_E_extend 70 = .ok (.aload_n 3, 1) := by decide +kernel
theorem d_E_extend_71 : decode c_E_extend 71 = .ok (.aload_n 3, 1) := by decide +kernel
theorem d_E_extend_72 : decode c_E_extend 72 = .ok (.getfield 105, 3) := by decide +kernel
theorem d_E_extend_75 : decode c_E_extend 75 = .ok (.iload_n 2, 1) := by decide +kernel
theorem d_E_extend_76 : decode c_E_extend 76 = .ok (.iadd, 1) := by decide +kernel
theorem d_E_extend_77 : decode c_E_extend 77 = .ok (.invokevirtual 112, 3) := by decide +kernel
theorem d_E_extend_80 : decode c_E_extend 80 = .ok (.astore 4, 2) := by decide +kernel
theorem d_E_extend_82 : decode c_E_extend 82 = .ok (.aload_n 0, 1) := by decide +kernel
theorem d_E_extend_83 : decode c_E_extend 83 = .ok (.aload 4, 2) := by decide +kernel
theorem d_E_extend_85 : decode c_E_extend 85 = .ok (.aload_n 3, 1) := by decide +kernel
theorem d_E_extend_86 : decode c_E_extend 86 = .ok (.getfield 105, 3) := by decide +kernel
theorem d_E_extend_89 : decode c_E_extend 89 = .ok (.invokevirtual 86, 3) := by decide +kernel
theorem d_E_extend_92 : decode c_E_extend 92 = .ok (.ifCond .ne 6, 3) := by decide +kernel
theorem d_E_extend_95 : decode c_E_extend 95 = .ok (.bipush (-5), 2) := by decide +kernel
theorem d_E_extend_97 : decode c_E_extend 97 = .ok (.ireturn, 1) := by decide +kernel
theorem d_E_extend_98 : decode c_E_extend 98 = .ok (.aload_n 0, 1) := by decide +kernel
theorem d_E_extend_99 : decode c_E_extend 99 = .ok (.aload_n 0, 1) := by decide +kernel
theorem d_E_extend_100 : decode c_E_extend 100 = .ok (.getfield 47, 3) := by decide +kernel
theorem d_E_extend_103 : decode c_E_extend 103 = .ok (.getfield 75, 3) := by decide +kernel
theorem d_E_extend_106 : decode c_E_extend 106 = .ok (.iload_n 1, 1) := by decide +kernel
theorem d_E_extend_107 : decode c_E_extend 107 = .ok (.aload 4, 2) := by decide +kernel
theorem d_E_extend_109 : decode c_E_extend 109 = .ok (.invokevirtual 90, 3) := by decide +kernel
theorem d_E_extend_112 : decode c_E_extend 112 = .ok (.invokevirtual 94, 3) := by decide +kernel
theorem d_E_extend_115 : decode c_E_extend 115 = .ok (.ifCond .eq 11, 3) := by decide +kernel
theorem d_E_extend_118 : decode c_E_extend 118 = .ok (.aload 4, 2) := by decide +kernel
theorem d_E_extend_120 : decode c_E_extend 120 = .ok (.getfield 105, 3) := by decide +kernel
theorem d_E_extend_123 : decode c_E_extend 123 = .ok (.goto 5, 3) := by decide +kernel
theorem d_E_extend_126 : decode c_E_extend 126 = .ok (.bipush (-7), 2) := by decide +kernel
theorem d_E_extend_128 : decode c_E_extend 128 = .ok (.ireturn, 1) := by decide +kernel
theorem d_E_isMoving_0 : decode c_E_isMoving 0 = .ok (.aload_n 0, 1) := by decide +kernel
theorem d_E_isMoving_1 : decode c_E_isMoving 1 = .ok (.getfield 47, 3) := by decide +kernel
theorem d_E_isMoving_4 : decode c_E_isMoving 4 = .ok (.getfield 75, 3) := by decide +kernel
theorem d_E_isMoving_7 : decode c_E_isMoving 7 = .ok (.getfield 121, 3) := by decide +kernel
theorem d_E_isMoving_10 : decode c_E_isMoving 10 = .ok (.astore_n 2, 1) := by decide +kernel
theorem d_E_isMoving_11 : decode c_E_isMoving 11 = .ok (.aload_n 2, 1) := by decide +kernel
theorem d_E_isMoving_12 : decode c_E_isMoving 12 = .ok (.ifnull 15, 3) := by decide +kernel
theorem d_E_isMoving_15 : decode c_E_isMoving 15 = .ok (.aload_n 2, 1) := by decide +kernel
theorem d_E_isMoving_16 : decode c_E_isMoving 16 = .ok (.getfield 198, 3) := by decide +kernel
theorem d_E_isMoving_19 : decode c_E_isMoving 19 = .ok (.iload_n 1, 1) := by decide +kernel
theorem d_E_isMoving_20 : decode c_E_isMoving 20 = .ok (.if_icmp .ne 7, 3) := by decide +kernel
theorem d_E_isMoving_23 : decode c_E_isMoving 23 = .ok (.iconst 1, 1) := by decide +kernel
theorem d_E_isMoving_24 : decode c_E_isMoving 24 = .ok (.goto 4, 3) := by decide +kernel
theorem d_E_isMoving_27 : decode c_E_isMoving 27 = .ok (.iconst 0, 1) := by decide +kernel
theorem d_E_isMoving_28 : decode c_E_isMoving 28 = .ok (.ireturn, 1) := by decide +kernel
theorem d_E_reduce_0 : decode c_E_reduce 0 = .ok (.aload_n 0, 1) := by decide +kernel
theorem d_E_reduce_1 : decode c_E_reduce 1 = .ok (.getfield 60, 3) := by decide +kernel
theorem d_E_reduce_4 : decode c_E_reduce 4 = .ok (.ifCond .ne 6, 3) := by decide +kernel
theorem d_E_reduce_7 : decode c_E_reduce 7 = .ok (.bipush (-2), 2) := by decide +kernel
theorem d_E_reduce_9 : decode c_E_reduce 9 = .ok (.ireturn, 1) := by decide +kernel
theorem d_E_reduce_10 : decode c_E_reduce 10 = .ok (.aload_n 0, 1) := by decide +kernel
theorem d_E_reduce_11 : decode c_E_reduce 11 = .ok (.getfield 47, 3) := by decide +kernel
theorem d_E_reduce_14 : decode c_E_reduce 14 = .ok (.getfield 75, 3) := by decide +kernel
theorem d_E_reduce_17 : decode c_E_reduce 17 = .ok (.iload_n 1, 1) := by decide +kernel
theorem d_E_reduce_18 : decode c_E_reduce 18 = .ok (.invokevirtual 98, 3) := by decide +kernel
theorem d_E_reduce_21 : decode c_E_reduce 21 = .ok (.astore_n 3, 1) := by decide +kernel
theorem d_E_reduce_22 : decode c_E_reduce 22 = .ok (.aload_n 3, 1) := by decide +kernel
theorem d_E_reduce_23 : decode c_E_reduce 23 = .ok (.ifnull 16, 3) := by decide +kernel
theorem d_E_reduce_26 : decode c_E_reduce 26 = .ok (.iload_n 2, 1) := by decide +kernel
theorem d_E_reduce_27 : decode c_E_reduce 27 = .ok (.iconst 1, 1) := by decide +kernel
theorem d_E_reduce_28 : decode c_E_reduce 28 = .ok (.if_icmp .lt 11, 3) := by decide +kernel
theorem d_E_reduce_31 : decode c_E_reduce 31 = .ok (.iload_n 2, 1) := by decide +kernel
theorem d_E_reduce_32 : decode c_E_reduce 32 = .ok (.aload_n 3, 1) := by decide +kernel
theorem d_E_reduce_33 : decode c_E_reduce 33 = .ok (.getfield 105, 3) := by decide +kernel
theorem d_E_reduce_36 : decode c_E_reduce 36 = .ok (.if_icmp .le 5, 3) := by decide +kernel
theorem d_E_reduce_39 : decode c_E_reduce 39 = .ok (.iconst (-1), 1) := by decide +kernel
theorem d_E_reduce_40 : decode c_E_reduce 40 = .ok (.ireturn, 1) := by decide +kernel
theorem d_E_reduce_41 : decode c_E_reduce 41 = .ok (.aload_n 0, 1) := by decide +kernel
theorem d_E_reduce_42 : decode c_E_reduce 42 = .ok (.invokevirtual 71, 3) := by decide +kernel
theorem d_E_reduce_45 : decode c_E_reduce 45 = .ok (.ifCond .eq 6, 3) := by decide +kernel
theorem d_E_reduce_48 : decode c_E_reduce 48 = .ok (.bipush (-3), 2) := by decide +kernel
theorem d_E_reduce_50 : decode c_E_reduce 50 = .ok (.ireturn, 1) := by decide +kernel
theorem d_E_reduce_51 : decode c_E_reduce 51 = .ok (.aload_n 0, 1) := by decide +kernel
theorem d_E_reduce_52 : decode c_E_reduce 52 = .ok (.iload_n 1, 1) := by decide +kernel
theorem d_E_reduce_53 : decode c_E_reduce 53 = .ok (.invokevirtual 108, 3) := by decide +kernel
theorem d_E_reduce_56 : decode c_E_reduce 56 = .ok (.ifCond .eq 6, 3) := by decide +kernel
theorem d_E_reduce_59 : decode c_E_reduce 59 = .ok (.bipush (-4), 2) := by decide +kernel
theorem d_E_reduce_61 : decode c_E_reduce 61 = .ok (.ireturn, 1) := by decide +kernel
theorem d_E_reduce_62 : decode c_E_reduce 62 = .ok (.aload_n 3, 1) := by decide +kernel
theorem d_E_reduce_63 : decode c_E_reduce 63 = .ok (.getfield 105, 3) := by decide +kernel
theorem d_E_reduce_66 : decode c_E_reduce 66 = .ok (.iload_n 2, 1) := by decide +kernel
theorem d_E_reduce_67 : decode c_E_reduce 67 = .ok (.isub, 1) := by decide +kernel
theorem d_E_reduce_68 : decode c_E_reduce 68 = .ok (.istore 4, 2) := by decide +kernel
theorem d_E_reduce_70 : decode c_E_reduce 70 = .ok (.iload 4, 2) := by decide +kernel
theorem d_E_reduce_72 : decode c_E_reduce 72 = .ok (.ifCond .ne 7, 3) := by decide +kernel
theorem d_E_reduce_75 : decode c_E_reduce 75 = .ok (.aconst_null, 1) := by decide +kernel
theorem d_E_reduce_76 : decode c_E_reduce 76 = .ok (.goto 9, 3) := by decide +kernel
theorem d_E_reduce_79 : decode c_E_reduce 79 = .ok (.aload_n 3, 1) := by decide +kernel
theorem d_E_reduce_80 : decode c_E_reduce 80 = .ok (.iload 4, 2) := by decide +kernel
theorem d_E_reduce_82 : decode c_E_reduce 82 = .ok (.invokevirtual 112, 3) := by decide +kernel
theorem d_E_reduce_85 : decode c_E_reduce 85 = .ok (.astore 5, 2) := by decide +kernel
theorem d_E_reduce_87 : decode c_E_reduce 87 = .ok (.aload_n 0, 1) := by decide +kernel
theorem d_E_reduce_88 : decode c_E_reduce 88 = .ok (.aload_n 0, 1) := by decide +kernel
theorem d_E_reduce_89 : decode c_E_reduce 89 = .ok (.getfield 47, 3) := by decide +kernel
theorem d_E_reduce_92 : decode c_E_reduce 92 = .ok (.getfield 75, 3) := by decide +kernel
theorem d_E_reduce_95 : decode c_E_reduce 95 = .ok (.iload_n 1, 1) := by decide +kernel
theorem d_E_reduce_96 : decode c_E_reduce 96 = .ok (.aload 5, 2) := by decide +kernel
theorem d_E_reduce_98 : decode c_E_reduce 98 = .ok (.invokevirtual 90, 3) := by decide +kernel
theorem d_E_reduce_101 : decode c_E_reduce 101 = .ok (.invokevirtual 94, 3) := by decide +kernel
theorem d_E_reduce_104 : decode c_E_reduce 104 = .ok (.ifCond .eq 8, 3) := by decide +kernel
theorem d_E_reduce_107 : decode c_E_reduce 107 = .ok (.iload 4, 2) := by decide +kernel
theorem d_E_reduce_109 : decode c_E_reduce 109 = .ok (.goto 5, 3) := by decide +kernel
theorem d_E_reduce_112 : decode c_E_reduce 112 = .ok (.bipush (-7), 2) := by decide +kernel
theorem d_E_reduce_114 : decode c_E_reduce 114 = .ok (.ireturn, 1) := by decide +kernel
theorem d_E_move_0 : decode c_E_move 0 = .ok (.aload_n 0, 1) := by decide +kernel
theorem d_E_move_1 : decode c_E_move 1 = .ok (.getfield 60, 3) := by decide +kernel
theorem d_E_move_4 : decode c_E_move 4 = .ok (.ifCond .ne 6, 3) := by decide +kernel
theorem d_E_move_7 : decode c_E_move 7 = .ok (.bipush (-2), 2) := by decide +kernel
theorem d_E_move_9 : decode c_E_move 9 = .ok (.ireturn, 1) := by decide +kernel
theorem d_E_move_10 : decode c_E_move 10 = .ok (.aload_n 0, 1) := by decide +kernel
theorem d_E_move_11 : decode c_E_move 11 = .ok (.getfield 47, 3) := by decide +kernel
theorem d_E_move_14 : decode c_E_move 14 = .ok (.getfield 75, 3) := by decide +kernel
theorem d_E_move_17 : decode c_E_move 17 = .ok (.iload_n 1, 1) := by decide +kernel
theorem d_E_move_18 : decode c_E_move 18 = .ok (.invokevirtual 98, 3) := by decide +kernel
theorem d_E_move_21 : decode c_E_move 21 = .ok (.astore 4, 2) := by decide +kernel
theorem d_E_move_23 : decode c_E_move 23 = .ok (.aload 4, 2) := by decide +kernel
theorem d_E_move_25 : decode c_E_move 25 = .ok (.ifnull 20, 3) := by decide +kernel
theorem d_E_move_28 : decode c_E_move 28 = .ok (.aload 4, 2) := by decide +kernel
theorem d_E_move_30 : decode c_E_move 30 = .ok (.iload_n 2, 1) := by decide +kernel
theorem d_E_move_31 : decode c_E_move 31 = .ok (.invokevirtual 115, 3) := by decide +kernel
theorem d_E_move_34 : decode c_E_move 34 = .ok (.ifCond .eq 11, 3) := by decide +kernel
theorem d_E_move_37 : decode c_E_move 37 = .ok (.aload_n 0, 1) := by decide +kernel
theorem d_E_move_38 : decode c_E_move 38 = .ok (.iload_n 3, 1) := by decide +kernel
theorem d_E_move_39 : decode c_E_move 39 = .ok (.invokevirtual 118, 3) := by decide +kernel
theorem d_E_move_42 : decode c_E_move 42 = .ok (.ifCond .ne 5, 3) := by decide +kernel
theorem d_E_move_45 : decode c_E_move 45 = .ok (.iconst (-1), 1) := by decide +kernel
theorem d_E_move_46 : decode c_E_move 46 = .ok (.ireturn, 1) := by decide +kernel
theorem d_E_move_47 : decode c_E_move 47 = .ok (.aload_n 0, 1) := by decide +kernel
theorem d_E_move_48 : decode c_E_move 48 = .ok (.invokevirtual 71, 3) := by decide +kernel
theorem d_E_move_51 : decode c_E_move 51 = .ok (.ifCond .eq 6, 3) := by decide +kernel
theorem d_E_move_54 : decode c_E_move 54 = .ok (.bipush (-3), 2) := by decide +kernel
theorem d_E_move_56 : decode c_E_move 56 = .ok (.ireturn, 1) := by decide +kernel
theorem d_E_move_57 : decode c_E_move 57 = .ok (.aload_n 0, 1) := by decide +kernel
theorem d_E_move_58 : decode c_E_move 58 = .ok (.getfield 47, 3) := by decide +kernel
theorem d_E_move_61 : decode c_E_move 61 = .ok (.getfield 75, 3) := by decide +kernel
theorem d_E_move_64 : decode c_E_move 64 = .ok (.getfield 121, 3) := by decide +kernel
theorem d_E_move_67 : decode c_E_move 67 = .ok (.ifnull 6, 3) := by decide +kernel
theorem d_E_move_70 : decode c_E_move 70 = .ok (.bipush (-4), 2) := by decide +kernel
theorem d_E_move_72 : decode c_E_move 72 = .ok (.ireturn, 1) := by decide +kernel
theorem d_E_move_73 : decode c_E_move 73 = .ok (.aload 4, 2) := by decide +kernel
theorem d_E_move_75 : decode c_E_move 75 = .ok (.getfield 125, 3) := by decide +kernel
theorem d_E_move_78 : decode c_E_move 78 = .ok (.iload_n 2, 1) := by decide +kernel
theorem d_E_move_79 : decode c_E_move 79 = .ok (.iaload, 1) := by decide +kernel
theorem d_E_move_80 : decode c_E_move 80 = .ok (.istore 5, 2) := by decide +kernel
theorem d_E_move_82 : decode c_E_move 82 = .ok (.aload_n 0, 1) := by decide +kernel
theorem d_E_move_83 : decode c_E_move 83 = .ok (.iload 5, 2) := by decide +kernel
theorem d_E_move_85 : decode c_E_move 85 = .ok (.invokevirtual 128, 3) := by decide +kernel
theorem d_E_move_88 : decode c_E_move 88 = .ok (.getfield 132, 3) := by decide +kernel
theorem d_E_move_91 : decode c_E_move 91 = .ok (.ifCond .eq 15, 3) := by decide +kernel
theorem d_E_move_94 : decode c_E_move 94 = .ok (.aload_n 0, 1) := by decide +kernel
theorem d_E_move_95 : decode c_E_move 95 = .ok (.getfield 36, 3) := by decide +kernel
theorem d_E_move_98 : decode c_E_move 98 = .ok (.iload_n 3, 1) := by decide +kernel
theorem d_E_move_99 : decode c_E_move 99 = .ok (.aaload, 1) := by decide +kernel
theorem d_E_move_100 : decode c_E_move 100 = .ok (.getfield 132, 3) := by decide +kernel
theorem d_E_move_103 : decode c_E_move 103 = .ok (.ifCond .ne 6, 3) := by decide +kernel
theorem d_E_move_106 : decode c_E_move 106 = .ok (.bipush (-6), 2) := by decide +kernel
theorem d_E_move_108 : decode c_E_move 108 = .ok (.ireturn, 1) := by decide +kernel
theorem d_E_move_109 : decode c_E_move 109 = .ok (.aload_n 0, 1) := by decide +kernel
theorem d_E_move_110 : decode c_E_move 110 = .ok (.invokevirtual 135, 3) := by decide +kernel
theorem d_E_move_113 : decode c_E_move 113 = .ok (.aload_n 0, 1) := by decide +kernel
theorem d_E_move_114 : decode c_E_move 114 = .ok (.iload_n 3, 1) := by decide +kernel
theorem d_E_move_115 : decode c_E_move 115 = .ok (.invokevirtual 138, 3) := by decide +kernel
theorem d_E_move_118 : decode c_E_move 118 = .ok (.istore 6, 2) := by decide +kernel
theorem d_E_move_120 : decode c_E_move 120 = .ok (.iload 6, 2) := by decide +kernel
theorem d_E_move_122 : decode c_E_move 122 = .ok (.iconst (-1), 1) := by decide +kernel
theorem d_E_move_123 : decode c_E_move 123 = .ok (.if_icmp .ne 6, 3) := by decide +kernel
theorem d_E_move_126 : decode c_E_move 126 = .ok (.bipush (-5), 2) := by decide +kernel
theorem d_E_move_128 : decode c_E_move 128 = .ok (.ireturn, 1) := by decide +kernel
theorem d_E_move_129 : decode c_E_move 129 = .ok (.aload_n 0, 1) := by decide +kernel
theorem d_E_move_130 : decode c_E_move 130 = .ok (.aload_n 0, 1) := by decide +kernel
theorem d_E_move_131 : decode c_E_move 131 = .ok (.getfield 47, 3) := by decide +kernel
theorem d_E_move_134 : decode c_E_move 134 = .ok (.getfield 75, 3) := by decide +kernel
theorem d_E_move_137 : decode c_E_move 137 = .ok (.new 142, 3) := by decide +kernel
theorem d_E_move_140 : decode c_E_move 140 = .ok (.dup, 1) := by decide +kernel
theorem d_E_move_141 : decode c_E_move 141 = .ok (.iload_n 1, 1) := by decide +kernel
theorem d_E_move_142 : decode c_E_move 142 = .ok (.iload_n 2, 1) := by decide +kernel
theorem d_E_move_143 : decode c_E_move 143 = .ok (.iload 5, 2) := by decide +kernel
theorem d_E_move_145 : decode c_E_move 145 = .ok (.iload 6, 2) := by decide +kernel
theorem d_E_move_147 : decode c_E_move 147 = .ok (.invokespecial 144, 3) := by decide +kernel
theorem d_E_move_150 : decode c_E_move 150 = .ok (.invokevirtual 147, 3) := by decide +kernel
theorem d_E_move_153 : decode c_E_move 153 = .ok (.invokevirtual 94, 3) := by decide +kernel
theorem d_E_move_156 : decode c_E_move 156 = .ok (.ifCond .ne 6, 3) := by decide +kernel
theorem d_E_move_159 : decode c_E_move 159 = .ok (.bipush (-7), 2) := by decide +kernel
theorem d_E_move_161 : decode c_E_move 161 = .ok (.ireturn, 1) := by decide +kernel
theorem d_E_move_162 : decode c_E_move 162 = .ok (.aload_n 0, 1) := by decide +kernel
theorem d_E_move_163 : decode c_E_move 163 = .ok (.iconst 0, 1) := by decide +kernel
theorem d_E_move_164 : decode c_E_move 164 = .ok (.putfield 51, 3) := by decide +kernel
theorem d_E_move_167 : decode c_E_move 167 = .ok (.iconst 0, 1) := by decide +kernel
theorem d_E_move_168 : decode c_E_move 168 = .ok (.ireturn, 1) := by decide +kernel
theorem d_E_isDisk_0 : decode c_E_isDisk 0 = .ok (.iload_n 1, 1) := by decide +kernel
theorem d_E_isDisk_1 : decode c_E_isDisk 1 = .ok (.ifCond .lt 16, 3) := by decide +kernel
theorem d_E_isDisk_4 : decode c_E_isDisk 4 = .ok (.iload_n 1, 1) := by decide +kernel
theorem d_E_isDisk_5 : decode c_E_isDisk 5 = .ok (.aload_n 0, 1) := by decide +kernel
theorem d_E_isDisk_6 : decode c_E_isDisk 6 = .ok (.getfield 36, 3) := by decide +kernel
theorem d_E_isDisk_9 : decode c_E_isDisk 9 = .ok (.arraylength, 1) := by decide +kernel
theorem d_E_isDisk_10 : decode c_E_isDisk 10 = .ok (.if_icmp .ge 7, 3) := by decide +kernel
theorem d_E_isDisk_13 : decode c_E_isDisk 13 = .ok (.iconst 1, 1) := by decide +kernel
theorem d_E_isDisk_14 : decode c_E_isDisk 14 = .ok (.goto 4, 3) := by decide +kernel
theorem d_E_isDisk_17 : decode c_E_isDisk 17 = .ok (.iconst 0, 1) := by decide +kernel
theorem d_E_isDisk_18 : decode c_E_isDisk 18 = .ok (.ireturn, 1) := by decide +kernel
theorem d_E_diskOf_0 : decode c_E_diskOf 0 = .ok (.aload_n 0, 1) := by decide +kernel
theorem d_E_diskOf_1 : decode c_E_diskOf 1 = .ok (.getfield 36, 3) := by decide +kernel
theorem d_E_diskOf_4 : decode c_E_diskOf 4 = .ok (.iload_n 1, 1) := by decide +kernel
theorem d_E_diskOf_5 : decode c_E_diskOf 5 = .ok (.bipush 16, 2) := by decide +kernel
theorem d_E_diskOf_7 : decode c_E_diskOf 7 = .ok (.idiv, 1) := by decide +kernel
theorem d_E_diskOf_8 : decode c_E_diskOf 8 = .ok (.aaload, 1) := by decide +kernel
theorem d_E_diskOf_9 : decode c_E_diskOf 9 = .ok (.areturn, 1) := by decide +kernel
theorem d_E_step_0 : decode c_E_step 0 = .ok (.aload_n 0, 1) := by decide +kernel
theorem d_E_step_1 : decode c_E_step 1 = .ok (.getfield 60, 3) := by decide +kernel
theorem d_E_step_4 : decode c_E_step 4 = .ok (.ifCond .ne 6, 3) := by decide +kernel
theorem d_E_step_7 : decode c_E_step 7 = .ok (.bipush (-2), 2) := by decide +kernel
theorem d_E_step_9 : decode c_E_step 9 = .ok (.ireturn, 1) := by decide +kernel
theorem d_E_step_10 : decode c_E_step 10 = .ok (.aload_n 0, 1) := by decide +kernel
theorem d_E_step_11 : decode c_E_step 11 = .ok (.getfield 47, 3) := by decide +kernel
theorem d_E_step_14 : decode c_E_step 14 = .ok (.getfield 75, 3) := by decide +kernel
theorem d_E_step_17 : decode c_E_step 17 = .ok (.getfield 121, 3) := by decide +kernel
theorem d_E_step_20 : decode c_E_step 20 = .ok (.astore_n 1, 1) := by decide +kernel
theorem d_E_step_21 : decode c_E_step 21 = .ok (.aload_n 1, 1) := by decide +kernel
theorem d_E_step_22 : decode c_E_step 22 = .ok (.ifnonnull 6, 3) := by decide +kernel
theorem d_E_step_25 : decode c_E_step 25 = .ok (.bipush (-8), 2) := by decide +kernel
theorem d_E_step_27 : decode c_E_step 27 = .ok (.ireturn, 1) := by decide +kernel
theorem d_E_step_28 : decode c_E_step 28 = .ok (.aload_n 0, 1) := by decide +kernel
theorem d_E_step_29 : decode c_E_step 29 = .ok (.invokevirtual 71, 3) := by decide +kernel
theorem d_E_step_32 : decode c_E_step 32 = .ok (.ifCond .eq 6, 3) := by decide +kernel
theorem d_E_step_35 : decode c_E_step 35 = .ok (.bipush (-3), 2) := by decide +kernel
theorem d_E_step_37 : decode c_E_step 37 = .ok (.ireturn, 1) := by decide +kernel
theorem d_E_step_38 : decode c_E_step 38 = .ok (.aload_n 0, 1) := by decide +kernel
theorem d_E_step_39 : decode c_E_step 39 = .ok (.aload_n 1, 1) := by decide +kernel
theorem d_E_step_40 : decode c_E_step 40 = .ok (.getfield 151, 3) := by decide +kernel
theorem d_E_step_43 : decode c_E_step 43 = .ok (.invokevirtual 128, 3) := by decide +kernel
theorem d_E_step_46 : decode c_E_step 46 = .ok (.getfield 132, 3) := by decide +kernel
theorem d_E_step_49 : decode c_E_step 49 = .ok (.ifCond .eq 17, 3) := by decide +kernel
theorem d_E_step_52 : decode c_E_step 52 = .ok (.aload_n 0, 1) := by decide +kernel
theorem d_E_step_53 : decode c_E_step 53 = .ok (.aload_n 1, 1) := by decide +kernel
theorem d_E_step_54 : decode c_E_step 54 = .ok (.getfield 154, 3) := by decide +kernel
theorem d_E_step_57 : decode c_E_step 57 = .ok (.invokevirtual 128, 3) := by decide +kernel
theorem d_E_step_60 : decode c_E_step 60 = .ok (.getfield 132, 3) := by decide +kernel
theorem d_E_step_63 : decode c_E_step 63 = .ok (.ifCond .ne 6, 3) := by decide +kernel
theorem d_E_step_66 : decode c_E_step 66 = .ok (.bipush (-6), 2) := by decide +kernel
theorem d_E_step_68 : decode c_E_step 68 = .ok (.ireturn, 1) := by decide +kernel
theorem d_E_step_69 : decode c_E_step 69 = .ok (.aload_n 0, 1) := by decide +kernel
theorem d_E_step_70 : decode c_E_step 70 = .ok (.getfield 51, 3) := by decide +kernel
theorem d_E_step_73 : decode c_E_step 73 = .ok (.iconst 4, 1) := by decide +kernel
theorem d_E_step_74 : decode c_E_step 74 = .ok (.if_icmp .ne 27, 3) := by decide +kernel
theorem d_E_step_77 : decode c_E_step 77 = .ok (.aload_n 0, 1) := by decide +kernel
theorem d_E_step_78 : decode c_E_step 78 = .ok (.aload_n 0, 1) := by decide +kernel
theorem d_E_step_79 : decode c_E_step 79 = .ok (.getfield 47, 3) := by decide +kernel
theorem d_E_step_82 : decode c_E_step 82 = .ok (.getfield 75, 3) := by decide +kernel
theorem d_E_step_85 : decode c_E_step 85 = .ok (.invokevirtual 157, 3) := by decide +kernel
theorem d_E_step_88 : decode c_E_step 88 = .ok (.invokevirtual 94, 3) := by decide +kernel
theorem d_E_step_91 : decode c_E_step 91 = .ok (.ifCond .eq 7, 3) := by decide +kernel
theorem d_E_step_94 : decode c_E_step 94 = .ok (.iconst 4, 1) := by decide +kernel
theorem d_E_step_95 : decode c_E_step 95 = .ok (.goto 5, 3) := by decide +kernel
theorem d_E_step_98 : decode c_E_step 98 = .ok (.bipush (-7), 2) := by decide +kernel
theorem d_E_step_100 : decode c_E_step 100 = .ok (.ireturn, 1) := by decide +kernel
theorem d_E_step_101 : decode c_E_step 101 = .ok (.aload_n 0, 1) := by decide +kernel
theorem d_E_step_102 : decode c_E_step 102 = .ok (.aload_n 1, 1) := by decide +kernel
theorem d_E_step_103 : decode c_E_step 103 = .ok (.getfield 154, 3) := by decide +kernel
theorem d_E_step_106 : decode c_E_step 106 = .ok (.aload_n 0, 1) := by decide +kernel
theorem d_E_step_107 : decode c_E_step 107 = .ok (.getfield 51, 3) := by decide +kernel
theorem d_E_step_110 : decode c_E_step 110 = .ok (.aload_n 0, 1) := by decide +kernel
theorem d_E_step_111 : decode c_E_step 111 = .ok (.aload_n 1, 1) := by decide +kernel
theorem d_E_step_112 : decode c_E_step 112 = .ok (.getfield 151, 3) := by decide +kernel
theorem d_E_step_115 : decode c_E_step 115 = .ok (.aload_n 0, 1) := by decide +kernel
theorem d_E_step_116 : decode c_E_step 116 = .ok (.getfield 51, 3) := by decide +kernel
theorem d_E_step_119 : decode c_E_step 119 = .ok (.invokevirtual 161, 3) := by decide +kernel
theorem d_E_step_122 : decode c_E_step 122 = .ok (.invokevirtual 164, 3) := by decide +kernel
theorem d_E_step_125 : decode c_E_step 125 = .ok (.ifCond .ne 6, 3) := by decide +kernel
theorem d_E_step_128 : decode c_E_step 128 = .ok (.bipush (-7), 2) := by decide +kernel
theorem d_E_step_130 : decode c_E_step 130 = .ok (.ireturn, 1) := by decide +kernel
theorem d_E_step_131 : decode c_E_step 131 = .ok (.aload_n 0, 1) := by decide +kernel
theorem d_E_step_132 : decode c_E_step 132 = .ok (.dup, 1) := by decide +kernel
theorem d_E_step_133 : decode c_E_step 133 = .ok (.getfield 51, 3) := by decide +kernel
theorem d_E_step_136 : decode c_E_step 136 = .ok (.iconst 1, 1) := by decide +kernel
theorem d_E_step_137 : decode c_E_step 137 = .ok (.iadd, 1) := by decide +kernel
theorem d_E_step_138 : decode c_E_step 138 = .ok (.putfield 51, 3) := by decide +kernel
theorem d_E_step_141 : decode c_E_step 141 = .ok (.iconst 4, 1) := by decide +kernel
theorem d_E_step_142 : decode c_E_step 142 = .ok (.aload_n 0, 1) := by decide +kernel
theorem d_E_step_143 : decode c_E_step 143 = .ok (.getfield 51, 3) := by decide +kernel
theorem d_E_step_146 : decode c_E_step 146 = .ok (.isub, 1) := by decide +kernel
theorem d_E_step_147 : decode c_E_step 147 = .ok (.ireturn, 1) := by decide +kernel
theorem d_E_cellAt_0 : decode c_E_cellAt 0 = .ok (.aload_n 0, 1) := by decide +kernel
theorem d_E_cellAt_1 : decode c_E_cellAt 1 = .ok (.iload_n 1, 1) := by decide +kernel
theorem d_E_cellAt_2 : decode c_E_cellAt 2 = .ok (.invokevirtual 128, 3) := by decide +kernel
theorem d_E_cellAt_5 : decode c_E_cellAt 5 = .ok (.getfield 215, 3) := by decide +kernel
theorem d_E_cellAt_8 : decode c_E_cellAt 8 = .ok (.iload_n 1, 1) := by decide +kernel
theorem d_E_cellAt_9 : decode c_E_cellAt 9 = .ok (.bipush 16, 2) := by decide +kernel
theorem d_E_cellAt_11 : decode c_E_cellAt 11 = .ok (.irem, 1) := by decide +kernel
theorem d_E_cellAt_12 : decode c_E_cellAt 12 = .ok (.iconst 4, 1) := by decide +kernel
theorem d_E_cellAt_13 : decode c_E_cellAt 13 = .ok (.imul, 1) := by decide +kernel
theorem d_E_cellAt_14 : decode c_E_cellAt 14 = .ok (.iload_n 2, 1) := by decide +kernel
theorem d_E_cellAt_15 : decode c_E_cellAt 15 = .ok (.iadd, 1) := by decide +kernel
theorem d_E_cellAt_16 : decode c_E_cellAt 16 = .ok (.iaload, 1) := by decide +kernel
theorem d_E_cellAt_17 : decode c_E_cellAt 17 = .ok (.ireturn, 1) := by decide +kernel
theorem d_E_putCell_0 : decode c_E_putCell 0 = .ok (.aload_n 0, 1) := by decide +kernel
theorem d_E_putCell_1 : decode c_E_putCell 1 = .ok (.invokevirtual 218, 3) := by decide +kernel
theorem d_E_putCell_4 : decode c_E_putCell 4 = .ok (.ifCond .ne 5, 3) := by decide +kernel
theorem d_E_putCell_7 : decode c_E_putCell 7 = .ok (.iconst 0, 1) := by decide +kernel
theorem d_E_putCell_8 : decode c_E_putCell 8 = .ok (.ireturn, 1) := by decide +kernel
theorem d_E_putCell_9 : decode c_E_putCell 9 = .ok (.aload_n 0, 1) := by decide +kernel
theorem d_E_putCell_10 : decode c_E_putCell 10 = .ok (.iload_n 1, 1) := by decide +kernel
theorem d_E_putCell_11 : decode c_E_putCell 11 = .ok (.invokevirtual 128, 3) := by decide +kernel
theorem d_E_putCell_14 : decode c_E_putCell 14 = .ok (.getfield 215, 3) := by decide +kernel
theorem d_E_putCell_17 : decode c_E_putCell 17 = .ok (.iload_n 1, 1) := by decide +kernel
theorem d_E_putCell_18 : decode c_E_putCell 18 = .ok (.bipush 16, 2) := by decide +kernel
theorem d_E_putCell_20 : decode c_E_putCell 20 = .ok (.irem, 1) := by decide +kernel
theorem d_E_putCell_21 : decode c_E_putCell 21 = .ok (.iconst 4, 1) := by decide +kernel
theorem d_E_putCell_22 : decode c_E_putCell 22 = .ok (.imul, 1) := by decide +kernel
theorem d_E_putCell_23 : decode c_E_putCell 23 = .ok (.iload_n 2, 1) := by decide +kernel
theorem d_E_putCell_24 : decode c_E_putCell 24 = .ok (.iadd, 1) := by decide +kernel
theorem d_E_putCell_25 : decode c_E_putCell 25 = .ok (.iload_n 3, 1) := by decide +kernel
theorem d_E_putCell_26 : decode c_E_putCell 26 = .ok (.iastore, 1) := by decide +kernel
theorem d_E_putCell_27 : decode c_E_putCell 27 = .ok (.iconst 1, 1) := by decide +kernel
theorem d_E_putCell_28 : decode c_E_putCell 28 = .ok (.ireturn, 1) := by decide +kernel
theorem d_E_cancel_0 : decode c_E_cancel 0 = .ok (.aload_n 0, 1) := by decide +kernel
theorem d_E_cancel_1 : decode c_E_cancel 1 = .ok (.getfield 60, 3) := by decide +kernel
theorem d_E_cancel_4 : decode c_E_cancel 4 = .ok (.ifCond .ne 6, 3) := by decide +kernel
theorem d_E_cancel_7 : decode c_E_cancel 7 = .ok (.bipush (-2), 2) := by decide +kernel
theorem d_E_cancel_9 : decode c_E_cancel 9 = .ok (.ireturn, 1) := by decide +kernel
theorem d_E_cancel_10 : decode c_E_cancel 10 = .ok (.aload_n 0, 1) := by decide +kernel
theorem d_E_cancel_11 : decode c_E_cancel 11 = .ok (.getfield 47, 3) := by decide +kernel
theorem d_E_cancel_14 : decode c_E_cancel 14 = .ok (.getfield 75, 3) := by decide +kernel
theorem d_E_cancel_17 : decode c_E_cancel 17 = .ok (.getfield 121, 3) := by decide +kernel
theorem d_E_cancel_20 : decode c_E_cancel 20 = .ok (.ifnonnull 6, 3) := by decide +kernel
theorem d_E_cancel_23 : decode c_E_cancel 23 = .ok (.bipush (-8), 2) := by decide +kernel
theorem d_E_cancel_25 : decode c_E_cancel 25 = .ok (.ireturn, 1) := by decide +kernel
theorem d_E_cancel_26 : decode c_E_cancel 26 = .ok (.aload_n 0, 1) := by decide +kernel
theorem d_E_cancel_27 : decode c_E_cancel 27 = .ok (.invokevirtual 71, 3) := by decide +kernel
theorem d_E_cancel_30 : decode c_E_cancel 30 = .ok (.ifCond .eq 6, 3) := by decide +kernel
theorem d_E_cancel_33 : decode c_E_cancel 33 = .ok (.bipush (-3), 2) := by decide +kernel
theorem d_E_cancel_35 : decode c_E_cancel 35 = .ok (.ireturn, 1) := by decide +kernel
theorem d_E_cancel_36 : decode c_E_cancel 36 = .ok (.aload_n 0, 1) := by decide +kernel
theorem d_E_cancel_37 : decode c_E_cancel 37 = .ok (.aload_n 0, 1) := by decide +kernel
theorem d_E_cancel_38 : decode c_E_cancel 38 = .ok (.getfield 47, 3) := by decide +kernel
theorem d_E_cancel_41 : decode c_E_cancel 41 = .ok (.getfield 75, 3) := by decide +kernel
theorem d_E_cancel_44 : decode c_E_cancel 44 = .ok (.aconst_null, 1) := by decide +kernel
theorem d_E_cancel_45 : decode c_E_cancel 45 = .ok (.invokevirtual 147, 3) := by decide +kernel
theorem d_E_cancel_48 : decode c_E_cancel 48 = .ok (.invokevirtual 94, 3) := by decide +kernel
theorem d_E_cancel_51 : decode c_E_cancel 51 = .ok (.ifCond .eq 7, 3) := by decide +kernel
theorem d_E_cancel_54 : decode c_E_cancel 54 = .ok (.iconst 0, 1) := by decide +kernel
theorem d_E_cancel_55 : decode c_E_cancel 55 = .ok (.goto 5, 3) := by decide +kernel
theorem d_E_cancel_58 : decode c_E_cancel 58 = .ok (.bipush (-7), 2) := by decide +kernel
theorem d_E_cancel_60 : decode c_E_cancel 60 = .ok (.ireturn, 1) := by decide +kernel
theorem d_E_read_0 : decode c_E_read 0 = .ok (.aload_n 0, 1) := by decide +kernel
theorem d_E_read_1 : decode c_E_read 1 = .ok (.getfield 60, 3) := by decide +kernel
theorem d_E_read_4 : decode c_E_read 4 = .ok (.ifCond .ne 6, 3) := by decide +kernel
theorem d_E_read_7 : decode c_E_read 7 = .ok (.bipush (-2), 2) := by decide +kernel
theorem d_E_read_9 : decode c_E_read 9 = .ok (.ireturn, 1) := by decide +kernel
theorem d_E_read_10 : decode c_E_read 10 = .ok (.aload_n 0, 1) := by decide +kernel
theorem d_E_read_11 : decode c_E_read 11 = .ok (.getfield 47, 3) := by decide +kernel
theorem d_E_read_14 : decode c_E_read 14 = .ok (.getfield 75, 3) := by decide +kernel
theorem d_E_read_17 : decode c_E_read 17 = .ok (.iload_n 1, 1) := by decide +kernel
theorem d_E_read_18 : decode c_E_read 18 = .ok (.invokevirtual 98, 3) := by decide +kernel
theorem d_E_read_21 : decode c_E_read 21 = .ok (.astore_n 3, 1) := by decide +kernel
theorem d_E_read_22 : decode c_E_read 22 = .ok (.aload_n 3, 1) := by decide +kernel
theorem d_E_read_23 : decode c_E_read 23 = .ok (.ifnull 11, 3) := by decide +kernel
theorem d_E_read_26 : decode c_E_read 26 = .ok (.aload_n 3, 1) := by decide +kernel
theorem d_E_read_27 : decode c_E_read 27 = .ok (.iload_n 2, 1) := by decide +kernel
theorem d_E_read_28 : decode c_E_read 28 = .ok (.invokevirtual 168, 3) := by decide +kernel
theorem d_E_read_31 : decode c_E_read 31 = .ok (.ifCond .ne 5, 3) := by decide +kernel
theorem d_E_read_34 : decode c_E_read 34 = .ok (.iconst (-1), 1) := by decide +kernel
theorem d_E_read_35 : decode c_E_read 35 = .ok (.ireturn, 1) := by decide +kernel
theorem d_E_read_36 : decode c_E_read 36 = .ok (.aload_n 3, 1) := by decide +kernel
theorem d_E_read_37 : decode c_E_read 37 = .ok (.getfield 125, 3) := by decide +kernel
theorem d_E_read_40 : decode c_E_read 40 = .ok (.aload_n 3, 1) := by decide +kernel
theorem d_E_read_41 : decode c_E_read 41 = .ok (.iload_n 2, 1) := by decide +kernel
theorem d_E_read_42 : decode c_E_read 42 = .ok (.invokevirtual 171, 3) := by decide +kernel
theorem d_E_read_45 : decode c_E_read 45 = .ok (.iaload, 1) := by decide +kernel
theorem d_E_read_46 : decode c_E_read 46 = .ok (.istore 4, 2) := by decide +kernel
theorem d_E_read_48 : decode c_E_read 48 = .ok (.aload_n 0, 1) := by decide +kernel
theorem d_E_read_49 : decode c_E_read 49 = .ok (.iload 4, 2) := by decide +kernel
theorem d_E_read_51 : decode c_E_read 51 = .ok (.invokevirtual 128, 3) := by decide +kernel
theorem d_E_read_54 : decode c_E_read 54 = .ok (.getfield 132, 3) := by decide +kernel
theorem d_E_read_57 : decode c_E_read 57 = .ok (.ifCond .eq 17, 3) := by decide +kernel
theorem d_E_read_60 : decode c_E_read 60 = .ok (.aload_n 0, 1) := by decide +kernel
theorem d_E_read_61 : decode c_E_read 61 = .ok (.iload 4, 2) := by decide +kernel
theorem d_E_read_63 : decode c_E_read 63 = .ok (.aload_n 3, 1) := by decide +kernel
theorem d_E_read_64 : decode c_E_read 64 = .ok (.iload_n 2, 1) := by decide +kernel
theorem d_E_read_65 : decode c_E_read 65 = .ok (.invokevirtual 174, 3) := by decide +kernel
theorem d_E_read_68 : decode c_E_read 68 = .ok (.invokevirtual 161, 3) := by decide +kernel
theorem d_E_read_71 : decode c_E_read 71 = .ok (.goto 5, 3) := by decide +kernel
theorem d_E_read_74 : decode c_E_read 74 = .ok (.bipush (-6), 2) := by decide +kernel
theorem d_E_read_76 : decode c_E_read 76 = .ok (.ireturn, 1) := by decide +kernel
theorem d_E_write_0 : decode c_E_write 0 = .ok (.aload_n 0, 1) := by decide +kernel
theorem d_E_write_1 : decode c_E_write 1 = .ok (.getfield 60, 3) := by decide +kernel
theorem d_E_write_4 : decode c_E_write 4 = .ok (.ifCond .ne 6, 3) := by decide +kernel
theorem d_E_write_7 : decode c_E_write 7 = .ok (.bipush (-2), 2) := by decide +kernel
theorem d_E_write_9 : decode c_E_write 9 = .ok (.ireturn, 1) := by decide +kernel
theorem d_E_write_10 : decode c_E_write 10 = .ok (.aload_n 0, 1) := by decide +kernel
theorem d_E_write_11 : decode c_E_write 11 = .ok (.getfield 47, 3) := by decide +kernel
theorem d_E_write_14 : decode c_E_write 14 = .ok (.getfield 75, 3) := by decide +kernel
theorem d_E_write_17 : decode c_E_write 17 = .ok (.iload_n 1, 1) := by decide +kernel
theorem d_E_write_18 : decode c_E_write 18 = .ok (.invokevirtual 98, 3) := by decide +kernel
theorem d_E_write_21 : decode c_E_write 21 = .ok (.astore 4, 2) := by decide +kernel
theorem d_E_write_23 : decode c_E_write 23 = .ok (.aload 4, 2) := by decide +kernel
theorem d_E_write_25 : decode c_E_write 25 = .ok (.ifnull 16, 3) := by decide +kernel
theorem d_E_write_28 : decode c_E_write 28 = .ok (.aload 4, 2) := by decide +kernel
theorem d_E_write_30 : decode c_E_write 30 = .ok (.iload_n 2, 1) := by decide +kernel
theorem d_E_write_31 : decode c_E_write 31 = .ok (.invokevirtual 168, 3) := by decide +kernel
theorem d_E_write_34 : decode c_E_write 34 = .ok (.ifCond .eq 7, 3) := by decide +kernel
theorem d_E_write_37 : decode c_E_write 37 = .ok (.iload_n 3, 1) := by decide +kernel
theorem d_E_write_38 : decode c_E_write 38 = .ok (.ifCond .ge 5, 3) := by decide +kernel
theorem d_E_write_41 : decode c_E_write 41 = .ok (.iconst (-1), 1) := by decide +kernel
theorem d_E_write_42 : decode c_E_write 42 = .ok (.ireturn, 1) := by decide +kernel
theorem d_E_write_43 : decode c_E_write 43 = .ok (.aload 4, 2) := by decide +kernel
theorem d_E_write_45 : decode c_E_write 45 = .ok (.iload_n 2, 1) := by decide +kernel
theorem d_E_write_46 : decode c_E_write 46 = .ok (.invokevirtual 171, 3) := by decide +kernel
theorem d_E_write_49 : decode c_E_write 49 = .ok (.istore 5, 2) := by decide +kernel
theorem d_E_write_51 : decode c_E_write 51 = .ok (.aload 4, 2) := by decide +kernel
theorem d_E_write_53 : decode c_E_write 53 = .ok (.iload_n 2, 1) := by decide +kernel
theorem d_E_write_54 : decode c_E_write 54 = .ok (.invokevirtual 174, 3) := by decide +kernel
theorem d_E_write_57 : decode c_E_write 57 = .ok (.istore 6, 2) := by decide +kernel
theorem d_E_write_59 : decode c_E_write 59 = .ok (.aload 4, 2) := by decide +kernel
theorem d_E_write_61 : decode c_E_write 61 = .ok (.getfield 125, 3) := by decide +kernel
theorem d_E_write_64 : decode c_E_write 64 = .ok (.iload 5, 2) := by decide +kernel
theorem d_E_write_66 : decode c_E_write 66 = .ok (.iaload, 1) := by decide +kernel
theorem d_E_write_67 : decode c_E_write 67 = .ok (.istore 7, 2) := by decide +kernel
theorem d_E_write_69 : decode c_E_write 69 = .ok (.aload_n 0, 1) := by decide +kernel
theorem d_E_write_70 : decode c_E_write 70 = .ok (.iload_n 1, 1) := by decide +kernel
theorem d_E_write_71 : decode c_E_write 71 = .ok (.iload 5, 2) := by decide +kernel
theorem d_E_write_73 : decode c_E_write 73 = .ok (.iload 6, 2) := by decide +kernel
theorem d_E_write_75 : decode c_E_write 75 = .ok (.invokevirtual 177, 3) := by decide +kernel
theorem d_E_write_78 : decode c_E_write 78 = .ok (.istore 8, 2) := by decide +kernel
theorem d_E_write_80 : decode c_E_write 80 = .ok (.aload_n 0, 1) := by decide +kernel
theorem d_E_write_81 : decode c_E_write 81 = .ok (.iload 7, 2) := by decide +kernel
theorem d_E_write_83 : decode c_E_write 83 = .ok (.invokevirtual 128, 3) := by decide +kernel
theorem d_E_write_86 : decode c_E_write 86 = .ok (.getfield 132, 3) := by decide +kernel
theorem d_E_write_89 : decode c_E_write 89 = .ok (.ifCond .eq 21, 3) := by decide +kernel
theorem d_E_write_92 : decode c_E_write 92 = .ok (.iload 8, 2) := by decide +kernel
theorem d_E_write_94 : decode c_E_write 94 = .ok (.iconst (-1), 1) := by decide +kernel
theorem d_E_write_95 : decode c_E_write 95 = .ok (.if_icmp .eq 18, 3) := by decide +kernel
theorem d_E_write_98 : decode c_E_write 98 = .ok (.aload_n 0, 1) := by decide +kernel
theorem d_E_write_99 : decode c_E_write 99 = .ok (.iload 8, 2) := by decide +kernel
theorem d_E_write_101 : decode c_E_write 101 = .ok (.invokevirtual 128, 3) := by decide +kernel
theorem d_E_write_104 : decode c_E_write 104 = .ok (.getfield 132, 3) := by decide +kernel
theorem d_E_write_107 : decode c_E_write 107 = .ok (.ifCond .ne 6, 3) := by decide +kernel
theorem d_E_write_110 : decode c_E_write 110 = .ok (.bipush (-6), 2) := by decide +kernel
theorem d_E_write_112 : decode c_E_write 112 = .ok (.ireturn, 1) := by decide +kernel
theorem d_E_write_113 : decode c_E_write 113 = .ok (.aload_n 0, 1) := by decide +kernel
theorem d_E_write_114 : decode c_E_write 114 = .ok (.iload 7, 2) := by decide +kernel
theorem d_E_write_116 : decode c_E_write 116 = .ok (.iload 6, 2) := by decide +kernel
theorem d_E_write_118 : decode c_E_write 118 = .ok (.iload_n 3, 1) := by decide +kernel
theorem d_E_write_119 : decode c_E_write 119 = .ok (.invokevirtual 164, 3) := by decide +kernel
theorem d_E_write_122 : decode c_E_write 122 = .ok (.ifCond .ne 6, 3) := by decide +kernel
theorem d_E_write_125 : decode c_E_write 125 = .ok (.bipush (-7), 2) := by decide +kernel
theorem d_E_write_127 : decode c_E_write 127 = .ok (.ireturn, 1) := by decide +kernel
theorem d_E_write_128 : decode c_E_write 128 = .ok (.iload 8, 2) := by decide +kernel
theorem d_E_write_130 : decode c_E_write 130 = .ok (.iconst (-1), 1) := by decide +kernel
theorem d_E_write_131 : decode c_E_write 131 = .ok (.if_icmp .ne 5, 3) := by decide +kernel
theorem d_E_write_134 : decode c_E_write 134 = .ok (.iconst 1, 1) := by decide +kernel
theorem d_E_write_135 : decode c_E_write 135 = .ok (.ireturn, 1) := by decide +kernel
theorem d_E_write_136 : decode c_E_write 136 = .ok (.aload_n 0, 1) := by decide +kernel
theorem d_E_write_137 : decode c_E_write 137 = .ok (.iload 8, 2) := by decide +kernel
theorem d_E_write_139 : decode c_E_write 139 = .ok (.iload 6, 2) := by decide +kernel
theorem d_E_write_141 : decode c_E_write 141 = .ok (.iload_n 3, 1) := by decide +kernel
theorem d_E_write_142 : decode c_E_write 142 = .ok (.invokevirtual 164, 3) := by decide +kernel
theorem d_E_write_145 : decode c_E_write 145 = .ok (.ifCond .eq 7, 3) := by decide +kernel
theorem d_E_write_148 : decode c_E_write 148 = .ok (.iconst 2, 1) := by decide +kernel
theorem d_E_write_149 : decode c_E_write 149 = .ok (.goto 5, 3) := by decide +kernel
theorem d_E_write_152 : decode c_E_write 152 = .ok (.bipush (-7), 2) := by decide +kernel
theorem d_E_write_154 : decode c_E_write 154 = .ok (.ireturn, 1) := by decide +kernel
theorem d_E_copiedTo_0 : decode c_E_copiedTo 0 = .ok (.aload_n 0, 1) := by decide +kernel
theorem d_E_copiedTo_1 : decode c_E_copiedTo 1 = .ok (.getfield 47, 3) := by decide +kernel
theorem d_E_copiedTo_4 : decode c_E_copiedTo 4 = .ok (.getfield 75, 3) := by decide +kernel
theorem d_E_copiedTo_7 : decode c_E_copiedTo 7 = .ok (.getfield 121, 3) := by decide +kernel
theorem d_E_copiedTo_10 : decode c_E_copiedTo 10 = .ok (.astore 4, 2) := by decide +kernel
theorem d_E_copiedTo_12 : decode c_E_copiedTo 12 = .ok (.aload 4, 2) := by decide +kernel
theorem d_E_copiedTo_14 : decode c_E_copiedTo 14 = .ok (.ifnull 29, 3) := by decide +kernel
theorem d_E_copiedTo_17 : decode c_E_copiedTo 17 = .ok (.aload 4, 2) := by decide +kernel
theorem d_E_copiedTo_19 : decode c_E_copiedTo 19 = .ok (.getfield 198, 3) := by decide +kernel
theorem d_E_copiedTo_22 : decode c_E_copiedTo 22 = .ok (.iload_n 1, 1) := by decide +kernel
theorem d_E_copiedTo_23 : decode c_E_copiedTo 23 = .ok (.if_icmp .ne 20, 3) := by decide +kernel
theorem d_E_copiedTo_26 : decode c_E_copiedTo 26 = .ok (.aload 4, 2) := by decide +kernel
theorem d_E_copiedTo_28 : decode c_E_copiedTo 28 = .ok (.getfield 201, 3) := by decide +kernel
theorem d_E_copiedTo_31 : decode c_E_copiedTo 31 = .ok (.iload_n 2, 1) := by decide +kernel
theorem d_E_copiedTo_32 : decode c_E_copiedTo 32 = .ok (.if_icmp .ne 11, 3) := by decide +kernel
theorem d_E_copiedTo_35 : decode c_E_copiedTo 35 = .ok (.iload_n 3, 1) := by decide +kernel
theorem d_E_copiedTo_36 : decode c_E_copiedTo 36 = .ok (.aload_n 0, 1) := by decide +kernel
theorem d_E_copiedTo_37 : decode c_E_copiedTo 37 = .ok (.getfield 51, 3) := by decide +kernel
theorem d_E_copiedTo_40 : decode c_E_copiedTo 40 = .ok (.if_icmp .lt 5, 3) := by decide +kernel
theorem d_E_copiedTo_43 : decode c_E_copiedTo 43 = .ok (.iconst (-1), 1) := by decide +kernel
theorem d_E_copiedTo_44 : decode c_E_copiedTo 44 = .ok (.ireturn, 1) := by decide +kernel
theorem d_E_copiedTo_45 : decode c_E_copiedTo 45 = .ok (.aload 4, 2) := by decide +kernel
theorem d_E_copiedTo_47 : decode c_E_copiedTo 47 = .ok (.getfield 154, 3) := by decide +kernel
theorem d_E_copiedTo_50 : decode c_E_copiedTo 50 = .ok (.ireturn, 1) := by decide +kernel
theorem d_E_pull_0 : decode c_E_pull 0 = .ok (.aload_n 0, 1) := by decide +kernel
theorem d_E_pull_1 : decode c_E_pull 1 = .ok (.iload_n 1, 1) := by decide +kernel
theorem d_E_pull_2 : decode c_E_pull 2 = .ok (.invokevirtual 118, 3) := by decide +kernel
theorem d_E_pull_5 : decode c_E_pull 5 = .ok (.ifCond .eq 15, 3) := by decide +kernel
theorem d_E_pull_8 : decode c_E_pull 8 = .ok (.aload_n 0, 1) := by decide +kernel
theorem d_E_pull_9 : decode c_E_pull 9 = .ok (.getfield 36, 3) := by decide +kernel
theorem d_E_pull_12 : decode c_E_pull 12 = .ok (.iload_n 1, 1) := by decide +kernel
theorem d_E_pull_13 : decode c_E_pull 13 = .ok (.aaload, 1) := by decide +kernel
theorem d_E_pull_14 : decode c_E_pull 14 = .ok (.getfield 132, 3) := by decide +kernel
theorem d_E_pull_17 : decode c_E_pull 17 = .ok (.ifCond .ne 5, 3) := by decide +kernel
theorem d_E_pull_20 : decode c_E_pull 20 = .ok (.iconst 0, 1) := by decide +kernel
theorem d_E_pull_21 : decode c_E_pull 21 = .ok (.ireturn, 1) := by decide +kernel
theorem d_E_pull_22 : decode c_E_pull 22 = .ok (.aload_n 0, 1) := by decide +kernel
theorem d_E_pull_23 : decode c_E_pull 23 = .ok (.getfield 36, 3) := by decide +kernel
theorem d_E_pull_26 : decode c_E_pull 26 = .ok (.iload_n 1, 1) := by decide +kernel
theorem d_E_pull_27 : decode c_E_pull 27 = .ok (.aaload, 1) := by decide +kernel
theorem d_E_pull_28 : decode c_E_pull 28 = .ok (.iconst 0, 1) := by decide +kernel
theorem d_E_pull_29 : decode c_E_pull 29 = .ok (.putfield 132, 3) := by decide +kernel
theorem d_E_pull_32 : decode c_E_pull 32 = .ok (.iconst 1, 1) := by decide +kernel
theorem d_E_pull_33 : decode c_E_pull 33 = .ok (.ireturn, 1) := by decide +kernel
theorem d_E_plug_0 : decode c_E_plug 0 = .ok (.aload_n 0, 1) := by decide +kernel
theorem d_E_plug_1 : decode c_E_plug 1 = .ok (.iload_n 1, 1) := by decide +kernel
theorem d_E_plug_2 : decode c_E_plug 2 = .ok (.invokevirtual 118, 3) := by decide +kernel
theorem d_E_plug_5 : decode c_E_plug 5 = .ok (.ifCond .eq 15, 3) := by decide +kernel
theorem d_E_plug_8 : decode c_E_plug 8 = .ok (.aload_n 0, 1) := by decide +kernel
theorem d_E_plug_9 : decode c_E_plug 9 = .ok (.getfield 36, 3) := by decide +kernel
theorem d_E_plug_12 : decode c_E_plug 12 = .ok (.iload_n 1, 1) := by decide +kernel
theorem d_E_plug_13 : decode c_E_plug 13 = .ok (.aaload, 1) := by decide +kernel
theorem d_E_plug_14 : decode c_E_plug 14 = .ok (.getfield 132, 3) := by decide +kernel
theorem d_E_plug_17 : decode c_E_plug 17 = .ok (.ifCond .eq 5, 3) := by decide +kernel
theorem d_E_plug_20 : decode c_E_plug 20 = .ok (.iconst 0, 1) := by decide +kernel
theorem d_E_plug_21 : decode c_E_plug 21 = .ok (.ireturn, 1) := by decide +kernel
theorem d_E_plug_22 : decode c_E_plug 22 = .ok (.aload_n 0, 1) := by decide +kernel
theorem d_E_plug_23 : decode c_E_plug 23 = .ok (.getfield 36, 3) := by decide +kernel
theorem d_E_plug_26 : decode c_E_plug 26 = .ok (.iload_n 1, 1) := by decide +kernel
theorem d_E_plug_27 : decode c_E_plug 27 = .ok (.aaload, 1) := by decide +kernel
theorem d_E_plug_28 : decode c_E_plug 28 = .ok (.iconst 1, 1) := by decide +kernel
theorem d_E_plug_29 : decode c_E_plug 29 = .ok (.putfield 132, 3) := by decide +kernel
theorem d_E_plug_32 : decode c_E_plug 32 = .ok (.iconst 1, 1) := by decide +kernel
theorem d_E_plug_33 : decode c_E_plug 33 = .ok (.ireturn, 1) := by decide +kernel
theorem d_E_arm_0 : decode c_E_arm 0 = .ok (.iload_n 1, 1) := by decide +kernel
theorem d_E_arm_1 : decode c_E_arm 1 = .ok (.ifCond .lt 9, 3) := by decide +kernel
theorem d_E_arm_4 : decode c_E_arm 4 = .ok (.iload_n 1, 1) := by decide +kernel
theorem d_E_arm_5 : decode c_E_arm 5 = .ok (.bipush 100, 2) := by decide +kernel
theorem d_E_arm_7 : decode c_E_arm 7 = .ok (.if_icmp .le 5, 3) := by decide +kernel
theorem d_E_arm_10 : decode c_E_arm 10 = .ok (.iconst 0, 1) := by decide +kernel
theorem d_E_arm_11 : decode c_E_arm 11 = .ok (.ireturn, 1) := by decide +kernel
theorem d_E_arm_12 : decode c_E_arm 12 = .ok (.aload_n 0, 1) := by decide +kernel
theorem d_E_arm_13 : decode c_E_arm 13 = .ok (.iload_n 1, 1) := by decide +kernel
theorem d_E_arm_14 : decode c_E_arm 14 = .ok (.putfield 64, 3) := by decide +kernel
theorem d_E_arm_17 : decode c_E_arm 17 = .ok (.iconst 1, 1) := by decide +kernel
theorem d_E_arm_18 : decode c_E_arm 18 = .ok (.ireturn, 1) := by decide +kernel
theorem d_E_crash_0 : decode c_E_crash 0 = .ok (.aload_n 0, 1) := by decide +kernel
theorem d_E_crash_1 : decode c_E_crash 1 = .ok (.getfield 60, 3) := by decide +kernel
theorem d_E_crash_4 : decode c_E_crash 4 = .ok (.ifCond .ne 5, 3) := by decide +kernel
theorem d_E_crash_7 : decode c_E_crash 7 = .ok (.iconst 0, 1) := by decide +kernel
theorem d_E_crash_8 : decode c_E_crash 8 = .ok (.ireturn, 1) := by decide +kernel
theorem d_E_crash_9 : decode c_E_crash 9 = .ok (.aload_n 0, 1) := by decide +kernel
theorem d_E_crash_10 : decode c_E_crash 10 = .ok (.invokevirtual 181, 3) := by decide +kernel
theorem d_E_crash_13 : decode c_E_crash 13 = .ok (.iconst 1, 1) := by decide +kernel
theorem d_E_crash_14 : decode c_E_crash 14 = .ok (.ireturn, 1) := by decide +kernel
theorem d_E_activate_0 : decode c_E_activate 0 = .ok (.aload_n 0, 1) := by decide +kernel
theorem d_E_activate_1 : decode c_E_activate 1 = .ok (.getfield 60, 3) := by decide +kernel
theorem d_E_activate_4 : decode c_E_activate 4 = .ok (.ifCond .eq 6, 3) := by decide +kernel
theorem d_E_activate_7 : decode c_E_activate 7 = .ok (.bipush (-9), 2) := by decide +kernel
theorem d_E_activate_9 : decode c_E_activate 9 = .ok (.ireturn, 1) := by decide +kernel
theorem d_E_activate_10 : decode c_E_activate 10 = .ok (.aload_n 0, 1) := by decide +kernel
theorem d_E_activate_11 : decode c_E_activate 11 = .ok (.invokevirtual 184, 3) := by decide +kernel
theorem d_E_activate_14 : decode c_E_activate 14 = .ok (.astore_n 1, 1) := by decide +kernel
theorem d_E_activate_15 : decode c_E_activate 15 = .ok (.aload_n 1, 1) := by decide +kernel
theorem d_E_activate_16 : decode c_E_activate 16 = .ok (.ifnonnull 6, 3) := by decide +kernel
theorem d_E_activate_19 : decode c_E_activate 19 = .ok (.bipush (-3), 2) := by decide +kernel
theorem d_E_activate_21 : decode c_E_activate 21 = .ok (.ireturn, 1) := by decide +kernel
theorem d_E_activate_22 : decode c_E_activate 22 = .ok (.iconst 0, 1) := by decide +kernel
theorem d_E_activate_23 : decode c_E_activate 23 = .ok (.istore_n 2, 1) := by decide +kernel
theorem d_E_activate_24 : decode c_E_activate 24 = .ok (.iload_n 2, 1) := by decide +kernel
theorem d_E_activate_25 : decode c_E_activate 25 = .ok (.aload_n 0, 1) := by decide +kernel
theorem d_E_activate_26 : decode c_E_activate 26 = .ok (.getfield 36, 3) := by decide +kernel
theorem d_E_activate_29 : decode c_E_activate 29 = .ok (.arraylength, 1) := by decide +kernel
theorem d_E_activate_30 : decode c_E_activate 30 = .ok (.if_icmp .ge 38, 3) := by decide +kernel
theorem d_E_activate_33 : decode c_E_activate 33 = .ok (.aload_n 0, 1) := by decide +kernel
theorem d_E_activate_34 : decode c_E_activate 34 = .ok (.getfield 36, 3) := by decide +kernel
theorem d_E_activate_37 : decode c_E_activate 37 = .ok (.iload_n 2, 1) := by decide +kernel
theorem d_E_activate_38 : decode c_E_activate 38 = .ok (.aaload, 1) := by decide +kernel
theorem d_E_activate_39 : decode c_E_activate 39 = .ok (.getfield 132, 3) := by decide +kernel
theorem d_E_activate_42 : decode c_E_activate 42 = .ok (.ifCond .eq 20, 3) := by decide +kernel
theorem d_E_activate_45 : decode c_E_activate 45 = .ok (.aload_n 0, 1) := by decide +kernel
theorem d_E_activate_46 : decode c_E_activate 46 = .ok (.aload_n 0, 1) := by decide +kernel
theorem d_E_activate_47 : decode c_E_activate 47 = .ok (.getfield 36, 3) := by decide +kernel
theorem d_E_activate_50 : decode c_E_activate 50 = .ok (.iload_n 2, 1) := by decide +kernel
theorem d_E_activate_51 : decode c_E_activate 51 = .ok (.aaload, 1) := by decide +kernel
theorem d_E_activate_52 : decode c_E_activate 52 = .ok (.aload_n 1, 1) := by decide +kernel
theorem d_E_activate_53 : decode c_E_activate 53 = .ok (.invokevirtual 188, 3) := by decide +kernel
theorem d_E_activate_56 : decode c_E_activate 56 = .ok (.ifCond .ne 6, 3) := by decide +kernel
theorem d_E_activate_59 : decode c_E_activate 59 = .ok (.bipush (-7), 2) := by decide +kernel
theorem d_E_activate_61 : decode c_E_activate 61 = .ok (.ireturn, 1) := by decide +kernel
theorem d_E_activate_62 : decode c_E_activate 62 = .ok (.iinc 2 1, 3) := by decide +kernel
theorem d_E_activate_65 : decode c_E_activate 65 = .ok (.goto (-41), 3) := by decide +kernel
theorem d_E_activate_68 : decode c_E_activate 68 = .ok (.aload_n 0, 1) := by decide +kernel
theorem d_E_activate_69 : decode c_E_activate 69 = .ok (.aload_n 1, 1) := by decide +kernel
theorem d_E_activate_70 : decode c_E_activate 70 = .ok (.putfield 47, 3) := by decide +kernel
theorem d_E_activate_73 : decode c_E_activate 73 = .ok (.aload_n 0, 1) := by decide +kernel
theorem d_E_activate_74 : decode c_E_activate 74 = .ok (.iconst 0, 1) := by decide +kernel
theorem d_E_activate_75 : decode c_E_activate 75 = .ok (.putfield 51, 3) := by decide +kernel
theorem d_E_activate_78 : decode c_E_activate 78 = .ok (.aload_n 0, 1) := by decide +kernel
theorem d_E_activate_79 : decode c_E_activate 79 = .ok (.iconst 1, 1) := by decide +kernel
theorem d_E_activate_80 : decode c_E_activate 80 = .ok (.putfield 60, 3) := by decide +kernel
theorem d_E_activate_83 : decode c_E_activate 83 = .ok (.aload_n 1, 1) := by decide +kernel
theorem d_E_activate_84 : decode c_E_activate 84 = .ok (.getfield 192, 3) := by decide +kernel
theorem d_E_activate_87 : decode c_E_activate 87 = .ok (.ireturn, 1) := by decide +kernel
theorem d_E_choose_0 : decode c_E_choose 0 = .ok (.aconst_null, 1) := by decide +kernel
theorem d_E_choose_1 : decode c_E_choose 1 = .ok (.astore_n 1, 1) := by decide +kernel
theorem d_E_choose_2 : decode c_E_choose 2 = .ok (.iconst 0, 1) := by decide +kernel
theorem d_E_choose_3 : decode c_E_choose 3 = .ok (.istore_n 2, 1) := by decide +kernel
theorem d_E_choose_4 : decode c_E_choose 4 = .ok (.iload_n 2, 1) := by decide +kernel
theorem d_E_choose_5 : decode c_E_choose 5 = .ok (.aload_n 0, 1) := by decide +kernel
theorem d_E_choose_6 : decode c_E_choose 6 = .ok (.getfield 36, 3) := by decide +kernel
theorem d_E_choose_9 : decode c_E_choose 9 = .ok (.arraylength, 1) := by decide +kernel
theorem d_E_choose_10 : decode c_E_choose 10 = .ok (.if_icmp .ge 96, 3) := by decide +kernel
theorem d_E_choose_13 : decode c_E_choose 13 = .ok (.iconst 0, 1) := by decide +kernel
theorem d_E_choose_14 : decode c_E_choose 14 = .ok (.istore_n 3, 1) := by decide +kernel
theorem d_E_choose_15 : decode c_E_choose 15 = .ok (.aload_n 0, 1) := by decide +kernel
theorem d_E_choose_16 : decode c_E_choose 16 = .ok (.getfield 36, 3) := by decide +kernel
theorem d_E_choose_19 : decode c_E_choose 19 = .ok (.iload_n 2, 1) := by decide +kernel
theorem d_E_choose_20 : decode c_E_choose 20 = .ok (.aaload, 1) := by decide +kernel
theorem d_E_choose_21 : decode c_E_choose 21 = .ok (.getfield 132, 3) := by decide +kernel
theorem d_E_choose_24 : decode c_E_choose 24 = .ok (.ifCond .eq 76, 3) := by decide +kernel
theorem d_E_choose_27 : decode c_E_choose 27 = .ok (.iload_n 3, 1) := by decide +kernel
theorem d_E_choose_28 : decode c_E_choose 28 = .ok (.iconst 3, 1) := by decide +kernel
theorem d_E_choose_29 : decode c_E_choose 29 = .ok (.if_icmp .ge 71, 3) := by decide +kernel
theorem d_E_choose_32 : decode c_E_choose 32 = .ok (.aload_n 0, 1) := by decide +kernel
theorem d_E_choose_33 : decode c_E_choose 33 = .ok (.getfield 36, 3) := by decide +kernel
theorem d_E_choose_36 : decode c_E_choose 36 = .ok (.iload_n 2, 1) := by decide +kernel
theorem d_E_choose_37 : decode c_E_choose 37 = .ok (.aaload, 1) := by decide +kernel
theorem d_E_choose_38 : decode c_E_choose 38 = .ok (.getfield 208, 3) := by decide +kernel
theorem d_E_choose_41 : decode c_E_choose 41 = .ok (.iload_n 3, 1) := by decide +kernel
theorem d_E_choose_42 : decode c_E_choose 42 = .ok (.aaload, 1) := by decide +kernel
theorem d_E_choose_43 : decode c_E_choose 43 = .ok (.astore 4, 2) := by decide +kernel
theorem d_E_choose_45 : decode c_E_choose 45 = .ok (.aload 4, 2) := by decide +kernel
theorem d_E_choose_47 : decode c_E_choose 47 = .ok (.ifnull 23, 3) := by decide +kernel
theorem d_E_choose_50 : decode c_E_choose 50 = .ok (.aload_n 1, 1) := by decide +kernel
theorem d_E_choose_51 : decode c_E_choose 51 = .ok (.ifnull 15, 3) := by decide +kernel
theorem d_E_choose_54 : decode c_E_choose 54 = .ok (.aload 4, 2) := by decide +kernel
theorem d_E_choose_56 : decode c_E_choose 56 = .ok (.getfield 192, 3) := by decide +kernel
theorem d_E_choose_59 : decode c_E_choose 59 = .ok (.aload_n 1, 1) := by decide +kernel
theorem d_E_choose_60 : decode c_E_choose 60 = .ok (.getfield 192, 3) := by decide +kernel
theorem d_E_choose_63 : decode c_E_choose 63 = .ok (.if_icmp .le 7, 3) := by decide +kernel
theorem d_E_choose_66 : decode c_E_choose 66 = .ok (.iconst 1, 1) := by decide +kernel
theorem d_E_choose_67 : decode c_E_choose 67 = .ok (.goto 4, 3) := by decide +kernel
theorem d_E_choose_70 : decode c_E_choose 70 = .ok (.iconst 0, 1) := by decide +kernel
theorem d_E_choose_71 : decode c_E_choose 71 = .ok (.istore 5, 2) := by decide +kernel
theorem d_E_choose_73 : decode c_E_choose 73 = .ok (.iload 5, 2) := by decide +kernel
theorem d_E_choose_75 : decode c_E_choose 75 = .ok (.ifCond .eq 19, 3) := by decide +kernel
theorem d_E_choose_78 : decode c_E_choose 78 = .ok (.aload_n 0, 1) := by decide +kernel
theorem d_E_choose_79 : decode c_E_choose 79 = .ok (.aload_n 0, 1) := by decide +kernel
theorem d_E_choose_80 : decode c_E_choose 80 = .ok (.aload 4, 2) := by decide +kernel
theorem d_E_choose_82 : decode c_E_choose 82 = .ok (.invokevirtual 232, 3) := by decide +kernel
theorem d_E_choose_85 : decode c_E_choose 85 = .ok (.invokevirtual 212, 3) := by decide +kernel
theorem d_E_choose_88 : decode c_E_choose 88 = .ok (.ifCond .eq 6, 3) := by decide +kernel
theorem d_E_choose_91 : decode c_E_choose 91 = .ok (.aload 4, 2) := by decide +kernel
theorem d_E_choose_93 : decode c_E_choose 93 = .ok (.astore_n 1, 1) := by decide +kernel
theorem d_E_choose_94 : decode c_E_choose 94 = .ok (.iinc 3 1, 3) := by decide +kernel
theorem d_E_choose_97 : decode c_E_choose 97 = .ok (.goto (-82), 3) := by decide +kernel
theorem d_E_choose_100 : decode c_E_choose 100 = .ok (.iinc 2 1, 3) := by decide +kernel
theorem d_E_choose_103 : decode c_E_choose 103 = .ok (.goto (-99), 3) := by decide +kernel
theorem d_E_choose_106 : decode c_E_choose 106 = .ok (.aload_n 1, 1) := by decide +kernel
theorem d_E_choose_107 : decode c_E_choose 107 = .ok (.areturn, 1) := by decide +kernel
theorem d_E_presentHolders_0 : decode c_E_presentHolders 0 = .ok (.iconst 0, 1) := by decide +kernel
theorem d_E_presentHolders_1 : decode c_E_presentHolders 1 = .ok (.istore_n 2, 1) := by decide +kernel
theorem d_E_presentHolders_2 : decode c_E_presentHolders 2 = .ok (.iconst 0, 1) := by decide +kernel
theorem d_E_presentHolders_3 : decode c_E_presentHolders 3 = .ok (.istore_n 3, 1) := by decide +kernel
theorem d_E_presentHolders_4 : decode c_E_presentHolders 4 = .ok (.iload_n 3, 1) := by decide +kernel
theorem d_E_presentHolders_5 : decode c_E_presentHolders 5 = .ok (.aload_n 0, 1) := by decide +kernel
theorem d_E_presentHolders_6 : decode c_E_presentHolders 6 = .ok (.getfield 36, 3) := by decide +kernel
theorem d_E_presentHolders_9 : decode c_E_presentHolders 9 = .ok (.arraylength, 1) := by decide +kernel
theorem d_E_presentHolders_10 : decode c_E_presentHolders 10 = .ok (.if_icmp .ge 38, 3) := by decide +kernel
theorem d_E_presentHolders_13 : decode c_E_presentHolders 13 = .ok (.aload_n 0, 1) := by decide +kernel
theorem d_E_presentHolders_14 : decode c_E_presentHolders 14 = .ok (.getfield 36, 3) := by decide +kernel
theorem d_E_presentHolders_17 : decode c_E_presentHolders 17 = .ok (.iload_n 3, 1) := by decide +kernel
theorem d_E_presentHolders_18 : decode c_E_presentHolders 18 = .ok (.aaload, 1) := by decide +kernel
theorem d_E_presentHolders_19 : decode c_E_presentHolders 19 = .ok (.getfield 132, 3) := by decide +kernel
theorem d_E_presentHolders_22 : decode c_E_presentHolders 22 = .ok (.ifCond .eq 20, 3) := by decide +kernel
theorem d_E_presentHolders_25 : decode c_E_presentHolders 25 = .ok (.aload_n 0, 1) := by decide +kernel
theorem d_E_presentHolders_26 : decode c_E_presentHolders 26 = .ok (.getfield 36, 3) := by decide +kernel
theorem d_E_presentHolders_29 : decode c_E_presentHolders 29 = .ok (.iload_n 3, 1) := by decide +kernel
theorem d_E_presentHolders_30 : decode c_E_presentHolders 30 = .ok (.aaload, 1) := by decide +kernel
theorem d_E_presentHolders_31 : decode c_E_presentHolders 31 = .ok (.aload_n 1, 1) := by decide +kernel
theorem d_E_presentHolders_32 : decode c_E_presentHolders 32 = .ok (.invokevirtual 235, 3) := by decide +kernel
theorem d_E_presentHolders_35 : decode c_E_presentHolders 35 = .ok (.iconst (-1), 1) := by decide +kernel
theorem d_E_presentHolders_36 : decode c_E_presentHolders 36 = .ok (.if_icmp .eq 6, 3) := by decide +kernel
theorem d_E_presentHolders_39 : decode c_E_presentHolders 39 = .ok (.iinc 2 1, 3) := by decide +kernel
theorem d_E_presentHolders_42 : decode c_E_presentHolders 42 = .ok (.iinc 3 1, 3) := by decide +kernel
theorem d_E_presentHolders_45 : decode c_E_presentHolders 45 = .ok (.goto (-41), 3) := by decide +kernel
theorem d_E_presentHolders_48 : decode c_E_presentHolders 48 = .ok (.iload_n 2, 1) := by decide +kernel
theorem d_E_presentHolders_49 : decode c_E_presentHolders 49 = .ok (.ireturn, 1) := by decide +kernel
theorem d_E_bringTo_0 : decode c_E_bringTo 0 = .ok (.iconst 0, 1) := by decide +kernel
theorem d_E_bringTo_1 : decode c_E_bringTo 1 = .ok (.istore_n 3, 1) := by decide +kernel
theorem d_E_bringTo_2 : decode c_E_bringTo 2 = .ok (.iload_n 3, 1) := by decide +kernel
theorem d_E_bringTo_3 : decode c_E_bringTo 3 = .ok (.iconst 3, 1) := by decide +kernel
theorem d_E_bringTo_4 : decode c_E_bringTo 4 = .ok (.if_icmp .ge 50, 3) := by decide +kernel
theorem d_E_bringTo_7 : decode c_E_bringTo 7 = .ok (.aload_n 1, 1) := by decide +kernel
theorem d_E_bringTo_8 : decode c_E_bringTo 8 = .ok (.getfield 208, 3) := by decide +kernel
theorem d_E_bringTo_11 : decode c_E_bringTo 11 = .ok (.iload_n 3, 1) := by decide +kernel
theorem d_E_bringTo_12 : decode c_E_bringTo 12 = .ok (.aaload, 1) := by decide +kernel
theorem d_E_bringTo_13 : decode c_E_bringTo 13 = .ok (.astore 4, 2) := by decide +kernel
theorem d_E_bringTo_15 : decode c_E_bringTo 15 = .ok (.aload 4, 2) := by decide +kernel
theorem d_E_bringTo_17 : decode c_E_bringTo 17 = .ok (.ifnull 31, 3) := by decide +kernel
theorem d_E_bringTo_20 : decode c_E_bringTo 20 = .ok (.aload 4, 2) := by decide +kernel
theorem d_E_bringTo_22 : decode c_E_bringTo 22 = .ok (.getfield 192, 3) := by decide +kernel
theorem d_E_bringTo_25 : decode c_E_bringTo 25 = .ok (.aload_n 2, 1) := by decide +kernel
theorem d_E_bringTo_26 : decode c_E_bringTo 26 = .ok (.getfield 192, 3) := by decide +kernel
theorem d_E_bringTo_29 : decode c_E_bringTo 29 = .ok (.if_icmp .le 19, 3) := by decide +kernel
theorem d_E_bringTo_32 : decode c_E_bringTo 32 = .ok (.aload_n 0, 1) := by decide +kernel
theorem d_E_bringTo_33 : decode c_E_bringTo 33 = .ok (.invokevirtual 218, 3) := by decide +kernel
theorem d_E_bringTo_36 : decode c_E_bringTo 36 = .ok (.ifCond .ne 5, 3) := by decide +kernel
theorem d_E_bringTo_39 : decode c_E_bringTo 39 = .ok (.iconst 0, 1) := by decide +kernel
theorem d_E_bringTo_40 : decode c_E_bringTo 40 = .ok (.ireturn, 1) := by decide +kernel
theorem d_E_bringTo_41 : decode c_E_bringTo 41 = .ok (.aload_n 1, 1) := by decide +kernel
theorem d_E_bringTo_42 : decode c_E_bringTo 42 = .ok (.getfield 208, 3) := by decide +kernel
theorem d_E_bringTo_45 : decode c_E_bringTo 45 = .ok (.iload_n 3, 1) := by decide +kernel
theorem d_E_bringTo_46 : decode c_E_bringTo 46 = .ok (.aconst_null, 1) := by decide +kernel
theorem d_E_bringTo_47 : decode c_E_bringTo 47 = .ok (.aastore, 1) := by decide +kernel
theorem d_E_bringTo_48 : decode c_E_bringTo 48 = .ok (.iinc 3 1, 3) := by decide +kernel
theorem d_E_bringTo_51 : decode c_E_bringTo 51 = .ok (.goto (-49), 3) := by decide +kernel
theorem d_E_bringTo_54 : decode c_E_bringTo 54 = .ok (.aload_n 1, 1) := by decide +kernel
theorem d_E_bringTo_55 : decode c_E_bringTo 55 = .ok (.aload_n 2, 1) := by decide +kernel
theorem d_E_bringTo_56 : decode c_E_bringTo 56 = .ok (.invokevirtual 235, 3) := by decide +kernel
theorem d_E_bringTo_59 : decode c_E_bringTo 59 = .ok (.iconst (-1), 1) := by decide +kernel
theorem d_E_bringTo_60 : decode c_E_bringTo 60 = .ok (.if_icmp .ne 16, 3) := by decide +kernel
theorem d_E_bringTo_63 : decode c_E_bringTo 63 = .ok (.aload_n 0, 1) := by decide +kernel
theorem d_E_bringTo_64 : decode c_E_bringTo 64 = .ok (.aload_n 1, 1) := by decide +kernel
theorem d_E_bringTo_65 : decode c_E_bringTo 65 = .ok (.aload_n 1, 1) := by decide +kernel
theorem d_E_bringTo_66 : decode c_E_bringTo 66 = .ok (.getfield 221, 3) := by decide +kernel
theorem d_E_bringTo_69 : decode c_E_bringTo 69 = .ok (.aload_n 2, 1) := by decide +kernel
theorem d_E_bringTo_70 : decode c_E_bringTo 70 = .ok (.invokevirtual 228, 3) := by decide +kernel
theorem d_E_bringTo_73 : decode c_E_bringTo 73 = .ok (.ifCond .eq 7, 3) := by decide +kernel
theorem d_E_bringTo_76 : decode c_E_bringTo 76 = .ok (.iconst 1, 1) := by decide +kernel
theorem d_E_bringTo_77 : decode c_E_bringTo 77 = .ok (.goto 4, 3) := by decide +kernel
theorem d_E_bringTo_80 : decode c_E_bringTo 80 = .ok (.iconst 0, 1) := by decide +kernel
theorem d_E_bringTo_81 : decode c_E_bringTo 81 = .ok (.ireturn, 1) := by decide +kernel
theorem d_E_where_0 : decode c_E_where 0 = .ok (.aload_n 0, 1) := by decide +kernel
theorem d_E_where_1 : decode c_E_where 1 = .ok (.getfield 60, 3) := by decide +kernel
theorem d_E_where_4 : decode c_E_where 4 = .ok (.ifCond .ne 6, 3) := by decide +kernel
theorem d_E_where_7 : decode c_E_where 7 = .ok (.bipush (-2), 2) := by decide +kernel
theorem d_E_where_9 : decode c_E_where 9 = .ok (.ireturn, 1) := by decide +kernel
theorem d_E_where_10 : decode c_E_where 10 = .ok (.aload_n 0, 1) := by decide +kernel
theorem d_E_where_11 : decode c_E_where 11 = .ok (.getfield 47, 3) := by decide +kernel
theorem d_E_where_14 : decode c_E_where 14 = .ok (.getfield 75, 3) := by decide +kernel
theorem d_E_where_17 : decode c_E_where 17 = .ok (.iload_n 1, 1) := by decide +kernel
theorem d_E_where_18 : decode c_E_where 18 = .ok (.invokevirtual 98, 3) := by decide +kernel
theorem d_E_where_21 : decode c_E_where 21 = .ok (.astore_n 3, 1) := by decide +kernel
theorem d_E_where_22 : decode c_E_where 22 = .ok (.aload_n 3, 1) := by decide +kernel
theorem d_E_where_23 : decode c_E_where 23 = .ok (.ifnull 11, 3) := by decide +kernel
theorem d_E_where_26 : decode c_E_where 26 = .ok (.aload_n 3, 1) := by decide +kernel
theorem d_E_where_27 : decode c_E_where 27 = .ok (.iload_n 2, 1) := by decide +kernel
theorem d_E_where_28 : decode c_E_where 28 = .ok (.invokevirtual 115, 3) := by decide +kernel
theorem d_E_where_31 : decode c_E_where 31 = .ok (.ifCond .ne 7, 3) := by decide +kernel
theorem d_E_where_34 : decode c_E_where 34 = .ok (.iconst (-1), 1) := by decide +kernel
theorem d_E_where_35 : decode c_E_where 35 = .ok (.goto 9, 3) := by decide +kernel
theorem d_E_where_38 : decode c_E_where 38 = .ok (.aload_n 3, 1) := by decide +kernel
theorem d_E_where_39 : decode c_E_where 39 = .ok (.getfield 125, 3) := by decide +kernel
theorem d_E_where_42 : decode c_E_where 42 = .ok (.iload_n 2, 1) := by decide +kernel
theorem d_E_where_43 : decode c_E_where 43 = .ok (.iaload, 1) := by decide +kernel
theorem d_E_where_44 : decode c_E_where 44 = .ok (.ireturn, 1) := by decide +kernel
theorem d_E_rows_0 : decode c_E_rows 0 = .ok (.aload_n 0, 1) := by decide +kernel
theorem d_E_rows_1 : decode c_E_rows 1 = .ok (.getfield 60, 3) := by decide +kernel
theorem d_E_rows_4 : decode c_E_rows 4 = .ok (.ifCond .ne 6, 3) := by decide +kernel
theorem d_E_rows_7 : decode c_E_rows 7 = .ok (.bipush (-2), 2) := by decide +kernel
theorem d_E_rows_9 : decode c_E_rows 9 = .ok (.ireturn, 1) := by decide +kernel
theorem d_E_rows_10 : decode c_E_rows 10 = .ok (.aload_n 0, 1) := by decide +kernel
theorem d_E_rows_11 : decode c_E_rows 11 = .ok (.getfield 47, 3) := by decide +kernel
theorem d_E_rows_14 : decode c_E_rows 14 = .ok (.getfield 75, 3) := by decide +kernel
theorem d_E_rows_17 : decode c_E_rows 17 = .ok (.iload_n 1, 1) := by decide +kernel
theorem d_E_rows_18 : decode c_E_rows 18 = .ok (.invokevirtual 98, 3) := by decide +kernel
theorem d_E_rows_21 : decode c_E_rows 21 = .ok (.astore_n 2, 1) := by decide +kernel
theorem d_E_rows_22 : decode c_E_rows 22 = .ok (.aload_n 2, 1) := by decide +kernel
theorem d_E_rows_23 : decode c_E_rows 23 = .ok (.ifnonnull 7, 3) := by decide +kernel
theorem d_E_rows_26 : decode c_E_rows 26 = .ok (.iconst (-1), 1) := by decide +kernel
theorem d_E_rows_27 : decode c_E_rows 27 = .ok (.goto 7, 3) := by decide +kernel
theorem d_E_rows_30 : decode c_E_rows 30 = .ok (.aload_n 2, 1) := by decide +kernel
theorem d_E_rows_31 : decode c_E_rows 31 = .ok (.getfield 105, 3) := by decide +kernel
theorem d_E_rows_34 : decode c_E_rows 34 = .ok (.ireturn, 1) := by decide +kernel
theorem d_E_free_0 : decode c_E_free 0 = .ok (.aload_n 0, 1) := by decide +kernel
theorem d_E_free_1 : decode c_E_free 1 = .ok (.getfield 60, 3) := by decide +kernel
theorem d_E_free_4 : decode c_E_free 4 = .ok (.ifCond .ne 6, 3) := by decide +kernel
theorem d_E_free_7 : decode c_E_free 7 = .ok (.bipush (-2), 2) := by decide +kernel
theorem d_E_free_9 : decode c_E_free 9 = .ok (.ireturn, 1) := by decide +kernel
theorem d_E_free_10 : decode c_E_free 10 = .ok (.aload_n 0, 1) := by decide +kernel
theorem d_E_free_11 : decode c_E_free 11 = .ok (.iload_n 1, 1) := by decide +kernel
theorem d_E_free_12 : decode c_E_free 12 = .ok (.invokevirtual 118, 3) := by decide +kernel
theorem d_E_free_15 : decode c_E_free 15 = .ok (.ifCond .ne 5, 3) := by decide +kernel
theorem d_E_free_18 : decode c_E_free 18 = .ok (.iconst (-1), 1) := by decide +kernel
theorem d_E_free_19 : decode c_E_free 19 = .ok (.ireturn, 1) := by decide +kernel
theorem d_E_free_20 : decode c_E_free 20 = .ok (.aload_n 0, 1) := by decide +kernel
theorem d_E_free_21 : decode c_E_free 21 = .ok (.invokevirtual 135, 3) := by decide +kernel
theorem d_E_free_24 : decode c_E_free 24 = .ok (.aload_n 0, 1) := by decide +kernel
theorem d_E_free_25 : decode c_E_free 25 = .ok (.iload_n 1, 1) := by decide +kernel
theorem d_E_free_26 : decode c_E_free 26 = .ok (.invokevirtual 195, 3) := by decide +kernel
theorem d_E_free_29 : decode c_E_free 29 = .ok (.ireturn, 1) := by decide +kernel
theorem d_E_moving_0 : decode c_E_moving 0 = .ok (.aload_n 0, 1) := by decide +kernel
theorem d_E_moving_1 : decode c_E_moving 1 = .ok (.getfield 60, 3) := by decide +kernel
theorem d_E_moving_4 : decode c_E_moving 4 = .ok (.ifCond .ne 6, 3) := by decide +kernel
theorem d_E_moving_7 : decode c_E_moving 7 = .ok (.bipush (-2), 2) := by decide +kernel
theorem d_E_moving_9 : decode c_E_moving 9 = .ok (.ireturn, 1) := by decide +kernel
theorem d_E_moving_10 : decode c_E_moving 10 = .ok (.aload_n 0, 1) := by decide +kernel
theorem d_E_moving_11 : decode c_E_moving 11 = .ok (.getfield 47, 3) := by decide +kernel
theorem d_E_moving_14 : decode c_E_moving 14 = .ok (.getfield 75, 3) := by decide +kernel
theorem d_E_moving_17 : decode c_E_moving 17 = .ok (.getfield 121, 3) := by decide +kernel
theorem d_E_moving_20 : decode c_E_moving 20 = .ok (.astore_n 1, 1) := by decide +kernel
theorem d_E_moving_21 : decode c_E_moving 21 = .ok (.aload_n 1, 1) := by decide +kernel
theorem d_E_moving_22 : decode c_E_moving 22 = .ok (.ifnonnull 8, 3) := by decide +kernel
theorem d_E_moving_25 : decode c_E_moving 25 = .ok (.bipush (-8), 2) := by decide +kernel
theorem d_E_moving_27 : decode c_E_moving 27 = .ok (.goto 24, 3) := by decide +kernel
theorem d_E_moving_30 : decode c_E_moving 30 = .ok (.sipush 128, 3) := by decide +kernel
theorem d_E_moving_33 : decode c_E_moving 33 = .ok (.aload_n 1, 1) := by decide +kernel
theorem d_E_moving_34 : decode c_E_moving 34 = .ok (.getfield 198, 3) := by decide +kernel
theorem d_E_moving_37 : decode c_E_moving 37 = .ok (.imul, 1) := by decide +kernel
theorem d_E_moving_38 : decode c_E_moving 38 = .ok (.bipush 16, 2) := by decide +kernel
theorem d_E_moving_40 : decode c_E_moving 40 = .ok (.aload_n 0, 1) := by decide +kernel
theorem d_E_moving_41 : decode c_E_moving 41 = .ok (.getfield 51, 3) := by decide +kernel
theorem d_E_moving_44 : decode c_E_moving 44 = .ok (.imul, 1) := by decide +kernel
theorem d_E_moving_45 : decode c_E_moving 45 = .ok (.iadd, 1) := by decide +kernel
theorem d_E_moving_46 : decode c_E_moving 46 = .ok (.aload_n 1, 1) := by decide +kernel
theorem d_E_moving_47 : decode c_E_moving 47 = .ok (.getfield 201, 3) := by decide +kernel
theorem d_E_moving_50 : decode c_E_moving 50 = .ok (.iadd, 1) := by decide +kernel
theorem d_E_moving_51 : decode c_E_moving 51 = .ok (.ireturn, 1) := by decide +kernel
theorem d_E_sequence_0 : decode c_E_sequence 0 = .ok (.aload_n 0, 1) := by decide +kernel
theorem d_E_sequence_1 : decode c_E_sequence 1 = .ok (.getfield 60, 3) := by decide +kernel
theorem d_E_sequence_4 : decode c_E_sequence 4 = .ok (.ifCond .eq 13, 3) := by decide +kernel
theorem d_E_sequence_7 : decode c_E_sequence 7 = .ok (.aload_n 0, 1) := by decide +kernel
theorem d_E_sequence_8 : decode c_E_sequence 8 = .ok (.getfield 47, 3) := by decide +kernel
theorem d_E_sequence_11 : decode c_E_sequence 11 = .ok (.getfield 192, 3) := by decide +kernel
theorem d_E_sequence_14 : decode c_E_sequence 14 = .ok (.goto 5, 3) := by decide +kernel
theorem d_E_sequence_17 : decode c_E_sequence 17 = .ok (.bipush (-2), 2) := by decide +kernel
theorem d_E_sequence_19 : decode c_E_sequence 19 = .ok (.ireturn, 1) := by decide +kernel
theorem d_E_slot_0 : decode c_E_slot 0 = .ok (.aload_n 0, 1) := by decide +kernel
theorem d_E_slot_1 : decode c_E_slot 1 = .ok (.iload_n 1, 1) := by decide +kernel
theorem d_E_slot_2 : decode c_E_slot 2 = .ok (.invokevirtual 118, 3) := by decide +kernel
theorem d_E_slot_5 : decode c_E_slot 5 = .ok (.ifCond .eq 12, 3) := by decide +kernel
theorem d_E_slot_8 : decode c_E_slot 8 = .ok (.iload_n 2, 1) := by decide +kernel
theorem d_E_slot_9 : decode c_E_slot 9 = .ok (.ifCond .lt 8, 3) := by decide +kernel
theorem d_E_slot_12 : decode c_E_slot 12 = .ok (.iload_n 2, 1) := by decide +kernel
theorem d_E_slot_13 : decode c_E_slot 13 = .ok (.iconst 3, 1) := by decide +kernel
theorem d_E_slot_14 : decode c_E_slot 14 = .ok (.if_icmp .lt 5, 3) := by decide +kernel
theorem d_E_slot_17 : decode c_E_slot 17 = .ok (.iconst (-1), 1) := by decide +kernel
theorem d_E_slot_18 : decode c_E_slot 18 = .ok (.ireturn, 1) := by decide +kernel
theorem d_E_slot_19 : decode c_E_slot 19 = .ok (.aload_n 0, 1) := by decide +kernel
theorem d_E_slot_20 : decode c_E_slot 20 = .ok (.getfield 36, 3) := by decide +kernel
theorem d_E_slot_23 : decode c_E_slot 23 = .ok (.iload_n 1, 1) := by decide +kernel
theorem d_E_slot_24 : decode c_E_slot 24 = .ok (.aaload, 1) := by decide +kernel
theorem d_E_slot_25 : decode c_E_slot 25 = .ok (.getfield 204, 3) := by decide +kernel
theorem d_E_slot_28 : decode c_E_slot 28 = .ok (.iload_n 2, 1) := by decide +kernel
theorem d_E_slot_29 : decode c_E_slot 29 = .ok (.baload, 1) := by decide +kernel
theorem d_E_slot_30 : decode c_E_slot 30 = .ok (.ifCond .eq 6, 3) := by decide +kernel
theorem d_E_slot_33 : decode c_E_slot 33 = .ok (.bipush (-11), 2) := by decide +kernel
theorem d_E_slot_35 : decode c_E_slot 35 = .ok (.ireturn, 1) := by decide +kernel
theorem d_E_slot_36 : decode c_E_slot 36 = .ok (.aload_n 0, 1) := by decide +kernel
theorem d_E_slot_37 : decode c_E_slot 37 = .ok (.getfield 36, 3) := by decide +kernel
theorem d_E_slot_40 : decode c_E_slot 40 = .ok (.iload_n 1, 1) := by decide +kernel
theorem d_E_slot_41 : decode c_E_slot 41 = .ok (.aaload, 1) := by decide +kernel
theorem d_E_slot_42 : decode c_E_slot 42 = .ok (.getfield 208, 3) := by decide +kernel
theorem d_E_slot_45 : decode c_E_slot 45 = .ok (.iload_n 2, 1) := by decide +kernel
theorem d_E_slot_46 : decode c_E_slot 46 = .ok (.aaload, 1) := by decide +kernel
theorem d_E_slot_47 : decode c_E_slot 47 = .ok (.astore_n 3, 1) := by decide +kernel
theorem d_E_slot_48 : decode c_E_slot 48 = .ok (.aload_n 3, 1) := by decide +kernel
theorem d_E_slot_49 : decode c_E_slot 49 = .ok (.ifnonnull 7, 3) := by decide +kernel
theorem d_E_slot_52 : decode c_E_slot 52 = .ok (.iconst 0, 1) := by decide +kernel
theorem d_E_slot_53 : decode c_E_slot 53 = .ok (.goto 7, 3) := by decide +kernel
theorem d_E_slot_56 : decode c_E_slot 56 = .ok (.aload_n 3, 1) := by decide +kernel
theorem d_E_slot_57 : decode c_E_slot 57 = .ok (.getfield 192, 3) := by decide +kernel
theorem d_E_slot_60 : decode c_E_slot 60 = .ok (.ireturn, 1) := by decide +kernel
end
section
theorem d_L_init_0 : decode c_L_init 0 = .ok (.aload_n 0, 1) := by decide +kernel
theorem d_L_init_1 : decode c_L_init 1 = .ok (.invokespecial 3, 3) := by decide +kernel
theorem d_L_init_4 : decode c_L_init 4 = .ok (.aload_n 0, 1) := by decide +kernel
theorem d_L_init_5 : decode c_L_init 5 = .ok (.aload_n 1, 1) := by decide +kernel
theorem d_L_init_6 : decode c_L_init 6 = .ok (.putfield 9, 3) := by decide +kernel
theorem d_L_init_9 : decode c_L_init 9 = .ok (.aload_n 0, 1) := by decide +kernel
theorem d_L_init_10 : decode c_L_init 10 = .ok (.aload_n 2, 1) := by decide +kernel
theorem d_L_init_11 : decode c_L_init 11 = .ok (.putfield 15, 3) := by decide +kernel
theorem d_L_init_14 : decode c_L_init 14 = .ok (.return_, 1) := by decide +kernel
theorem d_C_init_0 : decode c_C_init 0 = .ok (.aload_n 0, 1) := by decide +kernel
theorem d_C_init_1 : decode c_C_init 1 = .ok (.invokespecial 1, 3) := by decide +kernel
theorem d_C_init_4 : decode c_C_init 4 = .ok (.aload_n 0, 1) := by decide +kernel
theorem d_C_init_5 : decode c_C_init 5 = .ok (.iload_n 1, 1) := by decide +kernel
theorem d_C_init_6 : decode c_C_init 6 = .ok (.putfield 7, 3) := by decide +kernel
theorem d_C_init_9 : decode c_C_init 9 = .ok (.aload_n 0, 1) := by decide +kernel
theorem d_C_init_10 : decode c_C_init 10 = .ok (.iload_n 2, 1) := by decide +kernel
theorem d_C_init_11 : decode c_C_init 11 = .ok (.putfield 13, 3) := by decide +kernel
theorem d_C_init_14 : decode c_C_init 14 = .ok (.aload_n 0, 1) := by decide +kernel
theorem d_C_init_15 : decode c_C_init 15 = .ok (.aload_n 3, 1) := by decide +kernel
theorem d_C_init_16 : decode c_C_init 16 = .ok (.putfield 16, 3) := by decide +kernel
theorem d_C_init_19 : decode c_C_init 19 = .ok (.return_, 1) := by decide +kernel
theorem d_D_init_0 : decode c_D_init 0 = .ok (.aload_n 0, 1) := by decide +kernel
theorem d_D_init_1 : decode c_D_init 1 = .ok (.invokespecial 3, 3) := by decide +kernel
theorem d_D_init_4 : decode c_D_init 4 = .ok (.aload_n 0, 1) := by decide +kernel
theorem d_D_init_5 : decode c_D_init 5 = .ok (.iload_n 1, 1) := by decide +kernel
theorem d_D_init_6 : decode c_D_init 6 = .ok (.iconst 4, 1) := by decide +kernel
theorem d_D_init_7 : decode c_D_init 7 = .ok (.imul, 1) := by decide +kernel
theorem d_D_init_8 : decode c_D_init 8 = .ok (.newarray .int, 2) := by decide +kernel
theorem d_D_init_10 : decode c_D_init 10 = .ok (.putfield 9, 3) := by decide +kernel
theorem d_D_init_13 : decode c_D_init 13 = .ok (.aload_n 0, 1) := by decide +kernel
theorem d_D_init_14 : decode c_D_init 14 = .ok (.iconst 3, 1) := by decide +kernel
theorem d_D_init_15 : decode c_D_init 15 = .ok (.anewarray 15, 3) := by decide +kernel
theorem d_D_init_18 : decode c_D_init 18 = .ok (.putfield 17, 3) := by decide +kernel
theorem d_D_init_21 : decode c_D_init 21 = .ok (.aload_n 0, 1) := by decide +kernel
theorem d_D_init_22 : decode c_D_init 22 = .ok (.iconst 3, 1) := by decide +kernel
theorem d_D_init_23 : decode c_D_init 23 = .ok (.newarray .boolean, 2) := by decide +kernel
theorem d_D_init_25 : decode c_D_init 25 = .ok (.putfield 21, 3) := by decide +kernel
theorem d_D_init_28 : decode c_D_init 28 = .ok (.aload_n 0, 1) := by decide +kernel
theorem d_D_init_29 : decode c_D_init 29 = .ok (.getfield 17, 3) := by decide +kernel
theorem d_D_init_32 : decode c_D_init 32 = .ok (.iconst 0, 1) := by decide +kernel
theorem d_D_init_33 : decode c_D_init 33 = .ok (.aload_n 2, 1) := by decide +kernel
theorem d_D_init_34 : decode c_D_init 34 = .ok (.aastore, 1) := by decide +kernel
theorem d_D_init_35 : decode c_D_init 35 = .ok (.aload_n 0, 1) := by decide +kernel
theorem d_D_init_36 : decode c_D_init 36 = .ok (.iconst 1, 1) := by decide +kernel
theorem d_D_init_37 : decode c_D_init 37 = .ok (.putfield 25, 3) := by decide +kernel
theorem d_D_init_40 : decode c_D_init 40 = .ok (.aload_n 0, 1) := by decide +kernel
theorem d_D_init_41 : decode c_D_init 41 = .ok (.iconst 1, 1) := by decide +kernel
theorem d_D_init_42 : decode c_D_init 42 = .ok (.putfield 29, 3) := by decide +kernel
theorem d_D_init_45 : decode c_D_init 45 = .ok (.return_, 1) := by decide +kernel
theorem d_L_leastAbsent_0 : decode c_L_leastAbsent 0 = .ok (.iconst 0, 1) := by decide +kernel
theorem d_L_leastAbsent_1 : decode c_L_leastAbsent 1 = .ok (.istore_n 1, 1) := by decide +kernel
theorem d_L_leastAbsent_2 : decode c_L_leastAbsent 2 = .ok (.iload_n 1, 1) := by decide +kernel
theorem d_L_leastAbsent_3 : decode c_L_leastAbsent 3 = .ok (.iconst 4, 1) := by decide +kernel
theorem d_L_leastAbsent_4 : decode c_L_leastAbsent 4 = .ok (.if_icmp .ge 20, 3) := by decide +kernel
theorem d_L_leastAbsent_7 : decode c_L_leastAbsent 7 = .ok (.aload_n 0, 1) := by decide +kernel
theorem d_L_leastAbsent_8 : decode c_L_leastAbsent 8 = .ok (.getfield 9, 3) := by decide +kernel
theorem d_L_leastAbsent_11 : decode c_L_leastAbsent 11 = .ok (.iload_n 1, 1) := by decide +kernel
theorem d_L_leastAbsent_12 : decode c_L_leastAbsent 12 = .ok (.aaload, 1) := by decide +kernel
theorem d_L_leastAbsent_13 : decode c_L_leastAbsent 13 = .ok (.ifnonnull 5, 3) := by decide +kernel
theorem d_L_leastAbsent_16 : decode c_L_leastAbsent 16 = .ok (.iload_n 1, 1) := by decide +kernel
theorem d_L_leastAbsent_17 : decode c_L_leastAbsent 17 = .ok (.ireturn, 1) := by decide +kernel
theorem d_L_leastAbsent_18 : decode c_L_leastAbsent 18 = .ok (.iinc 1 1, 3) := by decide +kernel
theorem d_L_leastAbsent_21 : decode c_L_leastAbsent 21 = .ok (.goto (-19), 3) := by decide +kernel
theorem d_L_leastAbsent_24 : decode c_L_leastAbsent 24 = .ok (.iconst (-1), 1) := by decide +kernel
theorem d_L_leastAbsent_25 : decode c_L_leastAbsent 25 = .ok (.ireturn, 1) := by decide +kernel
theorem d_U_init_0 : decode c_U_init 0 = .ok (.aload_n 0, 1) := by decide +kernel
theorem d_U_init_1 : decode c_U_init 1 = .ok (.invokespecial 3, 3) := by decide +kernel
theorem d_U_init_4 : decode c_U_init 4 = .ok (.aload_n 0, 1) := by decide +kernel
theorem d_U_init_5 : decode c_U_init 5 = .ok (.iload_n 1, 1) := by decide +kernel
theorem d_U_init_6 : decode c_U_init 6 = .ok (.putfield 9, 3) := by decide +kernel
theorem d_U_init_9 : decode c_U_init 9 = .ok (.aload_n 0, 1) := by decide +kernel
theorem d_U_init_10 : decode c_U_init 10 = .ok (.iload_n 2, 1) := by decide +kernel
theorem d_U_init_11 : decode c_U_init 11 = .ok (.putfield 15, 3) := by decide +kernel
theorem d_U_init_14 : decode c_U_init 14 = .ok (.aload_n 0, 1) := by decide +kernel
theorem d_U_init_15 : decode c_U_init 15 = .ok (.iload_n 3, 1) := by decide +kernel
theorem d_U_init_16 : decode c_U_init 16 = .ok (.putfield 18, 3) := by decide +kernel
theorem d_U_init_19 : decode c_U_init 19 = .ok (.aload_n 0, 1) := by decide +kernel
theorem d_U_init_20 : decode c_U_init 20 = .ok (.aload 4, 2) := by decide +kernel
theorem d_U_init_22 : decode c_U_init 22 = .ok (.putfield 21, 3) := by decide +kernel
theorem d_U_init_25 : decode c_U_init 25 = .ok (.return_, 1) := by decide +kernel
theorem d_L_volumeAt_0 : decode c_L_volumeAt 0 = .ok (.iload_n 1, 1) := by decide +kernel
theorem d_L_volumeAt_1 : decode c_L_volumeAt 1 = .ok (.ifCond .lt 17, 3) := by decide +kernel
theorem d_L_volumeAt_4 : decode c_L_volumeAt 4 = .ok (.iload_n 1, 1) := by decide +kernel
theorem d_L_volumeAt_5 : decode c_L_volumeAt 5 = .ok (.iconst 4, 1) := by decide +kernel
theorem d_L_volumeAt_6 : decode c_L_volumeAt 6 = .ok (.if_icmp .ge 12, 3) := by decide +kernel
theorem d_L_volumeAt_9 : decode c_L_volumeAt 9 = .ok (.aload_n 0, 1) := by decide +kernel
theorem d_L_volumeAt_10 : decode c_L_volumeAt 10 = .ok (.getfield 9, 3) := by decide +kernel
theorem d_L_volumeAt_13 : decode c_L_volumeAt 13 = .ok (.iload_n 1, 1) := by decide +kernel
theorem d_L_volumeAt_14 : decode c_L_volumeAt 14 = .ok (.aaload, 1) := by decide +kernel
theorem d_L_volumeAt_15 : decode c_L_volumeAt 15 = .ok (.goto 4, 3) := by decide +kernel
theorem d_L_volumeAt_18 : decode c_L_volumeAt 18 = .ok (.aconst_null, 1) := by decide +kernel
theorem d_L_volumeAt_19 : decode c_L_volumeAt 19 = .ok (.areturn, 1) := by decide +kernel
theorem d_L_withVolume_0 : decode c_L_withVolume 0 = .ok (.new 10, 3) := by decide +kernel
theorem d_L_withVolume_3 : decode c_L_withVolume 3 = .ok (.dup, 1) := by decide +kernel
theorem d_L_withVolume_4 : decode c_L_withVolume 4 = .ok (.aload_n 0, 1) := by decide +kernel
theorem d_L_withVolume_5 : decode c_L_withVolume 5 = .ok (.iload_n 1, 1) := by decide +kernel
theorem d_L_withVolume_6 : decode c_L_withVolume 6 = .ok (.aload_n 2, 1) := by decide +kernel
theorem d_L_withVolume_7 : decode c_L_withVolume 7 = .ok (.invokevirtual 19, 3) := by decide +kernel
theorem d_L_withVolume_10 : decode c_L_withVolume 10 = .ok (.aload_n 0, 1) := by decide +kernel
theorem d_L_withVolume_11 : decode c_L_withVolume 11 = .ok (.getfield 15, 3) := by decide +kernel
theorem d_L_withVolume_14 : decode c_L_withVolume 14 = .ok (.invokespecial 23, 3) := by decide +kernel
theorem d_L_withVolume_17 : decode c_L_withVolume 17 = .ok (.areturn, 1) := by decide +kernel
theorem d_L_volumesWith_0 : decode c_L_volumesWith 0 = .ok (.iconst 4, 1) := by decide +kernel
theorem d_L_volumesWith_1 : decode c_L_volumesWith 1 = .ok (.anewarray 43, 3) := by decide +kernel
theorem d_L_volumesWith_4 : decode c_L_volumesWith 4 = .ok (.astore_n 3, 1) := by decide +kernel
theorem d_L_volumesWith_5 : decode c_L_volumesWith 5 = .ok (.iconst 0, 1) := by decide +kernel
theorem d_L_volumesWith_6 : decode c_L_volumesWith 6 = .ok (.istore 4, 2) := by decide +kernel
theorem d_L_volumesWith_8 : decode c_L_volumesWith 8 = .ok (.iload 4, 2) := by decide +kernel
theorem d_L_volumesWith_10 : decode c_L_volumesWith 10 = .ok (.iconst 4, 1) := by decide +kernel
theorem d_L_volumesWith_11 : decode c_L_volumesWith 11 = .ok (.if_icmp .ge 30, 3) := by decide +kernel
theorem d_L_volumesWith_14 : decode c_L_volumesWith 14 = .ok (.aload_n 3, 1) := by decide +kernel
theorem d_L_volumesWith_15 : decode c_L_volumesWith 15 = .ok (.iload 4, 2) := by decide +kernel
theorem d_L_volumesWith_17 : decode c_L_volumesWith 17 = .ok (.iload 4, 2) := by decide +kernel
theorem d_L_volumesWith_19 : decode c_L_volumesWith 19 = .ok (.iload_n 1, 1) := by decide +kernel
theorem d_L_volumesWith_20 : decode c_L_volumesWith 20 = .ok (.if_icmp .ne 7, 3) := by decide +kernel
theorem d_L_volumesWith_23 : decode c_L_volumesWith 23 = .ok (.aload_n 2, 1) := by decide +kernel
theorem d_L_volumesWith_24 : decode c_L_volumesWith 24 = .ok (.goto 10, 3) := by decide +kernel
theorem d_L_volumesWith_27 : decode c_L_volumesWith 27 = .ok (.aload_n 0, 1) := by decide +kernel
theorem d_L_volumesWith_28 : decode c_L_volumesWith 28 = .ok (.getfield 9, 3) := by decide +kernel
theorem d_L_volumesWith_31 : decode c_L_volumesWith 31 = .ok (.iload 4, 2) := by decide +kernel
theorem d_L_volumesWith_33 : decode c_L_volumesWith 33 = .ok (.aaload, 1) := by decide +kernel
theorem d_L_volumesWith_34 : decode c_L_volumesWith 34 = .ok (.aastore, 1) := by decide +kernel
theorem d_L_volumesWith_35 : decode c_L_volumesWith 35 = .ok (.iinc 4 1, 3) := by decide +kernel
theorem d_L_volumesWith_38 : decode c_L_volumesWith 38 = .ok (.goto (-30), 3) := by decide +kernel
theorem d_L_volumesWith_41 : decode c_L_volumesWith 41 = .ok (.aload_n 3, 1) := by decide +kernel
theorem d_L_volumesWith_42 : decode c_L_volumesWith 42 = .ok (.areturn, 1) := by decide +kernel
theorem d_D_slotBehind_0 : decode c_D_slotBehind 0 = .ok (.aload_n 0, 1) := by decide +kernel
theorem d_D_slotBehind_1 : decode c_D_slotBehind 1 = .ok (.aload_n 1, 1) := by decide +kernel
theorem d_D_slotBehind_2 : decode c_D_slotBehind 2 = .ok (.invokevirtual 37, 3) := by decide +kernel
theorem d_D_slotBehind_5 : decode c_D_slotBehind 5 = .ok (.istore_n 2, 1) := by decide +kernel
theorem d_D_slotBehind_6 : decode c_D_slotBehind 6 = .ok (.iload_n 2, 1) := by decide +kernel
theorem d_D_slotBehind_7 : decode c_D_slotBehind 7 = .ok (.iconst (-1), 1) := by decide +kernel
theorem d_D_slotBehind_8 : decode c_D_slotBehind 8 = .ok (.if_icmp .ne 10, 3) := by decide +kernel
theorem d_D_slotBehind_11 : decode c_D_slotBehind 11 = .ok (.aload_n 0, 1) := by decide +kernel
theorem d_D_slotBehind_12 : decode c_D_slotBehind 12 = .ok (.getfield 25, 3) := by decide +kernel
theorem d_D_slotBehind_15 : decode c_D_slotBehind 15 = .ok (.goto 8, 3) := by decide +kernel
theorem d_D_slotBehind_18 : decode c_D_slotBehind 18 = .ok (.iload_n 2, 1) := by decide +kernel
theorem d_D_slotBehind_19 : decode c_D_slotBehind 19 = .ok (.iconst 1, 1) := by decide +kernel
theorem d_D_slotBehind_20 : decode c_D_slotBehind 20 = .ok (.iadd, 1) := by decide +kernel
theorem d_D_slotBehind_21 : decode c_D_slotBehind 21 = .ok (.iconst 3, 1) := by decide +kernel
theorem d_D_slotBehind_22 : decode c_D_slotBehind 22 = .ok (.irem, 1) := by decide +kernel
theorem d_D_slotBehind_23 : decode c_D_slotBehind 23 = .ok (.ireturn, 1) := by decide +kernel
theorem d_D_slotWith_0 : decode c_D_slotWith 0 = .ok (.iconst 0, 1) := by decide +kernel
theorem d_D_slotWith_1 : decode c_D_slotWith 1 = .ok (.istore_n 2, 1) := by decide +kernel
theorem d_D_slotWith_2 : decode c_D_slotWith 2 = .ok (.iload_n 2, 1) := by decide +kernel
theorem d_D_slotWith_3 : decode c_D_slotWith 3 = .ok (.iconst 3, 1) := by decide +kernel
theorem d_D_slotWith_4 : decode c_D_slotWith 4 = .ok (.if_icmp .ge 33, 3) := by decide +kernel
theorem d_D_slotWith_7 : decode c_D_slotWith 7 = .ok (.aload_n 0, 1) := by decide +kernel
theorem d_D_slotWith_8 : decode c_D_slotWith 8 = .ok (.getfield 17, 3) := by decide +kernel
theorem d_D_slotWith_11 : decode c_D_slotWith 11 = .ok (.iload_n 2, 1) := by decide +kernel
theorem d_D_slotWith_12 : decode c_D_slotWith 12 = .ok (.aaload, 1) := by decide +kernel
theorem d_D_slotWith_13 : decode c_D_slotWith 13 = .ok (.ifnull 18, 3) := by decide +kernel
theorem d_D_slotWith_16 : decode c_D_slotWith 16 = .ok (.aload_n 0, 1) := by decide +kernel
theorem d_D_slotWith_17 : decode c_D_slotWith 17 = .ok (.getfield 17, 3) := by decide +kernel
theorem d_D_slotWith_20 : decode c_D_slotWith 20 = .ok (.iload_n 2, 1) := by decide +kernel
theorem d_D_slotWith_21 : decode c_D_slotWith 21 = .ok (.aaload, 1) := by decide +kernel
theorem d_D_slotWith_22 : decode c_D_slotWith 22 = .ok (.aload_n 1, 1) := by decide +kernel
theorem d_D_slotWith_23 : decode c_D_slotWith 23 = .ok (.invokevirtual 33, 3) := by decide +kernel
theorem d_D_slotWith_26 : decode c_D_slotWith 26 = .ok (.ifCond .eq 5, 3) := by decide +kernel
theorem d_D_slotWith_29 : decode c_D_slotWith 29 = .ok (.iload_n 2, 1) := by decide +kernel
theorem d_D_slotWith_30 : decode c_D_slotWith 30 = .ok (.ireturn, 1) := by decide +kernel
theorem d_D_slotWith_31 : decode c_D_slotWith 31 = .ok (.iinc 2 1, 3) := by decide +kernel
theorem d_D_slotWith_34 : decode c_D_slotWith 34 = .ok (.goto (-32), 3) := by decide +kernel
theorem d_D_slotWith_37 : decode c_D_slotWith 37 = .ok (.iconst (-1), 1) := by decide +kernel
theorem d_D_slotWith_38 : decode c_D_slotWith 38 = .ok (.ireturn, 1) := by decide +kernel
theorem d_C_isSame_0 : decode c_C_isSame 0 = .ok (.aload_n 0, 1) := by decide +kernel
theorem d_C_isSame_1 : decode c_C_isSame 1 = .ok (.getfield 7, 3) := by decide +kernel
theorem d_C_isSame_4 : decode c_C_isSame 4 = .ok (.aload_n 1, 1) := by decide +kernel
theorem d_C_isSame_5 : decode c_C_isSame 5 = .ok (.getfield 7, 3) := by decide +kernel
theorem d_C_isSame_8 : decode c_C_isSame 8 = .ok (.if_icmp .ne 18, 3) := by decide +kernel
theorem d_C_isSame_11 : decode c_C_isSame 11 = .ok (.aload_n 0, 1) := by decide +kernel
theorem d_C_isSame_12 : decode c_C_isSame 12 = .ok (.getfield 13, 3) := by decide +kernel
theorem d_C_isSame_15 : decode c_C_isSame 15 = .ok (.aload_n 1, 1) := by decide +kernel
theorem d_C_isSame_16 : decode c_C_isSame 16 = .ok (.getfield 13, 3) := by decide +kernel
theorem d_C_isSame_19 : decode c_C_isSame 19 = .ok (.if_icmp .ne 7, 3) := by decide +kernel
theorem d_C_isSame_22 : decode c_C_isSame 22 = .ok (.iconst 1, 1) := by decide +kernel
theorem d_C_isSame_23 : decode c_C_isSame 23 = .ok (.goto 4, 3) := by decide +kernel
theorem d_C_isSame_26 : decode c_C_isSame 26 = .ok (.iconst 0, 1) := by decide +kernel
theorem d_C_isSame_27 : decode c_C_isSame 27 = .ok (.ireturn, 1) := by decide +kernel
theorem d_U_withRows_0 : decode c_U_withRows 0 = .ok (.new 10, 3) := by decide +kernel
theorem d_U_withRows_3 : decode c_U_withRows 3 = .ok (.dup, 1) := by decide +kernel
theorem d_U_withRows_4 : decode c_U_withRows 4 = .ok (.aload_n 0, 1) := by decide +kernel
theorem d_U_withRows_5 : decode c_U_withRows 5 = .ok (.getfield 9, 3) := by decide +kernel
theorem d_U_withRows_8 : decode c_U_withRows 8 = .ok (.aload_n 0, 1) := by decide +kernel
theorem d_U_withRows_9 : decode c_U_withRows 9 = .ok (.getfield 15, 3) := by decide +kernel
theorem d_U_withRows_12 : decode c_U_withRows 12 = .ok (.iload_n 1, 1) := by decide +kernel
theorem d_U_withRows_13 : decode c_U_withRows 13 = .ok (.aload_n 0, 1) := by decide +kernel
theorem d_U_withRows_14 : decode c_U_withRows 14 = .ok (.getfield 21, 3) := by decide +kernel
theorem d_U_withRows_17 : decode c_U_withRows 17 = .ok (.aload_n 0, 1) := by decide +kernel
theorem d_U_withRows_18 : decode c_U_withRows 18 = .ok (.getfield 9, 3) := by decide +kernel
theorem d_U_withRows_21 : decode c_U_withRows 21 = .ok (.iload_n 1, 1) := by decide +kernel
theorem d_U_withRows_22 : decode c_U_withRows 22 = .ok (.imul, 1) := by decide +kernel
theorem d_U_withRows_23 : decode c_U_withRows 23 = .ok (.invokestatic 25, 3) := by decide +kernel
theorem d_U_withRows_26 : decode c_U_withRows 26 = .ok (.invokespecial 31, 3) := by decide +kernel
theorem d_U_withRows_29 : decode c_U_withRows 29 = .ok (.areturn, 1) := by decide +kernel
theorem d_U_hasExtent_0 : decode c_U_hasExtent 0 = .ok (.iload_n 1, 1) := by decide +kernel
theorem d_U_hasExtent_1 : decode c_U_hasExtent 1 = .ok (.ifCond .lt 16, 3) := by decide +kernel
theorem d_U_hasExtent_4 : decode c_U_hasExtent 4 = .ok (.iload_n 1, 1) := by decide +kernel
theorem d_U_hasExtent_5 : decode c_U_hasExtent 5 = .ok (.aload_n 0, 1) := by decide +kernel
theorem d_U_hasExtent_6 : decode c_U_hasExtent 6 = .ok (.getfield 21, 3) := by decide +kernel
theorem d_U_hasExtent_9 : decode c_U_hasExtent 9 = .ok (.arraylength, 1) := by decide +kernel
theorem d_U_hasExtent_10 : decode c_U_hasExtent 10 = .ok (.if_icmp .ge 7, 3) := by decide +kernel
theorem d_U_hasExtent_13 : decode c_U_hasExtent 13 = .ok (.iconst 1, 1) := by decide +kernel
theorem d_U_hasExtent_14 : decode c_U_hasExtent 14 = .ok (.goto 4, 3) := by decide +kernel
theorem d_U_hasExtent_17 : decode c_U_hasExtent 17 = .ok (.iconst 0, 1) := by decide +kernel
theorem d_U_hasExtent_18 : decode c_U_hasExtent 18 = .ok (.ireturn, 1) := by decide +kernel
theorem d_V_init_0 : decode c_V_init 0 = .ok (.aload_n 0, 1) := by decide +kernel
theorem d_V_init_1 : decode c_V_init 1 = .ok (.invokespecial 1, 3) := by decide +kernel
theorem d_V_init_4 : decode c_V_init 4 = .ok (.aload_n 0, 1) := by decide +kernel
theorem d_V_init_5 : decode c_V_init 5 = .ok (.iload_n 1, 1) := by decide +kernel
theorem d_V_init_6 : decode c_V_init 6 = .ok (.putfield 7, 3) := by decide +kernel
theorem d_V_init_9 : decode c_V_init 9 = .ok (.aload_n 0, 1) := by decide +kernel
theorem d_V_init_10 : decode c_V_init 10 = .ok (.iload_n 2, 1) := by decide +kernel
theorem d_V_init_11 : decode c_V_init 11 = .ok (.putfield 13, 3) := by decide +kernel
theorem d_V_init_14 : decode c_V_init 14 = .ok (.aload_n 0, 1) := by decide +kernel
theorem d_V_init_15 : decode c_V_init 15 = .ok (.iload_n 3, 1) := by decide +kernel
theorem d_V_init_16 : decode c_V_init 16 = .ok (.putfield 16, 3) := by decide +kernel
theorem d_V_init_19 : decode c_V_init 19 = .ok (.aload_n 0, 1) := by decide +kernel
theorem d_V_init_20 : decode c_V_init 20 = .ok (.iload 4, 2) := by decide +kernel
theorem d_V_init_22 : decode c_V_init 22 = .ok (.putfield 19, 3) := by decide +kernel
theorem d_V_init_25 : decode c_V_init 25 = .ok (.return_, 1) := by decide +kernel
theorem d_L_withMove_0 : decode c_L_withMove 0 = .ok (.new 10, 3) := by decide +kernel
theorem d_L_withMove_3 : decode c_L_withMove 3 = .ok (.dup, 1) := by decide +kernel
theorem d_L_withMove_4 : decode c_L_withMove 4 = .ok (.aload_n 0, 1) := by decide +kernel
theorem d_L_withMove_5 : decode c_L_withMove 5 = .ok (.getfield 9, 3) := by decide +kernel
theorem d_L_withMove_8 : decode c_L_withMove 8 = .ok (.aload_n 1, 1) := by decide +kernel
theorem d_L_withMove_9 : decode c_L_withMove 9 = .ok (.invokespecial 23, 3) := by decide +kernel
theorem d_L_withMove_12 : decode c_L_withMove 12 = .ok (.areturn, 1) := by decide +kernel
theorem d_L_withMoveDone_0 : decode c_L_withMoveDone 0 = .ok (.aload_n 0, 1) := by decide +kernel
theorem d_L_withMoveDone_1 : decode c_L_withMoveDone 1 = .ok (.getfield 15, 3) := by decide +kernel
theorem d_L_withMoveDone_4 : decode c_L_withMoveDone 4 = .ok (.ifnonnull 7, 3) := by decide +kernel
theorem d_L_withMoveDone_7 : decode c_L_withMoveDone 7 = .ok (.aconst_null, 1) := by decide +kernel
theorem d_L_withMoveDone_8 : decode c_L_withMoveDone 8 = .ok (.goto 14, 3) := by decide +kernel
theorem d_L_withMoveDone_11 : decode c_L_withMoveDone 11 = .ok (.aload_n 0, 1) := by decide +kernel
theorem d_L_withMoveDone_12 : decode c_L_withMoveDone 12 = .ok (.aload_n 0, 1) := by decide +kernel
theorem d_L_withMoveDone_13 : decode c_L_withMoveDone 13 = .ok (.getfield 15, 3) := by decide +kernel
theorem d_L_withMoveDone_16 : decode c_L_withMoveDone 16 = .ok (.getfield 26, 3) := by decide +kernel
theorem d_L_withMoveDone_19 : decode c_L_withMoveDone 19 = .ok (.invokevirtual 32, 3) := by decide +kernel
theorem d_L_withMoveDone_22 : decode c_L_withMoveDone 22 = .ok (.astore_n 1, 1) := by decide +kernel
theorem d_L_withMoveDone_23 : decode c_L_withMoveDone 23 = .ok (.aload_n 1, 1) := by decide +kernel
theorem d_L_withMoveDone_24 : decode c_L_withMoveDone 24 = .ok (.ifnonnull 5, 3) := by decide +kernel
theorem d_L_withMoveDone_27 : decode c_L_withMoveDone 27 = .ok (.aload_n 0, 1) := by decide +kernel
theorem d_L_withMoveDone_28 : decode c_L_withMoveDone 28 = .ok (.areturn, 1) := by decide +kernel
theorem d_L_withMoveDone_29 : decode c_L_withMoveDone 29 = .ok (.new 10, 3) := by decide +kernel
theorem d_L_withMoveDone_32 : decode c_L_withMoveDone 32 = .ok (.dup, 1) := by decide +kernel
theorem d_L_withMoveDone_33 : decode c_L_withMoveDone 33 = .ok (.aload_n 0, 1) := by decide +kernel
theorem d_L_withMoveDone_34 : decode c_L_withMoveDone 34 = .ok (.aload_n 0, 1) := by decide +kernel
theorem d_L_withMoveDone_35 : decode c_L_withMoveDone 35 = .ok (.getfield 15, 3) := by decide +kernel
theorem d_L_withMoveDone_38 : decode c_L_withMoveDone 38 = .ok (.getfield 26, 3) := by decide +kernel
theorem d_L_withMoveDone_41 : decode c_L_withMoveDone 41 = .ok (.aload_n 1, 1) := by decide +kernel
theorem d_L_withMoveDone_42 : decode c_L_withMoveDone 42 = .ok (.aload_n 0, 1) := by decide +kernel
theorem d_L_withMoveDone_43 : decode c_L_withMoveDone 43 = .ok (.getfield 15, 3) := by decide +kernel
theorem d_L_withMoveDone_46 : decode c_L_withMoveDone 46 = .ok (.getfield 36, 3) := by decide +kernel
theorem d_L_withMoveDone_49 : decode c_L_withMoveDone 49 = .ok (.aload_n 0, 1) := by decide +kernel
theorem d_L_withMoveDone_50 : decode c_L_withMoveDone 50 = .ok (.getfield 15, 3) := by decide +kernel
theorem d_L_withMoveDone_53 : decode c_L_withMoveDone 53 = .ok (.getfield 39, 3) := by decide +kernel
theorem d_L_withMoveDone_56 : decode c_L_withMoveDone 56 = .ok (.invokevirtual 42, 3) := by decide +kernel
theorem d_L_withMoveDone_59 : decode c_L_withMoveDone 59 = .ok (.invokevirtual 19, 3) := by decide +kernel
theorem d_L_withMoveDone_62 : decode c_L_withMoveDone 62 = .ok (.aconst_null, 1) := by decide +kernel
theorem d_L_withMoveDone_63 : decode c_L_withMoveDone 63 = .ok (.invokespecial 23, 3) := by decide +kernel
theorem d_L_withMoveDone_66 : decode c_L_withMoveDone 66 = .ok (.areturn, 1) := by decide +kernel
theorem d_U_withPlace_0 : decode c_U_withPlace 0 = .ok (.aload_n 0, 1) := by decide +kernel
theorem d_U_withPlace_1 : decode c_U_withPlace 1 = .ok (.aload_n 0, 1) := by decide +kernel
theorem d_U_withPlace_2 : decode c_U_withPlace 2 = .ok (.getfield 18, 3) := by decide +kernel
theorem d_U_withPlace_5 : decode c_U_withPlace 5 = .ok (.invokevirtual 34, 3) := by decide +kernel
theorem d_U_withPlace_8 : decode c_U_withPlace 8 = .ok (.astore_n 3, 1) := by decide +kernel
theorem d_U_withPlace_9 : decode c_U_withPlace 9 = .ok (.aload_n 0, 1) := by decide +kernel
theorem d_U_withPlace_10 : decode c_U_withPlace 10 = .ok (.iload_n 1, 1) := by decide +kernel
theorem d_U_withPlace_11 : decode c_U_withPlace 11 = .ok (.invokevirtual 38, 3) := by decide +kernel
theorem d_U_withPlace_14 : decode c_U_withPlace 14 = .ok (.ifCond .eq 10, 3) := by decide +kernel
theorem d_U_withPlace_17 : decode c_U_withPlace 17 = .ok (.aload_n 3, 1) := by decide +kernel
theorem d_U_withPlace_18 : decode c_U_withPlace 18 = .ok (.getfield 21, 3) := by decide +kernel
theorem d_U_withPlace_21 : decode c_U_withPlace 21 = .ok (.iload_n 1, 1) := by decide +kernel
theorem d_U_withPlace_22 : decode c_U_withPlace 22 = .ok (.iload_n 2, 1) := by decide +kernel
theorem d_U_withPlace_23 : decode c_U_withPlace 23 = .ok (.iastore, 1) := by decide +kernel
theorem d_U_withPlace_24 : decode c_U_withPlace 24 = .ok (.aload_n 3, 1) := by decide +kernel
theorem d_U_withPlace_25 : decode c_U_withPlace 25 = .ok (.areturn, 1) := by decide +kernel
theorem d_U_hasBlock_0 : decode c_U_hasBlock 0 = .ok (.iload_n 1, 1) := by decide +kernel
theorem d_U_hasBlock_1 : decode c_U_hasBlock 1 = .ok (.ifCond .lt 18, 3) := by decide +kernel
theorem d_U_hasBlock_4 : decode c_U_hasBlock 4 = .ok (.iload_n 1, 1) := by decide +kernel
theorem d_U_hasBlock_5 : decode c_U_hasBlock 5 = .ok (.iconst 4, 1) := by decide +kernel
theorem d_U_hasBlock_6 : decode c_U_hasBlock 6 = .ok (.aload_n 0, 1) := by decide +kernel
theorem d_U_hasBlock_7 : decode c_U_hasBlock 7 = .ok (.getfield 21, 3) := by decide +kernel
theorem d_U_hasBlock_10 : decode c_U_hasBlock 10 = .ok (.arraylength, 1) := by decide +kernel
theorem d_U_hasBlock_11 : decode c_U_hasBlock 11 = .ok (.imul, 1) := by decide +kernel
theorem d_U_hasBlock_12 : decode c_U_hasBlock 12 = .ok (.if_icmp .ge 7, 3) := by decide +kernel
theorem d_U_hasBlock_15 : decode c_U_hasBlock 15 = .ok (.iconst 1, 1) := by decide +kernel
theorem d_U_hasBlock_16 : decode c_U_hasBlock 16 = .ok (.goto 4, 3) := by decide +kernel
theorem d_U_hasBlock_19 : decode c_U_hasBlock 19 = .ok (.iconst 0, 1) := by decide +kernel
theorem d_U_hasBlock_20 : decode c_U_hasBlock 20 = .ok (.ireturn, 1) := by decide +kernel
theorem d_U_extentOf_0 : decode c_U_extentOf 0 = .ok (.iload_n 1, 1) := by decide +kernel
theorem d_U_extentOf_1 : decode c_U_extentOf 1 = .ok (.iconst 4, 1) := by decide +kernel
theorem d_U_extentOf_2 : decode c_U_extentOf 2 = .ok (.aload_n 0, 1) := by decide +kernel
theorem d_U_extentOf_3 : decode c_U_extentOf 3 = .ok (.getfield 9, 3) := by decide +kernel
theorem d_U_extentOf_6 : decode c_U_extentOf 6 = .ok (.imul, 1) := by decide +kernel
theorem d_U_extentOf_7 : decode c_U_extentOf 7 = .ok (.idiv, 1) := by decide +kernel
theorem d_U_extentOf_8 : decode c_U_extentOf 8 = .ok (.istore_n 2, 1) := by decide +kernel
theorem d_U_extentOf_9 : decode c_U_extentOf 9 = .ok (.iload_n 1, 1) := by decide +kernel
theorem d_U_extentOf_10 : decode c_U_extentOf 10 = .ok (.iconst 4, 1) := by decide +kernel
theorem d_U_extentOf_11 : decode c_U_extentOf 11 = .ok (.aload_n 0, 1) := by decide +kernel
theorem d_U_extentOf_12 : decode c_U_extentOf 12 = .ok (.getfield 9, 3) := by decide +kernel
theorem d_U_extentOf_15 : decode c_U_extentOf 15 = .ok (.imul, 1) := by decide +kernel
theorem d_U_extentOf_16 : decode c_U_extentOf 16 = .ok (.irem, 1) := by decide +kernel
theorem d_U_extentOf_17 : decode c_U_extentOf 17 = .ok (.istore_n 3, 1) := by decide +kernel
theorem d_U_extentOf_18 : decode c_U_extentOf 18 = .ok (.aload_n 0, 1) := by decide +kernel
theorem d_U_extentOf_19 : decode c_U_extentOf 19 = .ok (.getfield 9, 3) := by decide +kernel
theorem d_U_extentOf_22 : decode c_U_extentOf 22 = .ok (.iload_n 2, 1) := by decide +kernel
theorem d_U_extentOf_23 : decode c_U_extentOf 23 = .ok (.imul, 1) := by decide +kernel
theorem d_U_extentOf_24 : decode c_U_extentOf 24 = .ok (.iload_n 3, 1) := by decide +kernel
theorem d_U_extentOf_25 : decode c_U_extentOf 25 = .ok (.aload_n 0, 1) := by decide +kernel
theorem d_U_extentOf_26 : decode c_U_extentOf 26 = .ok (.getfield 15, 3) := by decide +kernel
theorem d_U_extentOf_29 : decode c_U_extentOf 29 = .ok (.idiv, 1) := by decide +kernel
theorem d_U_extentOf_30 : decode c_U_extentOf 30 = .ok (.aload_n 0, 1) := by decide +kernel
theorem d_U_extentOf_31 : decode c_U_extentOf 31 = .ok (.getfield 9, 3) := by decide +kernel
theorem d_U_extentOf_34 : decode c_U_extentOf 34 = .ok (.irem, 1) := by decide +kernel
theorem d_U_extentOf_35 : decode c_U_extentOf 35 = .ok (.iadd, 1) := by decide +kernel
theorem d_U_extentOf_36 : decode c_U_extentOf 36 = .ok (.ireturn, 1) := by decide +kernel
theorem d_U_cellOf_0 : decode c_U_cellOf 0 = .ok (.iload_n 1, 1) := by decide +kernel
theorem d_U_cellOf_1 : decode c_U_cellOf 1 = .ok (.iconst 4, 1) := by decide +kernel
theorem d_U_cellOf_2 : decode c_U_cellOf 2 = .ok (.aload_n 0, 1) := by decide +kernel
theorem d_U_cellOf_3 : decode c_U_cellOf 3 = .ok (.getfield 9, 3) := by decide +kernel
theorem d_U_cellOf_6 : decode c_U_cellOf 6 = .ok (.imul, 1) := by decide +kernel
theorem d_U_cellOf_7 : decode c_U_cellOf 7 = .ok (.irem, 1) := by decide +kernel
theorem d_U_cellOf_8 : decode c_U_cellOf 8 = .ok (.istore_n 2, 1) := by decide +kernel
theorem d_U_cellOf_9 : decode c_U_cellOf 9 = .ok (.iload_n 2, 1) := by decide +kernel
theorem d_U_cellOf_10 : decode c_U_cellOf 10 = .ok (.aload_n 0, 1) := by decide +kernel
theorem d_U_cellOf_11 : decode c_U_cellOf 11 = .ok (.getfield 15, 3) := by decide +kernel
theorem d_U_cellOf_14 : decode c_U_cellOf 14 = .ok (.idiv, 1) := by decide +kernel
theorem d_U_cellOf_15 : decode c_U_cellOf 15 = .ok (.aload_n 0, 1) := by decide +kernel
theorem d_U_cellOf_16 : decode c_U_cellOf 16 = .ok (.getfield 9, 3) := by decide +kernel
theorem d_U_cellOf_19 : decode c_U_cellOf 19 = .ok (.idiv, 1) := by decide +kernel
theorem d_U_cellOf_20 : decode c_U_cellOf 20 = .ok (.aload_n 0, 1) := by decide +kernel
theorem d_U_cellOf_21 : decode c_U_cellOf 21 = .ok (.getfield 15, 3) := by decide +kernel
theorem d_U_cellOf_24 : decode c_U_cellOf 24 = .ok (.imul, 1) := by decide +kernel
theorem d_U_cellOf_25 : decode c_U_cellOf 25 = .ok (.iload_n 2, 1) := by decide +kernel
theorem d_U_cellOf_26 : decode c_U_cellOf 26 = .ok (.aload_n 0, 1) := by decide +kernel
theorem d_U_cellOf_27 : decode c_U_cellOf 27 = .ok (.getfield 15, 3) := by decide +kernel
theorem d_U_cellOf_30 : decode c_U_cellOf 30 = .ok (.irem, 1) := by decide +kernel
theorem d_U_cellOf_31 : decode c_U_cellOf 31 = .ok (.iadd, 1) := by decide +kernel
theorem d_U_cellOf_32 : decode c_U_cellOf 32 = .ok (.ireturn, 1) := by decide +kernel
end
section
theorem d_JM_max_0 : decode c_JM_max 0 = .ok (.iload_n 0, 1) := by decide +kernel
theorem d_JM_max_1 : decode c_JM_max 1 = .ok (.iload_n 1, 1) := by decide +kernel
theorem d_JM_max_2 : decode c_JM_max 2 = .ok (.if_icmp .lt 7, 3) := by decide +kernel
theorem d_JM_max_5 : decode c_JM_max 5 = .ok (.iload_n 0, 1) := by decide +kernel
theorem d_JM_max_6 : decode c_JM_max 6 = .ok (.goto 4, 3) := by decide +kernel
theorem d_JM_max_9 : decode c_JM_max 9 = .ok (.iload_n 1, 1) := by decide +kernel
theorem d_JM_max_10 : decode c_JM_max 10 = .ok (.ireturn, 1) := by decide +kernel
theorem d_JM_min_0 : decode c_JM_min 0 = .ok (.iload_n 0, 1) := by decide +kernel
theorem d_JM_min_1 : decode c_JM_min 1 = .ok (.iload_n 1, 1) := by decide +kernel
theorem d_JM_min_2 : decode c_JM_min 2 = .ok (.if_icmp .gt 7, 3) := by decide +kernel
theorem d_JM_min_5 : decode c_JM_min 5 = .ok (.iload_n 0, 1) := by decide +kernel
theorem d_JM_min_6 : decode c_JM_min 6 = .ok (.goto 4, 3) := by decide +kernel
theorem d_JM_min_9 : decode c_JM_min 9 = .ok (.iload_n 1, 1) := by decide +kernel
theorem d_JM_min_10 : decode c_JM_min 10 = .ok (.ireturn, 1) := by decide +kernel
theorem d_JA_fill_0 : decode c_JA_fill 0 = .ok (.iconst 0, 1) := by decide +kernel
theorem d_JA_fill_1 : decode c_JA_fill 1 = .ok (.istore_n 2, 1) := by decide +kernel
theorem d_JA_fill_2 : decode c_JA_fill 2 = .ok (.aload_n 0, 1) := by decide +kernel
theorem d_JA_fill_3 : decode c_JA_fill 3 = .ok (.arraylength, 1) := by decide +kernel
theorem d_JA_fill_4 : decode c_JA_fill 4 = .ok (.istore_n 3, 1) := by decide +kernel
theorem d_JA_fill_5 : decode c_JA_fill 5 = .ok (.iload_n 2, 1) := by decide +kernel
theorem d_JA_fill_6 : decode c_JA_fill 6 = .ok (.iload_n 3, 1) := by decide +kernel
theorem d_JA_fill_7 : decode c_JA_fill 7 = .ok (.if_icmp .ge 13, 3) := by decide +kernel
theorem d_JA_fill_10 : decode c_JA_fill 10 = .ok (.aload_n 0, 1) := by decide +kernel
theorem d_JA_fill_11 : decode c_JA_fill 11 = .ok (.iload_n 2, 1) := by decide +kernel
theorem d_JA_fill_12 : decode c_JA_fill 12 = .ok (.iload_n 1, 1) := by decide +kernel
theorem d_JA_fill_13 : decode c_JA_fill 13 = .ok (.iastore, 1) := by decide +kernel
theorem d_JA_fill_14 : decode c_JA_fill 14 = .ok (.iinc 2 1, 3) := by decide +kernel
theorem d_JA_fill_17 : decode c_JA_fill 17 = .ok (.goto (-12), 3) := by decide +kernel
theorem d_JA_fill_20 : decode c_JA_fill 20 = .ok (.return_, 1) := by decide +kernel
theorem d_JI_bitCount_0 : decode c_JI_bitCount 0 = .ok (.iload_n 0, 1) := by decide +kernel
theorem d_JI_bitCount_1 : decode c_JI_bitCount 1 = .ok (.iload_n 0, 1) := by decide +kernel
theorem d_JI_bitCount_2 : decode c_JI_bitCount 2 = .ok (.iconst 1, 1) := by decide +kernel
theorem d_JI_bitCount_3 : decode c_JI_bitCount 3 = .ok (.iushr, 1) := by decide +kernel
theorem d_JI_bitCount_4 : decode c_JI_bitCount 4 = .ok (.ldc_w 265, 3) := by decide +kernel
theorem d_JI_bitCount_7 : decode c_JI_bitCount 7 = .ok (.iand, 1) := by decide +kernel
theorem d_JI_bitCount_8 : decode c_JI_bitCount 8 = .ok (.isub, 1) := by decide +kernel
theorem d_JI_bitCount_9 : decode c_JI_bitCount 9 = .ok (.istore_n 0, 1) := by decide +kernel
theorem d_JI_bitCount_10 : decode c_JI_bitCount 10 = .ok (.iload_n 0, 1) := by decide +kernel
theorem d_JI_bitCount_11 : decode c_JI_bitCount 11 = .ok (.ldc_w 266, 3) := by decide +kernel
theorem d_JI_bitCount_14 : decode c_JI_bitCount 14 = .ok (.iand, 1) := by decide +kernel
theorem d_JI_bitCount_15 : decode c_JI_bitCount 15 = .ok (.iload_n 0, 1) := by decide +kernel
theorem d_JI_bitCount_16 : decode c_JI_bitCount 16 = .ok (.iconst 2, 1) := by decide +kernel
theorem d_JI_bitCount_17 : decode c_JI_bitCount 17 = .ok (.iushr, 1) := by decide +kernel
theorem d_JI_bitCount_18 : decode c_JI_bitCount 18 = .ok (.ldc_w 266, 3) := by decide +kernel
theorem d_JI_bitCount_21 : decode c_JI_bitCount 21 = .ok (.iand, 1) := by decide +kernel
theorem d_JI_bitCount_22 : decode c_JI_bitCount 22 = .ok (.iadd, 1) := by decide +kernel
theorem d_JI_bitCount_23 : decode c_JI_bitCount 23 = .ok (.istore_n 0, 1) := by decide +kernel
theorem d_JI_bitCount_24 : decode c_JI_bitCount 24 = .ok (.iload_n 0, 1) := by decide +kernel
theorem d_JI_bitCount_25 : decode c_JI_bitCount 25 = .ok (.iload_n 0, 1) := by decide +kernel
theorem d_JI_bitCount_26 : decode c_JI_bitCount 26 = .ok (.iconst 4, 1) := by decide +kernel
theorem d_JI_bitCount_27 : decode c_JI_bitCount 27 = .ok (.iushr, 1) := by decide +kernel
theorem d_JI_bitCount_28 : decode c_JI_bitCount 28 = .ok (.iadd, 1) := by decide +kernel
theorem d_JI_bitCount_29 : decode c_JI_bitCount 29 = .ok (.ldc_w 267, 3) := by decide +kernel
theorem d_JI_bitCount_32 : decode c_JI_bitCount 32 = .ok (.iand, 1) := by decide +kernel
theorem d_JI_bitCount_33 : decode c_JI_bitCount 33 = .ok (.istore_n 0, 1) := by decide +kernel
theorem d_JI_bitCount_34 : decode c_JI_bitCount 34 = .ok (.iload_n 0, 1) := by decide +kernel
theorem d_JI_bitCount_35 : decode c_JI_bitCount 35 = .ok (.iload_n 0, 1) := by decide +kernel
theorem d_JI_bitCount_36 : decode c_JI_bitCount 36 = .ok (.bipush 8, 2) := by decide +kernel
theorem d_JI_bitCount_38 : decode c_JI_bitCount 38 = .ok (.iushr, 1) := by decide +kernel
theorem d_JI_bitCount_39 : decode c_JI_bitCount 39 = .ok (.iadd, 1) := by decide +kernel
theorem d_JI_bitCount_40 : decode c_JI_bitCount 40 = .ok (.istore_n 0, 1) := by decide +kernel
theorem d_JI_bitCount_41 : decode c_JI_bitCount 41 = .ok (.iload_n 0, 1) := by decide +kernel
theorem d_JI_bitCount_42 : decode c_JI_bitCount 42 = .ok (.iload_n 0, 1) := by decide +kernel
theorem d_JI_bitCount_43 : decode c_JI_bitCount 43 = .ok (.bipush 16, 2) := by decide +kernel
theorem d_JI_bitCount_45 : decode c_JI_bitCount 45 = .ok (.iushr, 1) := by decide +kernel
theorem d_JI_bitCount_46 : decode c_JI_bitCount 46 = .ok (.iadd, 1) := by decide +kernel
theorem d_JI_bitCount_47 : decode c_JI_bitCount 47 = .ok (.istore_n 0, 1) := by decide +kernel
theorem d_JI_bitCount_48 : decode c_JI_bitCount 48 = .ok (.iload_n 0, 1) := by decide +kernel
theorem d_JI_bitCount_49 : decode c_JI_bitCount 49 = .ok (.bipush 63, 2) := by decide +kernel
theorem d_JI_bitCount_51 : decode c_JI_bitCount 51 = .ok (.iand, 1) := by decide +kernel
theorem d_JI_bitCount_52 : decode c_JI_bitCount 52 = .ok (.ireturn, 1) := by decide +kernel
theorem d_JA_copyOf_0 : decode c_JA_copyOf 0 = .ok (.iload_n 1, 1) := by decide +kernel
theorem d_JA_copyOf_1 : decode c_JA_copyOf 1 = .ok (.aload_n 0, 1) := by decide +kernel
theorem d_JA_copyOf_2 : decode c_JA_copyOf 2 = .ok (.arraylength, 1) := by decide +kernel
theorem d_JA_copyOf_3 : decode c_JA_copyOf 3 = .ok (.if_icmp .ne 11, 3) := by decide +kernel
theorem d_JA_copyOf_6 : decode c_JA_copyOf 6 = .ok (.aload_n 0, 1) := by decide +kernel
theorem d_JA_copyOf_7 : decode c_JA_copyOf 7 = .ok (.invokevirtual 316, 3) := by decide +kernel
theorem d_JA_copyOf_10 : decode c_JA_copyOf 10 = .ok (.checkcast 317, 3) := by decide +kernel
theorem d_JA_copyOf_13 : decode c_JA_copyOf 13 = .ok (.areturn, 1) := by decide +kernel
theorem d_JA_copyOf_14 : decode c_JA_copyOf 14 = .ok (.iload_n 1, 1) := by decide +kernel
theorem d_JA_copyOf_15 : decode c_JA_copyOf 15 = .ok (.newarray .int, 2) := by decide +kernel
theorem d_JA_copyOf_17 : decode c_JA_copyOf 17 = .ok (.astore_n 2, 1) := by decide +kernel
theorem d_JA_copyOf_18 : decode c_JA_copyOf 18 = .ok (.aload_n 0, 1) := by decide +kernel
theorem d_JA_copyOf_19 : decode c_JA_copyOf 19 = .ok (.iconst 0, 1) := by decide +kernel
theorem d_JA_copyOf_20 : decode c_JA_copyOf 20 = .ok (.aload_n 2, 1) := by decide +kernel
theorem d_JA_copyOf_21 : decode c_JA_copyOf 21 = .ok (.iconst 0, 1) := by decide +kernel
theorem d_JA_copyOf_22 : decode c_JA_copyOf 22 = .ok (.aload_n 0, 1) := by decide +kernel
theorem d_JA_copyOf_23 : decode c_JA_copyOf 23 = .ok (.arraylength, 1) := by decide +kernel
theorem d_JA_copyOf_24 : decode c_JA_copyOf 24 = .ok (.iload_n 1, 1) := by decide +kernel
theorem d_JA_copyOf_25 : decode c_JA_copyOf 25 = .ok (.invokestatic 304, 3) := by decide +kernel
theorem d_JA_copyOf_28 : decode c_JA_copyOf 28 = .ok (.invokestatic 150, 3) := by decide +kernel
theorem d_JA_copyOf_31 : decode c_JA_copyOf 31 = .ok (.aload_n 2, 1) := by decide +kernel
theorem d_JA_copyOf_32 : decode c_JA_copyOf 32 = .ok (.areturn, 1) := by decide +kernel
theorem d_W_cell_0 : decode c_W_cell 0 = .ok (.iload_n 1, 1) := by decide +kernel
theorem d_W_cell_1 : decode c_W_cell 1 = .ok (.aload_n 0, 1) := by decide +kernel
theorem d_W_cell_2 : decode c_W_cell 2 = .ok (.arraylength, 1) := by decide +kernel
theorem d_W_cell_3 : decode c_W_cell 3 = .ok (.if_icmp .ge 9, 3) := by decide +kernel
theorem d_W_cell_6 : decode c_W_cell 6 = .ok (.aload_n 0, 1) := by decide +kernel
theorem d_W_cell_7 : decode c_W_cell 7 = .ok (.iload_n 1, 1) := by decide +kernel
theorem d_W_cell_8 : decode c_W_cell 8 = .ok (.iaload, 1) := by decide +kernel
theorem d_W_cell_9 : decode c_W_cell 9 = .ok (.goto 4, 3) := by decide +kernel
theorem d_W_cell_12 : decode c_W_cell 12 = .ok (.iconst 0, 1) := by decide +kernel
theorem d_W_cell_13 : decode c_W_cell 13 = .ok (.ireturn, 1) := by decide +kernel
end
section
/-! A world as a map from addresses to cells, and a walk over it that names neither heap nor frame. -/
def fw (D : va_G) (cl : List vw_C) (f : Nat → Option va_E) (H : Heap) : Prop := ∀ (a : Nat) (x : va_E), f a = some x → va_at D cl (a, x) H
theorem fw.set {D : va_G} {cl : List vw_C} {f : Nat → Option va_E} {H H1 : Heap} {a : Nat} {x : va_E} (h : fw D cl f H) (he : va_at D cl (a, x) H1) (oq : ∀ q : Nat, q ≠ a → H1[q]? = H[q]?) : fw D cl (va_up f a (some x)) H1 := by
  intro b y hb
  by_cases hba : b = a
  · subst hba
    rw [va_up_self] at hb
    cases hb
    exact he
  · rw [va_up_ne _ _ hba] at hb
    exact (h b y hb).kept (oq b hba)
theorem fw.push {D : va_G} {cl : List vw_C} {f : Nat → Option va_E} {H H1 : Heap} {x : va_E} (h : fw D cl f H) (he : va_at D cl (H.size, x) H1) (oq : ∀ q : Nat, q < H.size → H1[q]? = H[q]?) : fw D cl (va_up f H.size (some x)) H1 := by
  intro b y hb
  by_cases hba : b = H.size
  · subst hba
    rw [va_up_self] at hb
    cases hb
    exact he
  · rw [va_up_ne _ _ hba] at hb
    exact (h b y hb).kept (oq b ((h b y hb).lt))
theorem fw.one {D : va_G} {cl : List vw_C} {f : Nat → Option va_E} {H : Heap} {a : Nat} {x : va_E} (h : fw D cl f H) (ha : f a = some x) : va_P D cl [(a, x)] H := by
  intro k q hk
  cases k with
  | zero =>
    rw [List.getElem?_cons_zero] at hk
    cases hk
    exact h a x ha
  | succ k =>
    rw [List.getElem?_cons_succ] at hk
    simp at hk
theorem fw.fresh {D : va_G} {cl : List vw_C} {f : Nat → Option va_E} {H : Heap} (h : fw D cl f H) : f H.size = none := by
  cases hx : f H.size with
  | none => rfl
  | some x => exact absurd (h _ x hx).lt (Nat.lt_irrefl _)
theorem fw.kept {D : va_G} {cl : List vw_C} {f : Nat → Option va_E} {H H1 : Heap} (h : fw D cl f H) (hq : ∀ (a : Nat) (x : va_E), f a = some x → H1[a]? = H[a]?) : fw D cl f H1 := fun a x ha => (h a x ha).kept (hq a x ha)
/-! the places of a frame, by number -/
def al_has (ls : Array Slot) (nL : Nat) (lv : List (Option Value)) : Prop := ls.size = nL ∧ lv_wf ls ∧ ∀ (i : Nat) (v : Value), lv[i]? = some (some v) → ls[i]? = some (.val v) ∧ v.category = 1
def al_l (lv : List (Option Value)) : List (Nat × Value) := lv.zipIdx.filterMap (fun q => q.1.map (fun v => (q.2, v)))
theorem al_mem {lv : List (Option Value)} {i : Nat} {v : Value} : (i, v) ∈ al_l lv ↔ lv[i]? = some (some v) := by
  unfold al_l
  rw [List.mem_filterMap]
  constructor
  · rintro ⟨⟨o, j⟩, h1, h2⟩
    rw [List.mk_mem_zipIdx_iff_getElem?] at h1
    cases o with
    | none => simp at h2
    | some w =>
      simp at h2
      obtain ⟨rfl, rfl⟩ := h2
      exact h1
  · intro h
    exact ⟨(some v, i), List.mk_mem_zipIdx_iff_getElem?.mpr h, rfl⟩
theorem al_has.toL {ls : Array Slot} {nL : Nat} {lv : List (Option Value)} (h : al_has ls nL lv) : lv_has ls nL (al_l lv) := ⟨h.1, h.2.1, fun q hq => by
  obtain ⟨i, v⟩ := q
  exact (h.2.2 i v (al_mem.mp hq)).1⟩
theorem al_has.put {ls ls' : Array Slot} {nL : Nat} {lv : List (Option Value)} {i : Nat} {v : Value} (h : al_has ls nL lv) (hv : v.category = 1) (h' : lv_has ls' nL ((i, v) :: (al_l lv).filter (fun q => !(q.1 == i) && !(q.1 + 1 == i && q.2.category == 2)))) : al_has ls' nL (lv.set i (some v)) := by
  refine ⟨h'.1, h'.2.1, fun j w hj => ?_⟩
  by_cases hji : j = i
  · subst hji
    rw [List.getElem?_set, if_pos rfl] at hj
    by_cases hl : j < lv.length
    · rw [if_pos hl] at hj
      cases hj
      exact ⟨h'.2.2 (j, v) List.mem_cons_self, hv⟩
    · rw [if_neg hl] at hj
      cases hj
  · rw [List.getElem?_set, if_neg (fun q => hji q.symm)] at hj
    have hc := (h.2.2 j w hj).2
    refine ⟨h'.2.2 (j, w) (List.mem_cons_of_mem _ (List.mem_filter.mpr ⟨al_mem.mpr hj, ?_⟩)), hc⟩
    simp [hji, hc]
theorem al_args : ∀ (vs : List Value) (i0 : Nat), (∀ v ∈ vs, v.category = 1) → ∀ (j : Nat) (v : Value), vs[j]? = some v → (i0 + j, v) ∈ lv_args i0 vs
  | [], _, _, j, v, h => by simp at h
  | w :: vs, i0, hc, j, v, h => by
    have hw : ¬ w.category = 2 := by rw [hc w List.mem_cons_self]; decide
    cases j with
    | zero =>
      rw [List.getElem?_cons_zero] at h
      cases h
      exact List.mem_cons_self
    | succ j =>
      rw [List.getElem?_cons_succ] at h
      have h1 := al_args vs (i0 + 1) (fun v hv => hc v (List.mem_cons_of_mem _ hv)) j v h
      have e1 : i0 + 1 + j = i0 + (j + 1) := by omega
      rw [e1] at h1
      refine List.mem_cons_of_mem _ ?_
      rw [if_neg hw]
      exact h1
def al_in (av : List Value) (nL : Nat) : List (Option Value) := av.map some ++ List.replicate (nL - av.length) none
theorem al_entry {ls : Array Slot} {nL : Nat} {av : List Value} (h : lv_has ls nL (lv_args 0 av)) (hc : ∀ v ∈ av, v.category = 1) : al_has ls nL (al_in av nL) := by
  refine ⟨h.1, h.2.1, fun i v hi => ?_⟩
  unfold al_in at hi
  have hv : av[i]? = some v := by
    by_cases hl : i < av.length
    · rw [List.getElem?_append_left (by simpa using hl), List.getElem?_map] at hi
      cases hx : av[i]? with
      | none => rw [hx] at hi; simp at hi
      | some y =>
        rw [hx] at hi
        simp at hi
        rw [hi]
    · rw [List.getElem?_append_right (by simpa using hl), List.getElem?_replicate] at hi
      split at hi <;> simp at hi
  have h1 := al_args av 0 hc i v hv
  rw [Nat.zero_add] at h1
  exact ⟨h.2.2 (i, v) h1, hc v (List.mem_of_getElem? hv)⟩
/-! the walk, and contracts -/
def AO3 (U : State) : Prop := va_AO "ExtentGroup$Disk" U ∧ va_AO "ExtentGroup$Copy" U ∧ va_AO "ExtentGroup$Volume" U ∧ va_Nw (.castable "[I" "java/lang/Cloneable") U
theorem AO3.warm {s U : State} (hW : s.WarmedH U.vm) (h : AO3 s) : AO3 U := ⟨h.1.moved hW.alike, h.2.1.moved hW.alike, h.2.2.1.moved hW.alike, h.2.2.2.warmC hW⟩
theorem AO3.same {u U : State} (hv : u.vm = U.vm) (h : AO3 u) : AO3 U := by
  have ha : u.vm.Alike U.vm := by rw [hv]; exact Vm.Alike.refl _
  exact ⟨h.1.moved ha, h.2.1.moved ha, h.2.2.1.moved ha, h.2.2.2.same rfl hv⟩
def AW (p : Program) (l : Launch) (e : Env) (R : Room) (s : State) (m : MethodId) (args : Array Value) (below : List Frame) (meth : Method) (c : Code) (D : va_G) (cl : List vw_C) (A : Nat → Prop) (nL : Nat) (Q : State → Prop) (f : Nat → Option va_E) (k n pc : Nat) (lv : List (Option Value)) (st : List Value) : Prop :=
  ∀ (H : Heap) (locs : List Loc) (ls : Array Slot), fw D cl f H → (∀ (a : Nat) (x : va_E), f a = some x → A a) → va_S A s.heap H locs → al_has ls nL lv → W p l e R s m args below meth c H locs k n Q (F0 m pc ls st)
def CP (D : va_G) (cl : List vw_C) (tys : List (ClassId × FieldType)) (av : List Value) (f : Nat → Option va_E) (sz : Nat) : Array Value → State → Prop := va_Pc av (fun U => U.heap.size = sz ∧ fw D cl f U.heap ∧ va_K D cl tys U ∧ AO3 U)
def CQ (D : va_G) (cl : List vw_C) (A : Nat → Prop) (post : Option Value → (Nat → Option va_E) → Prop) : Array Value → State → Outcome → State → Prop := fun _ st oc t => (∃ (v : Option Value) (f' : Nat → Option va_E), oc = .returned v ∧ post v f' ∧ fw D cl f' t.heap ∧ ∀ (a : Nat) (x : va_E), f' a = some x → A a) ∧ va_F A st t
def CT (l : Launch) (y : MethodName) (ws : List Cond) (rm : Room) (D : va_G) (cl : List vw_C) (tys : List (ClassId × FieldType)) (A : Nat → Prop) (f : Nat → Option va_E) (av : List Value) (post : Option Value → (Nat → Option va_E) → Prop) (mc ms : Nat) : Prop :=
  ∀ sz : Nat, (∀ q : Nat, sz ≤ q → A q) → (∀ (a : Nat) (x : va_E), f a = some x → A a) → Met l y ws rm (CP D cl tys av f sz) (CQ D cl A post) mc ms A
theorem CP.blind {D : va_G} {cl : List vw_C} {tys : List (ClassId × FieldType)} {av : List Value} {f : Nat → Option va_E} {sz : Nat} : FrameBlind (CP D cl tys av f sz) := fun a U g mk q => by
  obtain ⟨q0, q1, qF, qK, qO⟩ := q
  exact ⟨q0, q1, qF, va_K.moved (u := U) (U := U.calling g mk a) (Vm.Alike.refl U.vm) qK, AO3.same (u := U) (U := U.calling g mk a) rfl qO⟩
theorem up_loop {P : Nat → Prop} (N : Nat) (h : ∀ d, d ≤ N → (d < N → P (d + 1)) → P d) : ∀ d, d ≤ N → P d := by
  intro d hd
  obtain ⟨j, hj⟩ : ∃ j, j = N - d := ⟨_, rfl⟩
  induction j generalizing d with
  | zero => exact h d hd (fun q => absurd q (by omega))
  | succ j ih => exact h d hd (fun q => ih (d + 1) (by omega) (by omega))
section AWS
variable {p : Program} {l : Launch} {e : Env} {R : Room} {s : State} {m : MethodId} {args : Array Value} {below : List Frame} {meth : Method} {c : Code} {D : va_G} {cl : List vw_C} {A : Nat → Prop} {nL : Nat} {Q : State → Prop}
variable {f : Nat → Option va_E} {k n pc pc' : Nat} {lv : List (Option Value)} {st : List Value} {cc : ByteArray} {Ts : List Cond} {own : String} {tys : List (ClassId × FieldType)}
theorem CT.ofAW {y : MethodName} {ws ws' : List Cond} {rm : Room} {cc : ByteArray} {maxL : Nat} {ret : Option FieldType} {av : List Value} {post : Option Value → (Nat → Option va_E) → Prop} {mc ms : Nat}
    (hy : plainName y.cls = true) (hw : ws = Cond.code y cc maxL ret :: ws') (hlen : (lg_sl av).length ≤ maxL) (hcat : ∀ v ∈ av, v.category = 1)
    (body : ∀ (p : Program) (e : Env) (s : State) (m : MethodId) (args : Array Value) (below : List Frame) (meth : Method) (c : Code), CallFix p m c cc maxL s args ws y.cls → va_K D cl tys s → AO3 s → meth.sig.returnType = ret → meth.locks = false → meth.name = y.name → (∀ q : Nat, s.heap.size ≤ q → A q) →
      AW p l e rm s m args below meth c D cl A maxL (MQ below (CQ D cl A post) args s mc ms A) f 0 0 0 (al_in av maxL) []) : CT l y ws rm D cl tys A f av post mc ms := by
  intro sz hA hd
  refine Met.ofW (cc := cc) (maxL := maxL) (ret := ret) hy hw ?_
  intro p e s m args below meth c s₁ B hml hv
  obtain ⟨rfl, hsz, hF, hK, hO⟩ := hv
  have hts := atoms_spec (ws := ws) B.pre
  have hown : s.vm.findClass y.cls = some m.cls := findClass_of_methodNamed B.named
  have hnm := (name_of_methodNamed B.named B.method).1
  subst hsz
  have hl := lv_entry av (n := maxL) hlen
  rw [lg_entry_eq]
  generalize (lg_sl av ++ List.replicate (maxL - (lg_sl av).length) Slot.unset).toArray = ls at hl ⊢
  exact body p e s m av.toArray below meth c ⟨B.exec, B.bytes, hml, hown, hts⟩ hK hO B.returns B.notSynchronized hnm hA s.heap [] ls hF hd va_S.rf (al_entry hl hcat)

theorem AW.to {f' : Nat → Option va_E} {lv' : List (Option Value)} {st' : List Value} (h1 : f' = f) (h2 : lv' = lv) (h3 : st' = st) (kk : AW p l e R s m args below meth c D cl A nL Q f' k n pc lv' st') : AW p l e R s m args below meth c D cl A nL Q f k n pc lv st := by
  subst h1; subst h2; subst h3
  exact kk
theorem AW.top {x y : Value} (h : y = x) (kk : AW p l e R s m args below meth c D cl A nL Q f k n pc lv (y :: st)) : AW p l e R s m args below meth c D cl A nL Q f k n pc lv (x :: st) := by
  subst h
  exact kk
theorem AW.topi {x y : Int32} (h : x = y) (kk : AW p l e R s m args below meth c D cl A nL Q f k n pc lv (.int y :: st)) : AW p l e R s m args below meth c D cl A nL Q f k n pc lv (.int x :: st) := by
  subst h
  exact kk
theorem AW.widen {k' n' : Nat} (h1 : k ≤ k') (h2 : n ≤ n') (kk : AW p l e R s m args below meth c D cl A nL Q f k' n' pc lv st) : AW p l e R s m args below meth c D cl A nL Q f k n pc lv st := fun H locs ls hf hd hS hl => W.widen h1 h2 (kk H locs ls hf hd hS hl)
/-- a smaller picture of the same cells -/
theorem AW.less {g : Nat → Option va_E} (h : ∀ (a : Nat) (x : va_E), g a = some x → f a = some x) (kk : AW p l e R s m args below meth c D cl A nL Q g k n pc lv st) : AW p l e R s m args below meth c D cl A nL Q f k n pc lv st := fun H locs ls hf hd hS hl => kk H locs ls (fun a x ha => hf a x (h a x ha)) (fun a x ha => hd a x (h a x ha)) hS hl
theorem a_iconst (hc : CallFix p m c cc nL s args Ts own) {z : Int} {v : Int32} (hdg : decode cc pc = .ok (.iconst z, 1)) (hp : pc + 1 = pc') (hv : Int32.ofInt z = v) (kk : AW p l e R s m args below meth c D cl A nL Q f k n pc' lv (.int v :: st)) : AW p l e R s m args below meth c D cl A nL Q f k n pc lv (st) := by
  subst hp
  exact fun H locs ls hf hd hS hl => lv_iconst hc.1 hc.2.1 hdg hv (kk H locs ls hf hd hS hl)
theorem a_bipush (hc : CallFix p m c cc nL s args Ts own) {z : Int} {v : Int32} (hdg : decode cc pc = .ok (.bipush z, 2)) (hp : pc + 2 = pc') (hv : (Int8.ofInt z).toInt32 = v) (kk : AW p l e R s m args below meth c D cl A nL Q f k n pc' lv (.int v :: st)) : AW p l e R s m args below meth c D cl A nL Q f k n pc lv (st) := by
  subst hp
  exact fun H locs ls hf hd hS hl => lv_bipush hc.1 hc.2.1 hdg hv (kk H locs ls hf hd hS hl)
theorem a_sipush (hc : CallFix p m c cc nL s args Ts own) {z : Int} {v : Int32} (hdg : decode cc pc = .ok (.sipush z, 3)) (hp : pc + 3 = pc') (hv : (Int16.ofInt z).toInt32 = v) (kk : AW p l e R s m args below meth c D cl A nL Q f k n pc' lv (.int v :: st)) : AW p l e R s m args below meth c D cl A nL Q f k n pc lv (st) := by
  subst hp
  exact fun H locs ls hf hd hS hl => lv_sipush hc.1 hc.2.1 hdg hv (kk H locs ls hf hd hS hl)
theorem a_null (hc : CallFix p m c cc nL s args Ts own)  (hdg : decode cc pc = .ok (.aconst_null, 1)) (hp : pc + 1 = pc')  (kk : AW p l e R s m args below meth c D cl A nL Q f k n pc' lv (.null :: st)) : AW p l e R s m args below meth c D cl A nL Q f k n pc lv (st) := by
  subst hp
  exact fun H locs ls hf hd hS hl => lv_null hc.1 hc.2.1 hdg (kk H locs ls hf hd hS hl)
theorem a_iload_n (hc : CallFix p m c cc nL s args Ts own) {i : Fin 4} {j : Nat} {x : Int32} (hdg : decode cc pc = .ok (.iload_n i, 1)) (hp : pc + 1 = pc') (hi : (i : Nat) = j) (hx : lv[j]? = some (some (.int x))) (kk : AW p l e R s m args below meth c D cl A nL Q f k n pc' lv (.int x :: st)) : AW p l e R s m args below meth c D cl A nL Q f k n pc lv (st) := by
  subst hp
  exact fun H locs ls hf hd hS hl => lv_iload_n hc.1 hc.2.1 hdg hi (hl.2.2 j _ hx).1 (kk H locs ls hf hd hS hl)
theorem a_iload (hc : CallFix p m c cc nL s args Ts own) {j : Nat} {x : Int32} (hdg : decode cc pc = .ok (.iload j, 2)) (hp : pc + 2 = pc') (hx : lv[j]? = some (some (.int x))) (kk : AW p l e R s m args below meth c D cl A nL Q f k n pc' lv (.int x :: st)) : AW p l e R s m args below meth c D cl A nL Q f k n pc lv (st) := by
  subst hp
  exact fun H locs ls hf hd hS hl => lv_iload hc.1 hc.2.1 hdg (hl.2.2 j _ hx).1 (kk H locs ls hf hd hS hl)
theorem a_aload_n (hc : CallFix p m c cc nL s args Ts own) {i : Fin 4} {j : Nat} {x : Nat} (hdg : decode cc pc = .ok (.aload_n i, 1)) (hp : pc + 1 = pc') (hi : (i : Nat) = j) (hx : lv[j]? = some (some (.ref x))) (kk : AW p l e R s m args below meth c D cl A nL Q f k n pc' lv (.ref x :: st)) : AW p l e R s m args below meth c D cl A nL Q f k n pc lv (st) := by
  subst hp
  exact fun H locs ls hf hd hS hl => lv_aload_n hc.1 hc.2.1 hdg hi (hl.2.2 j _ hx).1 (kk H locs ls hf hd hS hl)
theorem a_aload (hc : CallFix p m c cc nL s args Ts own) {j : Nat} {x : Nat} (hdg : decode cc pc = .ok (.aload j, 2)) (hp : pc + 2 = pc') (hx : lv[j]? = some (some (.ref x))) (kk : AW p l e R s m args below meth c D cl A nL Q f k n pc' lv (.ref x :: st)) : AW p l e R s m args below meth c D cl A nL Q f k n pc lv (st) := by
  subst hp
  exact fun H locs ls hf hd hS hl => lv_aload hc.1 hc.2.1 hdg (hl.2.2 j _ hx).1 (kk H locs ls hf hd hS hl)
theorem a_aload_nN (hc : CallFix p m c cc nL s args Ts own) {i : Fin 4} {j : Nat} (hdg : decode cc pc = .ok (.aload_n i, 1)) (hp : pc + 1 = pc') (hi : (i : Nat) = j) (hx : lv[j]? = some (some .null)) (kk : AW p l e R s m args below meth c D cl A nL Q f k n pc' lv (.null :: st)) : AW p l e R s m args below meth c D cl A nL Q f k n pc lv (st) := by
  subst hp
  exact fun H locs ls hf hd hS hl => lv_aload_nN hc.1 hc.2.1 hdg hi (hl.2.2 j _ hx).1 (kk H locs ls hf hd hS hl)
theorem a_aloadN (hc : CallFix p m c cc nL s args Ts own) {j : Nat} (hdg : decode cc pc = .ok (.aload j, 2)) (hp : pc + 2 = pc') (hx : lv[j]? = some (some .null)) (kk : AW p l e R s m args below meth c D cl A nL Q f k n pc' lv (.null :: st)) : AW p l e R s m args below meth c D cl A nL Q f k n pc lv (st) := by
  subst hp
  exact fun H locs ls hf hd hS hl => lv_aloadN hc.1 hc.2.1 hdg (hl.2.2 j _ hx).1 (kk H locs ls hf hd hS hl)
theorem a_aload_nq (hc : CallFix p m c cc nL s args Ts own) {i : Fin 4} {j : Nat} {x : Option Nat} (hdg : decode cc pc = .ok (.aload_n i, 1)) (hp : pc + 1 = pc') (hi : (i : Nat) = j) (hx : lv[j]? = some (some (va_rf x))) (kk : AW p l e R s m args below meth c D cl A nL Q f k n pc' lv (va_rf x :: st)) : AW p l e R s m args below meth c D cl A nL Q f k n pc lv st := by
  cases x with
  | none => exact a_aload_nN hc hdg hp hi hx kk
  | some a => exact a_aload_n hc hdg hp hi hx kk
theorem a_aloadq (hc : CallFix p m c cc nL s args Ts own) {j : Nat} {x : Option Nat} (hdg : decode cc pc = .ok (.aload j, 2)) (hp : pc + 2 = pc') (hx : lv[j]? = some (some (va_rf x))) (kk : AW p l e R s m args below meth c D cl A nL Q f k n pc' lv (va_rf x :: st)) : AW p l e R s m args below meth c D cl A nL Q f k n pc lv st := by
  cases x with
  | none => exact a_aloadN hc hdg hp hx kk
  | some a => exact a_aload hc hdg hp hx kk
theorem a_istore_n (hc : CallFix p m c cc nL s args Ts own) {i : Fin 4} {j : Nat} {x : Int32} (hdg : decode cc pc = .ok (.istore_n i, 1)) (hp : pc + 1 = pc') (hi : (i : Nat) = j) (hn : j < nL) (kk : AW p l e R s m args below meth c D cl A nL Q f k n pc' (lv.set j (some (.int x))) st) : AW p l e R s m args below meth c D cl A nL Q f k n pc lv (.int x :: st) := by
  subst hp
  exact fun H locs ls hf hd hS hl => lv_istore_n hc.1 hc.2.1 hdg hi hl.toL hn rfl (fun ls' h' => kk H locs ls' hf hd hS (hl.put rfl h'))
theorem a_istore (hc : CallFix p m c cc nL s args Ts own) {j : Nat} {x : Int32} (hdg : decode cc pc = .ok (.istore j, 2)) (hp : pc + 2 = pc')  (hn : j < nL) (kk : AW p l e R s m args below meth c D cl A nL Q f k n pc' (lv.set j (some (.int x))) st) : AW p l e R s m args below meth c D cl A nL Q f k n pc lv (.int x :: st) := by
  subst hp
  exact fun H locs ls hf hd hS hl => lv_istore hc.1 hc.2.1 hdg hl.toL hn rfl (fun ls' h' => kk H locs ls' hf hd hS (hl.put rfl h'))
theorem a_astore_n (hc : CallFix p m c cc nL s args Ts own) {i : Fin 4} {j : Nat} {x : Nat} (hdg : decode cc pc = .ok (.astore_n i, 1)) (hp : pc + 1 = pc') (hi : (i : Nat) = j) (hn : j < nL) (kk : AW p l e R s m args below meth c D cl A nL Q f k n pc' (lv.set j (some (.ref x))) st) : AW p l e R s m args below meth c D cl A nL Q f k n pc lv (.ref x :: st) := by
  subst hp
  exact fun H locs ls hf hd hS hl => lv_astore_n hc.1 hc.2.1 hdg hi hl.toL hn rfl (fun ls' h' => kk H locs ls' hf hd hS (hl.put rfl h'))
theorem a_astore (hc : CallFix p m c cc nL s args Ts own) {j : Nat} {x : Nat} (hdg : decode cc pc = .ok (.astore j, 2)) (hp : pc + 2 = pc')  (hn : j < nL) (kk : AW p l e R s m args below meth c D cl A nL Q f k n pc' (lv.set j (some (.ref x))) st) : AW p l e R s m args below meth c D cl A nL Q f k n pc lv (.ref x :: st) := by
  subst hp
  exact fun H locs ls hf hd hS hl => lv_astore hc.1 hc.2.1 hdg hl.toL hn rfl (fun ls' h' => kk H locs ls' hf hd hS (hl.put rfl h'))
theorem a_astore_nN (hc : CallFix p m c cc nL s args Ts own) {i : Fin 4} {j : Nat} (hdg : decode cc pc = .ok (.astore_n i, 1)) (hp : pc + 1 = pc') (hi : (i : Nat) = j) (hn : j < nL) (kk : AW p l e R s m args below meth c D cl A nL Q f k n pc' (lv.set j (some (.null))) st) : AW p l e R s m args below meth c D cl A nL Q f k n pc lv (.null :: st) := by
  subst hp
  exact fun H locs ls hf hd hS hl => lv_astore_nN hc.1 hc.2.1 hdg hi hl.toL hn rfl (fun ls' h' => kk H locs ls' hf hd hS (hl.put rfl h'))
theorem a_astoreN (hc : CallFix p m c cc nL s args Ts own) {j : Nat} (hdg : decode cc pc = .ok (.astore j, 2)) (hp : pc + 2 = pc')  (hn : j < nL) (kk : AW p l e R s m args below meth c D cl A nL Q f k n pc' (lv.set j (some (.null))) st) : AW p l e R s m args below meth c D cl A nL Q f k n pc lv (.null :: st) := by
  subst hp
  exact fun H locs ls hf hd hS hl => lv_astoreN hc.1 hc.2.1 hdg hl.toL hn rfl (fun ls' h' => kk H locs ls' hf hd hS (hl.put rfl h'))
theorem a_astore_nq (hc : CallFix p m c cc nL s args Ts own) {i : Fin 4} {j : Nat} {x : Option Nat} (hdg : decode cc pc = .ok (.astore_n i, 1)) (hp : pc + 1 = pc') (hi : (i : Nat) = j) (hn : j < nL) (kk : AW p l e R s m args below meth c D cl A nL Q f k n pc' (lv.set j (some (va_rf x))) st) : AW p l e R s m args below meth c D cl A nL Q f k n pc lv (va_rf x :: st) := by
  cases x with
  | none => exact a_astore_nN hc hdg hp hi hn kk
  | some a => exact a_astore_n hc hdg hp hi hn kk
theorem a_astoreq (hc : CallFix p m c cc nL s args Ts own) {j : Nat} {x : Option Nat} (hdg : decode cc pc = .ok (.astore j, 2)) (hp : pc + 2 = pc') (hn : j < nL) (kk : AW p l e R s m args below meth c D cl A nL Q f k n pc' (lv.set j (some (va_rf x))) st) : AW p l e R s m args below meth c D cl A nL Q f k n pc lv (va_rf x :: st) := by
  cases x with
  | none => exact a_astoreN hc hdg hp hn kk
  | some a => exact a_astore hc hdg hp hn kk
theorem a_iinc (hc : CallFix p m c cc nL s args Ts own) {j : Nat} {z : Int} {x v : Int32} (hdg : decode cc pc = .ok (.iinc j z, 3)) (hp : pc + 3 = pc') (hx : lv[j]? = some (some (.int x))) (hv : x + Int32.ofInt z = v) (hn : j < nL) (kk : AW p l e R s m args below meth c D cl A nL Q f k n pc' (lv.set j (some (.int v))) st) : AW p l e R s m args below meth c D cl A nL Q f k n pc lv st := by
  subst hp
  intro H locs ls hf hd hS hl
  obtain ⟨i, hi⟩ := List.getElem?_of_mem (al_mem.mpr hx)
  exact lv_iinc hc.1 hc.2.1 hdg hl.toL hi hv hn rfl (fun ls' h' => kk H locs ls' hf hd hS (hl.put rfl h'))
theorem a_ninc (hc : CallFix p m c cc nL s args Ts own) {j a : Nat} (hdg : decode cc pc = .ok (.iinc j 1, 3)) (hp : pc + 3 = pc') (hx : lv[j]? = some (some (.int (nI a)))) (hn : j < nL) (kk : AW p l e R s m args below meth c D cl A nL Q f k n pc' (lv.set j (some (.int (nI (a + 1))))) st) : AW p l e R s m args below meth c D cl A nL Q f k n pc lv st :=
  a_iinc hc hdg hp hx (v := nI (a + 1)) (nI_1 a) hn kk
theorem a_iadd (hc : CallFix p m c cc nL s args Ts own) {x y : Int32} (hdg : decode cc pc = .ok (.iadd, 1)) (hp : pc + 1 = pc')  (kk : AW p l e R s m args below meth c D cl A nL Q f k n pc' lv (.int (x + y) :: st)) : AW p l e R s m args below meth c D cl A nL Q f k n pc lv (.int y :: .int x :: st) := by
  subst hp
  exact fun H locs ls hf hd hS hl => lv_iadd hc.1 hc.2.1 hdg (kk H locs ls hf hd hS hl)
theorem a_isub (hc : CallFix p m c cc nL s args Ts own) {x y : Int32} (hdg : decode cc pc = .ok (.isub, 1)) (hp : pc + 1 = pc')  (kk : AW p l e R s m args below meth c D cl A nL Q f k n pc' lv (.int (x - y) :: st)) : AW p l e R s m args below meth c D cl A nL Q f k n pc lv (.int y :: .int x :: st) := by
  subst hp
  exact fun H locs ls hf hd hS hl => lv_isub hc.1 hc.2.1 hdg (kk H locs ls hf hd hS hl)
theorem a_imul (hc : CallFix p m c cc nL s args Ts own) {x y : Int32} (hdg : decode cc pc = .ok (.imul, 1)) (hp : pc + 1 = pc')  (kk : AW p l e R s m args below meth c D cl A nL Q f k n pc' lv (.int (x * y) :: st)) : AW p l e R s m args below meth c D cl A nL Q f k n pc lv (.int y :: .int x :: st) := by
  subst hp
  exact fun H locs ls hf hd hS hl => lv_imul hc.1 hc.2.1 hdg (kk H locs ls hf hd hS hl)
theorem a_iand (hc : CallFix p m c cc nL s args Ts own) {x y : Int32} (hdg : decode cc pc = .ok (.iand, 1)) (hp : pc + 1 = pc')  (kk : AW p l e R s m args below meth c D cl A nL Q f k n pc' lv (.int (x &&& y) :: st)) : AW p l e R s m args below meth c D cl A nL Q f k n pc lv (.int y :: .int x :: st) := by
  subst hp
  exact fun H locs ls hf hd hS hl => lv_iand hc.1 hc.2.1 hdg (kk H locs ls hf hd hS hl)
theorem a_ior (hc : CallFix p m c cc nL s args Ts own) {x y : Int32} (hdg : decode cc pc = .ok (.ior, 1)) (hp : pc + 1 = pc')  (kk : AW p l e R s m args below meth c D cl A nL Q f k n pc' lv (.int (x ||| y) :: st)) : AW p l e R s m args below meth c D cl A nL Q f k n pc lv (.int y :: .int x :: st) := by
  subst hp
  exact fun H locs ls hf hd hS hl => lv_ior hc.1 hc.2.1 hdg (kk H locs ls hf hd hS hl)
theorem a_ishl (hc : CallFix p m c cc nL s args Ts own) {x y : Int32} (hdg : decode cc pc = .ok (.ishl, 1)) (hp : pc + 1 = pc')  (kk : AW p l e R s m args below meth c D cl A nL Q f k n pc' lv (.int (x <<< (y &&& 31)) :: st)) : AW p l e R s m args below meth c D cl A nL Q f k n pc lv (.int y :: .int x :: st) := by
  subst hp
  exact fun H locs ls hf hd hS hl => lv_ishl hc.1 hc.2.1 hdg (kk H locs ls hf hd hS hl)
theorem a_ishr (hc : CallFix p m c cc nL s args Ts own) {x y : Int32} (hdg : decode cc pc = .ok (.ishr, 1)) (hp : pc + 1 = pc')  (kk : AW p l e R s m args below meth c D cl A nL Q f k n pc' lv (.int (x >>> (y &&& 31)) :: st)) : AW p l e R s m args below meth c D cl A nL Q f k n pc lv (.int y :: .int x :: st) := by
  subst hp
  exact fun H locs ls hf hd hS hl => lv_ishr hc.1 hc.2.1 hdg (kk H locs ls hf hd hS hl)
theorem a_idiv (hc : CallFix p m c cc nL s args Ts own) {x y : Int32} (hdg : decode cc pc = .ok (.idiv, 1)) (hp : pc + 1 = pc') (hne : ¬ y = 0) (kk : AW p l e R s m args below meth c D cl A nL Q f k n pc' lv (.int (x / y) :: st)) : AW p l e R s m args below meth c D cl A nL Q f k n pc lv (.int y :: .int x :: st) := by
  subst hp
  exact fun H locs ls hf hd hS hl => lv_idiv hc.1 hc.2.1 hdg hne (kk H locs ls hf hd hS hl)
theorem a_irem (hc : CallFix p m c cc nL s args Ts own) {x y : Int32} (hdg : decode cc pc = .ok (.irem, 1)) (hp : pc + 1 = pc') (hne : ¬ y = 0) (kk : AW p l e R s m args below meth c D cl A nL Q f k n pc' lv (.int (x - x / y * y) :: st)) : AW p l e R s m args below meth c D cl A nL Q f k n pc lv (.int y :: .int x :: st) := by
  subst hp
  exact fun H locs ls hf hd hS hl => lv_irem hc.1 hc.2.1 hdg hne (kk H locs ls hf hd hS hl)
theorem a_iushr (hc : CallFix p m c cc nL s args Ts own) {x y : Int32} (hdg : decode cc pc = .ok (.iushr, 1)) (hp : pc + 1 = pc')  (kk : AW p l e R s m args below meth c D cl A nL Q f k n pc' lv (.int ((x.toUInt32 >>> (y.toUInt32 &&& Int32.toUInt32 31)).toInt32) :: st)) : AW p l e R s m args below meth c D cl A nL Q f k n pc lv (.int y :: .int x :: st) := by
  subst hp
  exact fun H locs ls hf hd hS hl => lv_iushr hc.1 hc.2.1 hdg rfl (kk H locs ls hf hd hS hl)
theorem a_nadd (hc : CallFix p m c cc nL s args Ts own) {a b : Nat} (hdg : decode cc pc = .ok (.iadd, 1)) (hp : pc + 1 = pc') (kk : AW p l e R s m args below meth c D cl A nL Q f k n pc' lv (.int (nI (a + b)) :: st)) : AW p l e R s m args below meth c D cl A nL Q f k n pc lv (.int (nI b) :: .int (nI a) :: st) := a_iadd hc hdg hp (by rw [nI_add]; exact kk)
theorem a_nmul (hc : CallFix p m c cc nL s args Ts own) {a b : Nat} (hdg : decode cc pc = .ok (.imul, 1)) (hp : pc + 1 = pc') (kk : AW p l e R s m args below meth c D cl A nL Q f k n pc' lv (.int (nI (a * b)) :: st)) : AW p l e R s m args below meth c D cl A nL Q f k n pc lv (.int (nI b) :: .int (nI a) :: st) := a_imul hc hdg hp (by rw [pk_mul]; exact kk)
theorem a_nsub (hc : CallFix p m c cc nL s args Ts own) {a b : Nat} (hdg : decode cc pc = .ok (.isub, 1)) (hp : pc + 1 = pc') (h : b ≤ a) (kk : AW p l e R s m args below meth c D cl A nL Q f k n pc' lv (.int (nI (a - b)) :: st)) : AW p l e R s m args below meth c D cl A nL Q f k n pc lv (.int (nI b) :: .int (nI a) :: st) := a_isub hc hdg hp (by rw [pk_sub h]; exact kk)
theorem a_ndiv (hc : CallFix p m c cc nL s args Ts own) {a b : Nat} (hdg : decode cc pc = .ok (.idiv, 1)) (hp : pc + 1 = pc') (ha : a < 2 ^ 31) (h0 : 0 < b) (hb : b < 2 ^ 31) (kk : AW p l e R s m args below meth c D cl A nL Q f k n pc' lv (.int (nI (a / b)) :: st)) : AW p l e R s m args below meth c D cl A nL Q f k n pc lv (.int (nI b) :: .int (nI a) :: st) := a_idiv hc hdg hp (nI_ne0 h0 hb) (by rw [pk_div ha h0 hb]; exact kk)
theorem a_nrem (hc : CallFix p m c cc nL s args Ts own) {a b : Nat} (hdg : decode cc pc = .ok (.irem, 1)) (hp : pc + 1 = pc') (ha : a < 2 ^ 31) (h0 : 0 < b) (hb : b < 2 ^ 31) (kk : AW p l e R s m args below meth c D cl A nL Q f k n pc' lv (.int (nI (a % b)) :: st)) : AW p l e R s m args below meth c D cl A nL Q f k n pc lv (.int (nI b) :: .int (nI a) :: st) := a_irem hc hdg hp (nI_ne0 h0 hb) (by rw [pk_rem ha h0 hb]; exact kk)
theorem a_dup (hc : CallFix p m c cc nL s args Ts own) {v : Value} (hdg : decode cc pc = .ok (.dup, 1)) (hp : pc + 1 = pc') (hv : v.category = 1) (kk : AW p l e R s m args below meth c D cl A nL Q f k n pc' lv (v :: v :: st)) : AW p l e R s m args below meth c D cl A nL Q f k n pc lv (v :: st) := by
  subst hp
  exact fun H locs ls hf hd hS hl => lv_dup hc.1 hc.2.1 hdg hv (kk H locs ls hf hd hS hl)
theorem a_pop (hc : CallFix p m c cc nL s args Ts own) {v : Value} (hdg : decode cc pc = .ok (.pop, 1)) (hp : pc + 1 = pc') (hv : v.category = 1) (kk : AW p l e R s m args below meth c D cl A nL Q f k n pc' lv (st)) : AW p l e R s m args below meth c D cl A nL Q f k n pc lv (v :: st) := by
  subst hp
  exact fun H locs ls hf hd hS hl => lv_pop hc.1 hc.2.1 hdg hv (kk H locs ls hf hd hS hl)
theorem a_dup_x1 (hc : CallFix p m c cc nL s args Ts own) {v u : Value} (hdg : decode cc pc = .ok (.dup_x1, 1)) (hp : pc + 1 = pc') (hv : v.category = 1) (hu : u.category = 1) (kk : AW p l e R s m args below meth c D cl A nL Q f k n pc' lv (v :: u :: v :: st)) : AW p l e R s m args below meth c D cl A nL Q f k n pc lv (v :: u :: st) := by
  subst hp
  exact fun H locs ls hf hd hS hl => lv_dup_x1 hc.1 hc.2.1 hdg hv hu (kk H locs ls hf hd hS hl)
theorem a_dup2 (hc : CallFix p m c cc nL s args Ts own) {v u : Value} (hdg : decode cc pc = .ok (.dup2, 1)) (hp : pc + 1 = pc') (hv : v.category = 1) (hu : u.category = 1) (kk : AW p l e R s m args below meth c D cl A nL Q f k n pc' lv (v :: u :: v :: u :: st)) : AW p l e R s m args below meth c D cl A nL Q f k n pc lv (v :: u :: st) := by
  subst hp
  exact fun H locs ls hf hd hS hl => lv_dup2_11 hc.1 hc.2.1 hdg hv hu (kk H locs ls hf hd hS hl)
theorem a_if_eq (hc : CallFix p m c cc nL s args Ts own) {x : Int32} {off : Int} {tgt : Nat} (hdg : decode cc pc = .ok (.ifCond .eq off, 3)) (ht : (pc : Int) + off = (tgt : Int)) (hp : pc + 3 = pc') (kt : x = 0 → AW p l e R s m args below meth c D cl A nL Q f k n tgt lv st) (kf : ¬ x = 0 → AW p l e R s m args below meth c D cl A nL Q f k n pc' lv st) : AW p l e R s m args below meth c D cl A nL Q f k n pc lv (.int x :: st) := by
  subst hp
  exact fun H locs ls hf hd hS hl => lv_if_eq hc.1 hc.2.1 hdg ht (fun h => kt h H locs ls hf hd hS hl) (fun h => kf h H locs ls hf hd hS hl)
theorem a_if_ne (hc : CallFix p m c cc nL s args Ts own) {x : Int32} {off : Int} {tgt : Nat} (hdg : decode cc pc = .ok (.ifCond .ne off, 3)) (ht : (pc : Int) + off = (tgt : Int)) (hp : pc + 3 = pc') (kt : ¬ x = 0 → AW p l e R s m args below meth c D cl A nL Q f k n tgt lv st) (kf : x = 0 → AW p l e R s m args below meth c D cl A nL Q f k n pc' lv st) : AW p l e R s m args below meth c D cl A nL Q f k n pc lv (.int x :: st) := by
  subst hp
  exact fun H locs ls hf hd hS hl => lv_if_ne hc.1 hc.2.1 hdg ht (fun h => kt h H locs ls hf hd hS hl) (fun h => kf h H locs ls hf hd hS hl)
theorem a_if_lt (hc : CallFix p m c cc nL s args Ts own) {x : Int32} {off : Int} {tgt : Nat} (hdg : decode cc pc = .ok (.ifCond .lt off, 3)) (ht : (pc : Int) + off = (tgt : Int)) (hp : pc + 3 = pc') (kt : x < 0 → AW p l e R s m args below meth c D cl A nL Q f k n tgt lv st) (kf : ¬ x < 0 → AW p l e R s m args below meth c D cl A nL Q f k n pc' lv st) : AW p l e R s m args below meth c D cl A nL Q f k n pc lv (.int x :: st) := by
  subst hp
  exact fun H locs ls hf hd hS hl => lv_if_lt hc.1 hc.2.1 hdg ht (fun h => kt h H locs ls hf hd hS hl) (fun h => kf h H locs ls hf hd hS hl)
theorem a_if_ge (hc : CallFix p m c cc nL s args Ts own) {x : Int32} {off : Int} {tgt : Nat} (hdg : decode cc pc = .ok (.ifCond .ge off, 3)) (ht : (pc : Int) + off = (tgt : Int)) (hp : pc + 3 = pc') (kt : 0 ≤ x → AW p l e R s m args below meth c D cl A nL Q f k n tgt lv st) (kf : ¬ 0 ≤ x → AW p l e R s m args below meth c D cl A nL Q f k n pc' lv st) : AW p l e R s m args below meth c D cl A nL Q f k n pc lv (.int x :: st) := by
  subst hp
  exact fun H locs ls hf hd hS hl => lv_if_ge hc.1 hc.2.1 hdg ht (fun h => kt h H locs ls hf hd hS hl) (fun h => kf h H locs ls hf hd hS hl)
theorem a_if_gt (hc : CallFix p m c cc nL s args Ts own) {x : Int32} {off : Int} {tgt : Nat} (hdg : decode cc pc = .ok (.ifCond .gt off, 3)) (ht : (pc : Int) + off = (tgt : Int)) (hp : pc + 3 = pc') (kt : 0 < x → AW p l e R s m args below meth c D cl A nL Q f k n tgt lv st) (kf : ¬ 0 < x → AW p l e R s m args below meth c D cl A nL Q f k n pc' lv st) : AW p l e R s m args below meth c D cl A nL Q f k n pc lv (.int x :: st) := by
  subst hp
  exact fun H locs ls hf hd hS hl => lv_if_gt hc.1 hc.2.1 hdg ht (fun h => kt h H locs ls hf hd hS hl) (fun h => kf h H locs ls hf hd hS hl)
theorem a_if_le (hc : CallFix p m c cc nL s args Ts own) {x : Int32} {off : Int} {tgt : Nat} (hdg : decode cc pc = .ok (.ifCond .le off, 3)) (ht : (pc : Int) + off = (tgt : Int)) (hp : pc + 3 = pc') (kt : x ≤ 0 → AW p l e R s m args below meth c D cl A nL Q f k n tgt lv st) (kf : ¬ x ≤ 0 → AW p l e R s m args below meth c D cl A nL Q f k n pc' lv st) : AW p l e R s m args below meth c D cl A nL Q f k n pc lv (.int x :: st) := by
  subst hp
  exact fun H locs ls hf hd hS hl => lv_if_le hc.1 hc.2.1 hdg ht (fun h => kt h H locs ls hf hd hS hl) (fun h => kf h H locs ls hf hd hS hl)
theorem a_icmp_eq (hc : CallFix p m c cc nL s args Ts own) {x y : Int32} {off : Int} {tgt : Nat} (hdg : decode cc pc = .ok (.if_icmp .eq off, 3)) (ht : (pc : Int) + off = (tgt : Int)) (hp : pc + 3 = pc') (kt : x = y → AW p l e R s m args below meth c D cl A nL Q f k n tgt lv st) (kf : ¬ x = y → AW p l e R s m args below meth c D cl A nL Q f k n pc' lv st) : AW p l e R s m args below meth c D cl A nL Q f k n pc lv (.int y :: .int x :: st) := by
  subst hp
  exact fun H locs ls hf hd hS hl => lv_icmp_eq hc.1 hc.2.1 hdg ht (fun h => kt h H locs ls hf hd hS hl) (fun h => kf h H locs ls hf hd hS hl)
theorem a_icmp_ne (hc : CallFix p m c cc nL s args Ts own) {x y : Int32} {off : Int} {tgt : Nat} (hdg : decode cc pc = .ok (.if_icmp .ne off, 3)) (ht : (pc : Int) + off = (tgt : Int)) (hp : pc + 3 = pc') (kt : ¬ x = y → AW p l e R s m args below meth c D cl A nL Q f k n tgt lv st) (kf : x = y → AW p l e R s m args below meth c D cl A nL Q f k n pc' lv st) : AW p l e R s m args below meth c D cl A nL Q f k n pc lv (.int y :: .int x :: st) := by
  subst hp
  exact fun H locs ls hf hd hS hl => lv_icmp_ne hc.1 hc.2.1 hdg ht (fun h => kt h H locs ls hf hd hS hl) (fun h => kf h H locs ls hf hd hS hl)
theorem a_icmp_lt (hc : CallFix p m c cc nL s args Ts own) {x y : Int32} {off : Int} {tgt : Nat} (hdg : decode cc pc = .ok (.if_icmp .lt off, 3)) (ht : (pc : Int) + off = (tgt : Int)) (hp : pc + 3 = pc') (kt : x < y → AW p l e R s m args below meth c D cl A nL Q f k n tgt lv st) (kf : ¬ x < y → AW p l e R s m args below meth c D cl A nL Q f k n pc' lv st) : AW p l e R s m args below meth c D cl A nL Q f k n pc lv (.int y :: .int x :: st) := by
  subst hp
  exact fun H locs ls hf hd hS hl => lv_icmp_lt hc.1 hc.2.1 hdg ht (fun h => kt h H locs ls hf hd hS hl) (fun h => kf h H locs ls hf hd hS hl)
theorem a_icmp_ge (hc : CallFix p m c cc nL s args Ts own) {x y : Int32} {off : Int} {tgt : Nat} (hdg : decode cc pc = .ok (.if_icmp .ge off, 3)) (ht : (pc : Int) + off = (tgt : Int)) (hp : pc + 3 = pc') (kt : y ≤ x → AW p l e R s m args below meth c D cl A nL Q f k n tgt lv st) (kf : ¬ y ≤ x → AW p l e R s m args below meth c D cl A nL Q f k n pc' lv st) : AW p l e R s m args below meth c D cl A nL Q f k n pc lv (.int y :: .int x :: st) := by
  subst hp
  exact fun H locs ls hf hd hS hl => lv_icmp_ge hc.1 hc.2.1 hdg ht (fun h => kt h H locs ls hf hd hS hl) (fun h => kf h H locs ls hf hd hS hl)
theorem a_icmp_gt (hc : CallFix p m c cc nL s args Ts own) {x y : Int32} {off : Int} {tgt : Nat} (hdg : decode cc pc = .ok (.if_icmp .gt off, 3)) (ht : (pc : Int) + off = (tgt : Int)) (hp : pc + 3 = pc') (kt : y < x → AW p l e R s m args below meth c D cl A nL Q f k n tgt lv st) (kf : ¬ y < x → AW p l e R s m args below meth c D cl A nL Q f k n pc' lv st) : AW p l e R s m args below meth c D cl A nL Q f k n pc lv (.int y :: .int x :: st) := by
  subst hp
  exact fun H locs ls hf hd hS hl => lv_icmp_gt hc.1 hc.2.1 hdg ht (fun h => kt h H locs ls hf hd hS hl) (fun h => kf h H locs ls hf hd hS hl)
theorem a_icmp_le (hc : CallFix p m c cc nL s args Ts own) {x y : Int32} {off : Int} {tgt : Nat} (hdg : decode cc pc = .ok (.if_icmp .le off, 3)) (ht : (pc : Int) + off = (tgt : Int)) (hp : pc + 3 = pc') (kt : x ≤ y → AW p l e R s m args below meth c D cl A nL Q f k n tgt lv st) (kf : ¬ x ≤ y → AW p l e R s m args below meth c D cl A nL Q f k n pc' lv st) : AW p l e R s m args below meth c D cl A nL Q f k n pc lv (.int y :: .int x :: st) := by
  subst hp
  exact fun H locs ls hf hd hS hl => lv_icmp_le hc.1 hc.2.1 hdg ht (fun h => kt h H locs ls hf hd hS hl) (fun h => kf h H locs ls hf hd hS hl)
theorem a_ncmp_eq (hc : CallFix p m c cc nL s args Ts own) {a b : Nat} {off : Int} {tgt : Nat} (hdg : decode cc pc = .ok (.if_icmp .eq off, 3)) (ht : (pc : Int) + off = (tgt : Int)) (hp : pc + 3 = pc') (ha : a < 2 ^ 31) (hb : b < 2 ^ 31) (kt : a = b → AW p l e R s m args below meth c D cl A nL Q f k n tgt lv st) (kf : ¬ a = b → AW p l e R s m args below meth c D cl A nL Q f k n pc' lv st) : AW p l e R s m args below meth c D cl A nL Q f k n pc lv (.int (nI b) :: .int (nI a) :: st) :=
  a_icmp_eq hc hdg ht hp (fun h => kt ((nI_eq ha hb).mp h)) (fun h => kf (fun q => h ((nI_eq ha hb).mpr q)))
theorem a_ncmp_ne (hc : CallFix p m c cc nL s args Ts own) {a b : Nat} {off : Int} {tgt : Nat} (hdg : decode cc pc = .ok (.if_icmp .ne off, 3)) (ht : (pc : Int) + off = (tgt : Int)) (hp : pc + 3 = pc') (ha : a < 2 ^ 31) (hb : b < 2 ^ 31) (kt : ¬ a = b → AW p l e R s m args below meth c D cl A nL Q f k n tgt lv st) (kf : a = b → AW p l e R s m args below meth c D cl A nL Q f k n pc' lv st) : AW p l e R s m args below meth c D cl A nL Q f k n pc lv (.int (nI b) :: .int (nI a) :: st) :=
  a_icmp_ne hc hdg ht hp (fun h => kt (fun q => h ((nI_eq ha hb).mpr q))) (fun h => kf ((nI_eq ha hb).mp h))
theorem a_ncmp_lt (hc : CallFix p m c cc nL s args Ts own) {a b : Nat} {off : Int} {tgt : Nat} (hdg : decode cc pc = .ok (.if_icmp .lt off, 3)) (ht : (pc : Int) + off = (tgt : Int)) (hp : pc + 3 = pc') (ha : a < 2 ^ 31) (hb : b < 2 ^ 31) (kt : a < b → AW p l e R s m args below meth c D cl A nL Q f k n tgt lv st) (kf : b ≤ a → AW p l e R s m args below meth c D cl A nL Q f k n pc' lv st) : AW p l e R s m args below meth c D cl A nL Q f k n pc lv (.int (nI b) :: .int (nI a) :: st) :=
  a_icmp_lt hc hdg ht hp (fun h => kt ((nI_ltI ha hb).mp h)) (fun h => kf (Nat.not_lt.mp (fun q => h ((nI_ltI ha hb).mpr q))))
theorem a_ncmp_ge (hc : CallFix p m c cc nL s args Ts own) {a b : Nat} {off : Int} {tgt : Nat} (hdg : decode cc pc = .ok (.if_icmp .ge off, 3)) (ht : (pc : Int) + off = (tgt : Int)) (hp : pc + 3 = pc') (ha : a < 2 ^ 31) (hb : b < 2 ^ 31) (kt : b ≤ a → AW p l e R s m args below meth c D cl A nL Q f k n tgt lv st) (kf : a < b → AW p l e R s m args below meth c D cl A nL Q f k n pc' lv st) : AW p l e R s m args below meth c D cl A nL Q f k n pc lv (.int (nI b) :: .int (nI a) :: st) :=
  a_icmp_ge hc hdg ht hp (fun h => kt ((nI_leI hb ha).mp h)) (fun h => kf (Nat.not_le.mp (fun q => h ((nI_leI hb ha).mpr q))))
theorem a_ncmp_gt (hc : CallFix p m c cc nL s args Ts own) {a b : Nat} {off : Int} {tgt : Nat} (hdg : decode cc pc = .ok (.if_icmp .gt off, 3)) (ht : (pc : Int) + off = (tgt : Int)) (hp : pc + 3 = pc') (ha : a < 2 ^ 31) (hb : b < 2 ^ 31) (kt : b < a → AW p l e R s m args below meth c D cl A nL Q f k n tgt lv st) (kf : a ≤ b → AW p l e R s m args below meth c D cl A nL Q f k n pc' lv st) : AW p l e R s m args below meth c D cl A nL Q f k n pc lv (.int (nI b) :: .int (nI a) :: st) :=
  a_icmp_gt hc hdg ht hp (fun h => kt ((nI_ltI hb ha).mp h)) (fun h => kf (Nat.not_lt.mp (fun q => h ((nI_ltI hb ha).mpr q))))
theorem a_ncmp_le (hc : CallFix p m c cc nL s args Ts own) {a b : Nat} {off : Int} {tgt : Nat} (hdg : decode cc pc = .ok (.if_icmp .le off, 3)) (ht : (pc : Int) + off = (tgt : Int)) (hp : pc + 3 = pc') (ha : a < 2 ^ 31) (hb : b < 2 ^ 31) (kt : a ≤ b → AW p l e R s m args below meth c D cl A nL Q f k n tgt lv st) (kf : b < a → AW p l e R s m args below meth c D cl A nL Q f k n pc' lv st) : AW p l e R s m args below meth c D cl A nL Q f k n pc lv (.int (nI b) :: .int (nI a) :: st) :=
  a_icmp_le hc hdg ht hp (fun h => kt ((nI_leI ha hb).mp h)) (fun h => kf (Nat.not_le.mp (fun q => h ((nI_leI ha hb).mpr q))))
theorem a_goto (hc : CallFix p m c cc nL s args Ts own) {off : Int} {tgt : Nat} (hdg : decode cc pc = .ok (.goto off, 3)) (ht : (pc : Int) + off = (tgt : Int)) (kk : AW p l e R s m args below meth c D cl A nL Q f k n tgt lv st) : AW p l e R s m args below meth c D cl A nL Q f k n pc lv st := fun H locs ls hf hd hS hl => lv_goto hc.1 hc.2.1 hdg ht (kk H locs ls hf hd hS hl)
theorem a_ifnull (hc : CallFix p m c cc nL s args Ts own) {x : Option Nat} {off : Int} {tgt : Nat} (hdg : decode cc pc = .ok (.ifnull off, 3)) (ht : (pc : Int) + off = (tgt : Int)) (hp : pc + 3 = pc') (kt : x = none → AW p l e R s m args below meth c D cl A nL Q f k n tgt lv st) (kf : ∀ a, x = some a → AW p l e R s m args below meth c D cl A nL Q f k n pc' lv st) : AW p l e R s m args below meth c D cl A nL Q f k n pc lv (va_rf x :: st) := by
  subst hp
  intro H locs ls hf hd hS hl
  cases x with
  | none => exact lv_ifnullN hc.1 hc.2.1 hdg ht (kt rfl H locs ls hf hd hS hl)
  | some a => exact lv_ifnull hc.1 hc.2.1 hdg (kf a rfl H locs ls hf hd hS hl)
theorem a_ifnonnull (hc : CallFix p m c cc nL s args Ts own) {x : Option Nat} {off : Int} {tgt : Nat} (hdg : decode cc pc = .ok (.ifnonnull off, 3)) (ht : (pc : Int) + off = (tgt : Int)) (hp : pc + 3 = pc') (kt : ∀ a, x = some a → AW p l e R s m args below meth c D cl A nL Q f k n tgt lv st) (kf : x = none → AW p l e R s m args below meth c D cl A nL Q f k n pc' lv st) : AW p l e R s m args below meth c D cl A nL Q f k n pc lv (va_rf x :: st) := by
  subst hp
  intro H locs ls hf hd hS hl
  cases x with
  | none => exact lv_ifnonnullN hc.1 hc.2.1 hdg (kf rfl H locs ls hf hd hS hl)
  | some a => exact lv_ifnonnull hc.1 hc.2.1 hdg ht (kt a rfl H locs ls hf hd hS hl)
theorem a_get (hc : CallFix p m c cc nL s args Ts own) (hK : va_K D cl tys s) {ref C : String} {T : u_T} {N ci index a : Nat} (hin : ∀ w ∈ u_ws C T N, w ∈ Ts) {fs : List Value} (he : f a = some (.inr (ci, fs))) (hci : cl[ci]? = some (C, T, N)) (j : Nat) (hj : j < N) (hlink : (Cond.fieldLink own index ref (T j).2.1 (T j).2.2.1).before args s = true) (hsame : ref = (T j).1) {v : Value} (hv : fs[j]? = some v) (hdg : decode cc pc = .ok (.getfield index, 3)) (hp : pc + 3 = pc') (kk : AW p l e R s m args below meth c D cl A nL Q f k n pc' lv (v :: st)) : AW p l e R s m args below meth c D cl A nL Q f k n pc lv (.ref a :: st) := by
  subst hp
  subst hsame
  exact fun H locs ls hf hd hS hl => va_get hc.1 hc.2.1 hc.2.2.2.2 hin hc.2.2.2.1 hK (hf.one he) 0 rfl hci j hj hlink (fun _ h => h) hv hdg (kk H locs ls hf hd hS hl)
theorem a_put (hc : CallFix p m c cc nL s args Ts own) (hK : va_K D cl tys s) {ref C : String} {T : u_T} {N ci index a : Nat} (hin : ∀ w ∈ u_ws C T N, w ∈ Ts) (ty0 : Nat → FieldType) (hty : ∀ k, k < N → parseFieldDescriptor (T k).2.2.1 = some (ty0 k)) (hnm : ∀ a, a < N → ∀ b, b < N → a ≠ b → (T a).2.1 ≠ (T b).2.1) {fs : List Value} (he : f a = some (.inr (ci, fs))) (hci : cl[ci]? = some (C, T, N)) (j : Nat) (hj : j < N) (hlink : (Cond.fieldLink own index ref (T j).2.1 (T j).2.2.1).before args s = true) (hsame : ref = (T j).1) (hfin : (T j).2.2.2 = false ∨ ((T j).2.2.2 = true ∧ meth.name = "<init>" ∧ (T j).1 = own)) {v : Value} (hn : narrow (ty0 j) v = v) (hfit : fits (ty0 j) v = true) (hl0 : j < fs.length) (hdg : decode cc pc = .ok (.putfield index, 3)) (hp : pc + 3 = pc') (kk : AW p l e R s m args below meth c D cl A nL Q (va_up f a (some (.inr (ci, fs.set j v)))) k n pc' lv st) : AW p l e R s m args below meth c D cl A nL Q f k n pc lv (v :: .ref a :: st) := by
  subst hp
  subst hsame
  intro H locs ls hf hd hS0 hl
  have hd' : ∀ (b : Nat) (x : va_E), va_up f a (some (.inr (ci, fs.set j v))) b = some x → A b := by
    intro b x hb
    by_cases hba : b = a
    · subst hba
      exact hd _ _ he
    · rw [va_up_ne _ _ hba] at hb
      exact hd b x hb
  have hap := va_apart (own := own) hc.2.2.2.2 hin ty0 hty hnm hK hci
  obtain ⟨r, h1, cell, q1, q2, q3, q4⟩ := hf a _ he
  have hr : r = (C, T, N) := Option.some.inj (h1.symm.trans hci)
  subst hr
  obtain ⟨hS, hfc, kC, hkC, hkind⟩ := hK.1 ci _ hci
  obtain ⟨cf, kf, fi, fd, hi, hsl⟩ := hS j hj
  have hst := (u_facts hfc hkC (u_lays hc.2.2.2.2 hin hj) hi).1
  have done : ∀ H' : Heap, H'[a]? = some (cell.setSlot fd.slot v) → H'.size = H.size → (∀ q, q ≠ a → H'[q]? = H[q]?) → W p l e R s m args below meth c H' (locs ++ [⟨a, fd.slot⟩]) k n Q (F0 m (pc + 3) ls st) := by
    intro H' e1 e2 e3
    rw [hsl] at e1 ⊢
    exact kk H' _ ls (hf.set ⟨_, hci, t_OB.to (V := updV (vp_V fs) j v) ⟨_, e1, q2, q3, t_set q4 hap hj v⟩ (fun i _ => vp_updV_set hl0 v i)⟩ e3) hd' (hS0.put e2 e3 (hd _ _ he)) hl
  have hlay := hc.2.2.2.2 _ (hin _ (u_in_lay hj))
  unfold u_lay at hlay
  rcases hfin with hfin | ⟨hfin, hin2, hdecl⟩
  · rw [if_neg (by rw [hfin]; decide)] at hlay
    have h6 := u_store hfc hkC hkind hlay hi (hty j hj) hn hfit
    exact W.putK hc.1 hc.2.1 (f := fd) ⟨hc.2.2.2.1, hlink, ⟨_, _, _, hi⟩, hst⟩ (by rw [q2]; exact h6) q1 q3 (by rw [hsl]; exact k2_hasslot (q4 j hj)) rfl rfl hdg done
  · rw [if_pos hfin] at hlay
    have hcf : m.cls = cf := by
      obtain ⟨_, _, c', _, _, _, -, -, hf', -, -, -, hown2, -⟩ := Cond.laysFinal_spec hlay
      have e1 : c' = cf := by have := hi.symm.trans hf'; simp at this; exact this.1.symm
      rw [hdecl] at hown2
      rw [← e1]; exact Option.some.inj (hc.2.2.2.1.symm.trans hown2)
    have h6 := u_fits hfc hkC hkind (Or.inr hlay) hi (hty j hj) hn hfit
    exact W.putFinK hc.1 hc.2.1 hc.2.2.2.1 hlink hi hst hcf hin2 (by rw [q2]; exact h6) q1 q3 (by rw [hsl]; exact k2_hasslot (q4 j hj)) rfl rfl hdg done
theorem a_iald (hc : CallFix p m c cc nL s args Ts own) (hK : va_K D cl tys s) {a N : Nat} {cA : ClassId} {g : Nat → Int32} (t0 : Nat) (he : f a = some (.inl (cA, N, .inl g))) (ht : tys[t0]? = some (cA, .int)) {i : Int32} (hi : vp_in i N) (hdg : decode cc pc = .ok (.iaload, 1)) (hp : pc + 1 = pc') (kk : AW p l e R s m args below meth c D cl A nL Q f k n pc' lv (.int (g i.toNatClampNeg) :: st)) : AW p l e R s m args below meth c D cl A nL Q f k n pc lv (.int i :: .ref a :: st) := by
  subst hp
  exact fun H locs ls hf hd hS hl => va_iald hc.1 hc.2.1 hK (hf.one he) 0 t0 rfl ht hi hdg (kk H locs ls hf hd hS hl)
theorem a_zald (hc : CallFix p m c cc nL s args Ts own) (hK : va_K D cl tys s) {a N : Nat} {cA : ClassId} {g : Nat → Int32} (t0 : Nat) (he : f a = some (.inl (cA, N, .inl g))) (ht : tys[t0]? = some (cA, .boolean)) {i : Int32} (hi : vp_in i N) (hdg : decode cc pc = .ok (.baload, 1)) (hp : pc + 1 = pc') (kk : AW p l e R s m args below meth c D cl A nL Q f k n pc' lv (.int (g i.toNatClampNeg) :: st)) : AW p l e R s m args below meth c D cl A nL Q f k n pc lv (.int i :: .ref a :: st) := by
  subst hp
  exact fun H locs ls hf hd hS hl => va_zald hc.1 hc.2.1 hK (hf.one he) 0 t0 rfl ht hi hdg (kk H locs ls hf hd hS hl)
theorem a_aald (hc : CallFix p m c cc nL s args Ts own) (hK : va_K D cl tys s) {a N : Nat} {cA : ClassId} {C : String} {g : Nat → Option Nat} (t0 : Nat) (he : f a = some (.inl (cA, N, .inr (.inr (.inr (.inr g)))))) (ht : tys[t0]? = some (cA, .object C)) {i : Int32} (hi : vp_in i N) (hdg : decode cc pc = .ok (.aaload, 1)) (hp : pc + 1 = pc') (kk : AW p l e R s m args below meth c D cl A nL Q f k n pc' lv (va_rf (g i.toNatClampNeg) :: st)) : AW p l e R s m args below meth c D cl A nL Q f k n pc lv (.int i :: .ref a :: st) := by
  subst hp
  exact fun H locs ls hf hd hS hl => va_aldq hc.1 hc.2.1 hK (hf.one he) 0 t0 rfl ht hi hdg (kk H locs ls hf hd hS hl)
theorem a_alen (hc : CallFix p m c cc nL s args Ts own) (hK : va_K D cl tys s) {a : Nat} {cA : ClassId} {x : vp_A} {ty : FieldType} (t0 : Nat) (he : f a = some (.inl (cA, x))) (ht : tys[t0]? = some (cA, ty)) (hdg : decode cc pc = .ok (.arraylength, 1)) (hp : pc + 1 = pc') (kk : AW p l e R s m args below meth c D cl A nL Q f k n pc' lv (.int (nI x.1) :: st)) : AW p l e R s m args below meth c D cl A nL Q f k n pc lv (.ref a :: st) := by
  subst hp
  exact fun H locs ls hf hd hS hl => va_alen hc.1 hc.2.1 hK (hf.one he) 0 t0 rfl ht rfl hdg (kk H locs ls hf hd hS hl)
theorem a_up_dom {a : Nat} {x0 x : va_E} (hd : ∀ (b : Nat) (y : va_E), f b = some y → A b) (he : f a = some x0) : ∀ (b : Nat) (y : va_E), va_up f a (some x) b = some y → A b := by
  intro b y hb
  by_cases hba : b = a
  · subst hba
    exact hd _ _ he
  · rw [va_up_ne _ _ hba] at hb
    exact hd b y hb
theorem a_iast (hc : CallFix p m c cc nL s args Ts own) (hK : va_K D cl tys s) {a N : Nat} {cA : ClassId} {g : Nat → Int32} (t0 : Nat) (he : f a = some (.inl (cA, N, .inl g))) (ht : tys[t0]? = some (cA, .int)) {i x : Int32} (hi : vp_in i N) (hdg : decode cc pc = .ok (.iastore, 1)) (hp : pc + 1 = pc') (kk : AW p l e R s m args below meth c D cl A nL Q (va_up f a (some (.inl (cA, N, .inl (upd g i.toNatClampNeg x))))) k n pc' lv st) : AW p l e R s m args below meth c D cl A nL Q f k n pc lv (.int x :: .int i :: .ref a :: st) := by
  subst hp
  intro H locs ls hf hd hS hl
  refine W.iast hc.1 hc.2.1 (hf a _ he) ((hK.2 t0 _ ht).1 N (fun j => .int (g j))) (fun q => by cases q) (by show ¬ (i < 0 ∨ (arrV _ _ _).slots.size ≤ _); rw [arrV_size]; exact hi) rfl rfl hdg fun H1 e z oq => ?_
  refine kk H1 _ ls (hf.set ?_ oq) (a_up_dom hd he) (hS.put z oq (hd _ _ he)) hl
  show H1[a]? = some (vp_cell _ _)
  rw [e]
  rw [vp_cell_i, vp_cell_i, arrV_store]
  congr 2
  funext q
  by_cases hq : q = i.toNatClampNeg
  · subst hq
    simp [updV, upd]
  · simp [updV, upd, hq]
theorem a_zast (hc : CallFix p m c cc nL s args Ts own) (hK : va_K D cl tys s) {a N : Nat} {cA : ClassId} {g : Nat → Int32} (t0 : Nat) (he : f a = some (.inl (cA, N, .inl g))) (ht : tys[t0]? = some (cA, .boolean)) {i x : Int32} (hx : x = nI 0 ∨ x = nI 1) (hi : vp_in i N) (hdg : decode cc pc = .ok (.bastore, 1)) (hp : pc + 1 = pc') (kk : AW p l e R s m args below meth c D cl A nL Q (va_up f a (some (.inl (cA, N, .inl (upd g i.toNatClampNeg x))))) k n pc' lv st) : AW p l e R s m args below meth c D cl A nL Q f k n pc lv (.int x :: .int i :: .ref a :: st) := by
  subst hp
  intro H locs ls hf hd hS hl
  have hx' : vp_nar .boolean x = x := by rcases hx with h | h <;> subst h <;> decide
  refine W.zast hc.1 hc.2.1 (hf a _ he) ((hK.2 t0 _ ht).1 N (fun j => .int (g j))) (fun q => by cases q) (by show ¬ (i < 0 ∨ (arrV _ _ _).slots.size ≤ _); rw [arrV_size]; exact hi) rfl rfl hdg fun H1 e z oq => ?_
  refine kk H1 _ ls (hf.set ?_ oq) (a_up_dom hd he) (hS.put z oq (hd _ _ he)) hl
  show H1[a]? = some (vp_cell _ _)
  rw [e]
  rw [vp_cell_i, vp_cell_i, arrV_store]
  congr 2
  funext q
  by_cases hq : q = i.toNatClampNeg
  · subst hq
    rw [show upd g i.toNatClampNeg x i.toNatClampNeg = vp_nar .boolean x by rw [hx']; simp [upd]]
    simp [updV, vp_nar]
    try rfl
  · simp [updV, upd, hq]
theorem a_aast (hc : CallFix p m c cc nL s args Ts own) (hK : va_K D cl tys s) {a N ci y : Nat} {cA : ClassId} {r : vw_C} {vs : List Value} {g : Nat → Option Nat} (t0 : Nat) (he : f a = some (.inl (cA, N, .inr (.inr (.inr (.inr g)))))) (ht : tys[t0]? = some (cA, .object r.1)) (hv : f y = some (.inr (ci, vs))) (hci : cl[ci]? = some r) {i : Int32} (hi : vp_in i N) (hdg : decode cc pc = .ok (.aastore, 1)) (hp : pc + 1 = pc') (kk : AW p l e R s m args below meth c D cl A nL Q (va_up f a (some (.inl (cA, N, .inr (.inr (.inr (.inr (va_up g i.toNatClampNeg (some y))))))))) k n pc' lv st) : AW p l e R s m args below meth c D cl A nL Q f k n pc lv (.ref y :: .int i :: .ref a :: st) := by
  subst hp
  intro H locs ls hf hd hS hl
  have hlt : i.toNatClampNeg < N := Nat.not_le.mp fun q => hi (Or.inr q)
  have h0 : ¬ i < 0 := fun q => hi (Or.inl q)
  obtain ⟨r', hr', cellV, g1, g2, g3, -⟩ := hf y _ hv
  have hcls := (hK.1 ci r hci).2
  obtain ⟨kA, comp, k1, k2, k3, -⟩ := (hK.2 t0 _ ht).2
  have hcomp : comp = D.1 ci := Option.some.inj (k3.symm.trans hcls.1)
  subst hcomp
  obtain ⟨kC, hkC, -⟩ := hcls.2
  refine W.aast hc.1 hc.2.1 (hf a _ he) (fun q h => by cases h) (fun h => by cases h) k1 k2 rfl hkC ⟨h0, by show _ < (arrV _ _ _).slots.size; rw [arrV_size]; exact hlt⟩ g1 (fun q h => by rw [g3] at h; cases h) (by rw [g2]; exact hkC) (by rw [g2]; exact va_assign hcls) rfl rfl hdg fun H1 e z oq => ?_
  refine kk H1 _ ls (hf.set ?_ oq) (a_up_dom hd he) (hS.put z oq (hd _ _ he)) hl
  show H1[a]? = some (vp_cell _ _)
  rw [e]
  rw [vp_cell_q, vp_cell_q, arrV_store]
  congr 2
  funext q
  by_cases hq : q = i.toNatClampNeg
  · subst hq
    simp [updV, va_up, va_rf]
  · simp [updV, va_up, hq]
theorem a_aastN (hc : CallFix p m c cc nL s args Ts own) (hK : va_K D cl tys s) {a N : Nat} {cA : ClassId} {C : String} {g : Nat → Option Nat} (t0 : Nat) (he : f a = some (.inl (cA, N, .inr (.inr (.inr (.inr g)))))) (ht : tys[t0]? = some (cA, .object C)) {i : Int32} (hi : vp_in i N) (hdg : decode cc pc = .ok (.aastore, 1)) (hp : pc + 1 = pc') (kk : AW p l e R s m args below meth c D cl A nL Q (va_up f a (some (.inl (cA, N, .inr (.inr (.inr (.inr (va_up g i.toNatClampNeg none)))))))) k n pc' lv st) : AW p l e R s m args below meth c D cl A nL Q f k n pc lv (.null :: .int i :: .ref a :: st) := by
  subst hp
  intro H locs ls hf hd hS hl
  refine va_WaastN (C := C) hc.1 hc.2.1 (hf a _ he) ((hK.2 t0 _ ht).1 N (fun j => va_rf (g j))) (fun h => by cases h) (by show ¬ (i < 0 ∨ (arrV _ _ _).slots.size ≤ _); rw [arrV_size]; exact hi) rfl rfl hdg fun H1 e z oq => ?_
  refine kk H1 _ ls (hf.set ?_ oq) (a_up_dom hd he) (hS.put z oq (hd _ _ he)) hl
  show H1[a]? = some (vp_cell _ _)
  rw [e]
  rw [vp_cell_q, vp_cell_q, arrV_store]
  congr 2
  funext q
  by_cases hq : q = i.toNatClampNeg
  · subst hq
    simp [updV, va_up, va_rf]
  · simp [updV, va_up, hq]
theorem a_push_dom {x : va_E} {q0 : Nat} (hd : ∀ (b : Nat) (y : va_E), f b = some y → A b) (hA : A q0) : ∀ (b : Nat) (y : va_E), va_up f q0 (some x) b = some y → A b := by
  intro b y hb
  by_cases hba : b = q0
  · subst hba
    exact hA
  · rw [va_up_ne _ _ hba] at hb
    exact hd b y hb
theorem a_new (hc : CallFix p m c cc nL s args Ts own) (hK : va_K D cl tys s) (hA : ∀ q : Nat, s.heap.size ≤ q → A q) {C : String} {T : u_T} {N ci index : Nat} (hin : ∀ w ∈ u_ws C T N, w ∈ Ts) (ty : Nat → FieldType) (hty : ∀ k, k < N → parseFieldDescriptor (T k).2.2.1 = some (ty k)) (hcl : (Cond.classLink own index C).before args s = true) (hinst : (Cond.instantiable C N).before args s = true) (hini : (Cond.initialized C).before args s = true) (hci : cl[ci]? = some (C, T, N)) {fs : List Value} (hfs : ∀ j, j < N → defaultValue (ty j) = vp_V fs j) (hcells : k + 1 ≤ R.cells) (hslots : n + N ≤ R.slots) (hdg : decode cc pc = .ok (.new index, 3)) (hp : pc + 3 = pc') (kk : ∀ q : Nat, f q = none → s.heap.size ≤ q → AW p l e R s m args below meth c D cl A nL Q (va_up f q (some (.inr (ci, fs)))) (k + 1) (n + N) pc' lv (.ref q :: st)) : AW p l e R s m args below meth c D cl A nL Q f k n pc lv st := by
  subst hp
  intro H locs ls hf hd hS hl
  have hKn := hK.1 ci _ hci
  refine W.newcK hc.1 hc.2.1 hc.2.2.2.1 hcl hinst hini rfl hdg hcells hslots hKn.2.1 rfl fun H1 kC hkC e1 z1 o1 => ?_
  refine kk H.size hf.fresh hS.1 H1 locs ls (hf.push ⟨_, hci, (u_born ty hc.2.2.2.2 hin hKn hkC e1 hty).to hfs⟩ o1) (a_push_dom hd (hA _ hS.1)) ⟨Nat.le_trans hS.1 (by omega), fun x h1 h2 => (o1 x (Nat.lt_of_lt_of_le h1 hS.1)).trans (hS.2.1 x h1 h2), hS.2.2⟩ hl
theorem a_newa (hc : CallFix p m c cc nL s args Ts own) (hK : va_K D cl tys s) (hA : ∀ q : Nat, s.heap.size ≤ q → A q) {atype : ArrayType} (harr : (Cond.arrayClass (newarray.typeOf atype)).before args s = true) {cA : ClassId} {ty : FieldType} (t0 : Nat) (ht : tys[t0]? = some (cA, ty)) (hty : newarray.typeOf atype = ty) (hra : va_RA s cA ty → s.vm.findClass ("[" ++ ty.toString) = some cA) {x : Int32} {N' : Nat} {a0 : vp_A} (ha : vp_cell cA a0 = arrV cA N' (fun _ => defaultValue ty)) (hx : x = nI N') (hN : N' * 8 < 536870912) (hcb : componentBytes ty ≤ 8) (hcells : k + 1 ≤ R.cells) (hslots : n + N' ≤ R.slots) (hdg : decode cc pc = .ok (.newarray atype, 2)) (hp : pc + 2 = pc') (kk : ∀ q : Nat, f q = none → s.heap.size ≤ q → AW p l e R s m args below meth c D cl A nL Q (va_up f q (some (.inl (cA, a0)))) (k + 1) (n + N') pc' lv (.ref q :: st)) : AW p l e R s m args below meth c D cl A nL Q f k n pc lv (.int x :: st) := by
  subst hp
  subst hty
  subst hx
  intro H locs ls hf hd hS hl
  have hb2 : N' * componentBytes (newarray.typeOf atype) ≤ 536870912 := Nat.le_trans (Nat.mul_le_mul_left _ hcb) (Nat.le_of_lt hN)
  refine va_newaK hc.1 hc.2.1 harr rfl hdg rfl (nI_pos (by omega)) (nI_clamp (by omega)) hb2 hcells hslots rfl fun H1 cB e1 z1 o1 hAr hNm => ?_
  have hcB : cB = cA := Option.some.inj (hNm.symm.trans (hra (hK.2 t0 _ ht).2))
  subst hcB
  refine kk H.size hf.fresh hS.1 H1 locs ls (hf.push ?_ o1) (a_push_dom hd (hA _ hS.1)) ⟨Nat.le_trans hS.1 (by omega), fun x h1 h2 => (o1 x (Nat.lt_of_lt_of_le h1 hS.1)).trans (hS.2.1 x h1 h2), hS.2.2⟩ hl
  show H1[H.size]? = some (vp_cell _ _)
  rw [ha]
  exact e1
theorem a_newq (hc : CallFix p m c cc nL s args Ts own) (hK : va_K D cl tys s) (hA : ∀ q : Nat, s.heap.size ≤ q → A q) {C : String} {index : Nat} (hclink : (Cond.classLink own index C).before args s = true) (hover : (Cond.arrayOver (.object C)).before args s = true) {cA : ClassId} (t0 : Nat) (ht : tys[t0]? = some (cA, .object C)) {x : Int32} {N' : Nat} (hx : x = nI N') (hN : N' * 8 < 536870912) (hcells : k + 1 ≤ R.cells) (hslots : n + N' ≤ R.slots) (hdg : decode cc pc = .ok (.anewarray index, 3)) (hp : pc + 3 = pc') (kk : ∀ q : Nat, f q = none → s.heap.size ≤ q → AW p l e R s m args below meth c D cl A nL Q (va_up f q (some (.inl (cA, N', .inr (.inr (.inr (.inr (fun _ => none)))))))) (k + 1) (n + N') pc' lv (.ref q :: st)) : AW p l e R s m args below meth c D cl A nL Q f k n pc lv (.int x :: st) := by
  subst hp
  subst hx
  intro H locs ls hf hd hS hl
  have hcl : (nI N').toNatClampNeg = N' := nI_clamp (by omega)
  refine W.anew hc.1 hc.2.1 hc.2.2.2.1 hclink hover rfl hdg rfl (nI_pos (by omega)) (by rw [hcl]; omega) hcells (by rw [hcl]; exact hslots) fun cB kA comp f1 f2 f3 f4 => ?_
  obtain ⟨kA', comp', -, -, -, k4⟩ := (hK.2 t0 _ ht).2
  have hcB : cB = cA := Option.some.inj (f1.symm.trans k4)
  subst hcB
  rw [hcl]
  generalize hH1 : H.push ({ cls := cB, slots := Array.replicate N' .null, vm := .none } : Cell) = H1
  have z1 : H1.size = H.size + 1 := by rw [← hH1, Array.size_push]
  have e1 : H1[H.size]? = some (arrV cB N' (fun _ => .null)) := by rw [← hH1, Array.getElem?_push_size, ← arrV_new]
  have o1 : ∀ q : Nat, q < H.size → H1[q]? = H[q]? := fun q hq => by rw [← hH1, Array.getElem?_push, if_neg (Nat.ne_of_lt hq)]
  refine kk H.size hf.fresh hS.1 H1 locs ls (hf.push ?_ o1) (a_push_dom hd (hA _ hS.1)) ⟨Nat.le_trans hS.1 (by omega), fun x h1 h2 => (o1 x (Nat.lt_of_lt_of_le h1 hS.1)).trans (hS.2.1 x h1 h2), hS.2.2⟩ hl
  show H1[H.size]? = some (vp_cell _ _)
  rw [vp_cell_q]
  exact e1
theorem a_iret (hc : CallFix p m c cc nL s args Ts own) {post : Option Value → (Nat → Option va_E) → Prop} (hr : meth.sig.returnType = some .int) (hk : meth.locks = false) {v : Int32} (hdg : decode cc pc = .ok (.ireturn, 1)) (hq : post (some (.int v)) f) : AW p l e R s m args below meth c D cl A nL (MQ below (CQ D cl A post) args s k n A) f k n pc lv [.int v] := fun H locs ls hf hd hS hl => W.iret hc.1 hc.2.1 hr (fun t ht hW => ⟨⟨some (.int v), f, rfl, hq, by rw [ht]; exact hf, hd⟩, hS.F ht⟩) hS.2.2 hdg hk
theorem a_zret (hc : CallFix p m c cc nL s args Ts own) {post : Option Value → (Nat → Option va_E) → Prop} (hr : meth.sig.returnType = some .boolean) (hk : meth.locks = false) {v : Int32} (hv : v = nI 0 ∨ v = nI 1) (hdg : decode cc pc = .ok (.ireturn, 1)) (hq : post (some (.int v)) f) : AW p l e R s m args below meth c D cl A nL (MQ below (CQ D cl A post) args s k n A) f k n pc lv [.int v] := fun H locs ls hf hd hS hl => W.zret hc.1 hc.2.1 hr (by rcases hv with h | h <;> subst h <;> decide) (fun t ht hW => ⟨⟨some (.int v), f, rfl, hq, by rw [ht]; exact hf, hd⟩, hS.F ht⟩) hS.2.2 hdg hk
theorem a_vret (hc : CallFix p m c cc nL s args Ts own) {post : Option Value → (Nat → Option va_E) → Prop} (hr : meth.sig.returnType = none) (hk : meth.locks = false) (hdg : decode cc pc = .ok (.return_, 1)) (hq : post none f) : AW p l e R s m args below meth c D cl A nL (MQ below (CQ D cl A post) args s k n A) f k n pc lv [] := fun H locs ls hf hd hS hl => W.vret hc.1 hc.2.1 hr (fun t ht hW => ⟨⟨none, f, rfl, hq, by rw [ht]; exact hf, hd⟩, hS.F ht⟩) hS.2.2 hdg hk
theorem a_aret (hc : CallFix p m c cc nL s args Ts own) {post : Option Value → (Nat → Option va_E) → Prop} {rt : FieldType} (hr : meth.sig.returnType = some rt) (hrt : (∃ n, rt = .object n) ∨ ∃ t, rt = .array t) (hk : meth.locks = false) {x : Option Nat} (hdg : decode cc pc = .ok (.areturn, 1)) (hq : post (some (va_rf x)) f) : AW p l e R s m args below meth c D cl A nL (MQ below (CQ D cl A post) args s k n A) f k n pc lv [va_rf x] := fun H locs ls hf hd hS hl => W.aret hc.1 hc.2.1 hr hrt (va_rf_or x) (fun t ht hW => ⟨⟨some (va_rf x), f, rfl, hq, by rw [ht]; exact hf, hd⟩, hS.F ht⟩) hS.2.2 hdg hk
theorem a_run {post : Option Value → (Nat → Option va_E) → Prop} {H : Heap} {locs : List Loc} {ls : Array Slot} {mc ms : Nat} {st0 rest : List Value} {av : Array Value} (hr : va_Run p l e R s m args below meth c H locs k n mc ms (F0 m pc ls st0) rest (CQ D cl A post av) A) (hS : va_S A s.heap H locs)
    (kk : ∀ (v : Option Value) (f' : Nat → Option va_E) (H1 : Heap) (locs1 : List Loc), post v f' → fw D cl f' H1 → (∀ (a : Nat) (x : va_E), f' a = some x → A a) → va_S A s.heap H1 locs1 → W p l e R s m args below meth c H1 locs1 (k + mc) (n + ms) Q (F0 m (pc + 3) ls (v.toList ++ rest))) : W p l e R s m args below meth c H locs k n Q (F0 m pc ls st0) := by
  intro T hT X
  obtain ⟨v, st₀, t, T', L, h0, X', hL, e1, e2, ⟨⟨v', f', hv, hp, hF, hd⟩, hz, hk⟩, st⟩ := hr T hT X
  cases hv
  rw [h0] at hz hk
  obtain ⟨t2, a1, b1⟩ := kk v f' T'.heap (locs ++ L) hp (by rw [e1]; exact hF) hd ⟨Nat.le_trans hS.1 (by rw [e1]; exact hz), fun q h1 h2 => by rw [e1, hk q (Nat.lt_of_lt_of_le h1 hS.1) h2]; exact hS.2.1 q h1 h2, fun q hq => by
      rcases List.mem_append.mp hq with h | h
      · exact hS.2.2 q h
      · exact hL q h⟩ T' rfl X'
  exact ⟨t2, st t2 a1, b1⟩
theorem a_callV (hc : CallFix p m c cc nL s args Ts own) (hK : va_K D cl tys s) (hO : AO3 s) (hA : ∀ q : Nat, s.heap.size ≤ q → A q) {y : MethodName} {bytes : ByteArray} {maxL : Nat} {ret : Option FieldType} {ws : List Cond} {rm : Room} {mc ms nA index ci b : Nat} {C : String} {r : vw_C} {fs As rest : List Value} {post : Option Value → (Nat → Option va_E) → Prop}
    (hM : CT l y ws rm D cl tys A f (.ref b :: As) post mc ms) (cw : CallW R s args own C index y bytes maxL ret ws rm mc ms nA) (he : f b = some (.inr (ci, fs))) (hci : cl[ci]? = some r) (hC : r.1 = C) (hn : As.length = nA) (hst : st = As.reverse ++ .ref b :: rest) (hW : (rest.map fun v => v.category).sum ≤ 8) (hdg : decode cc pc = .ok (.invokevirtual index, 3)) (hp : pc + 3 = pc') (hf0 : k + mc ≤ R.cells ∧ n + ms ≤ R.slots)
    (kk : ∀ (v : Option Value) (f' : Nat → Option va_E), post v f' → AW p l e R s m args below meth c D cl A nL Q f' (k + mc) (n + ms) pc' lv (v.toList ++ rest)) : AW p l e R s m args below meth c D cl A nL Q f k n pc lv st := by
  subst hp
  subst hst
  subst hC
  intro H locs ls hf hd hS hl
  exact a_run (va_runV hc (hM H.size (fun q hq => hA q (Nat.le_trans hS.1 hq)) hd) cw ⟨CP.blind, va_recv hK (hf.one he) hci (q0 := 0) rfl, fun U hU hW => ⟨rfl, by rw [hU], by rw [hU]; exact hf, va_K.moved hW.alike hK, hO.warm hW⟩⟩ rfl hn hl.1 rfl (lv_room hW) hdg hf0) hS (fun v f' H1 locs1 h1 h2 h3 h4 => kk v f' h1 H1 locs1 ls h2 h3 h4 hl)
theorem a_callS (hc : CallFix p m c cc nL s args Ts own) (hK : va_K D cl tys s) (hO : AO3 s) (hA : ∀ q : Nat, s.heap.size ≤ q → A q) {y : MethodName} {bytes : ByteArray} {maxL : Nat} {ret : Option FieldType} {ws : List Cond} {rm : Room} {mc ms nA index : Nat} {As rest : List Value} {post : Option Value → (Nat → Option va_E) → Prop}
    (hM : CT l y ws rm D cl tys A f As post mc ms) (cw : CallB R s args own index y bytes maxL ret ws rm mc ms nA ∧ (Cond.static y).before args s = true) (hn : As.length = nA) (hst : st = As.reverse ++ rest) (hW : (rest.map fun v => v.category).sum ≤ 8) (hdg : decode cc pc = .ok (.invokestatic index, 3)) (hp : pc + 3 = pc') (hf0 : k + mc ≤ R.cells ∧ n + ms ≤ R.slots)
    (kk : ∀ (v : Option Value) (f' : Nat → Option va_E), post v f' → AW p l e R s m args below meth c D cl A nL Q f' (k + mc) (n + ms) pc' lv (v.toList ++ rest)) : AW p l e R s m args below meth c D cl A nL Q f k n pc lv st := by
  subst hp
  subst hst
  intro H locs ls hf hd hS hl
  exact a_run (va_runS hc (hM H.size (fun q hq => hA q (Nat.le_trans hS.1 hq)) hd) cw ⟨CP.blind, fun U hU hW => ⟨rfl, by rw [hU], by rw [hU]; exact hf, va_K.moved hW.alike hK, hO.warm hW⟩⟩ rfl hn hl.1 rfl (lv_room hW) hdg hf0) hS (fun v f' H1 locs1 h1 h2 h3 h4 => kk v f' h1 H1 locs1 ls h2 h3 h4 hl)
theorem a_callI (hc : CallFix p m c cc nL s args Ts own) (hK : va_K D cl tys s) (hO : AO3 s) (hA : ∀ q : Nat, s.heap.size ≤ q → A q) {y : MethodName} {bytes : ByteArray} {maxL : Nat} {ws : List Cond} {rm : Room} {mc ms nA index b : Nat} {As rest : List Value} {post : Option Value → (Nat → Option va_E) → Prop}
    (hM : CT l y ws rm D cl tys A f (.ref b :: As) post mc ms) (cw : CallB R s args own index y bytes maxL none ws rm mc ms nA ∧ y.name = "<init>" ∧ (Cond.instanceMethod y).before args s = true) (hn : As.length = nA) (hst : st = As.reverse ++ .ref b :: rest) (hW : (rest.map fun v => v.category).sum ≤ 8) (hdg : decode cc pc = .ok (.invokespecial index, 3)) (hp : pc + 3 = pc') (hf0 : k + mc ≤ R.cells ∧ n + ms ≤ R.slots)
    (kk : ∀ (v : Option Value) (f' : Nat → Option va_E), post v f' → AW p l e R s m args below meth c D cl A nL Q f' (k + mc) (n + ms) pc' lv (v.toList ++ rest)) : AW p l e R s m args below meth c D cl A nL Q f k n pc lv st := by
  subst hp
  subst hst
  intro H locs ls hf hd hS hl
  exact a_run (va_runI hc (hM H.size (fun q hq => hA q (Nat.le_trans hS.1 hq)) hd) cw ⟨CP.blind, fun U hU hW => ⟨rfl, by rw [hU], by rw [hU]; exact hf, va_K.moved hW.alike hK, hO.warm hW⟩⟩ rfl hn hl.1 rfl (lv_room hW) hdg hf0) hS (fun v f' H1 locs1 h1 h2 h3 h4 => kk v f' h1 H1 locs1 ls h2 h3 h4 hl)
theorem a_objInit (hc : CallFix p m c cc nL s args Ts own) {idx a : Nat} (hlink : (Cond.methodLink own idx Lib.objectInit).before args s = true) (hinst : (Cond.instanceMethod Lib.objectInit).before args s = true) (hcode : (Cond.code Lib.objectInit ⟨#[0xb1]⟩ 1 none).before args s = true) (hdg : decode cc pc = .ok (.invokespecial idx, 3)) (hp : pc + 3 = pc') (hfr : 1 ≤ R.frames) (hlo : (st.map fun v => v.category).sum + 12 ≤ R.locals) (kk : AW p l e R s m args below meth c D cl A nL Q f k n pc' lv st) : AW p l e R s m args below meth c D cl A nL Q f k n pc lv (.ref a :: st) := by
  subst hp
  exact fun H locs ls hf hd hS hl => W.objInit hc.1 hc.2.1 hc.2.2.2.1 hlink hinst hcode rfl (by rw [hc.2.2.1]; exact hl.1) rfl hdg hfr (by show 2 * 0 + _ + 12 ≤ _; omega) (kk H locs ls hf hd hS hl)
end AWS
end
section
/-! Numbers and small loops, and the reference's state as one table: row 0 its ints, rows 1 to 6 its arrays
(1 here, 2 cell, 3 maps, 4 slotNumber, 5 slotStamp, 6 written). Booleans are kept as ints, 0 is false. -/
abbrev TS : Type := Nat → Nat → Int32
def bI (b : Bool) : Int32 := if b then nI 1 else nI 0
theorem bI_or (b : Bool) : bI b = nI 0 ∨ bI b = nI 1 := by cases b <;> simp [bI]
theorem bI_t : bI true = nI 1 := rfl
theorem bI_f : bI false = nI 0 := rfl
theorem bI_eq0 (b : Bool) : bI b = 0 ↔ b = false := by cases b <;> decide
def tb (x : Int32) : Bool := x != 0
theorem tb_bI (b : Bool) : tb (bI b) = b := by cases b <;> decide
theorem bI_tb {x : Int32} (h : x = nI 0 ∨ x = nI 1) : bI (tb x) = x := by rcases h with h | h <;> subst h <;> decide
def ts (τ : TS) (i j : Nat) (x : Int32) : TS := va_up τ i (upd (τ i) j x)
theorem ts_ne {τ : TS} {i j k : Nat} {x : Int32} (h : k ≠ i) : ts τ i j x k = τ k := va_up_ne _ _ h
theorem ts_row {τ : TS} {i j : Nat} {x : Int32} : ts τ i j x i = upd (τ i) j x := va_up_self _ _ _
theorem ts_at {τ : TS} {i j : Nat} {x : Int32} : ts τ i j x i j = x := by rw [ts_row]; simp [upd]
theorem ts_off {τ : TS} {i j k : Nat} {x : Int32} (h : k ≠ j) : ts τ i j x i k = τ i k := by rw [ts_row]; simp [upd, h]
theorem va_up_id {α : Type} (g : Nat → α) (j : Nat) : va_up g j (g j) = g := by
  funext k
  by_cases h : k = j
  · subst h; rw [va_up_self]
  · rw [va_up_ne _ _ h]
theorem va_up_up {α : Type} (g : Nat → α) (j : Nat) (x y : α) : va_up (va_up g j x) j y = va_up g j y := by
  funext k
  by_cases h : k = j
  · subst h; rw [va_up_self, va_up_self]
  · rw [va_up_ne _ _ h, va_up_ne _ _ h, va_up_ne _ _ h]
def orA (b : Bool) : Nat → (Nat → Bool) → Bool
  | 0, _ => b
  | n + 1, q => orA b n q || q n
theorem orA_0 (b : Bool) (q : Nat → Bool) : orA b 0 q = b := rfl
theorem orA_s (b : Bool) (n : Nat) (q : Nat → Bool) : orA b (n + 1) q = (orA b n q || q n) := rfl
def cntL : Nat → (Nat → Bool) → Nat
  | 0, _ => 0
  | n + 1, q => cntL n q + (if q n then 1 else 0)
theorem cntL_le : ∀ (n : Nat) (q : Nat → Bool), cntL n q ≤ n
  | 0, _ => Nat.le_refl _
  | n + 1, q => by
    have h := cntL_le n q
    show cntL n q + (if q n then 1 else 0) ≤ n + 1
    split <;> omega
theorem cntL_0 (q : Nat → Bool) : cntL 0 q = 0 := rfl
theorem cntL_s (n : Nat) (q : Nat → Bool) : cntL (n + 1) q = cntL n q + (if q n then 1 else 0) := rfl
theorem cntL_congr {n : Nat} {q r : Nat → Bool} (h : ∀ i, i < n → q i = r i) : cntL n q = cntL n r := by
  induction n with
  | zero => rfl
  | succ n ih => rw [cntL_s, cntL_s, ih (fun i hi => h i (by omega)), h n (by omega)]
theorem orA_iff (b : Bool) : ∀ (n : Nat) (q : Nat → Bool), orA b n q = true ↔ b = true ∨ ∃ i, i < n ∧ q i = true
  | 0, q => by simp [orA]
  | n + 1, q => by
    rw [orA_s, Bool.or_eq_true, orA_iff b n q]
    constructor
    · rintro ((h | ⟨i, hi, h⟩) | h)
      · exact Or.inl h
      · exact Or.inr ⟨i, by omega, h⟩
      · exact Or.inr ⟨n, by omega, h⟩
    · rintro (h | ⟨i, hi, h⟩)
      · exact Or.inl (Or.inl h)
      · by_cases e : i = n
        · subst e; exact Or.inr h
        · exact Or.inl (Or.inr ⟨i, by omega, h⟩)
/-- the least number under n with q, or n -/
def fsL (q : Nat → Bool) : Nat → Nat
  | 0 => 0
  | n + 1 => if fsL q n < n then fsL q n else if q n then n else n + 1
theorem fsL_le (q : Nat → Bool) : ∀ n, fsL q n ≤ n
  | 0 => Nat.le_refl _
  | n + 1 => by
    have h := fsL_le q n
    show (if fsL q n < n then fsL q n else if q n then n else n + 1) ≤ n + 1
    split
    · omega
    · split <;> omega
theorem fsL_miss {q : Nat → Bool} : ∀ {n : Nat}, (∀ j, j < n → q j = false) → fsL q n = n
  | 0, _ => rfl
  | n + 1, h => by
    show (if fsL q n < n then fsL q n else if q n then n else n + 1) = n + 1
    have hz := fsL_miss (q := q) (n := n) (fun j hj => h j (by omega))
    rw [hz, if_neg (by omega), if_neg (by rw [h n (by omega)]; decide)]
theorem fsL_hit {q : Nat → Bool} {k : Nat} (hk : q k = true) (hb : ∀ j, j < k → q j = false) : ∀ n, k < n → fsL q n = k
  | 0, h => absurd h (by omega)
  | n + 1, h => by
    show (if fsL q n < n then fsL q n else if q n then n else n + 1) = k
    by_cases hkn : k = n
    · subst hkn
      rw [fsL_miss hb, if_neg (by omega), if_pos hk]
    · rw [fsL_hit hk hb n (by omega), if_pos (by omega)]
theorem allf_s {q : Nat → Bool} {e : Nat} (h : ∀ j, j < e → q j = false) (he : q e = false) : ∀ j, j < e + 1 → q j = false := fun j hj => by
  by_cases e1 : j = e
  · subst e1; exact he
  · exact h j (by omega)
/-! walks: joins, loops, places told otherwise -/
def lvmask : List Bool → List (Option Value) → List (Option Value)
  | b :: bs, v :: vs => (if b then v else none) :: lvmask bs vs
  | _, _ => []
theorem lvmask_in : ∀ (m : List Bool) (lv : List (Option Value)) (j : Nat) (v : Value), (lvmask m lv)[j]? = some (some v) → lv[j]? = some (some v)
  | [], lv, j, v, h => by simp [lvmask] at h
  | b :: bs, [], j, v, h => by simp [lvmask] at h
  | b :: bs, x :: xs, 0, v, h => by
    unfold lvmask at h
    rw [List.getElem?_cons_zero] at h ⊢
    cases b with
    | true => exact h
    | false => simp at h
  | b :: bs, x :: xs, j + 1, v, h => by
    unfold lvmask at h
    rw [List.getElem?_cons_succ] at h ⊢
    exact lvmask_in bs xs j v h
section AWB
variable {p : Program} {l : Launch} {e : Env} {R : Room} {s : State} {m : MethodId} {args : Array Value} {below : List Frame} {meth : Method} {c : Code} {D : va_G} {cl : List vw_C} {A : Nat → Prop} {nL : Nat} {Q : State → Prop}
variable {f : Nat → Option va_E} {k n pc pc' : Nat} {lv : List (Option Value)} {st : List Value} {cc : ByteArray} {Ts : List Cond} {own : String} {tys : List (ClassId × FieldType)}
theorem AW.cut {f1 : Nat → Option va_E} {pc1 : Nat} {lv1 : List (Option Value)} {st1 : List Value} (h : AW p l e R s m args below meth c D cl A nL Q f1 k n pc1 lv1 st1) (kk : AW p l e R s m args below meth c D cl A nL Q f1 k n pc1 lv1 st1 → AW p l e R s m args below meth c D cl A nL Q f k n pc lv st) : AW p l e R s m args below meth c D cl A nL Q f k n pc lv st := kk h
theorem AW.cutP {P : Prop} {f1 : Nat → Option va_E} {pc1 : Nat} {lv1 : List (Option Value)} {st1 : List Value} (h : P → AW p l e R s m args below meth c D cl A nL Q f1 k n pc1 lv1 st1) (kk : (P → AW p l e R s m args below meth c D cl A nL Q f1 k n pc1 lv1 st1) → AW p l e R s m args below meth c D cl A nL Q f k n pc lv st) : AW p l e R s m args below meth c D cl A nL Q f k n pc lv st := kk h
theorem AW.mask (ms : List Bool) (kk : AW p l e R s m args below meth c D cl A nL Q f k n pc (lvmask ms lv) st) : AW p l e R s m args below meth c D cl A nL Q f k n pc lv st := fun H locs ls hf hd hS hl => kk H locs ls hf hd hS ⟨hl.1, hl.2.1, fun j v hj => hl.2.2 j v (lvmask_in ms lv j v hj)⟩
theorem AW.lvi (j : Nat) {x y : Int32} (hx : lv[j]? = some (some (.int x))) (h : y = x) (kk : AW p l e R s m args below meth c D cl A nL Q f k n pc (lv.set j (some (.int y))) st) : AW p l e R s m args below meth c D cl A nL Q f k n pc lv st := by
  subst h
  refine AW.to rfl ?_ rfl kk
  have hj : j < lv.length := (List.getElem?_eq_some_iff.mp hx).1
  refine List.ext_getElem? fun i => ?_
  rw [List.getElem?_set]
  by_cases e1 : j = i
  · subst e1
    rw [if_pos rfl, if_pos hj, hx]
  · rw [if_neg e1]
theorem AW.loop (N i0 : Nat) (F : Nat → Nat → Option va_E) (LV : Nat → List (Option Value)) (hi : i0 ≤ N) (hf : F i0 = f) (hlv : LV i0 = lv) (body : ∀ i, i ≤ N → (i < N → AW p l e R s m args below meth c D cl A nL Q (F (i + 1)) k n pc (LV (i + 1)) st) → AW p l e R s m args below meth c D cl A nL Q (F i) k n pc (LV i) st) : AW p l e R s m args below meth c D cl A nL Q f k n pc lv st := by
  subst hf
  subst hlv
  exact up_loop N (P := fun i => AW p l e R s m args below meth c D cl A nL Q (F i) k n pc (LV i) st) body i0 hi
theorem AW.loopG (N i0 : Nat) (F : Nat → Nat → Option va_E) (LV : Nat → List (Option Value)) (G : Nat → Prop) (hi : i0 ≤ N) (hG : G i0) (hf : F i0 = f) (hlv : LV i0 = lv) (body : ∀ i, i ≤ N → G i → (i < N → G (i + 1) → AW p l e R s m args below meth c D cl A nL Q (F (i + 1)) k n pc (LV (i + 1)) st) → AW p l e R s m args below meth c D cl A nL Q (F i) k n pc (LV i) st) : AW p l e R s m args below meth c D cl A nL Q f k n pc lv st := by
  subst hf
  subst hlv
  exact up_loop N (P := fun i => G i → AW p l e R s m args below meth c D cl A nL Q (F i) k n pc (LV i) st) (fun i hi ih hg => body i hi hg (fun hl hg' => ih hl hg')) i0 hi hG
theorem a_ifb_eq (hc : CallFix p m c cc nL s args Ts own) {b : Bool} {off : Int} {tgt : Nat} (hdg : decode cc pc = .ok (.ifCond .eq off, 3)) (ht : (pc : Int) + off = (tgt : Int)) (hp : pc + 3 = pc') (kt : b = false → AW p l e R s m args below meth c D cl A nL Q f k n tgt lv st) (kf : b = true → AW p l e R s m args below meth c D cl A nL Q f k n pc' lv st) : AW p l e R s m args below meth c D cl A nL Q f k n pc lv (.int (bI b) :: st) :=
  a_if_eq hc hdg ht hp (fun h => kt ((bI_eq0 b).mp h)) (fun h => kf (by cases b with | false => exact absurd ((bI_eq0 false).mpr rfl) h | true => rfl))
theorem a_ifb_ne (hc : CallFix p m c cc nL s args Ts own) {b : Bool} {off : Int} {tgt : Nat} (hdg : decode cc pc = .ok (.ifCond .ne off, 3)) (ht : (pc : Int) + off = (tgt : Int)) (hp : pc + 3 = pc') (kt : b = true → AW p l e R s m args below meth c D cl A nL Q f k n tgt lv st) (kf : b = false → AW p l e R s m args below meth c D cl A nL Q f k n pc' lv st) : AW p l e R s m args below meth c D cl A nL Q f k n pc lv (.int (bI b) :: st) :=
  a_if_ne hc hdg ht hp (fun h => kt (by cases b with | false => exact absurd ((bI_eq0 false).mpr rfl) h | true => rfl)) (fun h => kf ((bI_eq0 b).mp h))
theorem nI_eq0 {a : Nat} (ha : a < 2 ^ 31) : nI a = 0 ↔ a = 0 := by rw [← nI_0, nI_eq ha (by omega)]
theorem a_ifn_eq (hc : CallFix p m c cc nL s args Ts own) {a : Nat} {off : Int} {tgt : Nat} (hdg : decode cc pc = .ok (.ifCond .eq off, 3)) (ht : (pc : Int) + off = (tgt : Int)) (hp : pc + 3 = pc') (ha : a < 2 ^ 31) (kt : a = 0 → AW p l e R s m args below meth c D cl A nL Q f k n tgt lv st) (kf : 0 < a → AW p l e R s m args below meth c D cl A nL Q f k n pc' lv st) : AW p l e R s m args below meth c D cl A nL Q f k n pc lv (.int (nI a) :: st) :=
  a_if_eq hc hdg ht hp (fun h => kt ((nI_eq0 ha).mp h)) (fun h => kf (Nat.pos_of_ne_zero (fun q => h ((nI_eq0 ha).mpr q))))
theorem a_ifn_ne (hc : CallFix p m c cc nL s args Ts own) {a : Nat} {off : Int} {tgt : Nat} (hdg : decode cc pc = .ok (.ifCond .ne off, 3)) (ht : (pc : Int) + off = (tgt : Int)) (hp : pc + 3 = pc') (ha : a < 2 ^ 31) (kt : 0 < a → AW p l e R s m args below meth c D cl A nL Q f k n tgt lv st) (kf : a = 0 → AW p l e R s m args below meth c D cl A nL Q f k n pc' lv st) : AW p l e R s m args below meth c D cl A nL Q f k n pc lv (.int (nI a) :: st) :=
  a_if_ne hc hdg ht hp (fun h => kt (Nat.pos_of_ne_zero (fun q => h ((nI_eq0 ha).mpr q)))) (fun h => kf ((nI_eq0 ha).mp h))
theorem a_ifn_le (hc : CallFix p m c cc nL s args Ts own) {a : Nat} {off : Int} {tgt : Nat} (hdg : decode cc pc = .ok (.ifCond .le off, 3)) (ht : (pc : Int) + off = (tgt : Int)) (hp : pc + 3 = pc') (ha : a < 2 ^ 31) (kt : a = 0 → AW p l e R s m args below meth c D cl A nL Q f k n tgt lv st) (kf : 0 < a → AW p l e R s m args below meth c D cl A nL Q f k n pc' lv st) : AW p l e R s m args below meth c D cl A nL Q f k n pc lv (.int (nI a) :: st) :=
  a_if_le hc hdg ht hp (fun h => kt (by have := (nI_leI (b := 0) ha (by omega)).mp (by rw [nI_0]; exact h); omega)) (fun h => kf (Nat.pos_of_ne_zero (fun q => h (by rw [q, ← nI_0]; exact nI_le (Nat.le_refl _) (by omega)))))
theorem a_ifn_lt (hc : CallFix p m c cc nL s args Ts own) {a : Nat} {off : Int} {tgt : Nat} (hdg : decode cc pc = .ok (.ifCond .lt off, 3)) (ht : (pc : Int) + off = (tgt : Int)) (hp : pc + 3 = pc') (ha : a < 2 ^ 31) (kt : a < 0 → AW p l e R s m args below meth c D cl A nL Q f k n tgt lv st) (kf : 0 ≤ a → AW p l e R s m args below meth c D cl A nL Q f k n pc' lv st) : AW p l e R s m args below meth c D cl A nL Q f k n pc lv (.int (nI a) :: st) :=
  a_if_lt hc hdg ht hp (fun h => absurd h (nI_pos ha)) (fun _ => kf (Nat.zero_le _))
theorem a_ifn_ge (hc : CallFix p m c cc nL s args Ts own) {a : Nat} {off : Int} {tgt : Nat} (hdg : decode cc pc = .ok (.ifCond .ge off, 3)) (ht : (pc : Int) + off = (tgt : Int)) (hp : pc + 3 = pc') (ha : a < 2 ^ 31) (kt : 0 ≤ a → AW p l e R s m args below meth c D cl A nL Q f k n tgt lv st) (kf : a < 0 → AW p l e R s m args below meth c D cl A nL Q f k n pc' lv st) : AW p l e R s m args below meth c D cl A nL Q f k n pc lv (.int (nI a) :: st) :=
  a_if_ge hc hdg ht hp (fun _ => kt (Nat.zero_le _)) (fun h => absurd (nI_pos' ha) h)
theorem cat_all {av : List Value} (h : av.all (fun v => v.category == 1) = true) : ∀ v ∈ av, v.category = 1 := fun v hv => by simpa using List.all_eq_true.mp h v hv
/-- a call of an instance's method, its words out of WS -/
theorem a_cV {c0 : Cond} (hc : CallFix p m c cc nL s args (c0 :: WS) own) (hK : va_K D cl tys s) (hO : AO3 s) (hA : ∀ q : Nat, s.heap.size ≤ q → A q) {y : MethodName} {bytes : ByteArray} {maxL : Nat} {ret : Option FieldType} {rm : Room} {mc ms nA index ci b : Nat} {C : String} {r : vw_C} {fs As rest : List Value} {post : Option Value → (Nat → Option va_E) → Prop}
    (hM : CT l y (Cond.code y bytes maxL ret :: WS) rm D cl tys A f (.ref b :: As) post mc ms) (hml : (Cond.methodLink own index y ∈ WS ∧ Cond.code y bytes maxL ret ∈ WS ∧ Cond.initialized C ∈ WS) ∧ Cond.instanceMethod y ∈ WS ∧ Cond.selects C y y ∈ WS)
    (hd : y.cls = C ∧ y.cls ≠ "java/lang/invoke/MethodHandle" ∧ y.cls ≠ "java/lang/invoke/VarHandle" ∧ (parseMethodDescriptor y.desc).map (fun d => d.parameters.length) = some nA) (hrc : rm.cells = mc) (hrs : rm.slots = ms) (hR : rm.frames + 1 ≤ R.frames ∧ 8 + (maxL + 11) + rm.locals ≤ R.locals)
    (he : f b = some (.inr (ci, fs))) (hci : cl[ci]? = some r) (hC : r.1 = C) (hn : As.length = nA) (hst : st = As.reverse ++ .ref b :: rest) (hW : (rest.map fun v => v.category).sum ≤ 8) (hdg : decode cc pc = .ok (.invokevirtual index, 3)) (hp : pc + 3 = pc') (hf0 : k + mc ≤ R.cells ∧ n + ms ≤ R.slots)
    (kk : ∀ (v : Option Value) (f' : Nat → Option va_E), post v f' → AW p l e R s m args below meth c D cl A nL Q f' (k + mc) (n + ms) pc' lv (v.toList ++ rest)) : AW p l e R s m args below meth c D cl A nL Q f k n pc lv st := by
  have ok : ∀ {w : Cond}, w ∈ WS → w.before args s = true := fun h => hc.2.2.2.2 _ (List.mem_cons_of_mem _ h)
  refine a_callV hc hK hO hA hM ⟨callB_of nA hc.2.2.2.2 (ws_in hml.1.2.1) rfl hrc hrs ?_ (ok hml.1.1) hd.2 hR, ok hml.2.1, ok hml.2.2⟩ he hci hC hn hst hW hdg hp hf0 kk
  rw [hd.1]
  exact ok hml.1.2.2
end AWB
/-! the reference's world -/
def rk (k : Nat) : Room := { frames := k, cells := 0, slots := 0, locals := 40 * k }
def tw_f (ax : Nat → Nat) (n E : Nat) (τ : TS) : List Value := [.int (nI n), .int (nI E), .ref (ax 1), .ref (ax 2), .ref (ax 3), .ref (ax 4), .ref (ax 5), .ref (ax 6), .int (τ 0 2), .int (τ 0 3), .int (τ 0 4), .int (bI (tb (τ 0 5))), .int (τ 0 6), .int (bI (tb (τ 0 7))), .int (τ 0 8)]
def rowN : Nat → Nat
  | 2 => 320
  | 3 => 1088
  | 4 => 15
  | 5 => 15
  | _ => 5
def tw_c (ax : Nat → Nat) (ca : Nat → ClassId) (n E : Nat) (τ : TS) : Nat → va_E
  | 0 => .inr (6, tw_f ax n E τ)
  | 1 => .inl (ca 1, 5, .inl (fun d => bI (tb (τ 1 d))))
  | i + 2 => .inl (ca 0, rowN (i + 2), .inl (τ (i + 2)))
def tw (ax rl : Nat → Nat) (ca : Nat → ClassId) (n E : Nat) (τ : TS) : Nat → Option va_E := fun a => if rl a < 7 ∧ ax (rl a) = a then some (tw_c ax ca n E τ (rl a)) else none
def MX (ax rl : Nat → Nat) (ca : Nat → ClassId) (tys : List (ClassId × FieldType)) (n E : Nat) : Prop := (∀ i, i < 7 → rl (ax i) = i) ∧ tys[0]? = some (ca 0, .int) ∧ tys[1]? = some (ca 1, .boolean) ∧ (2 ≤ n ∧ n ≤ 5) ∧ 2 ≤ E ∧ E ≤ 10
section TWS
variable {ax rl : Nat → Nat} {ca : Nat → ClassId} {n E : Nat} {τ τ' : TS}
theorem tw_at (hx : ∀ i, i < 7 → rl (ax i) = i) {i : Nat} (hi : i < 7) : tw ax rl ca n E τ (ax i) = some (tw_c ax ca n E τ i) := by
  unfold tw
  rw [hx i hi, if_pos ⟨hi, rfl⟩]
theorem tw_up (hx : ∀ i, i < 7 → rl (ax i) = i) {i : Nat} (hi : i < 7) {x : va_E} (hs : tw_c ax ca n E τ' i = x) (ho : ∀ j, j ≠ i → tw_c ax ca n E τ' j = tw_c ax ca n E τ j) : tw ax rl ca n E τ' = va_up (tw ax rl ca n E τ) (ax i) (some x) := by
  funext a
  by_cases h : a = ax i
  · subst h
    rw [va_up_self, tw_at hx hi, hs]
  · rw [va_up_ne _ _ h]
    unfold tw
    by_cases h2 : rl a < 7 ∧ ax (rl a) = a
    · rw [if_pos h2, if_pos h2, ho _ (fun q => h (by rw [← h2.2, q]))]
    · rw [if_neg h2, if_neg h2]
theorem tw_c_off {i j a : Nat} {x : Int32} (h : j ≠ i) : tw_c ax ca n E (ts τ i a x) j = tw_c ax ca n E τ j := by
  match j, h with
  | 0, h => simp only [tw_c, tw_f, ts_ne h]
  | 1, h => simp only [tw_c, ts_ne h]
  | j + 2, h => simp only [tw_c, ts_ne h]
end TWS
end
section
/-! Rows of a walk over the reference's world, and what a contract of the reference is. -/
def MC (l : Launch) (y : MethodName) (bytes : ByteArray) (maxL : Nat) (ret : Option FieldType) (k : Nat) (D : va_G) (tys : List (ClassId × FieldType)) (A : Nat → Prop) (ax rl : Nat → Nat) (ca : Nat → ClassId) (n E : Nat) (τ : TS) (As : List Value) (v : Option Value) (τ1 : TS) : Prop :=
  CT l y (Cond.code y bytes maxL ret :: WS) (rk k) D vcl tys A (tw ax rl ca n E τ) (.ref (ax 0) :: As) (fun v' f' => v' = v ∧ f' = tw ax rl ca n E τ1) 0 0
section RWS
variable {p : Program} {l : Launch} {e : Env} {R : Room} {s : State} {m : MethodId} {args : Array Value} {below : List Frame} {meth : Method} {c : Code} {D : va_G} {A : Nat → Prop} {nL : Nat} {Q : State → Prop}
variable {k nn pc pc' : Nat} {lv : List (Option Value)} {st : List Value} {cc : ByteArray} {c0 : Cond} {tys : List (ClassId × FieldType)} {ax rl : Nat → Nat} {ca : Nat → ClassId} {n E : Nat} {τ τ' : TS}
theorem r_get (hc : CallFix p m c cc nL s args (c0 :: WS) R_M) (hK : va_K D vcl tys s) (hx : MX ax rl ca tys n E) {index : Nat} (j : Nat) {v : Value} (hj : j < 15) (hv : (tw_f ax n E τ)[j]? = some v) (hlink : Cond.fieldLink R_M index (T_M j).1 (T_M j).2.1 (T_M j).2.2.1 ∈ WS) (hdg : decode cc pc = .ok (.getfield index, 3)) (hp : pc + 3 = pc') (kk : AW p l e R s m args below meth c D vcl A nL Q (tw ax rl ca n E τ) k nn pc' lv (v :: st)) : AW p l e R s m args below meth c D vcl A nL Q (tw ax rl ca n E τ) k nn pc lv (.ref (ax 0) :: st) :=
  a_get hc hK (C := R_M) (T := T_M) (N := 15) (ci := 6) (fun w h => List.mem_cons_of_mem _ (in_M w h)) (tw_at hx.1 (by decide)) rfl j hj (hc.2.2.2.2 _ (List.mem_cons_of_mem _ hlink)) rfl hv hdg hp kk
theorem r_put (hc : CallFix p m c cc nL s args (c0 :: WS) R_M) (hK : va_K D vcl tys s) (hx : MX ax rl ca tys n E) {index : Nat} (j : Nat) {x : Int32} (hj : j = 8 ∨ j = 9 ∨ j = 10 ∨ j = 12 ∨ j = 14) (hlink : Cond.fieldLink R_M index (T_M j).1 (T_M j).2.1 (T_M j).2.2.1 ∈ WS) (hdg : decode cc pc = .ok (.putfield index, 3)) (hp : pc + 3 = pc') (kk : AW p l e R s m args below meth c D vcl A nL Q (tw ax rl ca n E (ts τ 0 (j - 6) x)) k nn pc' lv st) : AW p l e R s m args below meth c D vcl A nL Q (tw ax rl ca n E τ) k nn pc lv (.int x :: .ref (ax 0) :: st) := by
  rcases hj with rfl | rfl | rfl | rfl | rfl
  all_goals
    refine a_put hc hK (C := R_M) (T := T_M) (N := 15) (ci := 6) (fun w h => List.mem_cons_of_mem _ (in_M w h)) ty_M ty_M_ok nm_M (tw_at hx.1 (by decide)) rfl _ (by decide) (hc.2.2.2.2 _ (List.mem_cons_of_mem _ hlink)) rfl (Or.inl rfl) rfl rfl (Nat.le_of_ble_eq_true rfl) hdg hp (AW.to ?_ rfl rfl kk)
    exact tw_up hx.1 (by decide) rfl (fun j hj => tw_c_off hj)
theorem r_putz (hc : CallFix p m c cc nL s args (c0 :: WS) R_M) (hK : va_K D vcl tys s) (hx : MX ax rl ca tys n E) {index : Nat} (j : Nat) {x : Int32} (hb : x = nI 0 ∨ x = nI 1) (hj : j = 11 ∨ j = 13) (hlink : Cond.fieldLink R_M index (T_M j).1 (T_M j).2.1 (T_M j).2.2.1 ∈ WS) (hdg : decode cc pc = .ok (.putfield index, 3)) (hp : pc + 3 = pc') (kk : AW p l e R s m args below meth c D vcl A nL Q (tw ax rl ca n E (ts τ 0 (j - 6) x)) k nn pc' lv st) : AW p l e R s m args below meth c D vcl A nL Q (tw ax rl ca n E τ) k nn pc lv (.int x :: .ref (ax 0) :: st) := by
  rcases hj with rfl | rfl
  all_goals
    refine a_put hc hK (C := R_M) (T := T_M) (N := 15) (ci := 6) (fun w h => List.mem_cons_of_mem _ (in_M w h)) ty_M ty_M_ok nm_M (tw_at hx.1 (by decide)) rfl _ (by decide) (hc.2.2.2.2 _ (List.mem_cons_of_mem _ hlink)) rfl (Or.inl rfl) (by rcases hb with h | h <;> subst h <;> decide) (by rcases hb with h | h <;> subst h <;> decide) (Nat.le_of_ble_eq_true rfl) hdg hp (AW.to ?_ rfl rfl kk)
    refine tw_up hx.1 (by decide) ?_ (fun j hj => tw_c_off hj)
    rcases hb with h | h <;> subst h <;> rfl
theorem tw_row {i : Nat} (hi : 2 ≤ i) : tw_c ax ca n E τ i = .inl (ca 0, rowN i, .inl (τ i)) := by
  match i, hi with
  | i + 2, _ => rfl
theorem r_iald (hc : CallFix p m c cc nL s args (c0 :: WS) R_M) (hK : va_K D vcl tys s) (hx : MX ax rl ca tys n E) (i x : Nat) {N : Nat} (hi : 2 ≤ i ∧ i < 7) (hN : rowN i = N) (hlt : x < N) (hdg : decode cc pc = .ok (.iaload, 1)) (hp : pc + 1 = pc') (kk : AW p l e R s m args below meth c D vcl A nL Q (tw ax rl ca n E τ) k nn pc' lv (.int (τ i x) :: st)) : AW p l e R s m args below meth c D vcl A nL Q (tw ax rl ca n E τ) k nn pc lv (.int (nI x) :: .ref (ax i) :: st) := by
  have hN2 : N < 2 ^ 31 := by subst hN; unfold rowN; split <;> decide
  refine a_iald hc hK (N := N) (g := τ i) 0 ((tw_at hx.1 hi.2).trans (by rw [tw_row hi.1, hN])) hx.2.1 (vp_in_nI hlt hN2) hdg hp ?_
  rw [nI_clamp (by omega)]
  exact kk
theorem r_iast (hc : CallFix p m c cc nL s args (c0 :: WS) R_M) (hK : va_K D vcl tys s) (hx : MX ax rl ca tys n E) (i x : Nat) {N : Nat} {v : Int32} (hi : 2 ≤ i ∧ i < 7) (hN : rowN i = N) (hlt : x < N) (hdg : decode cc pc = .ok (.iastore, 1)) (hp : pc + 1 = pc') (kk : AW p l e R s m args below meth c D vcl A nL Q (tw ax rl ca n E (ts τ i x v)) k nn pc' lv st) : AW p l e R s m args below meth c D vcl A nL Q (tw ax rl ca n E τ) k nn pc lv (.int v :: .int (nI x) :: .ref (ax i) :: st) := by
  have hN2 : N < 2 ^ 31 := by subst hN; unfold rowN; split <;> decide
  refine a_iast hc hK (N := N) (g := τ i) 0 ((tw_at hx.1 hi.2).trans (by rw [tw_row hi.1, hN])) hx.2.1 (vp_in_nI hlt hN2) hdg hp ?_
  rw [nI_clamp (by omega)]
  refine AW.to ?_ rfl rfl kk
  exact tw_up hx.1 hi.2 (by rw [tw_row hi.1, hN, ts_row]) (fun j hj => tw_c_off hj)
theorem r_zald (hc : CallFix p m c cc nL s args (c0 :: WS) R_M) (hK : va_K D vcl tys s) (hx : MX ax rl ca tys n E) (x : Nat) (hlt : x < 5) (hdg : decode cc pc = .ok (.baload, 1)) (hp : pc + 1 = pc') (kk : AW p l e R s m args below meth c D vcl A nL Q (tw ax rl ca n E τ) k nn pc' lv (.int (bI (tb (τ 1 x))) :: st)) : AW p l e R s m args below meth c D vcl A nL Q (tw ax rl ca n E τ) k nn pc lv (.int (nI x) :: .ref (ax 1) :: st) := by
  refine a_zald hc hK (N := 5) (g := fun d => bI (tb (τ 1 d))) 1 (tw_at hx.1 (by decide)) hx.2.2.1 (vp_in_nI hlt (by decide)) hdg hp ?_
  rw [nI_clamp (by omega)]
  exact kk
theorem r_zast (hc : CallFix p m c cc nL s args (c0 :: WS) R_M) (hK : va_K D vcl tys s) (hx : MX ax rl ca tys n E) (x : Nat) {v : Int32} (hb : v = nI 0 ∨ v = nI 1) (hlt : x < 5) (hdg : decode cc pc = .ok (.bastore, 1)) (hp : pc + 1 = pc') (kk : AW p l e R s m args below meth c D vcl A nL Q (tw ax rl ca n E (ts τ 1 x v)) k nn pc' lv st) : AW p l e R s m args below meth c D vcl A nL Q (tw ax rl ca n E τ) k nn pc lv (.int v :: .int (nI x) :: .ref (ax 1) :: st) := by
  refine a_zast hc hK (N := 5) (g := fun d => bI (tb (τ 1 d))) 1 (tw_at hx.1 (by decide)) hx.2.2.1 hb (vp_in_nI hlt (by decide)) hdg hp ?_
  rw [nI_clamp (by omega)]
  refine AW.to ?_ rfl rfl kk
  refine tw_up hx.1 (by decide) ?_ (fun j hj => tw_c_off hj)
  have h1 : (fun d => bI (tb (ts τ 1 x v 1 d))) = upd (fun d => bI (tb (τ 1 d))) x v := by
    funext d
    by_cases hd : d = x
    · subst hd
      rw [ts_at, bI_tb hb]
      simp [upd]
    · rw [ts_off hd]
      simp [upd, hd]
  show (Sum.inl (ca 1, 5, .inl (fun d => bI (tb (ts τ 1 x v 1 d)))) : va_E) = _
  rw [h1]
theorem AW.tw {τ1 : TS} (h : τ1 = τ) (kk : AW p l e R s m args below meth c D vcl A nL Q (tw ax rl ca n E τ1) k nn pc lv st) : AW p l e R s m args below meth c D vcl A nL Q (tw ax rl ca n E τ) k nn pc lv st := by
  subst h
  exact kk
theorem r_calli (hc : CallFix p m c cc nL s args (c0 :: WS) R_M) (hK : va_K D vcl tys s) (hO : AO3 s) (hA : ∀ q : Nat, s.heap.size ≤ q → A q) (hx : MX ax rl ca tys n E) {y : MethodName} {bytes : ByteArray} {maxL : Nat} {ret : Option FieldType} {k1 kR nA index : Nat} (As rest : List Value) {x : Int32} {τ1 : TS}
    (hM : MC l y bytes maxL ret k1 D tys A ax rl ca n E τ As (some (.int x)) τ1) (hml : (Cond.methodLink R_M index y ∈ WS ∧ Cond.code y bytes maxL ret ∈ WS ∧ Cond.initialized R_M ∈ WS) ∧ Cond.instanceMethod y ∈ WS ∧ Cond.selects R_M y y ∈ WS)
    (hd : y.cls = R_M ∧ y.cls ≠ "java/lang/invoke/MethodHandle" ∧ y.cls ≠ "java/lang/invoke/VarHandle" ∧ (parseMethodDescriptor y.desc).map (fun d => d.parameters.length) = some nA) (hR : k1 + 1 ≤ kR ∧ maxL ≤ 21) (hn : As.length = nA) (hst : st = As.reverse ++ .ref (ax 0) :: rest) (hW : (rest.map fun v => v.category).sum ≤ 8) (hdg : decode cc pc = .ok (.invokevirtual index, 3)) (hp : pc + 3 = pc')
    (kk : AW p l e (rk kR) s m args below meth c D vcl A nL Q (tw ax rl ca n E τ1) 0 0 pc' lv (.int x :: rest)) : AW p l e (rk kR) s m args below meth c D vcl A nL Q (tw ax rl ca n E τ) 0 0 pc lv st :=
  a_cV hc hK hO hA hM hml hd rfl rfl ⟨hR.1, by show 8 + (maxL + 11) + 40 * k1 ≤ 40 * kR; omega⟩ (tw_at hx.1 (by decide)) rfl rfl hn hst hW hdg hp ⟨Nat.le_refl _, Nat.le_refl _⟩ (fun v f' h => by obtain ⟨rfl, rfl⟩ := h; exact kk)
theorem r_callv (hc : CallFix p m c cc nL s args (c0 :: WS) R_M) (hK : va_K D vcl tys s) (hO : AO3 s) (hA : ∀ q : Nat, s.heap.size ≤ q → A q) (hx : MX ax rl ca tys n E) {y : MethodName} {bytes : ByteArray} {maxL : Nat} {ret : Option FieldType} {k1 kR nA index : Nat} (As rest : List Value) {τ1 : TS}
    (hM : MC l y bytes maxL ret k1 D tys A ax rl ca n E τ As none τ1) (hml : (Cond.methodLink R_M index y ∈ WS ∧ Cond.code y bytes maxL ret ∈ WS ∧ Cond.initialized R_M ∈ WS) ∧ Cond.instanceMethod y ∈ WS ∧ Cond.selects R_M y y ∈ WS)
    (hd : y.cls = R_M ∧ y.cls ≠ "java/lang/invoke/MethodHandle" ∧ y.cls ≠ "java/lang/invoke/VarHandle" ∧ (parseMethodDescriptor y.desc).map (fun d => d.parameters.length) = some nA) (hR : k1 + 1 ≤ kR ∧ maxL ≤ 21) (hn : As.length = nA) (hst : st = As.reverse ++ .ref (ax 0) :: rest) (hW : (rest.map fun v => v.category).sum ≤ 8) (hdg : decode cc pc = .ok (.invokevirtual index, 3)) (hp : pc + 3 = pc')
    (kk : AW p l e (rk kR) s m args below meth c D vcl A nL Q (tw ax rl ca n E τ1) 0 0 pc' lv rest) : AW p l e (rk kR) s m args below meth c D vcl A nL Q (tw ax rl ca n E τ) 0 0 pc lv st :=
  a_cV hc hK hO hA hM hml hd rfl rfl ⟨hR.1, by show 8 + (maxL + 11) + 40 * k1 ≤ 40 * kR; omega⟩ (tw_at hx.1 (by decide)) rfl rfl hn hst hW hdg hp ⟨Nat.le_refl _, Nat.le_refl _⟩ (fun v f' h => by obtain ⟨rfl, rfl⟩ := h; exact kk)
theorem m_i {x X : Int32} {τ1 : TS} (h1 : x = X) (h2 : τ = τ1) : some (Value.int x) = some (Value.int X) ∧ tw ax rl ca n E τ = tw ax rl ca n E τ1 := by
  subst h1
  subst h2
  exact ⟨rfl, rfl⟩
theorem m_v {τ1 : TS} (h2 : τ = τ1) : (none : Option Value) = none ∧ tw ax rl ca n E τ = tw ax rl ca n E τ1 := by
  subst h2
  exact ⟨rfl, rfl⟩
theorem MC.of {y : MethodName} {maxL : Nat} {ret : Option FieldType} {As : List Value} {v : Option Value} {τ1 : TS} (ho : y.cls = R_M) (hlen : (lg_sl (.ref (ax 0) :: As)).length ≤ maxL) (hcat : ∀ v ∈ (Value.ref (ax 0) :: As), v.category = 1)
    (body : ∀ (p : Program) (e : Env) (s : State) (m : MethodId) (args : Array Value) (below : List Frame) (meth : Method) (c : Code), CallFix p m c cc maxL s args (Cond.code y cc maxL ret :: WS) R_M → va_K D vcl tys s → AO3 s → meth.sig.returnType = ret → meth.locks = false → (∀ q : Nat, s.heap.size ≤ q → A q) →
      AW p l e (rk k) s m args below meth c D vcl A maxL (MQ below (CQ D vcl A (fun v' f' => v' = v ∧ f' = tw ax rl ca n E τ1)) args s 0 0 A) (tw ax rl ca n E τ) 0 0 0 (al_in (.ref (ax 0) :: As) maxL) []) : MC l y cc maxL ret k D tys A ax rl ca n E τ As v τ1 :=
  CT.ofAW (by rw [ho]; decide) rfl hlen hcat (fun p e s m args below meth c hc hK hO hr hk _ hA => body p e s m args below meth c (by rw [ho] at hc; exact hc) hK hO hr hk hA)
end RWS
end
section
/-! What the reference's small methods answer, told over the table. -/
abbrev gt (τ : TS) (mp i : Nat) : Int32 := τ 3 (64 * mp + i)
def gN (τ : TS) (mp i : Nat) : Nat := (gt τ mp i).toNatClampNeg
theorem nat_lt (x : Int32) : x.toNatClampNeg < 2 ^ 31 := by
  rcases pk_ix x (n := 2 ^ 31 - 1) (by decide) with h | h | ⟨j, hj, rfl⟩
  · have : x.toInt < 0 := by simpa using Int32.lt_iff_toInt_lt.mp h
    have h2 : x.toNatClampNeg = x.toInt.toNat := rfl
    rw [h2]
    omega
  · have h1 := Int32.le_iff_toInt_le.mp h
    have h2 : x.toNatClampNeg = x.toInt.toNat := rfl
    have h3 := Int32.toInt_lt x
    rw [h2]
    omega
  · rw [nI_clamp (by omega)]
    omega
theorem nat_eq {x : Int32} (h : ¬ x < 0) : x = nI x.toNatClampNeg := by
  obtain ⟨j, hj, rfl⟩ := nI_of h
  rw [nI_clamp hj]
def WFm (τ : TS) (mp : Nat) : Prop := (∀ i, i < 64 → i ≠ 60 → ¬ gt τ mp i < 0) ∧ ∀ v, v < 4 → gN τ mp (15 * v) ≤ 4 ∧ gN τ mp (15 * v) * gN τ mp (15 * v + 2) ≤ 12
def exN (τ : TS) (mp v : Nat) : Nat := gN τ mp (15 * v) * gN τ mp (15 * v + 2)
theorem WFm.n {τ : TS} {mp i : Nat} (h : WFm τ mp) (hi : i < 64) (h0 : i ≠ 60) : gt τ mp i = nI (gN τ mp i) := nat_eq (h.1 i hi h0)
theorem WFm.ex {τ : TS} {mp v : Nat} (h : WFm τ mp) (hv : v < 4) : exN τ mp v ≤ 12 := (h.2 v hv).2
theorem gN_lt (τ : TS) (mp i : Nat) : gN τ mp i < 2 ^ 31 := nat_lt _
def cpT (τ : TS) (a b i : Nat) : TS := va_up τ 3 (fun j => if 64 * b ≤ j ∧ j < 64 * b + i then τ 3 (64 * a + (j - 64 * b)) else τ 3 j)
theorem cpT_0 (τ : TS) (a b : Nat) : cpT τ a b 0 = τ := by
  have h : (fun j => if 64 * b ≤ j ∧ j < 64 * b + 0 then τ 3 (64 * a + (j - 64 * b)) else τ 3 j) = τ 3 := by
    funext j
    rw [if_neg (by omega)]
  unfold cpT
  rw [h, va_up_id]
theorem cpT_s {τ : TS} {a b i : Nat} (hi : i < 64) : cpT τ a b (i + 1) = ts (cpT τ a b i) 3 (64 * b + i) (cpT τ a b i 3 (64 * a + i)) := by
  unfold ts cpT
  rw [va_up_self, va_up_up]
  congr 1
  funext j
  by_cases h : j = 64 * b + i
  · subst h
    rw [pk_us, if_pos (by omega), if_neg (by omega)]
    congr 1
    omega
  · rw [pk_un h]
    by_cases h2 : 64 * b ≤ j ∧ j < 64 * b + i
    · rw [if_pos h2, if_pos (by omega)]
    · rw [if_neg h2, if_neg (by omega)]
def qU (τ : TS) (mp id v k : Nat) : Bool := decide (gt τ mp (15 * v + 3 + k) = nI id)
def uL (τ : TS) (mp id : Nat) : Nat → Bool
  | 0 => !decide (gt τ mp 60 < 0) && decide (gt τ mp 62 = nI id)
  | v + 1 => orA (uL τ mp id v) (exN τ mp v) (qU τ mp id v)
abbrev usedB (τ : TS) (mp id : Nat) : Bool := uL τ mp id 4
def qF (τ : TS) (mp d e : Nat) : Bool := !usedB τ mp (16 * d + e)
def frN (τ : TS) (E mp d : Nat) : Nat := cntL E (qF τ mp d)
theorem frN_le (τ : TS) (E mp d : Nat) : frN τ E mp d ≤ E := cntL_le _ _
def lfI (τ : TS) (E mp d : Nat) : Int32 := if fsL (qF τ mp d) E < E then nI (16 * d + fsL (qF τ mp d) E) else -1
theorem lfI_hit {τ : TS} {E mp d e : Nat} (h : ∀ j, j < e → qF τ mp d j = false) (he : qF τ mp d e = true) (hE : e < E) : nI (16 * d + e) = lfI τ E mp d := by
  unfold lfI
  rw [fsL_hit he h E hE, if_pos hE]
theorem lfI_miss {τ : TS} {E mp d : Nat} (h : ∀ j, j < E → qF τ mp d j = false) : -1 = lfI τ E mp d := by
  unfold lfI
  rw [fsL_miss h, if_neg (Nat.lt_irrefl _)]
def frH (τ : TS) (E x : Nat) : Nat := if tb (τ 1 x) then frN τ E 16 x else 0
def qB (τ : TS) (E d x : Nat) : Bool := decide (¬ x = d) && (decide (frN τ E 16 d < frH τ E x) || (decide (frH τ E x = frN τ E 16 d) && decide (x < d)))
def qH (τ : TS) (d : Nat) : Bool := tb (τ 1 d)
def quB (n k : Nat) : Bool := decide (n < 2 * k)
def fewB (τ : TS) (n : Nat) : Bool := !quB n (cntL n (qH τ))
def volB (τ : TS) (v : Int32) : Bool := !decide (v < 0) && (!decide (nI 4 ≤ v) && !decide (gt τ 15 (15 * v.toNatClampNeg + 2) ≤ 0))
theorem ix_of {v : Int32} {N : Nat} (hN : N < 2 ^ 31) (h0 : ¬ v < 0) (h4 : ¬ nI N ≤ v) : ∃ j : Nat, j < N ∧ v = nI j ∧ v.toNatClampNeg = j := by
  rcases pk_ix v hN with h | h | ⟨j, hj, rfl⟩
  · exact absurd h h0
  · exact absurd h h4
  · exact ⟨j, hj, rfl, nI_clamp (by omega)⟩
theorem volB_t {τ : TS} {v : Int32} (h : volB τ v = true) : ∃ j : Nat, j < 4 ∧ v = nI j ∧ v.toNatClampNeg = j ∧ ¬ gt τ 15 (15 * j + 2) ≤ 0 := by
  simp only [volB, Bool.and_eq_true, Bool.not_eq_true', decide_eq_false_iff_not] at h
  obtain ⟨j, hj, h1, h2⟩ := ix_of (by decide) h.1 h.2.1
  rw [h2] at h
  exact ⟨j, hj, h1, h2, h.2.2⟩
def mvB (τ : TS) (v : Int32) : Bool := decide (gt τ 15 60 = v)
def dkB (n : Nat) (d : Int32) : Bool := !decide (d < 0) && !decide (nI n ≤ d)
theorem dkB_t {n : Nat} {d : Int32} (hn : n < 2 ^ 31) (h : dkB n d = true) : ∃ j : Nat, j < n ∧ d = nI j ∧ d.toNatClampNeg = j := by
  simp only [dkB, Bool.and_eq_true, Bool.not_eq_true', decide_eq_false_iff_not] at h
  exact ix_of hn h.1 h.2
def exB (τ : TS) (v k : Int32) : Bool := volB τ v && (!decide (k < 0) && !decide (nI (exN τ 15 v.toNatClampNeg) ≤ k))
def stB (τ : TS) : Bool := tb (τ 0 7) && decide (τ 0 8 = 0)
def stT (τ : TS) : TS := if stB τ then ts (ts (ts τ 0 8 (τ 0 8 - nI 1)) 0 7 (nI 0)) 0 5 (nI 0) else ts τ 0 8 (τ 0 8 - nI 1)
def wrN (τ : TS) (d : Nat) : Nat := (τ 6 d).toNatClampNeg
def nxN (τ : TS) (d : Nat) : Nat := 3 * d + wrN τ d % 3
def sbL (τ : TS) (d : Nat) : Nat → Nat
  | 0 => nxN τ d
  | j + 1 => if τ 4 (3 * d + j) = τ 0 2 ∧ τ 5 (3 * d + j) = τ 0 3 then 3 * d + (j + 1) % 3 else sbL τ d j
theorem sbL_b (τ : TS) (d : Nat) : ∀ j, 3 * d ≤ sbL τ d j ∧ sbL τ d j < 3 * d + 3
  | 0 => by
    show 3 * d ≤ nxN τ d ∧ nxN τ d < 3 * d + 3
    unfold nxN
    omega
  | j + 1 => by
    have h := sbL_b τ d j
    unfold sbL
    split <;> omega
def wc1 (τ : TS) (k mp : Nat) : TS := cpT (ts (stT τ) 6 (k / 3) ((stT τ) 6 (k / 3) + nI 1)) mp k 64
def wcT (τ : TS) (k mp : Nat) (num mark : Int32) : TS := if stB τ then ts (ts (wc1 τ k mp) 4 k (-11)) 5 k (nI 0) else ts (ts (wc1 τ k mp) 4 k num) 5 k mark
theorem stT_row {τ : TS} {i : Nat} (h : i ≠ 0) : stT τ i = τ i := by
  unfold stT
  split
  · rw [ts_ne h, ts_ne h, ts_ne h]
  · rw [ts_ne h]
theorem cpT_row {τ : TS} {a b i j : Nat} (h : j ≠ 3) : cpT τ a b i j = τ j := va_up_ne _ _ h
theorem wc1_6 {τ : TS} {k mp d : Nat} (h : d ≠ k / 3) : wc1 τ k mp 6 d = τ 6 d := by
  unfold wc1
  rw [cpT_row (by decide), ts_off h, stT_row (by decide)]
theorem wcT_6 {τ : TS} {k mp d : Nat} {num mark : Int32} (h : d ≠ k / 3) : wcT τ k mp num mark 6 d = τ 6 d := by
  unfold wcT
  split <;> rw [ts_ne (by decide), ts_ne (by decide), wc1_6 h]
def cmT (τ : TS) : Nat → TS
  | 0 => ts τ 0 4 (τ 0 4 + nI 1)
  | d + 1 => if tb (cmT τ d 1 d) then wcT (cmT τ d) (sbL (cmT τ d) d 3) 16 (cmT τ d 0 2 + nI 1) (τ 0 4 + nI 1) else cmT τ d
theorem cmT_6 (τ : TS) : ∀ d j, d ≤ j → cmT τ d 6 j = τ 6 j
  | 0, j, _ => by
    show ts τ 0 4 _ 6 j = _
    rw [ts_ne (by decide)]
  | d + 1, j, h => by
    have hb := sbL_b (cmT τ d) d 3
    unfold cmT
    split
    · rw [wcT_6 (by omega), cmT_6 τ d j (by omega)]
    · exact cmT_6 τ d j (by omega)
def qC (τ : TS) (d : Nat) : Bool := tb (cmT τ d 1 d) && stB (cmT τ d)
def cmB (τ : TS) (n : Nat) : Bool := !decide (fsL (qC τ) n < n)
def cmW (τ : TS) (n : Nat) : TS := if fsL (qC τ) n < n then cmT τ (fsL (qC τ) n + 1) else cpT (ts (ts (cmT τ n) 0 2 ((cmT τ n) 0 2 + nI 1)) 0 3 (τ 0 4 + nI 1)) 16 15 64
theorem cm_stop {τ : TS} {n d : Nat} (hG : ∀ j, j < d → qC τ j = false) (hd : d < n) (h1 : tb (cmT τ d 1 d) = true) (h2 : (!stB (cmT τ d)) = false) : cmB τ n = false ∧ cmW τ n = wcT (cmT τ d) (sbL (cmT τ d) d 3) 16 (cmT τ d 0 2 + nI 1) (τ 0 4 + nI 1) := by
  have hq : qC τ d = true := by
    unfold qC
    rw [h1]
    simpa using h2
  unfold cmB cmW
  rw [fsL_hit hq hG n hd, if_pos hd]
  refine ⟨by simp [hd], ?_⟩
  show (if tb (cmT τ d 1 d) then _ else _) = _
  rw [h1, if_pos rfl]
theorem cm_done {τ : TS} {n : Nat} (hG : ∀ j, j < n → qC τ j = false) : cmB τ n = true ∧ cmW τ n = cpT (ts (ts (cmT τ n) 0 2 ((cmT τ n) 0 2 + nI 1)) 0 3 (τ 0 4 + nI 1)) 16 15 64 := by
  unfold cmB cmW
  rw [fsL_miss hG, if_neg (Nat.lt_irrefl _)]
  exact ⟨by simp, rfl⟩
def caN (id c : Nat) : Nat := 64 * (id / 16) + 4 * (id % 16) + c
def eoN (w s b : Nat) : Nat := w * (b / (4 * w)) + b % (4 * w) / s % w
def coN (w s b : Nat) : Nat := b % (4 * w) / s / w * s + b % (4 * w) % s
def blB (τ : TS) (v b : Int32) : Bool := volB τ v && (!decide (b < 0) && !decide (nI (4 * exN τ 15 v.toNatClampNeg) ≤ b))
def qO (τ : TS) (d : Nat) (num mark : Int32) (j : Nat) : Bool := decide (τ 4 (3 * d + j) = num) && decide (τ 5 (3 * d + j) = mark)
def hoB (τ : TS) (d : Nat) (num mark : Int32) : Bool := orA false 3 (qO τ d num mark)
def qN (τ : TS) (k d : Nat) : Bool := tb (τ 1 d) && hoB τ d (τ 4 k) (τ 5 k)
def mayB (τ : TS) (n k : Nat) : Bool := tb (τ 1 (k / 3)) && (!decide (τ 4 k ≤ 0) && quB n (cntL n (qN τ k)))
def chL (τ : TS) (n : Nat) : Nat → Option Nat
  | 0 => none
  | k + 1 => if mayB τ n k then (match chL τ n k with
    | none => some k
    | some b => if τ 4 k ≤ τ 4 b then some b else some k) else chL τ n k
def chI : Option Nat → Int32
  | none => -1
  | some k => nI k
theorem chL_lt (τ : TS) (n : Nat) : ∀ k b, chL τ n k = some b → b < k
  | 0, b, h => by simp [chL] at h
  | k + 1, b, h => by
    unfold chL at h
    split at h
    · split at h
      · cases h; omega
      · split at h
        · cases h
          have := chL_lt τ n k _ (by assumption)
          omega
        · cases h; omega
    · have := chL_lt τ n k b h
      omega
theorem chI_some {o : Option Nat} (h : ¬ chI o < 0) : ∃ b, o = some b := by
  cases o with
  | none => exact absurd (by decide) h
  | some b => exact ⟨b, rfl⟩
theorem chI_none {o : Option Nat} (ho : ∀ b, o = some b → b < 2 ^ 31) (h : chI o < 0) : o = none := by
  cases o with
  | none => rfl
  | some b => exact absurd h (nI_pos (ho b rfl))
def seT (τ : TS) (num : Int32) (d : Nat) : Nat → TS
  | 0 => τ
  | j + 1 => if seT τ num d j 4 (3 * d + j) ≤ num then seT τ num d j else ts (ts (stT (seT τ num d j)) 4 (3 * d + j) (nI 0)) 5 (3 * d + j) (nI 0)
def qS (τ : TS) (num : Int32) (d j : Nat) : Bool := !decide (seT τ num d j 4 (3 * d + j) ≤ num) && stB (seT τ num d j)
theorem seT_6 (τ : TS) (num : Int32) (d : Nat) : ∀ j, seT τ num d j 6 = τ 6
  | 0 => rfl
  | j + 1 => by
    unfold seT
    split
    · exact seT_6 τ num d j
    · rw [ts_ne (by decide), ts_ne (by decide), stT_row (by decide), seT_6 τ num d j]
def slP (τ : TS) (d : Nat) (num mark : Int32) : Bool × TS := if fsL (qS τ num d) 3 < 3 then (false, stT (seT τ num d (fsL (qS τ num d) 3))) else if hoB (seT τ num d 3) d num mark then (true, seT τ num d 3) else (!stB (seT τ num d 3), wcT (seT τ num d 3) (nxN (seT τ num d 3) d) 16 num mark)
theorem sl_stop {τ : TS} {num mark : Int32} {d j : Nat} (hG : ∀ i, i < j → qS τ num d i = false) (hj : j < 3) (h1 : ¬ seT τ num d j 4 (3 * d + j) ≤ num) (h2 : stB (seT τ num d j) = true) : slP τ d num mark = (false, stT (seT τ num d j)) := by
  have hq : qS τ num d j = true := by
    unfold qS
    rw [h2]
    simp [h1]
  unfold slP
  rw [fsL_hit hq hG 3 hj, if_pos hj]
theorem sl_done {τ : TS} {num mark : Int32} {d : Nat} (hG : ∀ i, i < 3 → qS τ num d i = false) : slP τ d num mark = if hoB (seT τ num d 3) d num mark then (true, seT τ num d 3) else (!stB (seT τ num d 3), wcT (seT τ num d 3) (nxN (seT τ num d 3) d) 16 num mark) := by
  unfold slP
  rw [fsL_miss hG, if_neg (by decide)]
/-! the public methods that change little -/
def puP (τ : TS) (n : Nat) (d : Int32) : Bool × TS := if dkB n d && tb (τ 1 d.toNatClampNeg) then (true, ts τ 1 d.toNatClampNeg (nI 0)) else (false, τ)
def plP (τ : TS) (n : Nat) (d : Int32) : Bool × TS := if dkB n d && !tb (τ 1 d.toNatClampNeg) then (true, ts τ 1 d.toNatClampNeg (nI 1)) else (false, τ)
def amP (τ : TS) (k : Int32) : Bool × TS := if k < 0 ∨ ¬ k ≤ nI 100 then (false, τ) else (true, ts (ts τ 0 7 (nI 1)) 0 8 k)
def crP (τ : TS) : Bool × TS := if tb (τ 0 5) then (true, ts (ts τ 0 5 (nI 0)) 0 7 (nI 0)) else (false, τ)
def whI (τ : TS) (v k : Int32) : Int32 := if tb (τ 0 5) then (if exB τ v k then gt τ 15 (15 * v.toNatClampNeg + 3 + k.toNatClampNeg) else -1) else -2
def roI (τ : TS) (v : Int32) : Int32 := if tb (τ 0 5) then (if volB τ v then gt τ 15 (15 * v.toNatClampNeg + 2) else -1) else -2
def feI (τ : TS) (n E : Nat) (d : Int32) : Int32 := if tb (τ 0 5) then (if dkB n d then nI (frN τ E 15 d.toNatClampNeg) else -1) else -2
def moI (τ : TS) : Int32 := if tb (τ 0 5) then (if 0 ≤ gt τ 15 60 then nI 128 * gt τ 15 60 + nI 16 * τ 0 6 + gt τ 15 61 else -8) else -2
def sqI (τ : TS) : Int32 := if tb (τ 0 5) then τ 0 2 else -2
def soI (τ : TS) (n : Nat) (d k : Int32) : Int32 := if dkB n d && (!decide (k < 0) && !decide (nI 3 ≤ k)) then τ 4 (3 * d.toNatClampNeg + k.toNatClampNeg) else -1
theorem exB_t {τ : TS} {v k : Int32} (hw : WFm τ 15) (h : exB τ v k = true) : ∃ i j : Nat, i < 4 ∧ v = nI i ∧ v.toNatClampNeg = i ∧ j < exN τ 15 i ∧ k = nI j ∧ k.toNatClampNeg = j := by
  simp only [exB, Bool.and_eq_true, Bool.not_eq_true', decide_eq_false_iff_not] at h
  obtain ⟨i, hi, h1, h2, h3⟩ := volB_t h.1
  rw [h2] at h
  have hx := hw.ex hi
  obtain ⟨j, hj, h4, h5⟩ := ix_of (by omega) h.2.1 h.2.2
  exact ⟨i, j, hi, h1, h2, hj, h4, h5⟩
def WFx (n E : Nat) (τ : TS) (mp : Nat) : Prop := WFm τ mp ∧ (∀ v, v < 4 → ¬ gt τ mp (15 * v + 2) ≤ 0 → 1 ≤ gN τ mp (15 * v) ∧ (gN τ mp (15 * v + 1) = 1 ∨ gN τ mp (15 * v + 1) = 2 ∨ gN τ mp (15 * v + 1) = 4)) ∧
  (∀ v, v < 4 → ∀ k, k < exN τ mp v → gN τ mp (15 * v + 3 + k) / 16 < n ∧ gN τ mp (15 * v + 3 + k) % 16 < E) ∧
  (¬ gt τ mp 60 < 0 → gN τ mp 60 < 4 ∧ gN τ mp 61 < exN τ mp (gN τ mp 60) ∧ gN τ mp 62 / 16 < n ∧ gN τ mp 62 % 16 < E)
theorem coN_tab : ((List.range 5).all fun w => (List.range 5).all fun s => (List.range 16).all fun c => decide ((¬ (0 < w ∧ (s = 1 ∨ s = 2 ∨ s = 4) ∧ c < 4 * w)) ∨ c / s / w * s + c % s < 4)) = true := by decide +kernel
theorem coN_all (w : Nat) (hw : w < 5) (s : Nat) (hs : s < 5) (c : Nat) (hc : c < 16) : (¬ (0 < w ∧ (s = 1 ∨ s = 2 ∨ s = 4) ∧ c < 4 * w)) ∨ c / s / w * s + c % s < 4 :=
  of_decide_eq_true (List.all_eq_true.mp (List.all_eq_true.mp (List.all_eq_true.mp coN_tab w (List.mem_range.mpr hw)) s (List.mem_range.mpr hs)) c (List.mem_range.mpr hc))
theorem coN_lt {w s b : Nat} (hw : 0 < w) (hw4 : w ≤ 4) (hs : s = 1 ∨ s = 2 ∨ s = 4) : coN w s b < 4 := by
  have h := Nat.mod_lt b (show 0 < 4 * w by omega)
  rcases coN_all w (by omega) s (by omega) (b % (4 * w)) (by omega) with h1 | h1
  · exact absurd ⟨hw, hs, h⟩ h1
  · exact h1
theorem eoN_lt {w s b r : Nat} (hw : 0 < w) (hb : b < 4 * (w * r)) : eoN w s b < w * r := by
  have h1 : b / (4 * w) < r := by
    rw [Nat.div_lt_iff_lt_mul (by omega)]
    calc b < 4 * (w * r) := hb
      _ = r * (4 * w) := by rw [Nat.mul_comm r (4 * w), Nat.mul_assoc]
  have h2 := Nat.mod_lt (b % (4 * w) / s) hw
  have h3 : w * (b / (4 * w)) + w ≤ w * r := by
    rw [← Nat.mul_succ]
    exact Nat.mul_le_mul_left w h1
  unfold eoN
  omega
theorem caN_lt {n E id c : Nat} (hn : n ≤ 5) (hE : E ≤ 10) (h1 : id / 16 < n) (h2 : id % 16 < E) (hc : c < 4) : caN id c < 320 := by
  unfold caN
  omega
theorem blB_t {τ : TS} {v b : Int32} (hw : WFm τ 15) (h : blB τ v b = true) : ∃ i j : Nat, i < 4 ∧ v = nI i ∧ v.toNatClampNeg = i ∧ j < 4 * exN τ 15 i ∧ b = nI j ∧ b.toNatClampNeg = j ∧ ¬ gt τ 15 (15 * i + 2) ≤ 0 := by
  simp only [blB, Bool.and_eq_true, Bool.not_eq_true', decide_eq_false_iff_not] at h
  obtain ⟨i, hi, h1, h2, h3⟩ := volB_t h.1
  rw [h2] at h
  have hx := hw.ex hi
  obtain ⟨j, hj, h4, h5⟩ := ix_of (by omega) h.2.1 h.2.2
  exact ⟨i, j, hi, h1, h2, hj, h4, h5, h3⟩
/-- the place of a block, and its cell in it -/
def bpN (τ : TS) (v b : Nat) : Nat := gN τ 15 (15 * v + 3 + eoN (gN τ 15 (15 * v)) (gN τ 15 (15 * v + 1)) b)
def bcN (τ : TS) (v b : Nat) : Nat := coN (gN τ 15 (15 * v)) (gN τ 15 (15 * v + 1)) b
def rdI (τ : TS) (v b : Int32) : Int32 := if tb (τ 0 5) then (if blB τ v b then (if tb (τ 1 (bpN τ v.toNatClampNeg b.toNatClampNeg / 16)) then τ 2 (caN (bpN τ v.toNatClampNeg b.toNatClampNeg) (bcN τ v.toNatClampNeg b.toNatClampNeg)) else -6) else -1) else -2
/-- what is told of a block that there is -/
theorem bk_t {n E : Nat} {τ : TS} {v b : Nat} (hw : WFx n E τ 15) (hv : v < 4) (hr : ¬ gt τ 15 (15 * v + 2) ≤ 0) (hb : b < 4 * exN τ 15 v) : 0 < gN τ 15 (15 * v) ∧ 0 < gN τ 15 (15 * v + 1) ∧ eoN (gN τ 15 (15 * v)) (gN τ 15 (15 * v + 1)) b < exN τ 15 v ∧ bcN τ v b < 4 ∧ bpN τ v b / 16 < n ∧ bpN τ v b % 16 < E := by
  obtain ⟨h1, h2⟩ := hw.2.1 v hv hr
  have h4 := (hw.1.2 v hv).1
  have h3 : eoN (gN τ 15 (15 * v)) (gN τ 15 (15 * v + 1)) b < exN τ 15 v := eoN_lt (by omega) hb
  have h5 := hw.2.2.1 v hv _ h3
  exact ⟨by omega, by omega, h3, coN_lt (by omega) h4 h2, h5.1, h5.2⟩
/-! the public methods that commit, and write -/
theorem mvB_n {τ : TS} {i : Nat} (hi : i < 2 ^ 31) (h : mvB τ (nI i) = true) : ¬ gt τ 15 60 < 0 := by
  have h1 : gt τ 15 60 = nI i := by simpa [mvB] using h
  rw [h1]
  exact nI_pos hi
def twB (τ : TS) (v : Int32) (b : Nat) : Bool := mvB τ v && (decide (gt τ 15 61 = nI (eoN (gN τ 15 (15 * v.toNatClampNeg)) (gN τ 15 (15 * v.toNatClampNeg + 1)) b)) && !decide (τ 0 6 ≤ nI (bcN τ v.toNatClampNeg b)))
def wr1 (τ : TS) (i j : Nat) (x : Int32) : TS := ts (stT τ) 2 (caN (bpN τ i j) (bcN τ i j)) x
def wr2 (τ : TS) (i j : Nat) (x : Int32) : TS := ts (stT (wr1 τ i j x)) 2 (caN (gN τ 15 62) (bcN τ i j)) x
def wrP (τ : TS) (v b x : Int32) : Int32 × TS :=
  if tb (τ 0 5) then
    (if blB τ v b && decide (0 ≤ x) then
      (if tb (τ 1 (bpN τ v.toNatClampNeg b.toNatClampNeg / 16)) && (!twB τ v b.toNatClampNeg || tb (τ 1 (gN τ 15 62 / 16))) then
        (if stB τ then (-7, stT τ) else
          if twB τ v b.toNatClampNeg then
            (if stB (wr1 τ v.toNatClampNeg b.toNatClampNeg x) then (-7, stT (wr1 τ v.toNatClampNeg b.toNatClampNeg x)) else (nI 2, wr2 τ v.toNatClampNeg b.toNatClampNeg x))
          else (nI 1, wr1 τ v.toNatClampNeg b.toNatClampNeg x))
      else (-6, τ))
    else (-1, τ))
  else (-2, τ)
theorem stT_06 (τ : TS) : stT τ 0 6 = τ 0 6 := by
  unfold stT
  split
  · rw [ts_off (by decide), ts_off (by decide), ts_off (by decide)]
  · rw [ts_off (by decide)]
def cpN (τ : TS) : Nat := (τ 0 6).toNatClampNeg
def srN (τ : TS) : Nat := gN τ 15 (15 * gN τ 15 60 + 3 + gN τ 15 61)
theorem cp_lo {τ : TS} {a m i : Nat} (hm : m < 16) (hi : i < 64) : gt (cpT τ a 16 64) m i = gt τ m i := by
  unfold gt cpT
  rw [va_up_self, if_neg (by omega)]
def sp1 (τ : TS) : TS := ts (ts (stT τ) 2 (caN (gN τ 15 62) (cpN τ)) ((stT τ) 2 (caN (srN τ) (cpN τ)))) 0 6 (nI (cpN τ + 1))
def sp2 (τ : TS) : TS := ts (ts (cpT τ 15 16 64) 3 (64 * 16 + (15 * gN τ 15 60 + 3 + gN τ 15 61)) (nI (gN τ 15 62))) 3 (64 * 16 + 60) (-1)
def spP (τ : TS) (n : Nat) : Int32 × TS :=
  if tb (τ 0 5) then (if 0 ≤ gt τ 15 60 then (if fewB τ n then (-3, τ) else
    if tb (τ 1 (srN τ / 16)) && tb (τ 1 (gN τ 15 62 / 16)) then
      (if 4 ≤ cpN τ then (if cmB (sp2 τ) n then (nI 4, cmW (sp2 τ) n) else (-7, cmW (sp2 τ) n)) else
        if stB τ then (-7, stT τ) else (nI (4 - (cpN τ + 1)), sp1 τ))
    else (-6, τ)) else (-8, τ)) else (-2, τ)
def ca1 (τ : TS) : TS := ts (cpT τ 15 16 64) 3 (64 * 16 + 60) (-1)
def caP (τ : TS) (n : Nat) : Int32 × TS :=
  if tb (τ 0 5) then (if 0 ≤ gt τ 15 60 then (if fewB τ n then (-3, τ) else if cmB (ca1 τ) n then (nI 0, cmW (ca1 τ) n) else (-7, cmW (ca1 τ) n)) else (-8, τ)) else (-2, τ)
def re1 (τ : TS) (j : Nat) (r : Int32) : TS := ts (cpT τ 15 16 64) 3 (64 * 16 + (15 * j + 2)) (gt (cpT τ 15 16 64) 15 (15 * j + 2) - r)
def reP (τ : TS) (n : Nat) (v r : Int32) : Int32 × TS :=
  if tb (τ 0 5) then (if volB τ v && (!decide (r < nI 1) && decide (r ≤ gt τ 15 (15 * v.toNatClampNeg + 2))) then (if fewB τ n then (-3, τ) else if mvB τ v then (-4, τ) else
    if cmB (re1 τ v.toNatClampNeg r) n then (gt (cmW (re1 τ v.toNatClampNeg r) n) 15 (15 * v.toNatClampNeg + 2), cmW (re1 τ v.toNatClampNeg r) n) else (-7, cmW (re1 τ v.toNatClampNeg r) n)) else (-1, τ)) else (-2, τ)
def mo1 (τ : TS) (E : Nat) (v k : Int32) (d : Nat) : TS := ts (ts (ts (cpT τ 15 16 64) 3 (64 * 16 + 60) v) 3 (64 * 16 + 61) k) 3 (64 * 16 + 62) (lfI τ E 15 d)
def moP (τ : TS) (n E : Nat) (v k d : Int32) : Int32 × TS :=
  if tb (τ 0 5) then (if exB τ v k && (!decide (d < 0) && decide (d < nI n)) then (if fewB τ n then (-3, τ) else if gt τ 15 60 < 0 then
    (if tb (τ 1 (gN τ 15 (15 * v.toNatClampNeg + 3 + k.toNatClampNeg) / 16)) && tb (τ 1 d.toNatClampNeg) then (if 0 ≤ lfI τ E 15 d.toNatClampNeg then
      (if cmB (mo1 τ E v k d.toNatClampNeg) n then (nI 0, ts (cmW (mo1 τ E v k d.toNatClampNeg) n) 0 6 (nI 0)) else (-7, cmW (mo1 τ E v k d.toNatClampNeg) n)) else (-5, τ)) else (-6, τ))
    else (-4, τ)) else (-1, τ)) else (-2, τ)
def acT (τ : TS) (num mark : Int32) : Nat → TS
  | 0 => τ
  | d + 1 => if tb (acT τ num mark d 1 d) then (slP (acT τ num mark d) d num mark).2 else acT τ num mark d
theorem slP_6 {τ : TS} {d j : Nat} {num mark : Int32} (h : j ≠ d) : (slP τ d num mark).2 6 j = τ 6 j := by
  unfold slP
  split
  · show stT _ 6 j = _
    rw [stT_row (by decide), seT_6]
  · split
    · show seT _ _ _ _ 6 j = _
      rw [seT_6]
    · show wcT _ _ _ _ _ 6 j = _
      rw [wcT_6 (by unfold nxN; omega), seT_6]
theorem acT_6 (τ : TS) (num mark : Int32) : ∀ d j, d ≤ j → acT τ num mark d 6 j = τ 6 j
  | 0, _, _ => rfl
  | d + 1, j, h => by
    unfold acT
    split
    · rw [slP_6 (by omega), acT_6 τ num mark d j (by omega)]
    · exact acT_6 τ num mark d j (by omega)
def qA (τ : TS) (num mark : Int32) (d : Nat) : Bool := tb (acT τ num mark d 1 d) && !(slP (acT τ num mark d) d num mark).1
def ac1 (τ : TS) (num mark : Int32) : TS := ts (ts (ts (ts (cpT τ 16 15 64) 0 2 num) 0 3 mark) 0 6 (nI 0)) 0 5 (nI 1)
def acQ (τ : TS) (n : Nat) (num mark : Int32) : Int32 × TS := if fsL (qA τ num mark) n < n then (-7, acT τ num mark (fsL (qA τ num mark) n + 1)) else (num, ac1 (acT τ num mark n) num mark)
def acP (τ : TS) (n : Nat) : Int32 × TS := if tb (τ 0 5) then (-9, τ) else (match chL τ n (3 * n) with
  | none => (-3, τ)
  | some b => acQ (cpT τ b 16 64) n (τ 4 b) (τ 5 b))
theorem ac_stop {τ : TS} {n d : Nat} {num mark : Int32} (hG : ∀ j, j < d → qA τ num mark j = false) (hd : d < n) (h1 : tb (acT τ num mark d 1 d) = true) (h2 : (slP (acT τ num mark d) d num mark).1 = false) : acQ τ n num mark = (-7, (slP (acT τ num mark d) d num mark).2) := by
  have hq : qA τ num mark d = true := by
    unfold qA
    rw [h1, h2]
    rfl
  unfold acQ
  rw [fsL_hit hq hG n hd, if_pos hd]
  show (_, if tb (acT τ num mark d 1 d) then _ else _) = _
  rw [h1, if_pos rfl]
theorem ac_done {τ : TS} {n : Nat} {num mark : Int32} (hG : ∀ j, j < n → qA τ num mark j = false) : acQ τ n num mark = (num, ac1 (acT τ num mark n) num mark) := by
  unfold acQ
  rw [fsL_miss hG, if_neg (Nat.lt_irrefl _)]
/-! rows that are added -/
theorem sh_1 : ∀ d, d < 5 → nI 1 <<< (nI d &&& 31) = nI (2 ^ d) := by decide +kernel
theorem or_2' : ∀ d, d < 5 → ∀ a, a < 2 ^ d → nI a ||| nI (2 ^ d) = nI (a + 2 ^ d) := by decide +kernel
theorem or_0' : ∀ a, a < 32 → nI a ||| nI 0 = nI a := by decide +kernel
theorem sh_r : ∀ a, a < 32 → ∀ d, d < 5 → (nI a >>> (nI d &&& 31)) &&& nI 1 = nI (a / 2 ^ d % 2) := by decide +kernel
def mkL (q : Nat → Bool) : Nat → Nat
  | 0 => 0
  | d + 1 => mkL q d + (if q d then 2 ^ d else 0)
theorem mkL_lt (q : Nat → Bool) : ∀ d, mkL q d < 2 ^ d
  | 0 => by show 0 < 1; decide
  | d + 1 => by
    have h := mkL_lt q d
    have h2 : 2 ^ (d + 1) = 2 ^ d + 2 ^ d := by rw [Nat.pow_succ]; omega
    unfold mkL
    split <;> omega
theorem mkL_32 (q : Nat → Bool) {d : Nat} (hd : d ≤ 5) : mkL q d < 32 := Nat.lt_of_lt_of_le (mkL_lt q d) (Nat.pow_le_pow_right (by decide) hd)
theorem mk_bit (q : Nat → Bool) : ∀ n d, d < n → mkL q n / 2 ^ d % 2 = if q d then 1 else 0
  | 0, d, h => absurd h (by omega)
  | n + 1, d, h => by
    have hp : 0 < 2 ^ d := Nat.two_pow_pos d
    by_cases hd : d = n
    · subst hd
      have hl := mkL_lt q d
      unfold mkL
      by_cases hq : q d = true
      · rw [if_pos hq, if_pos hq, Nat.add_div_right _ hp, Nat.div_eq_of_lt hl]
      · rw [if_neg hq, if_neg hq, Nat.add_zero, Nat.div_eq_of_lt hl]
    · have ih := mk_bit q n d (by omega)
      unfold mkL
      by_cases hq : q n = true
      · rw [if_pos hq, ← ih]
        obtain ⟨m, hm⟩ : ∃ m, n = d + (m + 1) := ⟨n - d - 1, by omega⟩
        have h2 : 2 ^ n = 2 ^ d * (2 ^ m * 2) := by rw [hm, Nat.pow_add, Nat.pow_succ]
        rw [h2, Nat.add_mul_div_left _ _ hp, Nat.add_mul_mod_self_right]
      · rw [if_neg hq, Nat.add_zero, ih]
theorem mk_f {q : Nat → Bool} {n d : Nat} (hd : d < n) (h : ¬ mkL q n / 2 ^ d % 2 = 1) : q d = false := by
  rw [mk_bit q n d hd] at h
  cases hq : q d with
  | false => rfl
  | true => rw [hq] at h; exact absurd rfl h
theorem mk_t {q : Nat → Bool} {n d : Nat} (hd : d < n) (h : mkL q n / 2 ^ d % 2 = 1) : q d = true := by
  rw [mk_bit q n d hd] at h
  cases hq : q d with
  | true => rfl
  | false => rw [hq] at h; exact absurd h (by decide)
def fitB (τ : TS) (E d : Nat) : Bool := tb (τ 1 d) && decide (0 < frN τ E 16 d)
def chB (τ : TS) (E n w d : Nat) : Bool := fitB τ E d && decide (cntL n (qB τ E d) < w)
def arT (τ : TS) (E : Nat) (q : Nat → Bool) (a0 : Nat) : Nat → TS
  | 0 => τ
  | d + 1 => if q d then ts (arT τ E q a0 d) 3 (64 * 16 + (a0 + cntL d q)) (lfI (arT τ E q a0 d) E 16 d) else arT τ E q a0 d
abbrev arQ (τ : TS) (n E v : Nat) : Nat → Bool := chB τ E n (gN τ 16 (15 * v))
abbrev arW (τ : TS) (n E v : Nat) : Nat → TS := arT τ E (arQ τ n E v) (15 * v + 3 + exN τ 16 v)
def arP (τ : TS) (n E v : Nat) : Bool × TS := if cntL n (fitB τ E) < gN τ 16 (15 * v) then (false, τ) else (true, ts (arW τ n E v n) 3 (64 * 16 + (15 * v + 2)) (gt (arW τ n E v n) 16 (15 * v + 2) + nI 1))
def ArOk (τ : TS) (n E v : Nat) : Prop := WFm τ 16 ∧ exN τ 16 v ≤ 11 ∧ ∀ d, d ≤ n → WFm (arW τ n E v d) 16
def adT (τ : TS) (n E v : Nat) : Nat → TS
  | 0 => τ
  | i + 1 => (arP (adT τ n E v i) n E v).2
def qR (τ : TS) (n E v i : Nat) : Bool := !(arP (adT τ n E v i) n E v).1
/-- all of r rows are added, then it's committed -/
def adP (τ : TS) (n E v r : Nat) (a : TS → Int32) : Int32 × TS := if fsL (qR τ n E v) r < r then (-5, adT τ n E v (fsL (qR τ n E v) r + 1)) else if cmB (adT τ n E v r) n then (a (cmW (adT τ n E v r) n), cmW (adT τ n E v r) n) else (-7, cmW (adT τ n E v r) n)
theorem ad_stop {τ : TS} {n E v r i : Nat} {a : TS → Int32} (hG : ∀ j, j < i → qR τ n E v j = false) (hi : i < r) (h : (arP (adT τ n E v i) n E v).1 = false) : adP τ n E v r a = (-5, (arP (adT τ n E v i) n E v).2) := by
  have hq : qR τ n E v i = true := by
    unfold qR
    rw [h]
    rfl
  unfold adP
  rw [fsL_hit hq hG r hi, if_pos hi]
  rfl
theorem ad_done {τ : TS} {n E v r : Nat} {a : TS → Int32} (hG : ∀ j, j < r → qR τ n E v j = false) : adP τ n E v r a = if cmB (adT τ n E v r) n then (a (cmW (adT τ n E v r) n), cmW (adT τ n E v r) n) else (-7, cmW (adT τ n E v r) n) := by
  unfold adP
  rw [fsL_miss hG, if_neg (Nat.lt_irrefl _)]
def xtP (τ : TS) (n E : Nat) (v r : Int32) : Int32 × TS :=
  if tb (τ 0 5) then (if volB τ v && (!decide (r < nI 1) && decide (r ≤ nI (12 / gN τ 15 (15 * v.toNatClampNeg) - gN τ 15 (15 * v.toNatClampNeg + 2)))) then (if fewB τ n then (-3, τ) else if mvB τ v then (-4, τ) else
    adP (cpT τ 15 16 64) n E v.toNatClampNeg r.toNatClampNeg (fun σ => gt σ 15 (15 * v.toNatClampNeg + 2))) else (-1, τ)) else (-2, τ)
def qV (τ : TS) (v : Nat) : Bool := decide (gt τ 15 (15 * v + 2) ≤ 0)
def cr0 (τ : TS) (v : Nat) (w c : Int32) : TS := ts (ts (ts (cpT τ 15 16 64) 3 (64 * 16 + 15 * v) w) 3 (64 * 16 + (15 * v + 1)) c) 3 (64 * 16 + (15 * v + 2)) (nI 0)
def shB (w c r : Int32) : Bool := !decide (w < nI 1) && (!decide (nI 4 < w) && (decide (c = nI 1 ∨ c = nI 2 ∨ c = nI 4) && (!decide (r < nI 1) && decide (r ≤ nI (12 / w.toNatClampNeg)))))
def ctP (τ : TS) (n E : Nat) (w c r : Int32) : Int32 × TS :=
  if tb (τ 0 5) then (if shB w c r then (if fewB τ n then (-3, τ) else if fsL (qV τ) 4 < 4 then
    adP (cr0 τ (fsL (qV τ) 4) w c) n E (fsL (qV τ) 4) r.toNatClampNeg (fun _ => nI (fsL (qV τ) 4)) else (-10, τ)) else (-1, τ)) else (-2, τ)
theorem rg_of {w : Int32} {N : Nat} (hN : N < 2 ^ 31) (h1 : ¬ w < nI 1) (h2 : w ≤ nI N) : ∃ j : Nat, 1 ≤ j ∧ j ≤ N ∧ w = nI j ∧ w.toNatClampNeg = j := by
  have h0 : ¬ w < 0 := fun q => h1 (Int32.lt_of_lt_of_le q (by decide))
  obtain ⟨j, hj, rfl⟩ := nI_of h0
  refine ⟨j, ?_, (nI_leI hj hN).mp h2, rfl, nI_clamp hj⟩
  exact Nat.not_lt.mp (fun q => h1 ((nI_ltI hj (by decide)).mpr q))
end
section
variable {l : Launch} {D : va_G} {tys : List (ClassId × FieldType)} {A : Nat → Prop} {ax rl : Nat → Nat} {ca : Nat → ClassId} {n E : Nat}
theorem ct_M_get (hx : MX ax rl ca tys n E) {τ : TS} {mp : Nat} {i : Nat} (hm : mp < 17) (hi : i < 64) : MC l y_M_get c_M_get 3 (some .int) 0 D tys A ax rl ca n E τ [.int (nI mp), .int (nI i)] (some (.int (gt τ mp i))) τ := by
  obtain ⟨hn2, hn5⟩ := hx.2.2.2.1
  obtain ⟨hE2, hE10⟩ := hx.2.2.2.2
  refine MC.of rfl (Nat.le_of_ble_eq_true rfl) (cat_all rfl) ?_
  intro pp ee ss mm aa bb me cd hc hK hO hr hk hA
  refine AW.to (lv' := [some (.ref (ax 0)), some (.int (nI mp)), some (.int (nI i))]) rfl rfl rfl ?_
  refine a_aload_n (pc' := 1) hc d_M_get_0 rfl rfl rfl ?_
  refine r_get (pc' := 4) hc hK hx 4 (v := .ref (ax 3)) (by decide) rfl fl_M_17 d_M_get_1 rfl ?_
  refine a_bipush (pc' := 6) (v := nI 64) hc d_M_get_4 rfl (by decide) ?_
  refine a_iload_n (pc' := 7) hc d_M_get_6 rfl rfl rfl ?_
  refine a_nmul (pc' := 8) hc d_M_get_7 rfl ?_
  refine a_iload_n (pc' := 9) hc d_M_get_8 rfl rfl rfl ?_
  refine a_nadd (pc' := 10) hc d_M_get_9 rfl ?_
  refine r_iald (pc' := 11) (N := 1088) hc hK hx 3 ((64 * mp) + i) (by decide) rfl (by omega) d_M_get_10 rfl ?_
  exact a_iret hc hr hk d_M_get_11 (m_i (by first | rfl | (simp only []; done) | (simp []; done)) (rfl))
theorem ct_M_set (hx : MX ax rl ca tys n E) {τ : TS} {mp : Nat} {i : Nat} {v : Int32} (hm : mp < 17) (hi : i < 64) : MC l y_M_set c_M_set 4 none 0 D tys A ax rl ca n E τ [.int (nI mp), .int (nI i), .int v] none (ts τ 3 (64 * mp + i) v) := by
  obtain ⟨hn2, hn5⟩ := hx.2.2.2.1
  obtain ⟨hE2, hE10⟩ := hx.2.2.2.2
  refine MC.of rfl (Nat.le_of_ble_eq_true rfl) (cat_all rfl) ?_
  intro pp ee ss mm aa bb me cd hc hK hO hr hk hA
  refine AW.to (lv' := [some (.ref (ax 0)), some (.int (nI mp)), some (.int (nI i)), some (.int v)]) rfl rfl rfl ?_
  refine a_aload_n (pc' := 1) hc d_M_set_0 rfl rfl rfl ?_
  refine r_get (pc' := 4) hc hK hx 4 (v := .ref (ax 3)) (by decide) rfl fl_M_17 d_M_set_1 rfl ?_
  refine a_bipush (pc' := 6) (v := nI 64) hc d_M_set_4 rfl (by decide) ?_
  refine a_iload_n (pc' := 7) hc d_M_set_6 rfl rfl rfl ?_
  refine a_nmul (pc' := 8) hc d_M_set_7 rfl ?_
  refine a_iload_n (pc' := 9) hc d_M_set_8 rfl rfl rfl ?_
  refine a_nadd (pc' := 10) hc d_M_set_9 rfl ?_
  refine a_iload_n (pc' := 11) hc d_M_set_10 rfl rfl rfl ?_
  refine r_iast (pc' := 12) (N := 1088) hc hK hx 3 ((64 * mp) + i) (by decide) rfl (by omega) d_M_set_11 rfl ?_
  exact a_vret hc hr hk d_M_set_12 (m_v (by first | rfl | (simp only []; done) | (simp []; done)))
theorem ct_M_copyMap (hx : MX ax rl ca tys n E) {τ : TS} {a : Nat} {b : Nat} (ha : a < 17) (hb : b < 17) : MC l y_M_copyMap c_M_copyMap 4 none 0 D tys A ax rl ca n E τ [.int (nI a), .int (nI b)] none (cpT τ a b 64) := by
  obtain ⟨hn2, hn5⟩ := hx.2.2.2.1
  obtain ⟨hE2, hE10⟩ := hx.2.2.2.2
  refine MC.of rfl (Nat.le_of_ble_eq_true rfl) (cat_all rfl) ?_
  intro pp ee ss mm aa bb me cd hc hK hO hr hk hA
  refine AW.to (lv' := [some (.ref (ax 0)), some (.int (nI a)), some (.int (nI b)), none]) rfl rfl rfl ?_
  refine a_iconst (pc' := 1) (v := nI 0) hc d_M_copyMap_0 rfl (by decide) ?_
  refine a_istore_n (pc' := 2) hc d_M_copyMap_1 rfl rfl (by decide) ?_
  refine AW.tw (τ1 := cpT τ a b 0) (cpT_0 _ _ _) ?_
  refine AW.loop 64 0 (fun i2 => tw ax rl ca n E (cpT τ a b i2)) (fun i2 => [some (.ref (ax 0)), some (.int (nI a)), some (.int (nI b)), some (.int (nI i2))]) (Nat.zero_le _) rfl rfl (fun i2 hle2 ih2 => ?_)
  try dsimp only at ih2 ⊢
  refine a_iload_n (pc' := 3) hc d_M_copyMap_2 rfl rfl rfl ?_
  refine a_bipush (pc' := 5) (v := nI 64) hc d_M_copyMap_3 rfl (by decide) ?_
  refine a_ncmp_ge (pc' := 8) (tgt := 36) hc d_M_copyMap_5 rfl rfl (by omega) (by omega) (fun h5 => ?_) (fun h5 => ?_)
  · skip
    have hex5 : i2 = 64 := by omega
    subst i2
    exact a_vret hc hr hk d_M_copyMap_36 (m_v (rfl))
  · skip
    refine a_aload_n (pc' := 9) hc d_M_copyMap_8 rfl rfl rfl ?_
    refine r_get (pc' := 12) hc hK hx 4 (v := .ref (ax 3)) (by decide) rfl fl_M_17 d_M_copyMap_9 rfl ?_
    refine a_bipush (pc' := 14) (v := nI 64) hc d_M_copyMap_12 rfl (by decide) ?_
    refine a_iload_n (pc' := 15) hc d_M_copyMap_14 rfl rfl rfl ?_
    refine a_nmul (pc' := 16) hc d_M_copyMap_15 rfl ?_
    refine a_iload_n (pc' := 17) hc d_M_copyMap_16 rfl rfl rfl ?_
    refine a_nadd (pc' := 18) hc d_M_copyMap_17 rfl ?_
    refine a_aload_n (pc' := 19) hc d_M_copyMap_18 rfl rfl rfl ?_
    refine r_get (pc' := 22) hc hK hx 4 (v := .ref (ax 3)) (by decide) rfl fl_M_17 d_M_copyMap_19 rfl ?_
    refine a_bipush (pc' := 24) (v := nI 64) hc d_M_copyMap_22 rfl (by decide) ?_
    refine a_iload_n (pc' := 25) hc d_M_copyMap_24 rfl rfl rfl ?_
    refine a_nmul (pc' := 26) hc d_M_copyMap_25 rfl ?_
    refine a_iload_n (pc' := 27) hc d_M_copyMap_26 rfl rfl rfl ?_
    refine a_nadd (pc' := 28) hc d_M_copyMap_27 rfl ?_
    refine r_iald (pc' := 29) (N := 1088) hc hK hx 3 ((64 * a) + i2) (by decide) rfl (by omega) d_M_copyMap_28 rfl ?_
    refine r_iast (pc' := 30) (N := 1088) hc hK hx 3 ((64 * b) + i2) (by decide) rfl (by omega) d_M_copyMap_29 rfl ?_
    refine a_ninc (pc' := 33) hc d_M_copyMap_30 rfl rfl (by decide) ?_
    refine a_goto (tgt := 2) hc d_M_copyMap_33 rfl ?_
    refine AW.tw (τ1 := cpT τ a b (i2 + 1)) (cpT_s (by omega)) ?_
    exact AW.to rfl rfl rfl (ih2 (by omega))
theorem ct_M_width (hx : MX ax rl ca tys n E) {τ : TS} {mp : Nat} {v : Nat} (hm : mp < 17) (hv : v < 4) : MC l y_M_width c_M_width 3 (some .int) 1 D tys A ax rl ca n E τ [.int (nI mp), .int (nI v)] (some (.int (gt τ mp (15 * v)))) τ := by
  obtain ⟨hn2, hn5⟩ := hx.2.2.2.1
  obtain ⟨hE2, hE10⟩ := hx.2.2.2.2
  refine MC.of rfl (Nat.le_of_ble_eq_true rfl) (cat_all rfl) ?_
  intro pp ee ss mm aa bb me cd hc hK hO hr hk hA
  refine AW.to (lv' := [some (.ref (ax 0)), some (.int (nI mp)), some (.int (nI v))]) rfl rfl rfl ?_
  refine a_aload_n (pc' := 1) hc d_M_width_0 rfl rfl rfl ?_
  refine a_iload_n (pc' := 2) hc d_M_width_1 rfl rfl rfl ?_
  refine a_bipush (pc' := 4) (v := nI 15) hc d_M_width_2 rfl (by decide) ?_
  refine a_iload_n (pc' := 5) hc d_M_width_4 rfl rfl rfl ?_
  refine a_nmul (pc' := 6) hc d_M_width_5 rfl ?_
  refine r_calli (pc' := 9) hc hK hO hA hx [.int (nI mp), .int (nI (15 * v))] [] (ct_M_get hx (τ := τ) (mp := mp) (i := 15 * v) (by omega) (by omega)) ml_M_49 hd_M_get ⟨by decide, by decide⟩ rfl rfl (Nat.le_of_ble_eq_true rfl) d_M_width_6 rfl ?_
  exact a_iret hc hr hk d_M_width_9 (m_i (rfl) (rfl))
theorem ct_M_rowsOf (hx : MX ax rl ca tys n E) {τ : TS} {mp : Nat} {v : Nat} (hm : mp < 17) (hv : v < 4) : MC l y_M_rowsOf c_M_rowsOf 3 (some .int) 1 D tys A ax rl ca n E τ [.int (nI mp), .int (nI v)] (some (.int (gt τ mp (15 * v + 2)))) τ := by
  obtain ⟨hn2, hn5⟩ := hx.2.2.2.1
  obtain ⟨hE2, hE10⟩ := hx.2.2.2.2
  refine MC.of rfl (Nat.le_of_ble_eq_true rfl) (cat_all rfl) ?_
  intro pp ee ss mm aa bb me cd hc hK hO hr hk hA
  refine AW.to (lv' := [some (.ref (ax 0)), some (.int (nI mp)), some (.int (nI v))]) rfl rfl rfl ?_
  refine a_aload_n (pc' := 1) hc d_M_rowsOf_0 rfl rfl rfl ?_
  refine a_iload_n (pc' := 2) hc d_M_rowsOf_1 rfl rfl rfl ?_
  refine a_bipush (pc' := 4) (v := nI 15) hc d_M_rowsOf_2 rfl (by decide) ?_
  refine a_iload_n (pc' := 5) hc d_M_rowsOf_4 rfl rfl rfl ?_
  refine a_nmul (pc' := 6) hc d_M_rowsOf_5 rfl ?_
  refine a_iconst (pc' := 7) (v := nI 2) hc d_M_rowsOf_6 rfl (by decide) ?_
  refine a_nadd (pc' := 8) hc d_M_rowsOf_7 rfl ?_
  refine r_calli (pc' := 11) hc hK hO hA hx [.int (nI mp), .int (nI ((15 * v) + 2))] [] (ct_M_get hx (τ := τ) (mp := mp) (i := (15 * v) + 2) (by omega) (by omega)) ml_M_49 hd_M_get ⟨by decide, by decide⟩ rfl rfl (Nat.le_of_ble_eq_true rfl) d_M_rowsOf_8 rfl ?_
  exact a_iret hc hr hk d_M_rowsOf_11 (m_i (by first | rfl | (simp only []; done) | (simp []; done)) (rfl))
theorem ct_M_isVolume (hx : MX ax rl ca tys n E) {τ : TS} {v : Int32}  : MC l y_M_isVolume c_M_isVolume 2 (some .boolean) 2 D tys A ax rl ca n E τ [.int v] (some (.int (bI (volB τ v)))) τ := by
  obtain ⟨hn2, hn5⟩ := hx.2.2.2.1
  obtain ⟨hE2, hE10⟩ := hx.2.2.2.2
  refine MC.of rfl (Nat.le_of_ble_eq_true rfl) (cat_all rfl) ?_
  intro pp ee ss mm aa bb me cd hc hK hO hr hk hA
  refine AW.to (lv' := [some (.ref (ax 0)), some (.int v)]) rfl rfl rfl ?_
  refine a_iload_n (pc' := 1) hc d_M_isVolume_0 rfl rfl rfl ?_
  refine a_if_lt (pc' := 4) (tgt := 23) hc d_M_isVolume_1 rfl rfl (fun h1 => ?_) (fun h1 => ?_)
  · skip
    refine a_iconst (pc' := 24) (v := nI 0) hc d_M_isVolume_23 rfl (by decide) ?_
    exact a_zret hc hr hk (Or.inl rfl) d_M_isVolume_24 (m_i (by first | rfl | (simp only [volB, bI, h1]; done) | (simp [volB, bI, h1]; done)) (rfl))
  · skip
    refine a_iload_n (pc' := 5) hc d_M_isVolume_4 rfl rfl rfl ?_
    refine a_iconst (pc' := 6) (v := nI 4) hc d_M_isVolume_5 rfl (by decide) ?_
    refine a_icmp_ge (pc' := 9) (tgt := 23) hc d_M_isVolume_6 rfl rfl (fun h6 => ?_) (fun h6 => ?_)
    · skip
      refine a_iconst (pc' := 24) (v := nI 0) hc d_M_isVolume_23 rfl (by decide) ?_
      exact a_zret hc hr hk (Or.inl rfl) d_M_isVolume_24 (m_i (by first | rfl | (simp only [volB, bI, h1, h6]; done) | (simp [volB, bI, h1, h6]; done)) (rfl))
    · skip
      obtain ⟨j, hj, ej, cj⟩ := ix_of (by decide) h1 h6
      subst ej
      refine a_aload_n (pc' := 10) hc d_M_isVolume_9 rfl rfl rfl ?_
      refine a_bipush (pc' := 12) (v := nI 15) hc d_M_isVolume_10 rfl (by decide) ?_
      refine a_iload_n (pc' := 13) hc d_M_isVolume_12 rfl rfl rfl ?_
      refine r_calli (pc' := 16) hc hK hO hA hx [.int (nI 15), .int (nI j)] [] (ct_M_rowsOf hx (τ := τ) (mp := 15) (v := j) (by omega) (by omega)) ml_M_53 hd_M_rowsOf ⟨by decide, by decide⟩ rfl rfl (Nat.le_of_ble_eq_true rfl) d_M_isVolume_13 rfl ?_
      refine a_if_le (pc' := 19) (tgt := 23) hc d_M_isVolume_16 rfl rfl (fun h16 => ?_) (fun h16 => ?_)
      · skip
        refine a_iconst (pc' := 24) (v := nI 0) hc d_M_isVolume_23 rfl (by decide) ?_
        exact a_zret hc hr hk (Or.inl rfl) d_M_isVolume_24 (m_i (by first | rfl | (simp only [volB, bI, h1, h6, cj, h16]; done) | (simp [volB, bI, h1, h6, cj, h16]; done)) (rfl))
      · skip
        refine a_iconst (pc' := 20) (v := nI 1) hc d_M_isVolume_19 rfl (by decide) ?_
        refine a_goto (tgt := 24) hc d_M_isVolume_20 rfl ?_
        exact a_zret hc hr hk (Or.inr rfl) d_M_isVolume_24 (m_i (by first | rfl | (simp only [volB, bI, h1, h6, cj, h16]; done) | (simp [volB, bI, h1, h6, cj, h16]; done)) (rfl))
theorem ct_M_extentsOf (hx : MX ax rl ca tys n E) {τ : TS} {mp : Nat} {v : Nat} (hm : mp < 17) (hv : v < 4) (hw : WFm τ mp) : MC l y_M_extentsOf c_M_extentsOf 3 (some .int) 2 D tys A ax rl ca n E τ [.int (nI mp), .int (nI v)] (some (.int (nI (exN τ mp v)))) τ := by
  obtain ⟨hn2, hn5⟩ := hx.2.2.2.1
  obtain ⟨hE2, hE10⟩ := hx.2.2.2.2
  refine MC.of rfl (Nat.le_of_ble_eq_true rfl) (cat_all rfl) ?_
  intro pp ee ss mm aa bb me cd hc hK hO hr hk hA
  refine AW.to (lv' := [some (.ref (ax 0)), some (.int (nI mp)), some (.int (nI v))]) rfl rfl rfl ?_
  refine a_aload_n (pc' := 1) hc d_M_extentsOf_0 rfl rfl rfl ?_
  refine a_iload_n (pc' := 2) hc d_M_extentsOf_1 rfl rfl rfl ?_
  refine a_iload_n (pc' := 3) hc d_M_extentsOf_2 rfl rfl rfl ?_
  refine r_calli (pc' := 6) hc hK hO hA hx [.int (nI mp), .int (nI v)] [] (ct_M_width hx (τ := τ) (mp := mp) (v := v) (by omega) (by omega)) ml_M_56 hd_M_width ⟨by decide, by decide⟩ rfl rfl (Nat.le_of_ble_eq_true rfl) d_M_extentsOf_3 rfl ?_
  refine AW.topi (y := nI (gN τ mp (15 * v))) (hw.n (by omega) (by omega)) ?_
  refine a_aload_n (pc' := 7) hc d_M_extentsOf_6 rfl rfl rfl ?_
  refine a_iload_n (pc' := 8) hc d_M_extentsOf_7 rfl rfl rfl ?_
  refine a_iload_n (pc' := 9) hc d_M_extentsOf_8 rfl rfl rfl ?_
  refine r_calli (pc' := 12) hc hK hO hA hx [.int (nI mp), .int (nI v)] [.int (nI (gN τ mp (15 * v)))] (ct_M_rowsOf hx (τ := τ) (mp := mp) (v := v) (by omega) (by omega)) ml_M_53 hd_M_rowsOf ⟨by decide, by decide⟩ rfl rfl (Nat.le_of_ble_eq_true rfl) d_M_extentsOf_9 rfl ?_
  refine AW.topi (y := nI (gN τ mp (15 * v + 2))) (hw.n (by omega) (by omega)) ?_
  refine a_nmul (pc' := 13) hc d_M_extentsOf_12 rfl ?_
  exact a_iret hc hr hk d_M_extentsOf_13 (m_i (by first | rfl | (simp only []; done) | (simp []; done)) (rfl))
theorem ct_M_used (hx : MX ax rl ca tys n E) {τ : TS} {mp : Nat} {id : Nat} (hm : mp < 17) (hid : id < 2 ^ 31) (hw : WFm τ mp) : MC l y_M_used c_M_used 7 (some .boolean) 3 D tys A ax rl ca n E τ [.int (nI mp), .int (nI id)] (some (.int (bI (usedB τ mp id)))) τ := by
  obtain ⟨hn2, hn5⟩ := hx.2.2.2.1
  obtain ⟨hE2, hE10⟩ := hx.2.2.2.2
  refine MC.of rfl (Nat.le_of_ble_eq_true rfl) (cat_all rfl) ?_
  intro pp ee ss mm aa bb me cd hc hK hO hr hk hA
  refine AW.to (lv' := [some (.ref (ax 0)), some (.int (nI mp)), some (.int (nI id)), none, none, none, none]) rfl rfl rfl ?_
  refine AW.cut (f1 := tw ax rl ca n E τ) (pc1 := 26) (lv1 := [some (.ref (ax 0)), some (.int (nI mp)), some (.int (nI id)), none, none, none, none]) (st1 := [.int (bI (uL τ mp id 0))]) ?_ (fun kcut0 => ?_)
  · skip
    refine a_istore_n (pc' := 27) hc d_M_used_26 rfl rfl (by decide) ?_
    refine a_iconst (pc' := 28) (v := nI 0) hc d_M_used_27 rfl (by decide) ?_
    refine a_istore (pc' := 30) hc d_M_used_28 rfl (by decide) ?_
    refine AW.loop 4 0 (fun v30 => tw ax rl ca n E τ) (fun v30 => [some (.ref (ax 0)), some (.int (nI mp)), some (.int (nI id)), some (.int (bI (uL τ mp id v30))), some (.int (nI v30)), none, none]) (Nat.zero_le _) rfl rfl (fun v30 hle30 ih30 => ?_)
    try dsimp only at ih30 ⊢
    refine a_iload (pc' := 32) hc d_M_used_30 rfl rfl ?_
    refine a_iconst (pc' := 33) (v := nI 4) hc d_M_used_32 rfl (by decide) ?_
    refine a_ncmp_ge (pc' := 36) (tgt := 96) hc d_M_used_33 rfl rfl (by omega) (by omega) (fun h33 => ?_) (fun h33 => ?_)
    · skip
      have hex33 : v30 = 4 := by omega
      subst v30
      refine a_iload_n (pc' := 97) hc d_M_used_96 rfl rfl rfl ?_
      exact a_zret hc hr hk (bI_or _) d_M_used_97 (m_i (by first | rfl | (simp only [uL, orA_s, orA_0, qU, bI, h33]; done) | (simp [uL, orA_s, orA_0, qU, bI, h33]; done)) (rfl))
    · skip
      refine a_aload_n (pc' := 37) hc d_M_used_36 rfl rfl rfl ?_
      refine a_iload_n (pc' := 38) hc d_M_used_37 rfl rfl rfl ?_
      refine a_iload (pc' := 40) hc d_M_used_38 rfl rfl ?_
      refine r_calli (pc' := 43) hc hK hO hA hx [.int (nI mp), .int (nI v30)] [] (ct_M_extentsOf hx (τ := τ) (mp := mp) (v := v30) (by omega) (by omega) hw) ml_M_59 hd_M_extentsOf ⟨by decide, by decide⟩ rfl rfl (Nat.le_of_ble_eq_true rfl) d_M_used_40 rfl ?_
      have hx40 := hw.ex (v := v30) (by omega)
      refine a_istore (pc' := 45) hc d_M_used_43 rfl (by decide) ?_
      refine a_iconst (pc' := 46) (v := nI 0) hc d_M_used_45 rfl (by decide) ?_
      refine a_istore (pc' := 48) hc d_M_used_46 rfl (by decide) ?_
      refine AW.lvi 3 (y := bI (orA (uL τ mp id v30) 0 (qU τ mp id v30))) rfl (by first | rfl | (simp only [uL, orA_s, orA_0, qU, bI, h33]; done) | (simp [uL, orA_s, orA_0, qU, bI, h33]; done)) ?_
      refine AW.loop (exN τ mp v30) 0 (fun k48 => tw ax rl ca n E τ) (fun k48 => [some (.ref (ax 0)), some (.int (nI mp)), some (.int (nI id)), some (.int (bI (orA (uL τ mp id v30) k48 (qU τ mp id v30)))), some (.int (nI v30)), some (.int (nI (exN τ mp v30))), some (.int (nI k48))]) (Nat.zero_le _) rfl rfl (fun k48 hle48 ih48 => ?_)
      try dsimp only at ih48 ⊢
      refine a_iload (pc' := 50) hc d_M_used_48 rfl rfl ?_
      refine a_iload (pc' := 52) hc d_M_used_50 rfl rfl ?_
      refine a_ncmp_ge (pc' := 55) (tgt := 90) hc d_M_used_52 rfl rfl (by omega) (by omega) (fun h52 => ?_) (fun h52 => ?_)
      · skip
        have hex52 : k48 = exN τ mp v30 := by omega
        subst k48
        refine a_ninc (pc' := 93) hc d_M_used_90 rfl rfl (by decide) ?_
        refine a_goto (tgt := 30) hc d_M_used_93 rfl ?_
        refine AW.mask [true, true, true, true, true, false, false] ?_
        refine AW.lvi 3 (y := bI (uL τ mp id (v30 + 1))) rfl (by first | rfl | (simp only [uL, orA_s, orA_0, qU, bI, h33, h52]; done) | (simp [uL, orA_s, orA_0, qU, bI, h33, h52]; done)) ?_
        exact AW.to rfl rfl rfl (ih30 (by omega))
      · skip
        refine a_iload_n (pc' := 56) hc d_M_used_55 rfl rfl rfl ?_
        refine a_ifb_ne (pc' := 59) (tgt := 78) hc d_M_used_56 rfl rfl (fun h56 => ?_) (fun h56 => ?_)
        · skip
          refine a_iconst (pc' := 79) (v := nI 1) hc d_M_used_78 rfl (by decide) ?_
          refine a_goto (tgt := 83) hc d_M_used_79 rfl ?_
          refine a_istore_n (pc' := 84) hc d_M_used_83 rfl rfl (by decide) ?_
          refine a_ninc (pc' := 87) hc d_M_used_84 rfl rfl (by decide) ?_
          refine a_goto (tgt := 48) hc d_M_used_87 rfl ?_
          refine AW.lvi 3 (y := bI (orA (uL τ mp id v30) (k48 + 1) (qU τ mp id v30))) rfl (by first | rfl | (simp only [uL, orA_s, orA_0, qU, bI, h33, h52, h56]; done) | (simp [uL, orA_s, orA_0, qU, bI, h33, h52, h56]; done)) ?_
          exact AW.to rfl rfl rfl (ih48 (by omega))
        · skip
          refine a_aload_n (pc' := 60) hc d_M_used_59 rfl rfl rfl ?_
          refine a_iload_n (pc' := 61) hc d_M_used_60 rfl rfl rfl ?_
          refine a_bipush (pc' := 63) (v := nI 15) hc d_M_used_61 rfl (by decide) ?_
          refine a_iload (pc' := 65) hc d_M_used_63 rfl rfl ?_
          refine a_nmul (pc' := 66) hc d_M_used_65 rfl ?_
          refine a_iconst (pc' := 67) (v := nI 3) hc d_M_used_66 rfl (by decide) ?_
          refine a_nadd (pc' := 68) hc d_M_used_67 rfl ?_
          refine a_iload (pc' := 70) hc d_M_used_68 rfl rfl ?_
          refine a_nadd (pc' := 71) hc d_M_used_70 rfl ?_
          refine r_calli (pc' := 74) hc hK hO hA hx [.int (nI mp), .int (nI (((15 * v30) + 3) + k48))] [] (ct_M_get hx (τ := τ) (mp := mp) (i := ((15 * v30) + 3) + k48) (by omega) (by omega)) ml_M_49 hd_M_get ⟨by decide, by decide⟩ rfl rfl (Nat.le_of_ble_eq_true rfl) d_M_used_71 rfl ?_
          refine a_iload_n (pc' := 75) hc d_M_used_74 rfl rfl rfl ?_
          refine a_icmp_ne (pc' := 78) (tgt := 82) hc d_M_used_75 rfl rfl (fun h75 => ?_) (fun h75 => ?_)
          · skip
            refine a_iconst (pc' := 83) (v := nI 0) hc d_M_used_82 rfl (by decide) ?_
            refine a_istore_n (pc' := 84) hc d_M_used_83 rfl rfl (by decide) ?_
            refine a_ninc (pc' := 87) hc d_M_used_84 rfl rfl (by decide) ?_
            refine a_goto (tgt := 48) hc d_M_used_87 rfl ?_
            refine AW.lvi 3 (y := bI (orA (uL τ mp id v30) (k48 + 1) (qU τ mp id v30))) rfl (by first | rfl | (simp only [uL, orA_s, orA_0, qU, bI, h33, h52, h56, h75]; done) | (simp [uL, orA_s, orA_0, qU, bI, h33, h52, h56, h75]; done)) ?_
            exact AW.to rfl rfl rfl (ih48 (by omega))
          · skip
            refine a_iconst (pc' := 79) (v := nI 1) hc d_M_used_78 rfl (by decide) ?_
            refine a_goto (tgt := 83) hc d_M_used_79 rfl ?_
            refine a_istore_n (pc' := 84) hc d_M_used_83 rfl rfl (by decide) ?_
            refine a_ninc (pc' := 87) hc d_M_used_84 rfl rfl (by decide) ?_
            refine a_goto (tgt := 48) hc d_M_used_87 rfl ?_
            refine AW.lvi 3 (y := bI (orA (uL τ mp id v30) (k48 + 1) (qU τ mp id v30))) rfl (by first | rfl | (simp only [uL, orA_s, orA_0, qU, bI, h33, h52, h56, h75]; done) | (simp [uL, orA_s, orA_0, qU, bI, h33, h52, h56, h75]; done)) ?_
            exact AW.to rfl rfl rfl (ih48 (by omega))
  · skip
    refine a_aload_n (pc' := 1) hc d_M_used_0 rfl rfl rfl ?_
    refine a_iload_n (pc' := 2) hc d_M_used_1 rfl rfl rfl ?_
    refine a_bipush (pc' := 4) (v := nI 60) hc d_M_used_2 rfl (by decide) ?_
    refine r_calli (pc' := 7) hc hK hO hA hx [.int (nI mp), .int (nI 60)] [] (ct_M_get hx (τ := τ) (mp := mp) (i := 60) (by omega) (by omega)) ml_M_49 hd_M_get ⟨by decide, by decide⟩ rfl rfl (Nat.le_of_ble_eq_true rfl) d_M_used_4 rfl ?_
    refine a_if_lt (pc' := 10) (tgt := 25) hc d_M_used_7 rfl rfl (fun h7 => ?_) (fun h7 => ?_)
    · skip
      refine a_iconst (pc' := 26) (v := nI 0) hc d_M_used_25 rfl (by decide) ?_
      refine AW.topi (y := bI (uL τ mp id 0)) (by first | rfl | (simp only [uL, orA_s, orA_0, qU, bI, h7]; done) | (simp [uL, orA_s, orA_0, qU, bI, h7]; done)) ?_
      exact AW.to rfl rfl rfl (kcut0)
    · skip
      refine a_aload_n (pc' := 11) hc d_M_used_10 rfl rfl rfl ?_
      refine a_iload_n (pc' := 12) hc d_M_used_11 rfl rfl rfl ?_
      refine a_bipush (pc' := 14) (v := nI 62) hc d_M_used_12 rfl (by decide) ?_
      refine r_calli (pc' := 17) hc hK hO hA hx [.int (nI mp), .int (nI 62)] [] (ct_M_get hx (τ := τ) (mp := mp) (i := 62) (by omega) (by omega)) ml_M_49 hd_M_get ⟨by decide, by decide⟩ rfl rfl (Nat.le_of_ble_eq_true rfl) d_M_used_14 rfl ?_
      refine a_iload_n (pc' := 18) hc d_M_used_17 rfl rfl rfl ?_
      refine a_icmp_ne (pc' := 21) (tgt := 25) hc d_M_used_18 rfl rfl (fun h18 => ?_) (fun h18 => ?_)
      · skip
        refine a_iconst (pc' := 26) (v := nI 0) hc d_M_used_25 rfl (by decide) ?_
        refine AW.topi (y := bI (uL τ mp id 0)) (by first | rfl | (simp only [uL, orA_s, orA_0, qU, bI, h7, h18]; done) | (simp [uL, orA_s, orA_0, qU, bI, h7, h18]; done)) ?_
        exact AW.to rfl rfl rfl (kcut0)
      · skip
        refine a_iconst (pc' := 22) (v := nI 1) hc d_M_used_21 rfl (by decide) ?_
        refine a_goto (tgt := 26) hc d_M_used_22 rfl ?_
        refine AW.topi (y := bI (uL τ mp id 0)) (by first | rfl | (simp only [uL, orA_s, orA_0, qU, bI, h7, h18]; done) | (simp [uL, orA_s, orA_0, qU, bI, h7, h18]; done)) ?_
        exact AW.to rfl rfl rfl (kcut0)
theorem ct_M_freeOf (hx : MX ax rl ca tys n E) {τ : TS} {mp : Nat} {d : Nat} (hm : mp < 17) (hd : d < 5) (hw : WFm τ mp) : MC l y_M_freeOf c_M_freeOf 5 (some .int) 4 D tys A ax rl ca n E τ [.int (nI mp), .int (nI d)] (some (.int (nI (frN τ E mp d)))) τ := by
  obtain ⟨hn2, hn5⟩ := hx.2.2.2.1
  obtain ⟨hE2, hE10⟩ := hx.2.2.2.2
  refine MC.of rfl (Nat.le_of_ble_eq_true rfl) (cat_all rfl) ?_
  intro pp ee ss mm aa bb me cd hc hK hO hr hk hA
  refine AW.to (lv' := [some (.ref (ax 0)), some (.int (nI mp)), some (.int (nI d)), none, none]) rfl rfl rfl ?_
  refine a_iconst (pc' := 1) (v := nI 0) hc d_M_freeOf_0 rfl (by decide) ?_
  refine a_istore_n (pc' := 2) hc d_M_freeOf_1 rfl rfl (by decide) ?_
  refine a_iconst (pc' := 3) (v := nI 0) hc d_M_freeOf_2 rfl (by decide) ?_
  refine a_istore (pc' := 5) hc d_M_freeOf_3 rfl (by decide) ?_
  refine AW.lvi 3 (y := nI (cntL 0 (qF τ mp d))) rfl (by first | rfl | (simp only [cntL_s, cntL_0, qF]; done) | (simp [cntL_s, cntL_0, qF]; done)) ?_
  refine AW.loop E 0 (fun e5 => tw ax rl ca n E τ) (fun e5 => [some (.ref (ax 0)), some (.int (nI mp)), some (.int (nI d)), some (.int (nI (cntL e5 (qF τ mp d)))), some (.int (nI e5))]) (Nat.zero_le _) rfl rfl (fun e5 hle5 ih5 => ?_)
  try dsimp only at ih5 ⊢
  refine a_iload (pc' := 7) hc d_M_freeOf_5 rfl rfl ?_
  refine a_aload_n (pc' := 8) hc d_M_freeOf_7 rfl rfl rfl ?_
  refine r_get (pc' := 11) hc hK hx 1 (v := .int (nI E)) (by decide) rfl fl_M_33 d_M_freeOf_8 rfl ?_
  refine a_ncmp_ge (pc' := 14) (tgt := 43) hc d_M_freeOf_11 rfl rfl (by omega) (by omega) (fun h11 => ?_) (fun h11 => ?_)
  · skip
    have hex11 : e5 = E := by omega
    subst e5
    refine a_iload_n (pc' := 44) hc d_M_freeOf_43 rfl rfl rfl ?_
    exact a_iret hc hr hk d_M_freeOf_44 (m_i (by first | rfl | (simp only [cntL_s, cntL_0, qF, h11]; done) | (simp [cntL_s, cntL_0, qF, h11]; done)) (rfl))
  · skip
    refine a_iload_n (pc' := 15) hc d_M_freeOf_14 rfl rfl rfl ?_
    refine a_aload_n (pc' := 16) hc d_M_freeOf_15 rfl rfl rfl ?_
    refine a_iload_n (pc' := 17) hc d_M_freeOf_16 rfl rfl rfl ?_
    refine a_bipush (pc' := 19) (v := nI 16) hc d_M_freeOf_17 rfl (by decide) ?_
    refine a_iload_n (pc' := 20) hc d_M_freeOf_19 rfl rfl rfl ?_
    refine a_nmul (pc' := 21) hc d_M_freeOf_20 rfl ?_
    refine a_iload (pc' := 23) hc d_M_freeOf_21 rfl rfl ?_
    refine a_nadd (pc' := 24) hc d_M_freeOf_23 rfl ?_
    refine r_calli (pc' := 27) hc hK hO hA hx [.int (nI mp), .int (nI ((16 * d) + e5))] [.int (nI (cntL e5 (qF τ mp d)))] (ct_M_used hx (τ := τ) (mp := mp) (id := (16 * d) + e5) (by omega) (by omega) hw) ml_M_62 hd_M_used ⟨by decide, by decide⟩ rfl rfl (Nat.le_of_ble_eq_true rfl) d_M_freeOf_24 rfl ?_
    refine a_ifb_eq (pc' := 30) (tgt := 34) hc d_M_freeOf_27 rfl rfl (fun h27 => ?_) (fun h27 => ?_)
    · skip
      refine a_iconst (pc' := 35) (v := nI 1) hc d_M_freeOf_34 rfl (by decide) ?_
      refine a_nadd (pc' := 36) hc d_M_freeOf_35 rfl ?_
      refine a_istore_n (pc' := 37) hc d_M_freeOf_36 rfl rfl (by decide) ?_
      refine a_ninc (pc' := 40) hc d_M_freeOf_37 rfl rfl (by decide) ?_
      refine a_goto (tgt := 5) hc d_M_freeOf_40 rfl ?_
      refine AW.lvi 3 (y := nI (cntL (e5 + 1) (qF τ mp d))) rfl (by first | rfl | (simp only [cntL_s, cntL_0, qF, h11, h27]; done) | (simp [cntL_s, cntL_0, qF, h11, h27]; done)) ?_
      exact AW.to rfl rfl rfl (ih5 (by omega))
    · skip
      refine a_iconst (pc' := 31) (v := nI 0) hc d_M_freeOf_30 rfl (by decide) ?_
      refine a_goto (tgt := 35) hc d_M_freeOf_31 rfl ?_
      refine a_nadd (pc' := 36) hc d_M_freeOf_35 rfl ?_
      refine a_istore_n (pc' := 37) hc d_M_freeOf_36 rfl rfl (by decide) ?_
      refine a_ninc (pc' := 40) hc d_M_freeOf_37 rfl rfl (by decide) ?_
      refine a_goto (tgt := 5) hc d_M_freeOf_40 rfl ?_
      refine AW.lvi 3 (y := nI (cntL (e5 + 1) (qF τ mp d))) rfl (by first | rfl | (simp only [cntL_s, cntL_0, qF, h11, h27]; done) | (simp [cntL_s, cntL_0, qF, h11, h27]; done)) ?_
      exact AW.to rfl rfl rfl (ih5 (by omega))
theorem ct_M_leastFree (hx : MX ax rl ca tys n E) {τ : TS} {mp : Nat} {d : Nat} (hm : mp < 17) (hd : d < 5) (hw : WFm τ mp) : MC l y_M_leastFree c_M_leastFree 4 (some .int) 4 D tys A ax rl ca n E τ [.int (nI mp), .int (nI d)] (some (.int (lfI τ E mp d))) τ := by
  obtain ⟨hn2, hn5⟩ := hx.2.2.2.1
  obtain ⟨hE2, hE10⟩ := hx.2.2.2.2
  refine MC.of rfl (Nat.le_of_ble_eq_true rfl) (cat_all rfl) ?_
  intro pp ee ss mm aa bb me cd hc hK hO hr hk hA
  refine AW.to (lv' := [some (.ref (ax 0)), some (.int (nI mp)), some (.int (nI d)), none]) rfl rfl rfl ?_
  refine a_iconst (pc' := 1) (v := nI 0) hc d_M_leastFree_0 rfl (by decide) ?_
  refine a_istore_n (pc' := 2) hc d_M_leastFree_1 rfl rfl (by decide) ?_
  refine AW.loopG E 0 (fun e2 => tw ax rl ca n E τ) (fun e2 => [some (.ref (ax 0)), some (.int (nI mp)), some (.int (nI d)), some (.int (nI e2))]) (fun e2 => ∀ j, j < e2 → qF τ mp d j = false) (Nat.zero_le _) (fun j hj => absurd hj (by omega)) rfl rfl (fun e2 hle2 hG2 ih2 => ?_)
  try dsimp only at hG2 ih2 ⊢
  refine a_iload_n (pc' := 3) hc d_M_leastFree_2 rfl rfl rfl ?_
  refine a_aload_n (pc' := 4) hc d_M_leastFree_3 rfl rfl rfl ?_
  refine r_get (pc' := 7) hc hK hx 1 (v := .int (nI E)) (by decide) rfl fl_M_33 d_M_leastFree_4 rfl ?_
  refine a_ncmp_ge (pc' := 10) (tgt := 37) hc d_M_leastFree_7 rfl rfl (by omega) (by omega) (fun h7 => ?_) (fun h7 => ?_)
  · skip
    have hex7 : e2 = E := by omega
    subst e2
    refine a_iconst (pc' := 38) (v := -1) hc d_M_leastFree_37 rfl (by decide) ?_
    exact a_iret hc hr hk d_M_leastFree_38 (m_i (lfI_miss hG2) (rfl))
  · skip
    refine a_aload_n (pc' := 11) hc d_M_leastFree_10 rfl rfl rfl ?_
    refine a_iload_n (pc' := 12) hc d_M_leastFree_11 rfl rfl rfl ?_
    refine a_bipush (pc' := 14) (v := nI 16) hc d_M_leastFree_12 rfl (by decide) ?_
    refine a_iload_n (pc' := 15) hc d_M_leastFree_14 rfl rfl rfl ?_
    refine a_nmul (pc' := 16) hc d_M_leastFree_15 rfl ?_
    refine a_iload_n (pc' := 17) hc d_M_leastFree_16 rfl rfl rfl ?_
    refine a_nadd (pc' := 18) hc d_M_leastFree_17 rfl ?_
    refine r_calli (pc' := 21) hc hK hO hA hx [.int (nI mp), .int (nI ((16 * d) + e2))] [] (ct_M_used hx (τ := τ) (mp := mp) (id := (16 * d) + e2) (by omega) (by omega) hw) ml_M_62 hd_M_used ⟨by decide, by decide⟩ rfl rfl (Nat.le_of_ble_eq_true rfl) d_M_leastFree_18 rfl ?_
    refine a_ifb_ne (pc' := 24) (tgt := 31) hc d_M_leastFree_21 rfl rfl (fun h21 => ?_) (fun h21 => ?_)
    · skip
      refine a_ninc (pc' := 34) hc d_M_leastFree_31 rfl rfl (by decide) ?_
      refine a_goto (tgt := 2) hc d_M_leastFree_34 rfl ?_
      exact AW.to rfl rfl rfl (ih2 (by omega) (allf_s hG2 (by simp [qF, h21])))
    · skip
      refine a_bipush (pc' := 26) (v := nI 16) hc d_M_leastFree_24 rfl (by decide) ?_
      refine a_iload_n (pc' := 27) hc d_M_leastFree_26 rfl rfl rfl ?_
      refine a_nmul (pc' := 28) hc d_M_leastFree_27 rfl ?_
      refine a_iload_n (pc' := 29) hc d_M_leastFree_28 rfl rfl rfl ?_
      refine a_nadd (pc' := 30) hc d_M_leastFree_29 rfl ?_
      exact a_iret hc hr hk d_M_leastFree_30 (m_i (lfI_hit hG2 (by simp [qF, h21]) (by omega)) (rfl))
theorem ct_M_before (hx : MX ax rl ca tys n E) {τ : TS} {d : Nat} (hd : d < 5) (hw : WFm τ 16) : MC l y_M_before c_M_before 6 (some .int) 5 D tys A ax rl ca n E τ [.int (nI d)] (some (.int (nI (cntL n (qB τ E d))))) τ := by
  obtain ⟨hn2, hn5⟩ := hx.2.2.2.1
  obtain ⟨hE2, hE10⟩ := hx.2.2.2.2
  refine MC.of rfl (Nat.le_of_ble_eq_true rfl) (cat_all rfl) ?_
  intro pp ee ss mm aa bb me cd hc hK hO hr hk hA
  refine AW.to (lv' := [some (.ref (ax 0)), some (.int (nI d)), none, none, none, none]) rfl rfl rfl ?_
  refine a_aload_n (pc' := 1) hc d_M_before_0 rfl rfl rfl ?_
  refine a_bipush (pc' := 3) (v := nI 16) hc d_M_before_1 rfl (by decide) ?_
  refine a_iload_n (pc' := 4) hc d_M_before_3 rfl rfl rfl ?_
  refine r_calli (pc' := 7) hc hK hO hA hx [.int (nI 16), .int (nI d)] [] (ct_M_freeOf hx (τ := τ) (mp := 16) (d := d) (by omega) (by omega) hw) ml_M_66 hd_M_freeOf ⟨by decide, by decide⟩ rfl rfl (Nat.le_of_ble_eq_true rfl) d_M_before_4 rfl ?_
  have hf4 := frN_le τ E 16 d
  refine a_istore_n (pc' := 8) hc d_M_before_7 rfl rfl (by decide) ?_
  refine a_iconst (pc' := 9) (v := nI 0) hc d_M_before_8 rfl (by decide) ?_
  refine a_istore_n (pc' := 10) hc d_M_before_9 rfl rfl (by decide) ?_
  refine a_iconst (pc' := 11) (v := nI 0) hc d_M_before_10 rfl (by decide) ?_
  refine a_istore (pc' := 13) hc d_M_before_11 rfl (by decide) ?_
  refine AW.lvi 3 (y := nI (cntL 0 (qB τ E d))) rfl (by first | rfl | (rw [cntL_s, show qB τ E d x13 = true by first | (simp [qB, frH, h29]; done) | (simp [qB, frH, h29]; omega)]; rfl) | (rw [cntL_s, show qB τ E d x13 = false by first | (simp [qB, frH, h29]; done) | (simp [qB, frH, h29]; omega)]; rfl)) ?_
  refine AW.loop n 0 (fun x13 => tw ax rl ca n E τ) (fun x13 => [some (.ref (ax 0)), some (.int (nI d)), some (.int (nI (frN τ E 16 d))), some (.int (nI (cntL x13 (qB τ E d)))), some (.int (nI x13)), none]) (Nat.zero_le _) rfl rfl (fun x13 hle13 ih13 => ?_)
  try dsimp only at ih13 ⊢
  refine a_iload (pc' := 15) hc d_M_before_13 rfl rfl ?_
  refine a_aload_n (pc' := 16) hc d_M_before_15 rfl rfl rfl ?_
  refine r_get (pc' := 19) hc hK hx 0 (v := .int (nI n)) (by decide) rfl fl_M_29 d_M_before_16 rfl ?_
  refine a_ncmp_ge (pc' := 22) (tgt := 84) hc d_M_before_19 rfl rfl (by omega) (by omega) (fun h19 => ?_) (fun h19 => ?_)
  · skip
    have hex19 : x13 = n := by omega
    subst x13
    refine a_iload_n (pc' := 85) hc d_M_before_84 rfl rfl rfl ?_
    exact a_iret hc hr hk d_M_before_85 (m_i (rfl) (rfl))
  · skip
    refine a_aload_n (pc' := 23) hc d_M_before_22 rfl rfl rfl ?_
    refine r_get (pc' := 26) hc hK hx 2 (v := .ref (ax 1)) (by decide) rfl fl_M_7 d_M_before_23 rfl ?_
    refine a_iload (pc' := 28) hc d_M_before_26 rfl rfl ?_
    refine r_zald (pc' := 29) hc hK hx x13 (by omega) d_M_before_28 rfl ?_
    refine a_ifb_eq (pc' := 32) (tgt := 43) hc d_M_before_29 rfl rfl (fun h29 => ?_) (fun h29 => ?_)
    · skip
      refine a_iconst (pc' := 44) (v := nI 0) hc d_M_before_43 rfl (by decide) ?_
      refine a_istore (pc' := 46) hc d_M_before_44 rfl (by decide) ?_
      refine a_iload_n (pc' := 47) hc d_M_before_46 rfl rfl rfl ?_
      refine a_iload (pc' := 49) hc d_M_before_47 rfl rfl ?_
      refine a_iload_n (pc' := 50) hc d_M_before_49 rfl rfl rfl ?_
      refine a_ncmp_eq (pc' := 53) (tgt := 75) hc d_M_before_50 rfl rfl (by omega) (by omega) (fun h50 => ?_) (fun h50 => ?_)
      · skip
        refine a_iconst (pc' := 76) (v := nI 0) hc d_M_before_75 rfl (by decide) ?_
        refine a_nadd (pc' := 77) hc d_M_before_76 rfl ?_
        refine a_istore_n (pc' := 78) hc d_M_before_77 rfl rfl (by decide) ?_
        refine a_ninc (pc' := 81) hc d_M_before_78 rfl rfl (by decide) ?_
        refine a_goto (tgt := 13) hc d_M_before_81 rfl ?_
        refine AW.mask [true, true, true, true, true, false] ?_
        refine AW.lvi 3 (y := nI (cntL (x13 + 1) (qB τ E d))) rfl (by first | rfl | (rw [cntL_s, show qB τ E d x13 = true by first | (simp [qB, frH, h29]; done) | (simp [qB, frH, h29]; omega)]; rfl) | (rw [cntL_s, show qB τ E d x13 = false by first | (simp [qB, frH, h29]; done) | (simp [qB, frH, h29]; omega)]; rfl)) ?_
        exact AW.to rfl rfl rfl (ih13 (by omega))
      · skip
        refine a_iload (pc' := 55) hc d_M_before_53 rfl rfl ?_
        refine a_iload_n (pc' := 56) hc d_M_before_55 rfl rfl rfl ?_
        refine a_ncmp_gt (pc' := 59) (tgt := 71) hc d_M_before_56 rfl rfl (by omega) (by omega) (fun h56 => ?_) (fun h56 => ?_)
        · skip
          refine a_iconst (pc' := 72) (v := nI 1) hc d_M_before_71 rfl (by decide) ?_
          refine a_goto (tgt := 76) hc d_M_before_72 rfl ?_
          refine a_nadd (pc' := 77) hc d_M_before_76 rfl ?_
          refine a_istore_n (pc' := 78) hc d_M_before_77 rfl rfl (by decide) ?_
          refine a_ninc (pc' := 81) hc d_M_before_78 rfl rfl (by decide) ?_
          refine a_goto (tgt := 13) hc d_M_before_81 rfl ?_
          refine AW.mask [true, true, true, true, true, false] ?_
          refine AW.lvi 3 (y := nI (cntL (x13 + 1) (qB τ E d))) rfl (by first | rfl | (rw [cntL_s, show qB τ E d x13 = true by first | (simp [qB, frH, h29]; done) | (simp [qB, frH, h29]; omega)]; rfl) | (rw [cntL_s, show qB τ E d x13 = false by first | (simp [qB, frH, h29]; done) | (simp [qB, frH, h29]; omega)]; rfl)) ?_
          exact AW.to rfl rfl rfl (ih13 (by omega))
        · skip
          refine a_iload (pc' := 61) hc d_M_before_59 rfl rfl ?_
          refine a_iload_n (pc' := 62) hc d_M_before_61 rfl rfl rfl ?_
          refine a_ncmp_ne (pc' := 65) (tgt := 75) hc d_M_before_62 rfl rfl (by omega) (by omega) (fun h62 => ?_) (fun h62 => ?_)
          · skip
            refine a_iconst (pc' := 76) (v := nI 0) hc d_M_before_75 rfl (by decide) ?_
            refine a_nadd (pc' := 77) hc d_M_before_76 rfl ?_
            refine a_istore_n (pc' := 78) hc d_M_before_77 rfl rfl (by decide) ?_
            refine a_ninc (pc' := 81) hc d_M_before_78 rfl rfl (by decide) ?_
            refine a_goto (tgt := 13) hc d_M_before_81 rfl ?_
            refine AW.mask [true, true, true, true, true, false] ?_
            refine AW.lvi 3 (y := nI (cntL (x13 + 1) (qB τ E d))) rfl (by first | rfl | (rw [cntL_s, show qB τ E d x13 = true by first | (simp [qB, frH, h29]; done) | (simp [qB, frH, h29]; omega)]; rfl) | (rw [cntL_s, show qB τ E d x13 = false by first | (simp [qB, frH, h29]; done) | (simp [qB, frH, h29]; omega)]; rfl)) ?_
            exact AW.to rfl rfl rfl (ih13 (by omega))
          · skip
            refine a_iload (pc' := 67) hc d_M_before_65 rfl rfl ?_
            refine a_iload_n (pc' := 68) hc d_M_before_67 rfl rfl rfl ?_
            refine a_ncmp_ge (pc' := 71) (tgt := 75) hc d_M_before_68 rfl rfl (by omega) (by omega) (fun h68 => ?_) (fun h68 => ?_)
            · skip
              refine a_iconst (pc' := 76) (v := nI 0) hc d_M_before_75 rfl (by decide) ?_
              refine a_nadd (pc' := 77) hc d_M_before_76 rfl ?_
              refine a_istore_n (pc' := 78) hc d_M_before_77 rfl rfl (by decide) ?_
              refine a_ninc (pc' := 81) hc d_M_before_78 rfl rfl (by decide) ?_
              refine a_goto (tgt := 13) hc d_M_before_81 rfl ?_
              refine AW.mask [true, true, true, true, true, false] ?_
              refine AW.lvi 3 (y := nI (cntL (x13 + 1) (qB τ E d))) rfl (by first | rfl | (rw [cntL_s, show qB τ E d x13 = true by first | (simp [qB, frH, h29]; done) | (simp [qB, frH, h29]; omega)]; rfl) | (rw [cntL_s, show qB τ E d x13 = false by first | (simp [qB, frH, h29]; done) | (simp [qB, frH, h29]; omega)]; rfl)) ?_
              exact AW.to rfl rfl rfl (ih13 (by omega))
            · skip
              refine a_iconst (pc' := 72) (v := nI 1) hc d_M_before_71 rfl (by decide) ?_
              refine a_goto (tgt := 76) hc d_M_before_72 rfl ?_
              refine a_nadd (pc' := 77) hc d_M_before_76 rfl ?_
              refine a_istore_n (pc' := 78) hc d_M_before_77 rfl rfl (by decide) ?_
              refine a_ninc (pc' := 81) hc d_M_before_78 rfl rfl (by decide) ?_
              refine a_goto (tgt := 13) hc d_M_before_81 rfl ?_
              refine AW.mask [true, true, true, true, true, false] ?_
              refine AW.lvi 3 (y := nI (cntL (x13 + 1) (qB τ E d))) rfl (by first | rfl | (rw [cntL_s, show qB τ E d x13 = true by first | (simp [qB, frH, h29]; done) | (simp [qB, frH, h29]; omega)]; rfl) | (rw [cntL_s, show qB τ E d x13 = false by first | (simp [qB, frH, h29]; done) | (simp [qB, frH, h29]; omega)]; rfl)) ?_
              exact AW.to rfl rfl rfl (ih13 (by omega))
    · skip
      refine a_aload_n (pc' := 33) hc d_M_before_32 rfl rfl rfl ?_
      refine a_bipush (pc' := 35) (v := nI 16) hc d_M_before_33 rfl (by decide) ?_
      refine a_iload (pc' := 37) hc d_M_before_35 rfl rfl ?_
      refine r_calli (pc' := 40) hc hK hO hA hx [.int (nI 16), .int (nI x13)] [] (ct_M_freeOf hx (τ := τ) (mp := 16) (d := x13) (by omega) (by omega) hw) ml_M_66 hd_M_freeOf ⟨by decide, by decide⟩ rfl rfl (Nat.le_of_ble_eq_true rfl) d_M_before_37 rfl ?_
      have hf37 := frN_le τ E 16 x13
      refine a_goto (tgt := 44) hc d_M_before_40 rfl ?_
      refine a_istore (pc' := 46) hc d_M_before_44 rfl (by decide) ?_
      refine a_iload_n (pc' := 47) hc d_M_before_46 rfl rfl rfl ?_
      refine a_iload (pc' := 49) hc d_M_before_47 rfl rfl ?_
      refine a_iload_n (pc' := 50) hc d_M_before_49 rfl rfl rfl ?_
      refine a_ncmp_eq (pc' := 53) (tgt := 75) hc d_M_before_50 rfl rfl (by omega) (by omega) (fun h50 => ?_) (fun h50 => ?_)
      · skip
        refine a_iconst (pc' := 76) (v := nI 0) hc d_M_before_75 rfl (by decide) ?_
        refine a_nadd (pc' := 77) hc d_M_before_76 rfl ?_
        refine a_istore_n (pc' := 78) hc d_M_before_77 rfl rfl (by decide) ?_
        refine a_ninc (pc' := 81) hc d_M_before_78 rfl rfl (by decide) ?_
        refine a_goto (tgt := 13) hc d_M_before_81 rfl ?_
        refine AW.mask [true, true, true, true, true, false] ?_
        refine AW.lvi 3 (y := nI (cntL (x13 + 1) (qB τ E d))) rfl (by first | rfl | (rw [cntL_s, show qB τ E d x13 = true by first | (simp [qB, frH, h29]; done) | (simp [qB, frH, h29]; omega)]; rfl) | (rw [cntL_s, show qB τ E d x13 = false by first | (simp [qB, frH, h29]; done) | (simp [qB, frH, h29]; omega)]; rfl)) ?_
        exact AW.to rfl rfl rfl (ih13 (by omega))
      · skip
        refine a_iload (pc' := 55) hc d_M_before_53 rfl rfl ?_
        refine a_iload_n (pc' := 56) hc d_M_before_55 rfl rfl rfl ?_
        refine a_ncmp_gt (pc' := 59) (tgt := 71) hc d_M_before_56 rfl rfl (by omega) (by omega) (fun h56 => ?_) (fun h56 => ?_)
        · skip
          refine a_iconst (pc' := 72) (v := nI 1) hc d_M_before_71 rfl (by decide) ?_
          refine a_goto (tgt := 76) hc d_M_before_72 rfl ?_
          refine a_nadd (pc' := 77) hc d_M_before_76 rfl ?_
          refine a_istore_n (pc' := 78) hc d_M_before_77 rfl rfl (by decide) ?_
          refine a_ninc (pc' := 81) hc d_M_before_78 rfl rfl (by decide) ?_
          refine a_goto (tgt := 13) hc d_M_before_81 rfl ?_
          refine AW.mask [true, true, true, true, true, false] ?_
          refine AW.lvi 3 (y := nI (cntL (x13 + 1) (qB τ E d))) rfl (by first | rfl | (rw [cntL_s, show qB τ E d x13 = true by first | (simp [qB, frH, h29]; done) | (simp [qB, frH, h29]; omega)]; rfl) | (rw [cntL_s, show qB τ E d x13 = false by first | (simp [qB, frH, h29]; done) | (simp [qB, frH, h29]; omega)]; rfl)) ?_
          exact AW.to rfl rfl rfl (ih13 (by omega))
        · skip
          refine a_iload (pc' := 61) hc d_M_before_59 rfl rfl ?_
          refine a_iload_n (pc' := 62) hc d_M_before_61 rfl rfl rfl ?_
          refine a_ncmp_ne (pc' := 65) (tgt := 75) hc d_M_before_62 rfl rfl (by omega) (by omega) (fun h62 => ?_) (fun h62 => ?_)
          · skip
            refine a_iconst (pc' := 76) (v := nI 0) hc d_M_before_75 rfl (by decide) ?_
            refine a_nadd (pc' := 77) hc d_M_before_76 rfl ?_
            refine a_istore_n (pc' := 78) hc d_M_before_77 rfl rfl (by decide) ?_
            refine a_ninc (pc' := 81) hc d_M_before_78 rfl rfl (by decide) ?_
            refine a_goto (tgt := 13) hc d_M_before_81 rfl ?_
            refine AW.mask [true, true, true, true, true, false] ?_
            refine AW.lvi 3 (y := nI (cntL (x13 + 1) (qB τ E d))) rfl (by first | rfl | (rw [cntL_s, show qB τ E d x13 = true by first | (simp [qB, frH, h29]; done) | (simp [qB, frH, h29]; omega)]; rfl) | (rw [cntL_s, show qB τ E d x13 = false by first | (simp [qB, frH, h29]; done) | (simp [qB, frH, h29]; omega)]; rfl)) ?_
            exact AW.to rfl rfl rfl (ih13 (by omega))
          · skip
            refine a_iload (pc' := 67) hc d_M_before_65 rfl rfl ?_
            refine a_iload_n (pc' := 68) hc d_M_before_67 rfl rfl rfl ?_
            refine a_ncmp_ge (pc' := 71) (tgt := 75) hc d_M_before_68 rfl rfl (by omega) (by omega) (fun h68 => ?_) (fun h68 => ?_)
            · skip
              refine a_iconst (pc' := 76) (v := nI 0) hc d_M_before_75 rfl (by decide) ?_
              refine a_nadd (pc' := 77) hc d_M_before_76 rfl ?_
              refine a_istore_n (pc' := 78) hc d_M_before_77 rfl rfl (by decide) ?_
              refine a_ninc (pc' := 81) hc d_M_before_78 rfl rfl (by decide) ?_
              refine a_goto (tgt := 13) hc d_M_before_81 rfl ?_
              refine AW.mask [true, true, true, true, true, false] ?_
              refine AW.lvi 3 (y := nI (cntL (x13 + 1) (qB τ E d))) rfl (by first | rfl | (rw [cntL_s, show qB τ E d x13 = true by first | (simp [qB, frH, h29]; done) | (simp [qB, frH, h29]; omega)]; rfl) | (rw [cntL_s, show qB τ E d x13 = false by first | (simp [qB, frH, h29]; done) | (simp [qB, frH, h29]; omega)]; rfl)) ?_
              exact AW.to rfl rfl rfl (ih13 (by omega))
            · skip
              refine a_iconst (pc' := 72) (v := nI 1) hc d_M_before_71 rfl (by decide) ?_
              refine a_goto (tgt := 76) hc d_M_before_72 rfl ?_
              refine a_nadd (pc' := 77) hc d_M_before_76 rfl ?_
              refine a_istore_n (pc' := 78) hc d_M_before_77 rfl rfl (by decide) ?_
              refine a_ninc (pc' := 81) hc d_M_before_78 rfl rfl (by decide) ?_
              refine a_goto (tgt := 13) hc d_M_before_81 rfl ?_
              refine AW.mask [true, true, true, true, true, false] ?_
              refine AW.lvi 3 (y := nI (cntL (x13 + 1) (qB τ E d))) rfl (by first | rfl | (rw [cntL_s, show qB τ E d x13 = true by first | (simp [qB, frH, h29]; done) | (simp [qB, frH, h29]; omega)]; rfl) | (rw [cntL_s, show qB τ E d x13 = false by first | (simp [qB, frH, h29]; done) | (simp [qB, frH, h29]; omega)]; rfl)) ?_
              exact AW.to rfl rfl rfl (ih13 (by omega))
theorem ct_M_quorum (hx : MX ax rl ca tys n E) {τ : TS} {q : Nat} (hq : q < 2 ^ 29) : MC l y_M_quorum c_M_quorum 2 (some .boolean) 0 D tys A ax rl ca n E τ [.int (nI q)] (some (.int (bI (quB n q)))) τ := by
  obtain ⟨hn2, hn5⟩ := hx.2.2.2.1
  obtain ⟨hE2, hE10⟩ := hx.2.2.2.2
  refine MC.of rfl (Nat.le_of_ble_eq_true rfl) (cat_all rfl) ?_
  intro pp ee ss mm aa bb me cd hc hK hO hr hk hA
  refine AW.to (lv' := [some (.ref (ax 0)), some (.int (nI q))]) rfl rfl rfl ?_
  refine a_iconst (pc' := 1) (v := nI 2) hc d_M_quorum_0 rfl (by decide) ?_
  refine a_iload_n (pc' := 2) hc d_M_quorum_1 rfl rfl rfl ?_
  refine a_nmul (pc' := 3) hc d_M_quorum_2 rfl ?_
  refine a_aload_n (pc' := 4) hc d_M_quorum_3 rfl rfl rfl ?_
  refine r_get (pc' := 7) hc hK hx 0 (v := .int (nI n)) (by decide) rfl fl_M_29 d_M_quorum_4 rfl ?_
  refine a_ncmp_le (pc' := 10) (tgt := 14) hc d_M_quorum_7 rfl rfl (by omega) (by omega) (fun h7 => ?_) (fun h7 => ?_)
  · skip
    refine a_iconst (pc' := 15) (v := nI 0) hc d_M_quorum_14 rfl (by decide) ?_
    exact a_zret hc hr hk (Or.inl rfl) d_M_quorum_15 (m_i (by first | rfl | (simp [quB, bI, h7]; done) | (simp [quB, bI, h7]; omega)) (rfl))
  · skip
    refine a_iconst (pc' := 11) (v := nI 1) hc d_M_quorum_10 rfl (by decide) ?_
    refine a_goto (tgt := 15) hc d_M_quorum_11 rfl ?_
    exact a_zret hc hr hk (Or.inr rfl) d_M_quorum_15 (m_i (by first | rfl | (simp [quB, bI, h7]; done) | (simp [quB, bI, h7]; omega)) (rfl))
theorem ct_M_few (hx : MX ax rl ca tys n E) {τ : TS}  : MC l y_M_few c_M_few 3 (some .boolean) 1 D tys A ax rl ca n E τ [] (some (.int (bI (fewB τ n)))) τ := by
  obtain ⟨hn2, hn5⟩ := hx.2.2.2.1
  obtain ⟨hE2, hE10⟩ := hx.2.2.2.2
  refine MC.of rfl (Nat.le_of_ble_eq_true rfl) (cat_all rfl) ?_
  intro pp ee ss mm aa bb me cd hc hK hO hr hk hA
  refine AW.to (lv' := [some (.ref (ax 0)), none, none]) rfl rfl rfl ?_
  refine a_iconst (pc' := 1) (v := nI 0) hc d_M_few_0 rfl (by decide) ?_
  refine a_istore_n (pc' := 2) hc d_M_few_1 rfl rfl (by decide) ?_
  refine a_iconst (pc' := 3) (v := nI 0) hc d_M_few_2 rfl (by decide) ?_
  refine a_istore_n (pc' := 4) hc d_M_few_3 rfl rfl (by decide) ?_
  refine AW.lvi 1 (y := nI (cntL 0 (qH τ))) rfl (by first | rfl | (simp only [cntL_s, cntL_0, qH, fewB, bI]; done) | (simp [cntL_s, cntL_0, qH, fewB, bI]; done)) ?_
  refine AW.loop n 0 (fun d4 => tw ax rl ca n E τ) (fun d4 => [some (.ref (ax 0)), some (.int (nI (cntL d4 (qH τ)))), some (.int (nI d4))]) (Nat.zero_le _) rfl rfl (fun d4 hle4 ih4 => ?_)
  try dsimp only at ih4 ⊢
  refine a_iload_n (pc' := 5) hc d_M_few_4 rfl rfl rfl ?_
  refine a_aload_n (pc' := 6) hc d_M_few_5 rfl rfl rfl ?_
  refine r_get (pc' := 9) hc hK hx 0 (v := .int (nI n)) (by decide) rfl fl_M_29 d_M_few_6 rfl ?_
  refine a_ncmp_ge (pc' := 12) (tgt := 35) hc d_M_few_9 rfl rfl (by omega) (by omega) (fun h9 => ?_) (fun h9 => ?_)
  · skip
    have hex9 : d4 = n := by omega
    subst d4
    have hc9 := cntL_le n (qH τ)
    refine a_aload_n (pc' := 36) hc d_M_few_35 rfl rfl rfl ?_
    refine a_iload_n (pc' := 37) hc d_M_few_36 rfl rfl rfl ?_
    refine r_calli (pc' := 40) hc hK hO hA hx [.int (nI (cntL n (qH τ)))] [] (ct_M_quorum hx (τ := τ) (q := cntL n (qH τ)) (by omega)) ml_M_104 hd_M_quorum ⟨by decide, by decide⟩ rfl rfl (Nat.le_of_ble_eq_true rfl) d_M_few_37 rfl ?_
    refine a_ifb_ne (pc' := 43) (tgt := 47) hc d_M_few_40 rfl rfl (fun h40 => ?_) (fun h40 => ?_)
    · skip
      refine a_iconst (pc' := 48) (v := nI 0) hc d_M_few_47 rfl (by decide) ?_
      exact a_zret hc hr hk (Or.inl rfl) d_M_few_48 (m_i (by first | rfl | (simp only [cntL_s, cntL_0, qH, fewB, bI, h9, h40]; done) | (simp [cntL_s, cntL_0, qH, fewB, bI, h9, h40]; done)) (rfl))
    · skip
      refine a_iconst (pc' := 44) (v := nI 1) hc d_M_few_43 rfl (by decide) ?_
      refine a_goto (tgt := 48) hc d_M_few_44 rfl ?_
      exact a_zret hc hr hk (Or.inr rfl) d_M_few_48 (m_i (by first | rfl | (simp only [cntL_s, cntL_0, qH, fewB, bI, h9, h40]; done) | (simp [cntL_s, cntL_0, qH, fewB, bI, h9, h40]; done)) (rfl))
  · skip
    refine a_iload_n (pc' := 13) hc d_M_few_12 rfl rfl rfl ?_
    refine a_aload_n (pc' := 14) hc d_M_few_13 rfl rfl rfl ?_
    refine r_get (pc' := 17) hc hK hx 2 (v := .ref (ax 1)) (by decide) rfl fl_M_7 d_M_few_14 rfl ?_
    refine a_iload_n (pc' := 18) hc d_M_few_17 rfl rfl rfl ?_
    refine r_zald (pc' := 19) hc hK hx d4 (by omega) d_M_few_18 rfl ?_
    refine a_ifb_eq (pc' := 22) (tgt := 26) hc d_M_few_19 rfl rfl (fun h19 => ?_) (fun h19 => ?_)
    · skip
      refine a_iconst (pc' := 27) (v := nI 0) hc d_M_few_26 rfl (by decide) ?_
      refine a_nadd (pc' := 28) hc d_M_few_27 rfl ?_
      refine a_istore_n (pc' := 29) hc d_M_few_28 rfl rfl (by decide) ?_
      refine a_ninc (pc' := 32) hc d_M_few_29 rfl rfl (by decide) ?_
      refine a_goto (tgt := 4) hc d_M_few_32 rfl ?_
      refine AW.lvi 1 (y := nI (cntL (d4 + 1) (qH τ))) rfl (by first | rfl | (simp only [cntL_s, cntL_0, qH, fewB, bI, h9, h19]; done) | (simp [cntL_s, cntL_0, qH, fewB, bI, h9, h19]; done)) ?_
      exact AW.to rfl rfl rfl (ih4 (by omega))
    · skip
      refine a_iconst (pc' := 23) (v := nI 1) hc d_M_few_22 rfl (by decide) ?_
      refine a_goto (tgt := 27) hc d_M_few_23 rfl ?_
      refine a_nadd (pc' := 28) hc d_M_few_27 rfl ?_
      refine a_istore_n (pc' := 29) hc d_M_few_28 rfl rfl (by decide) ?_
      refine a_ninc (pc' := 32) hc d_M_few_29 rfl rfl (by decide) ?_
      refine a_goto (tgt := 4) hc d_M_few_32 rfl ?_
      refine AW.lvi 1 (y := nI (cntL (d4 + 1) (qH τ))) rfl (by first | rfl | (simp only [cntL_s, cntL_0, qH, fewB, bI, h9, h19]; done) | (simp [cntL_s, cntL_0, qH, fewB, bI, h9, h19]; done)) ?_
      exact AW.to rfl rfl rfl (ih4 (by omega))
theorem ct_M_isMoved (hx : MX ax rl ca tys n E) {τ : TS} {v : Int32}  : MC l y_M_isMoved c_M_isMoved 2 (some .boolean) 1 D tys A ax rl ca n E τ [.int v] (some (.int (bI (mvB τ v)))) τ := by
  obtain ⟨hn2, hn5⟩ := hx.2.2.2.1
  obtain ⟨hE2, hE10⟩ := hx.2.2.2.2
  refine MC.of rfl (Nat.le_of_ble_eq_true rfl) (cat_all rfl) ?_
  intro pp ee ss mm aa bb me cd hc hK hO hr hk hA
  refine AW.to (lv' := [some (.ref (ax 0)), some (.int v)]) rfl rfl rfl ?_
  refine a_aload_n (pc' := 1) hc d_M_isMoved_0 rfl rfl rfl ?_
  refine a_bipush (pc' := 3) (v := nI 15) hc d_M_isMoved_1 rfl (by decide) ?_
  refine a_bipush (pc' := 5) (v := nI 60) hc d_M_isMoved_3 rfl (by decide) ?_
  refine r_calli (pc' := 8) hc hK hO hA hx [.int (nI 15), .int (nI 60)] [] (ct_M_get hx (τ := τ) (mp := 15) (i := 60) (by omega) (by omega)) ml_M_49 hd_M_get ⟨by decide, by decide⟩ rfl rfl (Nat.le_of_ble_eq_true rfl) d_M_isMoved_5 rfl ?_
  refine a_iload_n (pc' := 9) hc d_M_isMoved_8 rfl rfl rfl ?_
  refine a_icmp_ne (pc' := 12) (tgt := 16) hc d_M_isMoved_9 rfl rfl (fun h9 => ?_) (fun h9 => ?_)
  · skip
    refine a_iconst (pc' := 17) (v := nI 0) hc d_M_isMoved_16 rfl (by decide) ?_
    exact a_zret hc hr hk (Or.inl rfl) d_M_isMoved_17 (m_i (by first | rfl | (simp only [mvB, bI, h9]; done) | (simp [mvB, bI, h9]; done)) (rfl))
  · skip
    refine a_iconst (pc' := 13) (v := nI 1) hc d_M_isMoved_12 rfl (by decide) ?_
    refine a_goto (tgt := 17) hc d_M_isMoved_13 rfl ?_
    exact a_zret hc hr hk (Or.inr rfl) d_M_isMoved_17 (m_i (by first | rfl | (simp only [mvB, bI, h9]; done) | (simp [mvB, bI, h9]; done)) (rfl))
theorem ct_M_isDisk (hx : MX ax rl ca tys n E) {τ : TS} {d : Int32}  : MC l y_M_isDisk c_M_isDisk 2 (some .boolean) 0 D tys A ax rl ca n E τ [.int d] (some (.int (bI (dkB n d)))) τ := by
  obtain ⟨hn2, hn5⟩ := hx.2.2.2.1
  obtain ⟨hE2, hE10⟩ := hx.2.2.2.2
  refine MC.of rfl (Nat.le_of_ble_eq_true rfl) (cat_all rfl) ?_
  intro pp ee ss mm aa bb me cd hc hK hO hr hk hA
  refine AW.to (lv' := [some (.ref (ax 0)), some (.int d)]) rfl rfl rfl ?_
  refine a_iload_n (pc' := 1) hc d_M_isDisk_0 rfl rfl rfl ?_
  refine a_if_lt (pc' := 4) (tgt := 16) hc d_M_isDisk_1 rfl rfl (fun h1 => ?_) (fun h1 => ?_)
  · skip
    refine a_iconst (pc' := 17) (v := nI 0) hc d_M_isDisk_16 rfl (by decide) ?_
    exact a_zret hc hr hk (Or.inl rfl) d_M_isDisk_17 (m_i (by first | rfl | (simp only [dkB, bI, h1]; done) | (simp [dkB, bI, h1]; done)) (rfl))
  · skip
    refine a_iload_n (pc' := 5) hc d_M_isDisk_4 rfl rfl rfl ?_
    refine a_aload_n (pc' := 6) hc d_M_isDisk_5 rfl rfl rfl ?_
    refine r_get (pc' := 9) hc hK hx 0 (v := .int (nI n)) (by decide) rfl fl_M_29 d_M_isDisk_6 rfl ?_
    refine a_icmp_ge (pc' := 12) (tgt := 16) hc d_M_isDisk_9 rfl rfl (fun h9 => ?_) (fun h9 => ?_)
    · skip
      refine a_iconst (pc' := 17) (v := nI 0) hc d_M_isDisk_16 rfl (by decide) ?_
      exact a_zret hc hr hk (Or.inl rfl) d_M_isDisk_17 (m_i (by first | rfl | (simp only [dkB, bI, h1, h9]; done) | (simp [dkB, bI, h1, h9]; done)) (rfl))
    · skip
      refine a_iconst (pc' := 13) (v := nI 1) hc d_M_isDisk_12 rfl (by decide) ?_
      refine a_goto (tgt := 17) hc d_M_isDisk_13 rfl ?_
      exact a_zret hc hr hk (Or.inr rfl) d_M_isDisk_17 (m_i (by first | rfl | (simp only [dkB, bI, h1, h9]; done) | (simp [dkB, bI, h1, h9]; done)) (rfl))
theorem ct_M_stops (hx : MX ax rl ca tys n E) {τ : TS}  : MC l y_M_stops c_M_stops 2 (some .boolean) 0 D tys A ax rl ca n E τ [] (some (.int (bI (stB τ)))) (stT τ) := by
  obtain ⟨hn2, hn5⟩ := hx.2.2.2.1
  obtain ⟨hE2, hE10⟩ := hx.2.2.2.2
  refine MC.of rfl (Nat.le_of_ble_eq_true rfl) (cat_all rfl) ?_
  intro pp ee ss mm aa bb me cd hc hK hO hr hk hA
  refine AW.to (lv' := [some (.ref (ax 0)), none]) rfl rfl rfl ?_
  refine a_aload_n (pc' := 1) hc d_M_stops_0 rfl rfl rfl ?_
  refine r_get (pc' := 4) hc hK hx 13 (v := .int (bI (tb (τ 0 7)))) (by decide) rfl fl_M_80 d_M_stops_1 rfl ?_
  refine a_ifb_eq (pc' := 7) (tgt := 18) hc d_M_stops_4 rfl rfl (fun h4 => ?_) (fun h4 => ?_)
  · skip
    refine a_iconst (pc' := 19) (v := nI 0) hc d_M_stops_18 rfl (by decide) ?_
    refine a_istore_n (pc' := 20) hc d_M_stops_19 rfl rfl (by decide) ?_
    refine a_aload_n (pc' := 21) hc d_M_stops_20 rfl rfl rfl ?_
    refine a_dup (pc' := 22) hc d_M_stops_21 rfl rfl ?_
    refine r_get (pc' := 25) hc hK hx 14 (v := .int (τ 0 8)) (by decide) rfl fl_M_83 d_M_stops_22 rfl ?_
    refine a_iconst (pc' := 26) (v := nI 1) hc d_M_stops_25 rfl (by decide) ?_
    refine a_isub (pc' := 27) hc d_M_stops_26 rfl ?_
    refine r_put (pc' := 30) hc hK hx 14 (by decide) fl_M_83 d_M_stops_27 rfl ?_
    refine a_iload_n (pc' := 31) hc d_M_stops_30 rfl rfl rfl ?_
    refine a_ifn_eq (pc' := 34) (tgt := 44) hc d_M_stops_31 rfl rfl (by omega) (fun h31 => ?_) (fun h31 => absurd h31 (by omega))
    refine a_iload_n (pc' := 45) hc d_M_stops_44 rfl rfl rfl ?_
    exact a_zret hc hr hk (Or.inl rfl) d_M_stops_45 (m_i (by first | rfl | (simp only [stT, stB, bI, h4]; done) | (simp [stT, stB, bI, h4]; done)) (by first | rfl | (simp only [stT, stB, bI, h4]; done) | (simp [stT, stB, bI, h4]; done)))
  · skip
    refine a_aload_n (pc' := 8) hc d_M_stops_7 rfl rfl rfl ?_
    refine r_get (pc' := 11) hc hK hx 14 (v := .int (τ 0 8)) (by decide) rfl fl_M_83 d_M_stops_8 rfl ?_
    refine a_if_ne (pc' := 14) (tgt := 18) hc d_M_stops_11 rfl rfl (fun h11 => ?_) (fun h11 => ?_)
    · skip
      refine a_iconst (pc' := 19) (v := nI 0) hc d_M_stops_18 rfl (by decide) ?_
      refine a_istore_n (pc' := 20) hc d_M_stops_19 rfl rfl (by decide) ?_
      refine a_aload_n (pc' := 21) hc d_M_stops_20 rfl rfl rfl ?_
      refine a_dup (pc' := 22) hc d_M_stops_21 rfl rfl ?_
      refine r_get (pc' := 25) hc hK hx 14 (v := .int (τ 0 8)) (by decide) rfl fl_M_83 d_M_stops_22 rfl ?_
      refine a_iconst (pc' := 26) (v := nI 1) hc d_M_stops_25 rfl (by decide) ?_
      refine a_isub (pc' := 27) hc d_M_stops_26 rfl ?_
      refine r_put (pc' := 30) hc hK hx 14 (by decide) fl_M_83 d_M_stops_27 rfl ?_
      refine a_iload_n (pc' := 31) hc d_M_stops_30 rfl rfl rfl ?_
      refine a_ifn_eq (pc' := 34) (tgt := 44) hc d_M_stops_31 rfl rfl (by omega) (fun h31 => ?_) (fun h31 => absurd h31 (by omega))
      refine a_iload_n (pc' := 45) hc d_M_stops_44 rfl rfl rfl ?_
      exact a_zret hc hr hk (Or.inl rfl) d_M_stops_45 (m_i (by first | rfl | (simp only [stT, stB, bI, h4, h11]; done) | (simp [stT, stB, bI, h4, h11]; done)) (by first | rfl | (simp only [stT, stB, bI, h4, h11]; done) | (simp [stT, stB, bI, h4, h11]; done)))
    · skip
      refine a_iconst (pc' := 15) (v := nI 1) hc d_M_stops_14 rfl (by decide) ?_
      refine a_goto (tgt := 19) hc d_M_stops_15 rfl ?_
      refine a_istore_n (pc' := 20) hc d_M_stops_19 rfl rfl (by decide) ?_
      refine a_aload_n (pc' := 21) hc d_M_stops_20 rfl rfl rfl ?_
      refine a_dup (pc' := 22) hc d_M_stops_21 rfl rfl ?_
      refine r_get (pc' := 25) hc hK hx 14 (v := .int (τ 0 8)) (by decide) rfl fl_M_83 d_M_stops_22 rfl ?_
      refine a_iconst (pc' := 26) (v := nI 1) hc d_M_stops_25 rfl (by decide) ?_
      refine a_isub (pc' := 27) hc d_M_stops_26 rfl ?_
      refine r_put (pc' := 30) hc hK hx 14 (by decide) fl_M_83 d_M_stops_27 rfl ?_
      refine a_iload_n (pc' := 31) hc d_M_stops_30 rfl rfl rfl ?_
      refine a_ifn_eq (pc' := 34) (tgt := 44) hc d_M_stops_31 rfl rfl (by omega) (fun h31 => absurd h31 (by omega)) (fun h31 => ?_)
      refine a_aload_n (pc' := 35) hc d_M_stops_34 rfl rfl rfl ?_
      refine a_iconst (pc' := 36) (v := nI 0) hc d_M_stops_35 rfl (by decide) ?_
      refine r_putz (pc' := 39) hc hK hx 13 (Or.inl rfl) (by decide) fl_M_80 d_M_stops_36 rfl ?_
      refine a_aload_n (pc' := 40) hc d_M_stops_39 rfl rfl rfl ?_
      refine a_iconst (pc' := 41) (v := nI 0) hc d_M_stops_40 rfl (by decide) ?_
      refine r_putz (pc' := 44) hc hK hx 11 (Or.inl rfl) (by decide) fl_M_45 d_M_stops_41 rfl ?_
      refine a_iload_n (pc' := 45) hc d_M_stops_44 rfl rfl rfl ?_
      exact a_zret hc hr hk (Or.inr rfl) d_M_stops_45 (m_i (by first | rfl | (simp only [stT, stB, bI, h4, h11]; done) | (simp [stT, stB, bI, h4, h11]; done)) (by first | rfl | (simp only [stT, stB, bI, h4, h11]; done) | (simp [stT, stB, bI, h4, h11]; done)))
end
section
variable {l : Launch} {D : va_G} {tys : List (ClassId × FieldType)} {A : Nat → Prop} {ax rl : Nat → Nat} {ca : Nat → ClassId} {n E : Nat}
theorem ct_M_nextSlot (hx : MX ax rl ca tys n E) {τ : TS} {d : Nat} (hd : d < 5) (h6 : ¬ τ 6 d < 0) : MC l y_M_nextSlot c_M_nextSlot 2 (some .int) 0 D tys A ax rl ca n E τ [.int (nI d)] (some (.int (nI (nxN τ d)))) τ := by
  obtain ⟨hn2, hn5⟩ := hx.2.2.2.1
  obtain ⟨hE2, hE10⟩ := hx.2.2.2.2
  have hwl : wrN τ d < 2 ^ 31 := nat_lt _
  refine MC.of rfl (Nat.le_of_ble_eq_true rfl) (cat_all rfl) ?_
  intro pp ee ss mm aa bb me cd hc hK hO hr hk hA
  refine AW.to (lv' := [some (.ref (ax 0)), some (.int (nI d))]) rfl rfl rfl ?_
  refine a_iconst (pc' := 1) (v := nI 3) hc d_M_nextSlot_0 rfl (by decide) ?_
  refine a_iload_n (pc' := 2) hc d_M_nextSlot_1 rfl rfl rfl ?_
  refine a_nmul (pc' := 3) hc d_M_nextSlot_2 rfl ?_
  refine a_aload_n (pc' := 4) hc d_M_nextSlot_3 rfl rfl rfl ?_
  refine r_get (pc' := 7) hc hK hx 7 (v := .ref (ax 6)) (by decide) rfl fl_M_26 d_M_nextSlot_4 rfl ?_
  refine a_iload_n (pc' := 8) hc d_M_nextSlot_7 rfl rfl rfl ?_
  refine r_iald (pc' := 9) (N := 5) hc hK hx 6 d (by decide) rfl (by omega) d_M_nextSlot_8 rfl ?_
  refine AW.topi (y := nI (wrN τ d)) (nat_eq h6) ?_
  refine a_iconst (pc' := 10) (v := nI 3) hc d_M_nextSlot_9 rfl (by decide) ?_
  refine a_nrem (pc' := 11) hc d_M_nextSlot_10 rfl (by omega) (by omega) (by omega) ?_
  refine a_nadd (pc' := 12) hc d_M_nextSlot_11 rfl ?_
  exact a_iret hc hr hk d_M_nextSlot_12 (m_i (by first | rfl | (simp only []; done) | (simp []; done)) (rfl))
theorem ct_M_slotBehind (hx : MX ax rl ca tys n E) {τ : TS} {d : Nat} (hd : d < 5) (h6 : ¬ τ 6 d < 0) : MC l y_M_slotBehind c_M_slotBehind 4 (some .int) 1 D tys A ax rl ca n E τ [.int (nI d)] (some (.int (nI (sbL τ d 3)))) τ := by
  obtain ⟨hn2, hn5⟩ := hx.2.2.2.1
  obtain ⟨hE2, hE10⟩ := hx.2.2.2.2
  refine MC.of rfl (Nat.le_of_ble_eq_true rfl) (cat_all rfl) ?_
  intro pp ee ss mm aa bb me cd hc hK hO hr hk hA
  refine AW.to (lv' := [some (.ref (ax 0)), some (.int (nI d)), none, none]) rfl rfl rfl ?_
  refine a_aload_n (pc' := 1) hc d_M_slotBehind_0 rfl rfl rfl ?_
  refine a_iload_n (pc' := 2) hc d_M_slotBehind_1 rfl rfl rfl ?_
  refine r_calli (pc' := 5) hc hK hO hA hx [.int (nI d)] [] (ct_M_nextSlot hx (τ := τ) (d := d) (by omega) h6) ml_M_94 hd_M_nextSlot ⟨by decide, by decide⟩ rfl rfl (Nat.le_of_ble_eq_true rfl) d_M_slotBehind_2 rfl ?_
  refine a_istore_n (pc' := 6) hc d_M_slotBehind_5 rfl rfl (by decide) ?_
  refine a_iconst (pc' := 7) (v := nI 0) hc d_M_slotBehind_6 rfl (by decide) ?_
  refine a_istore_n (pc' := 8) hc d_M_slotBehind_7 rfl rfl (by decide) ?_
  refine AW.lvi 2 (y := nI (sbL τ d 0)) rfl (by first | rfl | (simp only [sbL]; done) | (simp [sbL]; done)) ?_
  refine AW.loop 3 0 (fun j8 => tw ax rl ca n E τ) (fun j8 => [some (.ref (ax 0)), some (.int (nI d)), some (.int (nI (sbL τ d j8))), some (.int (nI j8))]) (Nat.zero_le _) rfl rfl (fun j8 hle8 ih8 => ?_)
  try dsimp only at ih8 ⊢
  refine a_iload_n (pc' := 9) hc d_M_slotBehind_8 rfl rfl rfl ?_
  refine a_iconst (pc' := 10) (v := nI 3) hc d_M_slotBehind_9 rfl (by decide) ?_
  refine a_ncmp_ge (pc' := 13) (tgt := 67) hc d_M_slotBehind_10 rfl rfl (by omega) (by omega) (fun h10 => ?_) (fun h10 => ?_)
  · skip
    have hex10 : j8 = 3 := by omega
    subst j8
    refine a_iload_n (pc' := 68) hc d_M_slotBehind_67 rfl rfl rfl ?_
    exact a_iret hc hr hk d_M_slotBehind_68 (m_i (rfl) (rfl))
  · skip
    refine a_aload_n (pc' := 14) hc d_M_slotBehind_13 rfl rfl rfl ?_
    refine r_get (pc' := 17) hc hK hx 5 (v := .ref (ax 4)) (by decide) rfl fl_M_20 d_M_slotBehind_14 rfl ?_
    refine a_iconst (pc' := 18) (v := nI 3) hc d_M_slotBehind_17 rfl (by decide) ?_
    refine a_iload_n (pc' := 19) hc d_M_slotBehind_18 rfl rfl rfl ?_
    refine a_nmul (pc' := 20) hc d_M_slotBehind_19 rfl ?_
    refine a_iload_n (pc' := 21) hc d_M_slotBehind_20 rfl rfl rfl ?_
    refine a_nadd (pc' := 22) hc d_M_slotBehind_21 rfl ?_
    refine r_iald (pc' := 23) (N := 15) hc hK hx 4 ((3 * d) + j8) (by decide) rfl (by omega) d_M_slotBehind_22 rfl ?_
    refine a_aload_n (pc' := 24) hc d_M_slotBehind_23 rfl rfl rfl ?_
    refine r_get (pc' := 27) hc hK hx 8 (v := .int (τ 0 2)) (by decide) rfl fl_M_36 d_M_slotBehind_24 rfl ?_
    refine a_icmp_ne (pc' := 30) (tgt := 59) hc d_M_slotBehind_27 rfl rfl (fun h27 => ?_) (fun h27 => ?_)
    · skip
      refine a_iload_n (pc' := 60) hc d_M_slotBehind_59 rfl rfl rfl ?_
      refine a_istore_n (pc' := 61) hc d_M_slotBehind_60 rfl rfl (by decide) ?_
      refine a_ninc (pc' := 64) hc d_M_slotBehind_61 rfl rfl (by decide) ?_
      refine a_goto (tgt := 8) hc d_M_slotBehind_64 rfl ?_
      refine AW.lvi 2 (y := nI (sbL τ d (j8 + 1))) rfl (by first | rfl | (simp only [sbL, h10, h27]; done) | (simp [sbL, h10, h27]; done)) ?_
      exact AW.to rfl rfl rfl (ih8 (by omega))
    · skip
      refine a_aload_n (pc' := 31) hc d_M_slotBehind_30 rfl rfl rfl ?_
      refine r_get (pc' := 34) hc hK hx 6 (v := .ref (ax 5)) (by decide) rfl fl_M_23 d_M_slotBehind_31 rfl ?_
      refine a_iconst (pc' := 35) (v := nI 3) hc d_M_slotBehind_34 rfl (by decide) ?_
      refine a_iload_n (pc' := 36) hc d_M_slotBehind_35 rfl rfl rfl ?_
      refine a_nmul (pc' := 37) hc d_M_slotBehind_36 rfl ?_
      refine a_iload_n (pc' := 38) hc d_M_slotBehind_37 rfl rfl rfl ?_
      refine a_nadd (pc' := 39) hc d_M_slotBehind_38 rfl ?_
      refine r_iald (pc' := 40) (N := 15) hc hK hx 5 ((3 * d) + j8) (by decide) rfl (by omega) d_M_slotBehind_39 rfl ?_
      refine a_aload_n (pc' := 41) hc d_M_slotBehind_40 rfl rfl rfl ?_
      refine r_get (pc' := 44) hc hK hx 9 (v := .int (τ 0 3)) (by decide) rfl fl_M_39 d_M_slotBehind_41 rfl ?_
      refine a_icmp_ne (pc' := 47) (tgt := 59) hc d_M_slotBehind_44 rfl rfl (fun h44 => ?_) (fun h44 => ?_)
      · skip
        refine a_iload_n (pc' := 60) hc d_M_slotBehind_59 rfl rfl rfl ?_
        refine a_istore_n (pc' := 61) hc d_M_slotBehind_60 rfl rfl (by decide) ?_
        refine a_ninc (pc' := 64) hc d_M_slotBehind_61 rfl rfl (by decide) ?_
        refine a_goto (tgt := 8) hc d_M_slotBehind_64 rfl ?_
        refine AW.lvi 2 (y := nI (sbL τ d (j8 + 1))) rfl (by first | rfl | (simp only [sbL, h10, h27, h44]; done) | (simp [sbL, h10, h27, h44]; done)) ?_
        exact AW.to rfl rfl rfl (ih8 (by omega))
      · skip
        refine a_iconst (pc' := 48) (v := nI 3) hc d_M_slotBehind_47 rfl (by decide) ?_
        refine a_iload_n (pc' := 49) hc d_M_slotBehind_48 rfl rfl rfl ?_
        refine a_nmul (pc' := 50) hc d_M_slotBehind_49 rfl ?_
        refine a_iload_n (pc' := 51) hc d_M_slotBehind_50 rfl rfl rfl ?_
        refine a_iconst (pc' := 52) (v := nI 1) hc d_M_slotBehind_51 rfl (by decide) ?_
        refine a_nadd (pc' := 53) hc d_M_slotBehind_52 rfl ?_
        refine a_iconst (pc' := 54) (v := nI 3) hc d_M_slotBehind_53 rfl (by decide) ?_
        refine a_nrem (pc' := 55) hc d_M_slotBehind_54 rfl (by omega) (by omega) (by omega) ?_
        refine a_nadd (pc' := 56) hc d_M_slotBehind_55 rfl ?_
        refine a_goto (tgt := 60) hc d_M_slotBehind_56 rfl ?_
        refine a_istore_n (pc' := 61) hc d_M_slotBehind_60 rfl rfl (by decide) ?_
        refine a_ninc (pc' := 64) hc d_M_slotBehind_61 rfl rfl (by decide) ?_
        refine a_goto (tgt := 8) hc d_M_slotBehind_64 rfl ?_
        refine AW.lvi 2 (y := nI (sbL τ d (j8 + 1))) rfl (by first | rfl | (simp only [sbL, h10, h27, h44]; done) | (simp [sbL, h10, h27, h44]; done)) ?_
        exact AW.to rfl rfl rfl (ih8 (by omega))
theorem ct_M_writeCopy (hx : MX ax rl ca tys n E) {τ : TS} {k : Nat} {mp : Nat} {num : Int32} {mark : Int32} (hk' : k < 15) (hm : mp < 17) : MC l y_M_writeCopy c_M_writeCopy 7 (some .boolean) 1 D tys A ax rl ca n E τ [.int (nI k), .int (nI mp), .int num, .int mark] (some (.int (bI (!stB τ)))) (wcT τ k mp num mark) := by
  obtain ⟨hn2, hn5⟩ := hx.2.2.2.1
  obtain ⟨hE2, hE10⟩ := hx.2.2.2.2
  refine MC.of rfl (Nat.le_of_ble_eq_true rfl) (cat_all rfl) ?_
  intro pp ee ss mm aa bb me cd hc hK hO hr hk hA
  refine AW.to (lv' := [some (.ref (ax 0)), some (.int (nI k)), some (.int (nI mp)), some (.int num), some (.int mark), none, none]) rfl rfl rfl ?_
  refine a_iload_n (pc' := 1) hc d_M_writeCopy_0 rfl rfl rfl ?_
  refine a_iconst (pc' := 2) (v := nI 3) hc d_M_writeCopy_1 rfl (by decide) ?_
  refine a_ndiv (pc' := 3) hc d_M_writeCopy_2 rfl (by omega) (by omega) (by omega) ?_
  refine a_istore (pc' := 5) hc d_M_writeCopy_3 rfl (by decide) ?_
  refine a_aload_n (pc' := 6) hc d_M_writeCopy_5 rfl rfl rfl ?_
  refine r_calli (pc' := 9) hc hK hO hA hx [] [] (ct_M_stops hx (τ := τ) ) ml_M_86 hd_M_stops ⟨by decide, by decide⟩ rfl rfl (Nat.le_of_ble_eq_true rfl) d_M_writeCopy_6 rfl ?_
  refine a_istore (pc' := 11) hc d_M_writeCopy_9 rfl (by decide) ?_
  refine a_aload_n (pc' := 12) hc d_M_writeCopy_11 rfl rfl rfl ?_
  refine r_get (pc' := 15) hc hK hx 7 (v := .ref (ax 6)) (by decide) rfl fl_M_26 d_M_writeCopy_12 rfl ?_
  refine a_iload (pc' := 17) hc d_M_writeCopy_15 rfl rfl ?_
  refine a_dup2 (pc' := 18) hc d_M_writeCopy_17 rfl rfl rfl ?_
  refine r_iald (pc' := 19) (N := 5) hc hK hx 6 (k / 3) (by decide) rfl (by omega) d_M_writeCopy_18 rfl ?_
  refine a_iconst (pc' := 20) (v := nI 1) hc d_M_writeCopy_19 rfl (by decide) ?_
  refine a_iadd (pc' := 21) hc d_M_writeCopy_20 rfl ?_
  refine r_iast (pc' := 22) (N := 5) hc hK hx 6 (k / 3) (by decide) rfl (by omega) d_M_writeCopy_21 rfl ?_
  refine a_aload_n (pc' := 23) hc d_M_writeCopy_22 rfl rfl rfl ?_
  refine a_iload_n (pc' := 24) hc d_M_writeCopy_23 rfl rfl rfl ?_
  refine a_iload_n (pc' := 25) hc d_M_writeCopy_24 rfl rfl rfl ?_
  refine r_callv (pc' := 28) hc hK hO hA hx [.int (nI mp), .int (nI k)] [] (ct_M_copyMap hx (τ := ts (stT τ) 6 (k / 3) (((stT τ) 6 (k / 3)) + (nI 1))) (a := mp) (b := k) (by omega) (by omega)) ml_M_90 hd_M_copyMap ⟨by decide, by decide⟩ rfl rfl (Nat.le_of_ble_eq_true rfl) d_M_writeCopy_25 rfl ?_
  refine a_aload_n (pc' := 29) hc d_M_writeCopy_28 rfl rfl rfl ?_
  refine r_get (pc' := 32) hc hK hx 5 (v := .ref (ax 4)) (by decide) rfl fl_M_20 d_M_writeCopy_29 rfl ?_
  refine a_iload_n (pc' := 33) hc d_M_writeCopy_32 rfl rfl rfl ?_
  refine a_iload (pc' := 35) hc d_M_writeCopy_33 rfl rfl ?_
  refine a_ifb_eq (pc' := 38) (tgt := 43) hc d_M_writeCopy_35 rfl rfl (fun h35 => ?_) (fun h35 => ?_)
  · skip
    refine a_iload_n (pc' := 44) hc d_M_writeCopy_43 rfl rfl rfl ?_
    refine r_iast (pc' := 45) (N := 15) hc hK hx 4 k (by decide) rfl (by omega) d_M_writeCopy_44 rfl ?_
    refine a_aload_n (pc' := 46) hc d_M_writeCopy_45 rfl rfl rfl ?_
    refine r_get (pc' := 49) hc hK hx 6 (v := .ref (ax 5)) (by decide) rfl fl_M_23 d_M_writeCopy_46 rfl ?_
    refine a_iload_n (pc' := 50) hc d_M_writeCopy_49 rfl rfl rfl ?_
    refine a_iload (pc' := 52) hc d_M_writeCopy_50 rfl rfl ?_
    refine a_ifb_eq (pc' := 55) (tgt := 59) hc d_M_writeCopy_52 rfl rfl (fun h52 => ?_) (fun h52 => absurd (h35.symm.trans h52) (by decide))
    refine a_iload (pc' := 61) hc d_M_writeCopy_59 rfl rfl ?_
    refine r_iast (pc' := 62) (N := 15) hc hK hx 5 k (by decide) rfl (by omega) d_M_writeCopy_61 rfl ?_
    refine a_iload (pc' := 64) hc d_M_writeCopy_62 rfl rfl ?_
    refine a_ifb_ne (pc' := 67) (tgt := 71) hc d_M_writeCopy_64 rfl rfl (fun h64 => absurd (h35.symm.trans h64) (by decide)) (fun h64 => ?_)
    refine a_iconst (pc' := 68) (v := nI 1) hc d_M_writeCopy_67 rfl (by decide) ?_
    refine a_goto (tgt := 72) hc d_M_writeCopy_68 rfl ?_
    exact a_zret hc hr hk (Or.inr rfl) d_M_writeCopy_72 (m_i (by first | rfl | (simp only [wcT, wc1, bI, h35]; done) | (simp [wcT, wc1, bI, h35]; done)) (by first | rfl | (simp only [wcT, wc1, bI, h35]; done) | (simp [wcT, wc1, bI, h35]; done)))
  · skip
    refine a_bipush (pc' := 40) (v := -11) hc d_M_writeCopy_38 rfl (by decide) ?_
    refine a_goto (tgt := 44) hc d_M_writeCopy_40 rfl ?_
    refine r_iast (pc' := 45) (N := 15) hc hK hx 4 k (by decide) rfl (by omega) d_M_writeCopy_44 rfl ?_
    refine a_aload_n (pc' := 46) hc d_M_writeCopy_45 rfl rfl rfl ?_
    refine r_get (pc' := 49) hc hK hx 6 (v := .ref (ax 5)) (by decide) rfl fl_M_23 d_M_writeCopy_46 rfl ?_
    refine a_iload_n (pc' := 50) hc d_M_writeCopy_49 rfl rfl rfl ?_
    refine a_iload (pc' := 52) hc d_M_writeCopy_50 rfl rfl ?_
    refine a_ifb_eq (pc' := 55) (tgt := 59) hc d_M_writeCopy_52 rfl rfl (fun h52 => absurd (h35.symm.trans h52) (by decide)) (fun h52 => ?_)
    refine a_iconst (pc' := 56) (v := nI 0) hc d_M_writeCopy_55 rfl (by decide) ?_
    refine a_goto (tgt := 61) hc d_M_writeCopy_56 rfl ?_
    refine r_iast (pc' := 62) (N := 15) hc hK hx 5 k (by decide) rfl (by omega) d_M_writeCopy_61 rfl ?_
    refine a_iload (pc' := 64) hc d_M_writeCopy_62 rfl rfl ?_
    refine a_ifb_ne (pc' := 67) (tgt := 71) hc d_M_writeCopy_64 rfl rfl (fun h64 => ?_) (fun h64 => absurd (h35.symm.trans h64) (by decide))
    refine a_iconst (pc' := 72) (v := nI 0) hc d_M_writeCopy_71 rfl (by decide) ?_
    exact a_zret hc hr hk (Or.inl rfl) d_M_writeCopy_72 (m_i (by first | rfl | (simp only [wcT, wc1, bI, h35]; done) | (simp [wcT, wc1, bI, h35]; done)) (by first | rfl | (simp only [wcT, wc1, bI, h35]; done) | (simp [wcT, wc1, bI, h35]; done)))
theorem ct_M_commit (hx : MX ax rl ca tys n E) {τ : TS} (h6 : ∀ d, d < 5 → ¬ τ 6 d < 0) : MC l y_M_commit c_M_commit 3 (some .boolean) 2 D tys A ax rl ca n E τ [] (some (.int (bI (cmB τ n)))) (cmW τ n) := by
  obtain ⟨hn2, hn5⟩ := hx.2.2.2.1
  obtain ⟨hE2, hE10⟩ := hx.2.2.2.2
  refine MC.of rfl (Nat.le_of_ble_eq_true rfl) (cat_all rfl) ?_
  intro pp ee ss mm aa bb me cd hc hK hO hr hk hA
  refine AW.to (lv' := [some (.ref (ax 0)), none, none]) rfl rfl rfl ?_
  refine a_aload_n (pc' := 1) hc d_M_commit_0 rfl rfl rfl ?_
  refine a_dup (pc' := 2) hc d_M_commit_1 rfl rfl ?_
  refine r_get (pc' := 5) hc hK hx 10 (v := .int (τ 0 4)) (by decide) rfl fl_M_42 d_M_commit_2 rfl ?_
  refine a_iconst (pc' := 6) (v := nI 1) hc d_M_commit_5 rfl (by decide) ?_
  refine a_iadd (pc' := 7) hc d_M_commit_6 rfl ?_
  refine r_put (pc' := 10) hc hK hx 10 (by decide) fl_M_42 d_M_commit_7 rfl ?_
  refine a_aload_n (pc' := 11) hc d_M_commit_10 rfl rfl rfl ?_
  refine r_get (pc' := 14) hc hK hx 10 (v := .int ((ts τ 0 4 ((τ 0 4) + (nI 1))) 0 4)) (by decide) rfl fl_M_42 d_M_commit_11 rfl ?_
  refine AW.topi (y := τ 0 4 + nI 1) ts_at ?_
  refine a_istore_n (pc' := 15) hc d_M_commit_14 rfl rfl (by decide) ?_
  refine a_iconst (pc' := 16) (v := nI 0) hc d_M_commit_15 rfl (by decide) ?_
  refine a_istore_n (pc' := 17) hc d_M_commit_16 rfl rfl (by decide) ?_
  refine AW.tw (τ1 := cmT τ 0) (by first | rfl | (simp only [cmT]; done) | (simp [cmT]; done)) ?_
  refine AW.loopG n 0 (fun d17 => tw ax rl ca n E (cmT τ d17)) (fun d17 => [some (.ref (ax 0)), some (.int (τ 0 4 + nI 1)), some (.int (nI d17))]) (fun d17 => ∀ j, j < d17 → qC τ j = false) (Nat.zero_le _) (fun j hj => absurd hj (by omega)) rfl rfl (fun d17 hle17 hG17 ih17 => ?_)
  try dsimp only at hG17 ih17 ⊢
  refine a_iload_n (pc' := 18) hc d_M_commit_17 rfl rfl rfl ?_
  refine a_aload_n (pc' := 19) hc d_M_commit_18 rfl rfl rfl ?_
  refine r_get (pc' := 22) hc hK hx 0 (v := .int (nI n)) (by decide) rfl fl_M_29 d_M_commit_19 rfl ?_
  refine a_ncmp_ge (pc' := 25) (tgt := 63) hc d_M_commit_22 rfl rfl (by omega) (by omega) (fun h22 => ?_) (fun h22 => ?_)
  · skip
    have hex22 : d17 = n := by omega
    subst d17
    refine a_aload_n (pc' := 64) hc d_M_commit_63 rfl rfl rfl ?_
    refine a_dup (pc' := 65) hc d_M_commit_64 rfl rfl ?_
    refine r_get (pc' := 68) hc hK hx 8 (v := .int ((cmT τ n) 0 2)) (by decide) rfl fl_M_36 d_M_commit_65 rfl ?_
    refine a_iconst (pc' := 69) (v := nI 1) hc d_M_commit_68 rfl (by decide) ?_
    refine a_iadd (pc' := 70) hc d_M_commit_69 rfl ?_
    refine r_put (pc' := 73) hc hK hx 8 (by decide) fl_M_36 d_M_commit_70 rfl ?_
    refine a_aload_n (pc' := 74) hc d_M_commit_73 rfl rfl rfl ?_
    refine a_iload_n (pc' := 75) hc d_M_commit_74 rfl rfl rfl ?_
    refine r_put (pc' := 78) hc hK hx 9 (by decide) fl_M_39 d_M_commit_75 rfl ?_
    refine a_aload_n (pc' := 79) hc d_M_commit_78 rfl rfl rfl ?_
    refine a_bipush (pc' := 81) (v := nI 16) hc d_M_commit_79 rfl (by decide) ?_
    refine a_bipush (pc' := 83) (v := nI 15) hc d_M_commit_81 rfl (by decide) ?_
    refine r_callv (pc' := 86) hc hK hO hA hx [.int (nI 16), .int (nI 15)] [] (ct_M_copyMap hx (τ := ts (ts (cmT τ n) 0 2 (((cmT τ n) 0 2) + (nI 1))) 0 3 (τ 0 4 + nI 1)) (a := 16) (b := 15) (by omega) (by omega)) ml_M_90 hd_M_copyMap ⟨by decide, by decide⟩ rfl rfl (Nat.le_of_ble_eq_true rfl) d_M_commit_83 rfl ?_
    refine a_iconst (pc' := 87) (v := nI 1) hc d_M_commit_86 rfl (by decide) ?_
    exact a_zret hc hr hk (Or.inr rfl) d_M_commit_87 (m_i (by rw [(cm_done hG17).1]; rfl) ((cm_done hG17).2.symm))
  · skip
    refine a_aload_n (pc' := 26) hc d_M_commit_25 rfl rfl rfl ?_
    refine r_get (pc' := 29) hc hK hx 2 (v := .ref (ax 1)) (by decide) rfl fl_M_7 d_M_commit_26 rfl ?_
    refine a_iload_n (pc' := 30) hc d_M_commit_29 rfl rfl rfl ?_
    refine r_zald (pc' := 31) hc hK hx d17 (by omega) d_M_commit_30 rfl ?_
    refine a_ifb_eq (pc' := 34) (tgt := 57) hc d_M_commit_31 rfl rfl (fun h31 => ?_) (fun h31 => ?_)
    · skip
      refine a_ninc (pc' := 60) hc d_M_commit_57 rfl rfl (by decide) ?_
      refine a_goto (tgt := 17) hc d_M_commit_60 rfl ?_
      refine AW.tw (τ1 := cmT τ (d17 + 1)) (by first | rfl | (simp only [cmT, h22, h31]; done) | (simp [cmT, h22, h31]; done)) ?_
      exact AW.to rfl rfl rfl (ih17 (by omega) (allf_s hG17 (by first | (simp [qC, h31]; done) | (simp at h52; simp [qC, h31, h52]))))
    · skip
      refine a_aload_n (pc' := 35) hc d_M_commit_34 rfl rfl rfl ?_
      refine a_aload_n (pc' := 36) hc d_M_commit_35 rfl rfl rfl ?_
      refine a_iload_n (pc' := 37) hc d_M_commit_36 rfl rfl rfl ?_
      refine r_calli (pc' := 40) hc hK hO hA hx [.int (nI d17)] [.ref (ax 0)] (ct_M_slotBehind hx (τ := cmT τ d17) (d := d17) (by omega) (by rw [cmT_6 τ d17 d17 (Nat.le_refl _)]; exact h6 _ (by omega))) ml_M_97 hd_M_slotBehind ⟨by decide, by decide⟩ rfl rfl (Nat.le_of_ble_eq_true rfl) d_M_commit_37 rfl ?_
      have hb37 := sbL_b (cmT τ d17) d17 3
      refine a_bipush (pc' := 42) (v := nI 16) hc d_M_commit_40 rfl (by decide) ?_
      refine a_aload_n (pc' := 43) hc d_M_commit_42 rfl rfl rfl ?_
      refine r_get (pc' := 46) hc hK hx 8 (v := .int ((cmT τ d17) 0 2)) (by decide) rfl fl_M_36 d_M_commit_43 rfl ?_
      refine a_iconst (pc' := 47) (v := nI 1) hc d_M_commit_46 rfl (by decide) ?_
      refine a_iadd (pc' := 48) hc d_M_commit_47 rfl ?_
      refine a_iload_n (pc' := 49) hc d_M_commit_48 rfl rfl rfl ?_
      refine r_calli (pc' := 52) hc hK hO hA hx [.int (nI (sbL (cmT τ d17) d17 3)), .int (nI 16), .int (((cmT τ d17) 0 2) + (nI 1)), .int (τ 0 4 + nI 1)] [] (ct_M_writeCopy hx (τ := cmT τ d17) (k := sbL (cmT τ d17) d17 3) (mp := 16) (num := ((cmT τ d17) 0 2) + (nI 1)) (mark := τ 0 4 + nI 1) (by omega) (by omega)) ml_M_100 hd_M_writeCopy ⟨by decide, by decide⟩ rfl rfl (Nat.le_of_ble_eq_true rfl) d_M_commit_49 rfl ?_
      refine a_ifb_ne (pc' := 55) (tgt := 57) hc d_M_commit_52 rfl rfl (fun h52 => ?_) (fun h52 => ?_)
      · skip
        refine a_ninc (pc' := 60) hc d_M_commit_57 rfl rfl (by decide) ?_
        refine a_goto (tgt := 17) hc d_M_commit_60 rfl ?_
        refine AW.tw (τ1 := cmT τ (d17 + 1)) (by first | rfl | (simp only [cmT, h22, h31, h52]; done) | (simp [cmT, h22, h31, h52]; done)) ?_
        exact AW.to rfl rfl rfl (ih17 (by omega) (allf_s hG17 (by first | (simp [qC, h31]; done) | (simp at h52; simp [qC, h31, h52]))))
      · skip
        refine a_iconst (pc' := 56) (v := nI 0) hc d_M_commit_55 rfl (by decide) ?_
        exact a_zret hc hr hk (Or.inl rfl) d_M_commit_56 (m_i (by rw [(cm_stop hG17 (by omega) h31 h52).1]; rfl) ((cm_stop hG17 (by omega) h31 h52).2.symm))
theorem ct_M_target (hx : MX ax rl ca tys n E) {τ : TS}  : MC l y_M_target c_M_target 1 (some .int) 1 D tys A ax rl ca n E τ [] (some (.int (gt τ 15 62))) τ := by
  obtain ⟨hn2, hn5⟩ := hx.2.2.2.1
  obtain ⟨hE2, hE10⟩ := hx.2.2.2.2
  refine MC.of rfl (Nat.le_of_ble_eq_true rfl) (cat_all rfl) ?_
  intro pp ee ss mm aa bb me cd hc hK hO hr hk hA
  refine AW.to (lv' := [some (.ref (ax 0))]) rfl rfl rfl ?_
  refine a_aload_n (pc' := 1) hc d_M_target_0 rfl rfl rfl ?_
  refine a_bipush (pc' := 3) (v := nI 15) hc d_M_target_1 rfl (by decide) ?_
  refine a_bipush (pc' := 5) (v := nI 62) hc d_M_target_3 rfl (by decide) ?_
  refine r_calli (pc' := 8) hc hK hO hA hx [.int (nI 15), .int (nI 62)] [] (ct_M_get hx (τ := τ) (mp := 15) (i := 62) (by omega) (by omega)) ml_M_49 hd_M_get ⟨by decide, by decide⟩ rfl rfl (Nat.le_of_ble_eq_true rfl) d_M_target_5 rfl ?_
  exact a_iret hc hr hk d_M_target_8 (m_i (rfl) (rfl))
theorem ct_M_source (hx : MX ax rl ca tys n E) {τ : TS} (hw : WFm τ 15) (h60 : ¬ gt τ 15 60 < 0) (h4 : gN τ 15 60 < 4) (h61 : gN τ 15 61 < 12) : MC l y_M_source c_M_source 1 (some .int) 1 D tys A ax rl ca n E τ [] (some (.int (gt τ 15 (15 * gN τ 15 60 + 3 + gN τ 15 61)))) τ := by
  obtain ⟨hn2, hn5⟩ := hx.2.2.2.1
  obtain ⟨hE2, hE10⟩ := hx.2.2.2.2
  refine MC.of rfl (Nat.le_of_ble_eq_true rfl) (cat_all rfl) ?_
  intro pp ee ss mm aa bb me cd hc hK hO hr hk hA
  refine AW.to (lv' := [some (.ref (ax 0))]) rfl rfl rfl ?_
  refine a_aload_n (pc' := 1) hc d_M_source_0 rfl rfl rfl ?_
  refine a_bipush (pc' := 3) (v := nI 15) hc d_M_source_1 rfl (by decide) ?_
  refine a_bipush (pc' := 5) (v := nI 15) hc d_M_source_3 rfl (by decide) ?_
  refine a_aload_n (pc' := 6) hc d_M_source_5 rfl rfl rfl ?_
  refine a_bipush (pc' := 8) (v := nI 15) hc d_M_source_6 rfl (by decide) ?_
  refine a_bipush (pc' := 10) (v := nI 60) hc d_M_source_8 rfl (by decide) ?_
  refine r_calli (pc' := 13) hc hK hO hA hx [.int (nI 15), .int (nI 60)] [.int (nI 15), .int (nI 15), .ref (ax 0)] (ct_M_get hx (τ := τ) (mp := 15) (i := 60) (by omega) (by omega)) ml_M_49 hd_M_get ⟨by decide, by decide⟩ rfl rfl (Nat.le_of_ble_eq_true rfl) d_M_source_10 rfl ?_
  refine AW.topi (y := nI (gN τ 15 60)) (nat_eq h60) ?_
  refine a_nmul (pc' := 14) hc d_M_source_13 rfl ?_
  refine a_iconst (pc' := 15) (v := nI 3) hc d_M_source_14 rfl (by decide) ?_
  refine a_nadd (pc' := 16) hc d_M_source_15 rfl ?_
  refine a_aload_n (pc' := 17) hc d_M_source_16 rfl rfl rfl ?_
  refine a_bipush (pc' := 19) (v := nI 15) hc d_M_source_17 rfl (by decide) ?_
  refine a_bipush (pc' := 21) (v := nI 61) hc d_M_source_19 rfl (by decide) ?_
  refine r_calli (pc' := 24) hc hK hO hA hx [.int (nI 15), .int (nI 61)] [.int (nI ((15 * (gN τ 15 60)) + 3)), .int (nI 15), .ref (ax 0)] (ct_M_get hx (τ := τ) (mp := 15) (i := 61) (by omega) (by omega)) ml_M_49 hd_M_get ⟨by decide, by decide⟩ rfl rfl (Nat.le_of_ble_eq_true rfl) d_M_source_21 rfl ?_
  refine AW.topi (y := nI (gN τ 15 61)) (hw.n (by omega) (by omega)) ?_
  refine a_nadd (pc' := 25) hc d_M_source_24 rfl ?_
  refine r_calli (pc' := 28) hc hK hO hA hx [.int (nI 15), .int (nI (((15 * (gN τ 15 60)) + 3) + (gN τ 15 61)))] [] (ct_M_get hx (τ := τ) (mp := 15) (i := ((15 * (gN τ 15 60)) + 3) + (gN τ 15 61)) (by omega) (by omega)) ml_M_49 hd_M_get ⟨by decide, by decide⟩ rfl rfl (Nat.le_of_ble_eq_true rfl) d_M_source_25 rfl ?_
  exact a_iret hc hr hk d_M_source_28 (m_i (by first | rfl | (simp only []; done) | (simp []; done)) (rfl))
theorem ct_M_isExtent (hx : MX ax rl ca tys n E) {τ : TS} {v : Int32} {k : Int32} (hw : WFm τ 15) : MC l y_M_isExtent c_M_isExtent 3 (some .boolean) 3 D tys A ax rl ca n E τ [.int v, .int k] (some (.int (bI (exB τ v k)))) τ := by
  obtain ⟨hn2, hn5⟩ := hx.2.2.2.1
  obtain ⟨hE2, hE10⟩ := hx.2.2.2.2
  refine MC.of rfl (Nat.le_of_ble_eq_true rfl) (cat_all rfl) ?_
  intro pp ee ss mm aa bb me cd hc hK hO hr hk hA
  refine AW.to (lv' := [some (.ref (ax 0)), some (.int v), some (.int k)]) rfl rfl rfl ?_
  refine a_aload_n (pc' := 1) hc d_M_isExtent_0 rfl rfl rfl ?_
  refine a_iload_n (pc' := 2) hc d_M_isExtent_1 rfl rfl rfl ?_
  refine r_calli (pc' := 5) hc hK hO hA hx [.int v] [] (ct_M_isVolume hx (τ := τ) (v := v) ) ml_M_117 hd_M_isVolume ⟨by decide, by decide⟩ rfl rfl (Nat.le_of_ble_eq_true rfl) d_M_isExtent_2 rfl ?_
  refine a_ifb_eq (pc' := 8) (tgt := 27) hc d_M_isExtent_5 rfl rfl (fun h5 => ?_) (fun h5 => ?_)
  · skip
    refine a_iconst (pc' := 28) (v := nI 0) hc d_M_isExtent_27 rfl (by decide) ?_
    exact a_zret hc hr hk (Or.inl rfl) d_M_isExtent_28 (m_i (by first | rfl | (simp only [exB, bI, h5]; done) | (simp [exB, bI, h5]; done)) (rfl))
  · skip
    obtain ⟨j, hj, ej, cj, pj⟩ := volB_t h5
    subst ej
    refine a_iload_n (pc' := 9) hc d_M_isExtent_8 rfl rfl rfl ?_
    refine a_if_lt (pc' := 12) (tgt := 27) hc d_M_isExtent_9 rfl rfl (fun h9 => ?_) (fun h9 => ?_)
    · skip
      refine a_iconst (pc' := 28) (v := nI 0) hc d_M_isExtent_27 rfl (by decide) ?_
      exact a_zret hc hr hk (Or.inl rfl) d_M_isExtent_28 (m_i (by first | rfl | (simp only [exB, bI, h5, cj, h9]; done) | (simp [exB, bI, h5, cj, h9]; done)) (rfl))
    · skip
      refine a_iload_n (pc' := 13) hc d_M_isExtent_12 rfl rfl rfl ?_
      refine a_aload_n (pc' := 14) hc d_M_isExtent_13 rfl rfl rfl ?_
      refine a_bipush (pc' := 16) (v := nI 15) hc d_M_isExtent_14 rfl (by decide) ?_
      refine a_iload_n (pc' := 17) hc d_M_isExtent_16 rfl rfl rfl ?_
      refine r_calli (pc' := 20) hc hK hO hA hx [.int (nI 15), .int (nI j)] [.int k] (ct_M_extentsOf hx (τ := τ) (mp := 15) (v := j) (by omega) (by omega) hw) ml_M_59 hd_M_extentsOf ⟨by decide, by decide⟩ rfl rfl (Nat.le_of_ble_eq_true rfl) d_M_isExtent_17 rfl ?_
      refine a_icmp_ge (pc' := 23) (tgt := 27) hc d_M_isExtent_20 rfl rfl (fun h20 => ?_) (fun h20 => ?_)
      · skip
        refine a_iconst (pc' := 28) (v := nI 0) hc d_M_isExtent_27 rfl (by decide) ?_
        exact a_zret hc hr hk (Or.inl rfl) d_M_isExtent_28 (m_i (by first | rfl | (simp only [exB, bI, h5, cj, h9, h20]; done) | (simp [exB, bI, h5, cj, h9, h20]; done)) (rfl))
      · skip
        refine a_iconst (pc' := 24) (v := nI 1) hc d_M_isExtent_23 rfl (by decide) ?_
        refine a_goto (tgt := 28) hc d_M_isExtent_24 rfl ?_
        exact a_zret hc hr hk (Or.inr rfl) d_M_isExtent_28 (m_i (by first | rfl | (simp only [exB, bI, h5, cj, h9, h20]; done) | (simp [exB, bI, h5, cj, h9, h20]; done)) (rfl))
theorem ct_M_isBlock (hx : MX ax rl ca tys n E) {τ : TS} {v : Int32} {b : Int32} (hw : WFm τ 15) : MC l y_M_isBlock c_M_isBlock 3 (some .boolean) 3 D tys A ax rl ca n E τ [.int v, .int b] (some (.int (bI (blB τ v b)))) τ := by
  obtain ⟨hn2, hn5⟩ := hx.2.2.2.1
  obtain ⟨hE2, hE10⟩ := hx.2.2.2.2
  refine MC.of rfl (Nat.le_of_ble_eq_true rfl) (cat_all rfl) ?_
  intro pp ee ss mm aa bb me cd hc hK hO hr hk hA
  refine AW.to (lv' := [some (.ref (ax 0)), some (.int v), some (.int b)]) rfl rfl rfl ?_
  refine a_aload_n (pc' := 1) hc d_M_isBlock_0 rfl rfl rfl ?_
  refine a_iload_n (pc' := 2) hc d_M_isBlock_1 rfl rfl rfl ?_
  refine r_calli (pc' := 5) hc hK hO hA hx [.int v] [] (ct_M_isVolume hx (τ := τ) (v := v) ) ml_M_117 hd_M_isVolume ⟨by decide, by decide⟩ rfl rfl (Nat.le_of_ble_eq_true rfl) d_M_isBlock_2 rfl ?_
  refine a_ifb_eq (pc' := 8) (tgt := 29) hc d_M_isBlock_5 rfl rfl (fun h5 => ?_) (fun h5 => ?_)
  · skip
    refine a_iconst (pc' := 30) (v := nI 0) hc d_M_isBlock_29 rfl (by decide) ?_
    exact a_zret hc hr hk (Or.inl rfl) d_M_isBlock_30 (m_i (by first | rfl | (simp only [blB, bI, h5]; done) | (simp [blB, bI, h5]; done)) (rfl))
  · skip
    obtain ⟨j, hj, ej, cj, pj⟩ := volB_t h5
    subst ej
    refine a_iload_n (pc' := 9) hc d_M_isBlock_8 rfl rfl rfl ?_
    refine a_if_lt (pc' := 12) (tgt := 29) hc d_M_isBlock_9 rfl rfl (fun h9 => ?_) (fun h9 => ?_)
    · skip
      refine a_iconst (pc' := 30) (v := nI 0) hc d_M_isBlock_29 rfl (by decide) ?_
      exact a_zret hc hr hk (Or.inl rfl) d_M_isBlock_30 (m_i (by first | rfl | (simp only [blB, bI, h5, cj, h9]; done) | (simp [blB, bI, h5, cj, h9]; done)) (rfl))
    · skip
      refine a_iload_n (pc' := 13) hc d_M_isBlock_12 rfl rfl rfl ?_
      refine a_iconst (pc' := 14) (v := nI 4) hc d_M_isBlock_13 rfl (by decide) ?_
      refine a_aload_n (pc' := 15) hc d_M_isBlock_14 rfl rfl rfl ?_
      refine a_bipush (pc' := 17) (v := nI 15) hc d_M_isBlock_15 rfl (by decide) ?_
      refine a_iload_n (pc' := 18) hc d_M_isBlock_17 rfl rfl rfl ?_
      refine r_calli (pc' := 21) hc hK hO hA hx [.int (nI 15), .int (nI j)] [.int (nI 4), .int b] (ct_M_extentsOf hx (τ := τ) (mp := 15) (v := j) (by omega) (by omega) hw) ml_M_59 hd_M_extentsOf ⟨by decide, by decide⟩ rfl rfl (Nat.le_of_ble_eq_true rfl) d_M_isBlock_18 rfl ?_
      refine a_nmul (pc' := 22) hc d_M_isBlock_21 rfl ?_
      refine a_icmp_ge (pc' := 25) (tgt := 29) hc d_M_isBlock_22 rfl rfl (fun h22 => ?_) (fun h22 => ?_)
      · skip
        refine a_iconst (pc' := 30) (v := nI 0) hc d_M_isBlock_29 rfl (by decide) ?_
        exact a_zret hc hr hk (Or.inl rfl) d_M_isBlock_30 (m_i (by first | rfl | (simp only [blB, bI, h5, cj, h9, h22]; done) | (simp [blB, bI, h5, cj, h9, h22]; done)) (rfl))
      · skip
        refine a_iconst (pc' := 26) (v := nI 1) hc d_M_isBlock_25 rfl (by decide) ?_
        refine a_goto (tgt := 30) hc d_M_isBlock_26 rfl ?_
        exact a_zret hc hr hk (Or.inr rfl) d_M_isBlock_30 (m_i (by first | rfl | (simp only [blB, bI, h5, cj, h9, h22]; done) | (simp [blB, bI, h5, cj, h9, h22]; done)) (rfl))
theorem ct_M_cellAt (hx : MX ax rl ca tys n E) {τ : TS} {id : Nat} {c : Nat} (hid : id < 2 ^ 31) : MC l y_M_cellAt c_M_cellAt 3 (some .int) 0 D tys A ax rl ca n E τ [.int (nI id), .int (nI c)] (some (.int (nI (caN id c)))) τ := by
  obtain ⟨hn2, hn5⟩ := hx.2.2.2.1
  obtain ⟨hE2, hE10⟩ := hx.2.2.2.2
  refine MC.of rfl (Nat.le_of_ble_eq_true rfl) (cat_all rfl) ?_
  intro pp ee ss mm aa bb me cd hc hK hO hr hk hA
  refine AW.to (lv' := [some (.ref (ax 0)), some (.int (nI id)), some (.int (nI c))]) rfl rfl rfl ?_
  refine a_bipush (pc' := 2) (v := nI 64) hc d_M_cellAt_0 rfl (by decide) ?_
  refine a_iload_n (pc' := 3) hc d_M_cellAt_2 rfl rfl rfl ?_
  refine a_bipush (pc' := 5) (v := nI 16) hc d_M_cellAt_3 rfl (by decide) ?_
  refine a_ndiv (pc' := 6) hc d_M_cellAt_5 rfl (by omega) (by omega) (by omega) ?_
  refine a_nmul (pc' := 7) hc d_M_cellAt_6 rfl ?_
  refine a_iconst (pc' := 8) (v := nI 4) hc d_M_cellAt_7 rfl (by decide) ?_
  refine a_iload_n (pc' := 9) hc d_M_cellAt_8 rfl rfl rfl ?_
  refine a_bipush (pc' := 11) (v := nI 16) hc d_M_cellAt_9 rfl (by decide) ?_
  refine a_nrem (pc' := 12) hc d_M_cellAt_11 rfl (by omega) (by omega) (by omega) ?_
  refine a_nmul (pc' := 13) hc d_M_cellAt_12 rfl ?_
  refine a_nadd (pc' := 14) hc d_M_cellAt_13 rfl ?_
  refine a_iload_n (pc' := 15) hc d_M_cellAt_14 rfl rfl rfl ?_
  refine a_nadd (pc' := 16) hc d_M_cellAt_15 rfl ?_
  exact a_iret hc hr hk d_M_cellAt_16 (m_i (by first | rfl | (simp only []; done) | (simp []; done)) (rfl))
theorem ct_M_extentOf (hx : MX ax rl ca tys n E) {τ : TS} {v : Nat} {b : Nat} (hv : v < 4) (hb : b < 2 ^ 30) (hw : WFm τ 15) (h1 : 0 < gN τ 15 (15 * v)) (hs : 0 < gN τ 15 (15 * v + 1)) : MC l y_M_extentOf c_M_extentOf 6 (some .int) 2 D tys A ax rl ca n E τ [.int (nI v), .int (nI b)] (some (.int (nI (eoN (gN τ 15 (15 * v)) (gN τ 15 (15 * v + 1)) b)))) τ := by
  obtain ⟨hn2, hn5⟩ := hx.2.2.2.1
  obtain ⟨hE2, hE10⟩ := hx.2.2.2.2
  have hw4 := (hw.2 v hv).1
  have hsl := gN_lt τ 15 (15 * v + 1)
  have hmd : b % (4 * gN τ 15 (15 * v)) < 4 * gN τ 15 (15 * v) := Nat.mod_lt _ (by omega)
  have hdv : b % (4 * gN τ 15 (15 * v)) / gN τ 15 (15 * v + 1) ≤ b % (4 * gN τ 15 (15 * v)) := Nat.div_le_self _ _
  refine MC.of rfl (Nat.le_of_ble_eq_true rfl) (cat_all rfl) ?_
  intro pp ee ss mm aa bb me cd hc hK hO hr hk hA
  refine AW.to (lv' := [some (.ref (ax 0)), some (.int (nI v)), some (.int (nI b)), none, none, none]) rfl rfl rfl ?_
  refine a_aload_n (pc' := 1) hc d_M_extentOf_0 rfl rfl rfl ?_
  refine a_bipush (pc' := 3) (v := nI 15) hc d_M_extentOf_1 rfl (by decide) ?_
  refine a_iload_n (pc' := 4) hc d_M_extentOf_3 rfl rfl rfl ?_
  refine r_calli (pc' := 7) hc hK hO hA hx [.int (nI 15), .int (nI v)] [] (ct_M_width hx (τ := τ) (mp := 15) (v := v) (by omega) (by omega)) ml_M_56 hd_M_width ⟨by decide, by decide⟩ rfl rfl (Nat.le_of_ble_eq_true rfl) d_M_extentOf_4 rfl ?_
  refine AW.topi (y := nI (gN τ 15 (15 * v))) (hw.n (by omega) (by omega)) ?_
  refine a_istore_n (pc' := 8) hc d_M_extentOf_7 rfl rfl (by decide) ?_
  refine a_aload_n (pc' := 9) hc d_M_extentOf_8 rfl rfl rfl ?_
  refine a_bipush (pc' := 11) (v := nI 15) hc d_M_extentOf_9 rfl (by decide) ?_
  refine a_bipush (pc' := 13) (v := nI 15) hc d_M_extentOf_11 rfl (by decide) ?_
  refine a_iload_n (pc' := 14) hc d_M_extentOf_13 rfl rfl rfl ?_
  refine a_nmul (pc' := 15) hc d_M_extentOf_14 rfl ?_
  refine a_iconst (pc' := 16) (v := nI 1) hc d_M_extentOf_15 rfl (by decide) ?_
  refine a_nadd (pc' := 17) hc d_M_extentOf_16 rfl ?_
  refine r_calli (pc' := 20) hc hK hO hA hx [.int (nI 15), .int (nI ((15 * v) + 1))] [] (ct_M_get hx (τ := τ) (mp := 15) (i := (15 * v) + 1) (by omega) (by omega)) ml_M_49 hd_M_get ⟨by decide, by decide⟩ rfl rfl (Nat.le_of_ble_eq_true rfl) d_M_extentOf_17 rfl ?_
  refine AW.topi (y := nI (gN τ 15 (15 * v + 1))) (hw.n (by omega) (by omega)) ?_
  refine a_istore (pc' := 22) hc d_M_extentOf_20 rfl (by decide) ?_
  refine a_iload_n (pc' := 23) hc d_M_extentOf_22 rfl rfl rfl ?_
  refine a_iconst (pc' := 24) (v := nI 4) hc d_M_extentOf_23 rfl (by decide) ?_
  refine a_iload_n (pc' := 25) hc d_M_extentOf_24 rfl rfl rfl ?_
  refine a_nmul (pc' := 26) hc d_M_extentOf_25 rfl ?_
  refine a_nrem (pc' := 27) hc d_M_extentOf_26 rfl (by omega) (by omega) (by omega) ?_
  refine a_istore (pc' := 29) hc d_M_extentOf_27 rfl (by decide) ?_
  refine a_iload_n (pc' := 30) hc d_M_extentOf_29 rfl rfl rfl ?_
  refine a_iload_n (pc' := 31) hc d_M_extentOf_30 rfl rfl rfl ?_
  refine a_iconst (pc' := 32) (v := nI 4) hc d_M_extentOf_31 rfl (by decide) ?_
  refine a_iload_n (pc' := 33) hc d_M_extentOf_32 rfl rfl rfl ?_
  refine a_nmul (pc' := 34) hc d_M_extentOf_33 rfl ?_
  refine a_ndiv (pc' := 35) hc d_M_extentOf_34 rfl (by omega) (by omega) (by omega) ?_
  refine a_nmul (pc' := 36) hc d_M_extentOf_35 rfl ?_
  refine a_iload (pc' := 38) hc d_M_extentOf_36 rfl rfl ?_
  refine a_iload (pc' := 40) hc d_M_extentOf_38 rfl rfl ?_
  refine a_ndiv (pc' := 41) hc d_M_extentOf_40 rfl (by omega) (by omega) (by omega) ?_
  refine a_iload_n (pc' := 42) hc d_M_extentOf_41 rfl rfl rfl ?_
  refine a_nrem (pc' := 43) hc d_M_extentOf_42 rfl (by omega) (by omega) (by omega) ?_
  refine a_nadd (pc' := 44) hc d_M_extentOf_43 rfl ?_
  exact a_iret hc hr hk d_M_extentOf_44 (m_i (by first | rfl | (simp only []; done) | (simp []; done)) (rfl))
theorem ct_M_cellOf (hx : MX ax rl ca tys n E) {τ : TS} {v : Nat} {b : Nat} (hv : v < 4) (hb : b < 2 ^ 30) (hw : WFm τ 15) (h1 : 0 < gN τ 15 (15 * v)) (hs : 0 < gN τ 15 (15 * v + 1)) : MC l y_M_cellOf c_M_cellOf 6 (some .int) 2 D tys A ax rl ca n E τ [.int (nI v), .int (nI b)] (some (.int (nI (coN (gN τ 15 (15 * v)) (gN τ 15 (15 * v + 1)) b)))) τ := by
  obtain ⟨hn2, hn5⟩ := hx.2.2.2.1
  obtain ⟨hE2, hE10⟩ := hx.2.2.2.2
  have hw4 := (hw.2 v hv).1
  have hsl := gN_lt τ 15 (15 * v + 1)
  have hmd : b % (4 * gN τ 15 (15 * v)) < 4 * gN τ 15 (15 * v) := Nat.mod_lt _ (by omega)
  have hdv : b % (4 * gN τ 15 (15 * v)) / gN τ 15 (15 * v + 1) ≤ b % (4 * gN τ 15 (15 * v)) := Nat.div_le_self _ _
  refine MC.of rfl (Nat.le_of_ble_eq_true rfl) (cat_all rfl) ?_
  intro pp ee ss mm aa bb me cd hc hK hO hr hk hA
  refine AW.to (lv' := [some (.ref (ax 0)), some (.int (nI v)), some (.int (nI b)), none, none, none]) rfl rfl rfl ?_
  refine a_aload_n (pc' := 1) hc d_M_cellOf_0 rfl rfl rfl ?_
  refine a_bipush (pc' := 3) (v := nI 15) hc d_M_cellOf_1 rfl (by decide) ?_
  refine a_iload_n (pc' := 4) hc d_M_cellOf_3 rfl rfl rfl ?_
  refine r_calli (pc' := 7) hc hK hO hA hx [.int (nI 15), .int (nI v)] [] (ct_M_width hx (τ := τ) (mp := 15) (v := v) (by omega) (by omega)) ml_M_56 hd_M_width ⟨by decide, by decide⟩ rfl rfl (Nat.le_of_ble_eq_true rfl) d_M_cellOf_4 rfl ?_
  refine AW.topi (y := nI (gN τ 15 (15 * v))) (hw.n (by omega) (by omega)) ?_
  refine a_istore_n (pc' := 8) hc d_M_cellOf_7 rfl rfl (by decide) ?_
  refine a_aload_n (pc' := 9) hc d_M_cellOf_8 rfl rfl rfl ?_
  refine a_bipush (pc' := 11) (v := nI 15) hc d_M_cellOf_9 rfl (by decide) ?_
  refine a_bipush (pc' := 13) (v := nI 15) hc d_M_cellOf_11 rfl (by decide) ?_
  refine a_iload_n (pc' := 14) hc d_M_cellOf_13 rfl rfl rfl ?_
  refine a_nmul (pc' := 15) hc d_M_cellOf_14 rfl ?_
  refine a_iconst (pc' := 16) (v := nI 1) hc d_M_cellOf_15 rfl (by decide) ?_
  refine a_nadd (pc' := 17) hc d_M_cellOf_16 rfl ?_
  refine r_calli (pc' := 20) hc hK hO hA hx [.int (nI 15), .int (nI ((15 * v) + 1))] [] (ct_M_get hx (τ := τ) (mp := 15) (i := (15 * v) + 1) (by omega) (by omega)) ml_M_49 hd_M_get ⟨by decide, by decide⟩ rfl rfl (Nat.le_of_ble_eq_true rfl) d_M_cellOf_17 rfl ?_
  refine AW.topi (y := nI (gN τ 15 (15 * v + 1))) (hw.n (by omega) (by omega)) ?_
  refine a_istore (pc' := 22) hc d_M_cellOf_20 rfl (by decide) ?_
  refine a_iload_n (pc' := 23) hc d_M_cellOf_22 rfl rfl rfl ?_
  refine a_iconst (pc' := 24) (v := nI 4) hc d_M_cellOf_23 rfl (by decide) ?_
  refine a_iload_n (pc' := 25) hc d_M_cellOf_24 rfl rfl rfl ?_
  refine a_nmul (pc' := 26) hc d_M_cellOf_25 rfl ?_
  refine a_nrem (pc' := 27) hc d_M_cellOf_26 rfl (by omega) (by omega) (by omega) ?_
  refine a_istore (pc' := 29) hc d_M_cellOf_27 rfl (by decide) ?_
  refine a_iload (pc' := 31) hc d_M_cellOf_29 rfl rfl ?_
  refine a_iload (pc' := 33) hc d_M_cellOf_31 rfl rfl ?_
  refine a_ndiv (pc' := 34) hc d_M_cellOf_33 rfl (by omega) (by omega) (by omega) ?_
  refine a_iload_n (pc' := 35) hc d_M_cellOf_34 rfl rfl rfl ?_
  refine a_ndiv (pc' := 36) hc d_M_cellOf_35 rfl (by omega) (by omega) (by omega) ?_
  refine a_iload (pc' := 38) hc d_M_cellOf_36 rfl rfl ?_
  refine a_nmul (pc' := 39) hc d_M_cellOf_38 rfl ?_
  refine a_iload (pc' := 41) hc d_M_cellOf_39 rfl rfl ?_
  refine a_iload (pc' := 43) hc d_M_cellOf_41 rfl rfl ?_
  refine a_nrem (pc' := 44) hc d_M_cellOf_43 rfl (by omega) (by omega) (by omega) ?_
  refine a_nadd (pc' := 45) hc d_M_cellOf_44 rfl ?_
  exact a_iret hc hr hk d_M_cellOf_45 (m_i (by first | rfl | (simp only []; done) | (simp []; done)) (rfl))
theorem ct_M_holds (hx : MX ax rl ca tys n E) {τ : TS} {d : Nat} {num : Int32} {mark : Int32} (hd : d < 5) : MC l y_M_holds c_M_holds 6 (some .boolean) 0 D tys A ax rl ca n E τ [.int (nI d), .int num, .int mark] (some (.int (bI (hoB τ d num mark)))) τ := by
  obtain ⟨hn2, hn5⟩ := hx.2.2.2.1
  obtain ⟨hE2, hE10⟩ := hx.2.2.2.2
  refine MC.of rfl (Nat.le_of_ble_eq_true rfl) (cat_all rfl) ?_
  intro pp ee ss mm aa bb me cd hc hK hO hr hk hA
  refine AW.to (lv' := [some (.ref (ax 0)), some (.int (nI d)), some (.int num), some (.int mark), none, none]) rfl rfl rfl ?_
  refine a_iconst (pc' := 1) (v := nI 0) hc d_M_holds_0 rfl (by decide) ?_
  refine a_istore (pc' := 3) hc d_M_holds_1 rfl (by decide) ?_
  refine a_iconst (pc' := 4) (v := nI 3) hc d_M_holds_3 rfl (by decide) ?_
  refine a_iload_n (pc' := 5) hc d_M_holds_4 rfl rfl rfl ?_
  refine a_nmul (pc' := 6) hc d_M_holds_5 rfl ?_
  refine a_istore (pc' := 8) hc d_M_holds_6 rfl (by decide) ?_
  refine AW.lvi 4 (y := bI (orA false 0 (qO τ d num mark))) rfl (by first | rfl | (simp only [orA_s, orA_0, qO, bI]; done) | (simp [orA_s, orA_0, qO, bI]; done)) ?_
  refine AW.lvi 5 (y := nI (3 * d + 0)) rfl (by first | rfl | (simp only [orA_s, orA_0, qO, bI]; done) | (simp [orA_s, orA_0, qO, bI]; done)) ?_
  refine AW.loop 3 0 (fun j8 => tw ax rl ca n E τ) (fun j8 => [some (.ref (ax 0)), some (.int (nI d)), some (.int num), some (.int mark), some (.int (bI (orA false j8 (qO τ d num mark)))), some (.int (nI (3 * d + j8)))]) (Nat.zero_le _) rfl rfl (fun j8 hle8 ih8 => ?_)
  try dsimp only at ih8 ⊢
  refine a_iload (pc' := 10) hc d_M_holds_8 rfl rfl ?_
  refine a_iconst (pc' := 11) (v := nI 3) hc d_M_holds_10 rfl (by decide) ?_
  refine a_iload_n (pc' := 12) hc d_M_holds_11 rfl rfl rfl ?_
  refine a_nmul (pc' := 13) hc d_M_holds_12 rfl ?_
  refine a_iconst (pc' := 14) (v := nI 3) hc d_M_holds_13 rfl (by decide) ?_
  refine a_nadd (pc' := 15) hc d_M_holds_14 rfl ?_
  refine a_ncmp_ge (pc' := 18) (tgt := 58) hc d_M_holds_15 rfl rfl (by omega) (by omega) (fun h15 => ?_) (fun h15 => ?_)
  · skip
    have hex15 : j8 = 3 := by omega
    subst j8
    refine a_iload (pc' := 60) hc d_M_holds_58 rfl rfl ?_
    exact a_zret hc hr hk (bI_or _) d_M_holds_60 (m_i (by first | rfl | (simp only [orA_s, orA_0, qO, bI, h15]; done) | (simp [orA_s, orA_0, qO, bI, h15]; done)) (rfl))
  · skip
    refine a_iload (pc' := 20) hc d_M_holds_18 rfl rfl ?_
    refine a_ifb_ne (pc' := 23) (tgt := 45) hc d_M_holds_20 rfl rfl (fun h20 => ?_) (fun h20 => ?_)
    · skip
      refine a_iconst (pc' := 46) (v := nI 1) hc d_M_holds_45 rfl (by decide) ?_
      refine a_goto (tgt := 50) hc d_M_holds_46 rfl ?_
      refine a_istore (pc' := 52) hc d_M_holds_50 rfl (by decide) ?_
      refine a_ninc (pc' := 55) hc d_M_holds_52 rfl rfl (by decide) ?_
      refine a_goto (tgt := 8) hc d_M_holds_55 rfl ?_
      refine AW.lvi 4 (y := bI (orA false (j8 + 1) (qO τ d num mark))) rfl (by first | rfl | (simp only [orA_s, orA_0, qO, bI, h15, h20]; done) | (simp [orA_s, orA_0, qO, bI, h15, h20]; done)) ?_
      refine AW.lvi 5 (y := nI (3 * d + (j8 + 1))) rfl (by first | rfl | (simp only [orA_s, orA_0, qO, bI, h15, h20]; done) | (simp [orA_s, orA_0, qO, bI, h15, h20]; done)) ?_
      exact AW.to rfl rfl rfl (ih8 (by omega))
    · skip
      refine a_aload_n (pc' := 24) hc d_M_holds_23 rfl rfl rfl ?_
      refine r_get (pc' := 27) hc hK hx 5 (v := .ref (ax 4)) (by decide) rfl fl_M_20 d_M_holds_24 rfl ?_
      refine a_iload (pc' := 29) hc d_M_holds_27 rfl rfl ?_
      refine r_iald (pc' := 30) (N := 15) hc hK hx 4 (3 * d + j8) (by decide) rfl (by omega) d_M_holds_29 rfl ?_
      refine a_iload_n (pc' := 31) hc d_M_holds_30 rfl rfl rfl ?_
      refine a_icmp_ne (pc' := 34) (tgt := 49) hc d_M_holds_31 rfl rfl (fun h31 => ?_) (fun h31 => ?_)
      · skip
        refine a_iconst (pc' := 50) (v := nI 0) hc d_M_holds_49 rfl (by decide) ?_
        refine a_istore (pc' := 52) hc d_M_holds_50 rfl (by decide) ?_
        refine a_ninc (pc' := 55) hc d_M_holds_52 rfl rfl (by decide) ?_
        refine a_goto (tgt := 8) hc d_M_holds_55 rfl ?_
        refine AW.lvi 4 (y := bI (orA false (j8 + 1) (qO τ d num mark))) rfl (by first | rfl | (simp only [orA_s, orA_0, qO, bI, h15, h20, h31]; done) | (simp [orA_s, orA_0, qO, bI, h15, h20, h31]; done)) ?_
        refine AW.lvi 5 (y := nI (3 * d + (j8 + 1))) rfl (by first | rfl | (simp only [orA_s, orA_0, qO, bI, h15, h20, h31]; done) | (simp [orA_s, orA_0, qO, bI, h15, h20, h31]; done)) ?_
        exact AW.to rfl rfl rfl (ih8 (by omega))
      · skip
        refine a_aload_n (pc' := 35) hc d_M_holds_34 rfl rfl rfl ?_
        refine r_get (pc' := 38) hc hK hx 6 (v := .ref (ax 5)) (by decide) rfl fl_M_23 d_M_holds_35 rfl ?_
        refine a_iload (pc' := 40) hc d_M_holds_38 rfl rfl ?_
        refine r_iald (pc' := 41) (N := 15) hc hK hx 5 (3 * d + j8) (by decide) rfl (by omega) d_M_holds_40 rfl ?_
        refine a_iload_n (pc' := 42) hc d_M_holds_41 rfl rfl rfl ?_
        refine a_icmp_ne (pc' := 45) (tgt := 49) hc d_M_holds_42 rfl rfl (fun h42 => ?_) (fun h42 => ?_)
        · skip
          refine a_iconst (pc' := 50) (v := nI 0) hc d_M_holds_49 rfl (by decide) ?_
          refine a_istore (pc' := 52) hc d_M_holds_50 rfl (by decide) ?_
          refine a_ninc (pc' := 55) hc d_M_holds_52 rfl rfl (by decide) ?_
          refine a_goto (tgt := 8) hc d_M_holds_55 rfl ?_
          refine AW.lvi 4 (y := bI (orA false (j8 + 1) (qO τ d num mark))) rfl (by first | rfl | (simp only [orA_s, orA_0, qO, bI, h15, h20, h31, h42]; done) | (simp [orA_s, orA_0, qO, bI, h15, h20, h31, h42]; done)) ?_
          refine AW.lvi 5 (y := nI (3 * d + (j8 + 1))) rfl (by first | rfl | (simp only [orA_s, orA_0, qO, bI, h15, h20, h31, h42]; done) | (simp [orA_s, orA_0, qO, bI, h15, h20, h31, h42]; done)) ?_
          exact AW.to rfl rfl rfl (ih8 (by omega))
        · skip
          refine a_iconst (pc' := 46) (v := nI 1) hc d_M_holds_45 rfl (by decide) ?_
          refine a_goto (tgt := 50) hc d_M_holds_46 rfl ?_
          refine a_istore (pc' := 52) hc d_M_holds_50 rfl (by decide) ?_
          refine a_ninc (pc' := 55) hc d_M_holds_52 rfl rfl (by decide) ?_
          refine a_goto (tgt := 8) hc d_M_holds_55 rfl ?_
          refine AW.lvi 4 (y := bI (orA false (j8 + 1) (qO τ d num mark))) rfl (by first | rfl | (simp only [orA_s, orA_0, qO, bI, h15, h20, h31, h42]; done) | (simp [orA_s, orA_0, qO, bI, h15, h20, h31, h42]; done)) ?_
          refine AW.lvi 5 (y := nI (3 * d + (j8 + 1))) rfl (by first | rfl | (simp only [orA_s, orA_0, qO, bI, h15, h20, h31, h42]; done) | (simp [orA_s, orA_0, qO, bI, h15, h20, h31, h42]; done)) ?_
          exact AW.to rfl rfl rfl (ih8 (by omega))
theorem ct_M_choose (hx : MX ax rl ca tys n E) {τ : TS}  : MC l y_M_choose c_M_choose 5 (some .int) 1 D tys A ax rl ca n E τ [] (some (.int (chI (chL τ n (3 * n))))) τ := by
  obtain ⟨hn2, hn5⟩ := hx.2.2.2.1
  obtain ⟨hE2, hE10⟩ := hx.2.2.2.2
  refine MC.of rfl (Nat.le_of_ble_eq_true rfl) (cat_all rfl) ?_
  intro pp ee ss mm aa bb me cd hc hK hO hr hk hA
  refine AW.to (lv' := [some (.ref (ax 0)), none, none, none, none]) rfl rfl rfl ?_
  refine a_iconst (pc' := 1) (v := -1) hc d_M_choose_0 rfl (by decide) ?_
  refine a_istore_n (pc' := 2) hc d_M_choose_1 rfl rfl (by decide) ?_
  refine a_iconst (pc' := 3) (v := nI 0) hc d_M_choose_2 rfl (by decide) ?_
  refine a_istore_n (pc' := 4) hc d_M_choose_3 rfl rfl (by decide) ?_
  refine AW.lvi 1 (y := chI (chL τ n 0)) rfl (by first | rfl | (simp only [cntL_s, cntL_0, qN, bI]; done) | (simp [cntL_s, cntL_0, qN, bI]; done)) ?_
  refine AW.loop (3 * n) 0 (fun k4 => tw ax rl ca n E τ) (fun k4 => [some (.ref (ax 0)), some (.int (chI (chL τ n k4))), some (.int (nI k4)), none, none]) (Nat.zero_le _) rfl rfl (fun k4 hle4 ih4 => ?_)
  try dsimp only at ih4 ⊢
  refine a_iload_n (pc' := 5) hc d_M_choose_4 rfl rfl rfl ?_
  refine a_iconst (pc' := 6) (v := nI 3) hc d_M_choose_5 rfl (by decide) ?_
  refine a_aload_n (pc' := 7) hc d_M_choose_6 rfl rfl rfl ?_
  refine r_get (pc' := 10) hc hK hx 0 (v := .int (nI n)) (by decide) rfl fl_M_29 d_M_choose_7 rfl ?_
  refine a_nmul (pc' := 11) hc d_M_choose_10 rfl ?_
  refine a_ncmp_ge (pc' := 14) (tgt := 140) hc d_M_choose_11 rfl rfl (by omega) (by omega) (fun h11 => ?_) (fun h11 => ?_)
  · skip
    have hex11 : k4 = 3 * n := by omega
    subst k4
    refine a_iload_n (pc' := 141) hc d_M_choose_140 rfl rfl rfl ?_
    exact a_iret hc hr hk d_M_choose_141 (m_i (rfl) (rfl))
  · skip
    refine a_iconst (pc' := 15) (v := nI 0) hc d_M_choose_14 rfl (by decide) ?_
    refine a_istore_n (pc' := 16) hc d_M_choose_15 rfl rfl (by decide) ?_
    refine a_iconst (pc' := 17) (v := nI 0) hc d_M_choose_16 rfl (by decide) ?_
    refine a_istore (pc' := 19) hc d_M_choose_17 rfl (by decide) ?_
    refine AW.lvi 3 (y := nI (cntL 0 (qN τ k4))) rfl (by first | rfl | (simp only [cntL_s, cntL_0, qN, bI, h11]; done) | (simp [cntL_s, cntL_0, qN, bI, h11]; done)) ?_
    refine AW.loop n 0 (fun d19 => tw ax rl ca n E τ) (fun d19 => [some (.ref (ax 0)), some (.int (chI (chL τ n k4))), some (.int (nI k4)), some (.int (nI (cntL d19 (qN τ k4)))), some (.int (nI d19))]) (Nat.zero_le _) rfl rfl (fun d19 hle19 ih19 => ?_)
    try dsimp only at ih19 ⊢
    refine a_iload (pc' := 21) hc d_M_choose_19 rfl rfl ?_
    refine a_aload_n (pc' := 22) hc d_M_choose_21 rfl rfl rfl ?_
    refine r_get (pc' := 25) hc hK hx 0 (v := .int (nI n)) (by decide) rfl fl_M_29 d_M_choose_22 rfl ?_
    refine a_ncmp_ge (pc' := 28) (tgt := 73) hc d_M_choose_25 rfl rfl (by omega) (by omega) (fun h25 => ?_) (fun h25 => ?_)
    · skip
      have hex25 : d19 = n := by omega
      subst d19
      have hc25 := cntL_le n (qN τ k4)
      refine a_aload_n (pc' := 74) hc d_M_choose_73 rfl rfl rfl ?_
      refine r_get (pc' := 77) hc hK hx 2 (v := .ref (ax 1)) (by decide) rfl fl_M_7 d_M_choose_74 rfl ?_
      refine a_iload_n (pc' := 78) hc d_M_choose_77 rfl rfl rfl ?_
      refine a_iconst (pc' := 79) (v := nI 3) hc d_M_choose_78 rfl (by decide) ?_
      refine a_ndiv (pc' := 80) hc d_M_choose_79 rfl (by omega) (by omega) (by omega) ?_
      refine r_zald (pc' := 81) hc hK hx (k4 / 3) (by omega) d_M_choose_80 rfl ?_
      refine a_ifb_eq (pc' := 84) (tgt := 105) hc d_M_choose_81 rfl rfl (fun h81 => ?_) (fun h81 => ?_)
      · skip
        refine a_iconst (pc' := 106) (v := nI 0) hc d_M_choose_105 rfl (by decide) ?_
        refine a_istore (pc' := 108) hc d_M_choose_106 rfl (by decide) ?_
        refine a_iload (pc' := 110) hc d_M_choose_108 rfl rfl ?_
        refine a_ifn_eq (pc' := 113) (tgt := 134) hc d_M_choose_110 rfl rfl (by omega) (fun h110 => ?_) (fun h110 => absurd h110 (by omega))
        refine a_ninc (pc' := 137) hc d_M_choose_134 rfl rfl (by decide) ?_
        refine a_goto (tgt := 4) hc d_M_choose_137 rfl ?_
        refine AW.mask [true, true, true, false, false] ?_
        refine AW.lvi 1 (y := chI (chL τ n (k4 + 1))) rfl (by first | (simp [chL, mayB, cntL_s, cntL_0, qN, bI, h11, h25, h81]; done) | (simp [chL, mayB, chI, cntL_s, cntL_0, qN, bI, h11, h25, h81]; done)) ?_
        exact AW.to rfl rfl rfl (ih4 (by omega))
      · skip
        refine a_aload_n (pc' := 85) hc d_M_choose_84 rfl rfl rfl ?_
        refine r_get (pc' := 88) hc hK hx 5 (v := .ref (ax 4)) (by decide) rfl fl_M_20 d_M_choose_85 rfl ?_
        refine a_iload_n (pc' := 89) hc d_M_choose_88 rfl rfl rfl ?_
        refine r_iald (pc' := 90) (N := 15) hc hK hx 4 k4 (by decide) rfl (by omega) d_M_choose_89 rfl ?_
        refine a_if_le (pc' := 93) (tgt := 105) hc d_M_choose_90 rfl rfl (fun h90 => ?_) (fun h90 => ?_)
        · skip
          refine a_iconst (pc' := 106) (v := nI 0) hc d_M_choose_105 rfl (by decide) ?_
          refine a_istore (pc' := 108) hc d_M_choose_106 rfl (by decide) ?_
          refine a_iload (pc' := 110) hc d_M_choose_108 rfl rfl ?_
          refine a_ifn_eq (pc' := 113) (tgt := 134) hc d_M_choose_110 rfl rfl (by omega) (fun h110 => ?_) (fun h110 => absurd h110 (by omega))
          refine a_ninc (pc' := 137) hc d_M_choose_134 rfl rfl (by decide) ?_
          refine a_goto (tgt := 4) hc d_M_choose_137 rfl ?_
          refine AW.mask [true, true, true, false, false] ?_
          refine AW.lvi 1 (y := chI (chL τ n (k4 + 1))) rfl (by first | (simp [chL, mayB, cntL_s, cntL_0, qN, bI, h11, h25, h81, h90]; done) | (simp [chL, mayB, chI, cntL_s, cntL_0, qN, bI, h11, h25, h81, h90]; done)) ?_
          exact AW.to rfl rfl rfl (ih4 (by omega))
        · skip
          refine a_aload_n (pc' := 94) hc d_M_choose_93 rfl rfl rfl ?_
          refine a_iload_n (pc' := 95) hc d_M_choose_94 rfl rfl rfl ?_
          refine r_calli (pc' := 98) hc hK hO hA hx [.int (nI (cntL n (qN τ k4)))] [] (ct_M_quorum hx (τ := τ) (q := cntL n (qN τ k4)) (by omega)) ml_M_104 hd_M_quorum ⟨by decide, by decide⟩ rfl rfl (Nat.le_of_ble_eq_true rfl) d_M_choose_95 rfl ?_
          refine a_ifb_eq (pc' := 101) (tgt := 105) hc d_M_choose_98 rfl rfl (fun h98 => ?_) (fun h98 => ?_)
          · skip
            refine a_iconst (pc' := 106) (v := nI 0) hc d_M_choose_105 rfl (by decide) ?_
            refine a_istore (pc' := 108) hc d_M_choose_106 rfl (by decide) ?_
            refine a_iload (pc' := 110) hc d_M_choose_108 rfl rfl ?_
            refine a_ifn_eq (pc' := 113) (tgt := 134) hc d_M_choose_110 rfl rfl (by omega) (fun h110 => ?_) (fun h110 => absurd h110 (by omega))
            refine a_ninc (pc' := 137) hc d_M_choose_134 rfl rfl (by decide) ?_
            refine a_goto (tgt := 4) hc d_M_choose_137 rfl ?_
            refine AW.mask [true, true, true, false, false] ?_
            refine AW.lvi 1 (y := chI (chL τ n (k4 + 1))) rfl (by first | (simp [chL, mayB, cntL_s, cntL_0, qN, bI, h11, h25, h81, h90, h98]; done) | (simp [chL, mayB, chI, cntL_s, cntL_0, qN, bI, h11, h25, h81, h90, h98]; done)) ?_
            exact AW.to rfl rfl rfl (ih4 (by omega))
          · skip
            refine a_iconst (pc' := 102) (v := nI 1) hc d_M_choose_101 rfl (by decide) ?_
            refine a_goto (tgt := 106) hc d_M_choose_102 rfl ?_
            refine a_istore (pc' := 108) hc d_M_choose_106 rfl (by decide) ?_
            refine a_iload (pc' := 110) hc d_M_choose_108 rfl rfl ?_
            refine a_ifn_eq (pc' := 113) (tgt := 134) hc d_M_choose_110 rfl rfl (by omega) (fun h110 => absurd h110 (by omega)) (fun h110 => ?_)
            refine a_iload_n (pc' := 114) hc d_M_choose_113 rfl rfl rfl ?_
            refine a_if_lt (pc' := 117) (tgt := 132) hc d_M_choose_114 rfl rfl (fun h114 => ?_) (fun h114 => ?_)
            · skip
              have e114 := chI_none (fun b hb => by have := chL_lt τ n k4 b hb; omega) h114
              refine a_iload_n (pc' := 133) hc d_M_choose_132 rfl rfl rfl ?_
              refine a_istore_n (pc' := 134) hc d_M_choose_133 rfl rfl (by decide) ?_
              refine a_ninc (pc' := 137) hc d_M_choose_134 rfl rfl (by decide) ?_
              refine a_goto (tgt := 4) hc d_M_choose_137 rfl ?_
              refine AW.mask [true, true, true, false, false] ?_
              refine AW.lvi 1 (y := chI (chL τ n (k4 + 1))) rfl (by first | (simp [chL, mayB, cntL_s, cntL_0, qN, bI, h11, h25, h81, h90, h98, h114, e114]; done) | (simp [chL, mayB, chI, cntL_s, cntL_0, qN, bI, h11, h25, h81, h90, h98, h114, e114]; done)) ?_
              exact AW.to rfl rfl rfl (ih4 (by omega))
            · skip
              obtain ⟨b, e114⟩ := chI_some h114
              have hb114 := chL_lt τ n k4 b e114
              refine AW.lvi 1 (y := nI b) rfl (by rw [e114]; rfl) ?_
              refine a_aload_n (pc' := 118) hc d_M_choose_117 rfl rfl rfl ?_
              refine r_get (pc' := 121) hc hK hx 5 (v := .ref (ax 4)) (by decide) rfl fl_M_20 d_M_choose_118 rfl ?_
              refine a_iload_n (pc' := 122) hc d_M_choose_121 rfl rfl rfl ?_
              refine r_iald (pc' := 123) (N := 15) hc hK hx 4 k4 (by decide) rfl (by omega) d_M_choose_122 rfl ?_
              refine a_aload_n (pc' := 124) hc d_M_choose_123 rfl rfl rfl ?_
              refine r_get (pc' := 127) hc hK hx 5 (v := .ref (ax 4)) (by decide) rfl fl_M_20 d_M_choose_124 rfl ?_
              refine a_iload_n (pc' := 128) hc d_M_choose_127 rfl rfl rfl ?_
              refine r_iald (pc' := 129) (N := 15) hc hK hx 4 b (by decide) rfl (by omega) d_M_choose_128 rfl ?_
              refine a_icmp_le (pc' := 132) (tgt := 134) hc d_M_choose_129 rfl rfl (fun h129 => ?_) (fun h129 => ?_)
              · skip
                refine a_ninc (pc' := 137) hc d_M_choose_134 rfl rfl (by decide) ?_
                refine a_goto (tgt := 4) hc d_M_choose_137 rfl ?_
                refine AW.mask [true, true, true, false, false] ?_
                refine AW.lvi 1 (y := chI (chL τ n (k4 + 1))) rfl (by first | (simp [chL, mayB, cntL_s, cntL_0, qN, bI, h11, h25, h81, h90, h98, h114, e114, h129]; done) | (simp [chL, mayB, chI, cntL_s, cntL_0, qN, bI, h11, h25, h81, h90, h98, h114, e114, h129]; done)) ?_
                exact AW.to rfl rfl rfl (ih4 (by omega))
              · skip
                refine a_iload_n (pc' := 133) hc d_M_choose_132 rfl rfl rfl ?_
                refine a_istore_n (pc' := 134) hc d_M_choose_133 rfl rfl (by decide) ?_
                refine a_ninc (pc' := 137) hc d_M_choose_134 rfl rfl (by decide) ?_
                refine a_goto (tgt := 4) hc d_M_choose_137 rfl ?_
                refine AW.mask [true, true, true, false, false] ?_
                refine AW.lvi 1 (y := chI (chL τ n (k4 + 1))) rfl (by first | (simp [chL, mayB, cntL_s, cntL_0, qN, bI, h11, h25, h81, h90, h98, h114, e114, h129]; done) | (simp [chL, mayB, chI, cntL_s, cntL_0, qN, bI, h11, h25, h81, h90, h98, h114, e114, h129]; done)) ?_
                exact AW.to rfl rfl rfl (ih4 (by omega))
    · skip
      refine a_iload_n (pc' := 29) hc d_M_choose_28 rfl rfl rfl ?_
      refine a_aload_n (pc' := 30) hc d_M_choose_29 rfl rfl rfl ?_
      refine r_get (pc' := 33) hc hK hx 2 (v := .ref (ax 1)) (by decide) rfl fl_M_7 d_M_choose_30 rfl ?_
      refine a_iload (pc' := 35) hc d_M_choose_33 rfl rfl ?_
      refine r_zald (pc' := 36) hc hK hx d19 (by omega) d_M_choose_35 rfl ?_
      refine a_ifb_eq (pc' := 39) (tgt := 64) hc d_M_choose_36 rfl rfl (fun h36 => ?_) (fun h36 => ?_)
      · skip
        refine a_iconst (pc' := 65) (v := nI 0) hc d_M_choose_64 rfl (by decide) ?_
        refine a_nadd (pc' := 66) hc d_M_choose_65 rfl ?_
        refine a_istore_n (pc' := 67) hc d_M_choose_66 rfl rfl (by decide) ?_
        refine a_ninc (pc' := 70) hc d_M_choose_67 rfl rfl (by decide) ?_
        refine a_goto (tgt := 19) hc d_M_choose_70 rfl ?_
        refine AW.lvi 3 (y := nI (cntL (d19 + 1) (qN τ k4))) rfl (by first | rfl | (simp only [cntL_s, cntL_0, qN, bI, h11, h25, h36]; done) | (simp [cntL_s, cntL_0, qN, bI, h11, h25, h36]; done)) ?_
        exact AW.to rfl rfl rfl (ih19 (by omega))
      · skip
        refine a_aload_n (pc' := 40) hc d_M_choose_39 rfl rfl rfl ?_
        refine a_iload (pc' := 42) hc d_M_choose_40 rfl rfl ?_
        refine a_aload_n (pc' := 43) hc d_M_choose_42 rfl rfl rfl ?_
        refine r_get (pc' := 46) hc hK hx 5 (v := .ref (ax 4)) (by decide) rfl fl_M_20 d_M_choose_43 rfl ?_
        refine a_iload_n (pc' := 47) hc d_M_choose_46 rfl rfl rfl ?_
        refine r_iald (pc' := 48) (N := 15) hc hK hx 4 k4 (by decide) rfl (by omega) d_M_choose_47 rfl ?_
        refine a_aload_n (pc' := 49) hc d_M_choose_48 rfl rfl rfl ?_
        refine r_get (pc' := 52) hc hK hx 6 (v := .ref (ax 5)) (by decide) rfl fl_M_23 d_M_choose_49 rfl ?_
        refine a_iload_n (pc' := 53) hc d_M_choose_52 rfl rfl rfl ?_
        refine r_iald (pc' := 54) (N := 15) hc hK hx 5 k4 (by decide) rfl (by omega) d_M_choose_53 rfl ?_
        refine r_calli (pc' := 57) hc hK hO hA hx [.int (nI d19), .int (τ 4 k4), .int (τ 5 k4)] [.int (nI (cntL d19 (qN τ k4)))] (ct_M_holds hx (τ := τ) (d := d19) (num := τ 4 k4) (mark := τ 5 k4) (by omega)) ml_M_151 hd_M_holds ⟨by decide, by decide⟩ rfl rfl (Nat.le_of_ble_eq_true rfl) d_M_choose_54 rfl ?_
        refine a_ifb_eq (pc' := 60) (tgt := 64) hc d_M_choose_57 rfl rfl (fun h57 => ?_) (fun h57 => ?_)
        · skip
          refine a_iconst (pc' := 65) (v := nI 0) hc d_M_choose_64 rfl (by decide) ?_
          refine a_nadd (pc' := 66) hc d_M_choose_65 rfl ?_
          refine a_istore_n (pc' := 67) hc d_M_choose_66 rfl rfl (by decide) ?_
          refine a_ninc (pc' := 70) hc d_M_choose_67 rfl rfl (by decide) ?_
          refine a_goto (tgt := 19) hc d_M_choose_70 rfl ?_
          refine AW.lvi 3 (y := nI (cntL (d19 + 1) (qN τ k4))) rfl (by first | rfl | (simp only [cntL_s, cntL_0, qN, bI, h11, h25, h36, h57]; done) | (simp [cntL_s, cntL_0, qN, bI, h11, h25, h36, h57]; done)) ?_
          exact AW.to rfl rfl rfl (ih19 (by omega))
        · skip
          refine a_iconst (pc' := 61) (v := nI 1) hc d_M_choose_60 rfl (by decide) ?_
          refine a_goto (tgt := 65) hc d_M_choose_61 rfl ?_
          refine a_nadd (pc' := 66) hc d_M_choose_65 rfl ?_
          refine a_istore_n (pc' := 67) hc d_M_choose_66 rfl rfl (by decide) ?_
          refine a_ninc (pc' := 70) hc d_M_choose_67 rfl rfl (by decide) ?_
          refine a_goto (tgt := 19) hc d_M_choose_70 rfl ?_
          refine AW.lvi 3 (y := nI (cntL (d19 + 1) (qN τ k4))) rfl (by first | rfl | (simp only [cntL_s, cntL_0, qN, bI, h11, h25, h36, h57]; done) | (simp [cntL_s, cntL_0, qN, bI, h11, h25, h36, h57]; done)) ?_
          exact AW.to rfl rfl rfl (ih19 (by omega))
theorem ct_M_settle (hx : MX ax rl ca tys n E) {τ : TS} {d : Nat} {num : Int32} {mark : Int32} (hd : d < 5) (h6 : ¬ τ 6 d < 0) : MC l y_M_settle c_M_settle 5 (some .boolean) 2 D tys A ax rl ca n E τ [.int (nI d), .int num, .int mark] (some (.int (bI ((slP τ d num mark).1)))) ((slP τ d num mark).2) := by
  obtain ⟨hn2, hn5⟩ := hx.2.2.2.1
  obtain ⟨hE2, hE10⟩ := hx.2.2.2.2
  refine MC.of rfl (Nat.le_of_ble_eq_true rfl) (cat_all rfl) ?_
  intro pp ee ss mm aa bb me cd hc hK hO hr hk hA
  refine AW.to (lv' := [some (.ref (ax 0)), some (.int (nI d)), some (.int num), some (.int mark), none]) rfl rfl rfl ?_
  refine a_iconst (pc' := 1) (v := nI 3) hc d_M_settle_0 rfl (by decide) ?_
  refine a_iload_n (pc' := 2) hc d_M_settle_1 rfl rfl rfl ?_
  refine a_nmul (pc' := 3) hc d_M_settle_2 rfl ?_
  refine a_istore (pc' := 5) hc d_M_settle_3 rfl (by decide) ?_
  refine AW.lvi 4 (y := nI (3 * d + 0)) rfl (by first | rfl | (simp only [seT, bI]; done) | (simp [seT, bI]; done)) ?_
  refine AW.tw (τ1 := seT τ num d 0) (by first | rfl | (simp only [seT, bI]; done) | (simp [seT, bI]; done)) ?_
  refine AW.loopG 3 0 (fun j5 => tw ax rl ca n E (seT τ num d j5)) (fun j5 => [some (.ref (ax 0)), some (.int (nI d)), some (.int num), some (.int mark), some (.int (nI (3 * d + j5)))]) (fun j5 => ∀ j, j < j5 → qS τ num d j = false) (Nat.zero_le _) (fun j hj => absurd hj (by omega)) rfl rfl (fun j5 hle5 hG5 ih5 => ?_)
  try dsimp only at hG5 ih5 ⊢
  refine a_iload (pc' := 7) hc d_M_settle_5 rfl rfl ?_
  refine a_iconst (pc' := 8) (v := nI 3) hc d_M_settle_7 rfl (by decide) ?_
  refine a_iload_n (pc' := 9) hc d_M_settle_8 rfl rfl rfl ?_
  refine a_nmul (pc' := 10) hc d_M_settle_9 rfl ?_
  refine a_iconst (pc' := 11) (v := nI 3) hc d_M_settle_10 rfl (by decide) ?_
  refine a_nadd (pc' := 12) hc d_M_settle_11 rfl ?_
  refine a_ncmp_ge (pc' := 15) (tgt := 57) hc d_M_settle_12 rfl rfl (by omega) (by omega) (fun h12 => ?_) (fun h12 => ?_)
  · skip
    have hex12 : j5 = 3 := by omega
    subst j5
    have hs12 := sl_done (mark := mark) hG5
    refine a_aload_n (pc' := 58) hc d_M_settle_57 rfl rfl rfl ?_
    refine a_iload_n (pc' := 59) hc d_M_settle_58 rfl rfl rfl ?_
    refine a_iload_n (pc' := 60) hc d_M_settle_59 rfl rfl rfl ?_
    refine a_iload_n (pc' := 61) hc d_M_settle_60 rfl rfl rfl ?_
    refine r_calli (pc' := 64) hc hK hO hA hx [.int (nI d), .int num, .int mark] [] (ct_M_holds hx (τ := seT τ num d 3) (d := d) (num := num) (mark := mark) (by omega)) ml_M_151 hd_M_holds ⟨by decide, by decide⟩ rfl rfl (Nat.le_of_ble_eq_true rfl) d_M_settle_61 rfl ?_
    refine a_ifb_ne (pc' := 67) (tgt := 83) hc d_M_settle_64 rfl rfl (fun h64 => ?_) (fun h64 => ?_)
    · skip
      refine a_iconst (pc' := 84) (v := nI 1) hc d_M_settle_83 rfl (by decide) ?_
      refine a_goto (tgt := 88) hc d_M_settle_84 rfl ?_
      exact a_zret hc hr hk (Or.inr rfl) d_M_settle_88 (m_i (by first | (rw [hs12, h64]; rfl) | (rw [hs12, h64]; show _ = bI (!stB (seT τ num d 3)); rw [h80]; rfl)) (by rw [hs12, h64]; rfl))
    · skip
      refine a_aload_n (pc' := 68) hc d_M_settle_67 rfl rfl rfl ?_
      refine a_aload_n (pc' := 69) hc d_M_settle_68 rfl rfl rfl ?_
      refine a_iload_n (pc' := 70) hc d_M_settle_69 rfl rfl rfl ?_
      refine r_calli (pc' := 73) hc hK hO hA hx [.int (nI d)] [.ref (ax 0)] (ct_M_nextSlot hx (τ := seT τ num d 3) (d := d) (by omega) (by rw [seT_6]; exact h6)) ml_M_94 hd_M_nextSlot ⟨by decide, by decide⟩ rfl rfl (Nat.le_of_ble_eq_true rfl) d_M_settle_70 rfl ?_
      have hb70 : nxN (seT τ num d 3) d < 3 * d + 3 := by unfold nxN; omega
      refine a_bipush (pc' := 75) (v := nI 16) hc d_M_settle_73 rfl (by decide) ?_
      refine a_iload_n (pc' := 76) hc d_M_settle_75 rfl rfl rfl ?_
      refine a_iload_n (pc' := 77) hc d_M_settle_76 rfl rfl rfl ?_
      refine r_calli (pc' := 80) hc hK hO hA hx [.int (nI (nxN (seT τ num d 3) d)), .int (nI 16), .int num, .int mark] [] (ct_M_writeCopy hx (τ := seT τ num d 3) (k := nxN (seT τ num d 3) d) (mp := 16) (num := num) (mark := mark) (by omega) (by omega)) ml_M_100 hd_M_writeCopy ⟨by decide, by decide⟩ rfl rfl (Nat.le_of_ble_eq_true rfl) d_M_settle_77 rfl ?_
      refine a_ifb_eq (pc' := 83) (tgt := 87) hc d_M_settle_80 rfl rfl (fun h80 => ?_) (fun h80 => ?_)
      · skip
        refine a_iconst (pc' := 88) (v := nI 0) hc d_M_settle_87 rfl (by decide) ?_
        exact a_zret hc hr hk (Or.inl rfl) d_M_settle_88 (m_i (by first | (rw [hs12, h64]; rfl) | (rw [hs12, h64]; show _ = bI (!stB (seT τ num d 3)); rw [h80]; rfl)) (by rw [hs12, h64]; rfl))
      · skip
        refine a_iconst (pc' := 84) (v := nI 1) hc d_M_settle_83 rfl (by decide) ?_
        refine a_goto (tgt := 88) hc d_M_settle_84 rfl ?_
        exact a_zret hc hr hk (Or.inr rfl) d_M_settle_88 (m_i (by first | (rw [hs12, h64]; rfl) | (rw [hs12, h64]; show _ = bI (!stB (seT τ num d 3)); rw [h80]; rfl)) (by rw [hs12, h64]; rfl))
  · skip
    refine a_aload_n (pc' := 16) hc d_M_settle_15 rfl rfl rfl ?_
    refine r_get (pc' := 19) hc hK hx 5 (v := .ref (ax 4)) (by decide) rfl fl_M_20 d_M_settle_16 rfl ?_
    refine a_iload (pc' := 21) hc d_M_settle_19 rfl rfl ?_
    refine r_iald (pc' := 22) (N := 15) hc hK hx 4 (3 * d + j5) (by decide) rfl (by omega) d_M_settle_21 rfl ?_
    refine a_iload_n (pc' := 23) hc d_M_settle_22 rfl rfl rfl ?_
    refine a_icmp_le (pc' := 26) (tgt := 51) hc d_M_settle_23 rfl rfl (fun h23 => ?_) (fun h23 => ?_)
    · skip
      refine a_ninc (pc' := 54) hc d_M_settle_51 rfl rfl (by decide) ?_
      refine a_goto (tgt := 5) hc d_M_settle_54 rfl ?_
      refine AW.lvi 4 (y := nI (3 * d + (j5 + 1))) rfl (by first | rfl | (simp only [seT, bI, h12, h23]; done) | (simp [seT, bI, h12, h23]; done)) ?_
      refine AW.tw (τ1 := seT τ num d (j5 + 1)) (by first | rfl | (simp only [seT, bI, h12, h23]; done) | (simp [seT, bI, h12, h23]; done)) ?_
      exact AW.to rfl rfl rfl (ih5 (by omega) (allf_s hG5 (by first | (simp [qS, h23]; done) | (simp [qS, h23, h30]; done))))
    · skip
      refine a_aload_n (pc' := 27) hc d_M_settle_26 rfl rfl rfl ?_
      refine r_calli (pc' := 30) hc hK hO hA hx [] [] (ct_M_stops hx (τ := seT τ num d j5) ) ml_M_86 hd_M_stops ⟨by decide, by decide⟩ rfl rfl (Nat.le_of_ble_eq_true rfl) d_M_settle_27 rfl ?_
      refine a_ifb_eq (pc' := 33) (tgt := 35) hc d_M_settle_30 rfl rfl (fun h30 => ?_) (fun h30 => ?_)
      · skip
        refine a_aload_n (pc' := 36) hc d_M_settle_35 rfl rfl rfl ?_
        refine r_get (pc' := 39) hc hK hx 5 (v := .ref (ax 4)) (by decide) rfl fl_M_20 d_M_settle_36 rfl ?_
        refine a_iload (pc' := 41) hc d_M_settle_39 rfl rfl ?_
        refine a_iconst (pc' := 42) (v := nI 0) hc d_M_settle_41 rfl (by decide) ?_
        refine r_iast (pc' := 43) (N := 15) hc hK hx 4 (3 * d + j5) (by decide) rfl (by omega) d_M_settle_42 rfl ?_
        refine a_aload_n (pc' := 44) hc d_M_settle_43 rfl rfl rfl ?_
        refine r_get (pc' := 47) hc hK hx 6 (v := .ref (ax 5)) (by decide) rfl fl_M_23 d_M_settle_44 rfl ?_
        refine a_iload (pc' := 49) hc d_M_settle_47 rfl rfl ?_
        refine a_iconst (pc' := 50) (v := nI 0) hc d_M_settle_49 rfl (by decide) ?_
        refine r_iast (pc' := 51) (N := 15) hc hK hx 5 (3 * d + j5) (by decide) rfl (by omega) d_M_settle_50 rfl ?_
        refine a_ninc (pc' := 54) hc d_M_settle_51 rfl rfl (by decide) ?_
        refine a_goto (tgt := 5) hc d_M_settle_54 rfl ?_
        refine AW.lvi 4 (y := nI (3 * d + (j5 + 1))) rfl (by first | rfl | (simp only [seT, bI, h12, h23, h30]; done) | (simp [seT, bI, h12, h23, h30]; done)) ?_
        refine AW.tw (τ1 := seT τ num d (j5 + 1)) (by first | rfl | (simp only [seT, bI, h12, h23, h30]; done) | (simp [seT, bI, h12, h23, h30]; done)) ?_
        exact AW.to rfl rfl rfl (ih5 (by omega) (allf_s hG5 (by first | (simp [qS, h23]; done) | (simp [qS, h23, h30]; done))))
      · skip
        refine a_iconst (pc' := 34) (v := nI 0) hc d_M_settle_33 rfl (by decide) ?_
        exact a_zret hc hr hk (Or.inl rfl) d_M_settle_34 (m_i (by rw [sl_stop hG5 (by omega) h23 h30]; rfl) (by rw [sl_stop hG5 (by omega) h23 h30]))
end
section
variable {l : Launch} {D : va_G} {tys : List (ClassId × FieldType)} {A : Nat → Prop} {ax rl : Nat → Nat} {ca : Nat → ClassId} {n E : Nat}
theorem ct_M_pull (hx : MX ax rl ca tys n E) {τ : TS} {d : Int32}  : MC l y_M_pull c_M_pull 2 (some .boolean) 1 D tys A ax rl ca n E τ [.int d] (some (.int (bI ((puP τ n d).1)))) ((puP τ n d).2) := by
  obtain ⟨hn2, hn5⟩ := hx.2.2.2.1
  obtain ⟨hE2, hE10⟩ := hx.2.2.2.2
  refine MC.of rfl (Nat.le_of_ble_eq_true rfl) (cat_all rfl) ?_
  intro pp ee ss mm aa bb me cd hc hK hO hr hk hA
  refine AW.to (lv' := [some (.ref (ax 0)), some (.int d)]) rfl rfl rfl ?_
  refine a_aload_n (pc' := 1) hc d_M_pull_0 rfl rfl rfl ?_
  refine a_iload_n (pc' := 2) hc d_M_pull_1 rfl rfl rfl ?_
  refine r_calli (pc' := 5) hc hK hO hA hx [.int d] [] (ct_M_isDisk hx (τ := τ) (d := d) ) ml_M_148 hd_M_isDisk ⟨by decide, by decide⟩ rfl rfl (Nat.le_of_ble_eq_true rfl) d_M_pull_2 rfl ?_
  refine a_ifb_eq (pc' := 8) (tgt := 17) hc d_M_pull_5 rfl rfl (fun h5 => ?_) (fun h5 => ?_)
  · skip
    refine a_iconst (pc' := 18) (v := nI 0) hc d_M_pull_17 rfl (by decide) ?_
    exact a_zret hc hr hk (Or.inl rfl) d_M_pull_18 (m_i (by first | rfl | (simp only [puP, bI, h5]; done) | (simp [puP, bI, h5]; done)) (by first | rfl | (simp only [puP, bI, h5]; done) | (simp [puP, bI, h5]; done)))
  · skip
    obtain ⟨j, hj, ej, cj⟩ := dkB_t (by omega) h5
    subst ej
    refine a_aload_n (pc' := 9) hc d_M_pull_8 rfl rfl rfl ?_
    refine r_get (pc' := 12) hc hK hx 2 (v := .ref (ax 1)) (by decide) rfl fl_M_7 d_M_pull_9 rfl ?_
    refine a_iload_n (pc' := 13) hc d_M_pull_12 rfl rfl rfl ?_
    refine r_zald (pc' := 14) hc hK hx j (by omega) d_M_pull_13 rfl ?_
    refine a_ifb_ne (pc' := 17) (tgt := 19) hc d_M_pull_14 rfl rfl (fun h14 => ?_) (fun h14 => ?_)
    · skip
      refine a_aload_n (pc' := 20) hc d_M_pull_19 rfl rfl rfl ?_
      refine r_get (pc' := 23) hc hK hx 2 (v := .ref (ax 1)) (by decide) rfl fl_M_7 d_M_pull_20 rfl ?_
      refine a_iload_n (pc' := 24) hc d_M_pull_23 rfl rfl rfl ?_
      refine a_iconst (pc' := 25) (v := nI 0) hc d_M_pull_24 rfl (by decide) ?_
      refine r_zast (pc' := 26) hc hK hx j (Or.inl rfl) (by omega) d_M_pull_25 rfl ?_
      refine a_iconst (pc' := 27) (v := nI 1) hc d_M_pull_26 rfl (by decide) ?_
      exact a_zret hc hr hk (Or.inr rfl) d_M_pull_27 (m_i (by first | rfl | (simp only [puP, bI, h5, cj, h14]; done) | (simp [puP, bI, h5, cj, h14]; done)) (by first | rfl | (simp only [puP, bI, h5, cj, h14]; done) | (simp [puP, bI, h5, cj, h14]; done)))
    · skip
      refine a_iconst (pc' := 18) (v := nI 0) hc d_M_pull_17 rfl (by decide) ?_
      exact a_zret hc hr hk (Or.inl rfl) d_M_pull_18 (m_i (by first | rfl | (simp only [puP, bI, h5, cj, h14]; done) | (simp [puP, bI, h5, cj, h14]; done)) (by first | rfl | (simp only [puP, bI, h5, cj, h14]; done) | (simp [puP, bI, h5, cj, h14]; done)))
theorem ct_M_plug (hx : MX ax rl ca tys n E) {τ : TS} {d : Int32}  : MC l y_M_plug c_M_plug 2 (some .boolean) 1 D tys A ax rl ca n E τ [.int d] (some (.int (bI ((plP τ n d).1)))) ((plP τ n d).2) := by
  obtain ⟨hn2, hn5⟩ := hx.2.2.2.1
  obtain ⟨hE2, hE10⟩ := hx.2.2.2.2
  refine MC.of rfl (Nat.le_of_ble_eq_true rfl) (cat_all rfl) ?_
  intro pp ee ss mm aa bb me cd hc hK hO hr hk hA
  refine AW.to (lv' := [some (.ref (ax 0)), some (.int d)]) rfl rfl rfl ?_
  refine a_aload_n (pc' := 1) hc d_M_plug_0 rfl rfl rfl ?_
  refine a_iload_n (pc' := 2) hc d_M_plug_1 rfl rfl rfl ?_
  refine r_calli (pc' := 5) hc hK hO hA hx [.int d] [] (ct_M_isDisk hx (τ := τ) (d := d) ) ml_M_148 hd_M_isDisk ⟨by decide, by decide⟩ rfl rfl (Nat.le_of_ble_eq_true rfl) d_M_plug_2 rfl ?_
  refine a_ifb_eq (pc' := 8) (tgt := 17) hc d_M_plug_5 rfl rfl (fun h5 => ?_) (fun h5 => ?_)
  · skip
    refine a_iconst (pc' := 18) (v := nI 0) hc d_M_plug_17 rfl (by decide) ?_
    exact a_zret hc hr hk (Or.inl rfl) d_M_plug_18 (m_i (by first | rfl | (simp only [plP, bI, h5]; done) | (simp [plP, bI, h5]; done)) (by first | rfl | (simp only [plP, bI, h5]; done) | (simp [plP, bI, h5]; done)))
  · skip
    obtain ⟨j, hj, ej, cj⟩ := dkB_t (by omega) h5
    subst ej
    refine a_aload_n (pc' := 9) hc d_M_plug_8 rfl rfl rfl ?_
    refine r_get (pc' := 12) hc hK hx 2 (v := .ref (ax 1)) (by decide) rfl fl_M_7 d_M_plug_9 rfl ?_
    refine a_iload_n (pc' := 13) hc d_M_plug_12 rfl rfl rfl ?_
    refine r_zald (pc' := 14) hc hK hx j (by omega) d_M_plug_13 rfl ?_
    refine a_ifb_eq (pc' := 17) (tgt := 19) hc d_M_plug_14 rfl rfl (fun h14 => ?_) (fun h14 => ?_)
    · skip
      refine a_aload_n (pc' := 20) hc d_M_plug_19 rfl rfl rfl ?_
      refine r_get (pc' := 23) hc hK hx 2 (v := .ref (ax 1)) (by decide) rfl fl_M_7 d_M_plug_20 rfl ?_
      refine a_iload_n (pc' := 24) hc d_M_plug_23 rfl rfl rfl ?_
      refine a_iconst (pc' := 25) (v := nI 1) hc d_M_plug_24 rfl (by decide) ?_
      refine r_zast (pc' := 26) hc hK hx j (Or.inr rfl) (by omega) d_M_plug_25 rfl ?_
      refine a_iconst (pc' := 27) (v := nI 1) hc d_M_plug_26 rfl (by decide) ?_
      exact a_zret hc hr hk (Or.inr rfl) d_M_plug_27 (m_i (by first | rfl | (simp only [plP, bI, h5, cj, h14]; done) | (simp [plP, bI, h5, cj, h14]; done)) (by first | rfl | (simp only [plP, bI, h5, cj, h14]; done) | (simp [plP, bI, h5, cj, h14]; done)))
    · skip
      refine a_iconst (pc' := 18) (v := nI 0) hc d_M_plug_17 rfl (by decide) ?_
      exact a_zret hc hr hk (Or.inl rfl) d_M_plug_18 (m_i (by first | rfl | (simp only [plP, bI, h5, cj, h14]; done) | (simp [plP, bI, h5, cj, h14]; done)) (by first | rfl | (simp only [plP, bI, h5, cj, h14]; done) | (simp [plP, bI, h5, cj, h14]; done)))
theorem ct_M_arm (hx : MX ax rl ca tys n E) {τ : TS} {k : Int32}  : MC l y_M_arm c_M_arm 2 (some .boolean) 0 D tys A ax rl ca n E τ [.int k] (some (.int (bI ((amP τ k).1)))) ((amP τ k).2) := by
  obtain ⟨hn2, hn5⟩ := hx.2.2.2.1
  obtain ⟨hE2, hE10⟩ := hx.2.2.2.2
  refine MC.of rfl (Nat.le_of_ble_eq_true rfl) (cat_all rfl) ?_
  intro pp ee ss mm aa bb me cd hc hK hO hr hk hA
  refine AW.to (lv' := [some (.ref (ax 0)), some (.int k)]) rfl rfl rfl ?_
  refine a_iload_n (pc' := 1) hc d_M_arm_0 rfl rfl rfl ?_
  refine a_if_lt (pc' := 4) (tgt := 10) hc d_M_arm_1 rfl rfl (fun h1 => ?_) (fun h1 => ?_)
  · skip
    refine a_iconst (pc' := 11) (v := nI 0) hc d_M_arm_10 rfl (by decide) ?_
    exact a_zret hc hr hk (Or.inl rfl) d_M_arm_11 (m_i (by first | rfl | (simp only [amP, bI, h1]; done) | (simp [amP, bI, h1]; done)) (by first | rfl | (simp only [amP, bI, h1]; done) | (simp [amP, bI, h1]; done)))
  · skip
    refine a_iload_n (pc' := 5) hc d_M_arm_4 rfl rfl rfl ?_
    refine a_bipush (pc' := 7) (v := nI 100) hc d_M_arm_5 rfl (by decide) ?_
    refine a_icmp_le (pc' := 10) (tgt := 12) hc d_M_arm_7 rfl rfl (fun h7 => ?_) (fun h7 => ?_)
    · skip
      refine a_aload_n (pc' := 13) hc d_M_arm_12 rfl rfl rfl ?_
      refine a_iconst (pc' := 14) (v := nI 1) hc d_M_arm_13 rfl (by decide) ?_
      refine r_putz (pc' := 17) hc hK hx 13 (Or.inr rfl) (by decide) fl_M_80 d_M_arm_14 rfl ?_
      refine a_aload_n (pc' := 18) hc d_M_arm_17 rfl rfl rfl ?_
      refine a_iload_n (pc' := 19) hc d_M_arm_18 rfl rfl rfl ?_
      refine r_put (pc' := 22) hc hK hx 14 (by decide) fl_M_83 d_M_arm_19 rfl ?_
      refine a_iconst (pc' := 23) (v := nI 1) hc d_M_arm_22 rfl (by decide) ?_
      exact a_zret hc hr hk (Or.inr rfl) d_M_arm_23 (m_i (by first | rfl | (simp only [amP, bI, h1, h7]; done) | (simp [amP, bI, h1, h7]; done)) (by first | rfl | (simp only [amP, bI, h1, h7]; done) | (simp [amP, bI, h1, h7]; done)))
    · skip
      refine a_iconst (pc' := 11) (v := nI 0) hc d_M_arm_10 rfl (by decide) ?_
      exact a_zret hc hr hk (Or.inl rfl) d_M_arm_11 (m_i (by first | rfl | (simp only [amP, bI, h1, h7]; done) | (simp [amP, bI, h1, h7]; done)) (by first | rfl | (simp only [amP, bI, h1, h7]; done) | (simp [amP, bI, h1, h7]; done)))
theorem ct_M_crash (hx : MX ax rl ca tys n E) {τ : TS}  : MC l y_M_crash c_M_crash 1 (some .boolean) 0 D tys A ax rl ca n E τ [] (some (.int (bI ((crP τ).1)))) ((crP τ).2) := by
  obtain ⟨hn2, hn5⟩ := hx.2.2.2.1
  obtain ⟨hE2, hE10⟩ := hx.2.2.2.2
  refine MC.of rfl (Nat.le_of_ble_eq_true rfl) (cat_all rfl) ?_
  intro pp ee ss mm aa bb me cd hc hK hO hr hk hA
  refine AW.to (lv' := [some (.ref (ax 0))]) rfl rfl rfl ?_
  refine a_aload_n (pc' := 1) hc d_M_crash_0 rfl rfl rfl ?_
  refine r_get (pc' := 4) hc hK hx 11 (v := .int (bI (tb (τ 0 5)))) (by decide) rfl fl_M_45 d_M_crash_1 rfl ?_
  refine a_ifb_ne (pc' := 7) (tgt := 9) hc d_M_crash_4 rfl rfl (fun h4 => ?_) (fun h4 => ?_)
  · skip
    refine a_aload_n (pc' := 10) hc d_M_crash_9 rfl rfl rfl ?_
    refine a_iconst (pc' := 11) (v := nI 0) hc d_M_crash_10 rfl (by decide) ?_
    refine r_putz (pc' := 14) hc hK hx 11 (Or.inl rfl) (by decide) fl_M_45 d_M_crash_11 rfl ?_
    refine a_aload_n (pc' := 15) hc d_M_crash_14 rfl rfl rfl ?_
    refine a_iconst (pc' := 16) (v := nI 0) hc d_M_crash_15 rfl (by decide) ?_
    refine r_putz (pc' := 19) hc hK hx 13 (Or.inl rfl) (by decide) fl_M_80 d_M_crash_16 rfl ?_
    refine a_iconst (pc' := 20) (v := nI 1) hc d_M_crash_19 rfl (by decide) ?_
    exact a_zret hc hr hk (Or.inr rfl) d_M_crash_20 (m_i (by first | rfl | (simp only [crP, bI, h4]; done) | (simp [crP, bI, h4]; done)) (by first | rfl | (simp only [crP, bI, h4]; done) | (simp [crP, bI, h4]; done)))
  · skip
    refine a_iconst (pc' := 8) (v := nI 0) hc d_M_crash_7 rfl (by decide) ?_
    exact a_zret hc hr hk (Or.inl rfl) d_M_crash_8 (m_i (by first | rfl | (simp only [crP, bI, h4]; done) | (simp [crP, bI, h4]; done)) (by first | rfl | (simp only [crP, bI, h4]; done) | (simp [crP, bI, h4]; done)))
theorem ct_M_where (hx : MX ax rl ca tys n E) {τ : TS} {v : Int32} {k : Int32} (hw : WFm τ 15) : MC l y_M_where c_M_where 3 (some .int) 4 D tys A ax rl ca n E τ [.int v, .int k] (some (.int (whI τ v k))) τ := by
  obtain ⟨hn2, hn5⟩ := hx.2.2.2.1
  obtain ⟨hE2, hE10⟩ := hx.2.2.2.2
  refine MC.of rfl (Nat.le_of_ble_eq_true rfl) (cat_all rfl) ?_
  intro pp ee ss mm aa bb me cd hc hK hO hr hk hA
  refine AW.to (lv' := [some (.ref (ax 0)), some (.int v), some (.int k)]) rfl rfl rfl ?_
  refine a_aload_n (pc' := 1) hc d_M_where_0 rfl rfl rfl ?_
  refine r_get (pc' := 4) hc hK hx 11 (v := .int (bI (tb (τ 0 5)))) (by decide) rfl fl_M_45 d_M_where_1 rfl ?_
  refine a_ifb_ne (pc' := 7) (tgt := 10) hc d_M_where_4 rfl rfl (fun h4 => ?_) (fun h4 => ?_)
  · skip
    refine a_aload_n (pc' := 11) hc d_M_where_10 rfl rfl rfl ?_
    refine a_iload_n (pc' := 12) hc d_M_where_11 rfl rfl rfl ?_
    refine a_iload_n (pc' := 13) hc d_M_where_12 rfl rfl rfl ?_
    refine r_calli (pc' := 16) hc hK hO hA hx [.int v, .int k] [] (ct_M_isExtent hx (τ := τ) (v := v) (k := k) hw) ml_M_123 hd_M_isExtent ⟨by decide, by decide⟩ rfl rfl (Nat.le_of_ble_eq_true rfl) d_M_where_13 rfl ?_
    refine a_ifb_eq (pc' := 19) (tgt := 36) hc d_M_where_16 rfl rfl (fun h16 => ?_) (fun h16 => ?_)
    · skip
      refine a_iconst (pc' := 37) (v := -1) hc d_M_where_36 rfl (by decide) ?_
      exact a_iret hc hr hk d_M_where_37 (m_i (by first | rfl | (simp only [whI, h4, h16]; done) | (simp [whI, h4, h16]; done)) (rfl))
    · skip
      obtain ⟨i, j, hi, ei, ci, hj, ej, cj⟩ := exB_t hw h16
      subst ei
      subst ej
      have hx16 := hw.ex hi
      refine a_aload_n (pc' := 20) hc d_M_where_19 rfl rfl rfl ?_
      refine a_bipush (pc' := 22) (v := nI 15) hc d_M_where_20 rfl (by decide) ?_
      refine a_bipush (pc' := 24) (v := nI 15) hc d_M_where_22 rfl (by decide) ?_
      refine a_iload_n (pc' := 25) hc d_M_where_24 rfl rfl rfl ?_
      refine a_nmul (pc' := 26) hc d_M_where_25 rfl ?_
      refine a_iconst (pc' := 27) (v := nI 3) hc d_M_where_26 rfl (by decide) ?_
      refine a_nadd (pc' := 28) hc d_M_where_27 rfl ?_
      refine a_iload_n (pc' := 29) hc d_M_where_28 rfl rfl rfl ?_
      refine a_nadd (pc' := 30) hc d_M_where_29 rfl ?_
      refine r_calli (pc' := 33) hc hK hO hA hx [.int (nI 15), .int (nI (((15 * i) + 3) + j))] [] (ct_M_get hx (τ := τ) (mp := 15) (i := ((15 * i) + 3) + j) (by omega) (by omega)) ml_M_49 hd_M_get ⟨by decide, by decide⟩ rfl rfl (Nat.le_of_ble_eq_true rfl) d_M_where_30 rfl ?_
      refine a_goto (tgt := 37) hc d_M_where_33 rfl ?_
      exact a_iret hc hr hk d_M_where_37 (m_i (by first | rfl | (simp only [whI, h4, h16, ci, cj]; done) | (simp [whI, h4, h16, ci, cj]; done)) (rfl))
  · skip
    refine a_bipush (pc' := 9) (v := -2) hc d_M_where_7 rfl (by decide) ?_
    exact a_iret hc hr hk d_M_where_9 (m_i (by first | rfl | (simp only [whI, h4]; done) | (simp [whI, h4]; done)) (rfl))
theorem ct_M_rows (hx : MX ax rl ca tys n E) {τ : TS} {v : Int32}  : MC l y_M_rows c_M_rows 2 (some .int) 3 D tys A ax rl ca n E τ [.int v] (some (.int (roI τ v))) τ := by
  obtain ⟨hn2, hn5⟩ := hx.2.2.2.1
  obtain ⟨hE2, hE10⟩ := hx.2.2.2.2
  refine MC.of rfl (Nat.le_of_ble_eq_true rfl) (cat_all rfl) ?_
  intro pp ee ss mm aa bb me cd hc hK hO hr hk hA
  refine AW.to (lv' := [some (.ref (ax 0)), some (.int v)]) rfl rfl rfl ?_
  refine a_aload_n (pc' := 1) hc d_M_rows_0 rfl rfl rfl ?_
  refine r_get (pc' := 4) hc hK hx 11 (v := .int (bI (tb (τ 0 5)))) (by decide) rfl fl_M_45 d_M_rows_1 rfl ?_
  refine a_ifb_ne (pc' := 7) (tgt := 12) hc d_M_rows_4 rfl rfl (fun h4 => ?_) (fun h4 => ?_)
  · skip
    refine a_aload_n (pc' := 13) hc d_M_rows_12 rfl rfl rfl ?_
    refine a_iload_n (pc' := 14) hc d_M_rows_13 rfl rfl rfl ?_
    refine r_calli (pc' := 17) hc hK hO hA hx [.int v] [] (ct_M_isVolume hx (τ := τ) (v := v) ) ml_M_117 hd_M_isVolume ⟨by decide, by decide⟩ rfl rfl (Nat.le_of_ble_eq_true rfl) d_M_rows_14 rfl ?_
    refine a_ifb_eq (pc' := 20) (tgt := 30) hc d_M_rows_17 rfl rfl (fun h17 => ?_) (fun h17 => ?_)
    · skip
      refine a_iconst (pc' := 31) (v := -1) hc d_M_rows_30 rfl (by decide) ?_
      exact a_iret hc hr hk d_M_rows_31 (m_i (by first | rfl | (simp only [roI, h4, h17]; done) | (simp [roI, h4, h17]; done)) (rfl))
    · skip
      obtain ⟨j, hj, ej, cj, pj⟩ := volB_t h17
      subst ej
      refine a_aload_n (pc' := 21) hc d_M_rows_20 rfl rfl rfl ?_
      refine a_bipush (pc' := 23) (v := nI 15) hc d_M_rows_21 rfl (by decide) ?_
      refine a_iload_n (pc' := 24) hc d_M_rows_23 rfl rfl rfl ?_
      refine r_calli (pc' := 27) hc hK hO hA hx [.int (nI 15), .int (nI j)] [] (ct_M_rowsOf hx (τ := τ) (mp := 15) (v := j) (by omega) (by omega)) ml_M_53 hd_M_rowsOf ⟨by decide, by decide⟩ rfl rfl (Nat.le_of_ble_eq_true rfl) d_M_rows_24 rfl ?_
      refine a_goto (tgt := 31) hc d_M_rows_27 rfl ?_
      exact a_iret hc hr hk d_M_rows_31 (m_i (by first | rfl | (simp only [roI, h4, h17, cj]; done) | (simp [roI, h4, h17, cj]; done)) (rfl))
  · skip
    refine a_bipush (pc' := 9) (v := -2) hc d_M_rows_7 rfl (by decide) ?_
    refine a_goto (tgt := 31) hc d_M_rows_9 rfl ?_
    exact a_iret hc hr hk d_M_rows_31 (m_i (by first | rfl | (simp only [roI, h4]; done) | (simp [roI, h4]; done)) (rfl))
theorem ct_M_free (hx : MX ax rl ca tys n E) {τ : TS} {d : Int32} (hw : WFm τ 15) : MC l y_M_free c_M_free 2 (some .int) 5 D tys A ax rl ca n E τ [.int d] (some (.int (feI τ n E d))) τ := by
  obtain ⟨hn2, hn5⟩ := hx.2.2.2.1
  obtain ⟨hE2, hE10⟩ := hx.2.2.2.2
  refine MC.of rfl (Nat.le_of_ble_eq_true rfl) (cat_all rfl) ?_
  intro pp ee ss mm aa bb me cd hc hK hO hr hk hA
  refine AW.to (lv' := [some (.ref (ax 0)), some (.int d)]) rfl rfl rfl ?_
  refine a_aload_n (pc' := 1) hc d_M_free_0 rfl rfl rfl ?_
  refine r_get (pc' := 4) hc hK hx 11 (v := .int (bI (tb (τ 0 5)))) (by decide) rfl fl_M_45 d_M_free_1 rfl ?_
  refine a_ifb_ne (pc' := 7) (tgt := 12) hc d_M_free_4 rfl rfl (fun h4 => ?_) (fun h4 => ?_)
  · skip
    refine a_aload_n (pc' := 13) hc d_M_free_12 rfl rfl rfl ?_
    refine a_iload_n (pc' := 14) hc d_M_free_13 rfl rfl rfl ?_
    refine r_calli (pc' := 17) hc hK hO hA hx [.int d] [] (ct_M_isDisk hx (τ := τ) (d := d) ) ml_M_148 hd_M_isDisk ⟨by decide, by decide⟩ rfl rfl (Nat.le_of_ble_eq_true rfl) d_M_free_14 rfl ?_
    refine a_ifb_eq (pc' := 20) (tgt := 30) hc d_M_free_17 rfl rfl (fun h17 => ?_) (fun h17 => ?_)
    · skip
      refine a_iconst (pc' := 31) (v := -1) hc d_M_free_30 rfl (by decide) ?_
      exact a_iret hc hr hk d_M_free_31 (m_i (by first | rfl | (simp only [feI, h4, h17]; done) | (simp [feI, h4, h17]; done)) (rfl))
    · skip
      obtain ⟨j, hj, ej, cj⟩ := dkB_t (by omega) h17
      subst ej
      refine a_aload_n (pc' := 21) hc d_M_free_20 rfl rfl rfl ?_
      refine a_bipush (pc' := 23) (v := nI 15) hc d_M_free_21 rfl (by decide) ?_
      refine a_iload_n (pc' := 24) hc d_M_free_23 rfl rfl rfl ?_
      refine r_calli (pc' := 27) hc hK hO hA hx [.int (nI 15), .int (nI j)] [] (ct_M_freeOf hx (τ := τ) (mp := 15) (d := j) (by omega) (by omega) hw) ml_M_66 hd_M_freeOf ⟨by decide, by decide⟩ rfl rfl (Nat.le_of_ble_eq_true rfl) d_M_free_24 rfl ?_
      refine a_goto (tgt := 31) hc d_M_free_27 rfl ?_
      exact a_iret hc hr hk d_M_free_31 (m_i (by first | rfl | (simp only [feI, h4, h17, cj]; done) | (simp [feI, h4, h17, cj]; done)) (rfl))
  · skip
    refine a_bipush (pc' := 9) (v := -2) hc d_M_free_7 rfl (by decide) ?_
    refine a_goto (tgt := 31) hc d_M_free_9 rfl ?_
    exact a_iret hc hr hk d_M_free_31 (m_i (by first | rfl | (simp only [feI, h4]; done) | (simp [feI, h4]; done)) (rfl))
theorem ct_M_moving (hx : MX ax rl ca tys n E) {τ : TS}  : MC l y_M_moving c_M_moving 2 (some .int) 1 D tys A ax rl ca n E τ [] (some (.int (moI τ))) τ := by
  obtain ⟨hn2, hn5⟩ := hx.2.2.2.1
  obtain ⟨hE2, hE10⟩ := hx.2.2.2.2
  refine MC.of rfl (Nat.le_of_ble_eq_true rfl) (cat_all rfl) ?_
  intro pp ee ss mm aa bb me cd hc hK hO hr hk hA
  refine AW.to (lv' := [some (.ref (ax 0)), none]) rfl rfl rfl ?_
  refine a_aload_n (pc' := 1) hc d_M_moving_0 rfl rfl rfl ?_
  refine r_get (pc' := 4) hc hK hx 11 (v := .int (bI (tb (τ 0 5)))) (by decide) rfl fl_M_45 d_M_moving_1 rfl ?_
  refine a_ifb_ne (pc' := 7) (tgt := 10) hc d_M_moving_4 rfl rfl (fun h4 => ?_) (fun h4 => ?_)
  · skip
    refine a_aload_n (pc' := 11) hc d_M_moving_10 rfl rfl rfl ?_
    refine a_bipush (pc' := 13) (v := nI 15) hc d_M_moving_11 rfl (by decide) ?_
    refine a_bipush (pc' := 15) (v := nI 60) hc d_M_moving_13 rfl (by decide) ?_
    refine r_calli (pc' := 18) hc hK hO hA hx [.int (nI 15), .int (nI 60)] [] (ct_M_get hx (τ := τ) (mp := 15) (i := 60) (by omega) (by omega)) ml_M_49 hd_M_get ⟨by decide, by decide⟩ rfl rfl (Nat.le_of_ble_eq_true rfl) d_M_moving_15 rfl ?_
    refine a_istore_n (pc' := 19) hc d_M_moving_18 rfl rfl (by decide) ?_
    refine a_iload_n (pc' := 20) hc d_M_moving_19 rfl rfl rfl ?_
    refine a_if_ge (pc' := 23) (tgt := 28) hc d_M_moving_20 rfl rfl (fun h20 => ?_) (fun h20 => ?_)
    · skip
      refine a_sipush (pc' := 31) (v := nI 128) hc d_M_moving_28 rfl (by decide) ?_
      refine a_iload_n (pc' := 32) hc d_M_moving_31 rfl rfl rfl ?_
      refine a_imul (pc' := 33) hc d_M_moving_32 rfl ?_
      refine a_bipush (pc' := 35) (v := nI 16) hc d_M_moving_33 rfl (by decide) ?_
      refine a_aload_n (pc' := 36) hc d_M_moving_35 rfl rfl rfl ?_
      refine r_get (pc' := 39) hc hK hx 12 (v := .int (τ 0 6)) (by decide) rfl fl_M_126 d_M_moving_36 rfl ?_
      refine a_imul (pc' := 40) hc d_M_moving_39 rfl ?_
      refine a_iadd (pc' := 41) hc d_M_moving_40 rfl ?_
      refine a_aload_n (pc' := 42) hc d_M_moving_41 rfl rfl rfl ?_
      refine a_bipush (pc' := 44) (v := nI 15) hc d_M_moving_42 rfl (by decide) ?_
      refine a_bipush (pc' := 46) (v := nI 61) hc d_M_moving_44 rfl (by decide) ?_
      refine r_calli (pc' := 49) hc hK hO hA hx [.int (nI 15), .int (nI 61)] [.int (((nI 128) * (gt τ 15 60)) + ((nI 16) * (τ 0 6)))] (ct_M_get hx (τ := τ) (mp := 15) (i := 61) (by omega) (by omega)) ml_M_49 hd_M_get ⟨by decide, by decide⟩ rfl rfl (Nat.le_of_ble_eq_true rfl) d_M_moving_46 rfl ?_
      refine a_iadd (pc' := 50) hc d_M_moving_49 rfl ?_
      exact a_iret hc hr hk d_M_moving_50 (m_i (by first | rfl | (simp only [moI, h4, h20]; done) | (simp [moI, h4, h20]; done)) (rfl))
    · skip
      refine a_bipush (pc' := 25) (v := -8) hc d_M_moving_23 rfl (by decide) ?_
      refine a_goto (tgt := 50) hc d_M_moving_25 rfl ?_
      exact a_iret hc hr hk d_M_moving_50 (m_i (by first | rfl | (simp only [moI, h4, h20]; done) | (simp [moI, h4, h20]; done)) (rfl))
  · skip
    refine a_bipush (pc' := 9) (v := -2) hc d_M_moving_7 rfl (by decide) ?_
    exact a_iret hc hr hk d_M_moving_9 (m_i (by first | rfl | (simp only [moI, h4]; done) | (simp [moI, h4]; done)) (rfl))
theorem ct_M_sequence (hx : MX ax rl ca tys n E) {τ : TS}  : MC l y_M_sequence c_M_sequence 1 (some .int) 0 D tys A ax rl ca n E τ [] (some (.int (sqI τ))) τ := by
  obtain ⟨hn2, hn5⟩ := hx.2.2.2.1
  obtain ⟨hE2, hE10⟩ := hx.2.2.2.2
  refine MC.of rfl (Nat.le_of_ble_eq_true rfl) (cat_all rfl) ?_
  intro pp ee ss mm aa bb me cd hc hK hO hr hk hA
  refine AW.to (lv' := [some (.ref (ax 0))]) rfl rfl rfl ?_
  refine a_aload_n (pc' := 1) hc d_M_sequence_0 rfl rfl rfl ?_
  refine r_get (pc' := 4) hc hK hx 11 (v := .int (bI (tb (τ 0 5)))) (by decide) rfl fl_M_45 d_M_sequence_1 rfl ?_
  refine a_ifb_eq (pc' := 7) (tgt := 14) hc d_M_sequence_4 rfl rfl (fun h4 => ?_) (fun h4 => ?_)
  · skip
    refine a_bipush (pc' := 16) (v := -2) hc d_M_sequence_14 rfl (by decide) ?_
    exact a_iret hc hr hk d_M_sequence_16 (m_i (by first | rfl | (simp only [sqI, h4]; done) | (simp [sqI, h4]; done)) (rfl))
  · skip
    refine a_aload_n (pc' := 8) hc d_M_sequence_7 rfl rfl rfl ?_
    refine r_get (pc' := 11) hc hK hx 8 (v := .int (τ 0 2)) (by decide) rfl fl_M_36 d_M_sequence_8 rfl ?_
    refine a_goto (tgt := 16) hc d_M_sequence_11 rfl ?_
    exact a_iret hc hr hk d_M_sequence_16 (m_i (by first | rfl | (simp only [sqI, h4]; done) | (simp [sqI, h4]; done)) (rfl))
theorem ct_M_slot (hx : MX ax rl ca tys n E) {τ : TS} {d : Int32} {k : Int32}  : MC l y_M_slot c_M_slot 3 (some .int) 1 D tys A ax rl ca n E τ [.int d, .int k] (some (.int (soI τ n d k))) τ := by
  obtain ⟨hn2, hn5⟩ := hx.2.2.2.1
  obtain ⟨hE2, hE10⟩ := hx.2.2.2.2
  refine MC.of rfl (Nat.le_of_ble_eq_true rfl) (cat_all rfl) ?_
  intro pp ee ss mm aa bb me cd hc hK hO hr hk hA
  refine AW.to (lv' := [some (.ref (ax 0)), some (.int d), some (.int k)]) rfl rfl rfl ?_
  refine a_aload_n (pc' := 1) hc d_M_slot_0 rfl rfl rfl ?_
  refine a_iload_n (pc' := 2) hc d_M_slot_1 rfl rfl rfl ?_
  refine r_calli (pc' := 5) hc hK hO hA hx [.int d] [] (ct_M_isDisk hx (τ := τ) (d := d) ) ml_M_148 hd_M_isDisk ⟨by decide, by decide⟩ rfl rfl (Nat.le_of_ble_eq_true rfl) d_M_slot_2 rfl ?_
  refine a_ifb_eq (pc' := 8) (tgt := 30) hc d_M_slot_5 rfl rfl (fun h5 => ?_) (fun h5 => ?_)
  · skip
    refine a_iconst (pc' := 31) (v := -1) hc d_M_slot_30 rfl (by decide) ?_
    exact a_iret hc hr hk d_M_slot_31 (m_i (by first | rfl | (simp only [soI, h5]; done) | (simp [soI, h5]; done)) (rfl))
  · skip
    obtain ⟨j, hj, ej, cj⟩ := dkB_t (by omega) h5
    subst ej
    refine a_iload_n (pc' := 9) hc d_M_slot_8 rfl rfl rfl ?_
    refine a_if_lt (pc' := 12) (tgt := 30) hc d_M_slot_9 rfl rfl (fun h9 => ?_) (fun h9 => ?_)
    · skip
      refine a_iconst (pc' := 31) (v := -1) hc d_M_slot_30 rfl (by decide) ?_
      exact a_iret hc hr hk d_M_slot_31 (m_i (by first | rfl | (simp only [soI, h5, cj, h9]; done) | (simp [soI, h5, cj, h9]; done)) (rfl))
    · skip
      refine a_iload_n (pc' := 13) hc d_M_slot_12 rfl rfl rfl ?_
      refine a_iconst (pc' := 14) (v := nI 3) hc d_M_slot_13 rfl (by decide) ?_
      refine a_icmp_ge (pc' := 17) (tgt := 30) hc d_M_slot_14 rfl rfl (fun h14 => ?_) (fun h14 => ?_)
      · skip
        refine a_iconst (pc' := 31) (v := -1) hc d_M_slot_30 rfl (by decide) ?_
        exact a_iret hc hr hk d_M_slot_31 (m_i (by first | rfl | (simp only [soI, h5, cj, h9, h14]; done) | (simp [soI, h5, cj, h9, h14]; done)) (rfl))
      · skip
        obtain ⟨i, hi, ei, ci⟩ := ix_of (by decide) h9 h14
        subst ei
        refine a_aload_n (pc' := 18) hc d_M_slot_17 rfl rfl rfl ?_
        refine r_get (pc' := 21) hc hK hx 5 (v := .ref (ax 4)) (by decide) rfl fl_M_20 d_M_slot_18 rfl ?_
        refine a_iconst (pc' := 22) (v := nI 3) hc d_M_slot_21 rfl (by decide) ?_
        refine a_iload_n (pc' := 23) hc d_M_slot_22 rfl rfl rfl ?_
        refine a_nmul (pc' := 24) hc d_M_slot_23 rfl ?_
        refine a_iload_n (pc' := 25) hc d_M_slot_24 rfl rfl rfl ?_
        refine a_nadd (pc' := 26) hc d_M_slot_25 rfl ?_
        refine r_iald (pc' := 27) (N := 15) hc hK hx 4 ((3 * j) + i) (by decide) rfl (by omega) d_M_slot_26 rfl ?_
        refine a_goto (tgt := 31) hc d_M_slot_27 rfl ?_
        exact a_iret hc hr hk d_M_slot_31 (m_i (by first | rfl | (simp only [soI, h5, cj, h9, h14, ci]; done) | (simp [soI, h5, cj, h9, h14, ci]; done)) (rfl))
theorem ct_M_read (hx : MX ax rl ca tys n E) {τ : TS} {v : Int32} {b : Int32} (hw : WFx n E τ 15) : MC l y_M_read c_M_read 5 (some .int) 4 D tys A ax rl ca n E τ [.int v, .int b] (some (.int (rdI τ v b))) τ := by
  obtain ⟨hn2, hn5⟩ := hx.2.2.2.1
  obtain ⟨hE2, hE10⟩ := hx.2.2.2.2
  refine MC.of rfl (Nat.le_of_ble_eq_true rfl) (cat_all rfl) ?_
  intro pp ee ss mm aa bb me cd hc hK hO hr hk hA
  refine AW.to (lv' := [some (.ref (ax 0)), some (.int v), some (.int b), none, none]) rfl rfl rfl ?_
  refine a_aload_n (pc' := 1) hc d_M_read_0 rfl rfl rfl ?_
  refine r_get (pc' := 4) hc hK hx 11 (v := .int (bI (tb (τ 0 5)))) (by decide) rfl fl_M_45 d_M_read_1 rfl ?_
  refine a_ifb_ne (pc' := 7) (tgt := 10) hc d_M_read_4 rfl rfl (fun h4 => ?_) (fun h4 => ?_)
  · skip
    refine a_aload_n (pc' := 11) hc d_M_read_10 rfl rfl rfl ?_
    refine a_iload_n (pc' := 12) hc d_M_read_11 rfl rfl rfl ?_
    refine a_iload_n (pc' := 13) hc d_M_read_12 rfl rfl rfl ?_
    refine r_calli (pc' := 16) hc hK hO hA hx [.int v, .int b] [] (ct_M_isBlock hx (τ := τ) (v := v) (b := b) hw.1) ml_M_139 hd_M_isBlock ⟨by decide, by decide⟩ rfl rfl (Nat.le_of_ble_eq_true rfl) d_M_read_13 rfl ?_
    refine a_ifb_ne (pc' := 19) (tgt := 21) hc d_M_read_16 rfl rfl (fun h16 => ?_) (fun h16 => ?_)
    · skip
      obtain ⟨i, j, hi, ei, ci, hj, ej, cj, pj⟩ := blB_t hw.1 h16
      subst ei
      subst ej
      have hx16 := hw.1.ex hi
      obtain ⟨hb1, hb2, hb3, hb4, hb5, hb6⟩ := bk_t hw hi pj hj
      refine a_aload_n (pc' := 22) hc d_M_read_21 rfl rfl rfl ?_
      refine a_bipush (pc' := 24) (v := nI 15) hc d_M_read_22 rfl (by decide) ?_
      refine a_bipush (pc' := 26) (v := nI 15) hc d_M_read_24 rfl (by decide) ?_
      refine a_iload_n (pc' := 27) hc d_M_read_26 rfl rfl rfl ?_
      refine a_nmul (pc' := 28) hc d_M_read_27 rfl ?_
      refine a_iconst (pc' := 29) (v := nI 3) hc d_M_read_28 rfl (by decide) ?_
      refine a_nadd (pc' := 30) hc d_M_read_29 rfl ?_
      refine a_aload_n (pc' := 31) hc d_M_read_30 rfl rfl rfl ?_
      refine a_iload_n (pc' := 32) hc d_M_read_31 rfl rfl rfl ?_
      refine a_iload_n (pc' := 33) hc d_M_read_32 rfl rfl rfl ?_
      refine r_calli (pc' := 36) hc hK hO hA hx [.int (nI i), .int (nI j)] [.int (nI ((15 * i) + 3)), .int (nI 15), .ref (ax 0)] (ct_M_extentOf hx (τ := τ) (v := i) (b := j) (by omega) (by omega) hw.1 hb1 hb2) ml_M_142 hd_M_extentOf ⟨by decide, by decide⟩ rfl rfl (Nat.le_of_ble_eq_true rfl) d_M_read_33 rfl ?_
      refine a_nadd (pc' := 37) hc d_M_read_36 rfl ?_
      refine r_calli (pc' := 40) hc hK hO hA hx [.int (nI 15), .int (nI (((15 * i) + 3) + (eoN (gN τ 15 (15 * i)) (gN τ 15 (15 * i + 1)) j)))] [] (ct_M_get hx (τ := τ) (mp := 15) (i := ((15 * i) + 3) + (eoN (gN τ 15 (15 * i)) (gN τ 15 (15 * i + 1)) j)) (by omega) (by omega)) ml_M_49 hd_M_get ⟨by decide, by decide⟩ rfl rfl (Nat.le_of_ble_eq_true rfl) d_M_read_37 rfl ?_
      refine AW.topi (y := nI (bpN τ i j)) (hw.1.n (by omega) (by omega)) ?_
      have hid := gN_lt τ 15 (15 * i + 3 + eoN (gN τ 15 (15 * i)) (gN τ 15 (15 * i + 1)) j)
      have hid : bpN τ i j < 2 ^ 31 := hid
      refine a_istore_n (pc' := 41) hc d_M_read_40 rfl rfl (by decide) ?_
      refine a_aload_n (pc' := 42) hc d_M_read_41 rfl rfl rfl ?_
      refine a_iload_n (pc' := 43) hc d_M_read_42 rfl rfl rfl ?_
      refine a_iload_n (pc' := 44) hc d_M_read_43 rfl rfl rfl ?_
      refine r_calli (pc' := 47) hc hK hO hA hx [.int (nI i), .int (nI j)] [] (ct_M_cellOf hx (τ := τ) (v := i) (b := j) (by omega) (by omega) hw.1 hb1 hb2) ml_M_145 hd_M_cellOf ⟨by decide, by decide⟩ rfl rfl (Nat.le_of_ble_eq_true rfl) d_M_read_44 rfl ?_
      refine AW.topi (y := nI (bcN τ i j)) rfl ?_
      refine a_istore (pc' := 49) hc d_M_read_47 rfl (by decide) ?_
      refine a_aload_n (pc' := 50) hc d_M_read_49 rfl rfl rfl ?_
      refine r_get (pc' := 53) hc hK hx 2 (v := .ref (ax 1)) (by decide) rfl fl_M_7 d_M_read_50 rfl ?_
      refine a_iload_n (pc' := 54) hc d_M_read_53 rfl rfl rfl ?_
      refine a_bipush (pc' := 56) (v := nI 16) hc d_M_read_54 rfl (by decide) ?_
      refine a_ndiv (pc' := 57) hc d_M_read_56 rfl (by omega) (by omega) (by omega) ?_
      refine r_zald (pc' := 58) hc hK hx ((bpN τ i j) / 16) (by omega) d_M_read_57 rfl ?_
      refine a_ifb_eq (pc' := 61) (tgt := 76) hc d_M_read_58 rfl rfl (fun h58 => ?_) (fun h58 => ?_)
      · skip
        refine a_bipush (pc' := 78) (v := -6) hc d_M_read_76 rfl (by decide) ?_
        exact a_iret hc hr hk d_M_read_78 (m_i (by first | rfl | (simp only [rdI, h4, h16, ci, cj, h58]; done) | (simp [rdI, h4, h16, ci, cj, h58]; done)) (rfl))
      · skip
        refine a_aload_n (pc' := 62) hc d_M_read_61 rfl rfl rfl ?_
        refine r_get (pc' := 65) hc hK hx 3 (v := .ref (ax 2)) (by decide) rfl fl_M_13 d_M_read_62 rfl ?_
        refine a_aload_n (pc' := 66) hc d_M_read_65 rfl rfl rfl ?_
        refine a_iload_n (pc' := 67) hc d_M_read_66 rfl rfl rfl ?_
        refine a_iload (pc' := 69) hc d_M_read_67 rfl rfl ?_
        refine r_calli (pc' := 72) hc hK hO hA hx [.int (nI (bpN τ i j)), .int (nI (bcN τ i j))] [.ref (ax 2)] (ct_M_cellAt hx (τ := τ) (id := bpN τ i j) (c := bcN τ i j) hid) ml_M_136 hd_M_cellAt ⟨by decide, by decide⟩ rfl rfl (Nat.le_of_ble_eq_true rfl) d_M_read_69 rfl ?_
        refine r_iald (pc' := 73) (N := 320) hc hK hx 2 (caN (bpN τ i j) (bcN τ i j)) (by decide) rfl (caN_lt hn5 hE10 hb5 hb6 hb4) d_M_read_72 rfl ?_
        refine a_goto (tgt := 78) hc d_M_read_73 rfl ?_
        exact a_iret hc hr hk d_M_read_78 (m_i (by first | rfl | (simp only [rdI, h4, h16, ci, cj, h58]; done) | (simp [rdI, h4, h16, ci, cj, h58]; done)) (rfl))
    · skip
      refine a_iconst (pc' := 20) (v := -1) hc d_M_read_19 rfl (by decide) ?_
      exact a_iret hc hr hk d_M_read_20 (m_i (by first | rfl | (simp only [rdI, h4, h16]; done) | (simp [rdI, h4, h16]; done)) (rfl))
  · skip
    refine a_bipush (pc' := 9) (v := -2) hc d_M_read_7 rfl (by decide) ?_
    exact a_iret hc hr hk d_M_read_9 (m_i (by first | rfl | (simp only [rdI, h4]; done) | (simp [rdI, h4]; done)) (rfl))
end
section
variable {l : Launch} {D : va_G} {tys : List (ClassId × FieldType)} {A : Nat → Prop} {ax rl : Nat → Nat} {ca : Nat → ClassId} {n E : Nat}
theorem ct_M_cancel (hx : MX ax rl ca tys n E) {τ : TS} (h6 : ∀ d, d < 5 → ¬ τ 6 d < 0) : MC l y_M_cancel c_M_cancel 1 (some .int) 3 D tys A ax rl ca n E τ [] (some (.int ((caP τ n).1))) ((caP τ n).2) := by
  obtain ⟨hn2, hn5⟩ := hx.2.2.2.1
  obtain ⟨hE2, hE10⟩ := hx.2.2.2.2
  refine MC.of rfl (Nat.le_of_ble_eq_true rfl) (cat_all rfl) ?_
  intro pp ee ss mm aa bb me cd hc hK hO hr hk hA
  refine AW.to (lv' := [some (.ref (ax 0))]) rfl rfl rfl ?_
  refine a_aload_n (pc' := 1) hc d_M_cancel_0 rfl rfl rfl ?_
  refine r_get (pc' := 4) hc hK hx 11 (v := .int (bI (tb (τ 0 5)))) (by decide) rfl fl_M_45 d_M_cancel_1 rfl ?_
  refine a_ifb_ne (pc' := 7) (tgt := 10) hc d_M_cancel_4 rfl rfl (fun h4 => ?_) (fun h4 => ?_)
  · skip
    refine a_aload_n (pc' := 11) hc d_M_cancel_10 rfl rfl rfl ?_
    refine a_bipush (pc' := 13) (v := nI 15) hc d_M_cancel_11 rfl (by decide) ?_
    refine a_bipush (pc' := 15) (v := nI 60) hc d_M_cancel_13 rfl (by decide) ?_
    refine r_calli (pc' := 18) hc hK hO hA hx [.int (nI 15), .int (nI 60)] [] (ct_M_get hx (τ := τ) (mp := 15) (i := 60) (by omega) (by omega)) ml_M_49 hd_M_get ⟨by decide, by decide⟩ rfl rfl (Nat.le_of_ble_eq_true rfl) d_M_cancel_15 rfl ?_
    refine a_if_ge (pc' := 21) (tgt := 24) hc d_M_cancel_18 rfl rfl (fun h18 => ?_) (fun h18 => ?_)
    · skip
      refine a_aload_n (pc' := 25) hc d_M_cancel_24 rfl rfl rfl ?_
      refine r_calli (pc' := 28) hc hK hO hA hx [] [] (ct_M_few hx (τ := τ) ) ml_M_108 hd_M_few ⟨by decide, by decide⟩ rfl rfl (Nat.le_of_ble_eq_true rfl) d_M_cancel_25 rfl ?_
      refine a_ifb_eq (pc' := 31) (tgt := 34) hc d_M_cancel_28 rfl rfl (fun h28 => ?_) (fun h28 => ?_)
      · skip
        refine a_aload_n (pc' := 35) hc d_M_cancel_34 rfl rfl rfl ?_
        refine a_bipush (pc' := 37) (v := nI 15) hc d_M_cancel_35 rfl (by decide) ?_
        refine a_bipush (pc' := 39) (v := nI 16) hc d_M_cancel_37 rfl (by decide) ?_
        refine r_callv (pc' := 42) hc hK hO hA hx [.int (nI 15), .int (nI 16)] [] (ct_M_copyMap hx (τ := τ) (a := 15) (b := 16) (by omega) (by omega)) ml_M_90 hd_M_copyMap ⟨by decide, by decide⟩ rfl rfl (Nat.le_of_ble_eq_true rfl) d_M_cancel_39 rfl ?_
        refine a_aload_n (pc' := 43) hc d_M_cancel_42 rfl rfl rfl ?_
        refine a_bipush (pc' := 45) (v := nI 16) hc d_M_cancel_43 rfl (by decide) ?_
        refine a_bipush (pc' := 47) (v := nI 60) hc d_M_cancel_45 rfl (by decide) ?_
        refine a_iconst (pc' := 48) (v := -1) hc d_M_cancel_47 rfl (by decide) ?_
        refine r_callv (pc' := 51) hc hK hO hA hx [.int (nI 16), .int (nI 60), .int (-1)] [] (ct_M_set hx (τ := cpT τ 15 16 64) (mp := 16) (i := 60) (v := (-1)) (by omega) (by omega)) ml_M_76 hd_M_set ⟨by decide, by decide⟩ rfl rfl (Nat.le_of_ble_eq_true rfl) d_M_cancel_48 rfl ?_
        refine a_aload_n (pc' := 52) hc d_M_cancel_51 rfl rfl rfl ?_
        refine r_calli (pc' := 55) hc hK hO hA hx [] [] (ct_M_commit hx (τ := ts (cpT τ 15 16 64) 3 (64 * 16 + 60) (-1)) (fun d hd => h6 d hd)) ml_M_114 hd_M_commit ⟨by decide, by decide⟩ rfl rfl (Nat.le_of_ble_eq_true rfl) d_M_cancel_52 rfl ?_
        refine a_ifb_eq (pc' := 58) (tgt := 62) hc d_M_cancel_55 rfl rfl (fun h55 => ?_) (fun h55 => ?_)
        · skip
          refine a_bipush (pc' := 64) (v := -7) hc d_M_cancel_62 rfl (by decide) ?_
          exact a_iret hc hr hk d_M_cancel_64 (m_i (by first | rfl | (simp only [caP, ca1, h4, h18, h28, h55]; done) | (simp [caP, ca1, h4, h18, h28, h55]; done)) (by first | rfl | (simp only [caP, ca1, h4, h18, h28, h55]; done) | (simp [caP, ca1, h4, h18, h28, h55]; done)))
        · skip
          refine a_iconst (pc' := 59) (v := nI 0) hc d_M_cancel_58 rfl (by decide) ?_
          refine a_goto (tgt := 64) hc d_M_cancel_59 rfl ?_
          exact a_iret hc hr hk d_M_cancel_64 (m_i (by first | rfl | (simp only [caP, ca1, h4, h18, h28, h55]; done) | (simp [caP, ca1, h4, h18, h28, h55]; done)) (by first | rfl | (simp only [caP, ca1, h4, h18, h28, h55]; done) | (simp [caP, ca1, h4, h18, h28, h55]; done)))
      · skip
        refine a_bipush (pc' := 33) (v := -3) hc d_M_cancel_31 rfl (by decide) ?_
        exact a_iret hc hr hk d_M_cancel_33 (m_i (by first | rfl | (simp only [caP, ca1, h4, h18, h28]; done) | (simp [caP, ca1, h4, h18, h28]; done)) (by first | rfl | (simp only [caP, ca1, h4, h18, h28]; done) | (simp [caP, ca1, h4, h18, h28]; done)))
    · skip
      refine a_bipush (pc' := 23) (v := -8) hc d_M_cancel_21 rfl (by decide) ?_
      exact a_iret hc hr hk d_M_cancel_23 (m_i (by first | rfl | (simp only [caP, ca1, h4, h18]; done) | (simp [caP, ca1, h4, h18]; done)) (by first | rfl | (simp only [caP, ca1, h4, h18]; done) | (simp [caP, ca1, h4, h18]; done)))
  · skip
    refine a_bipush (pc' := 9) (v := -2) hc d_M_cancel_7 rfl (by decide) ?_
    exact a_iret hc hr hk d_M_cancel_9 (m_i (by first | rfl | (simp only [caP, ca1, h4]; done) | (simp [caP, ca1, h4]; done)) (by first | rfl | (simp only [caP, ca1, h4]; done) | (simp [caP, ca1, h4]; done)))
theorem ct_M_reduce (hx : MX ax rl ca tys n E) {τ : TS} {v : Int32} {r : Int32} (h6 : ∀ d, d < 5 → ¬ τ 6 d < 0) : MC l y_M_reduce c_M_reduce 3 (some .int) 3 D tys A ax rl ca n E τ [.int v, .int r] (some (.int ((reP τ n v r).1))) ((reP τ n v r).2) := by
  obtain ⟨hn2, hn5⟩ := hx.2.2.2.1
  obtain ⟨hE2, hE10⟩ := hx.2.2.2.2
  refine MC.of rfl (Nat.le_of_ble_eq_true rfl) (cat_all rfl) ?_
  intro pp ee ss mm aa bb me cd hc hK hO hr hk hA
  refine AW.to (lv' := [some (.ref (ax 0)), some (.int v), some (.int r)]) rfl rfl rfl ?_
  refine a_aload_n (pc' := 1) hc d_M_reduce_0 rfl rfl rfl ?_
  refine r_get (pc' := 4) hc hK hx 11 (v := .int (bI (tb (τ 0 5)))) (by decide) rfl fl_M_45 d_M_reduce_1 rfl ?_
  refine a_ifb_ne (pc' := 7) (tgt := 10) hc d_M_reduce_4 rfl rfl (fun h4 => ?_) (fun h4 => ?_)
  · skip
    refine a_aload_n (pc' := 11) hc d_M_reduce_10 rfl rfl rfl ?_
    refine a_iload_n (pc' := 12) hc d_M_reduce_11 rfl rfl rfl ?_
    refine r_calli (pc' := 15) hc hK hO hA hx [.int v] [] (ct_M_isVolume hx (τ := τ) (v := v) ) ml_M_117 hd_M_isVolume ⟨by decide, by decide⟩ rfl rfl (Nat.le_of_ble_eq_true rfl) d_M_reduce_12 rfl ?_
    refine a_ifb_eq (pc' := 18) (tgt := 34) hc d_M_reduce_15 rfl rfl (fun h15 => ?_) (fun h15 => ?_)
    · skip
      refine a_iconst (pc' := 35) (v := -1) hc d_M_reduce_34 rfl (by decide) ?_
      exact a_iret hc hr hk d_M_reduce_35 (m_i (by first | rfl | (simp only [reP, re1, h4, h15]; done) | (simp [reP, re1, h4, h15]; done)) (by first | rfl | (simp only [reP, re1, h4, h15]; done) | (simp [reP, re1, h4, h15]; done)))
    · skip
      obtain ⟨j, hj, ej, cj, pj⟩ := volB_t h15
      subst ej
      refine a_iload_n (pc' := 19) hc d_M_reduce_18 rfl rfl rfl ?_
      refine a_iconst (pc' := 20) (v := nI 1) hc d_M_reduce_19 rfl (by decide) ?_
      refine a_icmp_lt (pc' := 23) (tgt := 34) hc d_M_reduce_20 rfl rfl (fun h20 => ?_) (fun h20 => ?_)
      · skip
        refine a_iconst (pc' := 35) (v := -1) hc d_M_reduce_34 rfl (by decide) ?_
        exact a_iret hc hr hk d_M_reduce_35 (m_i (by first | rfl | (simp only [reP, re1, h4, h15, cj, h20]; done) | (simp [reP, re1, h4, h15, cj, h20]; done)) (by first | rfl | (simp only [reP, re1, h4, h15, cj, h20]; done) | (simp [reP, re1, h4, h15, cj, h20]; done)))
      · skip
        refine a_iload_n (pc' := 24) hc d_M_reduce_23 rfl rfl rfl ?_
        refine a_aload_n (pc' := 25) hc d_M_reduce_24 rfl rfl rfl ?_
        refine a_bipush (pc' := 27) (v := nI 15) hc d_M_reduce_25 rfl (by decide) ?_
        refine a_iload_n (pc' := 28) hc d_M_reduce_27 rfl rfl rfl ?_
        refine r_calli (pc' := 31) hc hK hO hA hx [.int (nI 15), .int (nI j)] [.int r] (ct_M_rowsOf hx (τ := τ) (mp := 15) (v := j) (by omega) (by omega)) ml_M_53 hd_M_rowsOf ⟨by decide, by decide⟩ rfl rfl (Nat.le_of_ble_eq_true rfl) d_M_reduce_28 rfl ?_
        refine a_icmp_le (pc' := 34) (tgt := 36) hc d_M_reduce_31 rfl rfl (fun h31 => ?_) (fun h31 => ?_)
        · skip
          refine a_aload_n (pc' := 37) hc d_M_reduce_36 rfl rfl rfl ?_
          refine r_calli (pc' := 40) hc hK hO hA hx [] [] (ct_M_few hx (τ := τ) ) ml_M_108 hd_M_few ⟨by decide, by decide⟩ rfl rfl (Nat.le_of_ble_eq_true rfl) d_M_reduce_37 rfl ?_
          refine a_ifb_eq (pc' := 43) (tgt := 46) hc d_M_reduce_40 rfl rfl (fun h40 => ?_) (fun h40 => ?_)
          · skip
            refine a_aload_n (pc' := 47) hc d_M_reduce_46 rfl rfl rfl ?_
            refine a_iload_n (pc' := 48) hc d_M_reduce_47 rfl rfl rfl ?_
            refine r_calli (pc' := 51) hc hK hO hA hx [.int (nI j)] [] (ct_M_isMoved hx (τ := τ) (v := nI j) ) ml_M_120 hd_M_isMoved ⟨by decide, by decide⟩ rfl rfl (Nat.le_of_ble_eq_true rfl) d_M_reduce_48 rfl ?_
            refine a_ifb_eq (pc' := 54) (tgt := 57) hc d_M_reduce_51 rfl rfl (fun h51 => ?_) (fun h51 => ?_)
            · skip
              refine a_aload_n (pc' := 58) hc d_M_reduce_57 rfl rfl rfl ?_
              refine a_bipush (pc' := 60) (v := nI 15) hc d_M_reduce_58 rfl (by decide) ?_
              refine a_bipush (pc' := 62) (v := nI 16) hc d_M_reduce_60 rfl (by decide) ?_
              refine r_callv (pc' := 65) hc hK hO hA hx [.int (nI 15), .int (nI 16)] [] (ct_M_copyMap hx (τ := τ) (a := 15) (b := 16) (by omega) (by omega)) ml_M_90 hd_M_copyMap ⟨by decide, by decide⟩ rfl rfl (Nat.le_of_ble_eq_true rfl) d_M_reduce_62 rfl ?_
              refine a_aload_n (pc' := 66) hc d_M_reduce_65 rfl rfl rfl ?_
              refine a_bipush (pc' := 68) (v := nI 16) hc d_M_reduce_66 rfl (by decide) ?_
              refine a_bipush (pc' := 70) (v := nI 15) hc d_M_reduce_68 rfl (by decide) ?_
              refine a_iload_n (pc' := 71) hc d_M_reduce_70 rfl rfl rfl ?_
              refine a_nmul (pc' := 72) hc d_M_reduce_71 rfl ?_
              refine a_iconst (pc' := 73) (v := nI 2) hc d_M_reduce_72 rfl (by decide) ?_
              refine a_nadd (pc' := 74) hc d_M_reduce_73 rfl ?_
              refine a_aload_n (pc' := 75) hc d_M_reduce_74 rfl rfl rfl ?_
              refine a_bipush (pc' := 77) (v := nI 15) hc d_M_reduce_75 rfl (by decide) ?_
              refine a_iload_n (pc' := 78) hc d_M_reduce_77 rfl rfl rfl ?_
              refine r_calli (pc' := 81) hc hK hO hA hx [.int (nI 15), .int (nI j)] [.int (nI ((15 * j) + 2)), .int (nI 16), .ref (ax 0)] (ct_M_rowsOf hx (τ := cpT τ 15 16 64) (mp := 15) (v := j) (by omega) (by omega)) ml_M_53 hd_M_rowsOf ⟨by decide, by decide⟩ rfl rfl (Nat.le_of_ble_eq_true rfl) d_M_reduce_78 rfl ?_
              refine a_iload_n (pc' := 82) hc d_M_reduce_81 rfl rfl rfl ?_
              refine a_isub (pc' := 83) hc d_M_reduce_82 rfl ?_
              refine r_callv (pc' := 86) hc hK hO hA hx [.int (nI 16), .int (nI ((15 * j) + 2)), .int ((gt (cpT τ 15 16 64) 15 (15 * j + 2)) - r)] [] (ct_M_set hx (τ := cpT τ 15 16 64) (mp := 16) (i := (15 * j) + 2) (v := (gt (cpT τ 15 16 64) 15 (15 * j + 2)) - r) (by omega) (by omega)) ml_M_76 hd_M_set ⟨by decide, by decide⟩ rfl rfl (Nat.le_of_ble_eq_true rfl) d_M_reduce_83 rfl ?_
              refine a_aload_n (pc' := 87) hc d_M_reduce_86 rfl rfl rfl ?_
              refine r_calli (pc' := 90) hc hK hO hA hx [] [] (ct_M_commit hx (τ := ts (cpT τ 15 16 64) 3 (64 * 16 + ((15 * j) + 2)) ((gt (cpT τ 15 16 64) 15 (15 * j + 2)) - r)) (fun d hd => h6 d hd)) ml_M_114 hd_M_commit ⟨by decide, by decide⟩ rfl rfl (Nat.le_of_ble_eq_true rfl) d_M_reduce_87 rfl ?_
              refine a_ifb_eq (pc' := 93) (tgt := 103) hc d_M_reduce_90 rfl rfl (fun h90 => ?_) (fun h90 => ?_)
              · skip
                refine a_bipush (pc' := 105) (v := -7) hc d_M_reduce_103 rfl (by decide) ?_
                exact a_iret hc hr hk d_M_reduce_105 (m_i (by first | rfl | (simp only [reP, re1, h4, h15, cj, h20, h31, h40, h51, h90]; done) | (simp [reP, re1, h4, h15, cj, h20, h31, h40, h51, h90]; done)) (by first | rfl | (simp only [reP, re1, h4, h15, cj, h20, h31, h40, h51, h90]; done) | (simp [reP, re1, h4, h15, cj, h20, h31, h40, h51, h90]; done)))
              · skip
                refine a_aload_n (pc' := 94) hc d_M_reduce_93 rfl rfl rfl ?_
                refine a_bipush (pc' := 96) (v := nI 15) hc d_M_reduce_94 rfl (by decide) ?_
                refine a_iload_n (pc' := 97) hc d_M_reduce_96 rfl rfl rfl ?_
                refine r_calli (pc' := 100) hc hK hO hA hx [.int (nI 15), .int (nI j)] [] (ct_M_rowsOf hx (τ := cmW (ts (cpT τ 15 16 64) 3 (64 * 16 + ((15 * j) + 2)) ((gt (cpT τ 15 16 64) 15 (15 * j + 2)) - r)) n) (mp := 15) (v := j) (by omega) (by omega)) ml_M_53 hd_M_rowsOf ⟨by decide, by decide⟩ rfl rfl (Nat.le_of_ble_eq_true rfl) d_M_reduce_97 rfl ?_
                refine a_goto (tgt := 105) hc d_M_reduce_100 rfl ?_
                exact a_iret hc hr hk d_M_reduce_105 (m_i (by first | rfl | (simp only [reP, re1, h4, h15, cj, h20, h31, h40, h51, h90]; done) | (simp [reP, re1, h4, h15, cj, h20, h31, h40, h51, h90]; done)) (by first | rfl | (simp only [reP, re1, h4, h15, cj, h20, h31, h40, h51, h90]; done) | (simp [reP, re1, h4, h15, cj, h20, h31, h40, h51, h90]; done)))
            · skip
              refine a_bipush (pc' := 56) (v := -4) hc d_M_reduce_54 rfl (by decide) ?_
              exact a_iret hc hr hk d_M_reduce_56 (m_i (by first | rfl | (simp only [reP, re1, h4, h15, cj, h20, h31, h40, h51]; done) | (simp [reP, re1, h4, h15, cj, h20, h31, h40, h51]; done)) (by first | rfl | (simp only [reP, re1, h4, h15, cj, h20, h31, h40, h51]; done) | (simp [reP, re1, h4, h15, cj, h20, h31, h40, h51]; done)))
          · skip
            refine a_bipush (pc' := 45) (v := -3) hc d_M_reduce_43 rfl (by decide) ?_
            exact a_iret hc hr hk d_M_reduce_45 (m_i (by first | rfl | (simp only [reP, re1, h4, h15, cj, h20, h31, h40]; done) | (simp [reP, re1, h4, h15, cj, h20, h31, h40]; done)) (by first | rfl | (simp only [reP, re1, h4, h15, cj, h20, h31, h40]; done) | (simp [reP, re1, h4, h15, cj, h20, h31, h40]; done)))
        · skip
          refine a_iconst (pc' := 35) (v := -1) hc d_M_reduce_34 rfl (by decide) ?_
          exact a_iret hc hr hk d_M_reduce_35 (m_i (by first | rfl | (simp only [reP, re1, h4, h15, cj, h20, h31]; done) | (simp [reP, re1, h4, h15, cj, h20, h31]; done)) (by first | rfl | (simp only [reP, re1, h4, h15, cj, h20, h31]; done) | (simp [reP, re1, h4, h15, cj, h20, h31]; done)))
  · skip
    refine a_bipush (pc' := 9) (v := -2) hc d_M_reduce_7 rfl (by decide) ?_
    exact a_iret hc hr hk d_M_reduce_9 (m_i (by first | rfl | (simp only [reP, re1, h4]; done) | (simp [reP, re1, h4]; done)) (by first | rfl | (simp only [reP, re1, h4]; done) | (simp [reP, re1, h4]; done)))
theorem ct_M_step (hx : MX ax rl ca tys n E) {τ : TS} (h6 : ∀ d, d < 5 → ¬ τ 6 d < 0) (hw : WFx n E τ 15) (h0 : ¬ τ 0 6 < 0) (h4 : cpN τ ≤ 4) : MC l y_M_step c_M_step 3 (some .int) 3 D tys A ax rl ca n E τ [] (some (.int ((spP τ n).1))) ((spP τ n).2) := by
  obtain ⟨hn2, hn5⟩ := hx.2.2.2.1
  obtain ⟨hE2, hE10⟩ := hx.2.2.2.2
  refine MC.of rfl (Nat.le_of_ble_eq_true rfl) (cat_all rfl) ?_
  intro pp ee ss mm aa bb me cd hc hK hO hr hk hA
  refine AW.to (lv' := [some (.ref (ax 0)), none, none]) rfl rfl rfl ?_
  refine a_aload_n (pc' := 1) hc d_M_step_0 rfl rfl rfl ?_
  refine r_get (pc' := 4) hc hK hx 11 (v := .int (bI (tb (τ 0 5)))) (by decide) rfl fl_M_45 d_M_step_1 rfl ?_
  refine a_ifb_ne (pc' := 7) (tgt := 10) hc d_M_step_4 rfl rfl (fun h4 => ?_) (fun h4 => ?_)
  · skip
    refine a_aload_n (pc' := 11) hc d_M_step_10 rfl rfl rfl ?_
    refine a_bipush (pc' := 13) (v := nI 15) hc d_M_step_11 rfl (by decide) ?_
    refine a_bipush (pc' := 15) (v := nI 60) hc d_M_step_13 rfl (by decide) ?_
    refine r_calli (pc' := 18) hc hK hO hA hx [.int (nI 15), .int (nI 60)] [] (ct_M_get hx (τ := τ) (mp := 15) (i := 60) (by omega) (by omega)) ml_M_49 hd_M_get ⟨by decide, by decide⟩ rfl rfl (Nat.le_of_ble_eq_true rfl) d_M_step_15 rfl ?_
    refine a_if_ge (pc' := 21) (tgt := 24) hc d_M_step_18 rfl rfl (fun h18 => ?_) (fun h18 => ?_)
    · skip
      have hm18 : ¬ gt τ 15 60 < 0 := Int32.not_lt.mpr h18
      obtain ⟨hq1, hq2, hq3, hq4⟩ := hw.2.2.2 hm18
      have hq5 := hw.1.ex hq1
      have hq6 := hw.2.2.1 _ hq1 _ hq2
      have hq7 : srN τ / 16 < n := hq6.1
      have hq8 : srN τ % 16 < E := hq6.2
      have hq9 : srN τ < 2 ^ 31 := gN_lt _ _ _
      have hq10 := gN_lt τ 15 62
      refine a_aload_n (pc' := 25) hc d_M_step_24 rfl rfl rfl ?_
      refine r_calli (pc' := 28) hc hK hO hA hx [] [] (ct_M_few hx (τ := τ) ) ml_M_108 hd_M_few ⟨by decide, by decide⟩ rfl rfl (Nat.le_of_ble_eq_true rfl) d_M_step_25 rfl ?_
      refine a_ifb_eq (pc' := 31) (tgt := 34) hc d_M_step_28 rfl rfl (fun h28 => ?_) (fun h28 => ?_)
      · skip
        refine a_aload_n (pc' := 35) hc d_M_step_34 rfl rfl rfl ?_
        refine r_calli (pc' := 38) hc hK hO hA hx [] [] (ct_M_source hx (τ := τ) hw.1 hm18 hq1 (by omega)) ml_M_129 hd_M_source ⟨by decide, by decide⟩ rfl rfl (Nat.le_of_ble_eq_true rfl) d_M_step_35 rfl ?_
        refine AW.topi (y := nI (srN τ)) (hw.1.n (by omega) (by omega)) ?_
        refine a_istore_n (pc' := 39) hc d_M_step_38 rfl rfl (by decide) ?_
        refine a_aload_n (pc' := 40) hc d_M_step_39 rfl rfl rfl ?_
        refine r_calli (pc' := 43) hc hK hO hA hx [] [] (ct_M_target hx (τ := τ) ) ml_M_133 hd_M_target ⟨by decide, by decide⟩ rfl rfl (Nat.le_of_ble_eq_true rfl) d_M_step_40 rfl ?_
        refine AW.topi (y := nI (gN τ 15 62)) (hw.1.n (by omega) (by omega)) ?_
        refine a_istore_n (pc' := 44) hc d_M_step_43 rfl rfl (by decide) ?_
        refine a_aload_n (pc' := 45) hc d_M_step_44 rfl rfl rfl ?_
        refine r_get (pc' := 48) hc hK hx 2 (v := .ref (ax 1)) (by decide) rfl fl_M_7 d_M_step_45 rfl ?_
        refine a_iload_n (pc' := 49) hc d_M_step_48 rfl rfl rfl ?_
        refine a_bipush (pc' := 51) (v := nI 16) hc d_M_step_49 rfl (by decide) ?_
        refine a_ndiv (pc' := 52) hc d_M_step_51 rfl (by omega) (by omega) (by omega) ?_
        refine r_zald (pc' := 53) hc hK hx ((srN τ) / 16) (by omega) d_M_step_52 rfl ?_
        refine a_ifb_eq (pc' := 56) (tgt := 68) hc d_M_step_53 rfl rfl (fun h53 => ?_) (fun h53 => ?_)
        · skip
          refine a_bipush (pc' := 70) (v := -6) hc d_M_step_68 rfl (by decide) ?_
          exact a_iret hc hr hk d_M_step_70 (m_i (by first | rfl | (simp only [spP, sp1, sp2, h4, h18, h28, h53]; done) | (simp [spP, sp1, sp2, h4, h18, h28, h53]; done)) (by first | rfl | (simp only [spP, sp1, sp2, h4, h18, h28, h53]; done) | (simp [spP, sp1, sp2, h4, h18, h28, h53]; done)))
        · skip
          refine a_aload_n (pc' := 57) hc d_M_step_56 rfl rfl rfl ?_
          refine r_get (pc' := 60) hc hK hx 2 (v := .ref (ax 1)) (by decide) rfl fl_M_7 d_M_step_57 rfl ?_
          refine a_iload_n (pc' := 61) hc d_M_step_60 rfl rfl rfl ?_
          refine a_bipush (pc' := 63) (v := nI 16) hc d_M_step_61 rfl (by decide) ?_
          refine a_ndiv (pc' := 64) hc d_M_step_63 rfl (by omega) (by omega) (by omega) ?_
          refine r_zald (pc' := 65) hc hK hx ((gN τ 15 62) / 16) (by omega) d_M_step_64 rfl ?_
          refine a_ifb_ne (pc' := 68) (tgt := 71) hc d_M_step_65 rfl rfl (fun h65 => ?_) (fun h65 => ?_)
          · skip
            refine a_aload_n (pc' := 72) hc d_M_step_71 rfl rfl rfl ?_
            refine r_get (pc' := 75) hc hK hx 12 (v := .int (τ 0 6)) (by decide) rfl fl_M_126 d_M_step_72 rfl ?_
            refine AW.topi (y := nI (cpN τ)) (nat_eq h0) ?_
            refine a_iconst (pc' := 76) (v := nI 4) hc d_M_step_75 rfl (by decide) ?_
            refine a_ncmp_ge (pc' := 79) (tgt := 134) hc d_M_step_76 rfl rfl (by omega) (by omega) (fun h76 => ?_) (fun h76 => ?_)
            · skip
              refine a_aload_n (pc' := 135) hc d_M_step_134 rfl rfl rfl ?_
              refine a_bipush (pc' := 137) (v := nI 15) hc d_M_step_135 rfl (by decide) ?_
              refine a_bipush (pc' := 139) (v := nI 16) hc d_M_step_137 rfl (by decide) ?_
              refine r_callv (pc' := 142) hc hK hO hA hx [.int (nI 15), .int (nI 16)] [] (ct_M_copyMap hx (τ := τ) (a := 15) (b := 16) (by omega) (by omega)) ml_M_90 hd_M_copyMap ⟨by decide, by decide⟩ rfl rfl (Nat.le_of_ble_eq_true rfl) d_M_step_139 rfl ?_
              refine a_aload_n (pc' := 143) hc d_M_step_142 rfl rfl rfl ?_
              refine a_bipush (pc' := 145) (v := nI 16) hc d_M_step_143 rfl (by decide) ?_
              refine a_bipush (pc' := 147) (v := nI 15) hc d_M_step_145 rfl (by decide) ?_
              refine a_aload_n (pc' := 148) hc d_M_step_147 rfl rfl rfl ?_
              refine a_bipush (pc' := 150) (v := nI 15) hc d_M_step_148 rfl (by decide) ?_
              refine a_bipush (pc' := 152) (v := nI 60) hc d_M_step_150 rfl (by decide) ?_
              refine r_calli (pc' := 155) hc hK hO hA hx [.int (nI 15), .int (nI 60)] [.int (nI 15), .int (nI 16), .ref (ax 0)] (ct_M_get hx (τ := cpT τ 15 16 64) (mp := 15) (i := 60) (by omega) (by omega)) ml_M_49 hd_M_get ⟨by decide, by decide⟩ rfl rfl (Nat.le_of_ble_eq_true rfl) d_M_step_152 rfl ?_
              refine AW.topi (y := nI (gN τ 15 60)) (by rw [cp_lo (by omega) (by omega)]; exact nat_eq hm18) ?_
              refine a_nmul (pc' := 156) hc d_M_step_155 rfl ?_
              refine a_iconst (pc' := 157) (v := nI 3) hc d_M_step_156 rfl (by decide) ?_
              refine a_nadd (pc' := 158) hc d_M_step_157 rfl ?_
              refine a_aload_n (pc' := 159) hc d_M_step_158 rfl rfl rfl ?_
              refine a_bipush (pc' := 161) (v := nI 15) hc d_M_step_159 rfl (by decide) ?_
              refine a_bipush (pc' := 163) (v := nI 61) hc d_M_step_161 rfl (by decide) ?_
              refine r_calli (pc' := 166) hc hK hO hA hx [.int (nI 15), .int (nI 61)] [.int (nI ((15 * (gN τ 15 60)) + 3)), .int (nI 16), .ref (ax 0)] (ct_M_get hx (τ := cpT τ 15 16 64) (mp := 15) (i := 61) (by omega) (by omega)) ml_M_49 hd_M_get ⟨by decide, by decide⟩ rfl rfl (Nat.le_of_ble_eq_true rfl) d_M_step_163 rfl ?_
              refine AW.topi (y := nI (gN τ 15 61)) (by rw [cp_lo (by omega) (by omega)]; exact hw.1.n (by omega) (by omega)) ?_
              refine a_nadd (pc' := 167) hc d_M_step_166 rfl ?_
              refine a_iload_n (pc' := 168) hc d_M_step_167 rfl rfl rfl ?_
              refine r_callv (pc' := 171) hc hK hO hA hx [.int (nI 16), .int (nI (((15 * (gN τ 15 60)) + 3) + (gN τ 15 61))), .int (nI (gN τ 15 62))] [] (ct_M_set hx (τ := cpT τ 15 16 64) (mp := 16) (i := ((15 * (gN τ 15 60)) + 3) + (gN τ 15 61)) (v := nI (gN τ 15 62)) (by omega) (by omega)) ml_M_76 hd_M_set ⟨by decide, by decide⟩ rfl rfl (Nat.le_of_ble_eq_true rfl) d_M_step_168 rfl ?_
              refine a_aload_n (pc' := 172) hc d_M_step_171 rfl rfl rfl ?_
              refine a_bipush (pc' := 174) (v := nI 16) hc d_M_step_172 rfl (by decide) ?_
              refine a_bipush (pc' := 176) (v := nI 60) hc d_M_step_174 rfl (by decide) ?_
              refine a_iconst (pc' := 177) (v := -1) hc d_M_step_176 rfl (by decide) ?_
              refine r_callv (pc' := 180) hc hK hO hA hx [.int (nI 16), .int (nI 60), .int (-1)] [] (ct_M_set hx (τ := ts (cpT τ 15 16 64) 3 (64 * 16 + (((15 * (gN τ 15 60)) + 3) + (gN τ 15 61))) (nI (gN τ 15 62))) (mp := 16) (i := 60) (v := (-1)) (by omega) (by omega)) ml_M_76 hd_M_set ⟨by decide, by decide⟩ rfl rfl (Nat.le_of_ble_eq_true rfl) d_M_step_177 rfl ?_
              refine a_aload_n (pc' := 181) hc d_M_step_180 rfl rfl rfl ?_
              refine r_calli (pc' := 184) hc hK hO hA hx [] [] (ct_M_commit hx (τ := ts (ts (cpT τ 15 16 64) 3 (64 * 16 + (((15 * (gN τ 15 60)) + 3) + (gN τ 15 61))) (nI (gN τ 15 62))) 3 (64 * 16 + 60) (-1)) (fun d hd => h6 d hd)) ml_M_114 hd_M_commit ⟨by decide, by decide⟩ rfl rfl (Nat.le_of_ble_eq_true rfl) d_M_step_181 rfl ?_
              refine a_ifb_eq (pc' := 187) (tgt := 191) hc d_M_step_184 rfl rfl (fun h184 => ?_) (fun h184 => ?_)
              · skip
                refine a_bipush (pc' := 193) (v := -7) hc d_M_step_191 rfl (by decide) ?_
                exact a_iret hc hr hk d_M_step_193 (m_i (by first | rfl | (simp only [spP, sp1, sp2, h4, h18, h28, h53, h65, h76, h184]; done) | (simp [spP, sp1, sp2, h4, h18, h28, h53, h65, h76, h184]; done)) (by first | rfl | (simp only [spP, sp1, sp2, h4, h18, h28, h53, h65, h76, h184]; done) | (simp [spP, sp1, sp2, h4, h18, h28, h53, h65, h76, h184]; done)))
              · skip
                refine a_iconst (pc' := 188) (v := nI 4) hc d_M_step_187 rfl (by decide) ?_
                refine a_goto (tgt := 193) hc d_M_step_188 rfl ?_
                exact a_iret hc hr hk d_M_step_193 (m_i (by first | rfl | (simp only [spP, sp1, sp2, h4, h18, h28, h53, h65, h76, h184]; done) | (simp [spP, sp1, sp2, h4, h18, h28, h53, h65, h76, h184]; done)) (by first | rfl | (simp only [spP, sp1, sp2, h4, h18, h28, h53, h65, h76, h184]; done) | (simp [spP, sp1, sp2, h4, h18, h28, h53, h65, h76, h184]; done)))
            · skip
              have n76 := Nat.not_le.mpr h76
              refine a_aload_n (pc' := 80) hc d_M_step_79 rfl rfl rfl ?_
              refine r_calli (pc' := 83) hc hK hO hA hx [] [] (ct_M_stops hx (τ := τ) ) ml_M_86 hd_M_stops ⟨by decide, by decide⟩ rfl rfl (Nat.le_of_ble_eq_true rfl) d_M_step_80 rfl ?_
              refine a_ifb_eq (pc' := 86) (tgt := 89) hc d_M_step_83 rfl rfl (fun h83 => ?_) (fun h83 => ?_)
              · skip
                refine a_aload_n (pc' := 90) hc d_M_step_89 rfl rfl rfl ?_
                refine r_get (pc' := 93) hc hK hx 3 (v := .ref (ax 2)) (by decide) rfl fl_M_13 d_M_step_90 rfl ?_
                refine a_aload_n (pc' := 94) hc d_M_step_93 rfl rfl rfl ?_
                refine a_iload_n (pc' := 95) hc d_M_step_94 rfl rfl rfl ?_
                refine a_aload_n (pc' := 96) hc d_M_step_95 rfl rfl rfl ?_
                refine r_get (pc' := 99) hc hK hx 12 (v := .int ((stT τ) 0 6)) (by decide) rfl fl_M_126 d_M_step_96 rfl ?_
                refine AW.topi (y := nI (cpN τ)) (by rw [stT_06]; exact nat_eq h0) ?_
                refine r_calli (pc' := 102) hc hK hO hA hx [.int (nI (gN τ 15 62)), .int (nI (cpN τ))] [.ref (ax 2)] (ct_M_cellAt hx (τ := stT τ) (id := gN τ 15 62) (c := cpN τ) (by omega)) ml_M_136 hd_M_cellAt ⟨by decide, by decide⟩ rfl rfl (Nat.le_of_ble_eq_true rfl) d_M_step_99 rfl ?_
                refine a_aload_n (pc' := 103) hc d_M_step_102 rfl rfl rfl ?_
                refine r_get (pc' := 106) hc hK hx 3 (v := .ref (ax 2)) (by decide) rfl fl_M_13 d_M_step_103 rfl ?_
                refine a_aload_n (pc' := 107) hc d_M_step_106 rfl rfl rfl ?_
                refine a_iload_n (pc' := 108) hc d_M_step_107 rfl rfl rfl ?_
                refine a_aload_n (pc' := 109) hc d_M_step_108 rfl rfl rfl ?_
                refine r_get (pc' := 112) hc hK hx 12 (v := .int ((stT τ) 0 6)) (by decide) rfl fl_M_126 d_M_step_109 rfl ?_
                refine AW.topi (y := nI (cpN τ)) (by rw [stT_06]; exact nat_eq h0) ?_
                refine r_calli (pc' := 115) hc hK hO hA hx [.int (nI (srN τ)), .int (nI (cpN τ))] [.ref (ax 2), .int (nI (caN (gN τ 15 62) (cpN τ))), .ref (ax 2)] (ct_M_cellAt hx (τ := stT τ) (id := srN τ) (c := cpN τ) (by omega)) ml_M_136 hd_M_cellAt ⟨by decide, by decide⟩ rfl rfl (Nat.le_of_ble_eq_true rfl) d_M_step_112 rfl ?_
                refine r_iald (pc' := 116) (N := 320) hc hK hx 2 (caN (srN τ) (cpN τ)) (by decide) rfl (caN_lt hn5 hE10 hq7 hq8 (by omega)) d_M_step_115 rfl ?_
                refine r_iast (pc' := 117) (N := 320) hc hK hx 2 (caN (gN τ 15 62) (cpN τ)) (by decide) rfl (caN_lt hn5 hE10 hq3 hq4 (by omega)) d_M_step_116 rfl ?_
                refine a_aload_n (pc' := 118) hc d_M_step_117 rfl rfl rfl ?_
                refine a_dup (pc' := 119) hc d_M_step_118 rfl rfl ?_
                refine r_get (pc' := 122) hc hK hx 12 (v := .int ((ts (stT τ) 2 (caN (gN τ 15 62) (cpN τ)) ((stT τ) 2 (caN (srN τ) (cpN τ)))) 0 6)) (by decide) rfl fl_M_126 d_M_step_119 rfl ?_
                refine AW.topi (y := nI (cpN τ)) (by rw [ts_ne (by decide), stT_06]; exact nat_eq h0) ?_
                refine a_iconst (pc' := 123) (v := nI 1) hc d_M_step_122 rfl (by decide) ?_
                refine a_nadd (pc' := 124) hc d_M_step_123 rfl ?_
                refine r_put (pc' := 127) hc hK hx 12 (by decide) fl_M_126 d_M_step_124 rfl ?_
                refine a_iconst (pc' := 128) (v := nI 4) hc d_M_step_127 rfl (by decide) ?_
                refine a_aload_n (pc' := 129) hc d_M_step_128 rfl rfl rfl ?_
                refine r_get (pc' := 132) hc hK hx 12 (v := .int ((ts (ts (stT τ) 2 (caN (gN τ 15 62) (cpN τ)) ((stT τ) 2 (caN (srN τ) (cpN τ)))) 0 6 (nI ((cpN τ) + 1))) 0 6)) (by decide) rfl fl_M_126 d_M_step_129 rfl ?_
                refine AW.topi (y := nI (cpN τ + 1)) ts_at ?_
                refine a_nsub (pc' := 133) hc d_M_step_132 rfl (by omega) ?_
                exact a_iret hc hr hk d_M_step_133 (m_i (by first | rfl | (simp only [spP, sp1, sp2, h4, h18, h28, h53, h65, h76, n76, h83]; done) | (simp [spP, sp1, sp2, h4, h18, h28, h53, h65, h76, n76, h83]; done)) (by first | rfl | (simp only [spP, sp1, sp2, h4, h18, h28, h53, h65, h76, n76, h83]; done) | (simp [spP, sp1, sp2, h4, h18, h28, h53, h65, h76, n76, h83]; done)))
              · skip
                refine a_bipush (pc' := 88) (v := -7) hc d_M_step_86 rfl (by decide) ?_
                exact a_iret hc hr hk d_M_step_88 (m_i (by first | rfl | (simp only [spP, sp1, sp2, h4, h18, h28, h53, h65, h76, n76, h83]; done) | (simp [spP, sp1, sp2, h4, h18, h28, h53, h65, h76, n76, h83]; done)) (by first | rfl | (simp only [spP, sp1, sp2, h4, h18, h28, h53, h65, h76, n76, h83]; done) | (simp [spP, sp1, sp2, h4, h18, h28, h53, h65, h76, n76, h83]; done)))
          · skip
            refine a_bipush (pc' := 70) (v := -6) hc d_M_step_68 rfl (by decide) ?_
            exact a_iret hc hr hk d_M_step_70 (m_i (by first | rfl | (simp only [spP, sp1, sp2, h4, h18, h28, h53, h65]; done) | (simp [spP, sp1, sp2, h4, h18, h28, h53, h65]; done)) (by first | rfl | (simp only [spP, sp1, sp2, h4, h18, h28, h53, h65]; done) | (simp [spP, sp1, sp2, h4, h18, h28, h53, h65]; done)))
      · skip
        refine a_bipush (pc' := 33) (v := -3) hc d_M_step_31 rfl (by decide) ?_
        exact a_iret hc hr hk d_M_step_33 (m_i (by first | rfl | (simp only [spP, sp1, sp2, h4, h18, h28]; done) | (simp [spP, sp1, sp2, h4, h18, h28]; done)) (by first | rfl | (simp only [spP, sp1, sp2, h4, h18, h28]; done) | (simp [spP, sp1, sp2, h4, h18, h28]; done)))
    · skip
      refine a_bipush (pc' := 23) (v := -8) hc d_M_step_21 rfl (by decide) ?_
      exact a_iret hc hr hk d_M_step_23 (m_i (by first | rfl | (simp only [spP, sp1, sp2, h4, h18]; done) | (simp [spP, sp1, sp2, h4, h18]; done)) (by first | rfl | (simp only [spP, sp1, sp2, h4, h18]; done) | (simp [spP, sp1, sp2, h4, h18]; done)))
  · skip
    refine a_bipush (pc' := 9) (v := -2) hc d_M_step_7 rfl (by decide) ?_
    exact a_iret hc hr hk d_M_step_9 (m_i (by first | rfl | (simp only [spP, sp1, sp2, h4]; done) | (simp [spP, sp1, sp2, h4]; done)) (by first | rfl | (simp only [spP, sp1, sp2, h4]; done) | (simp [spP, sp1, sp2, h4]; done)))
theorem ct_M_move (hx : MX ax rl ca tys n E) {τ : TS} {v : Int32} {k : Int32} {d : Int32} (h6 : ∀ d, d < 5 → ¬ τ 6 d < 0) (hw : WFx n E τ 15) : MC l y_M_move c_M_move 6 (some .int) 5 D tys A ax rl ca n E τ [.int v, .int k, .int d] (some (.int ((moP τ n E v k d).1))) ((moP τ n E v k d).2) := by
  obtain ⟨hn2, hn5⟩ := hx.2.2.2.1
  obtain ⟨hE2, hE10⟩ := hx.2.2.2.2
  refine MC.of rfl (Nat.le_of_ble_eq_true rfl) (cat_all rfl) ?_
  intro pp ee ss mm aa bb me cd hc hK hO hr hk hA
  refine AW.to (lv' := [some (.ref (ax 0)), some (.int v), some (.int k), some (.int d), none, none]) rfl rfl rfl ?_
  refine a_aload_n (pc' := 1) hc d_M_move_0 rfl rfl rfl ?_
  refine r_get (pc' := 4) hc hK hx 11 (v := .int (bI (tb (τ 0 5)))) (by decide) rfl fl_M_45 d_M_move_1 rfl ?_
  refine a_ifb_ne (pc' := 7) (tgt := 10) hc d_M_move_4 rfl rfl (fun h4 => ?_) (fun h4 => ?_)
  · skip
    refine a_aload_n (pc' := 11) hc d_M_move_10 rfl rfl rfl ?_
    refine a_iload_n (pc' := 12) hc d_M_move_11 rfl rfl rfl ?_
    refine a_iload_n (pc' := 13) hc d_M_move_12 rfl rfl rfl ?_
    refine r_calli (pc' := 16) hc hK hO hA hx [.int v, .int k] [] (ct_M_isExtent hx (τ := τ) (v := v) (k := k) hw.1) ml_M_123 hd_M_isExtent ⟨by decide, by decide⟩ rfl rfl (Nat.le_of_ble_eq_true rfl) d_M_move_13 rfl ?_
    refine a_ifb_eq (pc' := 19) (tgt := 31) hc d_M_move_16 rfl rfl (fun h16 => ?_) (fun h16 => ?_)
    · skip
      refine a_iconst (pc' := 32) (v := -1) hc d_M_move_31 rfl (by decide) ?_
      exact a_iret hc hr hk d_M_move_32 (m_i (by first | rfl | (simp only [moP, mo1, h4, h16]; done) | (simp [moP, mo1, h4, h16]; done)) (by first | rfl | (simp only [moP, mo1, h4, h16]; done) | (simp [moP, mo1, h4, h16]; done)))
    · skip
      obtain ⟨i, j, hi, ei, ci, hj, ej, cj⟩ := exB_t hw.1 h16
      subst ei
      subst ej
      have hx16 := hw.1.ex hi
      have hp16 := hw.2.2.1 i hi j hj
      have hl16 := gN_lt τ 15 (15 * i + 3 + j)
      refine a_iload_n (pc' := 20) hc d_M_move_19 rfl rfl rfl ?_
      refine a_if_lt (pc' := 23) (tgt := 31) hc d_M_move_20 rfl rfl (fun h20 => ?_) (fun h20 => ?_)
      · skip
        refine a_iconst (pc' := 32) (v := -1) hc d_M_move_31 rfl (by decide) ?_
        exact a_iret hc hr hk d_M_move_32 (m_i (by first | rfl | (simp only [moP, mo1, h4, h16, ci, cj, h20]; done) | (simp [moP, mo1, h4, h16, ci, cj, h20]; done)) (by first | rfl | (simp only [moP, mo1, h4, h16, ci, cj, h20]; done) | (simp [moP, mo1, h4, h16, ci, cj, h20]; done)))
      · skip
        refine a_iload_n (pc' := 24) hc d_M_move_23 rfl rfl rfl ?_
        refine a_aload_n (pc' := 25) hc d_M_move_24 rfl rfl rfl ?_
        refine r_get (pc' := 28) hc hK hx 0 (v := .int (nI n)) (by decide) rfl fl_M_29 d_M_move_25 rfl ?_
        refine a_icmp_lt (pc' := 31) (tgt := 33) hc d_M_move_28 rfl rfl (fun h28 => ?_) (fun h28 => ?_)
        · skip
          obtain ⟨d', hd', ed, cd'⟩ := ix_of (N := n) (by omega) h20 (Int32.not_le.mpr h28)
          subst ed
          refine a_aload_n (pc' := 34) hc d_M_move_33 rfl rfl rfl ?_
          refine r_calli (pc' := 37) hc hK hO hA hx [] [] (ct_M_few hx (τ := τ) ) ml_M_108 hd_M_few ⟨by decide, by decide⟩ rfl rfl (Nat.le_of_ble_eq_true rfl) d_M_move_34 rfl ?_
          refine a_ifb_eq (pc' := 40) (tgt := 43) hc d_M_move_37 rfl rfl (fun h37 => ?_) (fun h37 => ?_)
          · skip
            refine a_aload_n (pc' := 44) hc d_M_move_43 rfl rfl rfl ?_
            refine a_bipush (pc' := 46) (v := nI 15) hc d_M_move_44 rfl (by decide) ?_
            refine a_bipush (pc' := 48) (v := nI 60) hc d_M_move_46 rfl (by decide) ?_
            refine r_calli (pc' := 51) hc hK hO hA hx [.int (nI 15), .int (nI 60)] [] (ct_M_get hx (τ := τ) (mp := 15) (i := 60) (by omega) (by omega)) ml_M_49 hd_M_get ⟨by decide, by decide⟩ rfl rfl (Nat.le_of_ble_eq_true rfl) d_M_move_48 rfl ?_
            refine a_if_lt (pc' := 54) (tgt := 57) hc d_M_move_51 rfl rfl (fun h51 => ?_) (fun h51 => ?_)
            · skip
              refine a_aload_n (pc' := 58) hc d_M_move_57 rfl rfl rfl ?_
              refine a_bipush (pc' := 60) (v := nI 15) hc d_M_move_58 rfl (by decide) ?_
              refine a_bipush (pc' := 62) (v := nI 15) hc d_M_move_60 rfl (by decide) ?_
              refine a_iload_n (pc' := 63) hc d_M_move_62 rfl rfl rfl ?_
              refine a_nmul (pc' := 64) hc d_M_move_63 rfl ?_
              refine a_iconst (pc' := 65) (v := nI 3) hc d_M_move_64 rfl (by decide) ?_
              refine a_nadd (pc' := 66) hc d_M_move_65 rfl ?_
              refine a_iload_n (pc' := 67) hc d_M_move_66 rfl rfl rfl ?_
              refine a_nadd (pc' := 68) hc d_M_move_67 rfl ?_
              refine r_calli (pc' := 71) hc hK hO hA hx [.int (nI 15), .int (nI (((15 * i) + 3) + j))] [] (ct_M_get hx (τ := τ) (mp := 15) (i := ((15 * i) + 3) + j) (by omega) (by omega)) ml_M_49 hd_M_get ⟨by decide, by decide⟩ rfl rfl (Nat.le_of_ble_eq_true rfl) d_M_move_68 rfl ?_
              refine AW.topi (y := nI (gN τ 15 (15 * i + 3 + j))) (hw.1.n (by omega) (by omega)) ?_
              refine a_istore (pc' := 73) hc d_M_move_71 rfl (by decide) ?_
              refine a_aload_n (pc' := 74) hc d_M_move_73 rfl rfl rfl ?_
              refine r_get (pc' := 77) hc hK hx 2 (v := .ref (ax 1)) (by decide) rfl fl_M_7 d_M_move_74 rfl ?_
              refine a_iload (pc' := 79) hc d_M_move_77 rfl rfl ?_
              refine a_bipush (pc' := 81) (v := nI 16) hc d_M_move_79 rfl (by decide) ?_
              refine a_ndiv (pc' := 82) hc d_M_move_81 rfl (by omega) (by omega) (by omega) ?_
              refine r_zald (pc' := 83) hc hK hx ((gN τ 15 (15 * i + 3 + j)) / 16) (by omega) d_M_move_82 rfl ?_
              refine a_ifb_eq (pc' := 86) (tgt := 95) hc d_M_move_83 rfl rfl (fun h83 => ?_) (fun h83 => ?_)
              · skip
                refine a_bipush (pc' := 97) (v := -6) hc d_M_move_95 rfl (by decide) ?_
                exact a_iret hc hr hk d_M_move_97 (m_i (by first | rfl | (simp only [moP, mo1, h4, h16, ci, cj, h20, h28, cd', h37, h51, h83]; done) | (simp [moP, mo1, h4, h16, ci, cj, h20, h28, cd', h37, h51, h83]; done)) (by first | rfl | (simp only [moP, mo1, h4, h16, ci, cj, h20, h28, cd', h37, h51, h83]; done) | (simp [moP, mo1, h4, h16, ci, cj, h20, h28, cd', h37, h51, h83]; done)))
              · skip
                refine a_aload_n (pc' := 87) hc d_M_move_86 rfl rfl rfl ?_
                refine r_get (pc' := 90) hc hK hx 2 (v := .ref (ax 1)) (by decide) rfl fl_M_7 d_M_move_87 rfl ?_
                refine a_iload_n (pc' := 91) hc d_M_move_90 rfl rfl rfl ?_
                refine r_zald (pc' := 92) hc hK hx d' (by omega) d_M_move_91 rfl ?_
                refine a_ifb_ne (pc' := 95) (tgt := 98) hc d_M_move_92 rfl rfl (fun h92 => ?_) (fun h92 => ?_)
                · skip
                  refine a_aload_n (pc' := 99) hc d_M_move_98 rfl rfl rfl ?_
                  refine a_bipush (pc' := 101) (v := nI 15) hc d_M_move_99 rfl (by decide) ?_
                  refine a_iload_n (pc' := 102) hc d_M_move_101 rfl rfl rfl ?_
                  refine r_calli (pc' := 105) hc hK hO hA hx [.int (nI 15), .int (nI d')] [] (ct_M_leastFree hx (τ := τ) (mp := 15) (d := d') (by omega) (by omega) hw.1) ml_M_73 hd_M_leastFree ⟨by decide, by decide⟩ rfl rfl (Nat.le_of_ble_eq_true rfl) d_M_move_102 rfl ?_
                  refine a_istore (pc' := 107) hc d_M_move_105 rfl (by decide) ?_
                  refine a_iload (pc' := 109) hc d_M_move_107 rfl rfl ?_
                  refine a_if_ge (pc' := 112) (tgt := 115) hc d_M_move_109 rfl rfl (fun h109 => ?_) (fun h109 => ?_)
                  · skip
                    refine a_aload_n (pc' := 116) hc d_M_move_115 rfl rfl rfl ?_
                    refine a_bipush (pc' := 118) (v := nI 15) hc d_M_move_116 rfl (by decide) ?_
                    refine a_bipush (pc' := 120) (v := nI 16) hc d_M_move_118 rfl (by decide) ?_
                    refine r_callv (pc' := 123) hc hK hO hA hx [.int (nI 15), .int (nI 16)] [] (ct_M_copyMap hx (τ := τ) (a := 15) (b := 16) (by omega) (by omega)) ml_M_90 hd_M_copyMap ⟨by decide, by decide⟩ rfl rfl (Nat.le_of_ble_eq_true rfl) d_M_move_120 rfl ?_
                    refine a_aload_n (pc' := 124) hc d_M_move_123 rfl rfl rfl ?_
                    refine a_bipush (pc' := 126) (v := nI 16) hc d_M_move_124 rfl (by decide) ?_
                    refine a_bipush (pc' := 128) (v := nI 60) hc d_M_move_126 rfl (by decide) ?_
                    refine a_iload_n (pc' := 129) hc d_M_move_128 rfl rfl rfl ?_
                    refine r_callv (pc' := 132) hc hK hO hA hx [.int (nI 16), .int (nI 60), .int (nI i)] [] (ct_M_set hx (τ := cpT τ 15 16 64) (mp := 16) (i := 60) (v := nI i) (by omega) (by omega)) ml_M_76 hd_M_set ⟨by decide, by decide⟩ rfl rfl (Nat.le_of_ble_eq_true rfl) d_M_move_129 rfl ?_
                    refine a_aload_n (pc' := 133) hc d_M_move_132 rfl rfl rfl ?_
                    refine a_bipush (pc' := 135) (v := nI 16) hc d_M_move_133 rfl (by decide) ?_
                    refine a_bipush (pc' := 137) (v := nI 61) hc d_M_move_135 rfl (by decide) ?_
                    refine a_iload_n (pc' := 138) hc d_M_move_137 rfl rfl rfl ?_
                    refine r_callv (pc' := 141) hc hK hO hA hx [.int (nI 16), .int (nI 61), .int (nI j)] [] (ct_M_set hx (τ := ts (cpT τ 15 16 64) 3 (64 * 16 + 60) (nI i)) (mp := 16) (i := 61) (v := nI j) (by omega) (by omega)) ml_M_76 hd_M_set ⟨by decide, by decide⟩ rfl rfl (Nat.le_of_ble_eq_true rfl) d_M_move_138 rfl ?_
                    refine a_aload_n (pc' := 142) hc d_M_move_141 rfl rfl rfl ?_
                    refine a_bipush (pc' := 144) (v := nI 16) hc d_M_move_142 rfl (by decide) ?_
                    refine a_bipush (pc' := 146) (v := nI 62) hc d_M_move_144 rfl (by decide) ?_
                    refine a_iload (pc' := 148) hc d_M_move_146 rfl rfl ?_
                    refine r_callv (pc' := 151) hc hK hO hA hx [.int (nI 16), .int (nI 62), .int (lfI τ E 15 d')] [] (ct_M_set hx (τ := ts (ts (cpT τ 15 16 64) 3 (64 * 16 + 60) (nI i)) 3 (64 * 16 + 61) (nI j)) (mp := 16) (i := 62) (v := lfI τ E 15 d') (by omega) (by omega)) ml_M_76 hd_M_set ⟨by decide, by decide⟩ rfl rfl (Nat.le_of_ble_eq_true rfl) d_M_move_148 rfl ?_
                    refine a_aload_n (pc' := 152) hc d_M_move_151 rfl rfl rfl ?_
                    refine r_calli (pc' := 155) hc hK hO hA hx [] [] (ct_M_commit hx (τ := ts (ts (ts (cpT τ 15 16 64) 3 (64 * 16 + 60) (nI i)) 3 (64 * 16 + 61) (nI j)) 3 (64 * 16 + 62) (lfI τ E 15 d')) (fun d hd => h6 d hd)) ml_M_114 hd_M_commit ⟨by decide, by decide⟩ rfl rfl (Nat.le_of_ble_eq_true rfl) d_M_move_152 rfl ?_
                    refine a_ifb_ne (pc' := 158) (tgt := 161) hc d_M_move_155 rfl rfl (fun h155 => ?_) (fun h155 => ?_)
                    · skip
                      refine a_aload_n (pc' := 162) hc d_M_move_161 rfl rfl rfl ?_
                      refine a_iconst (pc' := 163) (v := nI 0) hc d_M_move_162 rfl (by decide) ?_
                      refine r_put (pc' := 166) hc hK hx 12 (by decide) fl_M_126 d_M_move_163 rfl ?_
                      refine a_iconst (pc' := 167) (v := nI 0) hc d_M_move_166 rfl (by decide) ?_
                      exact a_iret hc hr hk d_M_move_167 (m_i (by first | rfl | (simp only [moP, mo1, h4, h16, ci, cj, h20, h28, cd', h37, h51, h83, h92, h109, h155]; done) | (simp [moP, mo1, h4, h16, ci, cj, h20, h28, cd', h37, h51, h83, h92, h109, h155]; done)) (by first | rfl | (simp only [moP, mo1, h4, h16, ci, cj, h20, h28, cd', h37, h51, h83, h92, h109, h155]; done) | (simp [moP, mo1, h4, h16, ci, cj, h20, h28, cd', h37, h51, h83, h92, h109, h155]; done)))
                    · skip
                      refine a_bipush (pc' := 160) (v := -7) hc d_M_move_158 rfl (by decide) ?_
                      exact a_iret hc hr hk d_M_move_160 (m_i (by first | rfl | (simp only [moP, mo1, h4, h16, ci, cj, h20, h28, cd', h37, h51, h83, h92, h109, h155]; done) | (simp [moP, mo1, h4, h16, ci, cj, h20, h28, cd', h37, h51, h83, h92, h109, h155]; done)) (by first | rfl | (simp only [moP, mo1, h4, h16, ci, cj, h20, h28, cd', h37, h51, h83, h92, h109, h155]; done) | (simp [moP, mo1, h4, h16, ci, cj, h20, h28, cd', h37, h51, h83, h92, h109, h155]; done)))
                  · skip
                    refine a_bipush (pc' := 114) (v := -5) hc d_M_move_112 rfl (by decide) ?_
                    exact a_iret hc hr hk d_M_move_114 (m_i (by first | rfl | (simp only [moP, mo1, h4, h16, ci, cj, h20, h28, cd', h37, h51, h83, h92, h109]; done) | (simp [moP, mo1, h4, h16, ci, cj, h20, h28, cd', h37, h51, h83, h92, h109]; done)) (by first | rfl | (simp only [moP, mo1, h4, h16, ci, cj, h20, h28, cd', h37, h51, h83, h92, h109]; done) | (simp [moP, mo1, h4, h16, ci, cj, h20, h28, cd', h37, h51, h83, h92, h109]; done)))
                · skip
                  refine a_bipush (pc' := 97) (v := -6) hc d_M_move_95 rfl (by decide) ?_
                  exact a_iret hc hr hk d_M_move_97 (m_i (by first | rfl | (simp only [moP, mo1, h4, h16, ci, cj, h20, h28, cd', h37, h51, h83, h92]; done) | (simp [moP, mo1, h4, h16, ci, cj, h20, h28, cd', h37, h51, h83, h92]; done)) (by first | rfl | (simp only [moP, mo1, h4, h16, ci, cj, h20, h28, cd', h37, h51, h83, h92]; done) | (simp [moP, mo1, h4, h16, ci, cj, h20, h28, cd', h37, h51, h83, h92]; done)))
            · skip
              refine a_bipush (pc' := 56) (v := -4) hc d_M_move_54 rfl (by decide) ?_
              exact a_iret hc hr hk d_M_move_56 (m_i (by first | rfl | (simp only [moP, mo1, h4, h16, ci, cj, h20, h28, cd', h37, h51]; done) | (simp [moP, mo1, h4, h16, ci, cj, h20, h28, cd', h37, h51]; done)) (by first | rfl | (simp only [moP, mo1, h4, h16, ci, cj, h20, h28, cd', h37, h51]; done) | (simp [moP, mo1, h4, h16, ci, cj, h20, h28, cd', h37, h51]; done)))
          · skip
            refine a_bipush (pc' := 42) (v := -3) hc d_M_move_40 rfl (by decide) ?_
            exact a_iret hc hr hk d_M_move_42 (m_i (by first | rfl | (simp only [moP, mo1, h4, h16, ci, cj, h20, h28, cd', h37]; done) | (simp [moP, mo1, h4, h16, ci, cj, h20, h28, cd', h37]; done)) (by first | rfl | (simp only [moP, mo1, h4, h16, ci, cj, h20, h28, cd', h37]; done) | (simp [moP, mo1, h4, h16, ci, cj, h20, h28, cd', h37]; done)))
        · skip
          refine a_iconst (pc' := 32) (v := -1) hc d_M_move_31 rfl (by decide) ?_
          exact a_iret hc hr hk d_M_move_32 (m_i (by first | rfl | (simp only [moP, mo1, h4, h16, ci, cj, h20, h28]; done) | (simp [moP, mo1, h4, h16, ci, cj, h20, h28]; done)) (by first | rfl | (simp only [moP, mo1, h4, h16, ci, cj, h20, h28]; done) | (simp [moP, mo1, h4, h16, ci, cj, h20, h28]; done)))
  · skip
    refine a_bipush (pc' := 9) (v := -2) hc d_M_move_7 rfl (by decide) ?_
    exact a_iret hc hr hk d_M_move_9 (m_i (by first | rfl | (simp only [moP, mo1, h4]; done) | (simp [moP, mo1, h4]; done)) (by first | rfl | (simp only [moP, mo1, h4]; done) | (simp [moP, mo1, h4]; done)))
theorem ct_M_write (hx : MX ax rl ca tys n E) {τ : TS} {v : Int32} {b : Int32} {x : Int32} (hw : WFx n E τ 15) : MC l y_M_write c_M_write 8 (some .int) 4 D tys A ax rl ca n E τ [.int v, .int b, .int x] (some (.int ((wrP τ v b x).1))) ((wrP τ v b x).2) := by
  obtain ⟨hn2, hn5⟩ := hx.2.2.2.1
  obtain ⟨hE2, hE10⟩ := hx.2.2.2.2
  refine MC.of rfl (Nat.le_of_ble_eq_true rfl) (cat_all rfl) ?_
  intro pp ee ss mm aa bb me cd hc hK hO hr hk hA
  refine AW.to (lv' := [some (.ref (ax 0)), some (.int v), some (.int b), some (.int x), none, none, none, none]) rfl rfl rfl ?_
  refine a_aload_n (pc' := 1) hc d_M_write_0 rfl rfl rfl ?_
  refine r_get (pc' := 4) hc hK hx 11 (v := .int (bI (tb (τ 0 5)))) (by decide) rfl fl_M_45 d_M_write_1 rfl ?_
  refine a_ifb_ne (pc' := 7) (tgt := 10) hc d_M_write_4 rfl rfl (fun h4 => ?_) (fun h4 => ?_)
  · skip
    refine a_aload_n (pc' := 11) hc d_M_write_10 rfl rfl rfl ?_
    refine a_iload_n (pc' := 12) hc d_M_write_11 rfl rfl rfl ?_
    refine a_iload_n (pc' := 13) hc d_M_write_12 rfl rfl rfl ?_
    refine r_calli (pc' := 16) hc hK hO hA hx [.int v, .int b] [] (ct_M_isBlock hx (τ := τ) (v := v) (b := b) hw.1) ml_M_139 hd_M_isBlock ⟨by decide, by decide⟩ rfl rfl (Nat.le_of_ble_eq_true rfl) d_M_write_13 rfl ?_
    refine a_ifb_eq (pc' := 19) (tgt := 23) hc d_M_write_16 rfl rfl (fun h16 => ?_) (fun h16 => ?_)
    · skip
      refine a_iconst (pc' := 24) (v := -1) hc d_M_write_23 rfl (by decide) ?_
      exact a_iret hc hr hk d_M_write_24 (m_i (by first | rfl | (simp only [wrP, twB, wr1, wr2, h4, h16]; done) | (simp [wrP, twB, wr1, wr2, h4, h16]; done)) (by first | rfl | (simp only [wrP, twB, wr1, wr2, h4, h16]; done) | (simp [wrP, twB, wr1, wr2, h4, h16]; done)))
    · skip
      obtain ⟨i, j, hi, ei, ci, hj, ej, cj, pj⟩ := blB_t hw.1 h16
      subst ei
      subst ej
      have hx16 := hw.1.ex hi
      obtain ⟨hb1, hb2, hb3, hb4, hb5, hb6⟩ := bk_t hw hi pj hj
      have hid : bpN τ i j < 2 ^ 31 := gN_lt _ _ _
      refine a_iload_n (pc' := 20) hc d_M_write_19 rfl rfl rfl ?_
      refine a_if_ge (pc' := 23) (tgt := 25) hc d_M_write_20 rfl rfl (fun h20 => ?_) (fun h20 => ?_)
      · skip
        refine a_aload_n (pc' := 26) hc d_M_write_25 rfl rfl rfl ?_
        refine a_iload_n (pc' := 27) hc d_M_write_26 rfl rfl rfl ?_
        refine a_iload_n (pc' := 28) hc d_M_write_27 rfl rfl rfl ?_
        refine r_calli (pc' := 31) hc hK hO hA hx [.int (nI i), .int (nI j)] [] (ct_M_extentOf hx (τ := τ) (v := i) (b := j) (by omega) (by omega) hw.1 hb1 hb2) ml_M_142 hd_M_extentOf ⟨by decide, by decide⟩ rfl rfl (Nat.le_of_ble_eq_true rfl) d_M_write_28 rfl ?_
        refine a_istore (pc' := 33) hc d_M_write_31 rfl (by decide) ?_
        refine a_aload_n (pc' := 34) hc d_M_write_33 rfl rfl rfl ?_
        refine a_iload_n (pc' := 35) hc d_M_write_34 rfl rfl rfl ?_
        refine a_iload_n (pc' := 36) hc d_M_write_35 rfl rfl rfl ?_
        refine r_calli (pc' := 39) hc hK hO hA hx [.int (nI i), .int (nI j)] [] (ct_M_cellOf hx (τ := τ) (v := i) (b := j) (by omega) (by omega) hw.1 hb1 hb2) ml_M_145 hd_M_cellOf ⟨by decide, by decide⟩ rfl rfl (Nat.le_of_ble_eq_true rfl) d_M_write_36 rfl ?_
        refine AW.topi (y := nI (bcN τ i j)) rfl ?_
        refine a_istore (pc' := 41) hc d_M_write_39 rfl (by decide) ?_
        refine a_aload_n (pc' := 42) hc d_M_write_41 rfl rfl rfl ?_
        refine a_bipush (pc' := 44) (v := nI 15) hc d_M_write_42 rfl (by decide) ?_
        refine a_bipush (pc' := 46) (v := nI 15) hc d_M_write_44 rfl (by decide) ?_
        refine a_iload_n (pc' := 47) hc d_M_write_46 rfl rfl rfl ?_
        refine a_nmul (pc' := 48) hc d_M_write_47 rfl ?_
        refine a_iconst (pc' := 49) (v := nI 3) hc d_M_write_48 rfl (by decide) ?_
        refine a_nadd (pc' := 50) hc d_M_write_49 rfl ?_
        refine a_iload (pc' := 52) hc d_M_write_50 rfl rfl ?_
        refine a_nadd (pc' := 53) hc d_M_write_52 rfl ?_
        refine r_calli (pc' := 56) hc hK hO hA hx [.int (nI 15), .int (nI (((15 * i) + 3) + (eoN (gN τ 15 (15 * i)) (gN τ 15 (15 * i + 1)) j)))] [] (ct_M_get hx (τ := τ) (mp := 15) (i := ((15 * i) + 3) + (eoN (gN τ 15 (15 * i)) (gN τ 15 (15 * i + 1)) j)) (by omega) (by omega)) ml_M_49 hd_M_get ⟨by decide, by decide⟩ rfl rfl (Nat.le_of_ble_eq_true rfl) d_M_write_53 rfl ?_
        refine AW.topi (y := nI (bpN τ i j)) (hw.1.n (by omega) (by omega)) ?_
        refine a_istore (pc' := 58) hc d_M_write_56 rfl (by decide) ?_
        refine a_aload_n (pc' := 59) hc d_M_write_58 rfl rfl rfl ?_
        refine a_iload_n (pc' := 60) hc d_M_write_59 rfl rfl rfl ?_
        refine r_calli (pc' := 63) hc hK hO hA hx [.int (nI i)] [] (ct_M_isMoved hx (τ := τ) (v := nI i) ) ml_M_120 hd_M_isMoved ⟨by decide, by decide⟩ rfl rfl (Nat.le_of_ble_eq_true rfl) d_M_write_60 rfl ?_
        refine a_ifb_eq (pc' := 66) (tgt := 92) hc d_M_write_63 rfl rfl (fun h63 => ?_) (fun h63 => ?_)
        · skip
          refine a_iconst (pc' := 93) (v := nI 0) hc d_M_write_92 rfl (by decide) ?_
          refine a_istore (pc' := 95) hc d_M_write_93 rfl (by decide) ?_
          refine a_aload_n (pc' := 96) hc d_M_write_95 rfl rfl rfl ?_
          refine r_get (pc' := 99) hc hK hx 2 (v := .ref (ax 1)) (by decide) rfl fl_M_7 d_M_write_96 rfl ?_
          refine a_iload (pc' := 101) hc d_M_write_99 rfl rfl ?_
          refine a_bipush (pc' := 103) (v := nI 16) hc d_M_write_101 rfl (by decide) ?_
          refine a_ndiv (pc' := 104) hc d_M_write_103 rfl (by omega) (by omega) (by omega) ?_
          refine r_zald (pc' := 105) hc hK hx ((bpN τ i j) / 16) (by omega) d_M_write_104 rfl ?_
          refine a_ifb_eq (pc' := 108) (tgt := 128) hc d_M_write_105 rfl rfl (fun h105 => ?_) (fun h105 => ?_)
          · skip
            refine a_bipush (pc' := 130) (v := -6) hc d_M_write_128 rfl (by decide) ?_
            exact a_iret hc hr hk d_M_write_130 (m_i (by first | rfl | (simp only [wrP, twB, wr1, wr2, h4, h16, ci, cj, h20, h63, h105]; done) | (simp [wrP, twB, wr1, wr2, h4, h16, ci, cj, h20, h63, h105]; done)) (by first | rfl | (simp only [wrP, twB, wr1, wr2, h4, h16, ci, cj, h20, h63, h105]; done) | (simp [wrP, twB, wr1, wr2, h4, h16, ci, cj, h20, h63, h105]; done)))
          · skip
            refine a_iload (pc' := 110) hc d_M_write_108 rfl rfl ?_
            refine a_ifn_eq (pc' := 113) (tgt := 131) hc d_M_write_110 rfl rfl (by omega) (fun h110 => ?_) (fun h110 => absurd h110 (by omega))
            refine a_aload_n (pc' := 132) hc d_M_write_131 rfl rfl rfl ?_
            refine r_calli (pc' := 135) hc hK hO hA hx [] [] (ct_M_stops hx (τ := τ) ) ml_M_86 hd_M_stops ⟨by decide, by decide⟩ rfl rfl (Nat.le_of_ble_eq_true rfl) d_M_write_132 rfl ?_
            refine a_ifb_eq (pc' := 138) (tgt := 141) hc d_M_write_135 rfl rfl (fun h135 => ?_) (fun h135 => ?_)
            · skip
              refine a_aload_n (pc' := 142) hc d_M_write_141 rfl rfl rfl ?_
              refine r_get (pc' := 145) hc hK hx 3 (v := .ref (ax 2)) (by decide) rfl fl_M_13 d_M_write_142 rfl ?_
              refine a_aload_n (pc' := 146) hc d_M_write_145 rfl rfl rfl ?_
              refine a_iload (pc' := 148) hc d_M_write_146 rfl rfl ?_
              refine a_iload (pc' := 150) hc d_M_write_148 rfl rfl ?_
              refine r_calli (pc' := 153) hc hK hO hA hx [.int (nI (bpN τ i j)), .int (nI (bcN τ i j))] [.ref (ax 2)] (ct_M_cellAt hx (τ := stT τ) (id := bpN τ i j) (c := bcN τ i j) hid) ml_M_136 hd_M_cellAt ⟨by decide, by decide⟩ rfl rfl (Nat.le_of_ble_eq_true rfl) d_M_write_150 rfl ?_
              refine a_iload_n (pc' := 154) hc d_M_write_153 rfl rfl rfl ?_
              refine r_iast (pc' := 155) (N := 320) hc hK hx 2 (caN (bpN τ i j) (bcN τ i j)) (by decide) rfl (caN_lt hn5 hE10 hb5 hb6 hb4) d_M_write_154 rfl ?_
              refine a_iload (pc' := 157) hc d_M_write_155 rfl rfl ?_
              refine a_ifn_ne (pc' := 160) (tgt := 162) hc d_M_write_157 rfl rfl (by omega) (fun h157 => absurd h157 (by omega)) (fun h157 => ?_)
              refine a_iconst (pc' := 161) (v := nI 1) hc d_M_write_160 rfl (by decide) ?_
              exact a_iret hc hr hk d_M_write_161 (m_i (by first | rfl | (simp only [wrP, twB, wr1, wr2, h4, h16, ci, cj, h20, h63, h105, h135]; done) | (simp [wrP, twB, wr1, wr2, h4, h16, ci, cj, h20, h63, h105, h135]; done)) (by first | rfl | (simp only [wrP, twB, wr1, wr2, h4, h16, ci, cj, h20, h63, h105, h135]; done) | (simp [wrP, twB, wr1, wr2, h4, h16, ci, cj, h20, h63, h105, h135]; done)))
            · skip
              refine a_bipush (pc' := 140) (v := -7) hc d_M_write_138 rfl (by decide) ?_
              exact a_iret hc hr hk d_M_write_140 (m_i (by first | rfl | (simp only [wrP, twB, wr1, wr2, h4, h16, ci, cj, h20, h63, h105, h135]; done) | (simp [wrP, twB, wr1, wr2, h4, h16, ci, cj, h20, h63, h105, h135]; done)) (by first | rfl | (simp only [wrP, twB, wr1, wr2, h4, h16, ci, cj, h20, h63, h105, h135]; done) | (simp [wrP, twB, wr1, wr2, h4, h16, ci, cj, h20, h63, h105, h135]; done)))
        · skip
          obtain ⟨hm1, hm2, hm3, hm4⟩ := hw.2.2.2 (mvB_n (by omega) h63)
          have hm5 := gN_lt τ 15 62
          refine a_aload_n (pc' := 67) hc d_M_write_66 rfl rfl rfl ?_
          refine a_bipush (pc' := 69) (v := nI 15) hc d_M_write_67 rfl (by decide) ?_
          refine a_bipush (pc' := 71) (v := nI 61) hc d_M_write_69 rfl (by decide) ?_
          refine r_calli (pc' := 74) hc hK hO hA hx [.int (nI 15), .int (nI 61)] [] (ct_M_get hx (τ := τ) (mp := 15) (i := 61) (by omega) (by omega)) ml_M_49 hd_M_get ⟨by decide, by decide⟩ rfl rfl (Nat.le_of_ble_eq_true rfl) d_M_write_71 rfl ?_
          refine a_iload (pc' := 76) hc d_M_write_74 rfl rfl ?_
          refine a_icmp_ne (pc' := 79) (tgt := 92) hc d_M_write_76 rfl rfl (fun h76 => ?_) (fun h76 => ?_)
          · skip
            refine a_iconst (pc' := 93) (v := nI 0) hc d_M_write_92 rfl (by decide) ?_
            refine a_istore (pc' := 95) hc d_M_write_93 rfl (by decide) ?_
            refine a_aload_n (pc' := 96) hc d_M_write_95 rfl rfl rfl ?_
            refine r_get (pc' := 99) hc hK hx 2 (v := .ref (ax 1)) (by decide) rfl fl_M_7 d_M_write_96 rfl ?_
            refine a_iload (pc' := 101) hc d_M_write_99 rfl rfl ?_
            refine a_bipush (pc' := 103) (v := nI 16) hc d_M_write_101 rfl (by decide) ?_
            refine a_ndiv (pc' := 104) hc d_M_write_103 rfl (by omega) (by omega) (by omega) ?_
            refine r_zald (pc' := 105) hc hK hx ((bpN τ i j) / 16) (by omega) d_M_write_104 rfl ?_
            refine a_ifb_eq (pc' := 108) (tgt := 128) hc d_M_write_105 rfl rfl (fun h105 => ?_) (fun h105 => ?_)
            · skip
              refine a_bipush (pc' := 130) (v := -6) hc d_M_write_128 rfl (by decide) ?_
              exact a_iret hc hr hk d_M_write_130 (m_i (by first | rfl | (simp only [wrP, twB, wr1, wr2, h4, h16, ci, cj, h20, h63, h76, h105]; done) | (simp [wrP, twB, wr1, wr2, h4, h16, ci, cj, h20, h63, h76, h105]; done)) (by first | rfl | (simp only [wrP, twB, wr1, wr2, h4, h16, ci, cj, h20, h63, h76, h105]; done) | (simp [wrP, twB, wr1, wr2, h4, h16, ci, cj, h20, h63, h76, h105]; done)))
            · skip
              refine a_iload (pc' := 110) hc d_M_write_108 rfl rfl ?_
              refine a_ifn_eq (pc' := 113) (tgt := 131) hc d_M_write_110 rfl rfl (by omega) (fun h110 => ?_) (fun h110 => absurd h110 (by omega))
              refine a_aload_n (pc' := 132) hc d_M_write_131 rfl rfl rfl ?_
              refine r_calli (pc' := 135) hc hK hO hA hx [] [] (ct_M_stops hx (τ := τ) ) ml_M_86 hd_M_stops ⟨by decide, by decide⟩ rfl rfl (Nat.le_of_ble_eq_true rfl) d_M_write_132 rfl ?_
              refine a_ifb_eq (pc' := 138) (tgt := 141) hc d_M_write_135 rfl rfl (fun h135 => ?_) (fun h135 => ?_)
              · skip
                refine a_aload_n (pc' := 142) hc d_M_write_141 rfl rfl rfl ?_
                refine r_get (pc' := 145) hc hK hx 3 (v := .ref (ax 2)) (by decide) rfl fl_M_13 d_M_write_142 rfl ?_
                refine a_aload_n (pc' := 146) hc d_M_write_145 rfl rfl rfl ?_
                refine a_iload (pc' := 148) hc d_M_write_146 rfl rfl ?_
                refine a_iload (pc' := 150) hc d_M_write_148 rfl rfl ?_
                refine r_calli (pc' := 153) hc hK hO hA hx [.int (nI (bpN τ i j)), .int (nI (bcN τ i j))] [.ref (ax 2)] (ct_M_cellAt hx (τ := stT τ) (id := bpN τ i j) (c := bcN τ i j) hid) ml_M_136 hd_M_cellAt ⟨by decide, by decide⟩ rfl rfl (Nat.le_of_ble_eq_true rfl) d_M_write_150 rfl ?_
                refine a_iload_n (pc' := 154) hc d_M_write_153 rfl rfl rfl ?_
                refine r_iast (pc' := 155) (N := 320) hc hK hx 2 (caN (bpN τ i j) (bcN τ i j)) (by decide) rfl (caN_lt hn5 hE10 hb5 hb6 hb4) d_M_write_154 rfl ?_
                refine a_iload (pc' := 157) hc d_M_write_155 rfl rfl ?_
                refine a_ifn_ne (pc' := 160) (tgt := 162) hc d_M_write_157 rfl rfl (by omega) (fun h157 => absurd h157 (by omega)) (fun h157 => ?_)
                refine a_iconst (pc' := 161) (v := nI 1) hc d_M_write_160 rfl (by decide) ?_
                exact a_iret hc hr hk d_M_write_161 (m_i (by first | rfl | (simp only [wrP, twB, wr1, wr2, h4, h16, ci, cj, h20, h63, h76, h105, h135]; done) | (simp [wrP, twB, wr1, wr2, h4, h16, ci, cj, h20, h63, h76, h105, h135]; done)) (by first | rfl | (simp only [wrP, twB, wr1, wr2, h4, h16, ci, cj, h20, h63, h76, h105, h135]; done) | (simp [wrP, twB, wr1, wr2, h4, h16, ci, cj, h20, h63, h76, h105, h135]; done)))
              · skip
                refine a_bipush (pc' := 140) (v := -7) hc d_M_write_138 rfl (by decide) ?_
                exact a_iret hc hr hk d_M_write_140 (m_i (by first | rfl | (simp only [wrP, twB, wr1, wr2, h4, h16, ci, cj, h20, h63, h76, h105, h135]; done) | (simp [wrP, twB, wr1, wr2, h4, h16, ci, cj, h20, h63, h76, h105, h135]; done)) (by first | rfl | (simp only [wrP, twB, wr1, wr2, h4, h16, ci, cj, h20, h63, h76, h105, h135]; done) | (simp [wrP, twB, wr1, wr2, h4, h16, ci, cj, h20, h63, h76, h105, h135]; done)))
          · skip
            refine a_iload (pc' := 81) hc d_M_write_79 rfl rfl ?_
            refine a_aload_n (pc' := 82) hc d_M_write_81 rfl rfl rfl ?_
            refine r_get (pc' := 85) hc hK hx 12 (v := .int (τ 0 6)) (by decide) rfl fl_M_126 d_M_write_82 rfl ?_
            refine a_icmp_ge (pc' := 88) (tgt := 92) hc d_M_write_85 rfl rfl (fun h85 => ?_) (fun h85 => ?_)
            · skip
              refine a_iconst (pc' := 93) (v := nI 0) hc d_M_write_92 rfl (by decide) ?_
              refine a_istore (pc' := 95) hc d_M_write_93 rfl (by decide) ?_
              refine a_aload_n (pc' := 96) hc d_M_write_95 rfl rfl rfl ?_
              refine r_get (pc' := 99) hc hK hx 2 (v := .ref (ax 1)) (by decide) rfl fl_M_7 d_M_write_96 rfl ?_
              refine a_iload (pc' := 101) hc d_M_write_99 rfl rfl ?_
              refine a_bipush (pc' := 103) (v := nI 16) hc d_M_write_101 rfl (by decide) ?_
              refine a_ndiv (pc' := 104) hc d_M_write_103 rfl (by omega) (by omega) (by omega) ?_
              refine r_zald (pc' := 105) hc hK hx ((bpN τ i j) / 16) (by omega) d_M_write_104 rfl ?_
              refine a_ifb_eq (pc' := 108) (tgt := 128) hc d_M_write_105 rfl rfl (fun h105 => ?_) (fun h105 => ?_)
              · skip
                refine a_bipush (pc' := 130) (v := -6) hc d_M_write_128 rfl (by decide) ?_
                exact a_iret hc hr hk d_M_write_130 (m_i (by first | rfl | (simp only [wrP, twB, wr1, wr2, h4, h16, ci, cj, h20, h63, h76, h85, h105]; done) | (simp [wrP, twB, wr1, wr2, h4, h16, ci, cj, h20, h63, h76, h85, h105]; done)) (by first | rfl | (simp only [wrP, twB, wr1, wr2, h4, h16, ci, cj, h20, h63, h76, h85, h105]; done) | (simp [wrP, twB, wr1, wr2, h4, h16, ci, cj, h20, h63, h76, h85, h105]; done)))
              · skip
                refine a_iload (pc' := 110) hc d_M_write_108 rfl rfl ?_
                refine a_ifn_eq (pc' := 113) (tgt := 131) hc d_M_write_110 rfl rfl (by omega) (fun h110 => ?_) (fun h110 => absurd h110 (by omega))
                refine a_aload_n (pc' := 132) hc d_M_write_131 rfl rfl rfl ?_
                refine r_calli (pc' := 135) hc hK hO hA hx [] [] (ct_M_stops hx (τ := τ) ) ml_M_86 hd_M_stops ⟨by decide, by decide⟩ rfl rfl (Nat.le_of_ble_eq_true rfl) d_M_write_132 rfl ?_
                refine a_ifb_eq (pc' := 138) (tgt := 141) hc d_M_write_135 rfl rfl (fun h135 => ?_) (fun h135 => ?_)
                · skip
                  refine a_aload_n (pc' := 142) hc d_M_write_141 rfl rfl rfl ?_
                  refine r_get (pc' := 145) hc hK hx 3 (v := .ref (ax 2)) (by decide) rfl fl_M_13 d_M_write_142 rfl ?_
                  refine a_aload_n (pc' := 146) hc d_M_write_145 rfl rfl rfl ?_
                  refine a_iload (pc' := 148) hc d_M_write_146 rfl rfl ?_
                  refine a_iload (pc' := 150) hc d_M_write_148 rfl rfl ?_
                  refine r_calli (pc' := 153) hc hK hO hA hx [.int (nI (bpN τ i j)), .int (nI (bcN τ i j))] [.ref (ax 2)] (ct_M_cellAt hx (τ := stT τ) (id := bpN τ i j) (c := bcN τ i j) hid) ml_M_136 hd_M_cellAt ⟨by decide, by decide⟩ rfl rfl (Nat.le_of_ble_eq_true rfl) d_M_write_150 rfl ?_
                  refine a_iload_n (pc' := 154) hc d_M_write_153 rfl rfl rfl ?_
                  refine r_iast (pc' := 155) (N := 320) hc hK hx 2 (caN (bpN τ i j) (bcN τ i j)) (by decide) rfl (caN_lt hn5 hE10 hb5 hb6 hb4) d_M_write_154 rfl ?_
                  refine a_iload (pc' := 157) hc d_M_write_155 rfl rfl ?_
                  refine a_ifn_ne (pc' := 160) (tgt := 162) hc d_M_write_157 rfl rfl (by omega) (fun h157 => absurd h157 (by omega)) (fun h157 => ?_)
                  refine a_iconst (pc' := 161) (v := nI 1) hc d_M_write_160 rfl (by decide) ?_
                  exact a_iret hc hr hk d_M_write_161 (m_i (by first | rfl | (simp only [wrP, twB, wr1, wr2, h4, h16, ci, cj, h20, h63, h76, h85, h105, h135]; done) | (simp [wrP, twB, wr1, wr2, h4, h16, ci, cj, h20, h63, h76, h85, h105, h135]; done)) (by first | rfl | (simp only [wrP, twB, wr1, wr2, h4, h16, ci, cj, h20, h63, h76, h85, h105, h135]; done) | (simp [wrP, twB, wr1, wr2, h4, h16, ci, cj, h20, h63, h76, h85, h105, h135]; done)))
                · skip
                  refine a_bipush (pc' := 140) (v := -7) hc d_M_write_138 rfl (by decide) ?_
                  exact a_iret hc hr hk d_M_write_140 (m_i (by first | rfl | (simp only [wrP, twB, wr1, wr2, h4, h16, ci, cj, h20, h63, h76, h85, h105, h135]; done) | (simp [wrP, twB, wr1, wr2, h4, h16, ci, cj, h20, h63, h76, h85, h105, h135]; done)) (by first | rfl | (simp only [wrP, twB, wr1, wr2, h4, h16, ci, cj, h20, h63, h76, h85, h105, h135]; done) | (simp [wrP, twB, wr1, wr2, h4, h16, ci, cj, h20, h63, h76, h85, h105, h135]; done)))
            · skip
              refine a_iconst (pc' := 89) (v := nI 1) hc d_M_write_88 rfl (by decide) ?_
              refine a_goto (tgt := 93) hc d_M_write_89 rfl ?_
              refine a_istore (pc' := 95) hc d_M_write_93 rfl (by decide) ?_
              refine a_aload_n (pc' := 96) hc d_M_write_95 rfl rfl rfl ?_
              refine r_get (pc' := 99) hc hK hx 2 (v := .ref (ax 1)) (by decide) rfl fl_M_7 d_M_write_96 rfl ?_
              refine a_iload (pc' := 101) hc d_M_write_99 rfl rfl ?_
              refine a_bipush (pc' := 103) (v := nI 16) hc d_M_write_101 rfl (by decide) ?_
              refine a_ndiv (pc' := 104) hc d_M_write_103 rfl (by omega) (by omega) (by omega) ?_
              refine r_zald (pc' := 105) hc hK hx ((bpN τ i j) / 16) (by omega) d_M_write_104 rfl ?_
              refine a_ifb_eq (pc' := 108) (tgt := 128) hc d_M_write_105 rfl rfl (fun h105 => ?_) (fun h105 => ?_)
              · skip
                refine a_bipush (pc' := 130) (v := -6) hc d_M_write_128 rfl (by decide) ?_
                exact a_iret hc hr hk d_M_write_130 (m_i (by first | rfl | (simp only [wrP, twB, wr1, wr2, h4, h16, ci, cj, h20, h63, h76, h85, h105]; done) | (simp [wrP, twB, wr1, wr2, h4, h16, ci, cj, h20, h63, h76, h85, h105]; done)) (by first | rfl | (simp only [wrP, twB, wr1, wr2, h4, h16, ci, cj, h20, h63, h76, h85, h105]; done) | (simp [wrP, twB, wr1, wr2, h4, h16, ci, cj, h20, h63, h76, h85, h105]; done)))
              · skip
                refine a_iload (pc' := 110) hc d_M_write_108 rfl rfl ?_
                refine a_ifn_eq (pc' := 113) (tgt := 131) hc d_M_write_110 rfl rfl (by omega) (fun h110 => absurd h110 (by omega)) (fun h110 => ?_)
                refine a_aload_n (pc' := 114) hc d_M_write_113 rfl rfl rfl ?_
                refine r_get (pc' := 117) hc hK hx 2 (v := .ref (ax 1)) (by decide) rfl fl_M_7 d_M_write_114 rfl ?_
                refine a_aload_n (pc' := 118) hc d_M_write_117 rfl rfl rfl ?_
                refine r_calli (pc' := 121) hc hK hO hA hx [] [.ref (ax 1)] (ct_M_target hx (τ := τ) ) ml_M_133 hd_M_target ⟨by decide, by decide⟩ rfl rfl (Nat.le_of_ble_eq_true rfl) d_M_write_118 rfl ?_
                refine AW.topi (y := nI (gN τ 15 62)) (hw.1.n (by omega) (by omega)) ?_
                refine a_bipush (pc' := 123) (v := nI 16) hc d_M_write_121 rfl (by decide) ?_
                refine a_ndiv (pc' := 124) hc d_M_write_123 rfl (by omega) (by omega) (by omega) ?_
                refine r_zald (pc' := 125) hc hK hx ((gN τ 15 62) / 16) (by omega) d_M_write_124 rfl ?_
                refine a_ifb_ne (pc' := 128) (tgt := 131) hc d_M_write_125 rfl rfl (fun h125 => ?_) (fun h125 => ?_)
                · skip
                  refine a_aload_n (pc' := 132) hc d_M_write_131 rfl rfl rfl ?_
                  refine r_calli (pc' := 135) hc hK hO hA hx [] [] (ct_M_stops hx (τ := τ) ) ml_M_86 hd_M_stops ⟨by decide, by decide⟩ rfl rfl (Nat.le_of_ble_eq_true rfl) d_M_write_132 rfl ?_
                  refine a_ifb_eq (pc' := 138) (tgt := 141) hc d_M_write_135 rfl rfl (fun h135 => ?_) (fun h135 => ?_)
                  · skip
                    refine a_aload_n (pc' := 142) hc d_M_write_141 rfl rfl rfl ?_
                    refine r_get (pc' := 145) hc hK hx 3 (v := .ref (ax 2)) (by decide) rfl fl_M_13 d_M_write_142 rfl ?_
                    refine a_aload_n (pc' := 146) hc d_M_write_145 rfl rfl rfl ?_
                    refine a_iload (pc' := 148) hc d_M_write_146 rfl rfl ?_
                    refine a_iload (pc' := 150) hc d_M_write_148 rfl rfl ?_
                    refine r_calli (pc' := 153) hc hK hO hA hx [.int (nI (bpN τ i j)), .int (nI (bcN τ i j))] [.ref (ax 2)] (ct_M_cellAt hx (τ := stT τ) (id := bpN τ i j) (c := bcN τ i j) hid) ml_M_136 hd_M_cellAt ⟨by decide, by decide⟩ rfl rfl (Nat.le_of_ble_eq_true rfl) d_M_write_150 rfl ?_
                    refine a_iload_n (pc' := 154) hc d_M_write_153 rfl rfl rfl ?_
                    refine r_iast (pc' := 155) (N := 320) hc hK hx 2 (caN (bpN τ i j) (bcN τ i j)) (by decide) rfl (caN_lt hn5 hE10 hb5 hb6 hb4) d_M_write_154 rfl ?_
                    refine a_iload (pc' := 157) hc d_M_write_155 rfl rfl ?_
                    refine a_ifn_ne (pc' := 160) (tgt := 162) hc d_M_write_157 rfl rfl (by omega) (fun h157 => ?_) (fun h157 => absurd h157 (by omega))
                    refine a_aload_n (pc' := 163) hc d_M_write_162 rfl rfl rfl ?_
                    refine r_calli (pc' := 166) hc hK hO hA hx [] [] (ct_M_stops hx (τ := ts (stT τ) 2 (caN (bpN τ i j) (bcN τ i j)) x) ) ml_M_86 hd_M_stops ⟨by decide, by decide⟩ rfl rfl (Nat.le_of_ble_eq_true rfl) d_M_write_163 rfl ?_
                    refine a_ifb_eq (pc' := 169) (tgt := 172) hc d_M_write_166 rfl rfl (fun h166 => ?_) (fun h166 => ?_)
                    · skip
                      refine a_aload_n (pc' := 173) hc d_M_write_172 rfl rfl rfl ?_
                      refine r_get (pc' := 176) hc hK hx 3 (v := .ref (ax 2)) (by decide) rfl fl_M_13 d_M_write_173 rfl ?_
                      refine a_aload_n (pc' := 177) hc d_M_write_176 rfl rfl rfl ?_
                      refine a_aload_n (pc' := 178) hc d_M_write_177 rfl rfl rfl ?_
                      refine r_calli (pc' := 181) hc hK hO hA hx [] [.ref (ax 0), .ref (ax 2)] (ct_M_target hx (τ := stT (ts (stT τ) 2 (caN (bpN τ i j) (bcN τ i j)) x)) ) ml_M_133 hd_M_target ⟨by decide, by decide⟩ rfl rfl (Nat.le_of_ble_eq_true rfl) d_M_write_178 rfl ?_
                      refine AW.topi (y := nI (gN τ 15 62)) (by show stT (ts (stT τ) 2 _ _) 3 (64 * 15 + 62) = _; rw [stT_row (by decide), ts_ne (by decide), stT_row (by decide)]; exact hw.1.n (by omega) (by omega)) ?_
                      refine a_iload (pc' := 183) hc d_M_write_181 rfl rfl ?_
                      refine r_calli (pc' := 186) hc hK hO hA hx [.int (nI (gN τ 15 62)), .int (nI (bcN τ i j))] [.ref (ax 2)] (ct_M_cellAt hx (τ := stT (ts (stT τ) 2 (caN (bpN τ i j) (bcN τ i j)) x)) (id := gN τ 15 62) (c := bcN τ i j) hm5) ml_M_136 hd_M_cellAt ⟨by decide, by decide⟩ rfl rfl (Nat.le_of_ble_eq_true rfl) d_M_write_183 rfl ?_
                      refine a_iload_n (pc' := 187) hc d_M_write_186 rfl rfl rfl ?_
                      refine r_iast (pc' := 188) (N := 320) hc hK hx 2 (caN (gN τ 15 62) (bcN τ i j)) (by decide) rfl (caN_lt hn5 hE10 hm3 hm4 hb4) d_M_write_187 rfl ?_
                      refine a_iconst (pc' := 189) (v := nI 2) hc d_M_write_188 rfl (by decide) ?_
                      exact a_iret hc hr hk d_M_write_189 (m_i (by first | rfl | (simp only [wrP, twB, wr1, wr2, h4, h16, ci, cj, h20, h63, h76, h85, h105, h125, h135, h166]; done) | (simp [wrP, twB, wr1, wr2, h4, h16, ci, cj, h20, h63, h76, h85, h105, h125, h135, h166]; done)) (by first | rfl | (simp only [wrP, twB, wr1, wr2, h4, h16, ci, cj, h20, h63, h76, h85, h105, h125, h135, h166]; done) | (simp [wrP, twB, wr1, wr2, h4, h16, ci, cj, h20, h63, h76, h85, h105, h125, h135, h166]; done)))
                    · skip
                      refine a_bipush (pc' := 171) (v := -7) hc d_M_write_169 rfl (by decide) ?_
                      exact a_iret hc hr hk d_M_write_171 (m_i (by first | rfl | (simp only [wrP, twB, wr1, wr2, h4, h16, ci, cj, h20, h63, h76, h85, h105, h125, h135, h166]; done) | (simp [wrP, twB, wr1, wr2, h4, h16, ci, cj, h20, h63, h76, h85, h105, h125, h135, h166]; done)) (by first | rfl | (simp only [wrP, twB, wr1, wr2, h4, h16, ci, cj, h20, h63, h76, h85, h105, h125, h135, h166]; done) | (simp [wrP, twB, wr1, wr2, h4, h16, ci, cj, h20, h63, h76, h85, h105, h125, h135, h166]; done)))
                  · skip
                    refine a_bipush (pc' := 140) (v := -7) hc d_M_write_138 rfl (by decide) ?_
                    exact a_iret hc hr hk d_M_write_140 (m_i (by first | rfl | (simp only [wrP, twB, wr1, wr2, h4, h16, ci, cj, h20, h63, h76, h85, h105, h125, h135]; done) | (simp [wrP, twB, wr1, wr2, h4, h16, ci, cj, h20, h63, h76, h85, h105, h125, h135]; done)) (by first | rfl | (simp only [wrP, twB, wr1, wr2, h4, h16, ci, cj, h20, h63, h76, h85, h105, h125, h135]; done) | (simp [wrP, twB, wr1, wr2, h4, h16, ci, cj, h20, h63, h76, h85, h105, h125, h135]; done)))
                · skip
                  refine a_bipush (pc' := 130) (v := -6) hc d_M_write_128 rfl (by decide) ?_
                  exact a_iret hc hr hk d_M_write_130 (m_i (by first | rfl | (simp only [wrP, twB, wr1, wr2, h4, h16, ci, cj, h20, h63, h76, h85, h105, h125]; done) | (simp [wrP, twB, wr1, wr2, h4, h16, ci, cj, h20, h63, h76, h85, h105, h125]; done)) (by first | rfl | (simp only [wrP, twB, wr1, wr2, h4, h16, ci, cj, h20, h63, h76, h85, h105, h125]; done) | (simp [wrP, twB, wr1, wr2, h4, h16, ci, cj, h20, h63, h76, h85, h105, h125]; done)))
      · skip
        refine a_iconst (pc' := 24) (v := -1) hc d_M_write_23 rfl (by decide) ?_
        exact a_iret hc hr hk d_M_write_24 (m_i (by first | rfl | (simp only [wrP, twB, wr1, wr2, h4, h16, ci, cj, h20]; done) | (simp [wrP, twB, wr1, wr2, h4, h16, ci, cj, h20]; done)) (by first | rfl | (simp only [wrP, twB, wr1, wr2, h4, h16, ci, cj, h20]; done) | (simp [wrP, twB, wr1, wr2, h4, h16, ci, cj, h20]; done)))
  · skip
    refine a_bipush (pc' := 9) (v := -2) hc d_M_write_7 rfl (by decide) ?_
    exact a_iret hc hr hk d_M_write_9 (m_i (by first | rfl | (simp only [wrP, twB, wr1, wr2, h4]; done) | (simp [wrP, twB, wr1, wr2, h4]; done)) (by first | rfl | (simp only [wrP, twB, wr1, wr2, h4]; done) | (simp [wrP, twB, wr1, wr2, h4]; done)))
theorem ct_M_activate (hx : MX ax rl ca tys n E) {τ : TS} (h6 : ∀ d, d < 5 → ¬ τ 6 d < 0) : MC l y_M_activate c_M_activate 5 (some .int) 3 D tys A ax rl ca n E τ [] (some (.int ((acP τ n).1))) ((acP τ n).2) := by
  obtain ⟨hn2, hn5⟩ := hx.2.2.2.1
  obtain ⟨hE2, hE10⟩ := hx.2.2.2.2
  refine MC.of rfl (Nat.le_of_ble_eq_true rfl) (cat_all rfl) ?_
  intro pp ee ss mm aa bb me cd hc hK hO hr hk hA
  refine AW.to (lv' := [some (.ref (ax 0)), none, none, none, none]) rfl rfl rfl ?_
  refine a_aload_n (pc' := 1) hc d_M_activate_0 rfl rfl rfl ?_
  refine r_get (pc' := 4) hc hK hx 11 (v := .int (bI (tb (τ 0 5)))) (by decide) rfl fl_M_45 d_M_activate_1 rfl ?_
  refine a_ifb_eq (pc' := 7) (tgt := 10) hc d_M_activate_4 rfl rfl (fun h4 => ?_) (fun h4 => ?_)
  · skip
    refine a_aload_n (pc' := 11) hc d_M_activate_10 rfl rfl rfl ?_
    refine r_calli (pc' := 14) hc hK hO hA hx [] [] (ct_M_choose hx (τ := τ) ) ml_M_155 hd_M_choose ⟨by decide, by decide⟩ rfl rfl (Nat.le_of_ble_eq_true rfl) d_M_activate_11 rfl ?_
    refine a_istore_n (pc' := 15) hc d_M_activate_14 rfl rfl (by decide) ?_
    refine a_iload_n (pc' := 16) hc d_M_activate_15 rfl rfl rfl ?_
    refine a_if_ge (pc' := 19) (tgt := 22) hc d_M_activate_16 rfl rfl (fun h16 => ?_) (fun h16 => ?_)
    · skip
      obtain ⟨b, e16⟩ := chI_some (Int32.not_lt.mpr h16)
      have hb16 := chL_lt τ n (3 * n) b e16
      refine AW.lvi 1 (y := nI b) rfl (by rw [e16]; rfl) ?_
      refine a_aload_n (pc' := 23) hc d_M_activate_22 rfl rfl rfl ?_
      refine r_get (pc' := 26) hc hK hx 5 (v := .ref (ax 4)) (by decide) rfl fl_M_20 d_M_activate_23 rfl ?_
      refine a_iload_n (pc' := 27) hc d_M_activate_26 rfl rfl rfl ?_
      refine r_iald (pc' := 28) (N := 15) hc hK hx 4 b (by decide) rfl (by omega) d_M_activate_27 rfl ?_
      refine a_istore_n (pc' := 29) hc d_M_activate_28 rfl rfl (by decide) ?_
      refine a_aload_n (pc' := 30) hc d_M_activate_29 rfl rfl rfl ?_
      refine r_get (pc' := 33) hc hK hx 6 (v := .ref (ax 5)) (by decide) rfl fl_M_23 d_M_activate_30 rfl ?_
      refine a_iload_n (pc' := 34) hc d_M_activate_33 rfl rfl rfl ?_
      refine r_iald (pc' := 35) (N := 15) hc hK hx 5 b (by decide) rfl (by omega) d_M_activate_34 rfl ?_
      refine a_istore_n (pc' := 36) hc d_M_activate_35 rfl rfl (by decide) ?_
      refine a_aload_n (pc' := 37) hc d_M_activate_36 rfl rfl rfl ?_
      refine a_iload_n (pc' := 38) hc d_M_activate_37 rfl rfl rfl ?_
      refine a_bipush (pc' := 40) (v := nI 16) hc d_M_activate_38 rfl (by decide) ?_
      refine r_callv (pc' := 43) hc hK hO hA hx [.int (nI b), .int (nI 16)] [] (ct_M_copyMap hx (τ := τ) (a := b) (b := 16) (by omega) (by omega)) ml_M_90 hd_M_copyMap ⟨by decide, by decide⟩ rfl rfl (Nat.le_of_ble_eq_true rfl) d_M_activate_40 rfl ?_
      refine a_iconst (pc' := 44) (v := nI 0) hc d_M_activate_43 rfl (by decide) ?_
      refine a_istore (pc' := 46) hc d_M_activate_44 rfl (by decide) ?_
      refine AW.tw (τ1 := acT (cpT τ b 16 64) (τ 4 b) (τ 5 b) 0) (by first | rfl | (simp only [acP, h4, h16, e16]; done) | (simp [acP, h4, h16, e16]; done)) ?_
      refine AW.loopG n 0 (fun d46 => tw ax rl ca n E (acT (cpT τ b 16 64) (τ 4 b) (τ 5 b) d46)) (fun d46 => [some (.ref (ax 0)), some (.int (nI b)), some (.int (τ 4 b)), some (.int (τ 5 b)), some (.int (nI d46))]) (fun d46 => ∀ j, j < d46 → qA (cpT τ b 16 64) (τ 4 b) (τ 5 b) j = false) (Nat.zero_le _) (fun j hj => absurd hj (by omega)) rfl rfl (fun d46 hle46 hG46 ih46 => ?_)
      try dsimp only at hG46 ih46 ⊢
      refine a_iload (pc' := 48) hc d_M_activate_46 rfl rfl ?_
      refine a_aload_n (pc' := 49) hc d_M_activate_48 rfl rfl rfl ?_
      refine r_get (pc' := 52) hc hK hx 0 (v := .int (nI n)) (by decide) rfl fl_M_29 d_M_activate_49 rfl ?_
      refine a_ncmp_ge (pc' := 55) (tgt := 85) hc d_M_activate_52 rfl rfl (by omega) (by omega) (fun h52 => ?_) (fun h52 => ?_)
      · skip
        have hex52 : d46 = n := by omega
        subst d46
        refine a_aload_n (pc' := 86) hc d_M_activate_85 rfl rfl rfl ?_
        refine a_bipush (pc' := 88) (v := nI 16) hc d_M_activate_86 rfl (by decide) ?_
        refine a_bipush (pc' := 90) (v := nI 15) hc d_M_activate_88 rfl (by decide) ?_
        refine r_callv (pc' := 93) hc hK hO hA hx [.int (nI 16), .int (nI 15)] [] (ct_M_copyMap hx (τ := acT (cpT τ b 16 64) (τ 4 b) (τ 5 b) n) (a := 16) (b := 15) (by omega) (by omega)) ml_M_90 hd_M_copyMap ⟨by decide, by decide⟩ rfl rfl (Nat.le_of_ble_eq_true rfl) d_M_activate_90 rfl ?_
        refine a_aload_n (pc' := 94) hc d_M_activate_93 rfl rfl rfl ?_
        refine a_iload_n (pc' := 95) hc d_M_activate_94 rfl rfl rfl ?_
        refine r_put (pc' := 98) hc hK hx 8 (by decide) fl_M_36 d_M_activate_95 rfl ?_
        refine a_aload_n (pc' := 99) hc d_M_activate_98 rfl rfl rfl ?_
        refine a_iload_n (pc' := 100) hc d_M_activate_99 rfl rfl rfl ?_
        refine r_put (pc' := 103) hc hK hx 9 (by decide) fl_M_39 d_M_activate_100 rfl ?_
        refine a_aload_n (pc' := 104) hc d_M_activate_103 rfl rfl rfl ?_
        refine a_iconst (pc' := 105) (v := nI 0) hc d_M_activate_104 rfl (by decide) ?_
        refine r_put (pc' := 108) hc hK hx 12 (by decide) fl_M_126 d_M_activate_105 rfl ?_
        refine a_aload_n (pc' := 109) hc d_M_activate_108 rfl rfl rfl ?_
        refine a_iconst (pc' := 110) (v := nI 1) hc d_M_activate_109 rfl (by decide) ?_
        refine r_putz (pc' := 113) hc hK hx 11 (Or.inr rfl) (by decide) fl_M_45 d_M_activate_110 rfl ?_
        refine a_iload_n (pc' := 114) hc d_M_activate_113 rfl rfl rfl ?_
        exact a_iret hc hr hk d_M_activate_114 (m_i (by simp [acP, h4, e16, ac_done hG46]) (by simp [acP, h4, e16, ac_done hG46, ac1]))
      · skip
        refine a_aload_n (pc' := 56) hc d_M_activate_55 rfl rfl rfl ?_
        refine r_get (pc' := 59) hc hK hx 2 (v := .ref (ax 1)) (by decide) rfl fl_M_7 d_M_activate_56 rfl ?_
        refine a_iload (pc' := 61) hc d_M_activate_59 rfl rfl ?_
        refine r_zald (pc' := 62) hc hK hx d46 (by omega) d_M_activate_61 rfl ?_
        refine a_ifb_eq (pc' := 65) (tgt := 79) hc d_M_activate_62 rfl rfl (fun h62 => ?_) (fun h62 => ?_)
        · skip
          refine a_ninc (pc' := 82) hc d_M_activate_79 rfl rfl (by decide) ?_
          refine a_goto (tgt := 46) hc d_M_activate_82 rfl ?_
          refine AW.tw (τ1 := acT (cpT τ b 16 64) (τ 4 b) (τ 5 b) (d46 + 1)) (by first | (simp [acT, h62]; done)) ?_
          exact AW.to rfl rfl rfl (ih46 (by omega) (allf_s hG46 (by first | (simp [qA, h62]; done) | (simp [qA, h62, h73]; done))))
        · skip
          refine a_aload_n (pc' := 66) hc d_M_activate_65 rfl rfl rfl ?_
          refine a_iload (pc' := 68) hc d_M_activate_66 rfl rfl ?_
          refine a_iload_n (pc' := 69) hc d_M_activate_68 rfl rfl rfl ?_
          refine a_iload_n (pc' := 70) hc d_M_activate_69 rfl rfl rfl ?_
          refine r_calli (pc' := 73) hc hK hO hA hx [.int (nI d46), .int (τ 4 b), .int (τ 5 b)] [] (ct_M_settle hx (τ := acT (cpT τ b 16 64) (τ 4 b) (τ 5 b) d46) (d := d46) (num := τ 4 b) (mark := τ 5 b) (by omega) (by rw [acT_6 _ _ _ d46 d46 (Nat.le_refl _), cpT_row (by decide)]; exact h6 _ (by omega))) ml_M_158 hd_M_settle ⟨by decide, by decide⟩ rfl rfl (Nat.le_of_ble_eq_true rfl) d_M_activate_70 rfl ?_
          refine a_ifb_ne (pc' := 76) (tgt := 79) hc d_M_activate_73 rfl rfl (fun h73 => ?_) (fun h73 => ?_)
          · skip
            refine a_ninc (pc' := 82) hc d_M_activate_79 rfl rfl (by decide) ?_
            refine a_goto (tgt := 46) hc d_M_activate_82 rfl ?_
            refine AW.tw (τ1 := acT (cpT τ b 16 64) (τ 4 b) (τ 5 b) (d46 + 1)) (by first | (simp [acT, h62]; done)) ?_
            exact AW.to rfl rfl rfl (ih46 (by omega) (allf_s hG46 (by first | (simp [qA, h62]; done) | (simp [qA, h62, h73]; done))))
          · skip
            refine a_bipush (pc' := 78) (v := -7) hc d_M_activate_76 rfl (by decide) ?_
            exact a_iret hc hr hk d_M_activate_78 (m_i (by simp [acP, h4, e16, ac_stop hG46 (by omega) h62 h73]) (by simp [acP, h4, e16, ac_stop hG46 (by omega) h62 h73]))
    · skip
      have e16 := chI_none (fun b hb => by have := chL_lt τ n (3 * n) b hb; omega) (Int32.not_le.mp h16)
      refine a_bipush (pc' := 21) (v := -3) hc d_M_activate_19 rfl (by decide) ?_
      exact a_iret hc hr hk d_M_activate_21 (m_i (by first | rfl | (simp only [acP, h4, h16, e16]; done) | (simp [acP, h4, h16, e16]; done)) (by first | rfl | (simp only [acP, h4, h16, e16]; done) | (simp [acP, h4, h16, e16]; done)))
  · skip
    refine a_bipush (pc' := 9) (v := -9) hc d_M_activate_7 rfl (by decide) ?_
    exact a_iret hc hr hk d_M_activate_9 (m_i (by first | rfl | (simp only [acP, h4]; done) | (simp [acP, h4]; done)) (by first | rfl | (simp only [acP, h4]; done) | (simp [acP, h4]; done)))
end
section
variable {l : Launch} {D : va_G} {tys : List (ClassId × FieldType)} {A : Nat → Prop} {ax rl : Nat → Nat} {ca : Nat → ClassId} {n E : Nat}
theorem ct_M_addRow (hx : MX ax rl ca tys n E) {τ : TS} {v : Nat} (hv : v < 4) (hok : ArOk τ n E v) : MC l y_M_addRow c_M_addRow 7 (some .boolean) 6 D tys A ax rl ca n E τ [.int (nI v)] (some (.int (bI ((arP τ n E v).1)))) ((arP τ n E v).2) := by
  obtain ⟨hn2, hn5⟩ := hx.2.2.2.1
  obtain ⟨hE2, hE10⟩ := hx.2.2.2.2
  obtain ⟨hw, he11, hW⟩ := hok
  have hw4 := (hw.2 v hv).1
  refine MC.of rfl (Nat.le_of_ble_eq_true rfl) (cat_all rfl) ?_
  intro pp ee ss mm aa bb me cd hc hK hO hr hk hA
  refine AW.to (lv' := [some (.ref (ax 0)), some (.int (nI v)), none, none, none, none, none]) rfl rfl rfl ?_
  refine a_aload_n (pc' := 1) hc d_M_addRow_0 rfl rfl rfl ?_
  refine a_bipush (pc' := 3) (v := nI 16) hc d_M_addRow_1 rfl (by decide) ?_
  refine a_iload_n (pc' := 4) hc d_M_addRow_3 rfl rfl rfl ?_
  refine r_calli (pc' := 7) hc hK hO hA hx [.int (nI 16), .int (nI v)] [] (ct_M_width hx (τ := τ) (mp := 16) (v := v) (by omega) (by omega)) ml_M_56 hd_M_width ⟨by decide, by decide⟩ rfl rfl (Nat.le_of_ble_eq_true rfl) d_M_addRow_4 rfl ?_
  refine AW.topi (y := nI (gN τ 16 (15 * v))) (hw.n (by omega) (by omega)) ?_
  refine a_istore_n (pc' := 8) hc d_M_addRow_7 rfl rfl (by decide) ?_
  refine a_iconst (pc' := 9) (v := nI 0) hc d_M_addRow_8 rfl (by decide) ?_
  refine a_istore_n (pc' := 10) hc d_M_addRow_9 rfl rfl (by decide) ?_
  refine a_iconst (pc' := 11) (v := nI 0) hc d_M_addRow_10 rfl (by decide) ?_
  refine a_istore (pc' := 13) hc d_M_addRow_11 rfl (by decide) ?_
  refine a_iconst (pc' := 14) (v := nI 0) hc d_M_addRow_13 rfl (by decide) ?_
  refine a_istore (pc' := 16) hc d_M_addRow_14 rfl (by decide) ?_
  refine AW.lvi 3 (y := nI (cntL 0 (fitB τ E))) rfl (rfl) ?_
  refine AW.lvi 4 (y := nI (mkL (arQ τ n E v) 0)) rfl (rfl) ?_
  refine AW.loop n 0 (fun d16 => tw ax rl ca n E τ) (fun d16 => [some (.ref (ax 0)), some (.int (nI v)), some (.int (nI (gN τ 16 (15 * v)))), some (.int (nI (cntL d16 (fitB τ E)))), some (.int (nI (mkL (arQ τ n E v) d16))), some (.int (nI d16)), none]) (Nat.zero_le _) rfl rfl (fun d16 hle16 ih16 => ?_)
  try dsimp only at ih16 ⊢
  refine a_iload (pc' := 18) hc d_M_addRow_16 rfl rfl ?_
  refine a_aload_n (pc' := 19) hc d_M_addRow_18 rfl rfl rfl ?_
  refine r_get (pc' := 22) hc hK hx 0 (v := .int (nI n)) (by decide) rfl fl_M_29 d_M_addRow_19 rfl ?_
  refine a_ncmp_ge (pc' := 25) (tgt := 100) hc d_M_addRow_22 rfl rfl (by omega) (by omega) (fun h22 => ?_) (fun h22 => ?_)
  · skip
    have hex22 : d16 = n := by omega
    subst d16
    have hcn := cntL_le n (fitB τ E)
    refine a_iload_n (pc' := 101) hc d_M_addRow_100 rfl rfl rfl ?_
    refine a_iload_n (pc' := 102) hc d_M_addRow_101 rfl rfl rfl ?_
    refine a_ncmp_ge (pc' := 105) (tgt := 107) hc d_M_addRow_102 rfl rfl (by omega) (by omega) (fun h102 => ?_) (fun h102 => ?_)
    · skip
      refine a_bipush (pc' := 109) (v := nI 15) hc d_M_addRow_107 rfl (by decide) ?_
      refine a_iload_n (pc' := 110) hc d_M_addRow_109 rfl rfl rfl ?_
      refine a_nmul (pc' := 111) hc d_M_addRow_110 rfl ?_
      refine a_iconst (pc' := 112) (v := nI 3) hc d_M_addRow_111 rfl (by decide) ?_
      refine a_nadd (pc' := 113) hc d_M_addRow_112 rfl ?_
      refine a_aload_n (pc' := 114) hc d_M_addRow_113 rfl rfl rfl ?_
      refine a_bipush (pc' := 116) (v := nI 16) hc d_M_addRow_114 rfl (by decide) ?_
      refine a_iload_n (pc' := 117) hc d_M_addRow_116 rfl rfl rfl ?_
      refine r_calli (pc' := 120) hc hK hO hA hx [.int (nI 16), .int (nI v)] [.int (nI ((15 * v) + 3))] (ct_M_extentsOf hx (τ := τ) (mp := 16) (v := v) (by omega) (by omega) hw) ml_M_59 hd_M_extentsOf ⟨by decide, by decide⟩ rfl rfl (Nat.le_of_ble_eq_true rfl) d_M_addRow_117 rfl ?_
      refine a_nadd (pc' := 121) hc d_M_addRow_120 rfl ?_
      refine a_istore (pc' := 123) hc d_M_addRow_121 rfl (by decide) ?_
      refine a_iconst (pc' := 124) (v := nI 0) hc d_M_addRow_123 rfl (by decide) ?_
      refine a_istore (pc' := 126) hc d_M_addRow_124 rfl (by decide) ?_
      refine AW.lvi 5 (y := nI (15 * v + 3 + exN τ 16 v + cntL 0 (arQ τ n E v))) rfl (rfl) ?_
      refine AW.tw (τ1 := arW τ n E v 0) (rfl) ?_
      refine AW.loop n 0 (fun d126 => tw ax rl ca n E (arW τ n E v d126)) (fun d126 => [some (.ref (ax 0)), some (.int (nI v)), some (.int (nI (gN τ 16 (15 * v)))), some (.int (nI (cntL n (fitB τ E)))), some (.int (nI (mkL (arQ τ n E v) n))), some (.int (nI (15 * v + 3 + exN τ 16 v + cntL d126 (arQ τ n E v)))), some (.int (nI d126))]) (Nat.zero_le _) rfl rfl (fun d126 hle126 ih126 => ?_)
      try dsimp only at ih126 ⊢
      refine a_iload (pc' := 128) hc d_M_addRow_126 rfl rfl ?_
      refine a_aload_n (pc' := 129) hc d_M_addRow_128 rfl rfl rfl ?_
      refine r_get (pc' := 132) hc hK hx 0 (v := .int (nI n)) (by decide) rfl fl_M_29 d_M_addRow_129 rfl ?_
      refine a_ncmp_ge (pc' := 135) (tgt := 171) hc d_M_addRow_132 rfl rfl (by omega) (by omega) (fun h132 => ?_) (fun h132 => ?_)
      · skip
        have hex132 : d126 = n := by omega
        subst d126
        refine a_aload_n (pc' := 172) hc d_M_addRow_171 rfl rfl rfl ?_
        refine a_bipush (pc' := 174) (v := nI 16) hc d_M_addRow_172 rfl (by decide) ?_
        refine a_bipush (pc' := 176) (v := nI 15) hc d_M_addRow_174 rfl (by decide) ?_
        refine a_iload_n (pc' := 177) hc d_M_addRow_176 rfl rfl rfl ?_
        refine a_nmul (pc' := 178) hc d_M_addRow_177 rfl ?_
        refine a_iconst (pc' := 179) (v := nI 2) hc d_M_addRow_178 rfl (by decide) ?_
        refine a_nadd (pc' := 180) hc d_M_addRow_179 rfl ?_
        refine a_aload_n (pc' := 181) hc d_M_addRow_180 rfl rfl rfl ?_
        refine a_bipush (pc' := 183) (v := nI 16) hc d_M_addRow_181 rfl (by decide) ?_
        refine a_iload_n (pc' := 184) hc d_M_addRow_183 rfl rfl rfl ?_
        refine r_calli (pc' := 187) hc hK hO hA hx [.int (nI 16), .int (nI v)] [.int (nI ((15 * v) + 2)), .int (nI 16), .ref (ax 0)] (ct_M_rowsOf hx (τ := arW τ n E v n) (mp := 16) (v := v) (by omega) (by omega)) ml_M_53 hd_M_rowsOf ⟨by decide, by decide⟩ rfl rfl (Nat.le_of_ble_eq_true rfl) d_M_addRow_184 rfl ?_
        refine a_iconst (pc' := 188) (v := nI 1) hc d_M_addRow_187 rfl (by decide) ?_
        refine a_iadd (pc' := 189) hc d_M_addRow_188 rfl ?_
        refine r_callv (pc' := 192) hc hK hO hA hx [.int (nI 16), .int (nI ((15 * v) + 2)), .int ((gt (arW τ n E v n) 16 (15 * v + 2)) + (nI 1))] [] (ct_M_set hx (τ := arW τ n E v n) (mp := 16) (i := (15 * v) + 2) (v := (gt (arW τ n E v n) 16 (15 * v + 2)) + (nI 1)) (by omega) (by omega)) ml_M_76 hd_M_set ⟨by decide, by decide⟩ rfl rfl (Nat.le_of_ble_eq_true rfl) d_M_addRow_189 rfl ?_
        refine a_iconst (pc' := 193) (v := nI 1) hc d_M_addRow_192 rfl (by decide) ?_
        exact a_zret hc hr hk (Or.inr rfl) d_M_addRow_193 (m_i (by simp [arP, Nat.not_lt.mpr h102, bI]) (by simp [arP, Nat.not_lt.mpr h102]))
      · skip
        refine a_iload (pc' := 137) hc d_M_addRow_135 rfl rfl ?_
        refine a_iload (pc' := 139) hc d_M_addRow_137 rfl rfl ?_
        refine a_ishr (pc' := 140) hc d_M_addRow_139 rfl ?_
        refine a_iconst (pc' := 141) (v := nI 1) hc d_M_addRow_140 rfl (by decide) ?_
        refine a_iand (pc' := 142) hc d_M_addRow_141 rfl ?_
        refine AW.topi (y := nI (mkL (arQ τ n E v) n / 2 ^ d126 % 2)) (sh_r _ (mkL_32 _ (by omega)) _ (by omega)) ?_
        refine a_iconst (pc' := 143) (v := nI 1) hc d_M_addRow_142 rfl (by decide) ?_
        refine a_ncmp_ne (pc' := 146) (tgt := 165) hc d_M_addRow_143 rfl rfl (by omega) (by omega) (fun h143 => ?_) (fun h143 => ?_)
        · skip
          have hq143 := mk_f (q := (arQ τ n E v)) (by omega) h143
          refine a_ninc (pc' := 168) hc d_M_addRow_165 rfl rfl (by decide) ?_
          refine a_goto (tgt := 126) hc d_M_addRow_168 rfl ?_
          refine AW.lvi 5 (y := nI (15 * v + 3 + exN τ 16 v + cntL (d126 + 1) (arQ τ n E v))) rfl (by rw [cntL_s, hq143]; rfl) ?_
          refine AW.tw (τ1 := arW τ n E v (d126 + 1)) (by simp [arT, hq143]) ?_
          exact AW.to rfl rfl rfl (ih126 (by omega))
        · skip
          have hq143 := mk_t (q := (arQ τ n E v)) (by omega) h143
          have hc143 := cntL_le d126 (arQ τ n E v)
          refine a_aload_n (pc' := 147) hc d_M_addRow_146 rfl rfl rfl ?_
          refine a_bipush (pc' := 149) (v := nI 16) hc d_M_addRow_147 rfl (by decide) ?_
          refine a_iload (pc' := 151) hc d_M_addRow_149 rfl rfl ?_
          refine a_aload_n (pc' := 152) hc d_M_addRow_151 rfl rfl rfl ?_
          refine a_bipush (pc' := 154) (v := nI 16) hc d_M_addRow_152 rfl (by decide) ?_
          refine a_iload (pc' := 156) hc d_M_addRow_154 rfl rfl ?_
          refine r_calli (pc' := 159) hc hK hO hA hx [.int (nI 16), .int (nI d126)] [.int (nI (15 * v + 3 + exN τ 16 v + cntL d126 (arQ τ n E v))), .int (nI 16), .ref (ax 0)] (ct_M_leastFree hx (τ := arW τ n E v d126) (mp := 16) (d := d126) (by omega) (by omega) (hW _ (by omega))) ml_M_73 hd_M_leastFree ⟨by decide, by decide⟩ rfl rfl (Nat.le_of_ble_eq_true rfl) d_M_addRow_156 rfl ?_
          refine r_callv (pc' := 162) hc hK hO hA hx [.int (nI 16), .int (nI (15 * v + 3 + exN τ 16 v + cntL d126 (arQ τ n E v))), .int (lfI (arW τ n E v d126) E 16 d126)] [] (ct_M_set hx (τ := arW τ n E v d126) (mp := 16) (i := 15 * v + 3 + exN τ 16 v + cntL d126 (arQ τ n E v)) (v := lfI (arW τ n E v d126) E 16 d126) (by omega) (by omega)) ml_M_76 hd_M_set ⟨by decide, by decide⟩ rfl rfl (Nat.le_of_ble_eq_true rfl) d_M_addRow_159 rfl ?_
          refine a_ninc (pc' := 165) hc d_M_addRow_162 rfl rfl (by decide) ?_
          refine a_ninc (pc' := 168) hc d_M_addRow_165 rfl rfl (by decide) ?_
          refine a_goto (tgt := 126) hc d_M_addRow_168 rfl ?_
          refine AW.lvi 5 (y := nI (15 * v + 3 + exN τ 16 v + cntL (d126 + 1) (arQ τ n E v))) rfl (by rw [cntL_s, hq143]; rfl) ?_
          refine AW.tw (τ1 := arW τ n E v (d126 + 1)) (by simp [arT, hq143]) ?_
          exact AW.to rfl rfl rfl (ih126 (by omega))
    · skip
      refine a_iconst (pc' := 106) (v := nI 0) hc d_M_addRow_105 rfl (by decide) ?_
      exact a_zret hc hr hk (Or.inl rfl) d_M_addRow_106 (m_i (by simp [arP, h102, bI]) (by simp [arP, h102]))
  · skip
    refine a_aload_n (pc' := 26) hc d_M_addRow_25 rfl rfl rfl ?_
    refine r_get (pc' := 29) hc hK hx 2 (v := .ref (ax 1)) (by decide) rfl fl_M_7 d_M_addRow_26 rfl ?_
    refine a_iload (pc' := 31) hc d_M_addRow_29 rfl rfl ?_
    refine r_zald (pc' := 32) hc hK hx d16 (by omega) d_M_addRow_31 rfl ?_
    refine a_ifb_eq (pc' := 35) (tgt := 50) hc d_M_addRow_32 rfl rfl (fun h32 => ?_) (fun h32 => ?_)
    · skip
      refine a_iconst (pc' := 51) (v := nI 0) hc d_M_addRow_50 rfl (by decide) ?_
      refine a_istore (pc' := 53) hc d_M_addRow_51 rfl (by decide) ?_
      refine a_iload_n (pc' := 54) hc d_M_addRow_53 rfl rfl rfl ?_
      refine a_iload (pc' := 56) hc d_M_addRow_54 rfl rfl ?_
      refine a_ifn_eq (pc' := 59) (tgt := 63) hc d_M_addRow_56 rfl rfl (by omega) (fun h56 => ?_) (fun h56 => absurd h56 (by omega))
      refine a_iconst (pc' := 64) (v := nI 0) hc d_M_addRow_63 rfl (by decide) ?_
      refine a_nadd (pc' := 65) hc d_M_addRow_64 rfl ?_
      refine a_istore_n (pc' := 66) hc d_M_addRow_65 rfl rfl (by decide) ?_
      refine a_iload (pc' := 68) hc d_M_addRow_66 rfl rfl ?_
      refine a_iload (pc' := 70) hc d_M_addRow_68 rfl rfl ?_
      refine a_ifn_eq (pc' := 73) (tgt := 90) hc d_M_addRow_70 rfl rfl (by omega) (fun h70 => ?_) (fun h70 => absurd h70 (by omega))
      refine a_iconst (pc' := 91) (v := nI 0) hc d_M_addRow_90 rfl (by decide) ?_
      refine a_ior (pc' := 92) hc d_M_addRow_91 rfl ?_
      refine AW.topi (y := nI (mkL (arQ τ n E v) d16)) (or_0' _ (mkL_32 _ (by omega))) ?_
      refine a_istore (pc' := 94) hc d_M_addRow_92 rfl (by decide) ?_
      refine a_ninc (pc' := 97) hc d_M_addRow_94 rfl rfl (by decide) ?_
      refine a_goto (tgt := 16) hc d_M_addRow_97 rfl ?_
      refine AW.mask [true, true, true, true, true, true, false] ?_
      refine AW.lvi 3 (y := nI (cntL (d16 + 1) (fitB τ E))) rfl (by first | rfl | (simp [cntL_s, fitB, bI, h22, h32]; done)) ?_
      refine AW.lvi 4 (y := nI (mkL (arQ τ n E v) (d16 + 1))) rfl (by first | rfl | (simp [mkL, chB, fitB, bI, h22, h32]; done)) ?_
      exact AW.to rfl rfl rfl (ih16 (by omega))
    · skip
      refine a_aload_n (pc' := 36) hc d_M_addRow_35 rfl rfl rfl ?_
      refine a_bipush (pc' := 38) (v := nI 16) hc d_M_addRow_36 rfl (by decide) ?_
      refine a_iload (pc' := 40) hc d_M_addRow_38 rfl rfl ?_
      refine r_calli (pc' := 43) hc hK hO hA hx [.int (nI 16), .int (nI d16)] [] (ct_M_freeOf hx (τ := τ) (mp := 16) (d := d16) (by omega) (by omega) hw) ml_M_66 hd_M_freeOf ⟨by decide, by decide⟩ rfl rfl (Nat.le_of_ble_eq_true rfl) d_M_addRow_40 rfl ?_
      have hf40 := frN_le τ E 16 d16
      refine a_ifn_le (pc' := 46) (tgt := 50) hc d_M_addRow_43 rfl rfl (by omega) (fun h43 => ?_) (fun h43 => ?_)
      · skip
        refine a_iconst (pc' := 51) (v := nI 0) hc d_M_addRow_50 rfl (by decide) ?_
        refine a_istore (pc' := 53) hc d_M_addRow_51 rfl (by decide) ?_
        refine a_iload_n (pc' := 54) hc d_M_addRow_53 rfl rfl rfl ?_
        refine a_iload (pc' := 56) hc d_M_addRow_54 rfl rfl ?_
        refine a_ifn_eq (pc' := 59) (tgt := 63) hc d_M_addRow_56 rfl rfl (by omega) (fun h56 => ?_) (fun h56 => absurd h56 (by omega))
        refine a_iconst (pc' := 64) (v := nI 0) hc d_M_addRow_63 rfl (by decide) ?_
        refine a_nadd (pc' := 65) hc d_M_addRow_64 rfl ?_
        refine a_istore_n (pc' := 66) hc d_M_addRow_65 rfl rfl (by decide) ?_
        refine a_iload (pc' := 68) hc d_M_addRow_66 rfl rfl ?_
        refine a_iload (pc' := 70) hc d_M_addRow_68 rfl rfl ?_
        refine a_ifn_eq (pc' := 73) (tgt := 90) hc d_M_addRow_70 rfl rfl (by omega) (fun h70 => ?_) (fun h70 => absurd h70 (by omega))
        refine a_iconst (pc' := 91) (v := nI 0) hc d_M_addRow_90 rfl (by decide) ?_
        refine a_ior (pc' := 92) hc d_M_addRow_91 rfl ?_
        refine AW.topi (y := nI (mkL (arQ τ n E v) d16)) (or_0' _ (mkL_32 _ (by omega))) ?_
        refine a_istore (pc' := 94) hc d_M_addRow_92 rfl (by decide) ?_
        refine a_ninc (pc' := 97) hc d_M_addRow_94 rfl rfl (by decide) ?_
        refine a_goto (tgt := 16) hc d_M_addRow_97 rfl ?_
        refine AW.mask [true, true, true, true, true, true, false] ?_
        refine AW.lvi 3 (y := nI (cntL (d16 + 1) (fitB τ E))) rfl (by first | rfl | (simp [cntL_s, fitB, bI, h22, h32, h43]; done)) ?_
        refine AW.lvi 4 (y := nI (mkL (arQ τ n E v) (d16 + 1))) rfl (by first | rfl | (simp [mkL, chB, fitB, bI, h22, h32, h43]; done)) ?_
        exact AW.to rfl rfl rfl (ih16 (by omega))
      · skip
        refine a_iconst (pc' := 47) (v := nI 1) hc d_M_addRow_46 rfl (by decide) ?_
        refine a_goto (tgt := 51) hc d_M_addRow_47 rfl ?_
        refine a_istore (pc' := 53) hc d_M_addRow_51 rfl (by decide) ?_
        refine a_iload_n (pc' := 54) hc d_M_addRow_53 rfl rfl rfl ?_
        refine a_iload (pc' := 56) hc d_M_addRow_54 rfl rfl ?_
        refine a_ifn_eq (pc' := 59) (tgt := 63) hc d_M_addRow_56 rfl rfl (by omega) (fun h56 => absurd h56 (by omega)) (fun h56 => ?_)
        refine a_iconst (pc' := 60) (v := nI 1) hc d_M_addRow_59 rfl (by decide) ?_
        refine a_goto (tgt := 64) hc d_M_addRow_60 rfl ?_
        refine a_nadd (pc' := 65) hc d_M_addRow_64 rfl ?_
        refine a_istore_n (pc' := 66) hc d_M_addRow_65 rfl rfl (by decide) ?_
        refine a_iload (pc' := 68) hc d_M_addRow_66 rfl rfl ?_
        refine a_iload (pc' := 70) hc d_M_addRow_68 rfl rfl ?_
        refine a_ifn_eq (pc' := 73) (tgt := 90) hc d_M_addRow_70 rfl rfl (by omega) (fun h70 => absurd h70 (by omega)) (fun h70 => ?_)
        refine a_aload_n (pc' := 74) hc d_M_addRow_73 rfl rfl rfl ?_
        refine a_iload (pc' := 76) hc d_M_addRow_74 rfl rfl ?_
        refine r_calli (pc' := 79) hc hK hO hA hx [.int (nI d16)] [.int (nI (mkL (arQ τ n E v) d16))] (ct_M_before hx (τ := τ) (d := d16) (by omega) hw) ml_M_69 hd_M_before ⟨by decide, by decide⟩ rfl rfl (Nat.le_of_ble_eq_true rfl) d_M_addRow_76 rfl ?_
        have hb76 := cntL_le n (qB τ E d16)
        refine a_iload_n (pc' := 80) hc d_M_addRow_79 rfl rfl rfl ?_
        refine a_ncmp_ge (pc' := 83) (tgt := 90) hc d_M_addRow_80 rfl rfl (by omega) (by omega) (fun h80 => ?_) (fun h80 => ?_)
        · skip
          have n80 := Nat.not_lt.mpr h80
          refine a_iconst (pc' := 91) (v := nI 0) hc d_M_addRow_90 rfl (by decide) ?_
          refine a_ior (pc' := 92) hc d_M_addRow_91 rfl ?_
          refine AW.topi (y := nI (mkL (arQ τ n E v) d16)) (or_0' _ (mkL_32 _ (by omega))) ?_
          refine a_istore (pc' := 94) hc d_M_addRow_92 rfl (by decide) ?_
          refine a_ninc (pc' := 97) hc d_M_addRow_94 rfl rfl (by decide) ?_
          refine a_goto (tgt := 16) hc d_M_addRow_97 rfl ?_
          refine AW.mask [true, true, true, true, true, true, false] ?_
          refine AW.lvi 3 (y := nI (cntL (d16 + 1) (fitB τ E))) rfl (by first | rfl | (simp [cntL_s, fitB, bI, h22, h32, h43, h80, n80]; done)) ?_
          refine AW.lvi 4 (y := nI (mkL (arQ τ n E v) (d16 + 1))) rfl (by first | rfl | (simp [mkL, chB, fitB, bI, h22, h32, h43, h80, n80]; done)) ?_
          exact AW.to rfl rfl rfl (ih16 (by omega))
        · skip
          refine a_iconst (pc' := 84) (v := nI 1) hc d_M_addRow_83 rfl (by decide) ?_
          refine a_iload (pc' := 86) hc d_M_addRow_84 rfl rfl ?_
          refine a_ishl (pc' := 87) hc d_M_addRow_86 rfl ?_
          refine AW.topi (y := nI (2 ^ d16)) (sh_1 _ (by omega)) ?_
          refine a_goto (tgt := 91) hc d_M_addRow_87 rfl ?_
          refine a_ior (pc' := 92) hc d_M_addRow_91 rfl ?_
          refine AW.topi (y := nI (mkL (arQ τ n E v) d16 + 2 ^ d16)) (or_2' _ (by omega) _ (mkL_lt _ _)) ?_
          refine a_istore (pc' := 94) hc d_M_addRow_92 rfl (by decide) ?_
          refine a_ninc (pc' := 97) hc d_M_addRow_94 rfl rfl (by decide) ?_
          refine a_goto (tgt := 16) hc d_M_addRow_97 rfl ?_
          refine AW.mask [true, true, true, true, true, true, false] ?_
          refine AW.lvi 3 (y := nI (cntL (d16 + 1) (fitB τ E))) rfl (by first | rfl | (simp [cntL_s, fitB, bI, h22, h32, h43, h80]; done)) ?_
          refine AW.lvi 4 (y := nI (mkL (arQ τ n E v) (d16 + 1))) rfl (by first | rfl | (simp [mkL, chB, fitB, bI, h22, h32, h43, h80]; done)) ?_
          exact AW.to rfl rfl rfl (ih16 (by omega))
theorem ct_M_extend (hx : MX ax rl ca tys n E) {τ : TS} {v : Int32} {r : Int32} (hw : WFx n E τ 15) (h6 : ∀ j i d : Nat, v = nI j → d < 5 → ¬ adT (cpT τ 15 16 64) n E j i 6 d < 0) (hok : ∀ j r' i : Nat, v = nI j → r = nI r' → j < 4 → ¬ gt τ 15 (15 * j + 2) ≤ 0 → r' + gN τ 15 (15 * j + 2) ≤ 12 / gN τ 15 (15 * j) → i < r' → (∀ k, k < i → qR (cpT τ 15 16 64) n E j k = false) → ArOk (adT (cpT τ 15 16 64) n E j i) n E j) : MC l y_M_extend c_M_extend 4 (some .int) 7 D tys A ax rl ca n E τ [.int v, .int r] (some (.int ((xtP τ n E v r).1))) ((xtP τ n E v r).2) := by
  obtain ⟨hn2, hn5⟩ := hx.2.2.2.1
  obtain ⟨hE2, hE10⟩ := hx.2.2.2.2
  refine MC.of rfl (Nat.le_of_ble_eq_true rfl) (cat_all rfl) ?_
  intro pp ee ss mm aa bb me cd hc hK hO hr hk hA
  refine AW.to (lv' := [some (.ref (ax 0)), some (.int v), some (.int r), none]) rfl rfl rfl ?_
  refine a_aload_n (pc' := 1) hc d_M_extend_0 rfl rfl rfl ?_
  refine r_get (pc' := 4) hc hK hx 11 (v := .int (bI (tb (τ 0 5)))) (by decide) rfl fl_M_45 d_M_extend_1 rfl ?_
  refine a_ifb_ne (pc' := 7) (tgt := 10) hc d_M_extend_4 rfl rfl (fun h4 => ?_) (fun h4 => ?_)
  · skip
    refine a_aload_n (pc' := 11) hc d_M_extend_10 rfl rfl rfl ?_
    refine a_iload_n (pc' := 12) hc d_M_extend_11 rfl rfl rfl ?_
    refine r_calli (pc' := 15) hc hK hO hA hx [.int v] [] (ct_M_isVolume hx (τ := τ) (v := v) ) ml_M_117 hd_M_isVolume ⟨by decide, by decide⟩ rfl rfl (Nat.le_of_ble_eq_true rfl) d_M_extend_12 rfl ?_
    refine a_ifb_eq (pc' := 18) (tgt := 45) hc d_M_extend_15 rfl rfl (fun h15 => ?_) (fun h15 => ?_)
    · skip
      refine a_iconst (pc' := 46) (v := -1) hc d_M_extend_45 rfl (by decide) ?_
      exact a_iret hc hr hk d_M_extend_46 (m_i (by first | rfl | (simp only [xtP, h4, h15]; done) | (simp [xtP, h4, h15]; done)) (by first | rfl | (simp only [xtP, h4, h15]; done) | (simp [xtP, h4, h15]; done)))
    · skip
      obtain ⟨j, hj, ej, cj, pj⟩ := volB_t h15
      subst ej
      obtain ⟨hs1, hs2⟩ := hw.2.1 j hj pj
      have hs3 := (hw.1.2 j hj)
      have hs4 : gN τ 15 (15 * j + 2) ≤ 12 / gN τ 15 (15 * j) := (Nat.le_div_iff_mul_le (by omega)).mpr (by rw [Nat.mul_comm]; exact hs3.2)
      have hs5 : 12 / gN τ 15 (15 * j) ≤ 12 := Nat.div_le_self _ _
      refine a_iload_n (pc' := 19) hc d_M_extend_18 rfl rfl rfl ?_
      refine a_iconst (pc' := 20) (v := nI 1) hc d_M_extend_19 rfl (by decide) ?_
      refine a_icmp_lt (pc' := 23) (tgt := 45) hc d_M_extend_20 rfl rfl (fun h20 => ?_) (fun h20 => ?_)
      · skip
        refine a_iconst (pc' := 46) (v := -1) hc d_M_extend_45 rfl (by decide) ?_
        exact a_iret hc hr hk d_M_extend_46 (m_i (by first | rfl | (simp only [xtP, h4, h15, cj, h20]; done) | (simp [xtP, h4, h15, cj, h20]; done)) (by first | rfl | (simp only [xtP, h4, h15, cj, h20]; done) | (simp [xtP, h4, h15, cj, h20]; done)))
      · skip
        refine a_iload_n (pc' := 24) hc d_M_extend_23 rfl rfl rfl ?_
        refine a_bipush (pc' := 26) (v := nI 12) hc d_M_extend_24 rfl (by decide) ?_
        refine a_aload_n (pc' := 27) hc d_M_extend_26 rfl rfl rfl ?_
        refine a_bipush (pc' := 29) (v := nI 15) hc d_M_extend_27 rfl (by decide) ?_
        refine a_iload_n (pc' := 30) hc d_M_extend_29 rfl rfl rfl ?_
        refine r_calli (pc' := 33) hc hK hO hA hx [.int (nI 15), .int (nI j)] [.int (nI 12), .int r] (ct_M_width hx (τ := τ) (mp := 15) (v := j) (by omega) (by omega)) ml_M_56 hd_M_width ⟨by decide, by decide⟩ rfl rfl (Nat.le_of_ble_eq_true rfl) d_M_extend_30 rfl ?_
        refine AW.topi (y := nI (gN τ 15 (15 * j))) (hw.1.n (by omega) (by omega)) ?_
        refine a_ndiv (pc' := 34) hc d_M_extend_33 rfl (by omega) (by omega) (by omega) ?_
        refine a_aload_n (pc' := 35) hc d_M_extend_34 rfl rfl rfl ?_
        refine a_bipush (pc' := 37) (v := nI 15) hc d_M_extend_35 rfl (by decide) ?_
        refine a_iload_n (pc' := 38) hc d_M_extend_37 rfl rfl rfl ?_
        refine r_calli (pc' := 41) hc hK hO hA hx [.int (nI 15), .int (nI j)] [.int (nI (12 / (gN τ 15 (15 * j)))), .int r] (ct_M_rowsOf hx (τ := τ) (mp := 15) (v := j) (by omega) (by omega)) ml_M_53 hd_M_rowsOf ⟨by decide, by decide⟩ rfl rfl (Nat.le_of_ble_eq_true rfl) d_M_extend_38 rfl ?_
        refine AW.topi (y := nI (gN τ 15 (15 * j + 2))) (hw.1.n (by omega) (by omega)) ?_
        refine a_nsub (pc' := 42) hc d_M_extend_41 rfl (hs4) ?_
        refine a_icmp_le (pc' := 45) (tgt := 47) hc d_M_extend_42 rfl rfl (fun h42 => ?_) (fun h42 => ?_)
        · skip
          obtain ⟨r', hr1, hr2, er, cr⟩ := rg_of (by omega) h20 h42
          subst er
          refine a_aload_n (pc' := 48) hc d_M_extend_47 rfl rfl rfl ?_
          refine r_calli (pc' := 51) hc hK hO hA hx [] [] (ct_M_few hx (τ := τ) ) ml_M_108 hd_M_few ⟨by decide, by decide⟩ rfl rfl (Nat.le_of_ble_eq_true rfl) d_M_extend_48 rfl ?_
          refine a_ifb_eq (pc' := 54) (tgt := 57) hc d_M_extend_51 rfl rfl (fun h51 => ?_) (fun h51 => ?_)
          · skip
            refine a_aload_n (pc' := 58) hc d_M_extend_57 rfl rfl rfl ?_
            refine a_iload_n (pc' := 59) hc d_M_extend_58 rfl rfl rfl ?_
            refine r_calli (pc' := 62) hc hK hO hA hx [.int (nI j)] [] (ct_M_isMoved hx (τ := τ) (v := nI j) ) ml_M_120 hd_M_isMoved ⟨by decide, by decide⟩ rfl rfl (Nat.le_of_ble_eq_true rfl) d_M_extend_59 rfl ?_
            refine a_ifb_eq (pc' := 65) (tgt := 68) hc d_M_extend_62 rfl rfl (fun h62 => ?_) (fun h62 => ?_)
            · skip
              refine a_aload_n (pc' := 69) hc d_M_extend_68 rfl rfl rfl ?_
              refine a_bipush (pc' := 71) (v := nI 15) hc d_M_extend_69 rfl (by decide) ?_
              refine a_bipush (pc' := 73) (v := nI 16) hc d_M_extend_71 rfl (by decide) ?_
              refine r_callv (pc' := 76) hc hK hO hA hx [.int (nI 15), .int (nI 16)] [] (ct_M_copyMap hx (τ := τ) (a := 15) (b := 16) (by omega) (by omega)) ml_M_90 hd_M_copyMap ⟨by decide, by decide⟩ rfl rfl (Nat.le_of_ble_eq_true rfl) d_M_extend_73 rfl ?_
              refine a_iconst (pc' := 77) (v := nI 0) hc d_M_extend_76 rfl (by decide) ?_
              refine a_istore_n (pc' := 78) hc d_M_extend_77 rfl rfl (by decide) ?_
              refine AW.tw (τ1 := adT (cpT τ 15 16 64) n E j 0) (rfl) ?_
              refine AW.loopG r' 0 (fun i78 => tw ax rl ca n E (adT (cpT τ 15 16 64) n E j i78)) (fun i78 => [some (.ref (ax 0)), some (.int (nI j)), some (.int (nI r')), some (.int (nI i78))]) (fun i78 => ∀ k, k < i78 → qR (cpT τ 15 16 64) n E j k = false) (Nat.zero_le _) (fun k hk' => absurd hk' (by omega)) rfl rfl (fun i78 hle78 hG78 ih78 => ?_)
              try dsimp only at hG78 ih78 ⊢
              refine a_iload_n (pc' := 79) hc d_M_extend_78 rfl rfl rfl ?_
              refine a_iload_n (pc' := 80) hc d_M_extend_79 rfl rfl rfl ?_
              refine a_ncmp_ge (pc' := 83) (tgt := 100) hc d_M_extend_80 rfl rfl (by omega) (by omega) (fun h80 => ?_) (fun h80 => ?_)
              · skip
                have hex80 : i78 = r' := by omega
                subst i78
                refine a_aload_n (pc' := 101) hc d_M_extend_100 rfl rfl rfl ?_
                refine r_calli (pc' := 104) hc hK hO hA hx [] [] (ct_M_commit hx (τ := adT (cpT τ 15 16 64) n E j r') (fun d hd => h6 j _ d rfl hd)) ml_M_114 hd_M_commit ⟨by decide, by decide⟩ rfl rfl (Nat.le_of_ble_eq_true rfl) d_M_extend_101 rfl ?_
                refine a_ifb_eq (pc' := 107) (tgt := 117) hc d_M_extend_104 rfl rfl (fun h104 => ?_) (fun h104 => ?_)
                · skip
                  refine a_bipush (pc' := 119) (v := -7) hc d_M_extend_117 rfl (by decide) ?_
                  exact a_iret hc hr hk d_M_extend_119 (m_i (by simp [xtP, h4, h15, cj, h20, h42, cr, h51, h62, h80, h104, ad_done hG78]) (by simp [xtP, h4, h15, cj, h20, h42, cr, h51, h62, h80, h104, ad_done hG78]))
                · skip
                  refine a_aload_n (pc' := 108) hc d_M_extend_107 rfl rfl rfl ?_
                  refine a_bipush (pc' := 110) (v := nI 15) hc d_M_extend_108 rfl (by decide) ?_
                  refine a_iload_n (pc' := 111) hc d_M_extend_110 rfl rfl rfl ?_
                  refine r_calli (pc' := 114) hc hK hO hA hx [.int (nI 15), .int (nI j)] [] (ct_M_rowsOf hx (τ := cmW (adT (cpT τ 15 16 64) n E j r') n) (mp := 15) (v := j) (by omega) (by omega)) ml_M_53 hd_M_rowsOf ⟨by decide, by decide⟩ rfl rfl (Nat.le_of_ble_eq_true rfl) d_M_extend_111 rfl ?_
                  refine a_goto (tgt := 119) hc d_M_extend_114 rfl ?_
                  exact a_iret hc hr hk d_M_extend_119 (m_i (by simp [xtP, h4, h15, cj, h20, h42, cr, h51, h62, h80, h104, ad_done hG78]) (by simp [xtP, h4, h15, cj, h20, h42, cr, h51, h62, h80, h104, ad_done hG78]))
              · skip
                refine a_aload_n (pc' := 84) hc d_M_extend_83 rfl rfl rfl ?_
                refine a_iload_n (pc' := 85) hc d_M_extend_84 rfl rfl rfl ?_
                refine r_calli (pc' := 88) hc hK hO hA hx [.int (nI j)] [] (ct_M_addRow hx (τ := adT (cpT τ 15 16 64) n E j i78) (v := j) (by omega) (hok j r' i78 rfl rfl hj pj (by omega) (by omega) hG78)) ml_M_111 hd_M_addRow ⟨by decide, by decide⟩ rfl rfl (Nat.le_of_ble_eq_true rfl) d_M_extend_85 rfl ?_
                refine a_ifb_ne (pc' := 91) (tgt := 94) hc d_M_extend_88 rfl rfl (fun h88 => ?_) (fun h88 => ?_)
                · skip
                  refine a_ninc (pc' := 97) hc d_M_extend_94 rfl rfl (by decide) ?_
                  refine a_goto (tgt := 78) hc d_M_extend_97 rfl ?_
                  refine AW.tw (τ1 := adT (cpT τ 15 16 64) n E j (i78 + 1)) (rfl) ?_
                  exact AW.to rfl rfl rfl (ih78 (by omega) (allf_s hG78 (by simp [qR, h88])))
                · skip
                  refine a_bipush (pc' := 93) (v := -5) hc d_M_extend_91 rfl (by decide) ?_
                  exact a_iret hc hr hk d_M_extend_93 (m_i (by simp [xtP, h4, h15, cj, h20, h42, cr, h51, h62, h80, h88, ad_stop hG78 (by omega) h88]) (by simp [xtP, h4, h15, cj, h20, h42, cr, h51, h62, h80, h88, ad_stop hG78 (by omega) h88]))
            · skip
              refine a_bipush (pc' := 67) (v := -4) hc d_M_extend_65 rfl (by decide) ?_
              exact a_iret hc hr hk d_M_extend_67 (m_i (by first | rfl | (simp only [xtP, h4, h15, cj, h20, h42, cr, h51, h62]; done) | (simp [xtP, h4, h15, cj, h20, h42, cr, h51, h62]; done)) (by first | rfl | (simp only [xtP, h4, h15, cj, h20, h42, cr, h51, h62]; done) | (simp [xtP, h4, h15, cj, h20, h42, cr, h51, h62]; done)))
          · skip
            refine a_bipush (pc' := 56) (v := -3) hc d_M_extend_54 rfl (by decide) ?_
            exact a_iret hc hr hk d_M_extend_56 (m_i (by first | rfl | (simp only [xtP, h4, h15, cj, h20, h42, cr, h51]; done) | (simp [xtP, h4, h15, cj, h20, h42, cr, h51]; done)) (by first | rfl | (simp only [xtP, h4, h15, cj, h20, h42, cr, h51]; done) | (simp [xtP, h4, h15, cj, h20, h42, cr, h51]; done)))
        · skip
          refine a_iconst (pc' := 46) (v := -1) hc d_M_extend_45 rfl (by decide) ?_
          exact a_iret hc hr hk d_M_extend_46 (m_i (by first | rfl | (simp only [xtP, h4, h15, cj, h20, h42]; done) | (simp [xtP, h4, h15, cj, h20, h42]; done)) (by first | rfl | (simp only [xtP, h4, h15, cj, h20, h42]; done) | (simp [xtP, h4, h15, cj, h20, h42]; done)))
  · skip
    refine a_bipush (pc' := 9) (v := -2) hc d_M_extend_7 rfl (by decide) ?_
    exact a_iret hc hr hk d_M_extend_9 (m_i (by first | rfl | (simp only [xtP, h4]; done) | (simp [xtP, h4]; done)) (by first | rfl | (simp only [xtP, h4]; done) | (simp [xtP, h4]; done)))
theorem ct_M_create (hx : MX ax rl ca tys n E) {τ : TS} {w : Int32} {c : Int32} {r : Int32} (h6 : ∀ v i d : Nat, d < 5 → ¬ adT (cr0 τ v w c) n E v i 6 d < 0) (hok : ∀ v w' r' i : Nat, w = nI w' → (c = nI 1 ∨ c = nI 2 ∨ c = nI 4) → r = nI r' → v < 4 → gt τ 15 (15 * v + 2) ≤ 0 → 1 ≤ w' → w' ≤ 4 → r' ≤ 12 / w' → i < r' → (∀ k, k < i → qR (cr0 τ v w c) n E v k = false) → ArOk (adT (cr0 τ v w c) n E v i) n E v) : MC l y_M_create c_M_create 6 (some .int) 7 D tys A ax rl ca n E τ [.int w, .int c, .int r] (some (.int ((ctP τ n E w c r).1))) ((ctP τ n E w c r).2) := by
  obtain ⟨hn2, hn5⟩ := hx.2.2.2.1
  obtain ⟨hE2, hE10⟩ := hx.2.2.2.2
  refine MC.of rfl (Nat.le_of_ble_eq_true rfl) (cat_all rfl) ?_
  intro pp ee ss mm aa bb me cd hc hK hO hr hk hA
  refine AW.to (lv' := [some (.ref (ax 0)), some (.int w), some (.int c), some (.int r), none, none]) rfl rfl rfl ?_
  refine a_aload_n (pc' := 1) hc d_M_create_0 rfl rfl rfl ?_
  refine r_get (pc' := 4) hc hK hx 11 (v := .int (bI (tb (τ 0 5)))) (by decide) rfl fl_M_45 d_M_create_1 rfl ?_
  refine a_ifb_ne (pc' := 7) (tgt := 10) hc d_M_create_4 rfl rfl (fun h4 => ?_) (fun h4 => ?_)
  · skip
    refine a_iload_n (pc' := 11) hc d_M_create_10 rfl rfl rfl ?_
    refine a_iconst (pc' := 12) (v := nI 1) hc d_M_create_11 rfl (by decide) ?_
    refine a_icmp_lt (pc' := 15) (tgt := 48) hc d_M_create_12 rfl rfl (fun h12 => ?_) (fun h12 => ?_)
    · skip
      refine a_iconst (pc' := 49) (v := -1) hc d_M_create_48 rfl (by decide) ?_
      exact a_iret hc hr hk d_M_create_49 (m_i (by first | rfl | (simp only [ctP, shB, h4, h12]; done) | (simp [ctP, shB, h4, h12]; done)) (by first | rfl | (simp only [ctP, shB, h4, h12]; done) | (simp [ctP, shB, h4, h12]; done)))
    · skip
      refine a_iload_n (pc' := 16) hc d_M_create_15 rfl rfl rfl ?_
      refine a_iconst (pc' := 17) (v := nI 4) hc d_M_create_16 rfl (by decide) ?_
      refine a_icmp_gt (pc' := 20) (tgt := 48) hc d_M_create_17 rfl rfl (fun h17 => ?_) (fun h17 => ?_)
      · skip
        refine a_iconst (pc' := 49) (v := -1) hc d_M_create_48 rfl (by decide) ?_
        exact a_iret hc hr hk d_M_create_49 (m_i (by first | rfl | (simp only [ctP, shB, h4, h12, h17]; done) | (simp [ctP, shB, h4, h12, h17]; done)) (by first | rfl | (simp only [ctP, shB, h4, h12, h17]; done) | (simp [ctP, shB, h4, h12, h17]; done)))
      · skip
        obtain ⟨w', hw1, hw2, ew, cw⟩ := rg_of (N := 4) (by decide) h12 (Int32.not_lt.mp h17)
        subst ew
        have hs5 : 12 / w' ≤ 12 := Nat.div_le_self _ _
        refine AW.cutP (P := c = nI 1 ∨ c = nI 2 ∨ c = nI 4) (f1 := tw ax rl ca n E τ) (pc1 := 35) (lv1 := [some (.ref (ax 0)), some (.int (nI w')), some (.int c), some (.int r), none, none]) (st1 := []) (fun hp20 => ?_) (fun kcut20 => ?_)
        · skip
          refine a_iload_n (pc' := 36) hc d_M_create_35 rfl rfl rfl ?_
          refine a_iconst (pc' := 37) (v := nI 1) hc d_M_create_36 rfl (by decide) ?_
          refine a_icmp_lt (pc' := 40) (tgt := 48) hc d_M_create_37 rfl rfl (fun h37 => ?_) (fun h37 => ?_)
          · skip
            refine a_iconst (pc' := 49) (v := -1) hc d_M_create_48 rfl (by decide) ?_
            exact a_iret hc hr hk d_M_create_49 (m_i (by first | rfl | (simp only [ctP, shB, h4, h12, h17, cw, hp20, h37]; done) | (simp [ctP, shB, h4, h12, h17, cw, hp20, h37]; done)) (by first | rfl | (simp only [ctP, shB, h4, h12, h17, cw, hp20, h37]; done) | (simp [ctP, shB, h4, h12, h17, cw, hp20, h37]; done)))
          · skip
            refine a_iload_n (pc' := 41) hc d_M_create_40 rfl rfl rfl ?_
            refine a_bipush (pc' := 43) (v := nI 12) hc d_M_create_41 rfl (by decide) ?_
            refine a_iload_n (pc' := 44) hc d_M_create_43 rfl rfl rfl ?_
            refine a_ndiv (pc' := 45) hc d_M_create_44 rfl (by omega) (by omega) (by omega) ?_
            refine a_icmp_le (pc' := 48) (tgt := 50) hc d_M_create_45 rfl rfl (fun h45 => ?_) (fun h45 => ?_)
            · skip
              obtain ⟨r', hr1, hr2, er, cr⟩ := rg_of (by omega) h37 h45
              subst er
              refine a_aload_n (pc' := 51) hc d_M_create_50 rfl rfl rfl ?_
              refine r_calli (pc' := 54) hc hK hO hA hx [] [] (ct_M_few hx (τ := τ) ) ml_M_108 hd_M_few ⟨by decide, by decide⟩ rfl rfl (Nat.le_of_ble_eq_true rfl) d_M_create_51 rfl ?_
              refine a_ifb_eq (pc' := 57) (tgt := 60) hc d_M_create_54 rfl rfl (fun h54 => ?_) (fun h54 => ?_)
              · skip
                refine a_iconst (pc' := 61) (v := nI 0) hc d_M_create_60 rfl (by decide) ?_
                refine a_istore (pc' := 63) hc d_M_create_61 rfl (by decide) ?_
                refine AW.loopG 4 0 (fun v63 => tw ax rl ca n E τ) (fun v63 => [some (.ref (ax 0)), some (.int (nI w')), some (.int c), some (.int (nI r')), some (.int (nI v63)), none]) (fun v63 => ∀ k, k < v63 → qV τ k = false) (Nat.zero_le _) (fun k hk' => absurd hk' (by omega)) rfl rfl (fun v63 hle63 hG63 ih63 => ?_)
                try dsimp only at hG63 ih63 ⊢
                refine a_iload (pc' := 65) hc d_M_create_63 rfl rfl ?_
                refine a_iconst (pc' := 66) (v := nI 4) hc d_M_create_65 rfl (by decide) ?_
                refine a_ncmp_ge (pc' := 69) (tgt := 86) hc d_M_create_66 rfl rfl (by omega) (by omega) (fun h66 => ?_) (fun h66 => ?_)
                · skip
                  have hex66 : v63 = 4 := by omega
                  subst v63
                  have hv66 := fsL_miss hG63
                  refine a_iload (pc' := 88) hc d_M_create_86 rfl rfl ?_
                  refine a_iconst (pc' := 89) (v := nI 4) hc d_M_create_88 rfl (by decide) ?_
                  refine a_ncmp_ne (pc' := 92) (tgt := 95) hc d_M_create_89 rfl rfl (by omega) (by omega) (fun h89 => absurd h89 (by omega)) (fun h89 => ?_)
                  refine a_bipush (pc' := 94) (v := -10) hc d_M_create_92 rfl (by decide) ?_
                  exact a_iret hc hr hk d_M_create_94 (m_i (by first | rfl | (simp only [ctP, shB, h4, h12, h17, cw, hp20, h37, h45, cr, h54, h66, hv66]; done) | (simp [ctP, shB, h4, h12, h17, cw, hp20, h37, h45, cr, h54, h66, hv66]; done)) (by first | rfl | (simp only [ctP, shB, h4, h12, h17, cw, hp20, h37, h45, cr, h54, h66, hv66]; done) | (simp [ctP, shB, h4, h12, h17, cw, hp20, h37, h45, cr, h54, h66, hv66]; done)))
                · skip
                  refine a_aload_n (pc' := 70) hc d_M_create_69 rfl rfl rfl ?_
                  refine a_bipush (pc' := 72) (v := nI 15) hc d_M_create_70 rfl (by decide) ?_
                  refine a_iload (pc' := 74) hc d_M_create_72 rfl rfl ?_
                  refine r_calli (pc' := 77) hc hK hO hA hx [.int (nI 15), .int (nI v63)] [] (ct_M_rowsOf hx (τ := τ) (mp := 15) (v := v63) (by omega) (by omega)) ml_M_53 hd_M_rowsOf ⟨by decide, by decide⟩ rfl rfl (Nat.le_of_ble_eq_true rfl) d_M_create_74 rfl ?_
                  refine a_if_le (pc' := 80) (tgt := 86) hc d_M_create_77 rfl rfl (fun h77 => ?_) (fun h77 => ?_)
                  · skip
                    have hv66 := fsL_hit (q := qV τ) (by simp [qV, h77]) hG63 4 (by omega)
                    refine a_iload (pc' := 88) hc d_M_create_86 rfl rfl ?_
                    refine a_iconst (pc' := 89) (v := nI 4) hc d_M_create_88 rfl (by decide) ?_
                    refine a_ncmp_ne (pc' := 92) (tgt := 95) hc d_M_create_89 rfl rfl (by omega) (by omega) (fun h89 => ?_) (fun h89 => ?_)
                    · skip
                      refine a_aload_n (pc' := 96) hc d_M_create_95 rfl rfl rfl ?_
                      refine a_bipush (pc' := 98) (v := nI 15) hc d_M_create_96 rfl (by decide) ?_
                      refine a_bipush (pc' := 100) (v := nI 16) hc d_M_create_98 rfl (by decide) ?_
                      refine r_callv (pc' := 103) hc hK hO hA hx [.int (nI 15), .int (nI 16)] [] (ct_M_copyMap hx (τ := τ) (a := 15) (b := 16) (by omega) (by omega)) ml_M_90 hd_M_copyMap ⟨by decide, by decide⟩ rfl rfl (Nat.le_of_ble_eq_true rfl) d_M_create_100 rfl ?_
                      refine a_aload_n (pc' := 104) hc d_M_create_103 rfl rfl rfl ?_
                      refine a_bipush (pc' := 106) (v := nI 16) hc d_M_create_104 rfl (by decide) ?_
                      refine a_bipush (pc' := 108) (v := nI 15) hc d_M_create_106 rfl (by decide) ?_
                      refine a_iload (pc' := 110) hc d_M_create_108 rfl rfl ?_
                      refine a_nmul (pc' := 111) hc d_M_create_110 rfl ?_
                      refine a_iload_n (pc' := 112) hc d_M_create_111 rfl rfl rfl ?_
                      refine r_callv (pc' := 115) hc hK hO hA hx [.int (nI 16), .int (nI (15 * v63)), .int (nI w')] [] (ct_M_set hx (τ := cpT τ 15 16 64) (mp := 16) (i := 15 * v63) (v := nI w') (by omega) (by omega)) ml_M_76 hd_M_set ⟨by decide, by decide⟩ rfl rfl (Nat.le_of_ble_eq_true rfl) d_M_create_112 rfl ?_
                      refine a_aload_n (pc' := 116) hc d_M_create_115 rfl rfl rfl ?_
                      refine a_bipush (pc' := 118) (v := nI 16) hc d_M_create_116 rfl (by decide) ?_
                      refine a_bipush (pc' := 120) (v := nI 15) hc d_M_create_118 rfl (by decide) ?_
                      refine a_iload (pc' := 122) hc d_M_create_120 rfl rfl ?_
                      refine a_nmul (pc' := 123) hc d_M_create_122 rfl ?_
                      refine a_iconst (pc' := 124) (v := nI 1) hc d_M_create_123 rfl (by decide) ?_
                      refine a_nadd (pc' := 125) hc d_M_create_124 rfl ?_
                      refine a_iload_n (pc' := 126) hc d_M_create_125 rfl rfl rfl ?_
                      refine r_callv (pc' := 129) hc hK hO hA hx [.int (nI 16), .int (nI ((15 * v63) + 1)), .int c] [] (ct_M_set hx (τ := ts (cpT τ 15 16 64) 3 (64 * 16 + (15 * v63)) (nI w')) (mp := 16) (i := (15 * v63) + 1) (v := c) (by omega) (by omega)) ml_M_76 hd_M_set ⟨by decide, by decide⟩ rfl rfl (Nat.le_of_ble_eq_true rfl) d_M_create_126 rfl ?_
                      refine a_aload_n (pc' := 130) hc d_M_create_129 rfl rfl rfl ?_
                      refine a_bipush (pc' := 132) (v := nI 16) hc d_M_create_130 rfl (by decide) ?_
                      refine a_bipush (pc' := 134) (v := nI 15) hc d_M_create_132 rfl (by decide) ?_
                      refine a_iload (pc' := 136) hc d_M_create_134 rfl rfl ?_
                      refine a_nmul (pc' := 137) hc d_M_create_136 rfl ?_
                      refine a_iconst (pc' := 138) (v := nI 2) hc d_M_create_137 rfl (by decide) ?_
                      refine a_nadd (pc' := 139) hc d_M_create_138 rfl ?_
                      refine a_iconst (pc' := 140) (v := nI 0) hc d_M_create_139 rfl (by decide) ?_
                      refine r_callv (pc' := 143) hc hK hO hA hx [.int (nI 16), .int (nI ((15 * v63) + 2)), .int (nI 0)] [] (ct_M_set hx (τ := ts (ts (cpT τ 15 16 64) 3 (64 * 16 + (15 * v63)) (nI w')) 3 (64 * 16 + ((15 * v63) + 1)) c) (mp := 16) (i := (15 * v63) + 2) (v := nI 0) (by omega) (by omega)) ml_M_76 hd_M_set ⟨by decide, by decide⟩ rfl rfl (Nat.le_of_ble_eq_true rfl) d_M_create_140 rfl ?_
                      refine a_iconst (pc' := 144) (v := nI 0) hc d_M_create_143 rfl (by decide) ?_
                      refine a_istore (pc' := 146) hc d_M_create_144 rfl (by decide) ?_
                      refine AW.tw (τ1 := adT (cr0 τ v63 (nI w') c) n E v63 0) (rfl) ?_
                      refine AW.loopG r' 0 (fun i146 => tw ax rl ca n E (adT (cr0 τ v63 (nI w') c) n E v63 i146)) (fun i146 => [some (.ref (ax 0)), some (.int (nI w')), some (.int c), some (.int (nI r')), some (.int (nI v63)), some (.int (nI i146))]) (fun i146 => ∀ k, k < i146 → qR (cr0 τ v63 (nI w') c) n E v63 k = false) (Nat.zero_le _) (fun k hk' => absurd hk' (by omega)) rfl rfl (fun i146 hle146 hG146 ih146 => ?_)
                      try dsimp only at hG146 ih146 ⊢
                      refine a_iload (pc' := 148) hc d_M_create_146 rfl rfl ?_
                      refine a_iload_n (pc' := 149) hc d_M_create_148 rfl rfl rfl ?_
                      refine a_ncmp_ge (pc' := 152) (tgt := 170) hc d_M_create_149 rfl rfl (by omega) (by omega) (fun h149 => ?_) (fun h149 => ?_)
                      · skip
                        have hex149 : i146 = r' := by omega
                        subst i146
                        refine a_aload_n (pc' := 171) hc d_M_create_170 rfl rfl rfl ?_
                        refine r_calli (pc' := 174) hc hK hO hA hx [] [] (ct_M_commit hx (τ := adT (cr0 τ v63 (nI w') c) n E v63 r') (fun d hd => h6 v63 _ d hd)) ml_M_114 hd_M_commit ⟨by decide, by decide⟩ rfl rfl (Nat.le_of_ble_eq_true rfl) d_M_create_171 rfl ?_
                        refine a_ifb_eq (pc' := 177) (tgt := 182) hc d_M_create_174 rfl rfl (fun h174 => ?_) (fun h174 => ?_)
                        · skip
                          refine a_bipush (pc' := 184) (v := -7) hc d_M_create_182 rfl (by decide) ?_
                          exact a_iret hc hr hk d_M_create_184 (m_i (by simp [ctP, shB, h4, h12, h17, cw, hp20, h37, h45, cr, h54, h66, h77, hv66, h89, h149, h174, ad_done hG146]) (by simp [ctP, shB, h4, h12, h17, cw, hp20, h37, h45, cr, h54, h66, h77, hv66, h89, h149, h174, ad_done hG146]))
                        · skip
                          refine a_iload (pc' := 179) hc d_M_create_177 rfl rfl ?_
                          refine a_goto (tgt := 184) hc d_M_create_179 rfl ?_
                          exact a_iret hc hr hk d_M_create_184 (m_i (by simp [ctP, shB, h4, h12, h17, cw, hp20, h37, h45, cr, h54, h66, h77, hv66, h89, h149, h174, ad_done hG146]) (by simp [ctP, shB, h4, h12, h17, cw, hp20, h37, h45, cr, h54, h66, h77, hv66, h89, h149, h174, ad_done hG146]))
                      · skip
                        refine a_aload_n (pc' := 153) hc d_M_create_152 rfl rfl rfl ?_
                        refine a_iload (pc' := 155) hc d_M_create_153 rfl rfl ?_
                        refine r_calli (pc' := 158) hc hK hO hA hx [.int (nI v63)] [] (ct_M_addRow hx (τ := adT (cr0 τ v63 (nI w') c) n E v63 i146) (v := v63) (by omega) (hok v63 w' r' i146 rfl hp20 rfl (by omega) h77 hw1 hw2 hr2 (by omega) hG146)) ml_M_111 hd_M_addRow ⟨by decide, by decide⟩ rfl rfl (Nat.le_of_ble_eq_true rfl) d_M_create_155 rfl ?_
                        refine a_ifb_ne (pc' := 161) (tgt := 164) hc d_M_create_158 rfl rfl (fun h158 => ?_) (fun h158 => ?_)
                        · skip
                          refine a_ninc (pc' := 167) hc d_M_create_164 rfl rfl (by decide) ?_
                          refine a_goto (tgt := 146) hc d_M_create_167 rfl ?_
                          refine AW.tw (τ1 := adT (cr0 τ v63 (nI w') c) n E v63 (i146 + 1)) (rfl) ?_
                          exact AW.to rfl rfl rfl (ih146 (by omega) (allf_s hG146 (by simp [qR, h158])))
                        · skip
                          refine a_bipush (pc' := 163) (v := -5) hc d_M_create_161 rfl (by decide) ?_
                          exact a_iret hc hr hk d_M_create_163 (m_i (by simp [ctP, shB, h4, h12, h17, cw, hp20, h37, h45, cr, h54, h66, h77, hv66, h89, h149, h158, ad_stop hG146 (by omega) h158]) (by simp [ctP, shB, h4, h12, h17, cw, hp20, h37, h45, cr, h54, h66, h77, hv66, h89, h149, h158, ad_stop hG146 (by omega) h158]))
                    · skip
                      refine a_bipush (pc' := 94) (v := -10) hc d_M_create_92 rfl (by decide) ?_
                      exact a_iret hc hr hk d_M_create_94 (m_i (by first | rfl | (simp only [ctP, shB, h4, h12, h17, cw, hp20, h37, h45, cr, h54, h66, h77, hv66, h89]; done) | (simp [ctP, shB, h4, h12, h17, cw, hp20, h37, h45, cr, h54, h66, h77, hv66, h89]; done)) (by first | rfl | (simp only [ctP, shB, h4, h12, h17, cw, hp20, h37, h45, cr, h54, h66, h77, hv66, h89]; done) | (simp [ctP, shB, h4, h12, h17, cw, hp20, h37, h45, cr, h54, h66, h77, hv66, h89]; done)))
                  · skip
                    refine a_ninc (pc' := 83) hc d_M_create_80 rfl rfl (by decide) ?_
                    refine a_goto (tgt := 63) hc d_M_create_83 rfl ?_
                    exact AW.to rfl rfl rfl (ih63 (by omega) (allf_s hG63 (by simp [qV, h77])))
              · skip
                refine a_bipush (pc' := 59) (v := -3) hc d_M_create_57 rfl (by decide) ?_
                exact a_iret hc hr hk d_M_create_59 (m_i (by first | rfl | (simp only [ctP, shB, h4, h12, h17, cw, hp20, h37, h45, cr, h54]; done) | (simp [ctP, shB, h4, h12, h17, cw, hp20, h37, h45, cr, h54]; done)) (by first | rfl | (simp only [ctP, shB, h4, h12, h17, cw, hp20, h37, h45, cr, h54]; done) | (simp [ctP, shB, h4, h12, h17, cw, hp20, h37, h45, cr, h54]; done)))
            · skip
              refine a_iconst (pc' := 49) (v := -1) hc d_M_create_48 rfl (by decide) ?_
              exact a_iret hc hr hk d_M_create_49 (m_i (by first | rfl | (simp only [ctP, shB, h4, h12, h17, cw, hp20, h37, h45]; done) | (simp [ctP, shB, h4, h12, h17, cw, hp20, h37, h45]; done)) (by first | rfl | (simp only [ctP, shB, h4, h12, h17, cw, hp20, h37, h45]; done) | (simp [ctP, shB, h4, h12, h17, cw, hp20, h37, h45]; done)))
        · skip
          refine a_iload_n (pc' := 21) hc d_M_create_20 rfl rfl rfl ?_
          refine a_iconst (pc' := 22) (v := nI 1) hc d_M_create_21 rfl (by decide) ?_
          refine a_icmp_eq (pc' := 25) (tgt := 35) hc d_M_create_22 rfl rfl (fun h22 => ?_) (fun h22 => ?_)
          · skip
            exact AW.to rfl rfl rfl (kcut20 (by simp [ctP, shB, h4, h12, h17, cw, h22]))
          · skip
            refine a_iload_n (pc' := 26) hc d_M_create_25 rfl rfl rfl ?_
            refine a_iconst (pc' := 27) (v := nI 2) hc d_M_create_26 rfl (by decide) ?_
            refine a_icmp_eq (pc' := 30) (tgt := 35) hc d_M_create_27 rfl rfl (fun h27 => ?_) (fun h27 => ?_)
            · skip
              exact AW.to rfl rfl rfl (kcut20 (by simp [ctP, shB, h4, h12, h17, cw, h22, h27]))
            · skip
              refine a_iload_n (pc' := 31) hc d_M_create_30 rfl rfl rfl ?_
              refine a_iconst (pc' := 32) (v := nI 4) hc d_M_create_31 rfl (by decide) ?_
              refine a_icmp_ne (pc' := 35) (tgt := 48) hc d_M_create_32 rfl rfl (fun h32 => ?_) (fun h32 => ?_)
              · skip
                refine a_iconst (pc' := 49) (v := -1) hc d_M_create_48 rfl (by decide) ?_
                exact a_iret hc hr hk d_M_create_49 (m_i (by first | rfl | (simp only [ctP, shB, h4, h12, h17, cw, h22, h27, h32]; done) | (simp [ctP, shB, h4, h12, h17, cw, h22, h27, h32]; done)) (by first | rfl | (simp only [ctP, shB, h4, h12, h17, cw, h22, h27, h32]; done) | (simp [ctP, shB, h4, h12, h17, cw, h22, h27, h32]; done)))
              · skip
                exact AW.to rfl rfl rfl (kcut20 (by simp [ctP, shB, h4, h12, h17, cw, h22, h27, h32]))
  · skip
    refine a_bipush (pc' := 9) (v := -2) hc d_M_create_7 rfl (by decide) ?_
    exact a_iret hc hr hk d_M_create_9 (m_i (by first | rfl | (simp only [ctP, shB, h4]; done) | (simp [ctP, shB, h4]; done)) (by first | rfl | (simp only [ctP, shB, h4]; done) | (simp [ctP, shB, h4]; done)))
end
section
/-! The class's world: its skeleton (object, disks, their arrays) is told by the reference's table, by the addresses of the copies
(κ 0 the present one, κ (1 + 3 d + k) a slot's) and by the marks tk; what is never changed once made lies in h. -/
def acI (τ : TS) : Int32 := if tb (τ 0 7) then τ 0 8 else -1
def cw_e (bx : Nat → Nat) (E : Nat) (τ : TS) (κ : Nat → Option Nat) : List Value := [.int (nI E), .ref (bx 1), .ref (bx 2), va_rf (κ 0), .int (τ 0 6), .int (τ 0 4), .int (bI (tb (τ 0 5))), .int (acI τ)]
def cw_d (bx : Nat → Nat) (τ : TS) (d : Nat) : List Value := [.ref (bx (4 + 4 * d)), .ref (bx (5 + 4 * d)), .ref (bx (6 + 4 * d)), .int (nI (wrN τ d % 3)), .int (bI (tb (τ 1 d)))]
def cw_n (n : Nat) (bx : Nat → Nat) : Nat → Option Nat := fun d => if d < n then some (bx (3 + 4 * d)) else none
def cw_z (E : Nat) (τ : TS) (d : Nat) : Nat → Int32 := fun i => if i < 4 * E then τ 2 (64 * d + i) else 0
def cw_k (κ : Nat → Option Nat) (d : Nat) : Nat → Option Nat := fun k => if k < 3 then κ (1 + 3 * d + k) else none
def cw_t (τ : TS) (d : Nat) : Nat → Int32 := fun k => if k < 3 then bI (decide (τ 4 (3 * d + k) = -11)) else 0
def cw_r (bx : Nat → Nat) (ca : Nat → ClassId) (E : Nat) (τ : TS) (κ : Nat → Option Nat) (d : Nat) : Nat → va_E
  | 0 => .inr (1, cw_d bx τ d)
  | 1 => .inl (ca 0, 4 * E, .inl (cw_z E τ d))
  | 2 => .inl (ca 3, 3, .inr (.inr (.inr (.inr (cw_k κ d)))))
  | _ => .inl (ca 1, 3, .inl (cw_t τ d))
def cw_c (bx : Nat → Nat) (ca : Nat → ClassId) (n E : Nat) (τ : TS) (κ : Nat → Option Nat) (tk : Nat → Int32) : Nat → va_E
  | 0 => .inr (4, cw_e bx E τ κ)
  | 1 => .inl (ca 2, n, .inr (.inr (.inr (.inr (cw_n n bx)))))
  | 2 => .inl (ca 0, n, .inl tk)
  | r + 3 => cw_r bx ca E τ κ (r / 4) (r % 4)
def cw (bx rl : Nat → Nat) (ca : Nat → ClassId) (n E : Nat) (τ : TS) (κ : Nat → Option Nat) (tk : Nat → Int32) (h : Nat → Option va_E) : Nat → Option va_E := fun a => if rl a < 3 + 4 * n ∧ bx (rl a) = a then some (cw_c bx ca n E τ κ tk (rl a)) else h a
def CX (bx rl : Nat → Nat) (ca : Nat → ClassId) (tys : List (ClassId × FieldType)) (n E : Nat) : Prop := (∀ i, i < 3 + 4 * n → rl (bx i) = i) ∧ (tys[0]? = some (ca 0, .int) ∧ tys[1]? = some (ca 1, .boolean) ∧ tys[2]? = some (ca 2, .object R_D) ∧ tys[3]? = some (ca 3, .object R_C) ∧ tys[4]? = some (ca 4, .object R_U)) ∧ (2 ≤ n ∧ n ≤ 5) ∧ 2 ≤ E ∧ E ≤ 10
def HD (bx : Nat → Nat) (n : Nat) (h : Nat → Option va_E) : Prop := ∀ r, r < 3 + 4 * n → h (bx r) = none
section CWS
variable {bx rl : Nat → Nat} {ca : Nat → ClassId} {n E : Nat} {τ τ' : TS} {κ κ' : Nat → Option Nat} {tk tk' : Nat → Int32} {h : Nat → Option va_E}
theorem cw_at (hx : ∀ i, i < 3 + 4 * n → rl (bx i) = i) {r : Nat} (hr : r < 3 + 4 * n) : cw bx rl ca n E τ κ tk h (bx r) = some (cw_c bx ca n E τ κ tk r) := by
  unfold cw
  rw [hx r hr, if_pos ⟨hr, rfl⟩]
theorem cw_h (hd : HD bx n h) {a : Nat} {x : va_E} (ha : h a = some x) : cw bx rl ca n E τ κ tk h a = some x := by
  unfold cw
  rw [if_neg, ha]
  intro q
  have := hd _ q.1
  rw [q.2, ha] at this
  cases this
theorem cw_up (hx : ∀ i, i < 3 + 4 * n → rl (bx i) = i) {r : Nat} (hr : r < 3 + 4 * n) {x : va_E} (hs : cw_c bx ca n E τ' κ' tk' r = x) (ho : ∀ j, j < 3 + 4 * n → j ≠ r → cw_c bx ca n E τ' κ' tk' j = cw_c bx ca n E τ κ tk j) : cw bx rl ca n E τ' κ' tk' h = va_up (cw bx rl ca n E τ κ tk h) (bx r) (some x) := by
  funext a
  by_cases h1 : a = bx r
  · subst h1
    rw [va_up_self, cw_at hx hr, hs]
  · rw [va_up_ne _ _ h1]
    unfold cw
    by_cases h2 : rl a < 3 + 4 * n ∧ bx (rl a) = a
    · rw [if_pos h2, if_pos h2, ho _ h2.1 (fun q => h1 (by rw [← h2.2, q]))]
    · rw [if_neg h2, if_neg h2]
theorem cw_uph {a : Nat} {x : va_E} (ha : ∀ r, r < 3 + 4 * n → bx r ≠ a) : cw bx rl ca n E τ κ tk (va_up h a (some x)) = va_up (cw bx rl ca n E τ κ tk h) a (some x) := by
  funext b
  by_cases h1 : b = a
  · subst h1
    rw [va_up_self]
    unfold cw
    rw [if_neg (fun q => ha _ q.1 q.2), va_up_self]
  · rw [va_up_ne _ _ h1]
    unfold cw
    by_cases h2 : rl b < 3 + 4 * n ∧ bx (rl b) = b
    · rw [if_pos h2, if_pos h2]
    · rw [if_neg h2, if_neg h2, va_up_ne _ _ h1]
theorem HD.off (hd : HD bx n h) {a : Nat} {x : va_E} (ha : h a = some x) : ∀ r, r < 3 + 4 * n → bx r ≠ a := fun r hr q => by
  have := hd r hr
  rw [q, ha] at this
  cases this
theorem cw_new (hx : ∀ i, i < 3 + 4 * n → rl (bx i) = i) {a : Nat} (ha : cw bx rl ca n E τ κ tk h a = none) : ∀ r, r < 3 + 4 * n → bx r ≠ a := fun r hr q => by
  subst q
  rw [cw_at hx hr] at ha
  cases ha
theorem HD.up (hd : HD bx n h) {a : Nat} {x : va_E} (ha : ∀ r, r < 3 + 4 * n → bx r ≠ a) : HD bx n (va_up h a (some x)) := fun r hr => by
  rw [va_up_ne _ _ (ha r hr)]
  exact hd r hr
theorem cw_none (hx : ∀ i, i < 3 + 4 * n → rl (bx i) = i) {a : Nat} (ha : cw bx rl ca n E τ κ tk h a = none) : h a = none := by
  unfold cw at ha
  split at ha
  · cases ha
  · exact ha
theorem cw_cd (r d : Nat) (hr : r < 4) : cw_c bx ca n E τ κ tk (3 + r + 4 * d) = cw_r bx ca E τ κ d r := by
  have e : 3 + r + 4 * d = (r + 4 * d) + 3 := by omega
  rw [e]
  show cw_r bx ca E τ κ ((r + 4 * d) / 4) ((r + 4 * d) % 4) = _
  have e1 : (r + 4 * d) / 4 = d := by omega
  have e2 : (r + 4 * d) % 4 = r := by omega
  rw [e1, e2]
end CWS
section CRS
variable {p : Program} {l : Launch} {e : Env} {R : Room} {s : State} {m : MethodId} {args : Array Value} {below : List Frame} {meth : Method} {c : Code} {D : va_G} {A : Nat → Prop} {nL : Nat} {Q : State → Prop}
variable {k nn pc pc' : Nat} {lv : List (Option Value)} {st : List Value} {cc : ByteArray} {c0 : Cond} {tys : List (ClassId × FieldType)} {bx rl : Nat → Nat} {ca : Nat → ClassId} {n E : Nat} {τ τ' : TS} {κ κ' : Nat → Option Nat} {tk : Nat → Int32} {h : Nat → Option va_E} {own : String}
theorem c_getE (hc : CallFix p m c cc nL s args (c0 :: WS) own) (hK : va_K D vcl tys s) (hx : CX bx rl ca tys n E) {index : Nat} (j : Nat) {v : Value} (hj : j < 8) (hv : (cw_e bx E τ κ)[j]? = some v) (hlink : Cond.fieldLink own index (T_E j).1 (T_E j).2.1 (T_E j).2.2.1 ∈ WS) (hdg : decode cc pc = .ok (.getfield index, 3)) (hp : pc + 3 = pc') (kk : AW p l e R s m args below meth c D vcl A nL Q (cw bx rl ca n E τ κ tk h) k nn pc' lv (v :: st)) : AW p l e R s m args below meth c D vcl A nL Q (cw bx rl ca n E τ κ tk h) k nn pc lv (.ref (bx 0) :: st) :=
  a_get hc hK (C := R_E) (T := T_E) (N := 8) (ci := 4) (fun w h => List.mem_cons_of_mem _ (in_E w h)) (cw_at hx.1 (by omega)) rfl j hj (hc.2.2.2.2 _ (List.mem_cons_of_mem _ hlink)) rfl hv hdg hp kk
theorem cw_z_eq (h2 : τ' 2 = τ 2) : cw_z E τ' = cw_z E τ := by
  funext d
  unfold cw_z
  rw [h2]
theorem cw_t_eq (h4 : τ' 4 = τ 4) : cw_t τ' = cw_t τ := by
  funext d
  unfold cw_t
  rw [h4]
theorem cw_d_eq (h1 : τ' 1 = τ 1) (h6 : τ' 6 = τ 6) : cw_d bx τ' = cw_d bx τ := by
  funext d
  unfold cw_d wrN
  rw [h1, h6]
theorem cw_others (hτ : τ' 1 = τ 1 ∧ τ' 2 = τ 2 ∧ τ' 4 = τ 4 ∧ τ' 6 = τ 6) (hκ : ∀ i, κ' (i + 1) = κ (i + 1)) : ∀ j, j ≠ 0 → cw_c bx ca n E τ' κ' tk j = cw_c bx ca n E τ κ tk j := by
  intro j hj
  match j, hj with
  | 1, _ => rfl
  | 2, _ => rfl
  | r + 3, _ =>
    have e0 : cw_d bx τ' (r / 4) = cw_d bx τ (r / 4) := by rw [cw_d_eq hτ.1 hτ.2.2.2]
    have e1 : cw_z E τ' (r / 4) = cw_z E τ (r / 4) := by rw [cw_z_eq hτ.2.1]
    have e2 : cw_k κ' (r / 4) = cw_k κ (r / 4) := by
      funext i
      have : 1 + 3 * (r / 4) + i = (3 * (r / 4) + i) + 1 := by omega
      unfold cw_k
      rw [this, hκ]
    have e3 : cw_t τ' (r / 4) = cw_t τ (r / 4) := by rw [cw_t_eq hτ.2.2.1]
    show cw_r bx ca E τ' κ' (r / 4) (r % 4) = cw_r bx ca E τ κ (r / 4) (r % 4)
    unfold cw_r
    rw [e0, e1, e2, e3]
theorem c_putE (hc : CallFix p m c cc nL s args (c0 :: WS) own) (hK : va_K D vcl tys s) (hx : CX bx rl ca tys n E) {index : Nat} (j : Nat) {v : Value} (hj : j < 8) (hs : cw_e bx E τ' κ' = (cw_e bx E τ κ).set j v) (hτ : τ' 1 = τ 1 ∧ τ' 2 = τ 2 ∧ τ' 4 = τ 4 ∧ τ' 6 = τ 6) (hκ : ∀ i, κ' (i + 1) = κ (i + 1)) (hfin : (T_E j).2.2.2 = false) (hn : narrow (ty_E j) v = v) (hfit : fits (ty_E j) v = true) (hlink : Cond.fieldLink own index (T_E j).1 (T_E j).2.1 (T_E j).2.2.1 ∈ WS) (hdg : decode cc pc = .ok (.putfield index, 3)) (hp : pc + 3 = pc') (kk : AW p l e R s m args below meth c D vcl A nL Q (cw bx rl ca n E τ' κ' tk h) k nn pc' lv st) : AW p l e R s m args below meth c D vcl A nL Q (cw bx rl ca n E τ κ tk h) k nn pc lv (v :: .ref (bx 0) :: st) := by
  refine a_put hc hK (C := R_E) (T := T_E) (N := 8) (ci := 4) (fs := cw_e bx E τ κ) (fun w h => List.mem_cons_of_mem _ (in_E w h)) ty_E ty_E_ok nm_E (cw_at hx.1 (by omega)) rfl j hj (hc.2.2.2.2 _ (List.mem_cons_of_mem _ hlink)) rfl (Or.inl hfin) hn hfit hj hdg hp (AW.to ?_ rfl rfl kk)
  exact cw_up hx.1 (by omega) (by show (Sum.inr (4, cw_e bx E τ' κ') : va_E) = _; rw [hs]) (fun j _ hj => cw_others hτ hκ j hj)
theorem c_ald (hc : CallFix p m c cc nL s args (c0 :: WS) own) (hK : va_K D vcl tys s) (hx : CX bx rl ca tys n E) (d : Nat) (hd : d < n) (hdg : decode cc pc = .ok (.aaload, 1)) (hp : pc + 1 = pc') (kk : AW p l e R s m args below meth c D vcl A nL Q (cw bx rl ca n E τ κ tk h) k nn pc' lv (.ref (bx (3 + 4 * d)) :: st)) : AW p l e R s m args below meth c D vcl A nL Q (cw bx rl ca n E τ κ tk h) k nn pc lv (.int (nI d) :: .ref (bx 1) :: st) := by
  obtain ⟨hn2, hn5⟩ := hx.2.2.1
  refine a_aald hc hK (N := n) (g := cw_n n bx) 2 (cw_at hx.1 (by omega)) hx.2.1.2.2.1 (vp_in_nI hd (by omega)) hdg hp ?_
  rw [nI_clamp (by omega), cw_n, if_pos hd]
  exact kk
theorem c_dlen (hc : CallFix p m c cc nL s args (c0 :: WS) own) (hK : va_K D vcl tys s) (hx : CX bx rl ca tys n E) (hdg : decode cc pc = .ok (.arraylength, 1)) (hp : pc + 1 = pc') (kk : AW p l e R s m args below meth c D vcl A nL Q (cw bx rl ca n E τ κ tk h) k nn pc' lv (.int (nI n) :: st)) : AW p l e R s m args below meth c D vcl A nL Q (cw bx rl ca n E τ κ tk h) k nn pc lv (.ref (bx 1) :: st) :=
  a_alen hc hK (x := (n, .inr (.inr (.inr (.inr (cw_n n bx)))))) 2 (cw_at hx.1 (by omega)) hx.2.1.2.2.1 hdg hp kk
theorem cw_d0 {d : Nat} (hx : CX bx rl ca tys n E) (hd : d < n) : cw bx rl ca n E τ κ tk h (bx (3 + 4 * d)) = some (.inr (1, cw_d bx τ d)) := (cw_at hx.1 (by omega)).trans (by rw [show 3 + 4 * d = 3 + 0 + 4 * d by omega, cw_cd 0 d (by decide)]; rfl)
theorem cw_d1 {d : Nat} (hx : CX bx rl ca tys n E) (hd : d < n) : cw bx rl ca n E τ κ tk h (bx (4 + 4 * d)) = some (.inl (ca 0, 4 * E, .inl (cw_z E τ d))) := (cw_at hx.1 (by omega)).trans (by rw [show 4 + 4 * d = 3 + 1 + 4 * d by omega, cw_cd 1 d (by decide)]; rfl)
theorem cw_d2 {d : Nat} (hx : CX bx rl ca tys n E) (hd : d < n) : cw bx rl ca n E τ κ tk h (bx (5 + 4 * d)) = some (.inl (ca 3, 3, .inr (.inr (.inr (.inr (cw_k κ d)))))) := (cw_at hx.1 (by omega)).trans (by rw [show 5 + 4 * d = 3 + 2 + 4 * d by omega, cw_cd 2 d (by decide)]; rfl)
theorem cw_d3 {d : Nat} (hx : CX bx rl ca tys n E) (hd : d < n) : cw bx rl ca n E τ κ tk h (bx (6 + 4 * d)) = some (.inl (ca 1, 3, .inl (cw_t τ d))) := (cw_at hx.1 (by omega)).trans (by rw [show 6 + 4 * d = 3 + 3 + 4 * d by omega, cw_cd 3 d (by decide)]; rfl)
theorem c_getD (hc : CallFix p m c cc nL s args (c0 :: WS) own) (hK : va_K D vcl tys s) (hx : CX bx rl ca tys n E) {index : Nat} (d j : Nat) {v : Value} (hd : d < n) (hj : j < 5) (hv : (cw_d bx τ d)[j]? = some v) (hlink : Cond.fieldLink own index (T_D j).1 (T_D j).2.1 (T_D j).2.2.1 ∈ WS) (hdg : decode cc pc = .ok (.getfield index, 3)) (hp : pc + 3 = pc') (kk : AW p l e R s m args below meth c D vcl A nL Q (cw bx rl ca n E τ κ tk h) k nn pc' lv (v :: st)) : AW p l e R s m args below meth c D vcl A nL Q (cw bx rl ca n E τ κ tk h) k nn pc lv (.ref (bx (3 + 4 * d)) :: st) :=
  a_get hc hK (C := R_D) (T := T_D) (N := 5) (ci := 1) (fun w h => List.mem_cons_of_mem _ (in_D w h)) (cw_d0 hx hd) rfl j hj (hc.2.2.2.2 _ (List.mem_cons_of_mem _ hlink)) rfl hv hdg hp kk
theorem c_getH (hc : CallFix p m c cc nL s args (c0 :: WS) own) (hK : va_K D vcl tys s) {index a ci N : Nat} {C : String} {T : u_T} {fs : List Value} (hin : ∀ w ∈ u_ws C T N, w ∈ WS) (hci : vcl[ci]? = some (C, T, N)) (hd : HD bx n h) (ha : h a = some (.inr (ci, fs))) (j : Nat) {v : Value} (hj : j < N) (hv : fs[j]? = some v) (hlink : Cond.fieldLink own index (T j).1 (T j).2.1 (T j).2.2.1 ∈ WS) (hdg : decode cc pc = .ok (.getfield index, 3)) (hp : pc + 3 = pc') (kk : AW p l e R s m args below meth c D vcl A nL Q (cw bx rl ca n E τ κ tk h) k nn pc' lv (v :: st)) : AW p l e R s m args below meth c D vcl A nL Q (cw bx rl ca n E τ κ tk h) k nn pc lv (.ref a :: st) :=
  a_get hc hK (fun w h => List.mem_cons_of_mem _ (hin w h)) (cw_h hd ha) hci j hj (hc.2.2.2.2 _ (List.mem_cons_of_mem _ hlink)) rfl hv hdg hp kk
theorem c_kald (hc : CallFix p m c cc nL s args (c0 :: WS) own) (hK : va_K D vcl tys s) (hx : CX bx rl ca tys n E) (d i : Nat) (hd : d < n) (hi : i < 3) (hdg : decode cc pc = .ok (.aaload, 1)) (hp : pc + 1 = pc') (kk : AW p l e R s m args below meth c D vcl A nL Q (cw bx rl ca n E τ κ tk h) k nn pc' lv (va_rf (κ (1 + 3 * d + i)) :: st)) : AW p l e R s m args below meth c D vcl A nL Q (cw bx rl ca n E τ κ tk h) k nn pc lv (.int (nI i) :: .ref (bx (5 + 4 * d)) :: st) := by
  refine a_aald hc hK (N := 3) (g := cw_k κ d) 3 (cw_d2 hx hd) hx.2.1.2.2.2.1 (vp_in_nI hi (by decide)) hdg hp ?_
  rw [nI_clamp (by omega), cw_k, if_pos hi]
  exact kk
theorem c_cald (hc : CallFix p m c cc nL s args (c0 :: WS) own) (hK : va_K D vcl tys s) (hx : CX bx rl ca tys n E) (d i : Nat) (hd : d < n) (hi : i < 4 * E) (hdg : decode cc pc = .ok (.iaload, 1)) (hp : pc + 1 = pc') (kk : AW p l e R s m args below meth c D vcl A nL Q (cw bx rl ca n E τ κ tk h) k nn pc' lv (.int (τ 2 (64 * d + i)) :: st)) : AW p l e R s m args below meth c D vcl A nL Q (cw bx rl ca n E τ κ tk h) k nn pc lv (.int (nI i) :: .ref (bx (4 + 4 * d)) :: st) := by
  obtain ⟨hE2, hE10⟩ := hx.2.2.2
  refine a_iald hc hK (N := 4 * E) (g := cw_z E τ d) 0 (cw_d1 hx hd) hx.2.1.1 (vp_in_nI hi (by omega)) hdg hp ?_
  rw [nI_clamp (by omega), cw_z, if_pos hi]
  exact kk
theorem c_tald (hc : CallFix p m c cc nL s args (c0 :: WS) own) (hK : va_K D vcl tys s) (hx : CX bx rl ca tys n E) (d i : Nat) (hd : d < n) (hi : i < 3) (hdg : decode cc pc = .ok (.baload, 1)) (hp : pc + 1 = pc') (kk : AW p l e R s m args below meth c D vcl A nL Q (cw bx rl ca n E τ κ tk h) k nn pc' lv (.int (bI (decide (τ 4 (3 * d + i) = -11))) :: st)) : AW p l e R s m args below meth c D vcl A nL Q (cw bx rl ca n E τ κ tk h) k nn pc lv (.int (nI i) :: .ref (bx (6 + 4 * d)) :: st) := by
  refine a_zald hc hK (N := 3) (g := cw_t τ d) 1 (cw_d3 hx hd) hx.2.1.2.1 (vp_in_nI hi (by decide)) hdg hp ?_
  rw [nI_clamp (by omega), cw_t, if_pos hi]
  exact kk
theorem c_mald (hc : CallFix p m c cc nL s args (c0 :: WS) own) (hK : va_K D vcl tys s) (hx : CX bx rl ca tys n E) (d : Nat) (hd : d < n) (hdg : decode cc pc = .ok (.iaload, 1)) (hp : pc + 1 = pc') (kk : AW p l e R s m args below meth c D vcl A nL Q (cw bx rl ca n E τ κ tk h) k nn pc' lv (.int (tk d) :: st)) : AW p l e R s m args below meth c D vcl A nL Q (cw bx rl ca n E τ κ tk h) k nn pc lv (.int (nI d) :: .ref (bx 2) :: st) := by
  obtain ⟨hn2, hn5⟩ := hx.2.2.1
  refine a_iald hc hK (N := n) (g := tk) 0 (cw_at hx.1 (by omega)) hx.2.1.1 (vp_in_nI hd (by omega)) hdg hp ?_
  rw [nI_clamp (by omega)]
  exact kk
end CRS
end
section
/-! Rows that store into the class's skeleton, and rows over what is never changed. -/
section CRT
variable {p : Program} {l : Launch} {e : Env} {R : Room} {s : State} {m : MethodId} {args : Array Value} {below : List Frame} {meth : Method} {c : Code} {D : va_G} {A : Nat → Prop} {nL : Nat} {Q : State → Prop}
variable {k nn pc pc' : Nat} {lv : List (Option Value)} {st : List Value} {cc : ByteArray} {c0 : Cond} {tys : List (ClassId × FieldType)} {bx rl : Nat → Nat} {ca : Nat → ClassId} {n E : Nat} {τ τ' : TS} {κ κ' : Nat → Option Nat} {tk : Nat → Int32} {h : Nat → Option va_E} {own : String}
theorem cw_oth0 {d : Nat} (he : cw_e bx E τ' κ' = cw_e bx E τ κ) (hoth : ∀ d' r', r' < 4 → (d' ≠ d ∨ r' ≠ 0) → cw_r bx ca E τ' κ' d' r' = cw_r bx ca E τ κ d' r') : ∀ j, j < 3 + 4 * n → j ≠ 3 + 4 * d → cw_c bx ca n E τ' κ' tk j = cw_c bx ca n E τ κ tk j := by
  intro j hj hne
  match j, hj, hne with
  | 0, _, _ => show (Sum.inr (4, cw_e bx E τ' κ') : va_E) = _; rw [he]; rfl
  | 1, _, _ => rfl
  | 2, _, _ => rfl
  | q + 3, hj, hne => exact hoth (q / 4) (q % 4) (by omega) (by omega)
theorem cw_c0 (d : Nat) : cw_c bx ca n E τ κ tk (3 + 4 * d) = .inr (1, cw_d bx τ d) := by
  have h1 := cw_cd (bx := bx) (ca := ca) (n := n) (E := E) (τ := τ) (κ := κ) (tk := tk) 0 d (by decide)
  have e1 : 3 + 0 + 4 * d = 3 + 4 * d := by omega
  rw [e1] at h1
  exact h1
theorem cw_oth {d r : Nat} (hr : r < 4) (he : cw_e bx E τ' κ' = cw_e bx E τ κ) (hoth : ∀ d' r', r' < 4 → (d' ≠ d ∨ r' ≠ r) → cw_r bx ca E τ' κ' d' r' = cw_r bx ca E τ κ d' r') : ∀ j, j < 3 + 4 * n → j ≠ 3 + r + 4 * d → cw_c bx ca n E τ' κ' tk j = cw_c bx ca n E τ κ tk j := by
  intro j hj hne
  match j, hj, hne with
  | 0, _, _ => show (Sum.inr (4, cw_e bx E τ' κ') : va_E) = _; rw [he]; rfl
  | 1, _, _ => rfl
  | 2, _, _ => rfl
  | q + 3, hj, hne => exact hoth (q / 4) (q % 4) (by omega) (by omega)
theorem cw_r_of (h0 : cw_d bx τ' = cw_d bx τ) (h1 : cw_z E τ' = cw_z E τ) (h2 : cw_k κ' = cw_k κ) (h3 : cw_t τ' = cw_t τ) (d r : Nat) : cw_r bx ca E τ' κ' d r = cw_r bx ca E τ κ d r := by
  unfold cw_r
  rw [h0, h1, h2, h3]
/-- a cell of a disk -/
theorem c_cast (hc : CallFix p m c cc nL s args (c0 :: WS) own) (hK : va_K D vcl tys s) (hx : CX bx rl ca tys n E) (d i : Nat) {v : Int32} (hd : d < n) (hi : i < 4 * E) (hdg : decode cc pc = .ok (.iastore, 1)) (hp : pc + 1 = pc') (kk : AW p l e R s m args below meth c D vcl A nL Q (cw bx rl ca n E (ts τ 2 (64 * d + i) v) κ tk h) k nn pc' lv st) : AW p l e R s m args below meth c D vcl A nL Q (cw bx rl ca n E τ κ tk h) k nn pc lv (.int v :: .int (nI i) :: .ref (bx (4 + 4 * d)) :: st) := by
  obtain ⟨hE2, hE10⟩ := hx.2.2.2
  refine a_iast hc hK (N := 4 * E) (g := cw_z E τ d) 0 (cw_d1 hx hd) hx.2.1.1 (vp_in_nI hi (by omega)) hdg hp ?_
  rw [nI_clamp (by omega)]
  refine AW.to ?_ rfl rfl kk
  have e1 : 4 + 4 * d = 3 + 1 + 4 * d := by omega
  have hz : cw_z E (ts τ 2 (64 * d + i) v) d = upd (cw_z E τ d) i v := by
    funext j
    by_cases hj : j = i
    · subst hj
      rw [pk_us, cw_z, if_pos hi, ts_at]
    · rw [pk_un hj]
      unfold cw_z
      split
      · rw [ts_off (by omega)]
      · rfl
  rw [e1]
  refine cw_up hx.1 (by omega) (by rw [cw_cd 1 d (by decide)]; show (Sum.inl (ca 0, 4 * E, .inl (cw_z E (ts τ 2 (64 * d + i) v) d)) : va_E) = _; rw [hz]) (cw_oth (by decide) ?_ ?_)
  · simp only [cw_e, acI, ts_ne (show (0 : Nat) ≠ 2 by decide)]
  · intro d' r' hr' hne
    match r', hr', hne with
    | 0, _, _ => simp only [cw_r, cw_d_eq (bx := bx) (ts_ne (τ := τ) (show (1 : Nat) ≠ 2 by decide)) (ts_ne (τ := τ) (show (6 : Nat) ≠ 2 by decide))]
    | 1, _, hne =>
      have hz2 : cw_z E (ts τ 2 (64 * d + i) v) d' = cw_z E τ d' := by
        funext j
        unfold cw_z
        split
        · rw [ts_off (by omega)]
        · rfl
      simp only [cw_r, hz2]
    | 2, _, _ => rfl
    | 3, _, _ => simp only [cw_r, cw_t_eq (ts_ne (τ := τ) (show (4 : Nat) ≠ 2 by decide))]
/-- a slot of a disk -/
theorem c_kup {d i : Nat} {x : Option Nat} (hx : CX bx rl ca tys n E) (hd : d < n) (hi : i < 3) : cw bx rl ca n E τ (va_up κ (1 + 3 * d + i) x) tk h = va_up (cw bx rl ca n E τ κ tk h) (bx (5 + 4 * d)) (some (.inl (ca 3, 3, .inr (.inr (.inr (.inr (va_up (cw_k κ d) i x))))))) := by
  have e1 : 5 + 4 * d = 3 + 2 + 4 * d := by omega
  have hz : cw_k (va_up κ (1 + 3 * d + i) x) d = va_up (cw_k κ d) i x := by
    funext j
    by_cases hj : j = i
    · subst hj
      rw [va_up_self, cw_k, if_pos hi, va_up_self]
    · rw [va_up_ne _ _ hj]
      unfold cw_k
      split
      · rw [va_up_ne _ _ (by omega)]
      · rfl
  rw [e1]
  refine cw_up hx.1 (by omega) (by rw [cw_cd 2 d (by decide)]; show (Sum.inl (ca 3, 3, .inr (.inr (.inr (.inr (cw_k (va_up κ (1 + 3 * d + i) x) d))))) : va_E) = _; rw [hz]) (cw_oth (by decide) ?_ ?_)
  · simp only [cw_e, va_up_ne κ x (show (0 : Nat) ≠ 1 + 3 * d + i by omega)]
  · intro d' r' hr' hne
    match r', hr', hne with
    | 0, _, _ => rfl
    | 1, _, _ => rfl
    | 2, _, hne =>
      have hz2 : cw_k (va_up κ (1 + 3 * d + i) x) d' = cw_k κ d' := by
        funext j
        unfold cw_k
        split
        · rw [va_up_ne _ _ (by omega)]
        · rfl
      simp only [cw_r, hz2]
    | 3, _, _ => rfl
theorem c_kast (hc : CallFix p m c cc nL s args (c0 :: WS) own) (hK : va_K D vcl tys s) (hx : CX bx rl ca tys n E) (hh : HD bx n h) (d i : Nat) {a : Nat} {fs : List Value} (ha : h a = some (.inr (0, fs))) (hd : d < n) (hi : i < 3) (hdg : decode cc pc = .ok (.aastore, 1)) (hp : pc + 1 = pc') (kk : AW p l e R s m args below meth c D vcl A nL Q (cw bx rl ca n E τ (va_up κ (1 + 3 * d + i) (some a)) tk h) k nn pc' lv st) : AW p l e R s m args below meth c D vcl A nL Q (cw bx rl ca n E τ κ tk h) k nn pc lv (.ref a :: .int (nI i) :: .ref (bx (5 + 4 * d)) :: st) := by
  refine a_aast hc hK (N := 3) (g := cw_k κ d) (r := (R_C, T_C, 3)) 3 (cw_d2 hx hd) hx.2.1.2.2.2.1 (cw_h hh ha) rfl (vp_in_nI hi (by decide)) hdg hp ?_
  rw [nI_clamp (by omega)]
  exact AW.to (c_kup hx hd hi) rfl rfl kk
theorem c_kastN (hc : CallFix p m c cc nL s args (c0 :: WS) own) (hK : va_K D vcl tys s) (hx : CX bx rl ca tys n E) (d i : Nat) (hd : d < n) (hi : i < 3) (hdg : decode cc pc = .ok (.aastore, 1)) (hp : pc + 1 = pc') (kk : AW p l e R s m args below meth c D vcl A nL Q (cw bx rl ca n E τ (va_up κ (1 + 3 * d + i) none) tk h) k nn pc' lv st) : AW p l e R s m args below meth c D vcl A nL Q (cw bx rl ca n E τ κ tk h) k nn pc lv (.null :: .int (nI i) :: .ref (bx (5 + 4 * d)) :: st) := by
  refine a_aastN hc hK (N := 3) (g := cw_k κ d) 3 (cw_d2 hx hd) hx.2.1.2.2.2.1 (vp_in_nI hi (by decide)) hdg hp ?_
  rw [nI_clamp (by omega)]
  exact AW.to (c_kup hx hd hi) rfl rfl kk
/-- whether a slot is torn: any number that is, or isn't, TORN -/
theorem c_tast (hc : CallFix p m c cc nL s args (c0 :: WS) own) (hK : va_K D vcl tys s) (hx : CX bx rl ca tys n E) (d i : Nat) {x v : Int32} (hv : bI (decide (x = -11)) = v) (hd : d < n) (hi : i < 3) (hdg : decode cc pc = .ok (.bastore, 1)) (hp : pc + 1 = pc') (kk : AW p l e R s m args below meth c D vcl A nL Q (cw bx rl ca n E (ts τ 4 (3 * d + i) x) κ tk h) k nn pc' lv st) : AW p l e R s m args below meth c D vcl A nL Q (cw bx rl ca n E τ κ tk h) k nn pc lv (.int v :: .int (nI i) :: .ref (bx (6 + 4 * d)) :: st) := by
  subst hv
  refine a_zast hc hK (N := 3) (g := cw_t τ d) 1 (cw_d3 hx hd) hx.2.1.2.1 (bI_or _) (vp_in_nI hi (by decide)) hdg hp ?_
  rw [nI_clamp (by omega)]
  refine AW.to ?_ rfl rfl kk
  have e1 : 6 + 4 * d = 3 + 3 + 4 * d := by omega
  have hz : cw_t (ts τ 4 (3 * d + i) x) d = upd (cw_t τ d) i (bI (decide (x = -11))) := by
    funext j
    by_cases hj : j = i
    · subst hj
      rw [pk_us, cw_t, if_pos hi, ts_at]
    · rw [pk_un hj]
      unfold cw_t
      split
      · rw [ts_off (by omega)]
      · rfl
  rw [e1]
  refine cw_up hx.1 (by omega) (by rw [cw_cd 3 d (by decide)]; show (Sum.inl (ca 1, 3, .inl (cw_t (ts τ 4 (3 * d + i) x) d)) : va_E) = _; rw [hz]) (cw_oth (by decide) ?_ ?_)
  · simp only [cw_e, acI, ts_ne (show (0 : Nat) ≠ 4 by decide)]
  · intro d' r' hr' hne
    match r', hr', hne with
    | 0, _, _ => simp only [cw_r, cw_d_eq (bx := bx) (ts_ne (τ := τ) (show (1 : Nat) ≠ 4 by decide)) (ts_ne (τ := τ) (show (6 : Nat) ≠ 4 by decide))]
    | 1, _, _ => simp only [cw_r, cw_z_eq (E := E) (ts_ne (τ := τ) (show (2 : Nat) ≠ 4 by decide))]
    | 2, _, _ => rfl
    | 3, _, hne =>
      have hz2 : cw_t (ts τ 4 (3 * d + i) x) d' = cw_t τ d' := by
        funext j
        unfold cw_t
        split
        · rw [ts_off (by omega)]
        · rfl
      simp only [cw_r, hz2]
/-- a disk's own fields: the next slot (row 6), presence (row 1) -/
theorem cw_e_eq (h0 : τ' 0 = τ 0) : cw_e bx E τ' κ = cw_e bx E τ κ := by
  unfold cw_e acI
  rw [h0]
theorem cw_r0 (d' : Nat) : cw_r bx ca E τ κ d' 0 = .inr (1, cw_d bx τ d') := rfl
theorem cw_r1 (d' : Nat) : cw_r bx ca E τ κ d' 1 = .inl (ca 0, 4 * E, .inl (cw_z E τ d')) := rfl
theorem cw_r2 (d' : Nat) : cw_r bx ca E τ κ d' 2 = .inl (ca 3, 3, .inr (.inr (.inr (.inr (cw_k κ d'))))) := rfl
theorem cw_r3 (d' : Nat) : cw_r bx ca E τ κ d' 3 = .inl (ca 1, 3, .inl (cw_t τ d')) := rfl
theorem cw_q0 {d' : Nat} (h0 : cw_d bx τ' d' = cw_d bx τ d') : cw_r bx ca E τ' κ d' 0 = cw_r bx ca E τ κ d' 0 := by rw [cw_r0, cw_r0, h0]
theorem cw_q1 {d' : Nat} (h2 : cw_z E τ' d' = cw_z E τ d') : cw_r bx ca E τ' κ d' 1 = cw_r bx ca E τ κ d' 1 := by rw [cw_r1, cw_r1, h2]
theorem cw_q2 {d' : Nat} : cw_r bx ca E τ' κ d' 2 = cw_r bx ca E τ κ d' 2 := by rw [cw_r2, cw_r2]
theorem cw_q3 {d' : Nat} (h4 : cw_t τ' d' = cw_t τ d') : cw_r bx ca E τ' κ d' 3 = cw_r bx ca E τ κ d' 3 := by rw [cw_r3, cw_r3, h4]
theorem lt4 {r : Nat} (h : r < 4) : r = 0 ∨ r = 1 ∨ r = 2 ∨ r = 3 := by omega
theorem cw_putD1 {d : Nat} (ho : ∀ d', d' ≠ d → cw_d bx τ' d' = cw_d bx τ d') (h2 : τ' 2 = τ 2) (h4 : τ' 4 = τ 4) (d' r' : Nat) (hr' : r' < 4) (hne : d' ≠ d ∨ r' ≠ 0) : cw_r bx ca E τ' κ d' r' = cw_r bx ca E τ κ d' r' := by
  rcases lt4 hr' with rfl | rfl | rfl | rfl
  · exact cw_q0 (ho d' (hne.resolve_right (fun q => q rfl)))
  · exact cw_q1 (congrFun (cw_z_eq h2) d')
  · exact cw_q2
  · exact cw_q3 (congrFun (cw_t_eq h4) d')
theorem cw_putD {d j : Nat} {v : Value} (hx : CX bx rl ca tys n E) (hd : d < n) (hs : cw_d bx τ' d = (cw_d bx τ d).set j v) (ho : ∀ d', d' ≠ d → cw_d bx τ' d' = cw_d bx τ d') (hτ : τ' 0 = τ 0 ∧ τ' 2 = τ 2 ∧ τ' 4 = τ 4) : cw bx rl ca n E τ' κ tk h = va_up (cw bx rl ca n E τ κ tk h) (bx (3 + 4 * d)) (some (.inr (1, (cw_d bx τ d).set j v))) := by
  have hc := cw_c0 (bx := bx) (ca := ca) (n := n) (E := E) (τ := τ') (κ := κ) (tk := tk) d
  rw [hs] at hc
  exact cw_up hx.1 (by omega) hc (cw_oth0 (cw_e_eq hτ.1) (cw_putD1 ho hτ.2.1 hτ.2.2))
theorem c_putD (hc : CallFix p m c cc nL s args (c0 :: WS) own) (hK : va_K D vcl tys s) (hx : CX bx rl ca tys n E) {index : Nat} (d j : Nat) {v : Value} (hd : d < n) (hj : j < 5) (hs : cw_d bx τ' d = (cw_d bx τ d).set j v) (ho : ∀ d', d' ≠ d → cw_d bx τ' d' = cw_d bx τ d') (hτ : τ' 0 = τ 0 ∧ τ' 2 = τ 2 ∧ τ' 4 = τ 4) (hfin : (T_D j).2.2.2 = false) (hn : narrow (ty_D j) v = v) (hfit : fits (ty_D j) v = true) (hlink : Cond.fieldLink own index (T_D j).1 (T_D j).2.1 (T_D j).2.2.1 ∈ WS) (hdg : decode cc pc = .ok (.putfield index, 3)) (hp : pc + 3 = pc') (kk : AW p l e R s m args below meth c D vcl A nL Q (cw bx rl ca n E τ' κ tk h) k nn pc' lv st) : AW p l e R s m args below meth c D vcl A nL Q (cw bx rl ca n E τ κ tk h) k nn pc lv (v :: .ref (bx (3 + 4 * d)) :: st) :=
  a_put hc hK (C := R_D) (T := T_D) (N := 5) (ci := 1) (fs := cw_d bx τ d) (fun w h => List.mem_cons_of_mem _ (in_D w h)) ty_D ty_D_ok nm_D (cw_d0 hx hd) rfl j hj (hc.2.2.2.2 _ (List.mem_cons_of_mem _ hlink)) rfl (Or.inl hfin) hn hfit hj hdg hp (AW.to (cw_putD hx hd hs ho hτ) rfl rfl kk)
/-- a disk's marks -/
theorem c_mast (hc : CallFix p m c cc nL s args (c0 :: WS) own) (hK : va_K D vcl tys s) (hx : CX bx rl ca tys n E) (d : Nat) {v : Int32} (hd : d < n) (hdg : decode cc pc = .ok (.iastore, 1)) (hp : pc + 1 = pc') (kk : AW p l e R s m args below meth c D vcl A nL Q (cw bx rl ca n E τ κ (upd tk d v) h) k nn pc' lv st) : AW p l e R s m args below meth c D vcl A nL Q (cw bx rl ca n E τ κ tk h) k nn pc lv (.int v :: .int (nI d) :: .ref (bx 2) :: st) := by
  obtain ⟨hn2, hn5⟩ := hx.2.2.1
  refine a_iast hc hK (N := n) (g := tk) 0 (cw_at hx.1 (by omega)) hx.2.1.1 (vp_in_nI hd (by omega)) hdg hp ?_
  rw [nI_clamp (by omega)]
  refine AW.to ?_ rfl rfl kk
  refine cw_up hx.1 (by omega) rfl (fun j _ hj => ?_)
  match j, hj with
  | 0, _ => rfl
  | 1, _ => rfl
  | r + 3, _ => rfl
end CRT
end
section
/-! Contracts of the class's methods that make nothing, their calls and ends. -/
def CC (l : Launch) (y : MethodName) (bytes : ByteArray) (maxL : Nat) (ret : Option FieldType) (k : Nat) (D : va_G) (tys : List (ClassId × FieldType)) (A : Nat → Prop) (f : Nat → Option va_E) (As : List Value) (v : Option Value) (f1 : Nat → Option va_E) : Prop :=
  CT l y (Cond.code y bytes maxL ret :: WS) (rk k) D vcl tys A f As (fun v' f' => v' = v ∧ f' = f1) 0 0
theorem e_i {x X : Int32} {f f1 : Nat → Option va_E} (h1 : x = X) (h2 : f = f1) : some (Value.int x) = some (Value.int X) ∧ f = f1 := ⟨by rw [h1], h2⟩
theorem e_r {x X : Option Nat} {f f1 : Nat → Option va_E} (h1 : x = X) (h2 : f = f1) : some (va_rf x) = some (va_rf X) ∧ f = f1 := ⟨by rw [h1], h2⟩
theorem e_v {f f1 : Nat → Option va_E} (h2 : f = f1) : (none : Option Value) = none ∧ f = f1 := ⟨rfl, h2⟩
section CRC
variable {p : Program} {l : Launch} {e : Env} {R : Room} {s : State} {m : MethodId} {args : Array Value} {below : List Frame} {meth : Method} {c : Code} {D : va_G} {A : Nat → Prop} {nL : Nat} {Q : State → Prop}
variable {k kc nn pc pc' : Nat} {lv : List (Option Value)} {st : List Value} {cc : ByteArray} {c0 : Cond} {tys : List (ClassId × FieldType)} {own : String} {f f1 : Nat → Option va_E}
theorem CC.of {y : MethodName} {maxL : Nat} {ret : Option FieldType} {As : List Value} {v : Option Value} (ho : y.cls = own) (hpl : plainName own = true) (hlen : (lg_sl As).length ≤ maxL) (hcat : ∀ v ∈ As, v.category = 1)
    (body : ∀ (p : Program) (e : Env) (s : State) (m : MethodId) (args : Array Value) (below : List Frame) (meth : Method) (c : Code), CallFix p m c cc maxL s args (Cond.code y cc maxL ret :: WS) own → va_K D vcl tys s → AO3 s → meth.sig.returnType = ret → meth.locks = false → (∀ q : Nat, s.heap.size ≤ q → A q) →
      AW p l e (rk k) s m args below meth c D vcl A maxL (MQ below (CQ D vcl A (fun v' f' => v' = v ∧ f' = f1)) args s 0 0 A) f 0 0 0 (al_in As maxL) []) : CC l y cc maxL ret k D tys A f As v f1 :=
  CT.ofAW (by rw [ho]; exact hpl) rfl hlen hcat (fun p e s m args below meth c hc hK hO hr hk _ hA => body p e s m args below meth c (by rw [ho] at hc; exact hc) hK hO hr hk hA)
theorem c_call (hc : CallFix p m c cc nL s args (c0 :: WS) own) (hK : va_K D vcl tys s) (hO : AO3 s) (hA : ∀ q : Nat, s.heap.size ≤ q → A q) {y : MethodName} {bytes : ByteArray} {maxL : Nat} {ret : Option FieldType} {k1 nA index ci kn : Nat} {C : String} {r : vw_C} {fs : List Value} (b : Nat) (As rest : List Value) {v : Option Value}
    (hM : CC l y bytes maxL ret k1 D tys A f (.ref b :: As) v f1) (hml : (Cond.methodLink own index y ∈ WS ∧ Cond.code y bytes maxL ret ∈ WS ∧ Cond.initialized C ∈ WS) ∧ Cond.instanceMethod y ∈ WS ∧ Cond.selects C y y ∈ WS)
    (hd : y.cls = C ∧ y.cls ≠ "java/lang/invoke/MethodHandle" ∧ y.cls ≠ "java/lang/invoke/VarHandle" ∧ (parseMethodDescriptor y.desc).map (fun d => d.parameters.length) = some nA) (hR : k1 + 1 ≤ R.frames ∧ 19 + maxL + 40 * k1 ≤ R.locals) (hn : As.length = nA) (hst : st = As.reverse ++ .ref b :: rest) (hW : (rest.map fun v => v.category).sum ≤ 8) (he : f b = some (.inr (ci, fs))) (hci : vcl[ci]? = some r) (hC : r.1 = C) (hdg : decode cc pc = .ok (.invokevirtual index, 3)) (hp : pc + 3 = pc') (hf0 : kc ≤ R.cells ∧ kn ≤ R.slots)
    (kk : AW p l e R s m args below meth c D vcl A nL Q f1 kc kn pc' lv (v.toList ++ rest)) : AW p l e R s m args below meth c D vcl A nL Q f kc kn pc lv st :=
  a_cV hc hK hO hA hM hml hd rfl rfl ⟨hR.1, by show 8 + (maxL + 11) + 40 * k1 ≤ R.locals; omega⟩ he hci hC hn hst hW hdg hp hf0 (fun v f' h => by obtain ⟨rfl, rfl⟩ := h; exact kk)
theorem c_calli (hc : CallFix p m c cc nL s args (c0 :: WS) own) (hK : va_K D vcl tys s) (hO : AO3 s) (hA : ∀ q : Nat, s.heap.size ≤ q → A q) {y : MethodName} {bytes : ByteArray} {maxL : Nat} {ret : Option FieldType} {k1 kR nA index ci : Nat} {C : String} {r : vw_C} {fs : List Value} (b : Nat) (As rest : List Value) {x : Int32}
    (hM : CC l y bytes maxL ret k1 D tys A f (.ref b :: As) (some (.int x)) f1) (hml : (Cond.methodLink own index y ∈ WS ∧ Cond.code y bytes maxL ret ∈ WS ∧ Cond.initialized C ∈ WS) ∧ Cond.instanceMethod y ∈ WS ∧ Cond.selects C y y ∈ WS)
    (hd : y.cls = C ∧ y.cls ≠ "java/lang/invoke/MethodHandle" ∧ y.cls ≠ "java/lang/invoke/VarHandle" ∧ (parseMethodDescriptor y.desc).map (fun d => d.parameters.length) = some nA) (hR : k1 + 1 ≤ kR ∧ maxL ≤ 21) (hn : As.length = nA) (hst : st = As.reverse ++ .ref b :: rest) (hW : (rest.map fun v => v.category).sum ≤ 8) (he : f b = some (.inr (ci, fs))) (hci : vcl[ci]? = some r) (hC : r.1 = C) (hdg : decode cc pc = .ok (.invokevirtual index, 3)) (hp : pc + 3 = pc')
    (kk : AW p l e (rk kR) s m args below meth c D vcl A nL Q f1 0 0 pc' lv (.int x :: rest)) : AW p l e (rk kR) s m args below meth c D vcl A nL Q f 0 0 pc lv st :=
  c_call hc hK hO hA b As rest hM hml hd ⟨hR.1, by show 19 + maxL + 40 * k1 ≤ 40 * kR; omega⟩ hn hst hW he hci hC hdg hp ⟨Nat.le_refl _, Nat.le_refl _⟩ kk
theorem c_callr (hc : CallFix p m c cc nL s args (c0 :: WS) own) (hK : va_K D vcl tys s) (hO : AO3 s) (hA : ∀ q : Nat, s.heap.size ≤ q → A q) {y : MethodName} {bytes : ByteArray} {maxL : Nat} {ret : Option FieldType} {k1 kR nA index ci : Nat} {C : String} {r : vw_C} {fs : List Value} (b : Nat) (As rest : List Value) {x : Value}
    (hM : CC l y bytes maxL ret k1 D tys A f (.ref b :: As) (some x) f1) (hml : (Cond.methodLink own index y ∈ WS ∧ Cond.code y bytes maxL ret ∈ WS ∧ Cond.initialized C ∈ WS) ∧ Cond.instanceMethod y ∈ WS ∧ Cond.selects C y y ∈ WS)
    (hd : y.cls = C ∧ y.cls ≠ "java/lang/invoke/MethodHandle" ∧ y.cls ≠ "java/lang/invoke/VarHandle" ∧ (parseMethodDescriptor y.desc).map (fun d => d.parameters.length) = some nA) (hR : k1 + 1 ≤ kR ∧ maxL ≤ 21) (hn : As.length = nA) (hst : st = As.reverse ++ .ref b :: rest) (hW : (rest.map fun v => v.category).sum ≤ 8) (he : f b = some (.inr (ci, fs))) (hci : vcl[ci]? = some r) (hC : r.1 = C) (hdg : decode cc pc = .ok (.invokevirtual index, 3)) (hp : pc + 3 = pc')
    (kk : AW p l e (rk kR) s m args below meth c D vcl A nL Q f1 0 0 pc' lv (x :: rest)) : AW p l e (rk kR) s m args below meth c D vcl A nL Q f 0 0 pc lv st :=
  c_call hc hK hO hA b As rest hM hml hd ⟨hR.1, by show 19 + maxL + 40 * k1 ≤ 40 * kR; omega⟩ hn hst hW he hci hC hdg hp ⟨Nat.le_refl _, Nat.le_refl _⟩ kk
theorem c_callv (hc : CallFix p m c cc nL s args (c0 :: WS) own) (hK : va_K D vcl tys s) (hO : AO3 s) (hA : ∀ q : Nat, s.heap.size ≤ q → A q) {y : MethodName} {bytes : ByteArray} {maxL : Nat} {ret : Option FieldType} {k1 kR nA index ci : Nat} {C : String} {r : vw_C} {fs : List Value} (b : Nat) (As rest : List Value)
    (hM : CC l y bytes maxL ret k1 D tys A f (.ref b :: As) none f1) (hml : (Cond.methodLink own index y ∈ WS ∧ Cond.code y bytes maxL ret ∈ WS ∧ Cond.initialized C ∈ WS) ∧ Cond.instanceMethod y ∈ WS ∧ Cond.selects C y y ∈ WS)
    (hd : y.cls = C ∧ y.cls ≠ "java/lang/invoke/MethodHandle" ∧ y.cls ≠ "java/lang/invoke/VarHandle" ∧ (parseMethodDescriptor y.desc).map (fun d => d.parameters.length) = some nA) (hR : k1 + 1 ≤ kR ∧ maxL ≤ 21) (hn : As.length = nA) (hst : st = As.reverse ++ .ref b :: rest) (hW : (rest.map fun v => v.category).sum ≤ 8) (he : f b = some (.inr (ci, fs))) (hci : vcl[ci]? = some r) (hC : r.1 = C) (hdg : decode cc pc = .ok (.invokevirtual index, 3)) (hp : pc + 3 = pc')
    (kk : AW p l e (rk kR) s m args below meth c D vcl A nL Q f1 0 0 pc' lv rest) : AW p l e (rk kR) s m args below meth c D vcl A nL Q f 0 0 pc lv st :=
  c_call hc hK hO hA b As rest hM hml hd ⟨hR.1, by show 19 + maxL + 40 * k1 ≤ 40 * kR; omega⟩ hn hst hW he hci hC hdg hp ⟨Nat.le_refl _, Nat.le_refl _⟩ kk
end CRC
section CRH
variable {p : Program} {l : Launch} {e : Env} {R : Room} {s : State} {m : MethodId} {args : Array Value} {below : List Frame} {meth : Method} {c : Code} {D : va_G} {A : Nat → Prop} {nL : Nat} {Q : State → Prop}
variable {k nn pc pc' : Nat} {lv : List (Option Value)} {st : List Value} {cc : ByteArray} {c0 : Cond} {tys : List (ClassId × FieldType)} {bx rl : Nat → Nat} {ca : Nat → ClassId} {n E : Nat} {τ : TS} {κ : Nat → Option Nat} {tk : Nat → Int32} {h : Nat → Option va_E} {own : String}
/-- arrays that are never changed: places, and volumes -/
theorem c_ialdH (hc : CallFix p m c cc nL s args (c0 :: WS) own) (hK : va_K D vcl tys s) (hx : CX bx rl ca tys n E) (hh : HD bx n h) {a N : Nat} {g : Nat → Int32} (ha : h a = some (.inl (ca 0, N, .inl g)) ∧ N < 2 ^ 31) (i : Nat) (hi : i < N) (hdg : decode cc pc = .ok (.iaload, 1)) (hp : pc + 1 = pc') (kk : AW p l e R s m args below meth c D vcl A nL Q (cw bx rl ca n E τ κ tk h) k nn pc' lv (.int (g i) :: st)) : AW p l e R s m args below meth c D vcl A nL Q (cw bx rl ca n E τ κ tk h) k nn pc lv (.int (nI i) :: .ref a :: st) := by
  refine a_iald hc hK (N := N) (g := g) 0 (cw_h hh ha.1) hx.2.1.1 (vp_in_nI hi ha.2) hdg hp ?_
  rw [nI_clamp (by have := ha.2; omega)]
  exact kk
theorem c_alenH (hc : CallFix p m c cc nL s args (c0 :: WS) own) (hK : va_K D vcl tys s) (hx : CX bx rl ca tys n E) (hh : HD bx n h) {a N : Nat} {g : Nat → Int32} (ha : h a = some (.inl (ca 0, N, .inl g)) ∧ N < 2 ^ 31) (hdg : decode cc pc = .ok (.arraylength, 1)) (hp : pc + 1 = pc') (kk : AW p l e R s m args below meth c D vcl A nL Q (cw bx rl ca n E τ κ tk h) k nn pc' lv (.int (nI N) :: st)) : AW p l e R s m args below meth c D vcl A nL Q (cw bx rl ca n E τ κ tk h) k nn pc lv (.ref a :: st) :=
  a_alen hc hK (x := (N, .inl g)) 0 (cw_h hh ha.1) hx.2.1.1 hdg hp kk
theorem c_aaldH (hc : CallFix p m c cc nL s args (c0 :: WS) own) (hK : va_K D vcl tys s) (hx : CX bx rl ca tys n E) (hh : HD bx n h) {a : Nat} {g : Nat → Option Nat} (ha : h a = some (.inl (ca 4, 4, .inr (.inr (.inr (.inr g)))))) (i : Nat) (hi : i < 4) (hdg : decode cc pc = .ok (.aaload, 1)) (hp : pc + 1 = pc') (kk : AW p l e R s m args below meth c D vcl A nL Q (cw bx rl ca n E τ κ tk h) k nn pc' lv (va_rf (g i) :: st)) : AW p l e R s m args below meth c D vcl A nL Q (cw bx rl ca n E τ κ tk h) k nn pc lv (.int (nI i) :: .ref a :: st) := by
  refine a_aald hc hK (N := 4) (g := g) 4 (cw_h hh ha) hx.2.1.2.2.2.2 (vp_in_nI hi (by decide)) hdg hp ?_
  rw [nI_clamp (by omega)]
  exact kk
theorem a_ifnullN (hc : CallFix p m c cc nL s args (c0 :: WS) own) {cl : List vw_C} {f : Nat → Option va_E} {off : Int} {tgt : Nat} (hdg : decode cc pc = .ok (.ifnull off, 3)) (ht : (pc : Int) + off = (tgt : Int)) (kk : AW p l e R s m args below meth c D cl A nL Q f k nn tgt lv st) : AW p l e R s m args below meth c D cl A nL Q f k nn pc lv (.null :: st) := fun H locs ls hf hd hS hl => lv_ifnullN hc.1 hc.2.1 hdg ht (kk H locs ls hf hd hS hl)
theorem a_ifnullR (hc : CallFix p m c cc nL s args (c0 :: WS) own) {cl : List vw_C} {f : Nat → Option va_E} {off : Int} {a : Nat} (hdg : decode cc pc = .ok (.ifnull off, 3)) (hp : pc + 3 = pc') (kk : AW p l e R s m args below meth c D cl A nL Q f k nn pc' lv st) : AW p l e R s m args below meth c D cl A nL Q f k nn pc lv (.ref a :: st) := by
  subst hp
  exact fun H locs ls hf hd hS hl => lv_ifnull hc.1 hc.2.1 hdg (kk H locs ls hf hd hS hl)
theorem a_ifnonnullN (hc : CallFix p m c cc nL s args (c0 :: WS) own) {cl : List vw_C} {f : Nat → Option va_E} {off : Int} (hdg : decode cc pc = .ok (.ifnonnull off, 3)) (hp : pc + 3 = pc') (kk : AW p l e R s m args below meth c D cl A nL Q f k nn pc' lv st) : AW p l e R s m args below meth c D cl A nL Q f k nn pc lv (.null :: st) := by
  subst hp
  exact fun H locs ls hf hd hS hl => lv_ifnonnullN hc.1 hc.2.1 hdg (kk H locs ls hf hd hS hl)
theorem a_ifnonnullR (hc : CallFix p m c cc nL s args (c0 :: WS) own) {cl : List vw_C} {f : Nat → Option va_E} {off : Int} {tgt a : Nat} (hdg : decode cc pc = .ok (.ifnonnull off, 3)) (ht : (pc : Int) + off = (tgt : Int)) (kk : AW p l e R s m args below meth c D cl A nL Q f k nn tgt lv st) : AW p l e R s m args below meth c D cl A nL Q f k nn pc lv (.ref a :: st) := fun H locs ls hf hd hS hl => lv_ifnonnull hc.1 hc.2.1 hdg ht (kk H locs ls hf hd hS hl)
end CRH
end
section
/-! What the class's small methods answer. -/
def SlOk (τ : TS) (κ : Nat → Option Nat) (h : Nat → Option va_E) (d i : Nat) : Prop := (κ (1 + 3 * d + i) = none ∧ ¬ 0 < τ 4 (3 * d + i)) ∨ ∃ a q, κ (1 + 3 * d + i) = some a ∧ 0 < τ 4 (3 * d + i) ∧ h a = some (.inr (0, [.int (τ 4 (3 * d + i)), .int (τ 5 (3 * d + i)), .ref q]))
theorem SlOk.some {τ : TS} {κ : Nat → Option Nat} {h : Nat → Option va_E} {d i a : Nat} (hs : SlOk τ κ h d i) (ha : κ (1 + 3 * d + i) = some a) : ∃ q, 0 < τ 4 (3 * d + i) ∧ h a = some (.inr (0, [.int (τ 4 (3 * d + i)), .int (τ 5 (3 * d + i)), .ref q])) := by
  rcases hs with ⟨h1, -⟩ | ⟨a', q, h1, h2, h3⟩
  · rw [ha] at h1; cases h1
  · rw [ha] at h1
    cases h1
    exact ⟨q, h2, h3⟩
def qW (τ : TS) (κ : Nat → Option Nat) (d : Nat) (nb sb : Int32) (i : Nat) : Bool := (κ (1 + 3 * d + i)).isSome && (decide (τ 4 (3 * d + i) = nb) && decide (τ 5 (3 * d + i) = sb))
def swI (τ : TS) (κ : Nat → Option Nat) (d : Nat) (nb sb : Int32) : Int32 := if fsL (qW τ κ d nb sb) 3 < 3 then nI (fsL (qW τ κ d nb sb) 3) else -1
theorem sw_hit {τ : TS} {κ : Nat → Option Nat} {d i : Nat} {nb sb : Int32} (hG : ∀ j, j < i → qW τ κ d nb sb j = false) (hq : qW τ κ d nb sb i = true) (hi : i < 3) : nI i = swI τ κ d nb sb := by
  unfold swI
  rw [fsL_hit hq hG 3 hi, if_pos hi]
theorem sw_miss {τ : TS} {κ : Nat → Option Nat} {d : Nat} {nb sb : Int32} (hG : ∀ j, j < 3 → qW τ κ d nb sb j = false) : -1 = swI τ κ d nb sb := by
  unfold swI
  rw [fsL_miss hG, if_neg (by decide)]
def bhN (τ : TS) (κ : Nat → Option Nat) (d : Nat) (nb sb : Int32) : Nat := if fsL (qW τ κ d nb sb) 3 < 3 then (fsL (qW τ κ d nb sb) 3 + 1) % 3 else wrN τ d % 3
theorem swI_some {τ : TS} {κ : Nat → Option Nat} {d : Nat} {nb sb : Int32} (h : ¬ swI τ κ d nb sb = -1) : ∃ q, q < 3 ∧ nI q = swI τ κ d nb sb ∧ (q + 1) % 3 = bhN τ κ d nb sb := by
  unfold swI at h
  split at h
  · rename_i hq
    refine ⟨_, hq, ?_, ?_⟩
    · unfold swI
      rw [if_pos hq]
    · unfold bhN
      rw [if_pos hq]
  · exact absurd rfl h
theorem swI_none {τ : TS} {κ : Nat → Option Nat} {d : Nat} {nb sb : Int32} (h : swI τ κ d nb sb = -1) : wrN τ d % 3 = bhN τ κ d nb sb := by
  unfold bhN
  split
  · rename_i hq
    unfold swI at h
    rw [if_pos hq] at h
    have h3 : ∀ q, q < 3 → ¬ nI q = -1 := by decide +kernel
    exact absurd h (h3 _ hq)
  · rfl
def vaQ (g : Nat → Option Nat) (v : Int32) : Option Nat := if v < 0 ∨ nI 4 ≤ v then none else g v.toNatClampNeg
def laI (g : Nat → Option Nat) : Int32 := if fsL (fun i => (g i).isNone) 4 < 4 then nI (fsL (fun i => (g i).isNone) 4) else -1
theorem la_hit {g : Nat → Option Nat} {i : Nat} (hG : ∀ j, j < i → (fun i => (g i).isNone) j = false) (hq : (g i).isNone = true) (hi : i < 4) : nI i = laI g := by
  unfold laI
  rw [fsL_hit (q := fun i => (g i).isNone) hq hG 4 hi, if_pos hi]
theorem la_miss {g : Nat → Option Nat} (hG : ∀ j, j < 4 → (fun i => (g i).isNone) j = false) : -1 = laI g := by
  unfold laI
  rw [fsL_miss hG, if_neg (by decide)]
theorem cw_eq {bx rl : Nat → Nat} {ca : Nat → ClassId} {n E : Nat} {τ τ' : TS} {κ : Nat → Option Nat} {tk : Nat → Int32} {h : Nat → Option va_E} (h0 : cw_e bx E τ' κ = cw_e bx E τ κ) (hτ : τ' 1 = τ 1 ∧ τ' 2 = τ 2 ∧ τ' 4 = τ 4 ∧ τ' 6 = τ 6) : cw bx rl ca n E τ' κ tk h = cw bx rl ca n E τ κ tk h := by
  have hc : cw_c bx ca n E τ' κ tk = cw_c bx ca n E τ κ tk := by
    funext j
    by_cases hj : j = 0
    · subst hj
      show (Sum.inr (4, cw_e bx E τ' κ) : va_E) = _
      rw [h0]
      rfl
    · exact cw_others hτ (fun _ => rfl) j hj
  unfold cw
  rw [hc]
/-- the armed stop, as both sides keep it -/
theorem ac_0 {τ : TS} (h : acI τ = 0) : stB τ = true := by
  unfold acI at h
  split at h
  · rename_i ha
    unfold stB
    rw [ha, h]
    rfl
  · exact absurd h (by decide)
theorem ac_n {τ : TS} (h : ¬ acI τ = 0) : stB τ = false := by
  unfold acI at h
  unfold stB
  split at h
  · rename_i ha
    simp [h]
  · rename_i ha
    simp [ha]
def goT (τ : TS) : TS := ts (ts τ 0 5 (nI 0)) 0 7 (nI 0)
theorem stT_rows (τ : TS) : stT τ 1 = τ 1 ∧ stT τ 2 = τ 2 ∧ stT τ 4 = τ 4 ∧ stT τ 6 = τ 6 := ⟨stT_row (by decide), stT_row (by decide), stT_row (by decide), stT_row (by decide)⟩
theorem goT_rows (τ : TS) : goT τ 1 = τ 1 ∧ goT τ 2 = τ 2 ∧ goT τ 4 = τ 4 ∧ goT τ 6 = τ 6 := ⟨rfl, rfl, rfl, rfl⟩
theorem go_st {bx rl : Nat → Nat} {ca : Nat → ClassId} {n E : Nat} {τ : TS} {κ : Nat → Option Nat} {tk : Nat → Int32} {h : Nat → Option va_E} (hs : stB τ = true) : cw bx rl ca n E (goT τ) κ tk h = cw bx rl ca n E (stT τ) κ tk h := by
  refine cw_eq ?_ ?_
  · unfold stT
    rw [if_pos hs]
    rfl
  · have h1 := stT_rows τ
    rw [h1.1, h1.2.1, h1.2.2.1, h1.2.2.2]
    exact goT_rows τ
theorem un_st {bx rl : Nat → Nat} {ca : Nat → ClassId} {n E : Nat} {τ : TS} {κ : Nat → Option Nat} {tk : Nat → Int32} {h : Nat → Option va_E} (ha : tb (τ 0 7) = false) : cw bx rl ca n E τ κ tk h = cw bx rl ca n E (stT τ) κ tk h := by
  have hs : stB τ = false := by simp [stB, ha]
  refine (cw_eq ?_ (stT_rows τ)).symm
  unfold stT
  rw [if_neg (by rw [hs]; decide)]
  have h7 : (ts τ 0 8 (τ 0 8 - nI 1)) 0 7 = τ 0 7 := ts_off (by decide)
  unfold cw_e acI
  rw [h7, ha]
  rfl
theorem ac_le {τ : TS} (ha : tb (τ 0 7) = true → ¬ τ 0 8 < 0) (h0 : ¬ acI τ = 0) (h1 : acI τ ≤ 0) : tb (τ 0 7) = false := by
  cases hb : tb (τ 0 7) with
  | false => rfl
  | true =>
    have e1 : acI τ = τ 0 8 := by unfold acI; rw [hb]; rfl
    rw [e1] at h0 h1
    rcases Int32.le_iff_lt_or_eq.mp h1 with h2 | h2
    · exact absurd h2 (ha hb)
    · exact absurd h2 h0
theorem ac_gt {bx : Nat → Nat} {E : Nat} {τ : TS} {κ : Nat → Option Nat} (h0 : ¬ acI τ = 0) (h1 : ¬ acI τ ≤ 0) : cw_e bx E (stT τ) κ = (cw_e bx E τ κ).set 7 (.int (acI τ - nI 1)) := by
  have hb : tb (τ 0 7) = true := by
    cases hb : tb (τ 0 7) with
    | true => rfl
    | false =>
      have : acI τ = -1 := by unfold acI; rw [hb]; rfl
      rw [this] at h1
      exact absurd (by decide) h1
  have e1 : acI τ = τ 0 8 := by unfold acI; rw [hb]; rfl
  have hs := ac_n h0
  unfold stT
  rw [if_neg (by rw [hs]; decide), e1]
  have h7 : (ts τ 0 8 (τ 0 8 - nI 1)) 0 7 = τ 0 7 := ts_off (by decide)
  have e2 : acI (ts τ 0 8 (τ 0 8 - nI 1)) = τ 0 8 - nI 1 := by unfold acI; rw [h7, hb]; rfl
  unfold cw_e
  rw [e2]
  rfl
def pcT (τ : TS) (p c : Nat) (v : Int32) : TS := if stB τ then stT τ else ts (stT τ) 2 (caN p c) v
end
section
variable {l : Launch} {D : va_G} {tys : List (ClassId × FieldType)} {A : Nat → Prop} {bx rl : Nat → Nat} {ca : Nat → ClassId} {n E : Nat} {τ : TS} {κ : Nat → Option Nat} {tk : Nat → Int32} {h : Nat → Option va_E}
theorem ct_C_isSame (hx : CX bx rl ca tys n E) (hh : HD bx n h) {a la b lb : Nat} {na sa nb sb : Int32} (ha : h a = some (.inr (0, [.int na, .int sa, .ref la]))) (hb : h b = some (.inr (0, [.int nb, .int sb, .ref lb]))) : CC l y_C_isSame c_C_isSame 2 (some .boolean) 0 D tys A (cw bx rl ca n E τ κ tk h) [.ref a, .ref b] (some (.int (bI (decide (na = nb) && decide (sa = sb))))) (cw bx rl ca n E τ κ tk h) := by
  obtain ⟨hn2, hn5⟩ := hx.2.2.1
  obtain ⟨hE2, hE10⟩ := hx.2.2.2
  refine CC.of (own := R_C) rfl (by decide) (Nat.le_of_ble_eq_true rfl) (cat_all rfl) ?_
  intro pp ee ss mm aa bb me cd hc hK hO hr hk hA
  refine AW.to (lv' := [some (.ref a), some (.ref b)]) rfl rfl rfl ?_
  refine a_aload_n (pc' := 1) hc d_C_isSame_0 rfl rfl rfl ?_
  refine c_getH (pc' := 4) hc hK in_C rfl hh ha 0 (v := .int na) (by decide) rfl fl_C_7 d_C_isSame_1 rfl ?_
  refine a_aload_n (pc' := 5) hc d_C_isSame_4 rfl rfl rfl ?_
  refine c_getH (pc' := 8) hc hK in_C rfl hh hb 0 (v := .int nb) (by decide) rfl fl_C_7 d_C_isSame_5 rfl ?_
  refine a_icmp_ne (pc' := 11) (tgt := 26) hc d_C_isSame_8 rfl rfl (fun h8 => ?_) (fun h8 => ?_)
  · skip
    refine a_iconst (pc' := 27) (v := nI 0) hc d_C_isSame_26 rfl (by decide) ?_
    exact a_zret hc hr hk (Or.inl rfl) d_C_isSame_27 (e_i (by first | rfl | (simp only [bI, h8]; done) | (simp [bI, h8]; done)) (rfl))
  · skip
    refine a_aload_n (pc' := 12) hc d_C_isSame_11 rfl rfl rfl ?_
    refine c_getH (pc' := 15) hc hK in_C rfl hh ha 1 (v := .int sa) (by decide) rfl fl_C_13 d_C_isSame_12 rfl ?_
    refine a_aload_n (pc' := 16) hc d_C_isSame_15 rfl rfl rfl ?_
    refine c_getH (pc' := 19) hc hK in_C rfl hh hb 1 (v := .int sb) (by decide) rfl fl_C_13 d_C_isSame_16 rfl ?_
    refine a_icmp_ne (pc' := 22) (tgt := 26) hc d_C_isSame_19 rfl rfl (fun h19 => ?_) (fun h19 => ?_)
    · skip
      refine a_iconst (pc' := 27) (v := nI 0) hc d_C_isSame_26 rfl (by decide) ?_
      exact a_zret hc hr hk (Or.inl rfl) d_C_isSame_27 (e_i (by first | rfl | (simp only [bI, h8, h19]; done) | (simp [bI, h8, h19]; done)) (rfl))
    · skip
      refine a_iconst (pc' := 23) (v := nI 1) hc d_C_isSame_22 rfl (by decide) ?_
      refine a_goto (tgt := 27) hc d_C_isSame_23 rfl ?_
      exact a_zret hc hr hk (Or.inr rfl) d_C_isSame_27 (e_i (by first | rfl | (simp only [bI, h8, h19]; done) | (simp [bI, h8, h19]; done)) (rfl))
theorem ct_D_slotWith (hx : CX bx rl ca tys n E) (hh : HD bx n h) {d b lb : Nat} {nb sb : Int32} (hd : d < n) (hS : ∀ i, i < 3 → SlOk τ κ h d i) (hb : h b = some (.inr (0, [.int nb, .int sb, .ref lb]))) : CC l y_D_slotWith c_D_slotWith 3 (some .int) 1 D tys A (cw bx rl ca n E τ κ tk h) [.ref (bx (3 + 4 * d)), .ref b] (some (.int (swI τ κ d nb sb))) (cw bx rl ca n E τ κ tk h) := by
  obtain ⟨hn2, hn5⟩ := hx.2.2.1
  obtain ⟨hE2, hE10⟩ := hx.2.2.2
  refine CC.of (own := R_D) rfl (by decide) (Nat.le_of_ble_eq_true rfl) (cat_all rfl) ?_
  intro pp ee ss mm aa bb me cd hc hK hO hr hk hA
  refine AW.to (lv' := [some (.ref (bx (3 + 4 * d))), some (.ref b), none]) rfl rfl rfl ?_
  refine a_iconst (pc' := 1) (v := nI 0) hc d_D_slotWith_0 rfl (by decide) ?_
  refine a_istore_n (pc' := 2) hc d_D_slotWith_1 rfl rfl (by decide) ?_
  refine AW.loopG 3 0 (fun i2 => cw bx rl ca n E τ κ tk h) (fun i2 => [some (.ref (bx (3 + 4 * d))), some (.ref b), some (.int (nI i2))]) (fun i2 => ∀ j, j < i2 → qW τ κ d nb sb j = false) (Nat.zero_le _) (fun j hj => absurd hj (by omega)) rfl rfl (fun i2 hle2 hG2 ih2 => ?_)
  try dsimp only at hG2 ih2 ⊢
  refine a_iload_n (pc' := 3) hc d_D_slotWith_2 rfl rfl rfl ?_
  refine a_iconst (pc' := 4) (v := nI 3) hc d_D_slotWith_3 rfl (by decide) ?_
  refine a_ncmp_ge (pc' := 7) (tgt := 37) hc d_D_slotWith_4 rfl rfl (by omega) (by omega) (fun h4 => ?_) (fun h4 => ?_)
  · skip
    have hex4 : i2 = 3 := by omega
    subst i2
    refine a_iconst (pc' := 38) (v := -1) hc d_D_slotWith_37 rfl (by decide) ?_
    exact a_iret hc hr hk d_D_slotWith_38 (e_i (sw_miss hG2) (rfl))
  · skip
    refine a_aload_n (pc' := 8) hc d_D_slotWith_7 rfl rfl rfl ?_
    refine c_getD (pc' := 11) hc hK hx d 1 (v := .ref (bx (5 + 4 * d))) (by omega) (by decide) rfl fl_D_17 d_D_slotWith_8 rfl ?_
    refine a_iload_n (pc' := 12) hc d_D_slotWith_11 rfl rfl rfl ?_
    refine c_kald (pc' := 13) hc hK hx d i2 (by omega) (by omega) d_D_slotWith_12 rfl ?_
    refine a_ifnull (pc' := 16) (tgt := 31) hc d_D_slotWith_13 rfl rfl (fun h13 => ?_) (fun a13 h13 => ?_)
    · skip
      try rw [h13]
      refine a_ninc (pc' := 34) hc d_D_slotWith_31 rfl rfl (by decide) ?_
      refine a_goto (tgt := 2) hc d_D_slotWith_34 rfl ?_
      exact AW.to rfl rfl rfl (ih2 (by omega) (allf_s hG2 (by unfold qW; rw [h13]; rfl)))
    · skip
      try rw [h13]
      obtain ⟨l13, hp13, hC13⟩ := (hS i2 (by omega)).some h13
      refine a_aload_n (pc' := 17) hc d_D_slotWith_16 rfl rfl rfl ?_
      refine c_getD (pc' := 20) hc hK hx d 1 (v := .ref (bx (5 + 4 * d))) (by omega) (by decide) rfl fl_D_17 d_D_slotWith_17 rfl ?_
      refine a_iload_n (pc' := 21) hc d_D_slotWith_20 rfl rfl rfl ?_
      refine c_kald (pc' := 22) hc hK hx d i2 (by omega) (by omega) d_D_slotWith_21 rfl ?_
      refine AW.top (y := .ref a13) (by rw [h13]; rfl) ?_
      refine a_aload_n (pc' := 23) hc d_D_slotWith_22 rfl rfl rfl ?_
      refine c_calli (pc' := 26) hc hK hO hA (a13) [.ref b] [] (ct_C_isSame hx hh (τ := τ) (κ := κ) (tk := tk) (h := h) (a := a13) (la := l13) (b := b) (lb := lb) (na := τ 4 (3 * d + i2)) (sa := τ 5 (3 * d + i2)) (nb := nb) (sb := sb) hC13 hb) ml_D_33 hd_C_isSame ⟨by decide, by decide⟩ rfl rfl (Nat.le_of_ble_eq_true rfl) (cw_h hh hC13) rfl rfl d_D_slotWith_23 rfl ?_
      refine a_ifb_eq (pc' := 29) (tgt := 31) hc d_D_slotWith_26 rfl rfl (fun h26 => ?_) (fun h26 => ?_)
      · skip
        refine a_ninc (pc' := 34) hc d_D_slotWith_31 rfl rfl (by decide) ?_
        refine a_goto (tgt := 2) hc d_D_slotWith_34 rfl ?_
        exact AW.to rfl rfl rfl (ih2 (by omega) (allf_s hG2 (by unfold qW; rw [h26, Bool.and_false])))
      · skip
        refine a_iload_n (pc' := 30) hc d_D_slotWith_29 rfl rfl rfl ?_
        exact a_iret hc hr hk d_D_slotWith_30 (e_i (sw_hit hG2 (by unfold qW; rw [h13, h26]; rfl) (by omega)) (rfl))
theorem ct_D_slotBehind (hx : CX bx rl ca tys n E) (hh : HD bx n h) {d b lb : Nat} {nb sb : Int32} (hd : d < n) (hS : ∀ i, i < 3 → SlOk τ κ h d i) (hb : h b = some (.inr (0, [.int nb, .int sb, .ref lb]))) : CC l y_D_slotBehind c_D_slotBehind 3 (some .int) 2 D tys A (cw bx rl ca n E τ κ tk h) [.ref (bx (3 + 4 * d)), .ref b] (some (.int (nI (bhN τ κ d nb sb)))) (cw bx rl ca n E τ κ tk h) := by
  obtain ⟨hn2, hn5⟩ := hx.2.2.1
  obtain ⟨hE2, hE10⟩ := hx.2.2.2
  refine CC.of (own := R_D) rfl (by decide) (Nat.le_of_ble_eq_true rfl) (cat_all rfl) ?_
  intro pp ee ss mm aa bb me cd hc hK hO hr hk hA
  refine AW.to (lv' := [some (.ref (bx (3 + 4 * d))), some (.ref b), none]) rfl rfl rfl ?_
  refine a_aload_n (pc' := 1) hc d_D_slotBehind_0 rfl rfl rfl ?_
  refine a_aload_n (pc' := 2) hc d_D_slotBehind_1 rfl rfl rfl ?_
  refine c_calli (pc' := 5) hc hK hO hA (bx (3 + 4 * d)) [.ref b] [] (ct_D_slotWith hx hh (τ := τ) (κ := κ) (tk := tk) (h := h) (d := d) (b := b) (lb := lb) (nb := nb) (sb := sb) (by omega) hS hb) ml_D_37 hd_D_slotWith ⟨by decide, by decide⟩ rfl rfl (Nat.le_of_ble_eq_true rfl) (cw_d0 hx (by omega)) rfl rfl d_D_slotBehind_2 rfl ?_
  refine a_istore_n (pc' := 6) hc d_D_slotBehind_5 rfl rfl (by decide) ?_
  refine a_iload_n (pc' := 7) hc d_D_slotBehind_6 rfl rfl rfl ?_
  refine a_iconst (pc' := 8) (v := -1) hc d_D_slotBehind_7 rfl (by decide) ?_
  refine a_icmp_ne (pc' := 11) (tgt := 18) hc d_D_slotBehind_8 rfl rfl (fun h8 => ?_) (fun h8 => ?_)
  · skip
    obtain ⟨q, hq3, eq1, eq2⟩ := swI_some h8
    refine AW.lvi 2 (y := nI q) rfl eq1 ?_
    refine a_iload_n (pc' := 19) hc d_D_slotBehind_18 rfl rfl rfl ?_
    refine a_iconst (pc' := 20) (v := nI 1) hc d_D_slotBehind_19 rfl (by decide) ?_
    refine a_nadd (pc' := 21) hc d_D_slotBehind_20 rfl ?_
    refine a_iconst (pc' := 22) (v := nI 3) hc d_D_slotBehind_21 rfl (by decide) ?_
    refine a_nrem (pc' := 23) hc d_D_slotBehind_22 rfl (by omega) (by omega) (by omega) ?_
    exact a_iret hc hr hk d_D_slotBehind_23 (e_i (by first | rw [eq2] | rw [swI_none h8]) (rfl))
  · skip
    refine a_aload_n (pc' := 12) hc d_D_slotBehind_11 rfl rfl rfl ?_
    refine c_getD (pc' := 15) hc hK hx d 3 (v := .int (nI (wrN τ d % 3))) (by omega) (by decide) rfl fl_D_25 d_D_slotBehind_12 rfl ?_
    refine a_goto (tgt := 23) hc d_D_slotBehind_15 rfl ?_
    exact a_iret hc hr hk d_D_slotBehind_23 (e_i (by first | rw [eq2] | rw [swI_none h8]) (rfl))
theorem ct_L_volumeAt (hx : CX bx rl ca tys n E) (hh : HD bx n h) {a va : Nat} {mv : Option Nat} {g : Nat → Option Nat} {v : Int32} (ha : h a = some (.inr (2, [.ref va, va_rf mv]))) (hva : h va = some (.inl (ca 4, 4, .inr (.inr (.inr (.inr g)))))) : CC l y_L_volumeAt c_L_volumeAt 2 (some (.object "ExtentGroup$Volume")) 0 D tys A (cw bx rl ca n E τ κ tk h) [.ref a, .int v] (some (va_rf (vaQ g v))) (cw bx rl ca n E τ κ tk h) := by
  obtain ⟨hn2, hn5⟩ := hx.2.2.1
  obtain ⟨hE2, hE10⟩ := hx.2.2.2
  refine CC.of (own := R_L) rfl (by decide) (Nat.le_of_ble_eq_true rfl) (cat_all rfl) ?_
  intro pp ee ss mm aa bb me cd hc hK hO hr hk hA
  refine AW.to (lv' := [some (.ref a), some (.int v)]) rfl rfl rfl ?_
  refine a_iload_n (pc' := 1) hc d_L_volumeAt_0 rfl rfl rfl ?_
  refine a_if_lt (pc' := 4) (tgt := 18) hc d_L_volumeAt_1 rfl rfl (fun h1 => ?_) (fun h1 => ?_)
  · skip
    refine a_null (pc' := 19) hc d_L_volumeAt_18 rfl ?_
    exact a_aret (x := none) hc hr (Or.inl ⟨_, rfl⟩) hk d_L_volumeAt_19 (e_r (by first | rfl | (simp only [vaQ, h1]; done) | (simp [vaQ, h1]; done)) (rfl))
  · skip
    refine a_iload_n (pc' := 5) hc d_L_volumeAt_4 rfl rfl rfl ?_
    refine a_iconst (pc' := 6) (v := nI 4) hc d_L_volumeAt_5 rfl (by decide) ?_
    refine a_icmp_ge (pc' := 9) (tgt := 18) hc d_L_volumeAt_6 rfl rfl (fun h6 => ?_) (fun h6 => ?_)
    · skip
      refine a_null (pc' := 19) hc d_L_volumeAt_18 rfl ?_
      exact a_aret (x := none) hc hr (Or.inl ⟨_, rfl⟩) hk d_L_volumeAt_19 (e_r (by first | rfl | (simp only [vaQ, h1, h6]; done) | (simp [vaQ, h1, h6]; done)) (rfl))
    · skip
      obtain ⟨j, hj, ej, cj⟩ := ix_of (by decide) h1 h6
      subst ej
      refine a_aload_n (pc' := 10) hc d_L_volumeAt_9 rfl rfl rfl ?_
      refine c_getH (pc' := 13) hc hK in_L rfl hh ha 0 (v := .ref va) (by decide) rfl fl_L_9 d_L_volumeAt_10 rfl ?_
      refine a_iload_n (pc' := 14) hc d_L_volumeAt_13 rfl rfl rfl ?_
      refine c_aaldH (pc' := 15) hc hK hx hh hva j (by omega) d_L_volumeAt_14 rfl ?_
      refine a_goto (tgt := 19) hc d_L_volumeAt_15 rfl ?_
      exact a_aret (x := g j) hc hr (Or.inl ⟨_, rfl⟩) hk d_L_volumeAt_19 (e_r (by first | rfl | (simp only [vaQ, h1, h6, cj]; done) | (simp [vaQ, h1, h6, cj]; done)) (rfl))
theorem ct_L_leastAbsent (hx : CX bx rl ca tys n E) (hh : HD bx n h) {a va : Nat} {mv : Option Nat} {g : Nat → Option Nat} (ha : h a = some (.inr (2, [.ref va, va_rf mv]))) (hva : h va = some (.inl (ca 4, 4, .inr (.inr (.inr (.inr g)))))) : CC l y_L_leastAbsent c_L_leastAbsent 2 (some .int) 0 D tys A (cw bx rl ca n E τ κ tk h) [.ref a] (some (.int (laI g))) (cw bx rl ca n E τ κ tk h) := by
  obtain ⟨hn2, hn5⟩ := hx.2.2.1
  obtain ⟨hE2, hE10⟩ := hx.2.2.2
  refine CC.of (own := R_L) rfl (by decide) (Nat.le_of_ble_eq_true rfl) (cat_all rfl) ?_
  intro pp ee ss mm aa bb me cd hc hK hO hr hk hA
  refine AW.to (lv' := [some (.ref a), none]) rfl rfl rfl ?_
  refine a_iconst (pc' := 1) (v := nI 0) hc d_L_leastAbsent_0 rfl (by decide) ?_
  refine a_istore_n (pc' := 2) hc d_L_leastAbsent_1 rfl rfl (by decide) ?_
  refine AW.loopG 4 0 (fun i2 => cw bx rl ca n E τ κ tk h) (fun i2 => [some (.ref a), some (.int (nI i2))]) (fun i2 => ∀ j, j < i2 → (fun i => (g i).isNone) j = false) (Nat.zero_le _) (fun j hj => absurd hj (by omega)) rfl rfl (fun i2 hle2 hG2 ih2 => ?_)
  try dsimp only at hG2 ih2 ⊢
  refine a_iload_n (pc' := 3) hc d_L_leastAbsent_2 rfl rfl rfl ?_
  refine a_iconst (pc' := 4) (v := nI 4) hc d_L_leastAbsent_3 rfl (by decide) ?_
  refine a_ncmp_ge (pc' := 7) (tgt := 24) hc d_L_leastAbsent_4 rfl rfl (by omega) (by omega) (fun h4 => ?_) (fun h4 => ?_)
  · skip
    have hex4 : i2 = 4 := by omega
    subst i2
    refine a_iconst (pc' := 25) (v := -1) hc d_L_leastAbsent_24 rfl (by decide) ?_
    exact a_iret hc hr hk d_L_leastAbsent_25 (e_i (la_miss hG2) (rfl))
  · skip
    refine a_aload_n (pc' := 8) hc d_L_leastAbsent_7 rfl rfl rfl ?_
    refine c_getH (pc' := 11) hc hK in_L rfl hh ha 0 (v := .ref va) (by decide) rfl fl_L_9 d_L_leastAbsent_8 rfl ?_
    refine a_iload_n (pc' := 12) hc d_L_leastAbsent_11 rfl rfl rfl ?_
    refine c_aaldH (pc' := 13) hc hK hx hh hva i2 (by omega) d_L_leastAbsent_12 rfl ?_
    refine a_ifnonnull (pc' := 16) (tgt := 18) hc d_L_leastAbsent_13 rfl rfl (fun a13 h13 => ?_) (fun h13 => ?_)
    · skip
      try rw [h13]
      refine a_ninc (pc' := 21) hc d_L_leastAbsent_18 rfl rfl (by decide) ?_
      refine a_goto (tgt := 2) hc d_L_leastAbsent_21 rfl ?_
      exact AW.to rfl rfl rfl (ih2 (by omega) (allf_s (q := fun i => (g i).isNone) hG2 (by show (g i2).isNone = false; rw [h13]; rfl)))
    · skip
      try rw [h13]
      refine a_iload_n (pc' := 17) hc d_L_leastAbsent_16 rfl rfl rfl ?_
      exact a_iret hc hr hk d_L_leastAbsent_17 (e_i (la_hit hG2 (by rw [h13]; rfl) (by omega)) (rfl))
theorem ct_U_hasExtent (hx : CX bx rl ca tys n E) (hh : HD bx n h) {a pl pn : Nat} {w s rc k : Int32} {g : Nat → Int32} (ha : h a = some (.inr (3, [.int w, .int s, .int rc, .ref pl]))) (hpl : h pl = some (.inl (ca 0, pn, .inl g)) ∧ pn < 2 ^ 31) : CC l y_U_hasExtent c_U_hasExtent 2 (some .boolean) 0 D tys A (cw bx rl ca n E τ κ tk h) [.ref a, .int k] (some (.int (bI (!decide (k < 0) && !decide (nI pn ≤ k))))) (cw bx rl ca n E τ κ tk h) := by
  obtain ⟨hn2, hn5⟩ := hx.2.2.1
  obtain ⟨hE2, hE10⟩ := hx.2.2.2
  refine CC.of (own := R_U) rfl (by decide) (Nat.le_of_ble_eq_true rfl) (cat_all rfl) ?_
  intro pp ee ss mm aa bb me cd hc hK hO hr hk hA
  refine AW.to (lv' := [some (.ref a), some (.int k)]) rfl rfl rfl ?_
  refine a_iload_n (pc' := 1) hc d_U_hasExtent_0 rfl rfl rfl ?_
  refine a_if_lt (pc' := 4) (tgt := 17) hc d_U_hasExtent_1 rfl rfl (fun h1 => ?_) (fun h1 => ?_)
  · skip
    refine a_iconst (pc' := 18) (v := nI 0) hc d_U_hasExtent_17 rfl (by decide) ?_
    exact a_zret hc hr hk (Or.inl rfl) d_U_hasExtent_18 (e_i (by first | rfl | (simp only [bI, h1]; done) | (simp [bI, h1]; done)) (rfl))
  · skip
    refine a_iload_n (pc' := 5) hc d_U_hasExtent_4 rfl rfl rfl ?_
    refine a_aload_n (pc' := 6) hc d_U_hasExtent_5 rfl rfl rfl ?_
    refine c_getH (pc' := 9) hc hK in_U rfl hh ha 3 (v := .ref pl) (by decide) rfl fl_U_21 d_U_hasExtent_6 rfl ?_
    refine c_alenH (pc' := 10) hc hK hx hh hpl d_U_hasExtent_9 rfl ?_
    refine a_icmp_ge (pc' := 13) (tgt := 17) hc d_U_hasExtent_10 rfl rfl (fun h10 => ?_) (fun h10 => ?_)
    · skip
      refine a_iconst (pc' := 18) (v := nI 0) hc d_U_hasExtent_17 rfl (by decide) ?_
      exact a_zret hc hr hk (Or.inl rfl) d_U_hasExtent_18 (e_i (by first | rfl | (simp only [bI, h1, h10]; done) | (simp [bI, h1, h10]; done)) (rfl))
    · skip
      refine a_iconst (pc' := 14) (v := nI 1) hc d_U_hasExtent_13 rfl (by decide) ?_
      refine a_goto (tgt := 18) hc d_U_hasExtent_14 rfl ?_
      exact a_zret hc hr hk (Or.inr rfl) d_U_hasExtent_18 (e_i (by first | rfl | (simp only [bI, h1, h10]; done) | (simp [bI, h1, h10]; done)) (rfl))
theorem ct_U_hasBlock (hx : CX bx rl ca tys n E) (hh : HD bx n h) {a pl pn : Nat} {w s rc k : Int32} {g : Nat → Int32} (ha : h a = some (.inr (3, [.int w, .int s, .int rc, .ref pl]))) (hpl : h pl = some (.inl (ca 0, pn, .inl g)) ∧ pn < 2 ^ 31) : CC l y_U_hasBlock c_U_hasBlock 2 (some .boolean) 0 D tys A (cw bx rl ca n E τ κ tk h) [.ref a, .int k] (some (.int (bI (!decide (k < 0) && !decide (nI (4 * pn) ≤ k))))) (cw bx rl ca n E τ κ tk h) := by
  obtain ⟨hn2, hn5⟩ := hx.2.2.1
  obtain ⟨hE2, hE10⟩ := hx.2.2.2
  refine CC.of (own := R_U) rfl (by decide) (Nat.le_of_ble_eq_true rfl) (cat_all rfl) ?_
  intro pp ee ss mm aa bb me cd hc hK hO hr hk hA
  refine AW.to (lv' := [some (.ref a), some (.int k)]) rfl rfl rfl ?_
  refine a_iload_n (pc' := 1) hc d_U_hasBlock_0 rfl rfl rfl ?_
  refine a_if_lt (pc' := 4) (tgt := 19) hc d_U_hasBlock_1 rfl rfl (fun h1 => ?_) (fun h1 => ?_)
  · skip
    refine a_iconst (pc' := 20) (v := nI 0) hc d_U_hasBlock_19 rfl (by decide) ?_
    exact a_zret hc hr hk (Or.inl rfl) d_U_hasBlock_20 (e_i (by first | rfl | (simp only [bI, h1]; done) | (simp [bI, h1]; done)) (rfl))
  · skip
    refine a_iload_n (pc' := 5) hc d_U_hasBlock_4 rfl rfl rfl ?_
    refine a_iconst (pc' := 6) (v := nI 4) hc d_U_hasBlock_5 rfl (by decide) ?_
    refine a_aload_n (pc' := 7) hc d_U_hasBlock_6 rfl rfl rfl ?_
    refine c_getH (pc' := 10) hc hK in_U rfl hh ha 3 (v := .ref pl) (by decide) rfl fl_U_21 d_U_hasBlock_7 rfl ?_
    refine c_alenH (pc' := 11) hc hK hx hh hpl d_U_hasBlock_10 rfl ?_
    refine a_nmul (pc' := 12) hc d_U_hasBlock_11 rfl ?_
    refine a_icmp_ge (pc' := 15) (tgt := 19) hc d_U_hasBlock_12 rfl rfl (fun h12 => ?_) (fun h12 => ?_)
    · skip
      refine a_iconst (pc' := 20) (v := nI 0) hc d_U_hasBlock_19 rfl (by decide) ?_
      exact a_zret hc hr hk (Or.inl rfl) d_U_hasBlock_20 (e_i (by first | rfl | (simp only [bI, h1, h12]; done) | (simp [bI, h1, h12]; done)) (rfl))
    · skip
      refine a_iconst (pc' := 16) (v := nI 1) hc d_U_hasBlock_15 rfl (by decide) ?_
      refine a_goto (tgt := 20) hc d_U_hasBlock_16 rfl ?_
      exact a_zret hc hr hk (Or.inr rfl) d_U_hasBlock_20 (e_i (by first | rfl | (simp only [bI, h1, h12]; done) | (simp [bI, h1, h12]; done)) (rfl))
theorem ct_U_extentOf (hx : CX bx rl ca tys n E) (hh : HD bx n h) {a pl w s b : Nat} {rc : Int32} (ha : h a = some (.inr (3, [.int (nI w), .int (nI s), .int rc, .ref pl]))) (hw0 : 0 < w) (hw4 : w ≤ 4) (hs0 : 0 < s) (hs4 : s ≤ 4) (hb : b < 2 ^ 30) : CC l y_U_extentOf c_U_extentOf 4 (some .int) 0 D tys A (cw bx rl ca n E τ κ tk h) [.ref a, .int (nI b)] (some (.int (nI (eoN w s b)))) (cw bx rl ca n E τ κ tk h) := by
  obtain ⟨hn2, hn5⟩ := hx.2.2.1
  obtain ⟨hE2, hE10⟩ := hx.2.2.2
  have hmd : b % (4 * w) < 4 * w := Nat.mod_lt _ (by omega)
  have hdv : b % (4 * w) / s ≤ b % (4 * w) := Nat.div_le_self _ _
  refine CC.of (own := R_U) rfl (by decide) (Nat.le_of_ble_eq_true rfl) (cat_all rfl) ?_
  intro pp ee ss mm aa bb me cd hc hK hO hr hk hA
  refine AW.to (lv' := [some (.ref a), some (.int (nI b)), none, none]) rfl rfl rfl ?_
  refine a_iload_n (pc' := 1) hc d_U_extentOf_0 rfl rfl rfl ?_
  refine a_iconst (pc' := 2) (v := nI 4) hc d_U_extentOf_1 rfl (by decide) ?_
  refine a_aload_n (pc' := 3) hc d_U_extentOf_2 rfl rfl rfl ?_
  refine c_getH (pc' := 6) hc hK in_U rfl hh ha 0 (v := .int (nI w)) (by decide) rfl fl_U_9 d_U_extentOf_3 rfl ?_
  refine a_nmul (pc' := 7) hc d_U_extentOf_6 rfl ?_
  refine a_ndiv (pc' := 8) hc d_U_extentOf_7 rfl (by omega) (by omega) (by omega) ?_
  refine a_istore_n (pc' := 9) hc d_U_extentOf_8 rfl rfl (by decide) ?_
  refine a_iload_n (pc' := 10) hc d_U_extentOf_9 rfl rfl rfl ?_
  refine a_iconst (pc' := 11) (v := nI 4) hc d_U_extentOf_10 rfl (by decide) ?_
  refine a_aload_n (pc' := 12) hc d_U_extentOf_11 rfl rfl rfl ?_
  refine c_getH (pc' := 15) hc hK in_U rfl hh ha 0 (v := .int (nI w)) (by decide) rfl fl_U_9 d_U_extentOf_12 rfl ?_
  refine a_nmul (pc' := 16) hc d_U_extentOf_15 rfl ?_
  refine a_nrem (pc' := 17) hc d_U_extentOf_16 rfl (by omega) (by omega) (by omega) ?_
  refine a_istore_n (pc' := 18) hc d_U_extentOf_17 rfl rfl (by decide) ?_
  refine a_aload_n (pc' := 19) hc d_U_extentOf_18 rfl rfl rfl ?_
  refine c_getH (pc' := 22) hc hK in_U rfl hh ha 0 (v := .int (nI w)) (by decide) rfl fl_U_9 d_U_extentOf_19 rfl ?_
  refine a_iload_n (pc' := 23) hc d_U_extentOf_22 rfl rfl rfl ?_
  refine a_nmul (pc' := 24) hc d_U_extentOf_23 rfl ?_
  refine a_iload_n (pc' := 25) hc d_U_extentOf_24 rfl rfl rfl ?_
  refine a_aload_n (pc' := 26) hc d_U_extentOf_25 rfl rfl rfl ?_
  refine c_getH (pc' := 29) hc hK in_U rfl hh ha 1 (v := .int (nI s)) (by decide) rfl fl_U_15 d_U_extentOf_26 rfl ?_
  refine a_ndiv (pc' := 30) hc d_U_extentOf_29 rfl (by omega) (by omega) (by omega) ?_
  refine a_aload_n (pc' := 31) hc d_U_extentOf_30 rfl rfl rfl ?_
  refine c_getH (pc' := 34) hc hK in_U rfl hh ha 0 (v := .int (nI w)) (by decide) rfl fl_U_9 d_U_extentOf_31 rfl ?_
  refine a_nrem (pc' := 35) hc d_U_extentOf_34 rfl (by omega) (by omega) (by omega) ?_
  refine a_nadd (pc' := 36) hc d_U_extentOf_35 rfl ?_
  exact a_iret hc hr hk d_U_extentOf_36 (e_i (by first | rfl | (simp only []; done) | (simp []; done)) (rfl))
theorem ct_U_cellOf (hx : CX bx rl ca tys n E) (hh : HD bx n h) {a pl w s b : Nat} {rc : Int32} (ha : h a = some (.inr (3, [.int (nI w), .int (nI s), .int rc, .ref pl]))) (hw0 : 0 < w) (hw4 : w ≤ 4) (hs0 : 0 < s) (hs4 : s ≤ 4) (hb : b < 2 ^ 30) : CC l y_U_cellOf c_U_cellOf 3 (some .int) 0 D tys A (cw bx rl ca n E τ κ tk h) [.ref a, .int (nI b)] (some (.int (nI (coN w s b)))) (cw bx rl ca n E τ κ tk h) := by
  obtain ⟨hn2, hn5⟩ := hx.2.2.1
  obtain ⟨hE2, hE10⟩ := hx.2.2.2
  have hmd : b % (4 * w) < 4 * w := Nat.mod_lt _ (by omega)
  have hdv : b % (4 * w) / s ≤ b % (4 * w) := Nat.div_le_self _ _
  refine CC.of (own := R_U) rfl (by decide) (Nat.le_of_ble_eq_true rfl) (cat_all rfl) ?_
  intro pp ee ss mm aa bb me cd hc hK hO hr hk hA
  refine AW.to (lv' := [some (.ref a), some (.int (nI b)), none]) rfl rfl rfl ?_
  refine a_iload_n (pc' := 1) hc d_U_cellOf_0 rfl rfl rfl ?_
  refine a_iconst (pc' := 2) (v := nI 4) hc d_U_cellOf_1 rfl (by decide) ?_
  refine a_aload_n (pc' := 3) hc d_U_cellOf_2 rfl rfl rfl ?_
  refine c_getH (pc' := 6) hc hK in_U rfl hh ha 0 (v := .int (nI w)) (by decide) rfl fl_U_9 d_U_cellOf_3 rfl ?_
  refine a_nmul (pc' := 7) hc d_U_cellOf_6 rfl ?_
  refine a_nrem (pc' := 8) hc d_U_cellOf_7 rfl (by omega) (by omega) (by omega) ?_
  refine a_istore_n (pc' := 9) hc d_U_cellOf_8 rfl rfl (by decide) ?_
  refine a_iload_n (pc' := 10) hc d_U_cellOf_9 rfl rfl rfl ?_
  refine a_aload_n (pc' := 11) hc d_U_cellOf_10 rfl rfl rfl ?_
  refine c_getH (pc' := 14) hc hK in_U rfl hh ha 1 (v := .int (nI s)) (by decide) rfl fl_U_15 d_U_cellOf_11 rfl ?_
  refine a_ndiv (pc' := 15) hc d_U_cellOf_14 rfl (by omega) (by omega) (by omega) ?_
  refine a_aload_n (pc' := 16) hc d_U_cellOf_15 rfl rfl rfl ?_
  refine c_getH (pc' := 19) hc hK in_U rfl hh ha 0 (v := .int (nI w)) (by decide) rfl fl_U_9 d_U_cellOf_16 rfl ?_
  refine a_ndiv (pc' := 20) hc d_U_cellOf_19 rfl (by omega) (by omega) (by omega) ?_
  refine a_aload_n (pc' := 21) hc d_U_cellOf_20 rfl rfl rfl ?_
  refine c_getH (pc' := 24) hc hK in_U rfl hh ha 1 (v := .int (nI s)) (by decide) rfl fl_U_15 d_U_cellOf_21 rfl ?_
  refine a_nmul (pc' := 25) hc d_U_cellOf_24 rfl ?_
  refine a_iload_n (pc' := 26) hc d_U_cellOf_25 rfl rfl rfl ?_
  refine a_aload_n (pc' := 27) hc d_U_cellOf_26 rfl rfl rfl ?_
  refine c_getH (pc' := 30) hc hK in_U rfl hh ha 1 (v := .int (nI s)) (by decide) rfl fl_U_15 d_U_cellOf_27 rfl ?_
  refine a_nrem (pc' := 31) hc d_U_cellOf_30 rfl (by omega) (by omega) (by omega) ?_
  refine a_nadd (pc' := 32) hc d_U_cellOf_31 rfl ?_
  exact a_iret hc hr hk d_U_cellOf_32 (e_i (by first | rfl | (simp only []; done) | (simp []; done)) (rfl))
theorem ct_E_isDisk (hx : CX bx rl ca tys n E) (hh : HD bx n h) {d : Int32} : CC l y_E_isDisk c_E_isDisk 2 (some .boolean) 0 D tys A (cw bx rl ca n E τ κ tk h) [.ref (bx 0), .int d] (some (.int (bI (dkB n d)))) (cw bx rl ca n E τ κ tk h) := by
  obtain ⟨hn2, hn5⟩ := hx.2.2.1
  obtain ⟨hE2, hE10⟩ := hx.2.2.2
  refine CC.of (own := R_E) rfl (by decide) (Nat.le_of_ble_eq_true rfl) (cat_all rfl) ?_
  intro pp ee ss mm aa bb me cd hc hK hO hr hk hA
  refine AW.to (lv' := [some (.ref (bx 0)), some (.int d)]) rfl rfl rfl ?_
  refine a_iload_n (pc' := 1) hc d_E_isDisk_0 rfl rfl rfl ?_
  refine a_if_lt (pc' := 4) (tgt := 17) hc d_E_isDisk_1 rfl rfl (fun h1 => ?_) (fun h1 => ?_)
  · skip
    refine a_iconst (pc' := 18) (v := nI 0) hc d_E_isDisk_17 rfl (by decide) ?_
    exact a_zret hc hr hk (Or.inl rfl) d_E_isDisk_18 (e_i (by first | rfl | (simp only [dkB, bI, h1]; done) | (simp [dkB, bI, h1]; done)) (rfl))
  · skip
    refine a_iload_n (pc' := 5) hc d_E_isDisk_4 rfl rfl rfl ?_
    refine a_aload_n (pc' := 6) hc d_E_isDisk_5 rfl rfl rfl ?_
    refine c_getE (pc' := 9) hc hK hx 1 (v := .ref (bx 1)) (by decide) (rfl) fl_E_36 d_E_isDisk_6 rfl ?_
    refine c_dlen (pc' := 10) hc hK hx d_E_isDisk_9 rfl ?_
    refine a_icmp_ge (pc' := 13) (tgt := 17) hc d_E_isDisk_10 rfl rfl (fun h10 => ?_) (fun h10 => ?_)
    · skip
      refine a_iconst (pc' := 18) (v := nI 0) hc d_E_isDisk_17 rfl (by decide) ?_
      exact a_zret hc hr hk (Or.inl rfl) d_E_isDisk_18 (e_i (by first | rfl | (simp only [dkB, bI, h1, h10]; done) | (simp [dkB, bI, h1, h10]; done)) (rfl))
    · skip
      refine a_iconst (pc' := 14) (v := nI 1) hc d_E_isDisk_13 rfl (by decide) ?_
      refine a_goto (tgt := 18) hc d_E_isDisk_14 rfl ?_
      exact a_zret hc hr hk (Or.inr rfl) d_E_isDisk_18 (e_i (by first | rfl | (simp only [dkB, bI, h1, h10]; done) | (simp [dkB, bI, h1, h10]; done)) (rfl))
theorem ct_E_diskOf (hx : CX bx rl ca tys n E) (hh : HD bx n h) {q : Nat} (hq : q / 16 < n) (hq2 : q < 2 ^ 31) : CC l y_E_diskOf c_E_diskOf 2 (some (.object "ExtentGroup$Disk")) 0 D tys A (cw bx rl ca n E τ κ tk h) [.ref (bx 0), .int (nI q)] (some (.ref (bx (3 + 4 * (q / 16))))) (cw bx rl ca n E τ κ tk h) := by
  obtain ⟨hn2, hn5⟩ := hx.2.2.1
  obtain ⟨hE2, hE10⟩ := hx.2.2.2
  refine CC.of (own := R_E) rfl (by decide) (Nat.le_of_ble_eq_true rfl) (cat_all rfl) ?_
  intro pp ee ss mm aa bb me cd hc hK hO hr hk hA
  refine AW.to (lv' := [some (.ref (bx 0)), some (.int (nI q))]) rfl rfl rfl ?_
  refine a_aload_n (pc' := 1) hc d_E_diskOf_0 rfl rfl rfl ?_
  refine c_getE (pc' := 4) hc hK hx 1 (v := .ref (bx 1)) (by decide) (rfl) fl_E_36 d_E_diskOf_1 rfl ?_
  refine a_iload_n (pc' := 5) hc d_E_diskOf_4 rfl rfl rfl ?_
  refine a_bipush (pc' := 7) (v := nI 16) hc d_E_diskOf_5 rfl (by decide) ?_
  refine a_ndiv (pc' := 8) hc d_E_diskOf_7 rfl (by omega) (by omega) (by omega) ?_
  refine c_ald (pc' := 9) hc hK hx (q / 16) (by omega) d_E_diskOf_8 rfl ?_
  exact a_aret (x := some (bx (3 + 4 * (q / 16)))) hc hr (Or.inl ⟨_, rfl⟩) hk d_E_diskOf_9 (e_r (rfl) (rfl))
theorem ct_E_isQuorum (hx : CX bx rl ca tys n E) (hh : HD bx n h) {q : Nat} (hq : q < 2 ^ 29) : CC l y_E_isQuorum c_E_isQuorum 2 (some .boolean) 0 D tys A (cw bx rl ca n E τ κ tk h) [.ref (bx 0), .int (nI q)] (some (.int (bI (quB n q)))) (cw bx rl ca n E τ κ tk h) := by
  obtain ⟨hn2, hn5⟩ := hx.2.2.1
  obtain ⟨hE2, hE10⟩ := hx.2.2.2
  refine CC.of (own := R_E) rfl (by decide) (Nat.le_of_ble_eq_true rfl) (cat_all rfl) ?_
  intro pp ee ss mm aa bb me cd hc hK hO hr hk hA
  refine AW.to (lv' := [some (.ref (bx 0)), some (.int (nI q))]) rfl rfl rfl ?_
  refine a_iconst (pc' := 1) (v := nI 2) hc d_E_isQuorum_0 rfl (by decide) ?_
  refine a_iload_n (pc' := 2) hc d_E_isQuorum_1 rfl rfl rfl ?_
  refine a_nmul (pc' := 3) hc d_E_isQuorum_2 rfl ?_
  refine a_aload_n (pc' := 4) hc d_E_isQuorum_3 rfl rfl rfl ?_
  refine c_getE (pc' := 7) hc hK hx 1 (v := .ref (bx 1)) (by decide) (rfl) fl_E_36 d_E_isQuorum_4 rfl ?_
  refine c_dlen (pc' := 8) hc hK hx d_E_isQuorum_7 rfl ?_
  refine a_ncmp_le (pc' := 11) (tgt := 15) hc d_E_isQuorum_8 rfl rfl (by omega) (by omega) (fun h8 => ?_) (fun h8 => ?_)
  · skip
    refine a_iconst (pc' := 16) (v := nI 0) hc d_E_isQuorum_15 rfl (by decide) ?_
    exact a_zret hc hr hk (Or.inl rfl) d_E_isQuorum_16 (e_i (by first | rfl | (simp [quB, bI, h8]; done) | (simp [quB, bI, h8]; omega)) (rfl))
  · skip
    refine a_iconst (pc' := 12) (v := nI 1) hc d_E_isQuorum_11 rfl (by decide) ?_
    refine a_goto (tgt := 16) hc d_E_isQuorum_12 rfl ?_
    exact a_zret hc hr hk (Or.inr rfl) d_E_isQuorum_16 (e_i (by first | rfl | (simp [quB, bI, h8]; done) | (simp [quB, bI, h8]; omega)) (rfl))
theorem ct_E_isFew (hx : CX bx rl ca tys n E) (hh : HD bx n h)  : CC l y_E_isFew c_E_isFew 3 (some .boolean) 1 D tys A (cw bx rl ca n E τ κ tk h) [.ref (bx 0)] (some (.int (bI (fewB τ n)))) (cw bx rl ca n E τ κ tk h) := by
  obtain ⟨hn2, hn5⟩ := hx.2.2.1
  obtain ⟨hE2, hE10⟩ := hx.2.2.2
  refine CC.of (own := R_E) rfl (by decide) (Nat.le_of_ble_eq_true rfl) (cat_all rfl) ?_
  intro pp ee ss mm aa bb me cd hc hK hO hr hk hA
  refine AW.to (lv' := [some (.ref (bx 0)), none, none]) rfl rfl rfl ?_
  refine a_iconst (pc' := 1) (v := nI 0) hc d_E_isFew_0 rfl (by decide) ?_
  refine a_istore_n (pc' := 2) hc d_E_isFew_1 rfl rfl (by decide) ?_
  refine a_iconst (pc' := 3) (v := nI 0) hc d_E_isFew_2 rfl (by decide) ?_
  refine a_istore_n (pc' := 4) hc d_E_isFew_3 rfl rfl (by decide) ?_
  refine AW.lvi 1 (y := nI (cntL 0 (qH τ))) rfl (by first | rfl | (simp only [cntL_s, cntL_0, qH, fewB, bI]; done) | (simp [cntL_s, cntL_0, qH, fewB, bI]; done)) ?_
  refine AW.loop n 0 (fun d4 => cw bx rl ca n E τ κ tk h) (fun d4 => [some (.ref (bx 0)), some (.int (nI (cntL d4 (qH τ)))), some (.int (nI d4))]) (Nat.zero_le _) rfl rfl (fun d4 hle4 ih4 => ?_)
  try dsimp only at ih4 ⊢
  refine a_iload_n (pc' := 5) hc d_E_isFew_4 rfl rfl rfl ?_
  refine a_aload_n (pc' := 6) hc d_E_isFew_5 rfl rfl rfl ?_
  refine c_getE (pc' := 9) hc hK hx 1 (v := .ref (bx 1)) (by decide) (rfl) fl_E_36 d_E_isFew_6 rfl ?_
  refine c_dlen (pc' := 10) hc hK hx d_E_isFew_9 rfl ?_
  refine a_ncmp_ge (pc' := 13) (tgt := 34) hc d_E_isFew_10 rfl rfl (by omega) (by omega) (fun h10 => ?_) (fun h10 => ?_)
  · skip
    have hex10 : d4 = n := by omega
    subst d4
    have hc9 := cntL_le n (qH τ)
    refine a_aload_n (pc' := 35) hc d_E_isFew_34 rfl rfl rfl ?_
    refine a_iload_n (pc' := 36) hc d_E_isFew_35 rfl rfl rfl ?_
    refine c_calli (pc' := 39) hc hK hO hA (bx 0) [.int (nI (cntL n (qH τ)))] [] (ct_E_isQuorum hx hh (τ := τ) (κ := κ) (tk := tk) (h := h) (q := cntL n (qH τ)) (by omega)) ml_E_212 hd_E_isQuorum ⟨by decide, by decide⟩ rfl rfl (Nat.le_of_ble_eq_true rfl) (cw_at hx.1 (by omega)) rfl rfl d_E_isFew_36 rfl ?_
    refine a_ifb_ne (pc' := 42) (tgt := 46) hc d_E_isFew_39 rfl rfl (fun h39 => ?_) (fun h39 => ?_)
    · skip
      refine a_iconst (pc' := 47) (v := nI 0) hc d_E_isFew_46 rfl (by decide) ?_
      exact a_zret hc hr hk (Or.inl rfl) d_E_isFew_47 (e_i (by first | rfl | (simp only [cntL_s, cntL_0, qH, fewB, bI, h10, h39]; done) | (simp [cntL_s, cntL_0, qH, fewB, bI, h10, h39]; done)) (rfl))
    · skip
      refine a_iconst (pc' := 43) (v := nI 1) hc d_E_isFew_42 rfl (by decide) ?_
      refine a_goto (tgt := 47) hc d_E_isFew_43 rfl ?_
      exact a_zret hc hr hk (Or.inr rfl) d_E_isFew_47 (e_i (by first | rfl | (simp only [cntL_s, cntL_0, qH, fewB, bI, h10, h39]; done) | (simp [cntL_s, cntL_0, qH, fewB, bI, h10, h39]; done)) (rfl))
  · skip
    refine a_aload_n (pc' := 14) hc d_E_isFew_13 rfl rfl rfl ?_
    refine c_getE (pc' := 17) hc hK hx 1 (v := .ref (bx 1)) (by decide) (rfl) fl_E_36 d_E_isFew_14 rfl ?_
    refine a_iload_n (pc' := 18) hc d_E_isFew_17 rfl rfl rfl ?_
    refine c_ald (pc' := 19) hc hK hx d4 (by omega) d_E_isFew_18 rfl ?_
    refine c_getD (pc' := 22) hc hK hx d4 4 (v := .int (bI (tb (τ 1 d4)))) (by omega) (by decide) rfl fl_E_132 d_E_isFew_19 rfl ?_
    refine a_ifb_eq (pc' := 25) (tgt := 28) hc d_E_isFew_22 rfl rfl (fun h22 => ?_) (fun h22 => ?_)
    · skip
      refine a_ninc (pc' := 31) hc d_E_isFew_28 rfl rfl (by decide) ?_
      refine a_goto (tgt := 4) hc d_E_isFew_31 rfl ?_
      refine AW.lvi 1 (y := nI (cntL (d4 + 1) (qH τ))) rfl (by first | rfl | (simp only [cntL_s, cntL_0, qH, fewB, bI, h10, h22]; done) | (simp [cntL_s, cntL_0, qH, fewB, bI, h10, h22]; done)) ?_
      exact AW.to rfl rfl rfl (ih4 (by omega))
    · skip
      refine a_ninc (pc' := 28) hc d_E_isFew_25 rfl rfl (by decide) ?_
      refine a_ninc (pc' := 31) hc d_E_isFew_28 rfl rfl (by decide) ?_
      refine a_goto (tgt := 4) hc d_E_isFew_31 rfl ?_
      refine AW.lvi 1 (y := nI (cntL (d4 + 1) (qH τ))) rfl (by first | rfl | (simp only [cntL_s, cntL_0, qH, fewB, bI, h10, h22]; done) | (simp [cntL_s, cntL_0, qH, fewB, bI, h10, h22]; done)) ?_
      exact AW.to rfl rfl rfl (ih4 (by omega))
theorem ct_E_goDown (hx : CX bx rl ca tys n E) (hh : HD bx n h)  : CC l y_E_goDown c_E_goDown 1 none 0 D tys A (cw bx rl ca n E τ κ tk h) [.ref (bx 0)] none (cw bx rl ca n E (goT τ) κ tk h) := by
  obtain ⟨hn2, hn5⟩ := hx.2.2.1
  obtain ⟨hE2, hE10⟩ := hx.2.2.2
  refine CC.of (own := R_E) rfl (by decide) (Nat.le_of_ble_eq_true rfl) (cat_all rfl) ?_
  intro pp ee ss mm aa bb me cd hc hK hO hr hk hA
  refine AW.to (lv' := [some (.ref (bx 0))]) rfl rfl rfl ?_
  refine a_aload_n (pc' := 1) hc d_E_goDown_0 rfl rfl rfl ?_
  refine a_iconst (pc' := 2) (v := nI 0) hc d_E_goDown_1 rfl (by decide) ?_
  refine c_putE (pc' := 5) hc hK hx (τ' := ts τ 0 5 (nI 0)) (κ' := κ) 6 (by decide) (rfl) (⟨rfl, rfl, rfl, rfl⟩) (fun _ => rfl) rfl (rfl) (rfl) fl_E_60 d_E_goDown_2 rfl ?_
  refine a_aload_n (pc' := 6) hc d_E_goDown_5 rfl rfl rfl ?_
  refine a_iconst (pc' := 7) (v := -1) hc d_E_goDown_6 rfl (by decide) ?_
  refine c_putE (pc' := 10) hc hK hx (τ' := goT τ) (κ' := κ) 7 (by decide) (rfl) (⟨rfl, rfl, rfl, rfl⟩) (fun _ => rfl) rfl (rfl) (rfl) fl_E_64 d_E_goDown_7 rfl ?_
  exact a_vret hc hr hk d_E_goDown_10 (e_v (rfl))
theorem ct_E_mayAct (hx : CX bx rl ca tys n E) (hh : HD bx n h) (hac : tb (τ 0 7) = true → ¬ τ 0 8 < 0) : CC l y_E_mayAct c_E_mayAct 1 (some .boolean) 1 D tys A (cw bx rl ca n E τ κ tk h) [.ref (bx 0)] (some (.int (bI (!stB τ)))) (cw bx rl ca n E (stT τ) κ tk h) := by
  obtain ⟨hn2, hn5⟩ := hx.2.2.1
  obtain ⟨hE2, hE10⟩ := hx.2.2.2
  refine CC.of (own := R_E) rfl (by decide) (Nat.le_of_ble_eq_true rfl) (cat_all rfl) ?_
  intro pp ee ss mm aa bb me cd hc hK hO hr hk hA
  refine AW.to (lv' := [some (.ref (bx 0))]) rfl rfl rfl ?_
  refine a_aload_n (pc' := 1) hc d_E_mayAct_0 rfl rfl rfl ?_
  refine c_getE (pc' := 4) hc hK hx 7 (v := .int (acI τ)) (by decide) (rfl) fl_E_64 d_E_mayAct_1 rfl ?_
  refine a_if_ne (pc' := 7) (tgt := 13) hc d_E_mayAct_4 rfl rfl (fun h4 => ?_) (fun h4 => ?_)
  · skip
    refine a_aload_n (pc' := 14) hc d_E_mayAct_13 rfl rfl rfl ?_
    refine c_getE (pc' := 17) hc hK hx 7 (v := .int (acI τ)) (by decide) (rfl) fl_E_64 d_E_mayAct_14 rfl ?_
    refine a_if_le (pc' := 20) (tgt := 30) hc d_E_mayAct_17 rfl rfl (fun h17 => ?_) (fun h17 => ?_)
    · skip
      refine a_iconst (pc' := 31) (v := nI 1) hc d_E_mayAct_30 rfl (by decide) ?_
      exact a_zret hc hr hk (Or.inr rfl) d_E_mayAct_31 (e_i (by rw [ac_n h4]; rfl) (by first | rfl | exact un_st (ac_le hac h4 h17)))
    · skip
      refine a_aload_n (pc' := 21) hc d_E_mayAct_20 rfl rfl rfl ?_
      refine a_dup (pc' := 22) hc d_E_mayAct_21 rfl rfl ?_
      refine c_getE (pc' := 25) hc hK hx 7 (v := .int (acI τ)) (by decide) (rfl) fl_E_64 d_E_mayAct_22 rfl ?_
      refine a_iconst (pc' := 26) (v := nI 1) hc d_E_mayAct_25 rfl (by decide) ?_
      refine a_isub (pc' := 27) hc d_E_mayAct_26 rfl ?_
      refine c_putE (pc' := 30) hc hK hx (τ' := stT τ) (κ' := κ) 7 (by decide) (ac_gt h4 h17) (stT_rows τ) (fun _ => rfl) rfl (rfl) (rfl) fl_E_64 d_E_mayAct_27 rfl ?_
      refine a_iconst (pc' := 31) (v := nI 1) hc d_E_mayAct_30 rfl (by decide) ?_
      exact a_zret hc hr hk (Or.inr rfl) d_E_mayAct_31 (e_i (by rw [ac_n h4]; rfl) (by first | rfl | exact un_st (ac_le hac h4 h17)))
  · skip
    refine a_aload_n (pc' := 8) hc d_E_mayAct_7 rfl rfl rfl ?_
    refine c_callv (pc' := 11) hc hK hO hA (bx 0) [] [] (ct_E_goDown hx hh (τ := τ) (κ := κ) (tk := tk) (h := h)) ml_E_181 hd_E_goDown ⟨by decide, by decide⟩ rfl rfl (Nat.le_of_ble_eq_true rfl) (cw_at hx.1 (by omega)) rfl rfl d_E_mayAct_8 rfl ?_
    refine a_iconst (pc' := 12) (v := nI 0) hc d_E_mayAct_11 rfl (by decide) ?_
    exact a_zret hc hr hk (Or.inl rfl) d_E_mayAct_12 (e_i (by rw [ac_0 h4]; rfl) (go_st (ac_0 h4)))
theorem ct_E_cellAt (hx : CX bx rl ca tys n E) (hh : HD bx n h) {q c : Nat} (hq : q / 16 < n) (hq1 : q % 16 < E) (hq2 : q < 2 ^ 31) (hc4 : c < 4) : CC l y_E_cellAt c_E_cellAt 3 (some .int) 1 D tys A (cw bx rl ca n E τ κ tk h) [.ref (bx 0), .int (nI q), .int (nI c)] (some (.int (τ 2 (caN q c)))) (cw bx rl ca n E τ κ tk h) := by
  obtain ⟨hn2, hn5⟩ := hx.2.2.1
  obtain ⟨hE2, hE10⟩ := hx.2.2.2
  refine CC.of (own := R_E) rfl (by decide) (Nat.le_of_ble_eq_true rfl) (cat_all rfl) ?_
  intro pp ee ss mm aa bb me cd hc hK hO hr hk hA
  refine AW.to (lv' := [some (.ref (bx 0)), some (.int (nI q)), some (.int (nI c))]) rfl rfl rfl ?_
  refine a_aload_n (pc' := 1) hc d_E_cellAt_0 rfl rfl rfl ?_
  refine a_iload_n (pc' := 2) hc d_E_cellAt_1 rfl rfl rfl ?_
  refine c_callr (pc' := 5) hc hK hO hA (bx 0) [.int (nI q)] [] (ct_E_diskOf hx hh (τ := τ) (κ := κ) (tk := tk) (h := h) (q := q) (by omega) (by omega)) ml_E_128 hd_E_diskOf ⟨by decide, by decide⟩ rfl rfl (Nat.le_of_ble_eq_true rfl) (cw_at hx.1 (by omega)) rfl rfl d_E_cellAt_2 rfl ?_
  refine c_getD (pc' := 8) hc hK hx (q / 16) 0 (v := .ref (bx (4 + 4 * (q / 16)))) (by omega) (by decide) rfl fl_E_215 d_E_cellAt_5 rfl ?_
  refine a_iload_n (pc' := 9) hc d_E_cellAt_8 rfl rfl rfl ?_
  refine a_bipush (pc' := 11) (v := nI 16) hc d_E_cellAt_9 rfl (by decide) ?_
  refine a_nrem (pc' := 12) hc d_E_cellAt_11 rfl (by omega) (by omega) (by omega) ?_
  refine a_iconst (pc' := 13) (v := nI 4) hc d_E_cellAt_12 rfl (by decide) ?_
  refine a_nmul (pc' := 14) hc d_E_cellAt_13 rfl ?_
  refine a_iload_n (pc' := 15) hc d_E_cellAt_14 rfl rfl rfl ?_
  refine a_nadd (pc' := 16) hc d_E_cellAt_15 rfl ?_
  refine c_cald (pc' := 17) hc hK hx (q / 16) (((q % 16) * 4) + c) (by omega) (by omega) d_E_cellAt_16 rfl ?_
  exact a_iret hc hr hk d_E_cellAt_17 (e_i (congrArg (τ 2) (by unfold caN; omega)) (rfl))
theorem ct_E_putCell (hx : CX bx rl ca tys n E) (hh : HD bx n h) {q c : Nat} {v : Int32} (hac : tb (τ 0 7) = true → ¬ τ 0 8 < 0) (hq : q / 16 < n) (hq1 : q % 16 < E) (hq2 : q < 2 ^ 31) (hc4 : c < 4) : CC l y_E_putCell c_E_putCell 4 (some .boolean) 2 D tys A (cw bx rl ca n E τ κ tk h) [.ref (bx 0), .int (nI q), .int (nI c), .int v] (some (.int (bI (!stB τ)))) (cw bx rl ca n E (pcT τ q c v) κ tk h) := by
  obtain ⟨hn2, hn5⟩ := hx.2.2.1
  obtain ⟨hE2, hE10⟩ := hx.2.2.2
  refine CC.of (own := R_E) rfl (by decide) (Nat.le_of_ble_eq_true rfl) (cat_all rfl) ?_
  intro pp ee ss mm aa bb me cd hc hK hO hr hk hA
  refine AW.to (lv' := [some (.ref (bx 0)), some (.int (nI q)), some (.int (nI c)), some (.int v)]) rfl rfl rfl ?_
  refine a_aload_n (pc' := 1) hc d_E_putCell_0 rfl rfl rfl ?_
  refine c_calli (pc' := 4) hc hK hO hA (bx 0) [] [] (ct_E_mayAct hx hh (τ := τ) (κ := κ) (tk := tk) (h := h) hac) ml_E_218 hd_E_mayAct ⟨by decide, by decide⟩ rfl rfl (Nat.le_of_ble_eq_true rfl) (cw_at hx.1 (by omega)) rfl rfl d_E_putCell_1 rfl ?_
  refine a_ifb_ne (pc' := 7) (tgt := 9) hc d_E_putCell_4 rfl rfl (fun h4 => ?_) (fun h4 => ?_)
  · skip
    refine a_aload_n (pc' := 10) hc d_E_putCell_9 rfl rfl rfl ?_
    refine a_iload_n (pc' := 11) hc d_E_putCell_10 rfl rfl rfl ?_
    refine c_callr (pc' := 14) hc hK hO hA (bx 0) [.int (nI q)] [] (ct_E_diskOf hx hh (τ := stT τ) (κ := κ) (tk := tk) (h := h) (q := q) (by omega) (by omega)) ml_E_128 hd_E_diskOf ⟨by decide, by decide⟩ rfl rfl (Nat.le_of_ble_eq_true rfl) (cw_at hx.1 (by omega)) rfl rfl d_E_putCell_11 rfl ?_
    refine c_getD (pc' := 17) hc hK hx (q / 16) 0 (v := .ref (bx (4 + 4 * (q / 16)))) (by omega) (by decide) rfl fl_E_215 d_E_putCell_14 rfl ?_
    refine a_iload_n (pc' := 18) hc d_E_putCell_17 rfl rfl rfl ?_
    refine a_bipush (pc' := 20) (v := nI 16) hc d_E_putCell_18 rfl (by decide) ?_
    refine a_nrem (pc' := 21) hc d_E_putCell_20 rfl (by omega) (by omega) (by omega) ?_
    refine a_iconst (pc' := 22) (v := nI 4) hc d_E_putCell_21 rfl (by decide) ?_
    refine a_nmul (pc' := 23) hc d_E_putCell_22 rfl ?_
    refine a_iload_n (pc' := 24) hc d_E_putCell_23 rfl rfl rfl ?_
    refine a_nadd (pc' := 25) hc d_E_putCell_24 rfl ?_
    refine a_iload_n (pc' := 26) hc d_E_putCell_25 rfl rfl rfl ?_
    refine c_cast (pc' := 27) hc hK hx (q / 16) (((q % 16) * 4) + c) (by omega) (by omega) d_E_putCell_26 rfl ?_
    refine a_iconst (pc' := 28) (v := nI 1) hc d_E_putCell_27 rfl (by decide) ?_
    exact a_zret hc hr hk (Or.inr rfl) d_E_putCell_28 (e_i (by rw [h4]; rfl) (by simp at h4; rw [pcT, if_neg (by rw [h4]; decide)]; congr 2; unfold caN; omega))
  · skip
    refine a_iconst (pc' := 8) (v := nI 0) hc d_E_putCell_7 rfl (by decide) ?_
    exact a_zret hc hr hk (Or.inl rfl) d_E_putCell_8 (e_i (by rw [h4]; rfl) (by simp at h4; simp [pcT, h4]))
end
section
/-! ===== Int32 by its bits: bt x i ===== -/
def bt (x : Int32) (i : Nat) : Bool := x.toBitVec.getLsbD i
theorem b_ext {x y : Int32} (h : ∀ i, i < 32 → bt x i = bt y i) : x = y := Int32.toBitVec_inj.mp (BitVec.eq_of_getLsbD_eq (fun i hi => h i hi))
theorem b_or (x y : Int32) (i : Nat) : bt (x ||| y) i = (bt x i || bt y i) := by unfold bt; rw [Int32.toBitVec_or, BitVec.getLsbD_or]
theorem b_and (x y : Int32) (i : Nat) : bt (x &&& y) i = (bt x i && bt y i) := by unfold bt; rw [Int32.toBitVec_and, BitVec.getLsbD_and]
theorem b_xor (x y : Int32) (i : Nat) : bt (x ^^^ y) i = (bt x i ^^ bt y i) := by unfold bt; rw [Int32.toBitVec_xor, BitVec.getLsbD_xor]
theorem b_big {x : Int32} {i : Nat} (h : 32 ≤ i) : bt x i = false := BitVec.getLsbD_of_ge _ _ h
theorem b_0 (i : Nat) : bt 0 i = false := BitVec.getLsbD_zero
theorem s_l : ∀ n, n < 32 → ((nI n &&& 31).toBitVec.smod 32).toNat = n := by decide +kernel
theorem s_u : ∀ n, n < 32 → (((nI n).toUInt32 &&& Int32.toUInt32 31).toBitVec % 32).toNat = n := by decide +kernel
theorem b_shl (n : Nat) (hn : n < 32) (x : Int32) {i : Nat} (hi : i < 32) : bt (x <<< (nI n &&& 31)) i = (decide (n ≤ i) && bt x (i - n)) := by
  unfold bt
  rw [Int32.toBitVec_shiftLeft]
  show (x.toBitVec <<< ((nI n &&& 31).toBitVec.smod 32).toNat).getLsbD i = _
  rw [s_l n hn, BitVec.getLsbD_shiftLeft]
  rcases Nat.lt_or_ge i n with h | h
  · simp [h, Nat.not_le.mpr h]
  · simp [hi, h, Nat.not_lt.mpr h]
/-! Masks out of predicates -/
theorem bt_nI (m i : Nat) (hi : i < 32) : bt (nI m) i = m.testBit i := by
  show (BitVec.ofNat 32 m).getLsbD i = _
  rw [BitVec.getLsbD_ofNat]
  simp [hi]
theorem mk_tb (q : Nat → Bool) (E i : Nat) : (mkL q E).testBit i = (decide (i < E) && q i) := by
  rw [Nat.testBit_eq_decide_div_mod_eq]
  by_cases h : i < E
  · rw [mk_bit q E i h]
    cases hq : q i <;> simp [h]
  · have hl : mkL q E < 2 ^ i := Nat.lt_of_lt_of_le (mkL_lt q E) (Nat.pow_le_pow_right (by decide) (by omega))
    rw [Nat.div_eq_of_lt hl]
    simp [h]
theorem bt_mk (q : Nat → Bool) (E : Nat) {i : Nat} (hi : i < 32) : bt (nI (mkL q E)) i = (decide (i < E) && q i) := by rw [bt_nI _ _ hi, mk_tb]
theorem bt_1 : ∀ j, j < 32 → bt (nI 1) j = decide (j = 0) := by decide +kernel
theorem bt_sh {e i : Nat} (he : e < 32) (hi : i < 32) : bt (nI 1 <<< (nI e &&& 31)) i = decide (i = e) := by
  rw [b_shl e he _ hi, bt_1 _ (by omega)]
  by_cases h : i = e
  · subst h; simp
  · by_cases h2 : e ≤ i
    · simp [h2, h]; omega
    · simp [h2, h]
theorem mk_or {q : Nat → Bool} {E e : Nat} (he : e < E) (hE : E ≤ 31) : nI (mkL q E) ||| nI 1 <<< (nI e &&& 31) = nI (mkL (fun i => q i || decide (i = e)) E) := by
  refine b_ext fun i hi => ?_
  rw [b_or, bt_mk _ _ hi, bt_mk _ _ hi, bt_sh (by omega) hi]
  by_cases h : i = e
  · subst h; simp [he]
  · simp [h]
theorem mk_and {q : Nat → Bool} {E e : Nat} (he : e < E) (hE : E ≤ 31) : (nI (mkL q E) &&& nI 1 <<< (nI e &&& 31)) = 0 ↔ q e = false := by
  constructor
  · intro h
    have h1 : bt (nI (mkL q E) &&& nI 1 <<< (nI e &&& 31)) e = bt 0 e := by rw [h]
    rw [b_and, bt_mk _ _ (by omega), bt_sh (by omega) (by omega), b_0] at h1
    simpa [he] using h1
  · intro h
    refine b_ext fun i hi => ?_
    rw [b_and, bt_mk _ _ hi, bt_sh (by omega) hi, b_0]
    by_cases h2 : i = e
    · subst h2; simp [h]
    · simp [h2]
theorem mkL_congr {q r : Nat → Bool} {E : Nat} (h : ∀ i, i < E → q i = r i) : mkL q E = mkL r E := by
  induction E with
  | zero => rfl
  | succ n ih => unfold mkL; rw [ih (fun i hi => h i (by omega)), h n (by omega)]
def bcE (x : Int32) : Int32 :=
  let a := x - ((x.toUInt32 >>> ((nI 1).toUInt32 &&& Int32.toUInt32 31)).toInt32 &&& 1431655765)
  let b := (a &&& 858993459) + ((a.toUInt32 >>> ((nI 2).toUInt32 &&& Int32.toUInt32 31)).toInt32 &&& 858993459)
  let c := (b + (b.toUInt32 >>> ((nI 4).toUInt32 &&& Int32.toUInt32 31)).toInt32) &&& 252645135
  let d := c + (c.toUInt32 >>> ((nI 8).toUInt32 &&& Int32.toUInt32 31)).toInt32
  let e := d + (d.toUInt32 >>> ((nI 16).toUInt32 &&& Int32.toUInt32 31)).toInt32
  e &&& nI 63
def pcN (m : Nat) : Nat := cntL 10 (fun e => decide (m / 2 ^ e % 2 = 1))
theorem bc_tab : ((List.range 1024).all fun m => decide (bcE (nI m) = nI (pcN m))) = true := by decide +kernel
theorem bc_ok {m : Nat} (h : m < 1024) : bcE (nI m) = nI (pcN m) := of_decide_eq_true (List.all_eq_true.mp bc_tab m (List.mem_range.mpr h))
theorem cntL_more {q : Nat → Bool} {E : Nat} : ∀ k, (∀ i, E ≤ i → q i = false) → cntL (E + k) q = cntL E q
  | 0, _ => rfl
  | k + 1, h => by
    show cntL (E + k) q + (if q (E + k) then 1 else 0) = _
    rw [h (E + k) (by omega), cntL_more k h]
    rfl
theorem pc_mk {q : Nat → Bool} {E : Nat} (hE : E ≤ 10) : pcN (mkL q E) = cntL E q := by
  unfold pcN
  have h1 : ∀ e, decide (mkL q E / 2 ^ e % 2 = 1) = (decide (e < E) && q e) := fun e => by rw [← Nat.testBit_eq_decide_div_mod_eq, mk_tb]
  have h2 : cntL 10 (fun e => decide (mkL q E / 2 ^ e % 2 = 1)) = cntL (E + (10 - E)) (fun e => decide (e < E) && q e) := by
    rw [show E + (10 - E) = 10 by omega]
    exact cntL_congr (fun i _ => h1 i)
  rw [h2, cntL_more _ (fun i hi => by simp [Nat.not_lt.mpr hi])]
  exact cntL_congr (fun i hi => by simp [hi])
theorem cntL_not (q : Nat → Bool) : ∀ E, cntL E q + cntL E (fun e => !q e) = E
  | 0 => rfl
  | E + 1 => by
    have h := cntL_not q E
    rw [cntL_s, cntL_s]
    cases q E <;> simp <;> omega
section JDK
variable {p : Program} {l : Launch} {e : Env} {R : Room} {s : State} {m : MethodId} {args : Array Value} {below : List Frame} {meth : Method} {c : Code} {D : va_G} {cl : List vw_C} {A : Nat → Prop} {nL : Nat} {Q : State → Prop}
variable {f : Nat → Option va_E} {k n pc pc' : Nat} {lv : List (Option Value)} {st : List Value} {cc : ByteArray} {c0 : Cond} {own : String} {tys : List (ClassId × FieldType)}
theorem a_ldcw (hc : CallFix p m c cc nL s args (c0 :: WS) own) {index : Nat} {v : Int32} (hw : Cond.constant own index v ∈ WS) (hdg : decode cc pc = .ok (.ldc_w index, 3)) (hp : pc + 3 = pc') (kk : AW p l e R s m args below meth c D cl A nL Q f k n pc' lv (.int v :: st)) : AW p l e R s m args below meth c D cl A nL Q f k n pc lv st := by
  subst hp
  exact fun H locs ls hf hd hS hl => lv_ldcw hc.1 hc.2.1 hc.2.2.2.1 (hc.2.2.2.2 _ (List.mem_cons_of_mem _ hw)) hdg (kk H locs ls hf hd hS hl)
/-- a call of a static method of another's, its words out of WS -/
theorem a_cS (hc : CallFix p m c cc nL s args (c0 :: WS) own) (hK : va_K D cl tys s) (hO : AO3 s) (hA : ∀ q : Nat, s.heap.size ≤ q → A q) {y : MethodName} {bytes : ByteArray} {maxL : Nat} {ret : Option FieldType} {rm : Room} {mc ms nA index : Nat} {C : String} {As rest : List Value} {post : Option Value → (Nat → Option va_E) → Prop}
    (hM : CT l y (Cond.code y bytes maxL ret :: WS) rm D cl tys A f As post mc ms) (hml : (Cond.methodLink own index y ∈ WS ∧ Cond.code y bytes maxL ret ∈ WS ∧ Cond.initialized C ∈ WS) ∧ Cond.static y ∈ WS)
    (hd : y.cls = C ∧ y.cls ≠ "java/lang/invoke/MethodHandle" ∧ y.cls ≠ "java/lang/invoke/VarHandle" ∧ (parseMethodDescriptor y.desc).map (fun d => d.parameters.length) = some nA) (hrc : rm.cells = mc) (hrs : rm.slots = ms) (hR : rm.frames + 1 ≤ R.frames ∧ 8 + (maxL + 11) + rm.locals ≤ R.locals)
    (hn : As.length = nA) (hst : st = As.reverse ++ rest) (hW : (rest.map fun v => v.category).sum ≤ 8) (hdg : decode cc pc = .ok (.invokestatic index, 3)) (hp : pc + 3 = pc') (hf0 : k + mc ≤ R.cells ∧ n + ms ≤ R.slots)
    (kk : ∀ (v : Option Value) (f' : Nat → Option va_E), post v f' → AW p l e R s m args below meth c D cl A nL Q f' (k + mc) (n + ms) pc' lv (v.toList ++ rest)) : AW p l e R s m args below meth c D cl A nL Q f k n pc lv st := by
  have ok : ∀ {w : Cond}, w ∈ WS → w.before args s = true := fun h => hc.2.2.2.2 _ (List.mem_cons_of_mem _ h)
  refine a_callS hc hK hO hA hM ⟨callB_of nA hc.2.2.2.2 (ws_in hml.1.2.1) rfl hrc hrs ?_ (ok hml.1.1) hd.2 hR, ok hml.2⟩ hn hst hW hdg hp hf0 kk
  rw [hd.1]
  exact ok hml.1.2.2
end JDK
end
section
variable {l : Launch} {D : va_G} {tys : List (ClassId × FieldType)} {A : Nat → Prop} {f : Nat → Option va_E}
theorem ct_JI_bitCount {x : Int32} : CC l y_JI_bitCount c_JI_bitCount 1 (some .int) 0 D tys A (f) [.int x] (some (.int (bcE x))) (f) := by
  refine CC.of (own := R_JI) rfl (by decide) (Nat.le_of_ble_eq_true rfl) (cat_all rfl) ?_
  intro pp ee ss mm aa bb me cd hc hK hO hr hk hA
  refine AW.to (lv' := [some (.int x)]) rfl rfl rfl ?_
  refine a_iload_n (pc' := 1) hc d_JI_bitCount_0 rfl rfl rfl ?_
  refine a_iload_n (pc' := 2) hc d_JI_bitCount_1 rfl rfl rfl ?_
  refine a_iconst (pc' := 3) (v := nI 1) hc d_JI_bitCount_2 rfl (by decide) ?_
  refine a_iushr (pc' := 4) hc d_JI_bitCount_3 rfl ?_
  refine a_ldcw (pc' := 7) hc kc_JI_265 d_JI_bitCount_4 rfl ?_
  refine a_iand (pc' := 8) hc d_JI_bitCount_7 rfl ?_
  refine a_isub (pc' := 9) hc d_JI_bitCount_8 rfl ?_
  refine a_istore_n (pc' := 10) hc d_JI_bitCount_9 rfl rfl (by decide) ?_
  refine a_iload_n (pc' := 11) hc d_JI_bitCount_10 rfl rfl rfl ?_
  refine a_ldcw (pc' := 14) hc kc_JI_266 d_JI_bitCount_11 rfl ?_
  refine a_iand (pc' := 15) hc d_JI_bitCount_14 rfl ?_
  refine a_iload_n (pc' := 16) hc d_JI_bitCount_15 rfl rfl rfl ?_
  refine a_iconst (pc' := 17) (v := nI 2) hc d_JI_bitCount_16 rfl (by decide) ?_
  refine a_iushr (pc' := 18) hc d_JI_bitCount_17 rfl ?_
  refine a_ldcw (pc' := 21) hc kc_JI_266 d_JI_bitCount_18 rfl ?_
  refine a_iand (pc' := 22) hc d_JI_bitCount_21 rfl ?_
  refine a_iadd (pc' := 23) hc d_JI_bitCount_22 rfl ?_
  refine a_istore_n (pc' := 24) hc d_JI_bitCount_23 rfl rfl (by decide) ?_
  refine a_iload_n (pc' := 25) hc d_JI_bitCount_24 rfl rfl rfl ?_
  refine a_iload_n (pc' := 26) hc d_JI_bitCount_25 rfl rfl rfl ?_
  refine a_iconst (pc' := 27) (v := nI 4) hc d_JI_bitCount_26 rfl (by decide) ?_
  refine a_iushr (pc' := 28) hc d_JI_bitCount_27 rfl ?_
  refine a_iadd (pc' := 29) hc d_JI_bitCount_28 rfl ?_
  refine a_ldcw (pc' := 32) hc kc_JI_267 d_JI_bitCount_29 rfl ?_
  refine a_iand (pc' := 33) hc d_JI_bitCount_32 rfl ?_
  refine a_istore_n (pc' := 34) hc d_JI_bitCount_33 rfl rfl (by decide) ?_
  refine a_iload_n (pc' := 35) hc d_JI_bitCount_34 rfl rfl rfl ?_
  refine a_iload_n (pc' := 36) hc d_JI_bitCount_35 rfl rfl rfl ?_
  refine a_bipush (pc' := 38) (v := nI 8) hc d_JI_bitCount_36 rfl (by decide) ?_
  refine a_iushr (pc' := 39) hc d_JI_bitCount_38 rfl ?_
  refine a_iadd (pc' := 40) hc d_JI_bitCount_39 rfl ?_
  refine a_istore_n (pc' := 41) hc d_JI_bitCount_40 rfl rfl (by decide) ?_
  refine a_iload_n (pc' := 42) hc d_JI_bitCount_41 rfl rfl rfl ?_
  refine a_iload_n (pc' := 43) hc d_JI_bitCount_42 rfl rfl rfl ?_
  refine a_bipush (pc' := 45) (v := nI 16) hc d_JI_bitCount_43 rfl (by decide) ?_
  refine a_iushr (pc' := 46) hc d_JI_bitCount_45 rfl ?_
  refine a_iadd (pc' := 47) hc d_JI_bitCount_46 rfl ?_
  refine a_istore_n (pc' := 48) hc d_JI_bitCount_47 rfl rfl (by decide) ?_
  refine a_iload_n (pc' := 49) hc d_JI_bitCount_48 rfl rfl rfl ?_
  refine a_bipush (pc' := 51) (v := nI 63) hc d_JI_bitCount_49 rfl (by decide) ?_
  refine a_iand (pc' := 52) hc d_JI_bitCount_51 rfl ?_
  exact a_iret hc hr hk d_JI_bitCount_52 (e_i (by first | rfl | (simp only []; done) | (simp []; done)) (rfl))
theorem ct_JA_fill {ca0 : ClassId} {a N : Nat} {g : Nat → Int32} {v : Int32} (h0 : tys[0]? = some (ca0, .int)) (hN : N < 2 ^ 31) (ha : f a = some (.inl (ca0, N, .inl g))) : CC l y_JA_fill c_JA_fill 4 none 0 D tys A f [.ref a, .int v] none (va_up f a (some (.inl (ca0, N, .inl (fun j => if j < N then v else g j))))) := by
  have hz : va_up f a (some (.inl (ca0, N, .inl (fun j => if j < 0 then v else g j)))) = f := by
    have e1 : (fun j => if j < 0 then v else g j) = g := by
      funext j
      rw [if_neg (by omega)]
    rw [e1, ← ha, va_up_id]
  refine CC.of (own := R_JA) rfl (by decide) (Nat.le_of_ble_eq_true rfl) (cat_all rfl) ?_
  intro pp ee ss mm aa bb me cd hc hK hO hr hk hA
  refine AW.to (lv' := [some (.ref a), some (.int v), none, none]) rfl rfl rfl ?_
  refine a_iconst (v := nI 0) (pc' := 1) hc d_JA_fill_0 rfl (by decide) ?_
  refine a_istore_n (pc' := 2) hc d_JA_fill_1 rfl rfl (by decide) ?_
  refine a_aload_n (pc' := 3) hc d_JA_fill_2 rfl rfl rfl ?_
  refine a_alen (pc' := 4) (x := (N, .inl g)) hc hK 0 ha h0 d_JA_fill_3 rfl ?_
  refine a_istore_n (pc' := 5) hc d_JA_fill_4 rfl rfl (by decide) ?_
  refine AW.loop N 0 (fun i => va_up f a (some (.inl (ca0, N, .inl (fun j => if j < i then v else g j))))) (fun i => [some (.ref a), some (.int v), some (.int (nI i)), some (.int (nI N))]) (Nat.zero_le _) hz rfl (fun i hle ih => ?_)
  try dsimp only at ih ⊢
  refine a_iload_n (pc' := 6) hc d_JA_fill_5 rfl rfl rfl ?_
  refine a_iload_n (pc' := 7) hc d_JA_fill_6 rfl rfl rfl ?_
  refine a_ncmp_ge (pc' := 10) (tgt := 20) hc d_JA_fill_7 rfl rfl (by omega) (by omega) (fun h7 => ?_) (fun h7 => ?_)
  · have hi : i = N := by omega
    subst i
    exact a_vret hc hr hk d_JA_fill_20 (e_v rfl)
  · refine a_aload_n (pc' := 11) hc d_JA_fill_10 rfl rfl rfl ?_
    refine a_iload_n (pc' := 12) hc d_JA_fill_11 rfl rfl rfl ?_
    refine a_iload_n (pc' := 13) hc d_JA_fill_12 rfl rfl rfl ?_
    refine a_iast (pc' := 14) hc hK (N := N) (g := fun j => if j < i then v else g j) 0 (va_up_self _ _ _) h0 (vp_in_nI h7 hN) d_JA_fill_13 rfl ?_
    rw [nI_clamp (by omega), va_up_up]
    have e2 : upd (fun j => if j < i then v else g j) i v = fun j => if j < i + 1 then v else g j := by
      funext j
      by_cases hj : j = i
      · subst hj
        rw [pk_us, if_pos (by omega)]
      · rw [pk_un hj]
        by_cases h2 : j < i
        · rw [if_pos h2, if_pos (by omega)]
        · rw [if_neg h2, if_neg (by omega)]
    rw [e2]
    refine a_ninc (pc' := 17) hc d_JA_fill_14 rfl rfl (by decide) ?_
    refine a_goto (tgt := 5) hc d_JA_fill_17 rfl ?_
    exact AW.to rfl rfl rfl (ih (by omega))
end
section
/-! Marks of the places in use, as masks; rows for calls of static methods, and for marks. -/
def tkF (u : Nat → Bool) (E d : Nat) : Int32 := nI (mkL (fun e => u (16 * d + e)) E)
theorem tk_take {u : Nat → Bool} {E q : Nat} (hE : E ≤ 10) (hq : q % 16 < E) : upd (tkF u E) (q / 16) (tkF u E (q / 16) ||| nI 1 <<< (nI (q % 16) &&& 31)) = tkF (fun x => u x || decide (x = q)) E := by
  funext d
  by_cases hd : d = q / 16
  · subst hd
    rw [pk_us]
    unfold tkF
    rw [mk_or hq (by omega)]
    congr 1
    refine mkL_congr fun i hi => ?_
    have : decide (i = q % 16) = decide (16 * (q / 16) + i = q) := decide_eq_decide.mpr (by omega)
    rw [this]
  · rw [pk_un hd]
    unfold tkF
    congr 1
    refine mkL_congr fun i hi => ?_
    have : decide (16 * d + i = q) = false := decide_eq_false (by omega)
    show u (16 * d + i) = (u (16 * d + i) || decide (16 * d + i = q))
    rw [this, Bool.or_false]
def frU (u : Nat → Bool) (E d : Nat) : Nat := cntL E (fun e => !u (16 * d + e))
theorem frU_le (u : Nat → Bool) (E d : Nat) : frU u E d ≤ E := cntL_le _ _
theorem tk_cnt {u : Nat → Bool} {E d : Nat} (hE : E ≤ 10) : bcE (tkF u E d) = nI (cntL E (fun e => u (16 * d + e))) := by
  unfold tkF
  rw [bc_ok (Nat.lt_of_lt_of_le (mkL_lt _ E) (Nat.le_trans (Nat.pow_le_pow_right (by decide) hE) (by decide))), pc_mk hE]
def lfU (u : Nat → Bool) (E d : Nat) : Int32 := if fsL (fun e => !u (16 * d + e)) E < E then nI (16 * d + fsL (fun e => !u (16 * d + e)) E) else -1
theorem lfU_hit {u : Nat → Bool} {E d e : Nat} (h : ∀ j, j < e → (fun e => !u (16 * d + e)) j = false) (he : u (16 * d + e) = false) (hE : e < E) : nI (16 * d + e) = lfU u E d := by
  unfold lfU
  rw [fsL_hit (q := fun e => !u (16 * d + e)) (by show (!u (16 * d + e)) = true; rw [he]; rfl) h E hE, if_pos hE]
theorem lfU_miss {u : Nat → Bool} {E d : Nat} (h : ∀ j, j < E → (fun e => !u (16 * d + e)) j = false) : -1 = lfU u E d := by
  unfold lfU
  rw [fsL_miss h, if_neg (Nat.lt_irrefl _)]
theorem tk_bit {u : Nat → Bool} {E d e : Nat} (hE : E ≤ 10) (he : e < E) : (tkF u E d &&& nI 1 <<< (nI e &&& 31)) = 0 ↔ u (16 * d + e) = false := mk_and (q := fun e => u (16 * d + e)) he (by omega)
def mV (τ : TS) (mp q : Nat) : Nat → Bool
  | 0 => false
  | v + 1 => orA (mV τ mp q v) (exN τ mp v) (fun k => decide (q = gN τ mp (15 * v + 3 + k)))
theorem orA_b (b : Bool) : ∀ (n : Nat) (q : Nat → Bool), orA b n q = (b || orA false n q)
  | 0, q => by simp [orA]
  | n + 1, q => by rw [orA_s, orA_s, orA_b b n q, Bool.or_assoc]
theorem orA_congr {b : Bool} {n : Nat} {q r : Nat → Bool} (h : ∀ i, i < n → q i = r i) : orA b n q = orA b n r := by
  induction n with
  | zero => rfl
  | succ n ih => rw [orA_s, orA_s, ih (fun i hi => h i (by omega)), h n (by omega)]
theorem uL_mV {τ : TS} {mp q : Nat} (hw : WFm τ mp) (hq : q < 2 ^ 31) : ∀ v, v ≤ 4 → uL τ mp q v = (uL τ mp q 0 || mV τ mp q v)
  | 0, _ => by
    show _ = (_ || false)
    rw [Bool.or_false]
  | v + 1, hv => by
    have hx := hw.ex (v := v) (by omega)
    have h1 : ∀ i, i < exN τ mp v → qU τ mp q v i = decide (q = gN τ mp (15 * v + 3 + i)) := fun i hi => by
      unfold qU
      rw [hw.n (i := 15 * v + 3 + i) (by omega) (by omega)]
      refine decide_eq_decide.mpr ⟨fun h => ((nI_eq (gN_lt _ _ _) hq).mp h).symm, fun h => by rw [← h]⟩
    show orA (uL τ mp q v) (exN τ mp v) (qU τ mp q v) = (_ || orA (mV τ mp q v) (exN τ mp v) _)
    rw [orA_congr h1, orA_b, uL_mV hw hq v (by omega), orA_b (mV τ mp q v), Bool.or_assoc]
/-- the roomiest disk: (best, most) after d disks -/
def rmL (τ : TS) (u : Nat → Bool) (E : Nat) (P : Nat → Bool) : Nat → Option Nat × Nat
  | 0 => (none, 0)
  | d + 1 => if tb (τ 1 d) && (!P d && decide ((rmL τ u E P d).2 < frU u E d)) then (some d, frU u E d) else rmL τ u E P d
theorem rmL_le (τ : TS) (u : Nat → Bool) (E : Nat) (P : Nat → Bool) : ∀ d, (rmL τ u E P d).2 ≤ E
  | 0 => Nat.zero_le _
  | d + 1 => by
    unfold rmL
    split
    · exact frU_le _ _ _
    · exact rmL_le τ u E P d
theorem rmL_lt (τ : TS) (u : Nat → Bool) (E : Nat) (P : Nat → Bool) : ∀ d b, (rmL τ u E P d).1 = some b → b < d
  | 0, b, h => by simp [rmL] at h
  | d + 1, b, h => by
    unfold rmL at h
    split at h
    · cases h; omega
    · have := rmL_lt τ u E P d b h
      omega
def rmQ (τ : TS) (u : Nat → Bool) (n E : Nat) (P : Nat → Bool) : Option Nat := (rmL τ u E P n).1
/-- the disks that are picked, after i picks -/
def pkS (τ : TS) (u : Nat → Bool) (n E : Nat) : Nat → Nat → Bool
  | 0 => fun _ => false
  | i + 1 => fun d => pkS τ u n E i d || decide (rmQ τ u n E (pkS τ u n E i) = some d)
def qK (τ : TS) (u : Nat → Bool) (n E i : Nat) : Bool := (rmQ τ u n E (pkS τ u n E i)).isNone
def pkI (τ : TS) (u : Nat → Bool) (n E w : Nat) : Int32 := if fsL (qK τ u n E) w < w then nI 0 else nI (mkL (pkS τ u n E w) n)
theorem pk_stop {τ : TS} {u : Nat → Bool} {n E w i : Nat} (hG : ∀ j, j < i → qK τ u n E j = false) (hi : i < w) (h : rmQ τ u n E (pkS τ u n E i) = none) : nI 0 = pkI τ u n E w := by
  unfold pkI
  rw [fsL_hit (q := qK τ u n E) (by unfold qK; rw [h]; rfl) hG w hi, if_pos hi]
theorem pk_done {τ : TS} {u : Nat → Bool} {n E w : Nat} (hG : ∀ j, j < w → qK τ u n E j = false) : nI (mkL (pkS τ u n E w) n) = pkI τ u n E w := by
  unfold pkI
  rw [fsL_miss hG, if_neg (Nat.lt_irrefl _)]
theorem pk_s {τ : TS} {u : Nat → Bool} {n E i b : Nat} (h : rmQ τ u n E (pkS τ u n E i) = some b) (hb : b < n) (hn : n ≤ 31) : nI (mkL (pkS τ u n E (i + 1)) n) = nI (mkL (pkS τ u n E i) n) ||| nI 1 <<< (nI b &&& 31) := by
  rw [mk_or hb hn]
  congr 1
  refine mkL_congr fun d _ => ?_
  show (pkS τ u n E i d || decide (rmQ τ u n E (pkS τ u n E i) = some d)) = _
  rw [h]
  congr 1
  exact decide_eq_decide.mpr ⟨fun q => (Option.some.inj q).symm, fun q => by rw [q]⟩
section CST
variable {p : Program} {l : Launch} {e : Env} {R : Room} {s : State} {m : MethodId} {args : Array Value} {below : List Frame} {meth : Method} {c : Code} {D : va_G} {A : Nat → Prop} {nL : Nat} {Q : State → Prop}
variable {k nn pc pc' : Nat} {lv : List (Option Value)} {st : List Value} {cc : ByteArray} {c0 : Cond} {tys : List (ClassId × FieldType)} {own : String} {f f1 : Nat → Option va_E}
theorem c_calls (hc : CallFix p m c cc nL s args (c0 :: WS) own) (hK : va_K D vcl tys s) (hO : AO3 s) (hA : ∀ q : Nat, s.heap.size ≤ q → A q) {y : MethodName} {bytes : ByteArray} {maxL : Nat} {ret : Option FieldType} {k1 kR nA index : Nat} {C : String} (As rest : List Value) {x : Int32}
    (hM : CC l y bytes maxL ret k1 D tys A f As (some (.int x)) f1) (hml : (Cond.methodLink own index y ∈ WS ∧ Cond.code y bytes maxL ret ∈ WS ∧ Cond.initialized C ∈ WS) ∧ Cond.static y ∈ WS)
    (hd : y.cls = C ∧ y.cls ≠ "java/lang/invoke/MethodHandle" ∧ y.cls ≠ "java/lang/invoke/VarHandle" ∧ (parseMethodDescriptor y.desc).map (fun d => d.parameters.length) = some nA) (hR : k1 + 1 ≤ kR ∧ maxL ≤ 21) (hn : As.length = nA) (hst : st = As.reverse ++ rest) (hW : (rest.map fun v => v.category).sum ≤ 8) (hdg : decode cc pc = .ok (.invokestatic index, 3)) (hp : pc + 3 = pc')
    (kk : AW p l e (rk kR) s m args below meth c D vcl A nL Q f1 0 0 pc' lv (.int x :: rest)) : AW p l e (rk kR) s m args below meth c D vcl A nL Q f 0 0 pc lv st :=
  a_cS hc hK hO hA hM hml hd rfl rfl ⟨hR.1, by show 8 + (maxL + 11) + 40 * k1 ≤ 40 * kR; omega⟩ hn hst hW hdg hp ⟨Nat.le_refl _, Nat.le_refl _⟩ (fun v f' h => by obtain ⟨rfl, rfl⟩ := h; exact kk)
theorem AW.arri {a N : Nat} {cA : ClassId} {g g' : Nat → Int32} (ha : f a = some (.inl (cA, N, .inl g))) (hg : ∀ j, j < N → g' j = g j) (kk : AW p l e R s m args below meth c D vcl A nL Q (va_up f a (some (.inl (cA, N, .inl g')))) k nn pc lv st) : AW p l e R s m args below meth c D vcl A nL Q f k nn pc lv st := by
  intro H locs ls hf hd hS hl
  refine kk H locs ls (fun b x hb => ?_) (a_up_dom hd ha) hS hl
  by_cases hba : b = a
  · subst hba
    rw [va_up_self] at hb
    cases hb
    have h1 : H[b]? = some (vp_cell cA (N, .inl g)) := hf b _ ha
    show H[b]? = some (vp_cell cA (N, .inl g'))
    rw [h1, vp_cell_i, vp_cell_i]
    unfold arrV
    congr 3
    funext j
    show Value.int (g j.val) = Value.int (g' j.val)
    rw [hg j.val j.isLt]
  · rw [va_up_ne _ _ hba] at hb
    exact hf b x hb
variable {bx rl : Nat → Nat} {ca : Nat → ClassId} {n E : Nat} {τ : TS} {κ : Nat → Option Nat} {tk tk' : Nat → Int32} {h : Nat → Option va_E}
theorem cw_tk (hx : CX bx rl ca tys n E) : cw bx rl ca n E τ κ tk' h = va_up (cw bx rl ca n E τ κ tk h) (bx 2) (some (.inl (ca 0, n, .inl tk'))) := by
  refine cw_up hx.1 (by omega) rfl (fun j _ hj => ?_)
  match j, hj with
  | 0, _ => rfl
  | 1, _ => rfl
  | r + 3, _ => rfl
theorem c_tks (hx : CX bx rl ca tys n E) (hg : ∀ j, j < n → tk' j = tk j) (kk : AW p l e R s m args below meth c D vcl A nL Q (cw bx rl ca n E τ κ tk' h) k nn pc lv st) : AW p l e R s m args below meth c D vcl A nL Q (cw bx rl ca n E τ κ tk h) k nn pc lv st :=
  AW.arri (cw_at hx.1 (by omega)) hg (AW.to (cw_tk hx) rfl rfl kk)
theorem mkL_f : ∀ E, mkL (fun _ => false) E = 0
  | 0 => rfl
  | E + 1 => by unfold mkL; rw [mkL_f E]; rfl
/-- the marks are wiped -/
theorem c_fill (hc : CallFix p m c cc nL s args (c0 :: WS) own) (hK : va_K D vcl tys s) (hO : AO3 s) (hA : ∀ q : Nat, s.heap.size ≤ q → A q) (hx : CX bx rl ca tys n E) {index kR : Nat} (rest : List Value) (hml : (Cond.methodLink own index y_JA_fill ∈ WS ∧ Cond.code y_JA_fill c_JA_fill 4 none ∈ WS ∧ Cond.initialized R_JA ∈ WS) ∧ Cond.static y_JA_fill ∈ WS) (hR : 1 ≤ kR) (hW : (rest.map fun v => v.category).sum ≤ 8) (hdg : decode cc pc = .ok (.invokestatic index, 3)) (hp : pc + 3 = pc')
    (kk : AW p l e (rk kR) s m args below meth c D vcl A nL Q (cw bx rl ca n E τ κ (tkF (fun _ => false) E) h) 0 0 pc' lv rest) : AW p l e (rk kR) s m args below meth c D vcl A nL Q (cw bx rl ca n E τ κ tk h) 0 0 pc lv (.int (nI 0) :: .ref (bx 2) :: rest) := by
  obtain ⟨hn2, hn5⟩ := hx.2.2.1
  have hM := ct_JA_fill (l := l) (D := D) (tys := tys) (A := A) (f := cw bx rl ca n E τ κ tk h) (a := bx 2) (N := n) (g := tk) (v := nI 0) hx.2.1.1 (by omega) (cw_at hx.1 (by omega))
  refine a_cS (As := [.ref (bx 2), .int (nI 0)]) (rest := rest) hc hK hO hA hM hml hd_JA_fill rfl rfl ⟨hR, by show 8 + (4 + 11) + 40 * 0 ≤ 40 * kR; omega⟩ rfl rfl hW hdg hp ⟨Nat.le_refl _, Nat.le_refl _⟩ (fun v f' hq => ?_)
  obtain ⟨rfl, rfl⟩ := hq
  refine AW.to (cw_tk hx) rfl rfl (c_tks hx (fun j hj => ?_) kk)
  rw [if_pos hj]
  unfold tkF
  rw [mkL_f]
end CST
end
section
/-! What the class's objects represent: a volume, a move, a map; the present copy. -/
def VlOk (h : Nat → Option va_E) (ca : Nat → ClassId) (τ : TS) (mp v : Nat) (o : Option Nat) : Prop := (o = none ∧ gt τ mp (15 * v + 2) ≤ 0) ∨ ∃ (a pl : Nat) (P : Nat → Int32), o = some a ∧ ¬ gt τ mp (15 * v + 2) ≤ 0 ∧ h a = some (.inr (3, [.int (nI (gN τ mp (15 * v))), .int (nI (gN τ mp (15 * v + 1))), .int (nI (gN τ mp (15 * v + 2))), .ref pl])) ∧ (h pl = some (.inl (ca 0, exN τ mp v, .inl P)) ∧ exN τ mp v < 2 ^ 31) ∧ ∀ k, k < exN τ mp v → P k = nI (gN τ mp (15 * v + 3 + k))
def MvOk (h : Nat → Option va_E) (τ : TS) (mp : Nat) (o : Option Nat) : Prop := (o = none ∧ gt τ mp 60 < 0) ∨ ∃ a, o = some a ∧ ¬ gt τ mp 60 < 0 ∧ h a = some (.inr (5, [.int (nI (gN τ mp 60)), .int (nI (gN τ mp 61)), .int (nI (gN τ mp (15 * gN τ mp 60 + 3 + gN τ mp 61))), .int (nI (gN τ mp 62))]))
def LyOk (h : Nat → Option va_E) (ca : Nat → ClassId) (τ : TS) (mp q va : Nat) (mv : Option Nat) (g : Nat → Option Nat) : Prop := h q = some (.inr (2, [.ref va, va_rf mv])) ∧ h va = some (.inl (ca 4, 4, .inr (.inr (.inr (.inr g))))) ∧ (∀ v, v < 4 → VlOk h ca τ mp v (g v)) ∧ MvOk h τ mp mv
def PrOk (h : Nat → Option va_E) (ca : Nat → ClassId) (τ : TS) (κ : Nat → Option Nat) (pa q va : Nat) (mv : Option Nat) (g : Nat → Option Nat) : Prop := κ 0 = some pa ∧ h pa = some (.inr (0, [.int (τ 0 2), .int (τ 0 3), .ref q])) ∧ LyOk h ca τ 15 q va mv g
theorem va_none {h : Nat → Option va_E} {ca : Nat → ClassId} {τ : TS} {g : Nat → Option Nat} {v : Int32} (hV : ∀ v, v < 4 → VlOk h ca τ 15 v (g v)) (hq : vaQ g v = none) : volB τ v = false := by
  unfold vaQ at hq
  by_cases h0 : v < 0
  · simp [volB, h0]
  · by_cases h4 : nI 4 ≤ v
    · simp [volB, h4]
    · rw [if_neg (by simp [h0, h4])] at hq
      obtain ⟨j, hj, ej, cj⟩ := ix_of (by decide) h0 h4
      rw [cj] at hq
      rcases hV j hj with ⟨-, h2⟩ | ⟨a, pl, P, h1, -⟩
      · simp [volB, cj, h2]
      · rw [hq] at h1; cases h1
theorem va_some {h : Nat → Option va_E} {ca : Nat → ClassId} {τ : TS} {g : Nat → Option Nat} {v : Int32} {a : Nat} (hV : ∀ v, v < 4 → VlOk h ca τ 15 v (g v)) (hq : vaQ g v = some a) : ∃ (j pl : Nat) (P : Nat → Int32), j < 4 ∧ v = nI j ∧ v.toNatClampNeg = j ∧ volB τ v = true ∧ ¬ gt τ 15 (15 * j + 2) ≤ 0 ∧ h a = some (.inr (3, [.int (nI (gN τ 15 (15 * j))), .int (nI (gN τ 15 (15 * j + 1))), .int (nI (gN τ 15 (15 * j + 2))), .ref pl])) ∧ (h pl = some (.inl (ca 0, exN τ 15 j, .inl P)) ∧ exN τ 15 j < 2 ^ 31) ∧ ∀ k, k < exN τ 15 j → P k = nI (gN τ 15 (15 * j + 3 + k)) := by
  unfold vaQ at hq
  by_cases hc : v < 0 ∨ nI 4 ≤ v
  · rw [if_pos hc] at hq; cases hq
  · rw [if_neg hc] at hq
    have h0 : ¬ v < 0 := fun q => hc (Or.inl q)
    have h4 : ¬ nI 4 ≤ v := fun q => hc (Or.inr q)
    obtain ⟨j, hj, ej, cj⟩ := ix_of (by decide) h0 h4
    rw [cj] at hq
    rcases hV j hj with ⟨h1, -⟩ | ⟨a', pl, P, h1, h2, h3, h5, h6⟩
    · rw [hq] at h1; cases h1
    · rw [hq] at h1
      cases h1
      exact ⟨j, pl, P, hj, ej, cj, by simp [volB, h0, h4, cj, h2], h2, h3, h5, h6⟩
theorem MvOk.some {h : Nat → Option va_E} {τ : TS} {mp a : Nat} (hm : MvOk h τ mp (some a)) : ¬ gt τ mp 60 < 0 ∧ h a = some (.inr (5, [.int (nI (gN τ mp 60)), .int (nI (gN τ mp 61)), .int (nI (gN τ mp (15 * gN τ mp 60 + 3 + gN τ mp 61))), .int (nI (gN τ mp 62))])) := by
  rcases hm with ⟨h1, -⟩ | ⟨a', h1, h2, h3⟩
  · cases h1
  · cases h1
    exact ⟨h2, h3⟩
theorem MvOk.none {h : Nat → Option va_E} {τ : TS} {mp : Nat} (hm : MvOk h τ mp none) : gt τ mp 60 < 0 := by
  rcases hm with ⟨-, h1⟩ | ⟨a', h1, -⟩
  · exact h1
  · cases h1
theorem hx_t {N : Nat} {k : Int32} (hN : N < 2 ^ 31) (h : (!decide (k < 0) && !decide (nI N ≤ k)) = true) : ∃ i, i < N ∧ k = nI i ∧ k.toNatClampNeg = i := by
  simp only [Bool.and_eq_true, Bool.not_eq_true', decide_eq_false_iff_not] at h
  exact ix_of hN h.1 h.2
def mgB (τ : TS) (v : Int32) : Bool := !decide (gt τ 15 60 < 0) && decide (gt τ 15 60 = v)
/-- where a write goes besides -/
def ctI (τ : TS) (v k c : Int32) : Int32 := if mgB τ v && (decide (gt τ 15 61 = k) && decide (c < τ 0 6)) then gt τ 15 62 else -1
def pk1 (τ : TS) (d i : Nat) (na : Int32) : TS := ts (stT τ) 4 (3 * d + i) (if stB τ then -11 else na)
def pkT (τ : TS) (d i : Nat) (na : Int32) : TS := ts (pk1 τ d i na) 6 d (pk1 τ d i na 6 d + nI 1)
def pkK (τ : TS) (κ : Nat → Option Nat) (d i a : Nat) : Nat → Option Nat := va_up κ (1 + 3 * d + i) (if stB τ then none else some a)
theorem pos11 {x : Int32} (h : 0 < x) : ¬ x = -11 := fun q => by subst q; exact absurd h (by decide)
theorem pk1_6 {τ : TS} {d i j : Nat} {na : Int32} : pk1 τ d i na 6 j = τ 6 j := by
  unfold pk1
  rw [ts_ne (by decide), stT_row (by decide)]
theorem pk1_1 {τ : TS} {d i : Nat} {na : Int32} : pk1 τ d i na 1 = τ 1 := by
  unfold pk1
  rw [ts_ne (by decide), stT_row (by decide)]
theorem wr_next {σ : TS} {d : Nat} (h6 : ¬ σ 6 d < 0) (hb : wrN σ d + 1 < 2 ^ 31) : wrN (ts σ 6 d (σ 6 d + nI 1)) d = wrN σ d + 1 := by
  have e1 : σ 6 d = nI (wrN σ d) := nat_eq h6
  show (ts σ 6 d (σ 6 d + nI 1) 6 d).toNatClampNeg = _
  rw [ts_at, e1, nI_add, nI_clamp hb]
theorem pk_hs {bx : Nat → Nat} {σ : TS} {d : Nat} (h6 : ¬ σ 6 d < 0) (hb : wrN σ d + 1 < 2 ^ 31) : cw_d bx (ts σ 6 d (σ 6 d + nI 1)) d = (cw_d bx σ d).set 3 (.int (nI ((wrN σ d % 3 + 1) % 3))) := by
  have e2 : (wrN σ d + 1) % 3 = (wrN σ d % 3 + 1) % 3 := by omega
  unfold cw_d
  rw [wr_next h6 hb, e2, ts_ne (by decide)]
  rfl
theorem pk_ho {bx : Nat → Nat} {σ : TS} {d : Nat} {x : Int32} : ∀ d', d' ≠ d → cw_d bx (ts σ 6 d x) d' = cw_d bx σ d' := fun d' hd => by
  unfold cw_d wrN
  rw [ts_off hd, ts_ne (by decide)]
def qP (τ : TS) (κ : Nat → Option Nat) (nb sb : Int32) (d : Nat) : Bool := tb (τ 1 d) && decide (fsL (qW τ κ d nb sb) 3 < 3)
theorem sw_t {τ : TS} {κ : Nat → Option Nat} {d : Nat} {nb sb : Int32} (h : ¬ swI τ κ d nb sb = -1) : decide (fsL (qW τ κ d nb sb) 3 < 3) = true := by
  refine decide_eq_true ?_
  unfold swI at h
  split at h
  · assumption
  · exact absurd rfl h
theorem sw_f {τ : TS} {κ : Nat → Option Nat} {d : Nat} {nb sb : Int32} (h : swI τ κ d nb sb = -1) : decide (fsL (qW τ κ d nb sb) 3 < 3) = false := by
  refine decide_eq_false fun hq => ?_
  unfold swI at h
  rw [if_pos hq] at h
  exact absurd h ((by decide +kernel : ∀ q, q < 3 → ¬ nI q = -1) _ hq)
section LVQ
variable {p : Program} {l : Launch} {e : Env} {R : Room} {s : State} {m : MethodId} {args : Array Value} {below : List Frame} {meth : Method} {c : Code} {D : va_G} {cl : List vw_C} {A : Nat → Prop} {nL : Nat} {Q : State → Prop}
variable {f : Nat → Option va_E} {k n pc : Nat} {lv : List (Option Value)} {st : List Value}
theorem AW.lvq (j : Nat) {x y : Option Nat} (hx : lv[j]? = some (some (va_rf x))) (h : y = x) (kk : AW p l e R s m args below meth c D cl A nL Q f k n pc (lv.set j (some (va_rf y))) st) : AW p l e R s m args below meth c D cl A nL Q f k n pc lv st := by
  subst h
  refine AW.to rfl ?_ rfl kk
  have hj : j < lv.length := (List.getElem?_eq_some_iff.mp hx).1
  refine List.ext_getElem? fun i => ?_
  rw [List.getElem?_set]
  by_cases e1 : j = i
  · subst e1
    rw [if_pos rfl, if_pos hj, hx]
  · rw [if_neg e1]
end LVQ
end
