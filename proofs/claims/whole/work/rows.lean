section
-- ===== PART A: goes FIRST, ahead of the names: the tables' words, and 'selects' of the private methods out of them =====
/-- a private method of a class that the tables say can be made, by its rows of tables_1 -/
def lw_okq (q : MethodName × Nat) : Prop := (q.1.cls ≠ "java/lang/invoke/MethodHandle" ∧ q.1.cls ≠ "java/lang/invoke/VarHandle") ∧ Cond.instantiable q.1.cls q.2 ∈ tables_1 ∧ Cond.privateMethod q.1 ∈ tables_1 ∧ Cond.instanceMethod q.1 ∈ tables_1
theorem lw_p0 : lw_okq (⟨"PatternWalk$CharSets", "isOpen", "(I)Z"⟩, 2) := ⟨⟨by decide +kernel, by decide +kernel⟩, List.mem_of_getElem? (i := 27) (by decide +kernel), List.mem_of_getElem? (i := 235) (by decide +kernel), List.mem_of_getElem? (i := 236) (by decide +kernel)⟩
theorem lw_p1 : lw_okq (⟨"PatternWalk$Walk", "followFromStart", "()V"⟩, 15) := ⟨⟨by decide +kernel, by decide +kernel⟩, List.mem_of_getElem? (i := 94) (by decide +kernel), List.mem_of_getElem? (i := 264) (by decide +kernel), List.mem_of_getElem? (i := 265) (by decide +kernel)⟩
theorem lw_p2 : lw_okq (⟨"PatternWalk$Walk", "follow", "(I)V"⟩, 15) := ⟨⟨by decide +kernel, by decide +kernel⟩, List.mem_of_getElem? (i := 94) (by decide +kernel), List.mem_of_getElem? (i := 268) (by decide +kernel), List.mem_of_getElem? (i := 269) (by decide +kernel)⟩
theorem lw_p3 : lw_okq (⟨"PatternWalk$Walk", "push", "(II)V"⟩, 15) := ⟨⟨by decide +kernel, by decide +kernel⟩, List.mem_of_getElem? (i := 94) (by decide +kernel), List.mem_of_getElem? (i := 272) (by decide +kernel), List.mem_of_getElem? (i := 273) (by decide +kernel)⟩
theorem lw_p4 : lw_okq (⟨"PatternWalk$Walk", "visit", "(I)V"⟩, 15) := ⟨⟨by decide +kernel, by decide +kernel⟩, List.mem_of_getElem? (i := 94) (by decide +kernel), List.mem_of_getElem? (i := 276) (by decide +kernel), List.mem_of_getElem? (i := 277) (by decide +kernel)⟩
theorem lw_p5 : lw_okq (⟨"PatternWalk$Walk", "passMark", "(I)V"⟩, 15) := ⟨⟨by decide +kernel, by decide +kernel⟩, List.mem_of_getElem? (i := 94) (by decide +kernel), List.mem_of_getElem? (i := 288) (by decide +kernel), List.mem_of_getElem? (i := 289) (by decide +kernel)⟩
theorem lw_p6 : lw_okq (⟨"PatternWalk$Walk", "keepMatch", "()V"⟩, 15) := ⟨⟨by decide +kernel, by decide +kernel⟩, List.mem_of_getElem? (i := 94) (by decide +kernel), List.mem_of_getElem? (i := 292) (by decide +kernel), List.mem_of_getElem? (i := 293) (by decide +kernel)⟩
theorem lw_p7 : lw_okq (⟨"PatternWalk$Walk", "setMark", "(II)V"⟩, 15) := ⟨⟨by decide +kernel, by decide +kernel⟩, List.mem_of_getElem? (i := 94) (by decide +kernel), List.mem_of_getElem? (i := 296) (by decide +kernel), List.mem_of_getElem? (i := 297) (by decide +kernel)⟩
theorem lw_p8 : lw_okq (⟨"java/lang/Throwable", "fillInStackTrace", "(I)Ljava/lang/Throwable;"⟩, 6) := ⟨⟨by decide +kernel, by decide +kernel⟩, List.mem_of_getElem? (i := 394) (by decide +kernel), List.mem_of_getElem? (i := 392) (by decide +kernel), List.mem_of_getElem? (i := 393) (by decide +kernel)⟩
theorem lw_p9 : lw_okq (⟨"PatternWalk$Parser", "readChoice", "(I)LPatternWalk$Row;"⟩, 6) := ⟨⟨by decide +kernel, by decide +kernel⟩, List.mem_of_getElem? (i := 42) (by decide +kernel), List.mem_of_getElem? (i := 438) (by decide +kernel), List.mem_of_getElem? (i := 439) (by decide +kernel)⟩
theorem lw_p10 : lw_okq (⟨"PatternWalk$Parser", "peek", "()I"⟩, 6) := ⟨⟨by decide +kernel, by decide +kernel⟩, List.mem_of_getElem? (i := 42) (by decide +kernel), List.mem_of_getElem? (i := 465) (by decide +kernel), List.mem_of_getElem? (i := 466) (by decide +kernel)⟩
theorem lw_p11 : lw_okq (⟨"PatternWalk$Parser", "readRepeat", "(I)LPatternWalk$Repeat;"⟩, 6) := ⟨⟨by decide +kernel, by decide +kernel⟩, List.mem_of_getElem? (i := 42) (by decide +kernel), List.mem_of_getElem? (i := 469) (by decide +kernel), List.mem_of_getElem? (i := 470) (by decide +kernel)⟩
theorem lw_p12 : lw_okq (⟨"PatternWalk$Parser", "readGroup", "(LPatternWalk$Repeat;I)V"⟩, 6) := ⟨⟨by decide +kernel, by decide +kernel⟩, List.mem_of_getElem? (i := 42) (by decide +kernel), List.mem_of_getElem? (i := 530) (by decide +kernel), List.mem_of_getElem? (i := 531) (by decide +kernel)⟩
theorem lw_p13 : lw_okq (⟨"PatternWalk$Parser", "fail", "()V"⟩, 6) := ⟨⟨by decide +kernel, by decide +kernel⟩, List.mem_of_getElem? (i := 42) (by decide +kernel), List.mem_of_getElem? (i := 534) (by decide +kernel), List.mem_of_getElem? (i := 535) (by decide +kernel)⟩
theorem lw_p14 : lw_okq (⟨"PatternWalk$Parser", "expect", "(I)V"⟩, 6) := ⟨⟨by decide +kernel, by decide +kernel⟩, List.mem_of_getElem? (i := 42) (by decide +kernel), List.mem_of_getElem? (i := 538) (by decide +kernel), List.mem_of_getElem? (i := 539) (by decide +kernel)⟩
theorem lw_p15 : lw_okq (⟨"PatternWalk$Parser", "readCharacters", "(I)V"⟩, 6) := ⟨⟨by decide +kernel, by decide +kernel⟩, List.mem_of_getElem? (i := 42) (by decide +kernel), List.mem_of_getElem? (i := 551) (by decide +kernel), List.mem_of_getElem? (i := 552) (by decide +kernel)⟩
def lw_privs_1 : List (MethodName × Nat) := [(⟨"PatternWalk$CharSets", "isOpen", "(I)Z"⟩, 2), (⟨"PatternWalk$Walk", "followFromStart", "()V"⟩, 15), (⟨"PatternWalk$Walk", "follow", "(I)V"⟩, 15), (⟨"PatternWalk$Walk", "push", "(II)V"⟩, 15), (⟨"PatternWalk$Walk", "visit", "(I)V"⟩, 15), (⟨"PatternWalk$Walk", "passMark", "(I)V"⟩, 15), (⟨"PatternWalk$Walk", "keepMatch", "()V"⟩, 15), (⟨"PatternWalk$Walk", "setMark", "(II)V"⟩, 15), (⟨"java/lang/Throwable", "fillInStackTrace", "(I)Ljava/lang/Throwable;"⟩, 6), (⟨"PatternWalk$Parser", "readChoice", "(I)LPatternWalk$Row;"⟩, 6), (⟨"PatternWalk$Parser", "peek", "()I"⟩, 6), (⟨"PatternWalk$Parser", "readRepeat", "(I)LPatternWalk$Repeat;"⟩, 6), (⟨"PatternWalk$Parser", "readGroup", "(LPatternWalk$Repeat;I)V"⟩, 6), (⟨"PatternWalk$Parser", "fail", "()V"⟩, 6), (⟨"PatternWalk$Parser", "expect", "(I)V"⟩, 6), (⟨"PatternWalk$Parser", "readCharacters", "(I)V"⟩, 6)]
theorem lw_r1 : ∀ q ∈ lw_privs_1, lw_okq q := List.forall_mem_cons.mpr ⟨lw_p0, List.forall_mem_cons.mpr ⟨lw_p1, List.forall_mem_cons.mpr ⟨lw_p2, List.forall_mem_cons.mpr ⟨lw_p3, List.forall_mem_cons.mpr ⟨lw_p4, List.forall_mem_cons.mpr ⟨lw_p5, List.forall_mem_cons.mpr ⟨lw_p6, List.forall_mem_cons.mpr ⟨lw_p7, List.forall_mem_cons.mpr ⟨lw_p8, List.forall_mem_cons.mpr ⟨lw_p9, List.forall_mem_cons.mpr ⟨lw_p10, List.forall_mem_cons.mpr ⟨lw_p11, List.forall_mem_cons.mpr ⟨lw_p12, List.forall_mem_cons.mpr ⟨lw_p13, List.forall_mem_cons.mpr ⟨lw_p14, List.forall_mem_cons.mpr ⟨lw_p15, fun _ h => absurd h List.not_mem_nil⟩⟩⟩⟩⟩⟩⟩⟩⟩⟩⟩⟩⟩⟩⟩⟩
theorem lw_p16 : lw_okq (⟨"PatternWalk$Parser", "readSet", "(I)V"⟩, 6) := ⟨⟨by decide +kernel, by decide +kernel⟩, List.mem_of_getElem? (i := 42) (by decide +kernel), List.mem_of_getElem? (i := 555) (by decide +kernel), List.mem_of_getElem? (i := 556) (by decide +kernel)⟩
theorem lw_p17 : lw_okq (⟨"PatternWalk$Parser", "readItem", "(I)V"⟩, 6) := ⟨⟨by decide +kernel, by decide +kernel⟩, List.mem_of_getElem? (i := 42) (by decide +kernel), List.mem_of_getElem? (i := 559) (by decide +kernel), List.mem_of_getElem? (i := 560) (by decide +kernel)⟩
theorem lw_p18 : lw_okq (⟨"PatternWalk$Parser", "readEscaped", "(I)V"⟩, 6) := ⟨⟨by decide +kernel, by decide +kernel⟩, List.mem_of_getElem? (i := 42) (by decide +kernel), List.mem_of_getElem? (i := 563) (by decide +kernel), List.mem_of_getElem? (i := 564) (by decide +kernel)⟩
theorem lw_p19 : lw_okq (⟨"PatternWalk$Parser", "readCount", "(LPatternWalk$Repeat;)V"⟩, 6) := ⟨⟨by decide +kernel, by decide +kernel⟩, List.mem_of_getElem? (i := 42) (by decide +kernel), List.mem_of_getElem? (i := 585) (by decide +kernel), List.mem_of_getElem? (i := 586) (by decide +kernel)⟩
theorem lw_p20 : lw_okq (⟨"PatternWalk$Parser", "readBraces", "(LPatternWalk$Repeat;)V"⟩, 6) := ⟨⟨by decide +kernel, by decide +kernel⟩, List.mem_of_getElem? (i := 42) (by decide +kernel), List.mem_of_getElem? (i := 589) (by decide +kernel), List.mem_of_getElem? (i := 590) (by decide +kernel)⟩
theorem lw_p21 : lw_okq (⟨"PatternWalk$Parser", "readMost", "(LPatternWalk$Repeat;)V"⟩, 6) := ⟨⟨by decide +kernel, by decide +kernel⟩, List.mem_of_getElem? (i := 42) (by decide +kernel), List.mem_of_getElem? (i := 596) (by decide +kernel), List.mem_of_getElem? (i := 597) (by decide +kernel)⟩
theorem lw_p22 : lw_okq (⟨"PatternWalk$Program", "add", "(III)V"⟩, 5) := ⟨⟨by decide +kernel, by decide +kernel⟩, List.mem_of_getElem? (i := 69) (by decide +kernel), List.mem_of_getElem? (i := 631) (by decide +kernel), List.mem_of_getElem? (i := 632) (by decide +kernel)⟩
theorem lw_p23 : lw_okq (⟨"PatternWalk$Program", "writeChoice", "(LPatternWalk$Row;I)V"⟩, 5) := ⟨⟨by decide +kernel, by decide +kernel⟩, List.mem_of_getElem? (i := 69) (by decide +kernel), List.mem_of_getElem? (i := 635) (by decide +kernel), List.mem_of_getElem? (i := 636) (by decide +kernel)⟩
theorem lw_p24 : lw_okq (⟨"PatternWalk$Program", "writeRepeat", "(LPatternWalk$Repeat;I)V"⟩, 5) := ⟨⟨by decide +kernel, by decide +kernel⟩, List.mem_of_getElem? (i := 69) (by decide +kernel), List.mem_of_getElem? (i := 640) (by decide +kernel), List.mem_of_getElem? (i := 641) (by decide +kernel)⟩
theorem lw_p25 : lw_okq (⟨"PatternWalk$Program", "writeAtom", "(LPatternWalk$Repeat;I)V"⟩, 5) := ⟨⟨by decide +kernel, by decide +kernel⟩, List.mem_of_getElem? (i := 69) (by decide +kernel), List.mem_of_getElem? (i := 644) (by decide +kernel), List.mem_of_getElem? (i := 645) (by decide +kernel)⟩
theorem lw_p26 : lw_okq (⟨"PatternWalk$Program", "addSplit", "(IIZ)V"⟩, 5) := ⟨⟨by decide +kernel, by decide +kernel⟩, List.mem_of_getElem? (i := 69) (by decide +kernel), List.mem_of_getElem? (i := 648) (by decide +kernel), List.mem_of_getElem? (i := 649) (by decide +kernel)⟩
theorem lw_p27 : lw_okq (⟨"PatternWalkModel", "read", "()Z"⟩, 45) := ⟨⟨by decide +kernel, by decide +kernel⟩, List.mem_of_getElem? (i := 652) (by decide +kernel), List.mem_of_getElem? (i := 807) (by decide +kernel), List.mem_of_getElem? (i := 808) (by decide +kernel)⟩
theorem lw_p28 : lw_okq (⟨"PatternWalkModel", "node", "(II)I"⟩, 45) := ⟨⟨by decide +kernel, by decide +kernel⟩, List.mem_of_getElem? (i := 652) (by decide +kernel), List.mem_of_getElem? (i := 811) (by decide +kernel), List.mem_of_getElem? (i := 812) (by decide +kernel)⟩
theorem lw_p29 : lw_okq (⟨"PatternWalkModel", "here", "(I)C"⟩, 45) := ⟨⟨by decide +kernel, by decide +kernel⟩, List.mem_of_getElem? (i := 652) (by decide +kernel), List.mem_of_getElem? (i := 815) (by decide +kernel), List.mem_of_getElem? (i := 816) (by decide +kernel)⟩
theorem lw_p30 : lw_okq (⟨"PatternWalkModel", "open", "(I)Z"⟩, 45) := ⟨⟨by decide +kernel, by decide +kernel⟩, List.mem_of_getElem? (i := 652) (by decide +kernel), List.mem_of_getElem? (i := 819) (by decide +kernel), List.mem_of_getElem? (i := 820) (by decide +kernel)⟩
theorem lw_p31 : lw_okq (⟨"PatternWalkModel", "readCount", "(I)Z"⟩, 45) := ⟨⟨by decide +kernel, by decide +kernel⟩, List.mem_of_getElem? (i := 652) (by decide +kernel), List.mem_of_getElem? (i := 823) (by decide +kernel), List.mem_of_getElem? (i := 824) (by decide +kernel)⟩
def lw_privs_2 : List (MethodName × Nat) := [(⟨"PatternWalk$Parser", "readSet", "(I)V"⟩, 6), (⟨"PatternWalk$Parser", "readItem", "(I)V"⟩, 6), (⟨"PatternWalk$Parser", "readEscaped", "(I)V"⟩, 6), (⟨"PatternWalk$Parser", "readCount", "(LPatternWalk$Repeat;)V"⟩, 6), (⟨"PatternWalk$Parser", "readBraces", "(LPatternWalk$Repeat;)V"⟩, 6), (⟨"PatternWalk$Parser", "readMost", "(LPatternWalk$Repeat;)V"⟩, 6), (⟨"PatternWalk$Program", "add", "(III)V"⟩, 5), (⟨"PatternWalk$Program", "writeChoice", "(LPatternWalk$Row;I)V"⟩, 5), (⟨"PatternWalk$Program", "writeRepeat", "(LPatternWalk$Repeat;I)V"⟩, 5), (⟨"PatternWalk$Program", "writeAtom", "(LPatternWalk$Repeat;I)V"⟩, 5), (⟨"PatternWalk$Program", "addSplit", "(IIZ)V"⟩, 5), (⟨"PatternWalkModel", "read", "()Z"⟩, 45), (⟨"PatternWalkModel", "node", "(II)I"⟩, 45), (⟨"PatternWalkModel", "here", "(I)C"⟩, 45), (⟨"PatternWalkModel", "open", "(I)Z"⟩, 45), (⟨"PatternWalkModel", "readCount", "(I)Z"⟩, 45)]
theorem lw_r2 : ∀ q ∈ lw_privs_2, lw_okq q := List.forall_mem_cons.mpr ⟨lw_p16, List.forall_mem_cons.mpr ⟨lw_p17, List.forall_mem_cons.mpr ⟨lw_p18, List.forall_mem_cons.mpr ⟨lw_p19, List.forall_mem_cons.mpr ⟨lw_p20, List.forall_mem_cons.mpr ⟨lw_p21, List.forall_mem_cons.mpr ⟨lw_p22, List.forall_mem_cons.mpr ⟨lw_p23, List.forall_mem_cons.mpr ⟨lw_p24, List.forall_mem_cons.mpr ⟨lw_p25, List.forall_mem_cons.mpr ⟨lw_p26, List.forall_mem_cons.mpr ⟨lw_p27, List.forall_mem_cons.mpr ⟨lw_p28, List.forall_mem_cons.mpr ⟨lw_p29, List.forall_mem_cons.mpr ⟨lw_p30, List.forall_mem_cons.mpr ⟨lw_p31, fun _ h => absurd h List.not_mem_nil⟩⟩⟩⟩⟩⟩⟩⟩⟩⟩⟩⟩⟩⟩⟩⟩
theorem lw_p32 : lw_okq (⟨"PatternWalkModel", "readBraces", "(I)Z"⟩, 45) := ⟨⟨by decide +kernel, by decide +kernel⟩, List.mem_of_getElem? (i := 652) (by decide +kernel), List.mem_of_getElem? (i := 827) (by decide +kernel), List.mem_of_getElem? (i := 828) (by decide +kernel)⟩
theorem lw_p33 : lw_okq (⟨"PatternWalkModel", "readSign", "(I)Z"⟩, 45) := ⟨⟨by decide +kernel, by decide +kernel⟩, List.mem_of_getElem? (i := 652) (by decide +kernel), List.mem_of_getElem? (i := 834) (by decide +kernel), List.mem_of_getElem? (i := 835) (by decide +kernel)⟩
theorem lw_p34 : lw_okq (⟨"PatternWalkModel", "newSet", "()I"⟩, 45) := ⟨⟨by decide +kernel, by decide +kernel⟩, List.mem_of_getElem? (i := 652) (by decide +kernel), List.mem_of_getElem? (i := 841) (by decide +kernel), List.mem_of_getElem? (i := 842) (by decide +kernel)⟩
theorem lw_p35 : lw_okq (⟨"PatternWalkModel", "readSet", "(I)Z"⟩, 45) := ⟨⟨by decide +kernel, by decide +kernel⟩, List.mem_of_getElem? (i := 652) (by decide +kernel), List.mem_of_getElem? (i := 845) (by decide +kernel), List.mem_of_getElem? (i := 846) (by decide +kernel)⟩
theorem lw_p36 : lw_okq (⟨"PatternWalkModel", "includeSpecial", "(IC)V"⟩, 45) := ⟨⟨by decide +kernel, by decide +kernel⟩, List.mem_of_getElem? (i := 652) (by decide +kernel), List.mem_of_getElem? (i := 849) (by decide +kernel), List.mem_of_getElem? (i := 850) (by decide +kernel)⟩
theorem lw_p37 : lw_okq (⟨"PatternWalkModel", "include", "(III)V"⟩, 45) := ⟨⟨by decide +kernel, by decide +kernel⟩, List.mem_of_getElem? (i := 652) (by decide +kernel), List.mem_of_getElem? (i := 853) (by decide +kernel), List.mem_of_getElem? (i := 854) (by decide +kernel)⟩
theorem lw_p38 : lw_okq (⟨"PatternWalkModel", "widthOf", "(I)I"⟩, 45) := ⟨⟨by decide +kernel, by decide +kernel⟩, List.mem_of_getElem? (i := 652) (by decide +kernel), List.mem_of_getElem? (i := 860) (by decide +kernel), List.mem_of_getElem? (i := 861) (by decide +kernel)⟩
theorem lw_p39 : lw_okq (⟨"PatternWalkModel", "put", "(IIII)V"⟩, 45) := ⟨⟨by decide +kernel, by decide +kernel⟩, List.mem_of_getElem? (i := 652) (by decide +kernel), List.mem_of_getElem? (i := 866) (by decide +kernel), List.mem_of_getElem? (i := 867) (by decide +kernel)⟩
theorem lw_p40 : lw_okq (⟨"PatternWalkModel", "later", "(II)V"⟩, 45) := ⟨⟨by decide +kernel, by decide +kernel⟩, List.mem_of_getElem? (i := 652) (by decide +kernel), List.mem_of_getElem? (i := 870) (by decide +kernel), List.mem_of_getElem? (i := 871) (by decide +kernel)⟩
theorem lw_p41 : lw_okq (⟨"PatternWalkModel", "writeNode", "(II)V"⟩, 45) := ⟨⟨by decide +kernel, by decide +kernel⟩, List.mem_of_getElem? (i := 652) (by decide +kernel), List.mem_of_getElem? (i := 874) (by decide +kernel), List.mem_of_getElem? (i := 875) (by decide +kernel)⟩
theorem lw_p42 : lw_okq (⟨"PatternWalkModel", "writeChoice", "(II)V"⟩, 45) := ⟨⟨by decide +kernel, by decide +kernel⟩, List.mem_of_getElem? (i := 652) (by decide +kernel), List.mem_of_getElem? (i := 878) (by decide +kernel), List.mem_of_getElem? (i := 879) (by decide +kernel)⟩
theorem lw_p43 : lw_okq (⟨"PatternWalkModel", "writeRepeat", "(II)V"⟩, 45) := ⟨⟨by decide +kernel, by decide +kernel⟩, List.mem_of_getElem? (i := 652) (by decide +kernel), List.mem_of_getElem? (i := 882) (by decide +kernel), List.mem_of_getElem? (i := 883) (by decide +kernel)⟩
theorem lw_p44 : lw_okq (⟨"PatternWalkModel", "split", "(IIIZ)V"⟩, 45) := ⟨⟨by decide +kernel, by decide +kernel⟩, List.mem_of_getElem? (i := 652) (by decide +kernel), List.mem_of_getElem? (i := 886) (by decide +kernel), List.mem_of_getElem? (i := 887) (by decide +kernel)⟩
theorem lw_p45 : lw_okq (⟨"PatternWalkModel", "many", "(I)I"⟩, 45) := ⟨⟨by decide +kernel, by decide +kernel⟩, List.mem_of_getElem? (i := 652) (by decide +kernel), List.mem_of_getElem? (i := 902) (by decide +kernel), List.mem_of_getElem? (i := 903) (by decide +kernel)⟩
theorem lw_p46 : lw_okq (⟨"PatternWalkModel", "has", "(II)Z"⟩, 45) := ⟨⟨by decide +kernel, by decide +kernel⟩, List.mem_of_getElem? (i := 652) (by decide +kernel), List.mem_of_getElem? (i := 906) (by decide +kernel), List.mem_of_getElem? (i := 907) (by decide +kernel)⟩
theorem lw_p47 : lw_okq (⟨"PatternWalkModel", "work", "()V"⟩, 45) := ⟨⟨by decide +kernel, by decide +kernel⟩, List.mem_of_getElem? (i := 652) (by decide +kernel), List.mem_of_getElem? (i := 926) (by decide +kernel), List.mem_of_getElem? (i := 927) (by decide +kernel)⟩
def lw_privs_3 : List (MethodName × Nat) := [(⟨"PatternWalkModel", "readBraces", "(I)Z"⟩, 45), (⟨"PatternWalkModel", "readSign", "(I)Z"⟩, 45), (⟨"PatternWalkModel", "newSet", "()I"⟩, 45), (⟨"PatternWalkModel", "readSet", "(I)Z"⟩, 45), (⟨"PatternWalkModel", "includeSpecial", "(IC)V"⟩, 45), (⟨"PatternWalkModel", "include", "(III)V"⟩, 45), (⟨"PatternWalkModel", "widthOf", "(I)I"⟩, 45), (⟨"PatternWalkModel", "put", "(IIII)V"⟩, 45), (⟨"PatternWalkModel", "later", "(II)V"⟩, 45), (⟨"PatternWalkModel", "writeNode", "(II)V"⟩, 45), (⟨"PatternWalkModel", "writeChoice", "(II)V"⟩, 45), (⟨"PatternWalkModel", "writeRepeat", "(II)V"⟩, 45), (⟨"PatternWalkModel", "split", "(IIIZ)V"⟩, 45), (⟨"PatternWalkModel", "many", "(I)I"⟩, 45), (⟨"PatternWalkModel", "has", "(II)Z"⟩, 45), (⟨"PatternWalkModel", "work", "()V"⟩, 45)]
theorem lw_r3 : ∀ q ∈ lw_privs_3, lw_okq q := List.forall_mem_cons.mpr ⟨lw_p32, List.forall_mem_cons.mpr ⟨lw_p33, List.forall_mem_cons.mpr ⟨lw_p34, List.forall_mem_cons.mpr ⟨lw_p35, List.forall_mem_cons.mpr ⟨lw_p36, List.forall_mem_cons.mpr ⟨lw_p37, List.forall_mem_cons.mpr ⟨lw_p38, List.forall_mem_cons.mpr ⟨lw_p39, List.forall_mem_cons.mpr ⟨lw_p40, List.forall_mem_cons.mpr ⟨lw_p41, List.forall_mem_cons.mpr ⟨lw_p42, List.forall_mem_cons.mpr ⟨lw_p43, List.forall_mem_cons.mpr ⟨lw_p44, List.forall_mem_cons.mpr ⟨lw_p45, List.forall_mem_cons.mpr ⟨lw_p46, List.forall_mem_cons.mpr ⟨lw_p47, fun _ h => absurd h List.not_mem_nil⟩⟩⟩⟩⟩⟩⟩⟩⟩⟩⟩⟩⟩⟩⟩⟩
theorem lw_p48 : lw_okq (⟨"PatternWalkModel", "fill", "()V"⟩, 45) := ⟨⟨by decide +kernel, by decide +kernel⟩, List.mem_of_getElem? (i := 652) (by decide +kernel), List.mem_of_getElem? (i := 930) (by decide +kernel), List.mem_of_getElem? (i := 931) (by decide +kernel)⟩
theorem lw_p49 : lw_okq (⟨"PatternWalkModel", "reaches", "(II)Z"⟩, 45) := ⟨⟨by decide +kernel, by decide +kernel⟩, List.mem_of_getElem? (i := 652) (by decide +kernel), List.mem_of_getElem? (i := 934) (by decide +kernel), List.mem_of_getElem? (i := 935) (by decide +kernel)⟩
theorem lw_p50 : lw_okq (⟨"PatternWalkModel", "may", "(II)Z"⟩, 45) := ⟨⟨by decide +kernel, by decide +kernel⟩, List.mem_of_getElem? (i := 652) (by decide +kernel), List.mem_of_getElem? (i := 938) (by decide +kernel), List.mem_of_getElem? (i := 939) (by decide +kernel)⟩
theorem lw_p51 : lw_okq (⟨"PatternWalkModel", "takes", "(II)Z"⟩, 45) := ⟨⟨by decide +kernel, by decide +kernel⟩, List.mem_of_getElem? (i := 652) (by decide +kernel), List.mem_of_getElem? (i := 942) (by decide +kernel), List.mem_of_getElem? (i := 943) (by decide +kernel)⟩
theorem lw_p52 : lw_okq (⟨"PatternWalkModel", "isMatch", "(I)Z"⟩, 45) := ⟨⟨by decide +kernel, by decide +kernel⟩, List.mem_of_getElem? (i := 652) (by decide +kernel), List.mem_of_getElem? (i := 946) (by decide +kernel), List.mem_of_getElem? (i := 947) (by decide +kernel)⟩
theorem lw_p53 : lw_okq (⟨"PatternWalkModel", "spread", "([ZI)V"⟩, 45) := ⟨⟨by decide +kernel, by decide +kernel⟩, List.mem_of_getElem? (i := 652) (by decide +kernel), List.mem_of_getElem? (i := 950) (by decide +kernel), List.mem_of_getElem? (i := 951) (by decide +kernel)⟩
theorem lw_p54 : lw_okq (⟨"PatternWalkModel", "choose", "(II)I"⟩, 45) := ⟨⟨by decide +kernel, by decide +kernel⟩, List.mem_of_getElem? (i := 652) (by decide +kernel), List.mem_of_getElem? (i := 954) (by decide +kernel), List.mem_of_getElem? (i := 955) (by decide +kernel)⟩
theorem lw_p55 : lw_okq (⟨"PatternWalkModel", "setMarks", "(II)V"⟩, 45) := ⟨⟨by decide +kernel, by decide +kernel⟩, List.mem_of_getElem? (i := 652) (by decide +kernel), List.mem_of_getElem? (i := 958) (by decide +kernel), List.mem_of_getElem? (i := 959) (by decide +kernel)⟩
theorem lw_p56 : lw_okq (⟨"PatternWalkModel", "step", "(I)V"⟩, 45) := ⟨⟨by decide +kernel, by decide +kernel⟩, List.mem_of_getElem? (i := 652) (by decide +kernel), List.mem_of_getElem? (i := 962) (by decide +kernel), List.mem_of_getElem? (i := 963) (by decide +kernel)⟩
def lw_privs_4 : List (MethodName × Nat) := [(⟨"PatternWalkModel", "fill", "()V"⟩, 45), (⟨"PatternWalkModel", "reaches", "(II)Z"⟩, 45), (⟨"PatternWalkModel", "may", "(II)Z"⟩, 45), (⟨"PatternWalkModel", "takes", "(II)Z"⟩, 45), (⟨"PatternWalkModel", "isMatch", "(I)Z"⟩, 45), (⟨"PatternWalkModel", "spread", "([ZI)V"⟩, 45), (⟨"PatternWalkModel", "choose", "(II)I"⟩, 45), (⟨"PatternWalkModel", "setMarks", "(II)V"⟩, 45), (⟨"PatternWalkModel", "step", "(I)V"⟩, 45)]
theorem lw_r4 : ∀ q ∈ lw_privs_4, lw_okq q := List.forall_mem_cons.mpr ⟨lw_p48, List.forall_mem_cons.mpr ⟨lw_p49, List.forall_mem_cons.mpr ⟨lw_p50, List.forall_mem_cons.mpr ⟨lw_p51, List.forall_mem_cons.mpr ⟨lw_p52, List.forall_mem_cons.mpr ⟨lw_p53, List.forall_mem_cons.mpr ⟨lw_p54, List.forall_mem_cons.mpr ⟨lw_p55, List.forall_mem_cons.mpr ⟨lw_p56, fun _ h => absurd h List.not_mem_nil⟩⟩⟩⟩⟩⟩⟩⟩⟩
def lw_privs : List (MethodName × Nat) := lw_privs_1 ++ (lw_privs_2 ++ (lw_privs_3 ++ (lw_privs_4)))
def lw_tbl : List Cond := k2_sels lw_privs ++ tables_1
theorem lw_privs_ok : ∀ q ∈ lw_privs, lw_okq q := by
  show ∀ q ∈ lw_privs_1 ++ (lw_privs_2 ++ (lw_privs_3 ++ (lw_privs_4))), lw_okq q
  exact List.forall_mem_append.mpr ⟨lw_r1, List.forall_mem_append.mpr ⟨lw_r2, List.forall_mem_append.mpr ⟨lw_r3, lw_r4⟩⟩⟩
/-- the tables' words that stay true from call to call -/
def q_Ts : List Cond := lw_tbl.filter goodWord
theorem q_in (i : Nat) {w : Cond} (h : lw_tbl[i]? = some w) (hg : goodWord w = true) : w ∈ q_Ts := List.mem_filter.mpr ⟨List.mem_of_getElem? h, hg⟩
theorem q_Ts_good : GoodIn q_Ts q_Ts := fun w hw => ⟨hw, good_of_word (List.mem_filter.mp hw).2⟩
theorem q_Ts_tbl : ∀ w ∈ q_Ts, w ∈ lw_tbl := fun w hw => (List.mem_filter.mp hw).1
end
section
/-! THE SMALL MACHINE: an interpreter of the bytecode over an abstract heap (cells by address, next address, cells made, slots made). What it answers, the machine does (part 12). -/
abbrev qE : Type := (Nat × vp_A) ⊕ (Nat × List Value)
abbrev qH : Type := (Nat → Option qE) × Nat × Nat × Nat
abbrev qL : Type := List (Option Value)
abbrev qS : Type := Nat × qL × List Value × qH
abbrev qO : Type := (Option Value ⊕ Nat) × qH
abbrev qN : Type := Option (qS ⊕ qO)
/-- kinds of arrays, by number -/
def q_kill (lo : qL) : Nat → qL
  | 0 => lo
  | j + 1 => match lo.getD j none with
    | some v => if v.category = 2 then lo.set j none else lo
    | none => lo
def q_st1 (lo : qL) (i : Nat) (v : Value) : qL := (q_kill lo i).set i (some v)
def q_st2 (lo : qL) (i : Nat) (v : Value) : qL := ((q_kill lo i).set i (some v)).set (i + 1) none
def q_up (h : Nat → Option qE) (a : Nat) (e : qE) : Nat → Option qE := fun b => if b = a then some e else h b
def q_go (pc : Nat) (lo : qL) (st : List Value) (σ : qH) : qN := some (.inl (pc, lo, st, σ))
def q_tg (pc : Nat) (off : Int) : Nat := ((pc : Int) + off).toNat
def q_br (P : Prop) [Decidable P] (pc : Nat) (off : Int) (lo : qL) (st : List Value) (σ : qH) : qN :=
  if (pc : Int) + off = (q_tg pc off : Int) then some (.inl (if P then q_tg pc off else pc + 3, lo, st, σ)) else none
def q_push (v : Value) (n pc : Nat) (lo : qL) (st : List Value) (σ : qH) : qN := q_go (pc + n) lo (v :: st) σ
def q_iload (i n pc : Nat) (lo : qL) (st : List Value) (σ : qH) : qN := match lo.getD i none with
  | some (.int x) => q_go (pc + n) lo (.int x :: st) σ
  | _ => none
def q_lload (i n pc : Nat) (lo : qL) (st : List Value) (σ : qH) : qN := match lo.getD i none with
  | some (.long x) => q_go (pc + n) lo (.long x :: st) σ
  | _ => none
def q_aload (i n pc : Nat) (lo : qL) (st : List Value) (σ : qH) : qN := match lo.getD i none with
  | some (.ref x) => q_go (pc + n) lo (.ref x :: st) σ
  | some .null => q_go (pc + n) lo (.null :: st) σ
  | _ => none
def q_istore (i n pc : Nat) (lo : qL) (st : List Value) (σ : qH) : qN := match st with
  | .int x :: r => if i < lo.length then q_go (pc + n) (q_st1 lo i (.int x)) r σ else none
  | _ => none
def q_lstore (i n pc : Nat) (lo : qL) (st : List Value) (σ : qH) : qN := match st with
  | .long x :: r => if i + 1 < lo.length then q_go (pc + n) (q_st2 lo i (.long x)) r σ else none
  | _ => none
def q_astore (i n pc : Nat) (lo : qL) (st : List Value) (σ : qH) : qN := match st with
  | .ref x :: r => if i < lo.length then q_go (pc + n) (q_st1 lo i (.ref x)) r σ else none
  | .null :: r => if i < lo.length then q_go (pc + n) (q_st1 lo i .null) r σ else none
  | _ => none
def q_iinc (i : Nat) (k : Int) (n pc : Nat) (lo : qL) (st : List Value) (σ : qH) : qN := match lo.getD i none with
  | some (.int x) => if i < lo.length then q_go (pc + n) (q_st1 lo i (.int (x + Int32.ofInt k))) st σ else none
  | _ => none
def q_i1 (f : Int32 → Value) (pc : Nat) (lo : qL) (st : List Value) (σ : qH) : qN := match st with
  | .int x :: r => q_go (pc + 1) lo (f x :: r) σ
  | _ => none
def q_l1 (f : Int64 → Value) (pc : Nat) (lo : qL) (st : List Value) (σ : qH) : qN := match st with
  | .long x :: r => q_go (pc + 1) lo (f x :: r) σ
  | _ => none
def q_i2 (f : Int32 → Int32 → Int32) (pc : Nat) (lo : qL) (st : List Value) (σ : qH) : qN := match st with
  | .int y :: .int x :: r => q_go (pc + 1) lo (.int (f x y) :: r) σ
  | _ => none
def q_d2 (f : Int32 → Int32 → Int32) (pc : Nat) (lo : qL) (st : List Value) (σ : qH) : qN := match st with
  | .int y :: .int x :: r => if y = 0 then none else q_go (pc + 1) lo (.int (f x y) :: r) σ
  | _ => none
def q_l2 (f : Int64 → Int64 → Value) (pc : Nat) (lo : qL) (st : List Value) (σ : qH) : qN := match st with
  | .long y :: .long x :: r => q_go (pc + 1) lo (f x y :: r) σ
  | _ => none
def q_ls (f : Int64 → Int32 → Int64) (pc : Nat) (lo : qL) (st : List Value) (σ : qH) : qN := match st with
  | .int y :: .long x :: r => q_go (pc + 1) lo (.long (f x y) :: r) σ
  | _ => none
def q_dup (pc : Nat) (lo : qL) (st : List Value) (σ : qH) : qN := match st with
  | a :: r => if a.category = 1 then q_go (pc + 1) lo (a :: a :: r) σ else none
  | _ => none
def q_pop (pc : Nat) (lo : qL) (st : List Value) (σ : qH) : qN := match st with
  | a :: r => if a.category = 1 then q_go (pc + 1) lo r σ else none
  | _ => none
def q_pop2 (pc : Nat) (lo : qL) (st : List Value) (σ : qH) : qN := match st with
  | .long _ :: r => q_go (pc + 1) lo r σ
  | _ => none
def q_dupx1 (pc : Nat) (lo : qL) (st : List Value) (σ : qH) : qN := match st with
  | a :: b :: r => if a.category = 1 ∧ b.category = 1 then q_go (pc + 1) lo (a :: b :: a :: r) σ else none
  | _ => none
def q_dupx2 (pc : Nat) (lo : qL) (st : List Value) (σ : qH) : qN := match st with
  | a :: b :: d :: r => if a.category = 1 ∧ b.category = 1 ∧ d.category = 1 then q_go (pc + 1) lo (a :: b :: d :: a :: r) σ else none
  | _ => none
def q_dup2 (pc : Nat) (lo : qL) (st : List Value) (σ : qH) : qN := match st with
  | .long a :: r => q_go (pc + 1) lo (.long a :: .long a :: r) σ
  | a :: b :: r => if a.category = 1 ∧ b.category = 1 then q_go (pc + 1) lo (a :: b :: a :: b :: r) σ else none
  | _ => none
def q_dup2x1 (pc : Nat) (lo : qL) (st : List Value) (σ : qH) : qN := match st with
  | .long a :: b :: r => if b.category = 1 then q_go (pc + 1) lo (.long a :: b :: .long a :: r) σ else none
  | _ => none
def q_if (cd : ClassFile.Cond) (off : Int) (pc : Nat) (lo : qL) (st : List Value) (σ : qH) : qN := match st with
  | .int x :: r => match cd with
    | .eq => q_br (x = 0) pc off lo r σ
    | .ne => q_br (¬ x = 0) pc off lo r σ
    | .lt => q_br (x < 0) pc off lo r σ
    | .ge => q_br (0 ≤ x) pc off lo r σ
    | .gt => q_br (0 < x) pc off lo r σ
    | .le => q_br (x ≤ 0) pc off lo r σ
  | _ => none
def q_icmp (cd : ClassFile.Cond) (off : Int) (pc : Nat) (lo : qL) (st : List Value) (σ : qH) : qN := match st with
  | .int y :: .int x :: r => match cd with
    | .eq => q_br (x = y) pc off lo r σ
    | .ne => q_br (¬ x = y) pc off lo r σ
    | .lt => q_br (x < y) pc off lo r σ
    | .ge => q_br (y ≤ x) pc off lo r σ
    | .gt => q_br (y < x) pc off lo r σ
    | .le => q_br (x ≤ y) pc off lo r σ
  | _ => none
def q_ifnull (off : Int) (pc : Nat) (lo : qL) (st : List Value) (σ : qH) : qN := match st with
  | .null :: r => if (pc : Int) + off = (q_tg pc off : Int) then q_go (q_tg pc off) lo r σ else none
  | .ref _ :: r => q_go (pc + 3) lo r σ
  | _ => none
def q_ifnonnull (off : Int) (pc : Nat) (lo : qL) (st : List Value) (σ : qH) : qN := match st with
  | .ref _ :: r => if (pc : Int) + off = (q_tg pc off : Int) then q_go (q_tg pc off) lo r σ else none
  | .null :: r => q_go (pc + 3) lo r σ
  | _ => none
def q_goto (off : Int) (pc : Nat) (lo : qL) (st : List Value) (σ : qH) : qN :=
  if (pc : Int) + off = (q_tg pc off : Int) then q_go (q_tg pc off) lo st σ else none
def q_lookup (dflt : Int) (ps : Array (Int × Int)) (pc : Nat) (lo : qL) (st : List Value) (σ : qH) : qN := match st with
  | .int x :: r => if (ps.toList.zip (ps.toList.drop 1)).all (fun (a, next) => a.1 < next.1) = true ∧ (pc : Int) + Op.lookupswitch.offset ps.toList dflt x.toInt = (q_tg pc (Op.lookupswitch.offset ps.toList dflt x.toInt) : Int)
      then q_go (q_tg pc (Op.lookupswitch.offset ps.toList dflt x.toInt)) lo r σ else none
  | _ => none
def q_toff (dflt low high : Int) (offs : Array Int) (x : Int) : Option Int := if x < low ∨ high < x then some dflt else offs[(x - low).toNat]?
def q_table (dflt low high : Int) (offs : Array Int) (pc : Nat) (lo : qL) (st : List Value) (σ : qH) : qN := match st with
  | .int x :: r => match q_toff dflt low high offs x.toInt with
    | some off => if (pc : Int) + off = (q_tg pc off : Int) then q_go (q_tg pc off) lo r σ else none
    | none => none
  | _ => none
def q_getf (f : Option (Nat × Nat × FieldType × Nat)) (pc : Nat) (lo : qL) (st : List Value) (σ : qH) : qN := match f, st with
  | some (ci, k, _, _), .ref a :: r => match σ.1 a with
    | some (.inr (cj, fs)) => if cj = ci then (match fs[k]? with
      | some v => q_go (pc + 3) lo (v :: r) σ
      | none => none) else none
    | _ => none
  | _, _ => none
def q_putf (f : Option (Nat × Nat × FieldType × Nat)) (ini : Bool) (pc : Nat) (lo : qL) (st : List Value) (σ : qH) : qN := match f, st with
  | some (ci, k, ty, fin), v :: .ref a :: r => match σ.1 a with
    | some (.inr (cj, fs)) => if cj = ci ∧ k < fs.length ∧ narrow ty v = v ∧ fits ty v = true ∧ (fin = 0 ∨ (fin = 1 ∧ ini = true)) then q_go (pc + 3) lo r (q_up σ.1 a (.inr (ci, fs.set k v)), σ.2) else none
    | _ => none
  | _, _ => none
def q_iald (kd pc : Nat) (lo : qL) (st : List Value) (σ : qH) : qN := match st with
  | .int i :: .ref a :: r => match σ.1 a with
    | some (.inl (k, n, .inl f)) => if k = kd ∧ ¬ (i < 0 ∨ n ≤ i.toNatClampNeg) then q_go (pc + 1) lo (.int (f i.toNatClampNeg) :: r) σ else none
    | _ => none
  | _ => none
def q_lald (pc : Nat) (lo : qL) (st : List Value) (σ : qH) : qN := match st with
  | .int i :: .ref a :: r => match σ.1 a with
    | some (.inl (k, n, .inr (.inl f))) => if k = 2 ∧ ¬ (i < 0 ∨ n ≤ i.toNatClampNeg) then q_go (pc + 1) lo (.long (f i.toNatClampNeg) :: r) σ else none
    | _ => none
  | _ => none
def q_iast (kd : Nat) (nr : Int32 → Int32) (pc : Nat) (lo : qL) (st : List Value) (σ : qH) : qN := match st with
  | .int x :: .int i :: .ref a :: r => match σ.1 a with
    | some (.inl (k, n, .inl f)) => if k = kd ∧ ¬ (i < 0 ∨ n ≤ i.toNatClampNeg) then q_go (pc + 1) lo r (q_up σ.1 a (.inl (k, n, .inl (upd f i.toNatClampNeg (nr x)))), σ.2) else none
    | _ => none
  | _ => none
def q_last (pc : Nat) (lo : qL) (st : List Value) (σ : qH) : qN := match st with
  | .long x :: .int i :: .ref a :: r => match σ.1 a with
    | some (.inl (k, n, .inr (.inl f))) => if k = 2 ∧ ¬ (i < 0 ∨ n ≤ i.toNatClampNeg) then q_go (pc + 1) lo r (q_up σ.1 a (.inl (k, n, .inr (.inl (vp_updL f i.toNatClampNeg x)))), σ.2) else none
    | _ => none
  | _ => none
def q_alen (pc : Nat) (lo : qL) (st : List Value) (σ : qH) : qN := match st with
  | .ref a :: r => match σ.1 a with
    | some (.inl (k, n, _)) => if k < 4 then q_go (pc + 1) lo (.int (Int32.ofNat n) :: r) σ else none
    | _ => none
  | _ => none

def q_new (kd by_ : Nat) (mk : Nat → vp_A) (pc : Nat) (lo : qL) (st : List Value) (σ : qH) : qN := match st with
  | .int n :: r => if n < 0 ∨ 536870912 < n.toNatClampNeg * by_ then none else
      q_go (pc + 2) lo (.ref σ.2.1 :: r) (q_up σ.1 σ.2.1 (.inl (kd, mk n.toNatClampNeg)), σ.2.1 + 1, σ.2.2.1 + 1, σ.2.2.2 + n.toNatClampNeg)
  | _ => none
def q_newA (t : ClassFile.ArrayType) (pc : Nat) (lo : qL) (st : List Value) (σ : qH) : qN := match t with
  | .int => q_new 0 4 (fun n => (n, .inl fun _ => 0)) pc lo st σ
  | .char => q_new 1 2 (fun n => (n, .inl fun _ => 0)) pc lo st σ
  | .long => q_new 2 8 (fun n => (n, .inr (.inl fun _ => 0))) pc lo st σ
  | .boolean => q_new 3 1 (fun n => (n, .inl fun _ => 0)) pc lo st σ
  | _ => none
/-- what a class's number says of 'new': its number and its fields as they are at first; or an exception's number -/
def q_newC (c : Option ((Nat × List Value) ⊕ Nat)) (pc : Nat) (lo : qL) (st : List Value) (σ : qH) : qN := match c with
  | some (.inl (ci, fs)) => q_go (pc + 3) lo (.ref σ.2.1 :: st) (q_up σ.1 σ.2.1 (.inr (ci, fs)), σ.2.1 + 1, σ.2.2.1 + 1, σ.2.2.2 + fs.length)
  | some (.inr x) => some (.inr (.inr x, (σ.1, σ.2.1 + 1, σ.2.2.1 + 1, σ.2.2.2 + 6)))
  | none => none
abbrev qC : Type := Nat → List Value → qH → Option qO
def q_sum (st : List Value) : Nat := (st.map fun v => v.category).sum
def q_back (pc : Nat) (lo : qL) (r : List Value) (o : Option qO) : qN := match o with
  | some (.inl v, σ') => q_go (pc + 3) lo (v.toList ++ r) σ'
  | _ => none
/-- calls by their kind: 0 Object(), 1 on an object whose class is ci, 2 static, 3 a constructor, 4 Math.max, 5 Math.min -/
def q_call (rc : qC) (k : Option (Nat × Nat × Nat × Nat)) (pc : Nat) (lo : qL) (st : List Value) (σ : qH) : qN := match k with
  | some (0, _, _, _) => match st with
    | .ref _ :: r => if q_sum r ≤ 8 then q_go (pc + 3) lo r σ else none
    | _ => none
  | some (1, z, n, ci) => match st.drop n with
    | .ref b :: r => match σ.1 b with
      | some (.inr (cj, _)) => if cj = ci ∧ q_sum r ≤ 8 then q_back pc lo r (rc z (.ref b :: (st.take n).reverse) σ) else none
      | _ => none
    | _ => none
  | some (2, z, n, _) => if n ≤ st.length ∧ q_sum (st.drop n) ≤ 8 then q_back pc lo (st.drop n) (rc z (st.take n).reverse σ) else none
  | some (3, z, n, _) => match st.drop n with
    | .ref b :: r => if q_sum r ≤ 8 then q_back pc lo r (rc z (.ref b :: (st.take n).reverse) σ) else none
    | _ => none
  | some (4, _, _, _) => match st with
    | .int y :: .int x :: r => if q_sum r ≤ 8 then q_go (pc + 3) lo (.int (if x < y then y else x) :: r) σ else none
    | _ => none
  | some (5, _, _, _) => match st with
    | .int y :: .int x :: r => if q_sum r ≤ 8 then q_go (pc + 3) lo (.int (if y < x then y else x) :: r) σ else none
    | _ => none
  | _ => none
def q_ireturn (ty : Option FieldType) (st : List Value) (σ : qH) : qN := match ty, st with
  | some t, [.int x] => if narrow t (.int x) = .int x then some (.inr (.inl (some (.int x)), σ)) else none
  | _, _ => none
def q_lreturn (ty : Option FieldType) (st : List Value) (σ : qH) : qN := match ty, st with
  | some .long, [.long x] => some (.inr (.inl (some (.long x)), σ))
  | _, _ => none
def q_isRefT : Option FieldType → Bool
  | some (.object _) => true
  | some (.array _) => true
  | _ => false
def q_areturn (ty : Option FieldType) (st : List Value) (σ : qH) : qN := if q_isRefT ty = true then (match st with
  | [.ref a] => some (.inr (.inl (some (.ref a)), σ))
  | [.null] => some (.inr (.inl (some .null), σ))
  | _ => none) else none
def q_vreturn (ty : Option FieldType) (st : List Value) (σ : qH) : qN := match ty, st with
  | none, [] => some (.inr (.inl none, σ))
  | _, _ => none
/-- how long an instruction is -/
def q_len : ClassFile.Instr → Nat
  | .aload _ => 2 | .astore _ => 2 | .iload _ => 2 | .istore _ => 2 | .lload _ => 2 | .lstore _ => 2
  | .bipush _ => 2 | .sipush _ => 3 | .ldc _ => 2 | .ldc2_w _ => 3 | .iinc _ _ => 3
  | .getfield _ => 3 | .putfield _ => 3 | .goto _ => 3 | .if_icmp _ _ => 3 | .ifCond _ _ => 3 | .if_acmp _ _ => 3 | .ifnull _ => 3 | .ifnonnull _ => 3
  | .invokespecial _ => 3 | .invokestatic _ => 3 | .invokevirtual _ => 3 | .new _ => 3 | .newarray _ => 2
  | _ => 1
def q_isSw : ClassFile.Instr → Bool
  | .lookupswitch _ _ => true
  | .tableswitch _ _ _ _ => true
  | _ => false

/-- a class's constant pool as the machine needs it: fields, classes, methods, ints, longs -/
abbrev qP : Type := (Nat → Option (Nat × Nat × FieldType × Nat)) × (Nat → Option ((Nat × List Value) ⊕ Nat)) × (Nat → Option (Nat × Nat × Nat × Nat)) × (Nat → Option Int32) × (Nat → Option Int64)
def q_ex (rc : qC) (P : qP) (ini : Bool) (rt : Option FieldType) (i : ClassFile.Instr) (pc : Nat) (lo : qL) (st : List Value) (σ : qH) : qN := match i with
  | .aconst_null => q_push .null 1 pc lo st σ
  | .aload i => q_aload i 2 pc lo st σ
  | .aload_n i => q_aload i.val 1 pc lo st σ
  | .areturn => q_areturn rt st σ
  | .arraylength => q_alen pc lo st σ
  | .astore i => q_astore i 2 pc lo st σ
  | .astore_n i => q_astore i.val 1 pc lo st σ
  | .baload => q_iald 3 pc lo st σ
  | .bastore => q_iast 3 (vp_nar .boolean) pc lo st σ
  | .bipush n => q_push (.int (Int8.ofInt n).toInt32) 2 pc lo st σ
  | .caload => q_iald 1 pc lo st σ
  | .castore => q_iast 1 (vp_nar .char) pc lo st σ
  | .dup => q_dup pc lo st σ
  | .dup_x1 => q_dupx1 pc lo st σ
  | .dup_x2 => q_dupx2 pc lo st σ
  | .dup2 => q_dup2 pc lo st σ
  | .dup2_x1 => q_dup2x1 pc lo st σ
  | .getfield k => q_getf (P.1 k) pc lo st σ
  | .goto off => q_goto off pc lo st σ
  | .i2c => q_i1 (fun x => .int (x.toUInt32 % 65536).toInt32) pc lo st σ
  | .i2l => q_i1 (fun x => .long x.toInt64) pc lo st σ
  | .iadd => q_i2 (fun x y => x + y) pc lo st σ
  | .iaload => q_iald 0 pc lo st σ
  | .iand => q_i2 (fun x y => x &&& y) pc lo st σ
  | .iastore => q_iast 0 (fun x => x) pc lo st σ
  | .iconst n => q_push (.int (Int32.ofInt n)) 1 pc lo st σ
  | .idiv => q_d2 (fun x y => x / y) pc lo st σ
  | .if_icmp cd off => q_icmp cd off pc lo st σ
  | .ifCond cd off => q_if cd off pc lo st σ
  | .ifnonnull off => q_ifnonnull off pc lo st σ
  | .ifnull off => q_ifnull off pc lo st σ
  | .iinc i k => q_iinc i k 3 pc lo st σ
  | .iload i => q_iload i 2 pc lo st σ
  | .iload_n i => q_iload i.val 1 pc lo st σ
  | .imul => q_i2 (fun x y => x * y) pc lo st σ
  | .ineg => q_i1 (fun x => .int (-x)) pc lo st σ
  | .invokespecial k => (match P.2.2.1 k with
    | some (0, z) => q_call rc (some (0, z)) pc lo st σ
    | some (3, z) => q_call rc (some (3, z)) pc lo st σ
    | _ => none)
  | .invokestatic k => (match P.2.2.1 k with
    | some (2, z) => q_call rc (some (2, z)) pc lo st σ
    | some (4, z) => q_call rc (some (4, z)) pc lo st σ
    | some (5, z) => q_call rc (some (5, z)) pc lo st σ
    | _ => none)
  | .invokevirtual k => (match P.2.2.1 k with
    | some (1, z) => q_call rc (some (1, z)) pc lo st σ
    | _ => none)
  | .ior => q_i2 (fun x y => x ||| y) pc lo st σ
  | .irem => q_d2 (fun x y => x - x / y * y) pc lo st σ
  | .ireturn => q_ireturn rt st σ
  | .ishl => q_i2 (fun x y => x <<< (y &&& 31)) pc lo st σ
  | .ishr => q_i2 (fun x y => x >>> (y &&& 31)) pc lo st σ
  | .istore i => q_istore i 2 pc lo st σ
  | .istore_n i => q_istore i.val 1 pc lo st σ
  | .isub => q_i2 (fun x y => x - y) pc lo st σ
  | .iushr => q_i2 (fun x y => (x.toUInt32 >>> (y.toUInt32 &&& Int32.toUInt32 31)).toInt32) pc lo st σ
  | .ixor => q_i2 (fun x y => x ^^^ y) pc lo st σ
  | .l2i => q_l1 (fun x => .int x.toInt32) pc lo st σ
  | .ladd => q_l2 (fun x y => .long (x + y)) pc lo st σ
  | .laload => q_lald pc lo st σ
  | .land => q_l2 (fun x y => .long (x &&& y)) pc lo st σ
  | .lastore => q_last pc lo st σ
  | .lcmp => q_l2 (fun x y => .int (lg_cmp x y)) pc lo st σ
  | .lconst n => q_push (.long (Int64.ofNat (n : Nat))) 1 pc lo st σ
  | .ldc k => (match P.2.2.2.1 k with
    | some v => q_push (.int v) 2 pc lo st σ
    | none => none)
  | .ldc2_w k => (match P.2.2.2.2 k with
    | some v => q_push (.long v) 3 pc lo st σ
    | none => none)
  | .lload i => q_lload i 2 pc lo st σ
  | .lload_n i => q_lload i.val 1 pc lo st σ
  | .lmul => q_l2 (fun x y => .long (x * y)) pc lo st σ
  | .lookupswitch d ps => q_lookup d ps pc lo st σ
  | .lor => q_l2 (fun x y => .long (x ||| y)) pc lo st σ
  | .lreturn => q_lreturn rt st σ
  | .lshl => q_ls (fun x y => x <<< (y.toInt64 &&& 63)) pc lo st σ
  | .lshr => q_ls (fun x y => x >>> (y.toInt64 &&& 63)) pc lo st σ
  | .lstore i => q_lstore i 2 pc lo st σ
  | .lstore_n i => q_lstore i.val 1 pc lo st σ
  | .lsub => q_l2 (fun x y => .long (x - y)) pc lo st σ
  | .lushr => q_ls (fun x y => (x.toUInt64 >>> (y.toInt64.toUInt64 &&& Int64.toUInt64 63)).toInt64) pc lo st σ
  | .lxor => q_l2 (fun x y => .long (x ^^^ y)) pc lo st σ
  | .new k => q_newC (P.2.1 k) pc lo st σ
  | .newarray t => q_newA t pc lo st σ
  | .pop => q_pop pc lo st σ
  | .pop2 => q_pop2 pc lo st σ
  | .putfield k => q_putf (P.1 k) ini pc lo st σ
  | .return_ => q_vreturn rt st σ
  | .sipush n => q_push (.int (Int16.ofInt n).toInt32) 3 pc lo st σ
  | .tableswitch d a b os => q_table d a b os pc lo st σ
  | _ => none
/-- a method as the machine needs it: code, locals, answer, whether it is a constructor, its class's pool -/
abbrev qM : Type := ByteArray × Nat × Option FieldType × Bool × qP
def q_ins (cc : ByteArray) (pc : Nat) : Option ClassFile.Instr := match decode cc pc with
  | .ok (i, n) => if n = q_len i ∨ q_isSw i = true then some i else none
  | _ => none
def q_step (rc : qC) (M : qM) (x : qS) : qN := match q_ins M.1 x.1 with
  | some i => q_ex rc M.2.2.2.2 M.2.2.2.1 M.2.2.1 i x.1 x.2.1 x.2.2.1 x.2.2.2
  | none => none
def q_run (rc : qC) (M : qM) : Nat → qS → Option qO
  | 0, _ => none
  | n + 1, x => match q_step rc M x with
    | some (.inl x') => q_run rc M n x'
    | some (.inr o) => some o
    | none => none
theorem q_run_up {rc : qC} {M : qM} : ∀ (n : Nat) (x : qS) (o : qO), q_run rc M n x = some o → ∀ k, q_run rc M (n + k) x = some o := by
  intro n
  induction n with
  | zero => intro x o h; cases h
  | succ n ih =>
    intro x o h k
    rw [show n + 1 + k = (n + k) + 1 by omega]
    simp only [q_run] at h ⊢
    cases hs : q_step rc M x with
    | none => rw [hs] at h; cases h
    | some r =>
      rw [hs] at h
      cases r with
      | inl x' => exact ih x' o h k
      | inr o' => exact h
theorem q_run_det {rc : qC} {M : qM} {n k : Nat} {x : qS} {o o' : qO} (h : q_run rc M n x = some o) (h' : q_run rc M k x = some o') : o = o' := by
  have h1 := q_run_up n x o h k
  have h2 := q_run_up k x o' h' n
  rw [Nat.add_comm k n] at h2
  exact Option.some.inj (h1.symm.trans h2)
/-- what a run comes to, however long it is -/
noncomputable def q_out (rc : qC) (M : qM) (x : qS) : Option qO := @dite _ (∃ (o : qO), ∃ (n : Nat), q_run rc M n x = some o) (Classical.propDecidable _) (fun h => some (Classical.choose h)) (fun _ => none)
theorem q_out_iff {rc : qC} {M : qM} {x : qS} {o : qO} : q_out rc M x = some o ↔ ∃ n, q_run rc M n x = some o := by
  unfold q_out
  constructor
  · intro h
    split at h
    · rename_i hx
      cases h
      exact Classical.choose_spec hx
    · cases h
  · intro h
    have hx : ∃ (o : qO), ∃ (n : Nat), q_run rc M n x = some o := ⟨o, h⟩
    rw [dif_pos hx]
    obtain ⟨n, hn⟩ := Classical.choose_spec hx
    obtain ⟨k, hk⟩ := h
    rw [q_run_det hn hk]
theorem q_out_go {rc : qC} {M : qM} {x x' : qS} (h : q_step rc M x = some (.inl x')) : q_out rc M x = q_out rc M x' := by
  apply Option.ext
  intro o
  rw [q_out_iff, q_out_iff]
  constructor
  · rintro ⟨n, hn⟩
    cases n with
    | zero => cases hn
    | succ n => exact ⟨n, by simpa only [q_run, h] using hn⟩
  · rintro ⟨n, hn⟩
    exact ⟨n + 1, by simpa only [q_run, h] using hn⟩
theorem q_out_end {rc : qC} {M : qM} {x : qS} {o : qO} (h : q_step rc M x = some (.inr o)) : q_out rc M x = some o :=
  q_out_iff.mpr ⟨1, by simp only [q_run, h]⟩
theorem q_step_of {rc : qC} {M : qM} {pc : Nat} {i : ClassFile.Instr} {n : Nat} {lo : qL} {st : List Value} {σ : qH} (hd : decode M.1 pc = .ok (i, n)) (hn : n = q_len i ∨ q_isSw i = true) : q_step rc M (pc, lo, st, σ) = q_ex rc M.2.2.2.2 M.2.2.2.1 M.2.2.1 i pc lo st σ := by
  simp only [q_step, q_ins, hd, if_pos hn]
/-- arguments as locals -/
def q_args : List Value → qL
  | [] => []
  | v :: vs => if v.category = 2 then some v :: none :: q_args vs else some v :: q_args vs
def q_entry (n : Nat) (as : List Value) : qL := q_args as ++ List.replicate (n - (q_args as).length) none
/-- a call, d calls deep at most -/
noncomputable def q_ev (Mt : Nat → Option qM) : Nat → qC
  | 0 => fun _ _ _ => none
  | d + 1 => fun y as σ => match Mt y with
    | some M => if (q_args as).length ≤ M.2.1 then q_out (q_ev Mt d) M (0, q_entry M.2.1 as, [], σ) else none
    | none => none
end
section
/-! THE SMALL MACHINE IS TRUE, 1: locals, cells, the goal -/
theorem q_getD_set {α : Type} (l : List (Option α)) (i j : Nat) (x : Option α) (hi : i < l.length) : (l.set i x).getD j none = if j = i then x else l.getD j none := by
  rw [List.getD_eq_getElem?_getD, List.getD_eq_getElem?_getD, List.getElem?_set]
  by_cases h : i = j
  · subst h; simp [hi]
  · have h2 : ¬ j = i := fun z => h z.symm
    simp [h, h2]
theorem q_getD_lt {α : Type} {l : List (Option α)} {i : Nat} {x : α} (h : l.getD i none = some x) : i < l.length := by
  rcases Nat.lt_or_ge i l.length with q | q
  · exact q
  · rw [List.getD_eq_getElem?_getD, List.getElem?_eq_none q] at h; cases h
theorem q_kill_len (lo : qL) (i : Nat) : (q_kill lo i).length = lo.length := by
  cases i with
  | zero => rfl
  | succ j =>
    simp only [q_kill]
    cases lo.getD j none with
    | none => rfl
    | some v =>
      dsimp only
      split
      · simp
      · rfl
theorem q_kill_get {lo : qL} {i j : Nat} {u : Value} (h : (q_kill lo i).getD j none = some u) : lo.getD j none = some u ∧ ¬ (j + 1 = i ∧ u.category = 2) := by
  cases i with
  | zero => exact ⟨h, fun z => by omega⟩
  | succ k =>
    simp only [q_kill] at h
    cases hk : lo.getD k none with
    | none =>
      rw [hk] at h
      refine ⟨h, fun z => ?_⟩
      have : j = k := by omega
      subst this
      rw [hk] at h; cases h
    | some v =>
      rw [hk] at h
      dsimp only at h
      by_cases hv : v.category = 2
      · rw [if_pos hv, q_getD_set _ _ _ _ (q_getD_lt hk)] at h
        by_cases hj : j = k
        · rw [if_pos hj] at h; cases h
        · rw [if_neg hj] at h
          exact ⟨h, fun z => hj (by omega)⟩
      · rw [if_neg hv] at h
        refine ⟨h, fun z => ?_⟩
        have : j = k := by omega
        subst this
        rw [hk] at h
        cases h
        exact hv z.2
theorem q_st1_len (lo : qL) (i : Nat) (v : Value) : (q_st1 lo i v).length = lo.length := by simp [q_st1, q_kill_len]
theorem q_st2_len (lo : qL) (i : Nat) (v : Value) : (q_st2 lo i v).length = lo.length := by simp [q_st2, q_kill_len]
def q_lv (lo : qL) : List (Nat × Value) := (List.range lo.length).filterMap (fun i => (lo.getD i none).map (fun v => (i, v)))
theorem q_lv_mem {lo : qL} {i : Nat} {v : Value} : (i, v) ∈ q_lv lo ↔ lo.getD i none = some v := by
  unfold q_lv
  rw [List.mem_filterMap]
  constructor
  · rintro ⟨j, -, hj⟩
    cases h : lo.getD j none with
    | none => rw [h] at hj; cases hj
    | some u =>
      rw [h] at hj
      cases hj
      exact h
  · intro h
    exact ⟨i, List.mem_range.mpr (q_getD_lt h), by rw [h]; rfl⟩
def q_rel (lo : qL) (ls : Array Slot) : Prop := ls.size = lo.length ∧ lv_wf ls ∧ ∀ (i : Nat) (v : Value), lo.getD i none = some v → ls[i]? = some (.val v)
theorem q_rel.has {lo : qL} {ls : Array Slot} (h : q_rel lo ls) : lv_has ls lo.length (q_lv lo) := ⟨h.1, h.2.1, fun q hq => h.2.2 q.1 q.2 (q_lv_mem.mp hq)⟩
theorem q_rel.st1 {lo : qL} {ls' : Array Slot} {i : Nat} {v : Value} (hi : i < lo.length) (h : lv_has ls' lo.length ((i, v) :: (q_lv lo).filter (fun q => !(q.1 == i) && !(q.1 + 1 == i && q.2.category == 2)))) : q_rel (q_st1 lo i v) ls' := by
  refine ⟨by rw [q_st1_len]; exact h.1, h.2.1, fun j u hj => ?_⟩
  unfold q_st1 at hj
  rw [q_getD_set _ _ _ _ (by rw [q_kill_len]; exact hi)] at hj
  by_cases e : j = i
  · rw [if_pos e] at hj
    cases hj
    subst e
    exact h.2.2 (j, v) List.mem_cons_self
  · rw [if_neg e] at hj
    obtain ⟨h1, h2⟩ := q_kill_get hj
    refine h.2.2 (j, u) (List.mem_cons_of_mem _ (List.mem_filter.mpr ⟨q_lv_mem.mpr h1, ?_⟩))
    simp only [Bool.and_eq_true, Bool.not_eq_true', beq_eq_false_iff_ne, ne_eq, Bool.and_eq_false_iff]
    refine ⟨e, ?_⟩
    by_cases e1 : j + 1 = i
    · exact Or.inr (fun z => h2 ⟨e1, z⟩)
    · exact Or.inl e1
theorem q_rel.st2 {lo : qL} {ls' : Array Slot} {i : Nat} {v : Value} (hi : i + 1 < lo.length) (h : lv_has ls' lo.length ((i, v) :: (q_lv lo).filter (fun q => !(q.1 == i) && (!(q.1 == i + 1) && !(q.1 + 1 == i && q.2.category == 2))))) : q_rel (q_st2 lo i v) ls' := by
  refine ⟨by rw [q_st2_len]; exact h.1, h.2.1, fun j u hj => ?_⟩
  unfold q_st2 at hj
  rw [q_getD_set _ _ _ _ (by rw [List.length_set, q_kill_len]; exact hi)] at hj
  by_cases e0 : j = i + 1
  · rw [if_pos e0] at hj; cases hj
  · rw [if_neg e0, q_getD_set _ _ _ _ (by rw [q_kill_len]; omega)] at hj
    by_cases e : j = i
    · rw [if_pos e] at hj
      cases hj
      subst e
      exact h.2.2 (j, v) List.mem_cons_self
    · rw [if_neg e] at hj
      obtain ⟨h1, h2⟩ := q_kill_get hj
      refine h.2.2 (j, u) (List.mem_cons_of_mem _ (List.mem_filter.mpr ⟨q_lv_mem.mpr h1, ?_⟩))
      simp only [Bool.and_eq_true, Bool.not_eq_true', beq_eq_false_iff_ne, ne_eq, Bool.and_eq_false_iff]
      refine ⟨e, e0, ?_⟩
      by_cases e1 : j + 1 = i
      · exact Or.inr (fun z => h2 ⟨e1, z⟩)
      · exact Or.inl e1
theorem q_args_len (as : List Value) : (q_args as).length = (lg_sl as).length := by
  induction as with
  | nil => rfl
  | cons v vs ih =>
    have e : lg_sl (v :: vs) = (if v.category = 2 then [Slot.val v, .second] else [.val v]) ++ lg_sl vs := by simp [lg_sl]
    rw [e]
    unfold q_args
    split <;> simp [ih] <;> omega
theorem q_args_at : ∀ (as : List Value) (k i : Nat) (v : Value), (q_args as).getD i none = some v → (k + i, v) ∈ lv_args k as := by
  intro as
  induction as with
  | nil => intro k i v h; simp [q_args] at h
  | cons u us ih =>
    intro k i v h
    unfold q_args at h
    unfold lv_args
    by_cases hc : u.category = 2
    · rw [if_pos hc] at h ⊢
      match i, h with
      | 0, h => simp at h; subst h; simp
      | 1, h => simp at h
      | i + 2, h =>
        have := ih (k + 2) i v (by simpa using h)
        rw [show k + (i + 2) = k + 2 + i by omega]
        exact List.mem_cons_of_mem _ this
    · rw [if_neg hc] at h ⊢
      match i, h with
      | 0, h => simp at h; subst h; simp
      | i + 1, h =>
        have := ih (k + 1) i v (by simpa using h)
        rw [show k + (i + 1) = k + 1 + i by omega]
        exact List.mem_cons_of_mem _ this
theorem q_entry_len {n : Nat} {as : List Value} (h : (q_args as).length ≤ n) : (q_entry n as).length = n := by
  unfold q_entry; rw [List.length_append, List.length_replicate]; omega
theorem q_rel_entry {n : Nat} {as : List Value} (h : (q_args as).length ≤ n) : q_rel (q_entry n as) ((lg_sl as ++ List.replicate (n - (lg_sl as).length) Slot.unset).toArray) := by
  have hl := lv_entry as (n := n) (by rw [← q_args_len]; exact h)
  refine ⟨by rw [q_entry_len h]; exact hl.1, hl.2.1, fun i v hi => ?_⟩
  have h2 : (q_args as).getD i none = some v := by
    unfold q_entry at hi
    rw [List.getD_eq_getElem?_getD] at hi ⊢
    by_cases hlt : i < (q_args as).length
    · rw [List.getElem?_append_left hlt] at hi; exact hi
    · rw [List.getElem?_append_right (by omega)] at hi
      rw [List.getElem?_replicate] at hi
      split at hi <;> cases hi
  have := q_args_at as 0 i v h2
  rw [Nat.zero_add] at this
  exact hl.2.2 (i, v) this
def q_conv (ac : Nat → ClassId) : qE → va_E
  | .inl (k, x) => .inl (ac k, x)
  | .inr o => .inr o
def q_hold (D : va_G) (cl : List vw_C) (ac : Nat → ClassId) (B0 : Nat) (σ : qH) (H : Heap) : Prop :=
  H.size = σ.2.1 ∧ ∀ (a : Nat) (e : qE), σ.1 a = some e → B0 ≤ a ∧ va_at D cl (a, q_conv ac e) H
def q_tys (ac : Nat → ClassId) : List (ClassId × FieldType) := [(ac 0, .int), (ac 1, .char), (ac 2, .long), (ac 3, .boolean)]
def q_Cx (p : Program) (s : State) (m : MethodId) (args : Array Value) (c : Code) (D : va_G) (cl : List vw_C) (ac : Nat → ClassId) (B0 : Nat) (own : String) (cc : ByteArray) (nL : Nat) (Ts Ns : List Cond) : Prop :=
  p.tables.exec = Jvm.exec ∧ c.code = cc ∧ c.maxLocals = nL ∧ s.vm.findClass own = some m.cls ∧ (∀ w ∈ Ts, w.before args s = true) ∧ (∀ w ∈ Ns, va_Nw w s) ∧ va_K D cl (q_tys ac) s ∧ B0 ≤ s.heap.size
theorem q_P1 {D : va_G} {cl : List vw_C} {q : Nat × va_E} {H : Heap} (h : va_at D cl q H) : va_P D cl [q] H := by
  intro k x hk
  cases k with
  | zero => cases hk; exact h
  | succ k => cases hk
theorem q_hold.put {D : va_G} {cl : List vw_C} {ac : Nat → ClassId} {B0 : Nat} {σ : qH} {H H1 : Heap} {a : Nat} {e : qE} (h : q_hold D cl ac B0 σ H) (z : H1.size = H.size) (oq : ∀ q : Nat, q ≠ a → H1[q]? = H[q]?) (hB : B0 ≤ a) (he : va_at D cl (a, q_conv ac e) H1) : q_hold D cl ac B0 (q_up σ.1 a e, σ.2) H1 := by
  refine ⟨z.trans h.1, fun b x hx => ?_⟩
  unfold q_up at hx
  dsimp only at hx
  by_cases hb : b = a
  · rw [if_pos hb] at hx
    cases hx
    subst hb
    exact ⟨hB, he⟩
  · rw [if_neg hb] at hx
    obtain ⟨h1, h2⟩ := h.2 b x hx
    exact ⟨h1, h2.kept (oq b hb)⟩
theorem q_hold.new {D : va_G} {cl : List vw_C} {ac : Nat → ClassId} {B0 : Nat} {σ : qH} {H H1 : Heap} {e : qE} {k w : Nat} (h : q_hold D cl ac B0 σ H) (z : H1.size = H.size + 1) (oq : ∀ q : Nat, q < H.size → H1[q]? = H[q]?) (hB : B0 ≤ H.size) (he : va_at D cl (H.size, q_conv ac e) H1) : q_hold D cl ac B0 (q_up σ.1 σ.2.1 e, σ.2.1 + 1, k, w) H1 := by
  refine ⟨by rw [z, h.1], fun b x hx => ?_⟩
  unfold q_up at hx
  dsimp only at hx
  by_cases hb : b = σ.2.1
  · rw [if_pos hb] at hx
    cases hx
    rw [hb, ← h.1]
    exact ⟨hB, he⟩
  · rw [if_neg hb] at hx
    obtain ⟨h1, h2⟩ := h.2 b x hx
    exact ⟨h1, h2.kept (oq b h2.lt)⟩
end
section
/-! THE SMALL MACHINE IS TRUE, 2: a step -/
/-- the goal at a state of the small machine -/
def q_G (p : Program) (l : Launch) (e : Env) (R : Room) (s : State) (m : MethodId) (args : Array Value) (below : List Frame) (meth : Method) (c : Code) (D : va_G) (cl : List vw_C) (ac : Nat → ClassId) (B0 nL k0 w0 : Nat) (Q : State → Prop) (x : qS) : Prop :=
  ∀ (H : Heap) (locs : List Loc) (ls : Array Slot), q_rel x.2.1 ls → x.2.1.length = nL → q_hold D cl ac B0 x.2.2.2 H → va_S (fun q : Nat => B0 ≤ q) s.heap H locs → k0 ≤ x.2.2.2.2.2.1 → w0 ≤ x.2.2.2.2.2.2 →
    W p l e R s m args below meth c H locs (x.2.2.2.2.2.1 - k0) (x.2.2.2.2.2.2 - w0) Q (F0 m x.1 ls x.2.2.1)
/-- what is known of a field's number in a pool -/
def q_fok (cl : List vw_C) (Ts Ns : List Cond) (own : String) (idx : Nat) (f : Nat × Nat × FieldType × Nat) : Prop :=
  ∃ (C : String) (T : u_T) (N : Nat) (ty0 : Nat → FieldType), cl[f.1]? = some (C, T, N) ∧ f.2.1 < N ∧ (∀ w ∈ u_ws C T N, w ∈ Ts) ∧ (∀ k, k < N → parseFieldDescriptor (T k).2.2.1 = some (ty0 k)) ∧ (∀ a, a < N → ∀ b, b < N → a ≠ b → (T a).2.1 ≠ (T b).2.1) ∧ parseFieldDescriptor (T f.2.1).2.2.1 = some f.2.2.1 ∧
    (f.2.2.2 = 0 → (T f.2.1).2.2.2 = false) ∧ (f.2.2.2 = 1 → (T f.2.1).2.2.2 = true ∧ (T f.2.1).1 = own ∧ Cond.fieldLink own idx (T f.2.1).1 (T f.2.1).2.1 (T f.2.1).2.2.1 ∈ Ts) ∧
    (Cond.fieldLink own idx (T f.2.1).1 (T f.2.1).2.1 (T f.2.1).2.2.1 ∈ Ts ∨ ∃ host : String, Cond.fieldLinkNest own idx (T f.2.1).1 (T f.2.1).2.1 (T f.2.1).2.2.1 host ∈ Ns)
/-- of a class's number, at 'new' -/
def q_nok (cl : List vw_C) (Ts : List Cond) (own : String) (idx : Nat) (n : Nat × List Value) : Prop :=
  ∃ (C : String) (T : u_T) (N : Nat) (ty0 : Nat → FieldType), cl[n.1]? = some (C, T, N) ∧ n.2.length = N ∧ (∀ w ∈ u_ws C T N, w ∈ Ts) ∧ (∀ k, k < N → parseFieldDescriptor (T k).2.2.1 = some (ty0 k)) ∧ (∀ j, j < N → defaultValue (ty0 j) = vp_V n.2 j) ∧
    Cond.classLink own idx C ∈ Ts ∧ Cond.instantiable C N ∈ Ts ∧ Cond.initialized C ∈ Ts
section QS
variable {p : Program} {l : Launch} {e : Env} {R : Room} {s : State} {m : MethodId} {args : Array Value} {below : List Frame} {meth : Method} {c : Code} {D : va_G} {cl : List vw_C} {ac : Nat → ClassId} {B0 nL k0 w0 : Nat} {Q : State → Prop} {own : String} {cc : ByteArray} {Ts Ns : List Cond} {pc : Nat} {lo : qL} {st : List Value} {σ : qH} {x' : qS}
theorem q_ok_push {v : Value} {n : Nat} (hk : ∀ (H : Heap) (locs : List Loc) (ls : Array Slot) (k w : Nat), W p l e R s m args below meth c H locs k w Q (F0 m (pc + n) ls (v :: st)) → W p l e R s m args below meth c H locs k w Q (F0 m pc ls st))
    (h : q_push v n pc lo st σ = some (.inl x')) (kk : q_G p l e R s m args below meth c D cl ac B0 nL k0 w0 Q x') : q_G p l e R s m args below meth c D cl ac B0 nL k0 w0 Q (pc, lo, st, σ) := by
  cases h
  exact fun H locs ls h1 h2 h3 h4 h5 h6 => hk _ _ _ _ _ (kk H locs ls h1 h2 h3 h4 h5 h6)
theorem q_ok_iload {i n : Nat} (hk : ∀ (x : Int32) (H : Heap) (locs : List Loc) (ls : Array Slot) (k w : Nat), ls[i]? = some (.val (.int x)) → W p l e R s m args below meth c H locs k w Q (F0 m (pc + n) ls (.int x :: st)) → W p l e R s m args below meth c H locs k w Q (F0 m pc ls st))
    (h : q_iload i n pc lo st σ = some (.inl x')) (kk : q_G p l e R s m args below meth c D cl ac B0 nL k0 w0 Q x') : q_G p l e R s m args below meth c D cl ac B0 nL k0 w0 Q (pc, lo, st, σ) := by
  unfold q_iload at h
  split at h
  · rename_i x hx
    cases h
    exact fun H locs ls h1 h2 h3 h4 h5 h6 => hk x _ _ _ _ _ (h1.2.2 i _ hx) (kk H locs ls h1 h2 h3 h4 h5 h6)
  · cases h
theorem q_ok_lload {i n : Nat} (hk : ∀ (x : Int64) (H : Heap) (locs : List Loc) (ls : Array Slot) (k w : Nat), ls[i]? = some (.val (.long x)) → W p l e R s m args below meth c H locs k w Q (F0 m (pc + n) ls (.long x :: st)) → W p l e R s m args below meth c H locs k w Q (F0 m pc ls st))
    (h : q_lload i n pc lo st σ = some (.inl x')) (kk : q_G p l e R s m args below meth c D cl ac B0 nL k0 w0 Q x') : q_G p l e R s m args below meth c D cl ac B0 nL k0 w0 Q (pc, lo, st, σ) := by
  unfold q_lload at h
  split at h
  · rename_i x hx
    cases h
    exact fun H locs ls h1 h2 h3 h4 h5 h6 => hk x _ _ _ _ _ (h1.2.2 i _ hx) (kk H locs ls h1 h2 h3 h4 h5 h6)
  · cases h
theorem q_ok_aload {i n : Nat} (hk : ∀ (x : Nat) (H : Heap) (locs : List Loc) (ls : Array Slot) (k w : Nat), ls[i]? = some (.val (.ref x)) → W p l e R s m args below meth c H locs k w Q (F0 m (pc + n) ls (.ref x :: st)) → W p l e R s m args below meth c H locs k w Q (F0 m pc ls st))
    (hN : ∀ (H : Heap) (locs : List Loc) (ls : Array Slot) (k w : Nat), ls[i]? = some (.val .null) → W p l e R s m args below meth c H locs k w Q (F0 m (pc + n) ls (.null :: st)) → W p l e R s m args below meth c H locs k w Q (F0 m pc ls st))
    (h : q_aload i n pc lo st σ = some (.inl x')) (kk : q_G p l e R s m args below meth c D cl ac B0 nL k0 w0 Q x') : q_G p l e R s m args below meth c D cl ac B0 nL k0 w0 Q (pc, lo, st, σ) := by
  unfold q_aload at h
  split at h
  · rename_i x hx
    cases h
    exact fun H locs ls h1 h2 h3 h4 h5 h6 => hk x _ _ _ _ _ (h1.2.2 i _ hx) (kk H locs ls h1 h2 h3 h4 h5 h6)
  · rename_i hx
    cases h
    exact fun H locs ls h1 h2 h3 h4 h5 h6 => hN _ _ _ _ _ (h1.2.2 i _ hx) (kk H locs ls h1 h2 h3 h4 h5 h6)
  · cases h
theorem q_ok_istore {i n : Nat} (hk : ∀ (x : Int32) (r : List Value) (H : Heap) (locs : List Loc) (ls : Array Slot) (k w : Nat) (lv : List (Nat × Value)), lv_has ls nL lv → i < nL → (∀ ls' : Array Slot, lv_has ls' nL ((i, Value.int x) :: lv.filter (fun q => !(q.1 == i) && !(q.1 + 1 == i && q.2.category == 2))) → W p l e R s m args below meth c H locs k w Q (F0 m (pc + n) ls' r)) → W p l e R s m args below meth c H locs k w Q (F0 m pc ls (.int x :: r)))
    (h : q_istore i n pc lo st σ = some (.inl x')) (kk : q_G p l e R s m args below meth c D cl ac B0 nL k0 w0 Q x') : q_G p l e R s m args below meth c D cl ac B0 nL k0 w0 Q (pc, lo, st, σ) := by
  unfold q_istore at h
  split at h
  · rename_i x r
    split at h
    · rename_i hi
      cases h
      intro H locs ls h1 h2 h3 h4 h5 h6
      dsimp only at h1 h2
      subst h2
      exact hk x r _ _ _ _ _ (q_lv lo) h1.has hi fun ls' hl => kk H locs ls' (q_rel.st1 hi hl) (q_st1_len _ _ _) h3 h4 h5 h6
    · cases h
  · cases h
theorem q_ok_lstore {i n : Nat} (hk : ∀ (x : Int64) (r : List Value) (H : Heap) (locs : List Loc) (ls : Array Slot) (k w : Nat) (lv : List (Nat × Value)), lv_has ls nL lv → i + 1 < nL → (∀ ls' : Array Slot, lv_has ls' nL ((i, Value.long x) :: lv.filter (fun q => !(q.1 == i) && (!(q.1 == i + 1) && !(q.1 + 1 == i && q.2.category == 2)))) → W p l e R s m args below meth c H locs k w Q (F0 m (pc + n) ls' r)) → W p l e R s m args below meth c H locs k w Q (F0 m pc ls (.long x :: r)))
    (h : q_lstore i n pc lo st σ = some (.inl x')) (kk : q_G p l e R s m args below meth c D cl ac B0 nL k0 w0 Q x') : q_G p l e R s m args below meth c D cl ac B0 nL k0 w0 Q (pc, lo, st, σ) := by
  unfold q_lstore at h
  split at h
  · rename_i x r
    split at h
    · rename_i hi
      cases h
      intro H locs ls h1 h2 h3 h4 h5 h6
      dsimp only at h1 h2
      subst h2
      exact hk x r _ _ _ _ _ (q_lv lo) h1.has hi fun ls' hl => kk H locs ls' (q_rel.st2 hi hl) (q_st2_len _ _ _) h3 h4 h5 h6
    · cases h
  · cases h
theorem q_ok_astore {i n : Nat} (hk : ∀ (x : Nat) (r : List Value) (H : Heap) (locs : List Loc) (ls : Array Slot) (k w : Nat) (lv : List (Nat × Value)), lv_has ls nL lv → i < nL → (∀ ls' : Array Slot, lv_has ls' nL ((i, Value.ref x) :: lv.filter (fun q => !(q.1 == i) && !(q.1 + 1 == i && q.2.category == 2))) → W p l e R s m args below meth c H locs k w Q (F0 m (pc + n) ls' r)) → W p l e R s m args below meth c H locs k w Q (F0 m pc ls (.ref x :: r)))
    (hN : ∀ (r : List Value) (H : Heap) (locs : List Loc) (ls : Array Slot) (k w : Nat) (lv : List (Nat × Value)), lv_has ls nL lv → i < nL → (∀ ls' : Array Slot, lv_has ls' nL ((i, Value.null) :: lv.filter (fun q => !(q.1 == i) && !(q.1 + 1 == i && q.2.category == 2))) → W p l e R s m args below meth c H locs k w Q (F0 m (pc + n) ls' r)) → W p l e R s m args below meth c H locs k w Q (F0 m pc ls (.null :: r)))
    (h : q_astore i n pc lo st σ = some (.inl x')) (kk : q_G p l e R s m args below meth c D cl ac B0 nL k0 w0 Q x') : q_G p l e R s m args below meth c D cl ac B0 nL k0 w0 Q (pc, lo, st, σ) := by
  unfold q_astore at h
  split at h
  · rename_i x r
    split at h
    · rename_i hi
      cases h
      intro H locs ls h1 h2 h3 h4 h5 h6
      dsimp only at h1 h2
      subst h2
      exact hk x r _ _ _ _ _ (q_lv lo) h1.has hi fun ls' hl => kk H locs ls' (q_rel.st1 hi hl) (q_st1_len _ _ _) h3 h4 h5 h6
    · cases h
  · rename_i r
    split at h
    · rename_i hi
      cases h
      intro H locs ls h1 h2 h3 h4 h5 h6
      dsimp only at h1 h2
      subst h2
      exact hN r _ _ _ _ _ (q_lv lo) h1.has hi fun ls' hl => kk H locs ls' (q_rel.st1 hi hl) (q_st1_len _ _ _) h3 h4 h5 h6
    · cases h
  · cases h
theorem q_ok_iinc {i : Nat} {k : Int} (hx : p.tables.exec = Jvm.exec) (hb : c.code = cc) (hd : decode cc pc = .ok (.iinc i k, 3))
    (h : q_iinc i k 3 pc lo st σ = some (.inl x')) (kk : q_G p l e R s m args below meth c D cl ac B0 nL k0 w0 Q x') : q_G p l e R s m args below meth c D cl ac B0 nL k0 w0 Q (pc, lo, st, σ) := by
  unfold q_iinc at h
  split at h
  · rename_i x hx0
    split at h
    · rename_i hi
      cases h
      intro H locs ls h1 h2 h3 h4 h5 h6
      dsimp only at h1 h2
      subst h2
      obtain ⟨j, hj⟩ := List.getElem?_of_mem (q_lv_mem.mpr hx0)
      exact lv_iinc hx hb hd h1.has hj rfl hi rfl fun ls' hl => kk H locs ls' (q_rel.st1 hi hl) (q_st1_len _ _ _) h3 h4 h5 h6
    · cases h
  · cases h
theorem q_ok_i1 {f : Int32 → Value} (hk : ∀ (x : Int32) (r : List Value) (H : Heap) (locs : List Loc) (ls : Array Slot) (k w : Nat), W p l e R s m args below meth c H locs k w Q (F0 m (pc + 1) ls (f x :: r)) → W p l e R s m args below meth c H locs k w Q (F0 m pc ls (.int x :: r)))
    (h : q_i1 f pc lo st σ = some (.inl x')) (kk : q_G p l e R s m args below meth c D cl ac B0 nL k0 w0 Q x') : q_G p l e R s m args below meth c D cl ac B0 nL k0 w0 Q (pc, lo, st, σ) := by
  unfold q_i1 at h
  split at h
  · cases h
    exact fun H locs ls h1 h2 h3 h4 h5 h6 => hk _ _ _ _ _ _ _ (kk H locs ls h1 h2 h3 h4 h5 h6)
  · cases h
theorem q_ok_l1 {f : Int64 → Value} (hk : ∀ (x : Int64) (r : List Value) (H : Heap) (locs : List Loc) (ls : Array Slot) (k w : Nat), W p l e R s m args below meth c H locs k w Q (F0 m (pc + 1) ls (f x :: r)) → W p l e R s m args below meth c H locs k w Q (F0 m pc ls (.long x :: r)))
    (h : q_l1 f pc lo st σ = some (.inl x')) (kk : q_G p l e R s m args below meth c D cl ac B0 nL k0 w0 Q x') : q_G p l e R s m args below meth c D cl ac B0 nL k0 w0 Q (pc, lo, st, σ) := by
  unfold q_l1 at h
  split at h
  · cases h
    exact fun H locs ls h1 h2 h3 h4 h5 h6 => hk _ _ _ _ _ _ _ (kk H locs ls h1 h2 h3 h4 h5 h6)
  · cases h
theorem q_ok_i2 {f : Int32 → Int32 → Int32} (hk : ∀ (x y : Int32) (r : List Value) (H : Heap) (locs : List Loc) (ls : Array Slot) (k w : Nat), W p l e R s m args below meth c H locs k w Q (F0 m (pc + 1) ls (.int (f x y) :: r)) → W p l e R s m args below meth c H locs k w Q (F0 m pc ls (.int y :: .int x :: r)))
    (h : q_i2 f pc lo st σ = some (.inl x')) (kk : q_G p l e R s m args below meth c D cl ac B0 nL k0 w0 Q x') : q_G p l e R s m args below meth c D cl ac B0 nL k0 w0 Q (pc, lo, st, σ) := by
  unfold q_i2 at h
  split at h
  · cases h
    exact fun H locs ls h1 h2 h3 h4 h5 h6 => hk _ _ _ _ _ _ _ _ (kk H locs ls h1 h2 h3 h4 h5 h6)
  · cases h
theorem q_ok_d2 {f : Int32 → Int32 → Int32} (hk : ∀ (x y : Int32) (r : List Value) (H : Heap) (locs : List Loc) (ls : Array Slot) (k w : Nat), ¬ y = 0 → W p l e R s m args below meth c H locs k w Q (F0 m (pc + 1) ls (.int (f x y) :: r)) → W p l e R s m args below meth c H locs k w Q (F0 m pc ls (.int y :: .int x :: r)))
    (h : q_d2 f pc lo st σ = some (.inl x')) (kk : q_G p l e R s m args below meth c D cl ac B0 nL k0 w0 Q x') : q_G p l e R s m args below meth c D cl ac B0 nL k0 w0 Q (pc, lo, st, σ) := by
  unfold q_d2 at h
  split at h
  · split at h
    · cases h
    · rename_i hy
      cases h
      exact fun H locs ls h1 h2 h3 h4 h5 h6 => hk _ _ _ _ _ _ _ _ hy (kk H locs ls h1 h2 h3 h4 h5 h6)
  · cases h
theorem q_ok_l2 {f : Int64 → Int64 → Value} (hk : ∀ (x y : Int64) (r : List Value) (H : Heap) (locs : List Loc) (ls : Array Slot) (k w : Nat), W p l e R s m args below meth c H locs k w Q (F0 m (pc + 1) ls (f x y :: r)) → W p l e R s m args below meth c H locs k w Q (F0 m pc ls (.long y :: .long x :: r)))
    (h : q_l2 f pc lo st σ = some (.inl x')) (kk : q_G p l e R s m args below meth c D cl ac B0 nL k0 w0 Q x') : q_G p l e R s m args below meth c D cl ac B0 nL k0 w0 Q (pc, lo, st, σ) := by
  unfold q_l2 at h
  split at h
  · cases h
    exact fun H locs ls h1 h2 h3 h4 h5 h6 => hk _ _ _ _ _ _ _ _ (kk H locs ls h1 h2 h3 h4 h5 h6)
  · cases h
theorem q_ok_ls {f : Int64 → Int32 → Int64} (hk : ∀ (x : Int64) (y : Int32) (r : List Value) (H : Heap) (locs : List Loc) (ls : Array Slot) (k w : Nat), W p l e R s m args below meth c H locs k w Q (F0 m (pc + 1) ls (.long (f x y) :: r)) → W p l e R s m args below meth c H locs k w Q (F0 m pc ls (.int y :: .long x :: r)))
    (h : q_ls f pc lo st σ = some (.inl x')) (kk : q_G p l e R s m args below meth c D cl ac B0 nL k0 w0 Q x') : q_G p l e R s m args below meth c D cl ac B0 nL k0 w0 Q (pc, lo, st, σ) := by
  unfold q_ls at h
  split at h
  · cases h
    exact fun H locs ls h1 h2 h3 h4 h5 h6 => hk _ _ _ _ _ _ _ _ (kk H locs ls h1 h2 h3 h4 h5 h6)
  · cases h
theorem q_ok_br {P : Prop} [Decidable P] {off : Int} {r : List Value} (hk : ∀ (H : Heap) (locs : List Loc) (ls : Array Slot) (k w : Nat) (tgt : Nat), (pc : Int) + off = (tgt : Int) → (P → W p l e R s m args below meth c H locs k w Q (F0 m tgt ls r)) → (¬ P → W p l e R s m args below meth c H locs k w Q (F0 m (pc + 3) ls r)) → W p l e R s m args below meth c H locs k w Q (F0 m pc ls st))
    (h : q_br P pc off lo r σ = some (.inl x')) (kk : q_G p l e R s m args below meth c D cl ac B0 nL k0 w0 Q x') : q_G p l e R s m args below meth c D cl ac B0 nL k0 w0 Q (pc, lo, st, σ) := by
  unfold q_br at h
  split at h
  · rename_i ht
    cases h
    intro H locs ls h1 h2 h3 h4 h5 h6
    refine hk H locs ls _ _ _ ht (fun hP => ?_) (fun hP => ?_)
    · have := kk H locs ls h1 h2 h3 h4 h5 h6
      simp only [if_pos hP] at this
      exact this
    · have := kk H locs ls h1 h2 h3 h4 h5 h6
      simp only [if_neg hP] at this
      exact this
  · cases h
end QS
end
section
/-! THE SMALL MACHINE IS TRUE, 3: stack, branches, cells -/
section QT
variable {p : Program} {l : Launch} {e : Env} {R : Room} {s : State} {m : MethodId} {args : Array Value} {below : List Frame} {meth : Method} {c : Code} {D : va_G} {cl : List vw_C} {ac : Nat → ClassId} {B0 nL k0 w0 : Nat} {Q : State → Prop} {own : String} {cc : ByteArray} {Ts Ns : List Cond} {pc : Nat} {lo : qL} {st : List Value} {σ : qH} {x' : qS}
theorem q_ok_dup (hx : p.tables.exec = Jvm.exec) (hb : c.code = cc) (hd : decode cc pc = .ok (.dup, 1)) (h : q_dup pc lo st σ = some (.inl x')) (kk : q_G p l e R s m args below meth c D cl ac B0 nL k0 w0 Q x') : q_G p l e R s m args below meth c D cl ac B0 nL k0 w0 Q (pc, lo, st, σ) := by
  unfold q_dup at h
  split at h
  · split at h
    · rename_i hc
      cases h
      exact fun H locs ls h1 h2 h3 h4 h5 h6 => lv_dup hx hb hd hc (kk H locs ls h1 h2 h3 h4 h5 h6)
    · cases h
  · cases h
theorem q_ok_pop (hx : p.tables.exec = Jvm.exec) (hb : c.code = cc) (hd : decode cc pc = .ok (.pop, 1)) (h : q_pop pc lo st σ = some (.inl x')) (kk : q_G p l e R s m args below meth c D cl ac B0 nL k0 w0 Q x') : q_G p l e R s m args below meth c D cl ac B0 nL k0 w0 Q (pc, lo, st, σ) := by
  unfold q_pop at h
  split at h
  · split at h
    · rename_i hc
      cases h
      exact fun H locs ls h1 h2 h3 h4 h5 h6 => lv_pop hx hb hd hc (kk H locs ls h1 h2 h3 h4 h5 h6)
    · cases h
  · cases h
theorem q_ok_pop2 (hx : p.tables.exec = Jvm.exec) (hb : c.code = cc) (hd : decode cc pc = .ok (.pop2, 1)) (h : q_pop2 pc lo st σ = some (.inl x')) (kk : q_G p l e R s m args below meth c D cl ac B0 nL k0 w0 Q x') : q_G p l e R s m args below meth c D cl ac B0 nL k0 w0 Q (pc, lo, st, σ) := by
  unfold q_pop2 at h
  split at h
  · cases h
    exact fun H locs ls h1 h2 h3 h4 h5 h6 => lv_pop2_2 hx hb hd rfl (kk H locs ls h1 h2 h3 h4 h5 h6)
  · cases h
theorem q_ok_dupx1 (hx : p.tables.exec = Jvm.exec) (hb : c.code = cc) (hd : decode cc pc = .ok (.dup_x1, 1)) (h : q_dupx1 pc lo st σ = some (.inl x')) (kk : q_G p l e R s m args below meth c D cl ac B0 nL k0 w0 Q x') : q_G p l e R s m args below meth c D cl ac B0 nL k0 w0 Q (pc, lo, st, σ) := by
  unfold q_dupx1 at h
  split at h
  · split at h
    · rename_i hc
      cases h
      exact fun H locs ls h1 h2 h3 h4 h5 h6 => lv_dup_x1 hx hb hd hc.1 hc.2 (kk H locs ls h1 h2 h3 h4 h5 h6)
    · cases h
  · cases h
theorem q_ok_dupx2 (hx : p.tables.exec = Jvm.exec) (hb : c.code = cc) (hd : decode cc pc = .ok (.dup_x2, 1)) (h : q_dupx2 pc lo st σ = some (.inl x')) (kk : q_G p l e R s m args below meth c D cl ac B0 nL k0 w0 Q x') : q_G p l e R s m args below meth c D cl ac B0 nL k0 w0 Q (pc, lo, st, σ) := by
  unfold q_dupx2 at h
  split at h
  · split at h
    · rename_i hc
      cases h
      exact fun H locs ls h1 h2 h3 h4 h5 h6 => lv_dup_x2 hx hb hd hc.1 hc.2.1 hc.2.2 (kk H locs ls h1 h2 h3 h4 h5 h6)
    · cases h
  · cases h
theorem q_ok_dup2 (hx : p.tables.exec = Jvm.exec) (hb : c.code = cc) (hd : decode cc pc = .ok (.dup2, 1)) (h : q_dup2 pc lo st σ = some (.inl x')) (kk : q_G p l e R s m args below meth c D cl ac B0 nL k0 w0 Q x') : q_G p l e R s m args below meth c D cl ac B0 nL k0 w0 Q (pc, lo, st, σ) := by
  unfold q_dup2 at h
  split at h
  · cases h
    exact fun H locs ls h1 h2 h3 h4 h5 h6 => lv_dup2_2 hx hb hd rfl (kk H locs ls h1 h2 h3 h4 h5 h6)
  · split at h
    · rename_i hc
      cases h
      exact fun H locs ls h1 h2 h3 h4 h5 h6 => lv_dup2_11 hx hb hd hc.1 hc.2 (kk H locs ls h1 h2 h3 h4 h5 h6)
    · cases h
  · cases h
theorem q_ok_dup2x1 (hx : p.tables.exec = Jvm.exec) (hb : c.code = cc) (hd : decode cc pc = .ok (.dup2_x1, 1)) (h : q_dup2x1 pc lo st σ = some (.inl x')) (kk : q_G p l e R s m args below meth c D cl ac B0 nL k0 w0 Q x') : q_G p l e R s m args below meth c D cl ac B0 nL k0 w0 Q (pc, lo, st, σ) := by
  unfold q_dup2x1 at h
  split at h
  · split at h
    · rename_i hc
      cases h
      exact fun H locs ls h1 h2 h3 h4 h5 h6 => lv_dup2_x1_2 hx hb hd rfl hc (kk H locs ls h1 h2 h3 h4 h5 h6)
    · cases h
  · cases h
theorem q_ok_if {cd : ClassFile.Cond} {off : Int} (hx : p.tables.exec = Jvm.exec) (hb : c.code = cc) (hd : decode cc pc = .ok (.ifCond cd off, 3)) (h : q_if cd off pc lo st σ = some (.inl x')) (kk : q_G p l e R s m args below meth c D cl ac B0 nL k0 w0 Q x') : q_G p l e R s m args below meth c D cl ac B0 nL k0 w0 Q (pc, lo, st, σ) := by
  unfold q_if at h
  split at h
  · cases cd
    · exact q_ok_br (fun H locs ls k w tgt ht a b => lv_if_eq hx hb hd ht a b) h kk
    · exact q_ok_br (fun H locs ls k w tgt ht a b => lv_if_ne hx hb hd ht a (fun z => b (fun y => y z))) h kk
    · exact q_ok_br (fun H locs ls k w tgt ht a b => lv_if_lt hx hb hd ht a b) h kk
    · exact q_ok_br (fun H locs ls k w tgt ht a b => lv_if_ge hx hb hd ht a b) h kk
    · exact q_ok_br (fun H locs ls k w tgt ht a b => lv_if_gt hx hb hd ht a b) h kk
    · exact q_ok_br (fun H locs ls k w tgt ht a b => lv_if_le hx hb hd ht a b) h kk
  · cases h
theorem q_ok_icmp {cd : ClassFile.Cond} {off : Int} (hx : p.tables.exec = Jvm.exec) (hb : c.code = cc) (hd : decode cc pc = .ok (.if_icmp cd off, 3)) (h : q_icmp cd off pc lo st σ = some (.inl x')) (kk : q_G p l e R s m args below meth c D cl ac B0 nL k0 w0 Q x') : q_G p l e R s m args below meth c D cl ac B0 nL k0 w0 Q (pc, lo, st, σ) := by
  unfold q_icmp at h
  split at h
  · cases cd
    · exact q_ok_br (fun H locs ls k w tgt ht a b => lv_icmp_eq hx hb hd ht a b) h kk
    · exact q_ok_br (fun H locs ls k w tgt ht a b => lv_icmp_ne hx hb hd ht a (fun z => b (fun y => y z))) h kk
    · exact q_ok_br (fun H locs ls k w tgt ht a b => lv_icmp_lt hx hb hd ht a b) h kk
    · exact q_ok_br (fun H locs ls k w tgt ht a b => lv_icmp_ge hx hb hd ht a b) h kk
    · exact q_ok_br (fun H locs ls k w tgt ht a b => lv_icmp_gt hx hb hd ht a b) h kk
    · exact q_ok_br (fun H locs ls k w tgt ht a b => lv_icmp_le hx hb hd ht a b) h kk
  · cases h
theorem q_ok_ifnull {off : Int} (hx : p.tables.exec = Jvm.exec) (hb : c.code = cc) (hd : decode cc pc = .ok (.ifnull off, 3)) (h : q_ifnull off pc lo st σ = some (.inl x')) (kk : q_G p l e R s m args below meth c D cl ac B0 nL k0 w0 Q x') : q_G p l e R s m args below meth c D cl ac B0 nL k0 w0 Q (pc, lo, st, σ) := by
  unfold q_ifnull at h
  split at h
  · split at h
    · rename_i ht
      cases h
      exact fun H locs ls h1 h2 h3 h4 h5 h6 => lv_ifnullN hx hb hd ht (kk H locs ls h1 h2 h3 h4 h5 h6)
    · cases h
  · cases h
    exact fun H locs ls h1 h2 h3 h4 h5 h6 => lv_ifnull hx hb hd (kk H locs ls h1 h2 h3 h4 h5 h6)
  · cases h
theorem q_ok_ifnonnull {off : Int} (hx : p.tables.exec = Jvm.exec) (hb : c.code = cc) (hd : decode cc pc = .ok (.ifnonnull off, 3)) (h : q_ifnonnull off pc lo st σ = some (.inl x')) (kk : q_G p l e R s m args below meth c D cl ac B0 nL k0 w0 Q x') : q_G p l e R s m args below meth c D cl ac B0 nL k0 w0 Q (pc, lo, st, σ) := by
  unfold q_ifnonnull at h
  split at h
  · split at h
    · rename_i ht
      cases h
      exact fun H locs ls h1 h2 h3 h4 h5 h6 => lv_ifnonnull hx hb hd ht (kk H locs ls h1 h2 h3 h4 h5 h6)
    · cases h
  · cases h
    exact fun H locs ls h1 h2 h3 h4 h5 h6 => lv_ifnonnullN hx hb hd (kk H locs ls h1 h2 h3 h4 h5 h6)
  · cases h
theorem q_ok_goto {off : Int} (hx : p.tables.exec = Jvm.exec) (hb : c.code = cc) (hd : decode cc pc = .ok (.goto off, 3)) (h : q_goto off pc lo st σ = some (.inl x')) (kk : q_G p l e R s m args below meth c D cl ac B0 nL k0 w0 Q x') : q_G p l e R s m args below meth c D cl ac B0 nL k0 w0 Q (pc, lo, st, σ) := by
  unfold q_goto at h
  split at h
  · rename_i ht
    cases h
    exact fun H locs ls h1 h2 h3 h4 h5 h6 => lv_goto hx hb hd ht (kk H locs ls h1 h2 h3 h4 h5 h6)
  · cases h
theorem q_ok_lookup {dflt : Int} {ps : Array (Int × Int)} {len : Nat} (hx : p.tables.exec = Jvm.exec) (hb : c.code = cc) (hd : decode cc pc = .ok (.lookupswitch dflt ps, len)) (h : q_lookup dflt ps pc lo st σ = some (.inl x')) (kk : q_G p l e R s m args below meth c D cl ac B0 nL k0 w0 Q x') : q_G p l e R s m args below meth c D cl ac B0 nL k0 w0 Q (pc, lo, st, σ) := by
  unfold q_lookup at h
  split at h
  · split at h
    · rename_i ht
      cases h
      exact fun H locs ls h1 h2 h3 h4 h5 h6 => lv_lookup hx hb hd ht.1 rfl ht.2 (kk H locs ls h1 h2 h3 h4 h5 h6)
    · cases h
  · cases h
theorem q_ok_table {dflt low high : Int} {offs : Array Int} {len : Nat} (hx : p.tables.exec = Jvm.exec) (hb : c.code = cc) (hd : decode cc pc = .ok (.tableswitch dflt low high offs, len)) (h : q_table dflt low high offs pc lo st σ = some (.inl x')) (kk : q_G p l e R s m args below meth c D cl ac B0 nL k0 w0 Q x') : q_G p l e R s m args below meth c D cl ac B0 nL k0 w0 Q (pc, lo, st, σ) := by
  unfold q_table at h
  split at h
  · rename_i x r
    split at h
    · rename_i off ho
      split at h
      · rename_i ht
        cases h
        unfold q_toff at ho
        split at ho
        · rename_i hz
          cases ho
          exact fun H locs ls h1 h2 h3 h4 h5 h6 => lv_tableOut hx hb hd hz ht (kk H locs ls h1 h2 h3 h4 h5 h6)
        · rename_i hz
          exact fun H locs ls h1 h2 h3 h4 h5 h6 => lv_tableIn hx hb hd (fun z => hz (Or.inl z)) (fun z => hz (Or.inr z)) ho ht (kk H locs ls h1 h2 h3 h4 h5 h6)
      · cases h
    · cases h
  · cases h
theorem q_ok_getf {f : Option (Nat × Nat × FieldType × Nat)} {idx : Nat} (Cx : q_Cx p s m args c D cl ac B0 own cc nL Ts Ns) (hf : ∀ x, f = some x → q_fok cl Ts Ns own idx x) (hd : decode cc pc = .ok (.getfield idx, 3)) (h : q_getf f pc lo st σ = some (.inl x')) (kk : q_G p l e R s m args below meth c D cl ac B0 nL k0 w0 Q x') : q_G p l e R s m args below meth c D cl ac B0 nL k0 w0 Q (pc, lo, st, σ) := by
  obtain ⟨hx, hb, hml, hown, hts, hns, hK, hB⟩ := Cx
  unfold q_getf at h
  split at h
  · rename_i ci k ty fin a r
    split at h
    · rename_i cj fs ha
      split at h
      · rename_i hc
        subst hc
        split at h
        · rename_i v hv
          cases h
          obtain ⟨C, T, N, ty0, g1, g2, g3, g4, g5, g6, g7, g8, g9⟩ := hf _ rfl
          intro H locs ls h1 h2 h3 h4 h5 h6
          have hP := q_P1 (h3.2 a _ ha).2
          rcases g9 with g9 | ⟨host, g9⟩
          · exact va_get hx hb hts g3 hown hK hP 0 rfl g1 k g2 (hts _ g9) (fun _ z => z) hv hd (kk H locs ls h1 h2 h3 h4 h5 h6)
          · exact va_getN hx hb hts g3 hown hK hP 0 rfl g1 k g2 (va_Nw.use rfl (hns _ g9)) (fun _ z => z) hv hd (kk H locs ls h1 h2 h3 h4 h5 h6)
        · cases h
      · cases h
    · cases h
  · cases h
theorem q_ok_putf {f : Option (Nat × Nat × FieldType × Nat)} {idx : Nat} {ini : Bool} (Cx : q_Cx p s m args c D cl ac B0 own cc nL Ts Ns) (hi : ini = true → meth.name = "<init>") (hf : ∀ x, f = some x → q_fok cl Ts Ns own idx x) (hd : decode cc pc = .ok (.putfield idx, 3)) (h : q_putf f ini pc lo st σ = some (.inl x')) (kk : q_G p l e R s m args below meth c D cl ac B0 nL k0 w0 Q x') : q_G p l e R s m args below meth c D cl ac B0 nL k0 w0 Q (pc, lo, st, σ) := by
  obtain ⟨hx, hb, hml, hown, hts, hns, hK, hB⟩ := Cx
  unfold q_putf at h
  split at h
  · rename_i ci k ty fin v a r
    split at h
    · rename_i cj fs ha
      split at h
      · rename_i hc
        obtain ⟨hc, hkl, hn, hfit, hfin⟩ := hc
        subst hc
        cases h
        obtain ⟨C, T, N, ty0, g1, g2, g3, g4, g5, g6, g7, g8, g9⟩ := hf _ rfl
        dsimp only at g1 g2 g6 g7 g8 g9
        intro H locs ls h1 h2 h3 h4 h5 h6
        obtain ⟨hBa, hat⟩ := h3.2 a _ ha
        have hap := va_apart (own := own) hts g3 ty0 g4 g5 hK g1
        obtain ⟨r0, hr0, cell, q1, q2, q3, q4⟩ := hat
        have hr : r0 = (C, T, N) := Option.some.inj (hr0.symm.trans g1)
        subst hr
        obtain ⟨hS, hfc, kC, hkC, hkind⟩ := hK.1 cj _ g1
        obtain ⟨cf, kf, fi, f, hi9, hsl⟩ := hS k g2
        have hst := (u_facts hfc hkC (u_lays hts g3 g2) hi9).1
        have fin9 : ∀ (H' : Heap), H'[a]? = some (cell.setSlot f.slot v) → H'.size = H.size → (∀ q, q ≠ a → H'[q]? = H[q]?) → W p l e R s m args below meth c H' (locs ++ [⟨a, f.slot⟩]) (σ.2.2.1 - k0) (σ.2.2.2 - w0) Q (F0 m (pc + 3) ls r) := by
          intro H' e1 e2 e3
          refine kk H' _ ls h1 h2 (h3.put e2 e3 hBa ?_) (h4.put e2 e3 hBa) h5 h6
          rw [hsl] at e1
          exact ⟨_, g1, t_OB.to (V := updV (vp_V fs) k v) ⟨_, e1, q2, q3, t_set q4 hap g2 v⟩ (fun j _ => vp_updV_set hkl v j)⟩
        rcases hfin with hz | ⟨hz, hini⟩
        · have hlay := hts _ (g3 _ (u_in_lay g2))
          unfold u_lay at hlay
          rw [if_neg (by rw [g7 hz]; decide)] at hlay
          have h6' := u_store hfc hkC hkind hlay hi9 g6 hn hfit
          rcases g9 with g9 | ⟨host, g9⟩
          · exact W.putK hx hb (f := f) ⟨hown, hts _ g9, ⟨_, _, _, hi9⟩, hst⟩ (by rw [q2]; exact h6') q1 q3 (by rw [hsl]; exact k2_hasslot (q4 k g2)) rfl rfl hd fin9
          · exact va_WputK hx hb hown (va_Nw.use rfl (hns _ g9)) hi9 hst (by rw [q2]; exact h6') q1 q3 (by rw [hsl]; exact k2_hasslot (q4 k g2)) rfl rfl hd fin9
        · obtain ⟨g81, g82, g83⟩ := g8 hz
          have hlay := hts _ (g3 _ (u_in_lay g2))
          unfold u_lay at hlay
          rw [if_pos g81] at hlay
          have hcf : m.cls = cf := by
            obtain ⟨_, _, c', _, _, _, -, -, hf', -, -, -, hown2, -⟩ := Cond.laysFinal_spec hlay
            have e1 : c' = cf := by have := hi9.symm.trans hf'; simp at this; exact this.1.symm
            rw [g82] at hown2
            rw [← e1]; exact Option.some.inj (hown.symm.trans hown2)
          have h6' := u_fits hfc hkC hkind (Or.inr hlay) hi9 g6 hn hfit
          exact W.putFinK hx hb hown (hts _ g83) hi9 hst hcf (hi hini) (by rw [q2]; exact h6') q1 q3 (by rw [hsl]; exact k2_hasslot (q4 k g2)) rfl rfl hd fin9
      · cases h
    · cases h
  · cases h
theorem q_ok_iald (Cx : q_Cx p s m args c D cl ac B0 own cc nL Ts Ns) (hd : decode cc pc = .ok (.iaload, 1)) (h : q_iald 0 pc lo st σ = some (.inl x')) (kk : q_G p l e R s m args below meth c D cl ac B0 nL k0 w0 Q x') : q_G p l e R s m args below meth c D cl ac B0 nL k0 w0 Q (pc, lo, st, σ) := by
  obtain ⟨hx, hb, hml, hown, hts, hns, hK, hB⟩ := Cx
  unfold q_iald at h
  split at h
  · rename_i i a r
    split at h
    · rename_i kd n f ha
      split at h
      · rename_i hc
        obtain ⟨hc, hin⟩ := hc
        subst hc
        cases h
        intro H locs ls h1 h2 h3 h4 h5 h6
        exact va_iald hx hb hK (q_P1 (h3.2 a _ ha).2) 0 0 rfl rfl hin hd (kk H locs ls h1 h2 h3 h4 h5 h6)
      · cases h
    · cases h
  · cases h
theorem q_ok_cald (Cx : q_Cx p s m args c D cl ac B0 own cc nL Ts Ns) (hd : decode cc pc = .ok (.caload, 1)) (h : q_iald 1 pc lo st σ = some (.inl x')) (kk : q_G p l e R s m args below meth c D cl ac B0 nL k0 w0 Q x') : q_G p l e R s m args below meth c D cl ac B0 nL k0 w0 Q (pc, lo, st, σ) := by
  obtain ⟨hx, hb, hml, hown, hts, hns, hK, hB⟩ := Cx
  unfold q_iald at h
  split at h
  · rename_i i a r
    split at h
    · rename_i kd n f ha
      split at h
      · rename_i hc
        obtain ⟨hc, hin⟩ := hc
        subst hc
        cases h
        intro H locs ls h1 h2 h3 h4 h5 h6
        exact va_cald hx hb hK (q_P1 (h3.2 a _ ha).2) 0 1 rfl rfl hin hd (kk H locs ls h1 h2 h3 h4 h5 h6)
      · cases h
    · cases h
  · cases h
theorem q_ok_zald (Cx : q_Cx p s m args c D cl ac B0 own cc nL Ts Ns) (hd : decode cc pc = .ok (.baload, 1)) (h : q_iald 3 pc lo st σ = some (.inl x')) (kk : q_G p l e R s m args below meth c D cl ac B0 nL k0 w0 Q x') : q_G p l e R s m args below meth c D cl ac B0 nL k0 w0 Q (pc, lo, st, σ) := by
  obtain ⟨hx, hb, hml, hown, hts, hns, hK, hB⟩ := Cx
  unfold q_iald at h
  split at h
  · rename_i i a r
    split at h
    · rename_i kd n f ha
      split at h
      · rename_i hc
        obtain ⟨hc, hin⟩ := hc
        subst hc
        cases h
        intro H locs ls h1 h2 h3 h4 h5 h6
        exact va_zald hx hb hK (q_P1 (h3.2 a _ ha).2) 0 3 rfl rfl hin hd (kk H locs ls h1 h2 h3 h4 h5 h6)
      · cases h
    · cases h
  · cases h
theorem q_ok_lald (Cx : q_Cx p s m args c D cl ac B0 own cc nL Ts Ns) (hd : decode cc pc = .ok (.laload, 1)) (h : q_lald pc lo st σ = some (.inl x')) (kk : q_G p l e R s m args below meth c D cl ac B0 nL k0 w0 Q x') : q_G p l e R s m args below meth c D cl ac B0 nL k0 w0 Q (pc, lo, st, σ) := by
  obtain ⟨hx, hb, hml, hown, hts, hns, hK, hB⟩ := Cx
  unfold q_lald at h
  split at h
  · rename_i i a r
    split at h
    · rename_i kd n f ha
      split at h
      · rename_i hc
        obtain ⟨hc, hin⟩ := hc
        subst hc
        cases h
        intro H locs ls h1 h2 h3 h4 h5 h6
        exact va_lald hx hb hK (q_P1 (h3.2 a _ ha).2) 0 2 rfl rfl hin hd (kk H locs ls h1 h2 h3 h4 h5 h6)
      · cases h
    · cases h
  · cases h
theorem q_ok_iast (Cx : q_Cx p s m args c D cl ac B0 own cc nL Ts Ns) (hd : decode cc pc = .ok (.iastore, 1)) (h : q_iast 0 (fun x => x) pc lo st σ = some (.inl x')) (kk : q_G p l e R s m args below meth c D cl ac B0 nL k0 w0 Q x') : q_G p l e R s m args below meth c D cl ac B0 nL k0 w0 Q (pc, lo, st, σ) := by
  obtain ⟨hx, hb, hml, hown, hts, hns, hK, hB⟩ := Cx
  unfold q_iast at h
  split at h
  · rename_i x i a r
    split at h
    · rename_i kd n f ha
      split at h
      · rename_i hc
        obtain ⟨hc, hin⟩ := hc
        subst hc
        cases h
        intro H locs ls h1 h2 h3 h4 h5 h6
        obtain ⟨hBa, hat⟩ := h3.2 a _ ha
        refine W.iast hx hb hat ((hK.2 0 _ rfl).1 n (fun j => .int (f j))) (fun q => by cases q) (by show ¬ (i < 0 ∨ (arrV _ _ _).slots.size ≤ _); rw [arrV_size]; exact hin) rfl rfl hd fun H1 e z oq => ?_
        refine kk H1 _ ls h1 h2 (h3.put z oq hBa ?_) (h4.put z oq hBa) h5 h6
        show H1[a]? = some (vp_cell _ _)
        rw [e]
        rw [vp_cell_i, vp_cell_i, arrV_store]
        congr 2
        funext q
        by_cases hq : q = i.toNatClampNeg
        · subst hq
          simp [updV, upd]
        · simp [updV, upd, hq]
      · cases h
    · cases h
  · cases h
theorem q_ok_cast (Cx : q_Cx p s m args c D cl ac B0 own cc nL Ts Ns) (hd : decode cc pc = .ok (.castore, 1)) (h : q_iast 1 (vp_nar .char) pc lo st σ = some (.inl x')) (kk : q_G p l e R s m args below meth c D cl ac B0 nL k0 w0 Q x') : q_G p l e R s m args below meth c D cl ac B0 nL k0 w0 Q (pc, lo, st, σ) := by
  obtain ⟨hx, hb, hml, hown, hts, hns, hK, hB⟩ := Cx
  unfold q_iast at h
  split at h
  · rename_i x i a r
    split at h
    · rename_i kd n f ha
      split at h
      · rename_i hc
        obtain ⟨hc, hin⟩ := hc
        subst hc
        cases h
        intro H locs ls h1 h2 h3 h4 h5 h6
        obtain ⟨hBa, hat⟩ := h3.2 a _ ha
        refine W.cast hx hb hat ((hK.2 1 _ rfl).1 n (fun j => .int (f j))) (fun q => by cases q) (by show ¬ (i < 0 ∨ (arrV _ _ _).slots.size ≤ _); rw [arrV_size]; exact hin) rfl rfl hd fun H1 e z oq => ?_
        refine kk H1 _ ls h1 h2 (h3.put z oq hBa ?_) (h4.put z oq hBa) h5 h6
        show H1[a]? = some (vp_cell _ _)
        rw [e]
        rw [vp_cell_i, vp_cell_i, arrV_store]
        congr 2
        funext q
        by_cases hq : q = i.toNatClampNeg
        · subst hq
          simp [updV, upd, vp_nar]
          try rfl
        · simp [updV, upd, hq]
      · cases h
    · cases h
  · cases h
theorem q_ok_zast (Cx : q_Cx p s m args c D cl ac B0 own cc nL Ts Ns) (hd : decode cc pc = .ok (.bastore, 1)) (h : q_iast 3 (vp_nar .boolean) pc lo st σ = some (.inl x')) (kk : q_G p l e R s m args below meth c D cl ac B0 nL k0 w0 Q x') : q_G p l e R s m args below meth c D cl ac B0 nL k0 w0 Q (pc, lo, st, σ) := by
  obtain ⟨hx, hb, hml, hown, hts, hns, hK, hB⟩ := Cx
  unfold q_iast at h
  split at h
  · rename_i x i a r
    split at h
    · rename_i kd n f ha
      split at h
      · rename_i hc
        obtain ⟨hc, hin⟩ := hc
        subst hc
        cases h
        intro H locs ls h1 h2 h3 h4 h5 h6
        obtain ⟨hBa, hat⟩ := h3.2 a _ ha
        refine W.zast hx hb hat ((hK.2 3 _ rfl).1 n (fun j => .int (f j))) (fun q => by cases q) (by show ¬ (i < 0 ∨ (arrV _ _ _).slots.size ≤ _); rw [arrV_size]; exact hin) rfl rfl hd fun H1 e z oq => ?_
        refine kk H1 _ ls h1 h2 (h3.put z oq hBa ?_) (h4.put z oq hBa) h5 h6
        show H1[a]? = some (vp_cell _ _)
        rw [e]
        rw [vp_cell_i, vp_cell_i, arrV_store]
        congr 2
        funext q
        by_cases hq : q = i.toNatClampNeg
        · subst hq
          simp [updV, upd, vp_nar]
          try rfl
        · simp [updV, upd, hq]
      · cases h
    · cases h
  · cases h
theorem q_ok_last (Cx : q_Cx p s m args c D cl ac B0 own cc nL Ts Ns) (hd : decode cc pc = .ok (.lastore, 1)) (h : q_last pc lo st σ = some (.inl x')) (kk : q_G p l e R s m args below meth c D cl ac B0 nL k0 w0 Q x') : q_G p l e R s m args below meth c D cl ac B0 nL k0 w0 Q (pc, lo, st, σ) := by
  obtain ⟨hx, hb, hml, hown, hts, hns, hK, hB⟩ := Cx
  unfold q_last at h
  split at h
  · rename_i x i a r
    split at h
    · rename_i kd n f ha
      split at h
      · rename_i hc
        obtain ⟨hc, hin⟩ := hc
        subst hc
        cases h
        intro H locs ls h1 h2 h3 h4 h5 h6
        obtain ⟨hBa, hat⟩ := h3.2 a _ ha
        refine W.last hx hb hat ((hK.2 2 _ rfl).1 n (fun j => .long (f j))) (fun q => by cases q) (by show ¬ (i < 0 ∨ (arrV _ _ _).slots.size ≤ _); rw [arrV_size]; exact hin) rfl rfl hd fun H1 e z oq => ?_
        refine kk H1 _ ls h1 h2 (h3.put z oq hBa ?_) (h4.put z oq hBa) h5 h6
        show H1[a]? = some (vp_cell _ _)
        rw [e]
        rw [vp_cell_l, vp_cell_l, arrV_store]
        congr 2
        funext q
        by_cases hq : q = i.toNatClampNeg
        · subst hq
          simp [updV, vp_updL]
        · simp [updV, vp_updL, hq]
      · cases h
    · cases h
  · cases h
theorem q_ok_alen (Cx : q_Cx p s m args c D cl ac B0 own cc nL Ts Ns) (hd : decode cc pc = .ok (.arraylength, 1)) (h : q_alen pc lo st σ = some (.inl x')) (kk : q_G p l e R s m args below meth c D cl ac B0 nL k0 w0 Q x') : q_G p l e R s m args below meth c D cl ac B0 nL k0 w0 Q (pc, lo, st, σ) := by
  obtain ⟨hx, hb, hml, hown, hts, hns, hK, hB⟩ := Cx
  unfold q_alen at h
  split at h
  · rename_i a r
    split at h
    · rename_i kd n z ha
      split at h
      · rename_i hk
        cases h
        intro H locs ls h1 h2 h3 h4 h5 h6
        have hP := q_P1 (h3.2 a _ ha).2
        match kd, hk with
        | 0, _ => exact va_alen hx hb hK hP 0 0 rfl (ty := .int) rfl rfl hd (kk H locs ls h1 h2 h3 h4 h5 h6)
        | 1, _ => exact va_alen hx hb hK hP 0 1 rfl (ty := .char) rfl rfl hd (kk H locs ls h1 h2 h3 h4 h5 h6)
        | 2, _ => exact va_alen hx hb hK hP 0 2 rfl (ty := .long) rfl rfl hd (kk H locs ls h1 h2 h3 h4 h5 h6)
        | 3, _ => exact va_alen hx hb hK hP 0 3 rfl (ty := .boolean) rfl rfl hd (kk H locs ls h1 h2 h3 h4 h5 h6)
      · cases h
    · cases h
  · cases h
/-- a new array: kd its kind -/
theorem q_ok_new {t : ClassFile.ArrayType} {kd by_ : Nat} {mk : Nat → vp_A} {ty : FieldType} (Cx : q_Cx p s m args c D cl ac B0 own cc nL Ts Ns) (hty : newarray.typeOf t = ty) (hkd : (q_tys ac)[kd]? = some (ac kd, ty)) (hra : va_RA s (ac kd) ty → s.vm.findClass ("[" ++ ty.toString) = some (ac kd)) (hby : componentBytes ty = by_) (hmk : ∀ (n : Nat) (cA : ClassId), vp_cell cA (mk n) = arrV cA n (fun _ => defaultValue ty)) (harr : Cond.arrayClass ty ∈ Ts)
    (hRc : x'.2.2.2.2.2.1 - k0 ≤ R.cells) (hRs : x'.2.2.2.2.2.2 - w0 ≤ R.slots) (hd : decode cc pc = .ok (.newarray t, 2)) (h : q_new kd by_ mk pc lo st σ = some (.inl x')) (kk : q_G p l e R s m args below meth c D cl ac B0 nL k0 w0 Q x') : q_G p l e R s m args below meth c D cl ac B0 nL k0 w0 Q (pc, lo, st, σ) := by
  obtain ⟨hx, hb, hml, hown, hts, hns, hK, hB⟩ := Cx
  subst hty
  unfold q_new at h
  split at h
  · rename_i n r
    split at h
    · cases h
    · rename_i hc
      cases h
      intro H locs ls h1 h2 h3 h4 h5 h6
      dsimp only at hRc hRs h5 h6
      have hn : ¬ n < 0 := fun z => hc (Or.inl z)
      have hbt : n.toNatClampNeg * by_ ≤ 536870912 := Nat.not_lt.mp fun z => hc (Or.inr z)
      show W p l e R s m args below meth c H locs (σ.2.2.1 - k0) (σ.2.2.2 - w0) Q (F0 m pc ls (.int n :: r))
      refine va_newaK hx hb (hts _ harr) rfl hd rfl hn rfl (by rw [hby]; exact hbt) (by omega) (by omega) rfl fun H1 cA e1 z1 o1 hAr hNm => ?_
      have hcA : cA = ac kd := Option.some.inj (hNm.symm.trans (hra (hK.2 kd _ hkd).2))
      subst hcA
      have := kk H1 locs ls h1 h2 (h3.new z1 o1 (Nat.le_trans hB h4.1) (by show H1[H.size]? = some (vp_cell _ _); rw [hmk]; exact e1)) ⟨Nat.le_trans h4.1 (by omega), fun x g1 g2 => (o1 x (Nat.lt_of_lt_of_le g1 h4.1)).trans (h4.2.1 x g1 g2), h4.2.2⟩ (by dsimp only; omega) (by dsimp only; omega)
      dsimp only at this
      rw [← h3.1] at this
      rw [show σ.2.2.1 - k0 + 1 = σ.2.2.1 + 1 - k0 by omega, show σ.2.2.2 - w0 + n.toNatClampNeg = σ.2.2.2 + n.toNatClampNeg - w0 by omega]
      exact this
  · cases h
theorem q_ok_newA {t : ClassFile.ArrayType} (Cx : q_Cx p s m args c D cl ac B0 own cc nL Ts Ns) (hta : Cond.arrayClass .int ∈ Ts ∧ Cond.arrayClass .char ∈ Ts ∧ Cond.arrayClass .long ∈ Ts ∧ Cond.arrayClass .boolean ∈ Ts)
    (hRc : x'.2.2.2.2.2.1 - k0 ≤ R.cells) (hRs : x'.2.2.2.2.2.2 - w0 ≤ R.slots) (hd : decode cc pc = .ok (.newarray t, 2)) (h : q_newA t pc lo st σ = some (.inl x')) (kk : q_G p l e R s m args below meth c D cl ac B0 nL k0 w0 Q x') : q_G p l e R s m args below meth c D cl ac B0 nL k0 w0 Q (pc, lo, st, σ) := by
  cases t with
  | int => exact q_ok_new (ty := .int) (kd := 0) (by_ := 4) (mk := fun n => (n, .inl fun _ => 0)) Cx rfl rfl (fun z => z) rfl (fun _ _ => rfl) hta.1 hRc hRs hd h kk
  | char => exact q_ok_new (ty := .char) (kd := 1) (by_ := 2) (mk := fun n => (n, .inl fun _ => 0)) Cx rfl rfl (fun z => z) rfl (fun _ _ => rfl) hta.2.1 hRc hRs hd h kk
  | long => exact q_ok_new (ty := .long) (kd := 2) (by_ := 8) (mk := fun n => (n, .inr (.inl fun _ => 0))) Cx rfl rfl (fun z => z) rfl (fun _ _ => rfl) hta.2.2.1 hRc hRs hd h kk
  | boolean => exact q_ok_new (ty := .boolean) (kd := 3) (by_ := 1) (mk := fun n => (n, .inl fun _ => 0)) Cx rfl rfl (fun z => z) rfl (fun _ _ => rfl) hta.2.2.2 hRc hRs hd h kk
  | _ => cases h
theorem q_ok_newC {cn : Option ((Nat × List Value) ⊕ Nat)} {idx : Nat} (Cx : q_Cx p s m args c D cl ac B0 own cc nL Ts Ns) (hf : ∀ n, cn = some (.inl n) → q_nok cl Ts own idx n)
    (hRc : x'.2.2.2.2.2.1 - k0 ≤ R.cells) (hRs : x'.2.2.2.2.2.2 - w0 ≤ R.slots) (hd : decode cc pc = .ok (.new idx, 3)) (h : q_newC cn pc lo st σ = some (.inl x')) (kk : q_G p l e R s m args below meth c D cl ac B0 nL k0 w0 Q x') : q_G p l e R s m args below meth c D cl ac B0 nL k0 w0 Q (pc, lo, st, σ) := by
  obtain ⟨hx, hb, hml, hown, hts, hns, hK, hB⟩ := Cx
  unfold q_newC at h
  split at h
  · rename_i ci fs
    cases h
    obtain ⟨C, T, N, ty0, g1, g2, g3, g4, g5, g6, g7, g8⟩ := hf _ rfl
    dsimp only at g1 g2 g5
    intro H locs ls h1 h2 h3 h4 h5 h6
    dsimp only at hRc hRs h5 h6
    subst g2
    have hKn := hK.1 ci _ g1
    show W p l e R s m args below meth c H locs (σ.2.2.1 - k0) (σ.2.2.2 - w0) Q (F0 m pc ls st)
    refine W.newcK hx hb hown (hts _ g6) (hts _ g7) (hts _ g8) rfl hd (by omega) (by omega) hKn.2.1 rfl fun H1 kC hkC e1 z1 o1 => ?_
    have := kk H1 locs ls h1 h2 (h3.new z1 o1 (Nat.le_trans hB h4.1) ⟨_, g1, (u_born ty0 hts g3 hKn hkC e1 g4).to g5⟩) ⟨Nat.le_trans h4.1 (by omega), fun x y1 y2 => (o1 x (Nat.lt_of_lt_of_le y1 h4.1)).trans (h4.2.1 x y1 y2), h4.2.2⟩ (by dsimp only; omega) (by dsimp only; omega)
    dsimp only at this
    rw [← h3.1] at this
    rw [show σ.2.2.1 - k0 + 1 = σ.2.2.1 + 1 - k0 by omega, show σ.2.2.2 - w0 + fs.length = σ.2.2.2 + fs.length - w0 by omega]
    exact this
  · cases h
  · cases h
end QT
end
section
/-! THE SMALL MACHINE IS TRUE, 4: calls -/
def q_isN : Cond → Bool
  | .fieldLinkNest _ _ _ _ _ _ => true
  | .methodLinkNest _ _ _ _ => true
  | _ => false
theorem q_isN_on {w : Cond} (h : q_isN w = true) : w.onTables = true := by
  cases w <;> first | rfl | cases h
theorem q_isN_warm {w : Cond} (h : q_isN w = true) {s U : State} (hW : s.WarmedH U.vm) (hZ : va_Nw w s) : va_Nw w U := by
  cases w <;> first | exact va_Nw.warmF hW hZ | exact va_Nw.warmM hW hZ | cases h
def q_Pre (D : va_G) (cl : List vw_C) (ac : Nat → ClassId) (B0 : Nat) (Ns : List Cond) (σ : qH) : State → Prop := fun U => q_hold D cl ac B0 σ U.heap ∧ va_K D cl (q_tys ac) U ∧ (∀ w ∈ Ns, va_Nw w U) ∧ B0 ≤ U.heap.size
def q_Post (D : va_G) (cl : List vw_C) (ac : Nat → ClassId) (B0 : Nat) (v : Option Value) (σ' : qH) : Array Value → State → Outcome → State → Prop := fun _ st oc t => oc = .returned v ∧ q_hold D cl ac B0 σ' t.heap ∧ va_F (fun q : Nat => B0 ≤ q) st t
def q_rm (d k w : Nat) : Room := { frames := d, cells := k, slots := w, locals := 64 * d }
def q_Met (l : Launch) (D : va_G) (cl : List vw_C) (ac : Nat → ClassId) (B0 : Nat) (Ts Ns : List Cond) (yn : Nat → MethodName) (Mt : Nat → Option qM) (d z : Nat) (as : List Value) (σ : qH) (v : Option Value) (σ' : qH) : Prop :=
  ∀ M : qM, Mt z = some M → Met l (yn z) (Cond.code (yn z) M.1 M.2.1 M.2.2.1 :: Ts) (q_rm d (σ'.2.2.1 - σ.2.2.1) (σ'.2.2.2 - σ.2.2.2)) (va_Pc as (q_Pre D cl ac B0 Ns σ)) (q_Post D cl ac B0 v σ') (σ'.2.2.1 - σ.2.2.1) (σ'.2.2.2 - σ.2.2.2) (fun q : Nat => B0 ≤ q)
/-- a table of callees is true, d calls deep -/
def q_Snd (l : Launch) (D : va_G) (cl : List vw_C) (ac : Nat → ClassId) (B0 : Nat) (Ts Ns : List Cond) (yn : Nat → MethodName) (Mt : Nat → Option qM) (d : Nat) (rc : qC) : Prop :=
  ∀ (z : Nat) (as : List Value) (σ : qH) (v : Option Value) (σ' : qH), rc z as σ = some (.inl v, σ') → q_Met l D cl ac B0 Ts Ns yn Mt d z as σ v σ' ∧ σ.2.2.1 ≤ σ'.2.2.1 ∧ σ.2.2.2 ≤ σ'.2.2.2
/-- what the words say of a callee z of n parameters -/
def q_zok (Ts : List Cond) (yn : Nat → MethodName) (Mt : Nat → Option qM) (z n : Nat) (M : qM) : Prop :=
  Mt z = some M ∧ Cond.code (yn z) M.1 M.2.1 M.2.2.1 ∈ Ts ∧ Cond.initialized (yn z).cls ∈ Ts ∧ ((yn z).cls ≠ "java/lang/invoke/MethodHandle" ∧ (yn z).cls ≠ "java/lang/invoke/VarHandle" ∧ (parseMethodDescriptor (yn z).desc).map (fun d => d.parameters.length) = some n) ∧ M.2.1 ≤ 40
def q_lok (Ts Ns : List Cond) (own : String) (idx : Nat) (y : MethodName) : Prop := Cond.methodLink own idx y ∈ Ts ∨ ∃ host : String, Cond.methodLinkNest own idx y host ∈ Ns
def q_mok (cl : List vw_C) (Ts Ns : List Cond) (yn : Nat → MethodName) (Mt : Nat → Option qM) (own : String) (idx : Nat) : Nat × Nat × Nat × Nat → Prop
  | (0, _, _, _) => Cond.methodLink own idx objectInit ∈ Ts ∧ Cond.instanceMethod objectInit ∈ Ts ∧ Cond.code objectInit ⟨#[0xb1]⟩ 1 none ∈ Ts
  | (1, z, n, ci) => (∃ M, q_zok Ts yn Mt z n M) ∧ q_lok Ts Ns own idx (yn z) ∧ Cond.instanceMethod (yn z) ∈ Ts ∧ Cond.selects (yn z).cls (yn z) (yn z) ∈ Ts ∧ ∃ (T : u_T) (N : Nat), cl[ci]? = some ((yn z).cls, T, N)
  | (2, z, n, _) => (∃ M, q_zok Ts yn Mt z n M) ∧ q_lok Ts Ns own idx (yn z) ∧ Cond.static (yn z) ∈ Ts
  | (3, z, n, _) => (∃ M, q_zok Ts yn Mt z n M ∧ M.2.2.1 = none) ∧ q_lok Ts Ns own idx (yn z) ∧ Cond.instanceMethod (yn z) ∈ Ts ∧ (yn z).name = "<init>"
  | (4, _, _, _) => Cond.methodLink own idx Lib.Math.max.name ∈ Ts ∧ Cond.static Lib.Math.max.name ∈ Ts ∧ Cond.initialized "java/lang/Math" ∈ Ts ∧ Cond.code Lib.Math.max.name Lib.Math.max.code 2 (some .int) ∈ Ts
  | (5, _, _, _) => Cond.methodLink own idx Lib.Math.min.name ∈ Ts ∧ Cond.static Lib.Math.min.name ∈ Ts ∧ Cond.initialized "java/lang/Math" ∈ Ts ∧ Cond.code Lib.Math.min.name Lib.Math.min.code 2 (some .int) ∈ Ts
  | _ => False
section QC
variable {p : Program} {l : Launch} {e : Env} {R : Room} {s : State} {m : MethodId} {args : Array Value} {below : List Frame} {meth : Method} {c : Code} {D : va_G} {cl : List vw_C} {ac : Nat → ClassId} {B0 nL k0 w0 : Nat} {Q : State → Prop} {own : String} {cc : ByteArray} {Ts Ns : List Cond} {pc : Nat} {lo : qL} {st : List Value} {σ : qH} {x' : qS}
variable {yn : Nat → MethodName} {Mt : Nat → Option qM} {d : Nat} {rc : qC}
theorem q_blind {as : List Value} {σ1 : qH} (hN : ∀ w ∈ Ns, q_isN w = true) : FrameBlind (va_Pc as (q_Pre D cl ac B0 Ns σ1)) := by
  intro a U g mk h
  obtain ⟨h0, h1, h2, h3, h4⟩ := h
  exact ⟨h0, h1, va_K.moved (u := U) (U := U.calling g mk a) (Vm.Alike.refl U.vm) h2, fun w hw => va_Nw.same (u := U) (U := U.calling g mk a) (q_isN_on (hN w hw)) rfl (h3 w hw), h4⟩
theorem q_pre {as : List Value} {H : Heap} {locs : List Loc} (hN : ∀ w ∈ Ns, q_isN w = true) (hns : ∀ w ∈ Ns, va_Nw w s) (hK : va_K D cl (q_tys ac) s) (hh : q_hold D cl ac B0 σ H) (hB : B0 ≤ s.heap.size) (hS : va_S (fun q : Nat => B0 ≤ q) s.heap H locs) :
    ∀ U : State, U.heap = H → s.WarmedH U.vm → va_Pc as (q_Pre D cl ac B0 Ns σ) as.toArray U :=
  fun U hU hW => ⟨rfl, by rw [hU]; exact hh, va_K.moved hW.alike hK, fun w hw => q_isN_warm (hN w hw) hW (hns w hw), by rw [hU]; exact Nat.le_trans hB hS.1⟩
theorem q_ran {H : Heap} {locs : List Loc} {ls : Array Slot} {cells slots mc ms : Nat} {st0 rest : List Value} {a : Array Value} {v : Option Value} {σ' : qH}
    (hr : va_Run p l e R s m args below meth c H locs cells slots mc ms (F0 m pc ls st0) rest (q_Post D cl ac B0 v σ' a) (fun q : Nat => B0 ≤ q)) (hS : va_S (fun q : Nat => B0 ≤ q) s.heap H locs)
    (kk : ∀ (H1 : Heap) (locs1 : List Loc), q_hold D cl ac B0 σ' H1 → va_S (fun q : Nat => B0 ≤ q) s.heap H1 locs1 → W p l e R s m args below meth c H1 locs1 (cells + mc) (slots + ms) Q (F0 m (pc + 3) ls (v.toList ++ rest))) : W p l e R s m args below meth c H locs cells slots Q (F0 m pc ls st0) := by
  intro T hT X
  obtain ⟨v', st₀, t, T', L, h0, X', hL, e1, e2, ⟨hv, hh, hz, hk⟩, stp⟩ := hr T hT X
  cases hv
  rw [h0] at hz hk
  obtain ⟨t2, a1, b1⟩ := kk T'.heap (locs ++ L) (by rw [e1]; exact hh)
    ⟨Nat.le_trans hS.1 (by rw [e1]; exact hz), fun q h1 h2 => by rw [e1, hk q (Nat.lt_of_lt_of_le h1 hS.1) h2]; exact hS.2.1 q h1 h2, fun q hq => by
      rcases List.mem_append.mp hq with h | h
      · exact hS.2.2 q h
      · exact hL q h⟩ T' rfl X'
  exact ⟨t2, stp t2 a1, b1⟩
theorem q_goodC {z n : Nat} {M : qM} (hT : GoodIn Ts Ts) (hz : q_zok Ts yn Mt z n M) : GoodIn Ts (Cond.code (yn z) M.1 M.2.1 M.2.2.1 :: Ts) := by
  intro w hw
  rcases List.mem_cons.mp hw with rfl | h
  · exact hT _ hz.2.1
  · exact hT w h
theorem q_room {d0 k w n : Nat} (hRf : R.frames = d0 + 1) (hRl : R.locals = 64 * (d0 + 1)) (hn : n ≤ 40) : (q_rm d0 k w).frames + 1 ≤ R.frames ∧ 8 + (n + 11) + (q_rm d0 k w).locals ≤ R.locals := by
  refine ⟨by rw [hRf]; exact Nat.le_refl _, ?_⟩
  rw [hRl]
  show 8 + (n + 11) + 64 * d0 ≤ _
  omega
theorem q_take {n : Nat} {b : Value} {r : List Value} (h : st.drop n = b :: r) : st = (st.take n).reverse.reverse ++ b :: r ∧ (st.take n).reverse.length = n := by
  have hl : n < st.length := by
    rcases Nat.lt_or_ge n st.length with q | q
    · exact q
    · rw [List.drop_eq_nil_of_le q] at h; cases h
  refine ⟨by rw [List.reverse_reverse, ← h, List.take_append_drop], ?_⟩
  rw [List.length_reverse, List.length_take]; omega
theorem q_ok_callV {idx z n ci : Nat} (Cx : q_Cx p s m args c D cl ac B0 own cc nL Ts Ns) (hT : GoodIn Ts Ts) (hN : ∀ w ∈ Ns, q_isN w = true) (hrc : q_Snd l D cl ac B0 Ts Ns yn Mt d rc) (hm : q_mok cl Ts Ns yn Mt own idx (1, z, n, ci)) (hRf : R.frames = d + 1) (hRl : R.locals = 64 * (d + 1))
    (hRc : x'.2.2.2.2.2.1 - k0 ≤ R.cells) (hRs : x'.2.2.2.2.2.2 - w0 ≤ R.slots) (hd : decode cc pc = .ok (.invokevirtual idx, 3)) (h : q_call rc (some (1, z, n, ci)) pc lo st σ = some (.inl x')) (kk : q_G p l e R s m args below meth c D cl ac B0 nL k0 w0 Q x') : q_G p l e R s m args below meth c D cl ac B0 nL k0 w0 Q (pc, lo, st, σ) := by
  obtain ⟨hx, hb, hml, hown, hts, hns, hK, hB⟩ := Cx
  obtain ⟨⟨M, hz⟩, hlk, hins, hsel, T, N, hcl⟩ := hm
  have hG := q_goodC hT hz
  obtain ⟨hz1, hz2, hz3, hz4, hz5⟩ := hz
  simp only [q_call] at h
  split at h
  · rename_i b r hst
    split at h
    · rename_i cj fs hb0
      split at h
      · rename_i hc
        obtain ⟨hc, hsum⟩ := hc
        subst hc
        unfold q_back at h
        split at h
        · rename_i v σ' hr
          cases h
          obtain ⟨hM, hk1, hw1⟩ := hrc _ _ _ _ _ hr
          have hM := hM M hz1
          intro H locs ls h1 h2 h3 h4 h5 h6
          dsimp only at hRc hRs h1 h2 h3 h5 h6
          obtain ⟨hst2, hlen⟩ := q_take hst
          have hP := q_P1 (h3.2 b _ hb0).2
          have hmid : ∀ (H1 : Heap) (locs1 : List Loc), q_hold D cl ac B0 σ' H1 → va_S (fun q : Nat => B0 ≤ q) s.heap H1 locs1 → W p l e R s m args below meth c H1 locs1 (σ.2.2.1 - k0 + (σ'.2.2.1 - σ.2.2.1)) (σ.2.2.2 - w0 + (σ'.2.2.2 - σ.2.2.2)) Q (F0 m (pc + 3) ls (v.toList ++ r)) := by
            intro H1 locs1 g1 g2
            have := kk H1 locs1 ls h1 h2 g1 g2 (by dsimp only; omega) (by dsimp only; omega)
            dsimp only at this
            rw [show σ.2.2.1 - k0 + (σ'.2.2.1 - σ.2.2.1) = σ'.2.2.1 - k0 by omega, show σ.2.2.2 - w0 + (σ'.2.2.2 - σ.2.2.2) = σ'.2.2.2 - w0 by omega]
            exact this
          have hroom : σ.2.2.1 - k0 + (σ'.2.2.1 - σ.2.2.1) ≤ R.cells ∧ σ.2.2.2 - w0 + (σ'.2.2.2 - σ.2.2.2) ≤ R.slots := ⟨by omega, by omega⟩
          have hp : PreV s H (yn z).cls b (va_Pc (Value.ref b :: (st.take n).reverse) (q_Pre D cl ac B0 Ns σ)) (st.take n).reverse := ⟨q_blind hN, va_recv hK hP (ci := cj) (q0 := 0) hcl rfl, q_pre hN hns hK h3 hB h4⟩
          have hlo : ls.size = nL := h1.1.trans h2
          have hlk2 : (Cond.selects (yn z).cls (yn z) (yn z)).before args s = true := hts _ hsel
          rcases hlk with hlk | ⟨host, hlk⟩
          · refine q_ran (va_runV (C := (yn z).cls) (n := n) (As := (st.take n).reverse) (rest := r) ⟨hx, hb, hml, hown, hts⟩ hM ⟨callB_of n hts hG rfl rfl rfl (hts _ hz3) (hts _ hlk) hz4 (q_room hRf hRl hz5), hts _ hins, hlk2⟩ hp rfl hlen hlo hst2 (lv_room hsum) hd hroom) h4 hmid
          · refine q_ran (va_runVN (C := (yn z).cls) (n := n) (As := (st.take n).reverse) (rest := r) ⟨hx, hb, hml, hown, hts⟩ hM ⟨va_cnB n hts hG rfl rfl rfl (hns _ hlk) (hts _ hz3) hz4 (q_room hRf hRl hz5), hts _ hins, hlk2⟩ hp rfl hlen hlo hst2 (lv_room hsum) hd hroom) h4 hmid
        · cases h
      · cases h
    · cases h
  · cases h
theorem q_ok_callI {idx z n ci : Nat} (Cx : q_Cx p s m args c D cl ac B0 own cc nL Ts Ns) (hT : GoodIn Ts Ts) (hN : ∀ w ∈ Ns, q_isN w = true) (hrc : q_Snd l D cl ac B0 Ts Ns yn Mt d rc) (hm : q_mok cl Ts Ns yn Mt own idx (3, z, n, ci)) (hRf : R.frames = d + 1) (hRl : R.locals = 64 * (d + 1))
    (hRc : x'.2.2.2.2.2.1 - k0 ≤ R.cells) (hRs : x'.2.2.2.2.2.2 - w0 ≤ R.slots) (hd : decode cc pc = .ok (.invokespecial idx, 3)) (h : q_call rc (some (3, z, n, ci)) pc lo st σ = some (.inl x')) (kk : q_G p l e R s m args below meth c D cl ac B0 nL k0 w0 Q x') : q_G p l e R s m args below meth c D cl ac B0 nL k0 w0 Q (pc, lo, st, σ) := by
  obtain ⟨hx, hb, hml, hown, hts, hns, hK, hB⟩ := Cx
  obtain ⟨⟨M, hz, hret⟩, hlk, hins, hini⟩ := hm
  have hG := q_goodC hT hz
  obtain ⟨hz1, hz2, hz3, hz4, hz5⟩ := hz
  simp only [q_call] at h
  split at h
  · rename_i b r hst
    split at h
    · rename_i hsum
      unfold q_back at h
      split at h
      · rename_i v σ' hr
        cases h
        obtain ⟨hM, hk1, hw1⟩ := hrc _ _ _ _ _ hr
        have hM := hM M hz1
        rw [hret] at hM hG
        intro H locs ls h1 h2 h3 h4 h5 h6
        dsimp only at hRc hRs h1 h2 h3 h5 h6
        obtain ⟨hst2, hlen⟩ := q_take hst
        have hmid : ∀ (H1 : Heap) (locs1 : List Loc), q_hold D cl ac B0 σ' H1 → va_S (fun q : Nat => B0 ≤ q) s.heap H1 locs1 → W p l e R s m args below meth c H1 locs1 (σ.2.2.1 - k0 + (σ'.2.2.1 - σ.2.2.1)) (σ.2.2.2 - w0 + (σ'.2.2.2 - σ.2.2.2)) Q (F0 m (pc + 3) ls (v.toList ++ r)) := by
          intro H1 locs1 g1 g2
          have := kk H1 locs1 ls h1 h2 g1 g2 (by dsimp only; omega) (by dsimp only; omega)
          dsimp only at this
          rw [show σ.2.2.1 - k0 + (σ'.2.2.1 - σ.2.2.1) = σ'.2.2.1 - k0 by omega, show σ.2.2.2 - w0 + (σ'.2.2.2 - σ.2.2.2) = σ'.2.2.2 - w0 by omega]
          exact this
        have hroom : σ.2.2.1 - k0 + (σ'.2.2.1 - σ.2.2.1) ≤ R.cells ∧ σ.2.2.2 - w0 + (σ'.2.2.2 - σ.2.2.2) ≤ R.slots := ⟨by omega, by omega⟩
        have hp : PreS s H (va_Pc (Value.ref b :: (st.take n).reverse) (q_Pre D cl ac B0 Ns σ)) (Value.ref b :: (st.take n).reverse) := ⟨q_blind hN, q_pre hN hns hK h3 hB h4⟩
        have hlo : ls.size = nL := h1.1.trans h2
        rcases hlk with hlk | ⟨host, hlk⟩
        · refine q_ran (va_runI (n := n) (As := (st.take n).reverse) (rest := r) ⟨hx, hb, hml, hown, hts⟩ hM ⟨callB_of n hts hG rfl rfl rfl (hts _ hz3) (hts _ hlk) hz4 (q_room hRf hRl hz5), hini, hts _ hins⟩ hp rfl hlen hlo hst2 (lv_room hsum) hd hroom) h4 hmid
        · refine q_ran (va_runIN (n := n) (As := (st.take n).reverse) (rest := r) ⟨hx, hb, hml, hown, hts⟩ hM ⟨va_cnB n hts hG rfl rfl rfl (hns _ hlk) (hts _ hz3) hz4 (q_room hRf hRl hz5), hini, hts _ hins⟩ hp rfl hlen hlo hst2 (lv_room hsum) hd hroom) h4 hmid
      · cases h
    · cases h
  · cases h
theorem q_ok_callS {idx z n ci : Nat} (Cx : q_Cx p s m args c D cl ac B0 own cc nL Ts Ns) (hT : GoodIn Ts Ts) (hN : ∀ w ∈ Ns, q_isN w = true) (hrc : q_Snd l D cl ac B0 Ts Ns yn Mt d rc) (hm : q_mok cl Ts Ns yn Mt own idx (2, z, n, ci)) (hRf : R.frames = d + 1) (hRl : R.locals = 64 * (d + 1))
    (hRc : x'.2.2.2.2.2.1 - k0 ≤ R.cells) (hRs : x'.2.2.2.2.2.2 - w0 ≤ R.slots) (hd : decode cc pc = .ok (.invokestatic idx, 3)) (h : q_call rc (some (2, z, n, ci)) pc lo st σ = some (.inl x')) (kk : q_G p l e R s m args below meth c D cl ac B0 nL k0 w0 Q x') : q_G p l e R s m args below meth c D cl ac B0 nL k0 w0 Q (pc, lo, st, σ) := by
  obtain ⟨hx, hb, hml, hown, hts, hns, hK, hB⟩ := Cx
  obtain ⟨⟨M, hz⟩, hlk, hstt⟩ := hm
  have hG := q_goodC hT hz
  obtain ⟨hz1, hz2, hz3, hz4, hz5⟩ := hz
  simp only [q_call] at h
  split at h
  · rename_i hc
    obtain ⟨hn, hsum⟩ := hc
    unfold q_back at h
    split at h
    · rename_i v σ' hr
      cases h
      obtain ⟨hM, hk1, hw1⟩ := hrc _ _ _ _ _ hr
      have hM := hM M hz1
      intro H locs ls h1 h2 h3 h4 h5 h6
      dsimp only at hRc hRs h1 h2 h3 h5 h6
      have hst2 : st = (st.take n).reverse.reverse ++ st.drop n := by rw [List.reverse_reverse, List.take_append_drop]
      have hlen : (st.take n).reverse.length = n := by rw [List.length_reverse, List.length_take]; omega
      have hmid : ∀ (H1 : Heap) (locs1 : List Loc), q_hold D cl ac B0 σ' H1 → va_S (fun q : Nat => B0 ≤ q) s.heap H1 locs1 → W p l e R s m args below meth c H1 locs1 (σ.2.2.1 - k0 + (σ'.2.2.1 - σ.2.2.1)) (σ.2.2.2 - w0 + (σ'.2.2.2 - σ.2.2.2)) Q (F0 m (pc + 3) ls (v.toList ++ st.drop n)) := by
        intro H1 locs1 g1 g2
        have := kk H1 locs1 ls h1 h2 g1 g2 (by dsimp only; omega) (by dsimp only; omega)
        dsimp only at this
        rw [show σ.2.2.1 - k0 + (σ'.2.2.1 - σ.2.2.1) = σ'.2.2.1 - k0 by omega, show σ.2.2.2 - w0 + (σ'.2.2.2 - σ.2.2.2) = σ'.2.2.2 - w0 by omega]
        exact this
      have hroom : σ.2.2.1 - k0 + (σ'.2.2.1 - σ.2.2.1) ≤ R.cells ∧ σ.2.2.2 - w0 + (σ'.2.2.2 - σ.2.2.2) ≤ R.slots := ⟨by omega, by omega⟩
      have hp : PreS s H (va_Pc ((st.take n).reverse) (q_Pre D cl ac B0 Ns σ)) ((st.take n).reverse) := ⟨q_blind hN, q_pre hN hns hK h3 hB h4⟩
      have hlo : ls.size = nL := h1.1.trans h2
      rcases hlk with hlk | ⟨host, hlk⟩
      · refine q_ran (va_runS (n := n) (As := (st.take n).reverse) (rest := st.drop n) ⟨hx, hb, hml, hown, hts⟩ hM ⟨callB_of n hts hG rfl rfl rfl (hts _ hz3) (hts _ hlk) hz4 (q_room hRf hRl hz5), hts _ hstt⟩ hp rfl hlen hlo hst2 (lv_room hsum) hd hroom) h4 hmid
      · refine q_ran (va_runSN (n := n) (As := (st.take n).reverse) (rest := st.drop n) ⟨hx, hb, hml, hown, hts⟩ hM ⟨va_cnB n hts hG rfl rfl rfl (hns _ hlk) (hts _ hz3) hz4 (q_room hRf hRl hz5), hts _ hstt, trivial⟩ hp rfl hlen hlo hst2 (lv_room hsum) hd hroom) h4 hmid
    · cases h
  · cases h
theorem q_ok_callO {idx : Nat} {z : Nat × Nat × Nat} (Cx : q_Cx p s m args c D cl ac B0 own cc nL Ts Ns) (hm : q_mok cl Ts Ns yn Mt own idx (0, z)) (hRf : R.frames = d + 1) (hRl : R.locals = 64 * (d + 1)) (hd : decode cc pc = .ok (.invokespecial idx, 3)) (h : q_call rc (some (0, z)) pc lo st σ = some (.inl x')) (kk : q_G p l e R s m args below meth c D cl ac B0 nL k0 w0 Q x') : q_G p l e R s m args below meth c D cl ac B0 nL k0 w0 Q (pc, lo, st, σ) := by
  obtain ⟨hx, hb, hml, hown, hts, hns, hK, hB⟩ := Cx
  obtain ⟨m1, m2, m3⟩ := hm
  simp only [q_call] at h
  split at h
  · rename_i a r
    split at h
    · rename_i hsum
      cases h
      intro H locs ls h1 h2 h3 h4 h5 h6
      refine W.eq (g2 := F0 m pc ls (.ref a :: r)) rfl (W.objInit hx hb hown (hts _ m1) (hts _ m2) (hts _ m3) rfl (by rw [hml]; exact h1.1.trans h2) rfl hd (by rw [hRf]; omega) ?_ (kk H locs ls h1 h2 h3 h4 h5 h6))
      have : q_sum r ≤ 8 := hsum
      unfold q_sum at this
      rw [hRl]
      show 2 * 0 + _ + 12 ≤ _
      omega
    · cases h
  · cases h
theorem q_ok_callM {idx : Nat} {z : Nat × Nat × Nat} (Cx : q_Cx p s m args c D cl ac B0 own cc nL Ts Ns) (hm : q_mok cl Ts Ns yn Mt own idx (4, z)) (hRf : R.frames = d + 1) (hRl : R.locals = 64 * (d + 1)) (hRc : x'.2.2.2.2.2.1 - k0 ≤ R.cells) (hRs : x'.2.2.2.2.2.2 - w0 ≤ R.slots) (hd : decode cc pc = .ok (.invokestatic idx, 3)) (h : q_call rc (some (4, z)) pc lo st σ = some (.inl x')) (kk : q_G p l e R s m args below meth c D cl ac B0 nL k0 w0 Q x') : q_G p l e R s m args below meth c D cl ac B0 nL k0 w0 Q (pc, lo, st, σ) := by
  obtain ⟨hx, hb, hml, hown, hts, hns, hK, hB⟩ := Cx
  obtain ⟨m1, m2, m3, m4⟩ := hm
  simp only [q_call] at h
  split at h
  · rename_i y x r
    split at h
    · rename_i hsum
      cases h
      intro H locs ls h1 h2 h3 h4 h5 h6
      have : q_sum r ≤ 8 := hsum
      unfold q_sum at this
      exact va_mmax hx hb (by rw [hml]; exact (h1.1.trans h2).symm) hown (hts _ m1) (hts _ m2) (hts _ m3) (hts _ m4) (by rw [hRf]; omega) (by rw [hRl]; omega) hRc hRs hd (kk H locs ls h1 h2 h3 h4 h5 h6)
    · cases h
  · cases h
theorem q_ok_callN {idx : Nat} {z : Nat × Nat × Nat} (Cx : q_Cx p s m args c D cl ac B0 own cc nL Ts Ns) (hm : q_mok cl Ts Ns yn Mt own idx (5, z)) (hRf : R.frames = d + 1) (hRl : R.locals = 64 * (d + 1)) (hRc : x'.2.2.2.2.2.1 - k0 ≤ R.cells) (hRs : x'.2.2.2.2.2.2 - w0 ≤ R.slots) (hd : decode cc pc = .ok (.invokestatic idx, 3)) (h : q_call rc (some (5, z)) pc lo st σ = some (.inl x')) (kk : q_G p l e R s m args below meth c D cl ac B0 nL k0 w0 Q x') : q_G p l e R s m args below meth c D cl ac B0 nL k0 w0 Q (pc, lo, st, σ) := by
  obtain ⟨hx, hb, hml, hown, hts, hns, hK, hB⟩ := Cx
  obtain ⟨m1, m2, m3, m4⟩ := hm
  simp only [q_call] at h
  split at h
  · rename_i y x r
    split at h
    · rename_i hsum
      cases h
      intro H locs ls h1 h2 h3 h4 h5 h6
      have : q_sum r ≤ 8 := hsum
      unfold q_sum at this
      exact va_mmin hx hb (by rw [hml]; exact (h1.1.trans h2).symm) hown (hts _ m1) (hts _ m2) (hts _ m3) (hts _ m4) (by rw [hRf]; omega) (by rw [hRl]; omega) hRc hRs hd (kk H locs ls h1 h2 h3 h4 h5 h6)
    · cases h
  · cases h
end QC
end
section
/-! THE SMALL MACHINE IS TRUE, 5: every instruction -/
/-- a step that goes on, and makes no less -/
def q_inl (σ : qH) (r : qN) : Prop := ∀ z, r = some z → ∃ x : qS, z = .inl x ∧ σ.2.2.1 ≤ x.2.2.2.2.2.1 ∧ σ.2.2.2 ≤ x.2.2.2.2.2.2
theorem q_inl_none {σ : qH} : q_inl σ none := fun _ h => by cases h
theorem q_inl_go {σ σ' : qH} {pc : Nat} {lo : qL} {st : List Value} (h1 : σ.2.2.1 ≤ σ'.2.2.1) (h2 : σ.2.2.2 ≤ σ'.2.2.2) : q_inl σ (q_go pc lo st σ') := fun z h => by cases h; exact ⟨_, rfl, h1, h2⟩
theorem q_inl_br {σ : qH} {P : Prop} [Decidable P] {pc : Nat} {off : Int} {lo : qL} {st : List Value} : q_inl σ (q_br P pc off lo st σ) := by
  unfold q_br
  split
  · exact fun z h => by cases h; exact ⟨_, rfl, Nat.le_refl _, Nat.le_refl _⟩
  · exact q_inl_none
section QI
variable {pc : Nat} {lo : qL} {st : List Value} {σ : qH}
theorem q_push_in {v : Value} {n : Nat} : q_inl σ (q_push v n pc lo st σ) := by
  unfold q_push
  (repeat' split) <;> first | exact q_inl_none | exact q_inl_go (Nat.le_refl _) (Nat.le_refl _) | exact q_inl_br
theorem q_iload_in {i n : Nat} : q_inl σ (q_iload i n pc lo st σ) := by
  unfold q_iload
  (repeat' split) <;> first | exact q_inl_none | exact q_inl_go (Nat.le_refl _) (Nat.le_refl _) | exact q_inl_br
theorem q_lload_in {i n : Nat} : q_inl σ (q_lload i n pc lo st σ) := by
  unfold q_lload
  (repeat' split) <;> first | exact q_inl_none | exact q_inl_go (Nat.le_refl _) (Nat.le_refl _) | exact q_inl_br
theorem q_aload_in {i n : Nat} : q_inl σ (q_aload i n pc lo st σ) := by
  unfold q_aload
  (repeat' split) <;> first | exact q_inl_none | exact q_inl_go (Nat.le_refl _) (Nat.le_refl _) | exact q_inl_br
theorem q_istore_in {i n : Nat} : q_inl σ (q_istore i n pc lo st σ) := by
  unfold q_istore
  (repeat' split) <;> first | exact q_inl_none | exact q_inl_go (Nat.le_refl _) (Nat.le_refl _) | exact q_inl_br
theorem q_lstore_in {i n : Nat} : q_inl σ (q_lstore i n pc lo st σ) := by
  unfold q_lstore
  (repeat' split) <;> first | exact q_inl_none | exact q_inl_go (Nat.le_refl _) (Nat.le_refl _) | exact q_inl_br
theorem q_astore_in {i n : Nat} : q_inl σ (q_astore i n pc lo st σ) := by
  unfold q_astore
  (repeat' split) <;> first | exact q_inl_none | exact q_inl_go (Nat.le_refl _) (Nat.le_refl _) | exact q_inl_br
theorem q_iinc_in {i : Nat} {k : Int} {n : Nat} : q_inl σ (q_iinc i k n pc lo st σ) := by
  unfold q_iinc
  (repeat' split) <;> first | exact q_inl_none | exact q_inl_go (Nat.le_refl _) (Nat.le_refl _) | exact q_inl_br
theorem q_i1_in {f : Int32 → Value} : q_inl σ (q_i1 f pc lo st σ) := by
  unfold q_i1
  (repeat' split) <;> first | exact q_inl_none | exact q_inl_go (Nat.le_refl _) (Nat.le_refl _) | exact q_inl_br
theorem q_l1_in {f : Int64 → Value} : q_inl σ (q_l1 f pc lo st σ) := by
  unfold q_l1
  (repeat' split) <;> first | exact q_inl_none | exact q_inl_go (Nat.le_refl _) (Nat.le_refl _) | exact q_inl_br
theorem q_i2_in {f : Int32 → Int32 → Int32} : q_inl σ (q_i2 f pc lo st σ) := by
  unfold q_i2
  (repeat' split) <;> first | exact q_inl_none | exact q_inl_go (Nat.le_refl _) (Nat.le_refl _) | exact q_inl_br
theorem q_d2_in {f : Int32 → Int32 → Int32} : q_inl σ (q_d2 f pc lo st σ) := by
  unfold q_d2
  (repeat' split) <;> first | exact q_inl_none | exact q_inl_go (Nat.le_refl _) (Nat.le_refl _) | exact q_inl_br
theorem q_l2_in {f : Int64 → Int64 → Value} : q_inl σ (q_l2 f pc lo st σ) := by
  unfold q_l2
  (repeat' split) <;> first | exact q_inl_none | exact q_inl_go (Nat.le_refl _) (Nat.le_refl _) | exact q_inl_br
theorem q_ls_in {f : Int64 → Int32 → Int64} : q_inl σ (q_ls f pc lo st σ) := by
  unfold q_ls
  (repeat' split) <;> first | exact q_inl_none | exact q_inl_go (Nat.le_refl _) (Nat.le_refl _) | exact q_inl_br
theorem q_dup_in  : q_inl σ (q_dup pc lo st σ) := by
  unfold q_dup
  (repeat' split) <;> first | exact q_inl_none | exact q_inl_go (Nat.le_refl _) (Nat.le_refl _) | exact q_inl_br
theorem q_pop_in  : q_inl σ (q_pop pc lo st σ) := by
  unfold q_pop
  (repeat' split) <;> first | exact q_inl_none | exact q_inl_go (Nat.le_refl _) (Nat.le_refl _) | exact q_inl_br
theorem q_pop2_in  : q_inl σ (q_pop2 pc lo st σ) := by
  unfold q_pop2
  (repeat' split) <;> first | exact q_inl_none | exact q_inl_go (Nat.le_refl _) (Nat.le_refl _) | exact q_inl_br
theorem q_dupx1_in  : q_inl σ (q_dupx1 pc lo st σ) := by
  unfold q_dupx1
  (repeat' split) <;> first | exact q_inl_none | exact q_inl_go (Nat.le_refl _) (Nat.le_refl _) | exact q_inl_br
theorem q_dupx2_in  : q_inl σ (q_dupx2 pc lo st σ) := by
  unfold q_dupx2
  (repeat' split) <;> first | exact q_inl_none | exact q_inl_go (Nat.le_refl _) (Nat.le_refl _) | exact q_inl_br
theorem q_dup2_in  : q_inl σ (q_dup2 pc lo st σ) := by
  unfold q_dup2
  (repeat' split) <;> first | exact q_inl_none | exact q_inl_go (Nat.le_refl _) (Nat.le_refl _) | exact q_inl_br
theorem q_dup2x1_in  : q_inl σ (q_dup2x1 pc lo st σ) := by
  unfold q_dup2x1
  (repeat' split) <;> first | exact q_inl_none | exact q_inl_go (Nat.le_refl _) (Nat.le_refl _) | exact q_inl_br
theorem q_if_in {cd : ClassFile.Cond} {off : Int} : q_inl σ (q_if cd off pc lo st σ) := by
  unfold q_if
  (repeat' split) <;> first | exact q_inl_none | exact q_inl_go (Nat.le_refl _) (Nat.le_refl _) | exact q_inl_br
theorem q_icmp_in {cd : ClassFile.Cond} {off : Int} : q_inl σ (q_icmp cd off pc lo st σ) := by
  unfold q_icmp
  (repeat' split) <;> first | exact q_inl_none | exact q_inl_go (Nat.le_refl _) (Nat.le_refl _) | exact q_inl_br
theorem q_ifnull_in {off : Int} : q_inl σ (q_ifnull off pc lo st σ) := by
  unfold q_ifnull
  (repeat' split) <;> first | exact q_inl_none | exact q_inl_go (Nat.le_refl _) (Nat.le_refl _) | exact q_inl_br
theorem q_ifnonnull_in {off : Int} : q_inl σ (q_ifnonnull off pc lo st σ) := by
  unfold q_ifnonnull
  (repeat' split) <;> first | exact q_inl_none | exact q_inl_go (Nat.le_refl _) (Nat.le_refl _) | exact q_inl_br
theorem q_goto_in {off : Int} : q_inl σ (q_goto off pc lo st σ) := by
  unfold q_goto
  (repeat' split) <;> first | exact q_inl_none | exact q_inl_go (Nat.le_refl _) (Nat.le_refl _) | exact q_inl_br
theorem q_lookup_in {dflt : Int} {ps : Array (Int × Int)} : q_inl σ (q_lookup dflt ps pc lo st σ) := by
  unfold q_lookup
  (repeat' split) <;> first | exact q_inl_none | exact q_inl_go (Nat.le_refl _) (Nat.le_refl _) | exact q_inl_br
theorem q_table_in {dflt a b : Int} {offs : Array Int} : q_inl σ (q_table dflt a b offs pc lo st σ) := by
  unfold q_table
  (repeat' split) <;> first | exact q_inl_none | exact q_inl_go (Nat.le_refl _) (Nat.le_refl _) | exact q_inl_br
theorem q_getf_in {f : Option (Nat × Nat × FieldType × Nat)} : q_inl σ (q_getf f pc lo st σ) := by
  unfold q_getf
  (repeat' split) <;> first | exact q_inl_none | exact q_inl_go (Nat.le_refl _) (Nat.le_refl _) | exact q_inl_br
theorem q_putf_in {f : Option (Nat × Nat × FieldType × Nat)} {ini : Bool} : q_inl σ (q_putf f ini pc lo st σ) := by
  unfold q_putf
  (repeat' split) <;> first | exact q_inl_none | exact q_inl_go (Nat.le_refl _) (Nat.le_refl _) | exact q_inl_br
theorem q_iald_in {kd : Nat} : q_inl σ (q_iald kd pc lo st σ) := by
  unfold q_iald
  (repeat' split) <;> first | exact q_inl_none | exact q_inl_go (Nat.le_refl _) (Nat.le_refl _) | exact q_inl_br
theorem q_lald_in  : q_inl σ (q_lald pc lo st σ) := by
  unfold q_lald
  (repeat' split) <;> first | exact q_inl_none | exact q_inl_go (Nat.le_refl _) (Nat.le_refl _) | exact q_inl_br
theorem q_iast_in {kd : Nat} {nr : Int32 → Int32} : q_inl σ (q_iast kd nr pc lo st σ) := by
  unfold q_iast
  (repeat' split) <;> first | exact q_inl_none | exact q_inl_go (Nat.le_refl _) (Nat.le_refl _) | exact q_inl_br
theorem q_last_in  : q_inl σ (q_last pc lo st σ) := by
  unfold q_last
  (repeat' split) <;> first | exact q_inl_none | exact q_inl_go (Nat.le_refl _) (Nat.le_refl _) | exact q_inl_br
theorem q_alen_in  : q_inl σ (q_alen pc lo st σ) := by
  unfold q_alen
  (repeat' split) <;> first | exact q_inl_none | exact q_inl_go (Nat.le_refl _) (Nat.le_refl _) | exact q_inl_br
theorem q_new_in {kd b : Nat} {mk : Nat → vp_A} : q_inl σ (q_new kd b mk pc lo st σ) := by
  unfold q_new
  (repeat' split) <;> first | exact q_inl_none | exact q_inl_go (Nat.le_add_right _ _) (Nat.le_add_right _ _)
theorem q_newA_in {t : ClassFile.ArrayType} : q_inl σ (q_newA t pc lo st σ) := by
  unfold q_newA
  split <;> first | exact q_new_in | exact q_inl_none
theorem q_back_in {r : List Value} {oo : Option qO} (h : ∀ v σ', oo = some (.inl v, σ') → σ.2.2.1 ≤ σ'.2.2.1 ∧ σ.2.2.2 ≤ σ'.2.2.2) : q_inl σ (q_back pc lo r oo) := by
  unfold q_back
  split
  · exact q_inl_go (h _ _ rfl).1 (h _ _ rfl).2
  · exact q_inl_none
/-- a table of callees makes no less -/
def q_Mono (rc : qC) : Prop := ∀ z as σ v σ', rc z as σ = some (.inl v, σ') → σ.2.2.1 ≤ σ'.2.2.1 ∧ σ.2.2.2 ≤ σ'.2.2.2
theorem q_call_in {rc : qC} (hr : q_Mono rc) {k : Option (Nat × Nat × Nat × Nat)} : q_inl σ (q_call rc k pc lo st σ) := by
  unfold q_call
  (repeat' split) <;> first | exact q_inl_none | exact q_inl_go (Nat.le_refl _) (Nat.le_refl _) | exact q_back_in (fun v σ' h => hr _ _ _ _ _ h)
end QI
def q_isRet : ClassFile.Instr → Bool
  | .areturn => true
  | .ireturn => true
  | .lreturn => true
  | .return_ => true
  | _ => false
/-- an instruction goes on, or it is a return or a throw -/
theorem q_ex_in {rc : qC} {P : qP} {ini : Bool} {rt : Option FieldType} {i : ClassFile.Instr} {pc : Nat} {lo : qL} {st : List Value} {σ : qH} (hr : q_Mono rc) {z : qS ⊕ qO} (h : q_ex rc P ini rt i pc lo st σ = some z) : (∃ x : qS, z = .inl x ∧ σ.2.2.1 ≤ x.2.2.2.2.2.1 ∧ σ.2.2.2 ≤ x.2.2.2.2.2.2) ∨ (q_isRet i = true ∧ ∃ v, z = .inr (.inl v, σ)) ∨ (∃ x k, i = .new k ∧ P.2.1 k = some (.inr x) ∧ z = .inr (.inr x, (σ.1, σ.2.1 + 1, σ.2.2.1 + 1, σ.2.2.2 + 6))) := by
  cases i with
  | aconst_null => exact Or.inl (q_push_in z h)
  | aload i => exact Or.inl (q_aload_in z h)
  | aload_n i => exact Or.inl (q_aload_in z h)
  | areturn =>
    simp only [q_ex, q_areturn] at h
    (repeat' split at h) <;> first | (cases h; exact Or.inr (Or.inl ⟨rfl, _, rfl⟩)) | cases h
  | arraylength => exact Or.inl (q_alen_in z h)
  | astore i => exact Or.inl (q_astore_in z h)
  | astore_n i => exact Or.inl (q_astore_in z h)
  | baload => exact Or.inl (q_iald_in z h)
  | bastore => exact Or.inl (q_iast_in z h)
  | bipush n => exact Or.inl (q_push_in z h)
  | caload => exact Or.inl (q_iald_in z h)
  | castore => exact Or.inl (q_iast_in z h)
  | dup => exact Or.inl (q_dup_in z h)
  | dup_x1 => exact Or.inl (q_dupx1_in z h)
  | dup_x2 => exact Or.inl (q_dupx2_in z h)
  | dup2 => exact Or.inl (q_dup2_in z h)
  | dup2_x1 => exact Or.inl (q_dup2x1_in z h)
  | getfield k => exact Or.inl (q_getf_in z h)
  | goto off => exact Or.inl (q_goto_in z h)
  | i2c => exact Or.inl (q_i1_in z h)
  | i2l => exact Or.inl (q_i1_in z h)
  | iadd => exact Or.inl (q_i2_in z h)
  | iaload => exact Or.inl (q_iald_in z h)
  | iand => exact Or.inl (q_i2_in z h)
  | iastore => exact Or.inl (q_iast_in z h)
  | iconst n => exact Or.inl (q_push_in z h)
  | idiv => exact Or.inl (q_d2_in z h)
  | if_icmp cd off => exact Or.inl (q_icmp_in z h)
  | ifCond cd off => exact Or.inl (q_if_in z h)
  | ifnonnull off => exact Or.inl (q_ifnonnull_in z h)
  | ifnull off => exact Or.inl (q_ifnull_in z h)
  | iinc i k => exact Or.inl (q_iinc_in z h)
  | iload i => exact Or.inl (q_iload_in z h)
  | iload_n i => exact Or.inl (q_iload_in z h)
  | imul => exact Or.inl (q_i2_in z h)
  | ineg => exact Or.inl (q_i1_in z h)
  | invokespecial k =>
    simp only [q_ex] at h
    split at h <;> first | exact Or.inl (q_call_in hr z h) | cases h
  | invokestatic k =>
    simp only [q_ex] at h
    split at h <;> first | exact Or.inl (q_call_in hr z h) | cases h
  | invokevirtual k =>
    simp only [q_ex] at h
    split at h <;> first | exact Or.inl (q_call_in hr z h) | cases h
  | ior => exact Or.inl (q_i2_in z h)
  | irem => exact Or.inl (q_d2_in z h)
  | ireturn =>
    simp only [q_ex, q_ireturn] at h
    (repeat' split at h) <;> first | (cases h; exact Or.inr (Or.inl ⟨rfl, _, rfl⟩)) | cases h
  | ishl => exact Or.inl (q_i2_in z h)
  | ishr => exact Or.inl (q_i2_in z h)
  | istore i => exact Or.inl (q_istore_in z h)
  | istore_n i => exact Or.inl (q_istore_in z h)
  | isub => exact Or.inl (q_i2_in z h)
  | iushr => exact Or.inl (q_i2_in z h)
  | ixor => exact Or.inl (q_i2_in z h)
  | l2i => exact Or.inl (q_l1_in z h)
  | ladd => exact Or.inl (q_l2_in z h)
  | laload => exact Or.inl (q_lald_in z h)
  | land => exact Or.inl (q_l2_in z h)
  | lastore => exact Or.inl (q_last_in z h)
  | lcmp => exact Or.inl (q_l2_in z h)
  | lconst n => exact Or.inl (q_push_in z h)
  | ldc k =>
    simp only [q_ex] at h
    split at h <;> first | exact Or.inl (q_push_in z h) | cases h
  | ldc2_w k =>
    simp only [q_ex] at h
    split at h <;> first | exact Or.inl (q_push_in z h) | cases h
  | lload i => exact Or.inl (q_lload_in z h)
  | lload_n i => exact Or.inl (q_lload_in z h)
  | lmul => exact Or.inl (q_l2_in z h)
  | lookupswitch d ps => exact Or.inl (q_lookup_in z h)
  | lor => exact Or.inl (q_l2_in z h)
  | lreturn =>
    simp only [q_ex, q_lreturn] at h
    (repeat' split at h) <;> first | (cases h; exact Or.inr (Or.inl ⟨rfl, _, rfl⟩)) | cases h
  | lshl => exact Or.inl (q_ls_in z h)
  | lshr => exact Or.inl (q_ls_in z h)
  | lstore i => exact Or.inl (q_lstore_in z h)
  | lstore_n i => exact Or.inl (q_lstore_in z h)
  | lsub => exact Or.inl (q_l2_in z h)
  | lushr => exact Or.inl (q_ls_in z h)
  | lxor => exact Or.inl (q_l2_in z h)
  | new k =>
    simp only [q_ex, q_newC] at h
    split at h
    · cases h; exact Or.inl ⟨_, rfl, Nat.le_add_right _ _, Nat.le_add_right _ _⟩
    · rename_i x hx; cases h; exact Or.inr (Or.inr ⟨x, k, rfl, hx, rfl⟩)
    · cases h
  | newarray t => exact Or.inl (q_newA_in z h)
  | pop => exact Or.inl (q_pop_in z h)
  | pop2 => exact Or.inl (q_pop2_in z h)
  | putfield k => exact Or.inl (q_putf_in z h)
  | return_ =>
    simp only [q_ex, q_vreturn] at h
    (repeat' split at h) <;> first | (cases h; exact Or.inr (Or.inl ⟨rfl, _, rfl⟩)) | cases h
  | sipush n => exact Or.inl (q_push_in z h)
  | tableswitch d a b os => exact Or.inl (q_table_in z h)
  | _ => cases h
end
section
/-! THE SMALL MACHINE IS TRUE, 6: a step, whole -/
def q_pok (cl : List vw_C) (Ts Ns : List Cond) (yn : Nat → MethodName) (Mt : Nat → Option qM) (own : String) (P : qP) : Prop :=
  (∀ k f, P.1 k = some f → q_fok cl Ts Ns own k f) ∧ (∀ k n, P.2.1 k = some (.inl n) → q_nok cl Ts own k n) ∧ (∀ k x, P.2.2.1 k = some x → q_mok cl Ts Ns yn Mt own k x) ∧ (∀ k v, P.2.2.2.1 k = some v → Cond.constant own k v ∈ Ts) ∧ (∀ k v, P.2.2.2.2 k = some v → Cond.constantLong own k v ∈ Ts)
section QX
variable {p : Program} {l : Launch} {e : Env} {R : Room} {s : State} {m : MethodId} {args : Array Value} {below : List Frame} {meth : Method} {c : Code} {D : va_G} {cl : List vw_C} {ac : Nat → ClassId} {B0 nL k0 w0 : Nat} {Q : State → Prop} {own : String} {cc : ByteArray} {Ts Ns : List Cond} {pc : Nat} {lo : qL} {st : List Value} {σ : qH} {x' : qS}
variable {yn : Nat → MethodName} {Mt : Nat → Option qM} {d : Nat} {rc : qC}
set_option maxHeartbeats 4000000 in
theorem q_ok_ex {P : qP} {ini : Bool} {rt : Option FieldType} {i : ClassFile.Instr} {n : Nat} (Cx : q_Cx p s m args c D cl ac B0 own cc nL Ts Ns) (hi : ini = true → meth.name = "<init>") (hT : GoodIn Ts Ts) (hN : ∀ w ∈ Ns, q_isN w = true) (hrc : q_Snd l D cl ac B0 Ts Ns yn Mt d rc) (hP : q_pok cl Ts Ns yn Mt own P) (hta : Cond.arrayClass .int ∈ Ts ∧ Cond.arrayClass .char ∈ Ts ∧ Cond.arrayClass .long ∈ Ts ∧ Cond.arrayClass .boolean ∈ Ts) (hRf : R.frames = d + 1) (hRl : R.locals = 64 * (d + 1))
    (hRc : x'.2.2.2.2.2.1 - k0 ≤ R.cells) (hRs : x'.2.2.2.2.2.2 - w0 ≤ R.slots) (hd : decode cc pc = .ok (i, n)) (hn : n = q_len i ∨ q_isSw i = true) (h : q_ex rc P ini rt i pc lo st σ = some (.inl x')) (kk : q_G p l e R s m args below meth c D cl ac B0 nL k0 w0 Q x') : q_G p l e R s m args below meth c D cl ac B0 nL k0 w0 Q (pc, lo, st, σ) := by
  have hx := Cx.1
  have hb := Cx.2.1
  have hown := Cx.2.2.2.1
  have hts := Cx.2.2.2.2.1
  cases i with
  | aconst_null =>
    rcases hn with hn | hn
    · subst hn
      exact q_ok_push (fun H locs ls k w z => lv_null hx hb hd z) h kk
    · cases hn
  | aload i =>
    rcases hn with hn | hn
    · subst hn
      exact q_ok_aload (fun x H locs ls k w hl z => lv_aload hx hb hd hl z) (fun H locs ls k w hl z => lv_aloadN hx hb hd hl z) h kk
    · cases hn
  | aload_n i =>
    rcases hn with hn | hn
    · subst hn
      exact q_ok_aload (fun x H locs ls k w hl z => lv_aload_n hx hb hd rfl hl z) (fun H locs ls k w hl z => lv_aload_nN hx hb hd rfl hl z) h kk
    · cases hn
  | areturn =>
    simp only [q_ex, q_areturn] at h
    (repeat' split at h) <;> cases h
  | arraylength =>
    rcases hn with hn | hn
    · subst hn
      exact q_ok_alen Cx hd h kk
    · cases hn
  | astore i =>
    rcases hn with hn | hn
    · subst hn
      exact q_ok_astore (fun x r H locs ls k w lv hl hj z => lv_astore hx hb hd hl hj rfl z) (fun r H locs ls k w lv hl hj z => lv_astoreN hx hb hd hl hj rfl z) h kk
    · cases hn
  | astore_n i =>
    rcases hn with hn | hn
    · subst hn
      exact q_ok_astore (fun x r H locs ls k w lv hl hj z => lv_astore_n hx hb hd rfl hl hj rfl z) (fun r H locs ls k w lv hl hj z => lv_astore_nN hx hb hd rfl hl hj rfl z) h kk
    · cases hn
  | baload =>
    rcases hn with hn | hn
    · subst hn
      exact q_ok_zald Cx hd h kk
    · cases hn
  | bastore =>
    rcases hn with hn | hn
    · subst hn
      exact q_ok_zast Cx hd h kk
    · cases hn
  | bipush n =>
    rcases hn with hn | hn
    · subst hn
      exact q_ok_push (fun H locs ls k w z => lv_bipush hx hb hd rfl z) h kk
    · cases hn
  | caload =>
    rcases hn with hn | hn
    · subst hn
      exact q_ok_cald Cx hd h kk
    · cases hn
  | castore =>
    rcases hn with hn | hn
    · subst hn
      exact q_ok_cast Cx hd h kk
    · cases hn
  | dup =>
    rcases hn with hn | hn
    · subst hn
      exact q_ok_dup hx hb hd h kk
    · cases hn
  | dup_x1 =>
    rcases hn with hn | hn
    · subst hn
      exact q_ok_dupx1 hx hb hd h kk
    · cases hn
  | dup_x2 =>
    rcases hn with hn | hn
    · subst hn
      exact q_ok_dupx2 hx hb hd h kk
    · cases hn
  | dup2 =>
    rcases hn with hn | hn
    · subst hn
      exact q_ok_dup2 hx hb hd h kk
    · cases hn
  | dup2_x1 =>
    rcases hn with hn | hn
    · subst hn
      exact q_ok_dup2x1 hx hb hd h kk
    · cases hn
  | getfield k =>
    rcases hn with hn | hn
    · subst hn
      exact q_ok_getf Cx (fun x e9 => hP.1 _ x e9) hd h kk
    · cases hn
  | goto off =>
    rcases hn with hn | hn
    · subst hn
      exact q_ok_goto hx hb hd h kk
    · cases hn
  | i2c =>
    rcases hn with hn | hn
    · subst hn
      exact q_ok_i1 (fun x r H locs ls k w z => lv_i2c hx hb hd rfl z) h kk
    · cases hn
  | i2l =>
    rcases hn with hn | hn
    · subst hn
      exact q_ok_i1 (fun x r H locs ls k w z => lv_i2l hx hb hd rfl z) h kk
    · cases hn
  | iadd =>
    rcases hn with hn | hn
    · subst hn
      exact q_ok_i2 (fun x y r H locs ls k w z => lv_iadd hx hb hd z) h kk
    · cases hn
  | iaload =>
    rcases hn with hn | hn
    · subst hn
      exact q_ok_iald Cx hd h kk
    · cases hn
  | iand =>
    rcases hn with hn | hn
    · subst hn
      exact q_ok_i2 (fun x y r H locs ls k w z => lv_iand hx hb hd z) h kk
    · cases hn
  | iastore =>
    rcases hn with hn | hn
    · subst hn
      exact q_ok_iast Cx hd h kk
    · cases hn
  | iconst n =>
    rcases hn with hn | hn
    · subst hn
      exact q_ok_push (fun H locs ls k w z => lv_iconst hx hb hd rfl z) h kk
    · cases hn
  | idiv =>
    rcases hn with hn | hn
    · subst hn
      exact q_ok_d2 (fun x y r H locs ls k w hy z => lv_idiv hx hb hd hy z) h kk
    · cases hn
  | if_icmp cd off =>
    rcases hn with hn | hn
    · subst hn
      exact q_ok_icmp hx hb hd h kk
    · cases hn
  | ifCond cd off =>
    rcases hn with hn | hn
    · subst hn
      exact q_ok_if hx hb hd h kk
    · cases hn
  | ifnonnull off =>
    rcases hn with hn | hn
    · subst hn
      exact q_ok_ifnonnull hx hb hd h kk
    · cases hn
  | ifnull off =>
    rcases hn with hn | hn
    · subst hn
      exact q_ok_ifnull hx hb hd h kk
    · cases hn
  | iinc i k =>
    rcases hn with hn | hn
    · subst hn
      exact q_ok_iinc hx hb hd h kk
    · cases hn
  | iload i =>
    rcases hn with hn | hn
    · subst hn
      exact q_ok_iload (fun x H locs ls k w hl z => lv_iload hx hb hd hl z) h kk
    · cases hn
  | iload_n i =>
    rcases hn with hn | hn
    · subst hn
      exact q_ok_iload (fun x H locs ls k w hl z => lv_iload_n hx hb hd rfl hl z) h kk
    · cases hn
  | imul =>
    rcases hn with hn | hn
    · subst hn
      exact q_ok_i2 (fun x y r H locs ls k w z => lv_imul hx hb hd z) h kk
    · cases hn
  | ineg =>
    rcases hn with hn | hn
    · subst hn
      exact q_ok_i1 (fun x r H locs ls k w z => lv_ineg hx hb hd z) h kk
    · cases hn
  | invokespecial k =>
    rcases hn with hn | hn
    · subst hn
      simp only [q_ex] at h
      split at h
      · rename_i z hv
        exact q_ok_callO Cx (hP.2.2.1 _ _ hv) hRf hRl hd h kk
      · rename_i z hv
        obtain ⟨z1, z2, z3⟩ := z
        exact q_ok_callI Cx hT hN hrc (hP.2.2.1 _ _ hv) hRf hRl hRc hRs hd h kk
      · cases h
    · cases hn
  | invokestatic k =>
    rcases hn with hn | hn
    · subst hn
      simp only [q_ex] at h
      split at h
      · rename_i z hv
        obtain ⟨z1, z2, z3⟩ := z
        exact q_ok_callS Cx hT hN hrc (hP.2.2.1 _ _ hv) hRf hRl hRc hRs hd h kk
      · rename_i z hv
        exact q_ok_callM Cx (hP.2.2.1 _ _ hv) hRf hRl hRc hRs hd h kk
      · rename_i z hv
        exact q_ok_callN Cx (hP.2.2.1 _ _ hv) hRf hRl hRc hRs hd h kk
      · cases h
    · cases hn
  | invokevirtual k =>
    rcases hn with hn | hn
    · subst hn
      simp only [q_ex] at h
      split at h
      · rename_i z hv
        obtain ⟨z1, z2, z3⟩ := z
        exact q_ok_callV Cx hT hN hrc (hP.2.2.1 _ _ hv) hRf hRl hRc hRs hd h kk
      · cases h
    · cases hn
  | ior =>
    rcases hn with hn | hn
    · subst hn
      exact q_ok_i2 (fun x y r H locs ls k w z => lv_ior hx hb hd z) h kk
    · cases hn
  | irem =>
    rcases hn with hn | hn
    · subst hn
      exact q_ok_d2 (fun x y r H locs ls k w hy z => lv_irem hx hb hd hy z) h kk
    · cases hn
  | ireturn =>
    simp only [q_ex, q_ireturn] at h
    (repeat' split at h) <;> cases h
  | ishl =>
    rcases hn with hn | hn
    · subst hn
      exact q_ok_i2 (fun x y r H locs ls k w z => lv_ishl hx hb hd z) h kk
    · cases hn
  | ishr =>
    rcases hn with hn | hn
    · subst hn
      exact q_ok_i2 (fun x y r H locs ls k w z => lv_ishr hx hb hd z) h kk
    · cases hn
  | istore i =>
    rcases hn with hn | hn
    · subst hn
      exact q_ok_istore (fun x r H locs ls k w lv hl hj z => lv_istore hx hb hd hl hj rfl z) h kk
    · cases hn
  | istore_n i =>
    rcases hn with hn | hn
    · subst hn
      exact q_ok_istore (fun x r H locs ls k w lv hl hj z => lv_istore_n hx hb hd rfl hl hj rfl z) h kk
    · cases hn
  | isub =>
    rcases hn with hn | hn
    · subst hn
      exact q_ok_i2 (fun x y r H locs ls k w z => lv_isub hx hb hd z) h kk
    · cases hn
  | iushr =>
    rcases hn with hn | hn
    · subst hn
      exact q_ok_i2 (fun x y r H locs ls k w z => lv_iushr hx hb hd rfl z) h kk
    · cases hn
  | ixor =>
    rcases hn with hn | hn
    · subst hn
      exact q_ok_i2 (fun x y r H locs ls k w z => lv_ixor hx hb hd z) h kk
    · cases hn
  | l2i =>
    rcases hn with hn | hn
    · subst hn
      exact q_ok_l1 (fun x r H locs ls k w z => lv_l2i hx hb hd rfl z) h kk
    · cases hn
  | ladd =>
    rcases hn with hn | hn
    · subst hn
      exact q_ok_l2 (fun x y r H locs ls k w z => lv_ladd hx hb hd z) h kk
    · cases hn
  | laload =>
    rcases hn with hn | hn
    · subst hn
      exact q_ok_lald Cx hd h kk
    · cases hn
  | land =>
    rcases hn with hn | hn
    · subst hn
      exact q_ok_l2 (fun x y r H locs ls k w z => lv_land hx hb hd z) h kk
    · cases hn
  | lastore =>
    rcases hn with hn | hn
    · subst hn
      exact q_ok_last Cx hd h kk
    · cases hn
  | lcmp =>
    rcases hn with hn | hn
    · subst hn
      exact q_ok_l2 (fun x y r H locs ls k w z => W.lcmp hx hb hd z) h kk
    · cases hn
  | lconst n =>
    rcases hn with hn | hn
    · subst hn
      exact q_ok_push (fun H locs ls k w z => lv_lconst hx hb hd rfl z) h kk
    · cases hn
  | ldc k =>
    rcases hn with hn | hn
    · subst hn
      simp only [q_ex] at h
      split at h
      · rename_i v hv
        exact q_ok_push (fun H locs ls k w z => lv_ldc hx hb hown (hts _ (hP.2.2.2.1 _ v hv)) hd z) h kk
      · cases h
    · cases hn
  | ldc2_w k =>
    rcases hn with hn | hn
    · subst hn
      simp only [q_ex] at h
      split at h
      · rename_i v hv
        exact q_ok_push (fun H locs ls k w z => lv_ldc2 hx hb hown (hts _ (hP.2.2.2.2 _ v hv)) hd z) h kk
      · cases h
    · cases hn
  | lload i =>
    rcases hn with hn | hn
    · subst hn
      exact q_ok_lload (fun x H locs ls k w hl z => lv_lload hx hb hd hl z) h kk
    · cases hn
  | lload_n i =>
    rcases hn with hn | hn
    · subst hn
      exact q_ok_lload (fun x H locs ls k w hl z => lv_lload_n hx hb hd rfl hl z) h kk
    · cases hn
  | lmul =>
    rcases hn with hn | hn
    · subst hn
      exact q_ok_l2 (fun x y r H locs ls k w z => lv_lmul hx hb hd z) h kk
    · cases hn
  | lookupswitch d ps =>
    exact q_ok_lookup hx hb hd h kk
  | lor =>
    rcases hn with hn | hn
    · subst hn
      exact q_ok_l2 (fun x y r H locs ls k w z => lv_lor hx hb hd z) h kk
    · cases hn
  | lreturn =>
    simp only [q_ex, q_lreturn] at h
    (repeat' split at h) <;> cases h
  | lshl =>
    rcases hn with hn | hn
    · subst hn
      exact q_ok_ls (fun x y r H locs ls k w z => lv_lshl hx hb hd rfl z) h kk
    · cases hn
  | lshr =>
    rcases hn with hn | hn
    · subst hn
      exact q_ok_ls (fun x y r H locs ls k w z => lv_lshr hx hb hd rfl z) h kk
    · cases hn
  | lstore i =>
    rcases hn with hn | hn
    · subst hn
      exact q_ok_lstore (fun x r H locs ls k w lv hl hj z => lv_lstore hx hb hd hl hj rfl z) h kk
    · cases hn
  | lstore_n i =>
    rcases hn with hn | hn
    · subst hn
      exact q_ok_lstore (fun x r H locs ls k w lv hl hj z => lv_lstore_n hx hb hd rfl hl hj rfl z) h kk
    · cases hn
  | lsub =>
    rcases hn with hn | hn
    · subst hn
      exact q_ok_l2 (fun x y r H locs ls k w z => lv_lsub hx hb hd z) h kk
    · cases hn
  | lushr =>
    rcases hn with hn | hn
    · subst hn
      exact q_ok_ls (fun x y r H locs ls k w z => lv_lushr hx hb hd rfl z) h kk
    · cases hn
  | lxor =>
    rcases hn with hn | hn
    · subst hn
      exact q_ok_l2 (fun x y r H locs ls k w z => lv_lxor hx hb hd z) h kk
    · cases hn
  | new k =>
    rcases hn with hn | hn
    · subst hn
      exact q_ok_newC Cx (fun n e9 => hP.2.1 _ n e9) hRc hRs hd h kk
    · cases hn
  | newarray t =>
    rcases hn with hn | hn
    · subst hn
      exact q_ok_newA Cx hta hRc hRs hd h kk
    · cases hn
  | pop =>
    rcases hn with hn | hn
    · subst hn
      exact q_ok_pop hx hb hd h kk
    · cases hn
  | pop2 =>
    rcases hn with hn | hn
    · subst hn
      exact q_ok_pop2 hx hb hd h kk
    · cases hn
  | putfield k =>
    rcases hn with hn | hn
    · subst hn
      exact q_ok_putf Cx hi (fun x e9 => hP.1 _ x e9) hd h kk
    · cases hn
  | return_ =>
    simp only [q_ex, q_vreturn] at h
    (repeat' split at h) <;> cases h
  | sipush n =>
    rcases hn with hn | hn
    · subst hn
      exact q_ok_push (fun H locs ls k w z => lv_sipush hx hb hd rfl z) h kk
    · cases hn
  | tableswitch d a b os =>
    exact q_ok_table hx hb hd h kk
  | _ => cases h
end QX
end
section
/-! THE SMALL MACHINE IS TRUE, 7: a method, and all of them -/
theorem q_run_mono {rc : qC} {M : qM} (hr : q_Mono rc) : ∀ (n : Nat) (x : qS) (o : qO), q_run rc M n x = some o → x.2.2.2.2.2.1 ≤ o.2.2.2.1 ∧ x.2.2.2.2.2.2 ≤ o.2.2.2.2 := by
  intro n
  induction n with
  | zero => intro x o h; cases h
  | succ n ih =>
    intro x o h
    simp only [q_run] at h
    cases hs : q_step rc M x with
    | none => rw [hs] at h; cases h
    | some r =>
      rw [hs] at h
      unfold q_step at hs
      split at hs
      · rename_i i hi
        rcases q_ex_in hr hs with ⟨x1, rfl, g1, g2⟩ | ⟨-, v, rfl⟩ | ⟨x1, k, -, -, rfl⟩
        · obtain ⟨f1, f2⟩ := ih _ _ h
          exact ⟨Nat.le_trans g1 f1, Nat.le_trans g2 f2⟩
        · cases h; exact ⟨Nat.le_refl _, Nat.le_refl _⟩
        · cases h; exact ⟨Nat.le_add_right _ _, Nat.le_add_right _ _⟩
      · cases hs
section QE
variable {p : Program} {l : Launch} {e : Env} {R : Room} {s : State} {m : MethodId} {args : Array Value} {below : List Frame} {meth : Method} {c : Code} {D : va_G} {cl : List vw_C} {ac : Nat → ClassId} {B0 nL k0 w0 : Nat} {own : String} {cc : ByteArray} {Ts Ns : List Cond} {pc : Nat} {lo : qL} {st : List Value} {σ : qH} {x' : qS}
variable {yn : Nat → MethodName} {Mt : Nat → Option qM} {d : Nat} {rc : qC}
theorem q_ok_end {P : qP} {ini : Bool} {rt : Option FieldType} {i : ClassFile.Instr} {n : Nat} {v : Option Value} {σ' : qH} (Cx : q_Cx p s m args c D cl ac B0 own cc nL Ts Ns) (hmo : q_Mono rc) (hr : meth.sig.returnType = rt) (hlocks : meth.locks = false) (hd : decode cc pc = .ok (i, n)) (hn : n = q_len i ∨ q_isSw i = true) (h : q_ex rc P ini rt i pc lo st σ = some (.inr (.inl v, σ'))) : q_G p l e R s m args below meth c D cl ac B0 nL k0 w0 (MQ below (q_Post D cl ac B0 v σ') args s (σ'.2.2.1 - k0) (σ'.2.2.2 - w0) (fun q : Nat => B0 ≤ q)) (pc, lo, st, σ) := by
  have hx := Cx.1
  have hb := Cx.2.1
  have hw : ∀ (H : Heap) (locs : List Loc), q_hold D cl ac B0 σ H → va_S (fun q : Nat => B0 ≤ q) s.heap H locs → ∀ t : State, t.heap = H → s.WarmedH t.vm → ∀ v1 : Option Value, q_Post D cl ac B0 v1 σ args s (.returned v1) t := fun H locs h3 h4 t ht _ v1 => ⟨rfl, by rw [ht]; exact h3, h4.F ht⟩
  cases i with
  | ireturn =>
    rcases hn with hn | hn
    · subst hn
      simp only [q_ex, q_ireturn] at h
      split at h
      · split at h
        · rename_i ty x hnr
          cases h
          exact fun H locs ls h1 h2 h3 h4 h5 h6 => W.zret hx hb hr hnr (fun t ht hW => hw H locs h3 h4 t ht hW _) h4.2.2 hd hlocks
        · cases h
      · cases h
    · cases hn
  | lreturn =>
    rcases hn with hn | hn
    · subst hn
      simp only [q_ex, q_lreturn] at h
      split at h
      · cases h
        exact fun H locs ls h1 h2 h3 h4 h5 h6 => W.lret hx hb hr (fun t ht hW => hw H locs h3 h4 t ht hW _) h4.2.2 hd hlocks
      · cases h
    · cases hn
  | return_ =>
    rcases hn with hn | hn
    · subst hn
      simp only [q_ex, q_vreturn] at h
      split at h
      · cases h
        exact fun H locs ls h1 h2 h3 h4 h5 h6 => W.vret hx hb hr (fun t ht hW => hw H locs h3 h4 t ht hW _) h4.2.2 hd hlocks
      · cases h
    · cases hn
  | areturn =>
    rcases hn with hn | hn
    · subst hn
      simp only [q_ex, q_areturn] at h
      split at h
      · rename_i hrt
        have hrt2 : ∃ rt0, rt = some rt0 ∧ ((∃ n, rt0 = .object n) ∨ ∃ t, rt0 = .array t) := by
          cases rt with
          | none => cases hrt
          | some t => cases t <;> first | exact ⟨_, rfl, Or.inl ⟨_, rfl⟩⟩ | exact ⟨_, rfl, Or.inr ⟨_, rfl⟩⟩ | cases hrt
        obtain ⟨rt0, hrt0, hrt1⟩ := hrt2
        subst hrt0
        split at h
        · cases h
          exact fun H locs ls h1 h2 h3 h4 h5 h6 => W.aret hx hb hr hrt1 (Or.inr ⟨_, rfl⟩) (fun t ht hW => hw H locs h3 h4 t ht hW _) h4.2.2 hd hlocks
        · cases h
          exact fun H locs ls h1 h2 h3 h4 h5 h6 => W.aret hx hb hr hrt1 (Or.inl rfl) (fun t ht hW => hw H locs h3 h4 t ht hW _) h4.2.2 hd hlocks
        · cases h
      · cases h
    · cases hn
  | _ =>
    rcases q_ex_in hmo h with ⟨x1, g1, -⟩ | ⟨g1, -⟩ | ⟨x1, k, -, -, g1⟩
    · cases g1
    · cases g1
    · cases g1
theorem q_ok_run {M : qM} {v : Option Value} {σ' : qH} (Cx : q_Cx p s m args c D cl ac B0 own M.1 nL Ts Ns) (hi : M.2.2.2.1 = true → meth.name = "<init>") (hr : meth.sig.returnType = M.2.2.1) (hlocks : meth.locks = false) (hT : GoodIn Ts Ts) (hN : ∀ w ∈ Ns, q_isN w = true) (hrc : q_Snd l D cl ac B0 Ts Ns yn Mt d rc) (hP : q_pok cl Ts Ns yn Mt own M.2.2.2.2) (hta : Cond.arrayClass .int ∈ Ts ∧ Cond.arrayClass .char ∈ Ts ∧ Cond.arrayClass .long ∈ Ts ∧ Cond.arrayClass .boolean ∈ Ts) (hRf : R.frames = d + 1) (hRl : R.locals = 64 * (d + 1))
    (hRc : σ'.2.2.1 - k0 ≤ R.cells) (hRs : σ'.2.2.2 - w0 ≤ R.slots) : ∀ (n : Nat) (x : qS), q_run rc M n x = some (.inl v, σ') → q_G p l e R s m args below meth c D cl ac B0 nL k0 w0 (MQ below (q_Post D cl ac B0 v σ') args s (σ'.2.2.1 - k0) (σ'.2.2.2 - w0) (fun q : Nat => B0 ≤ q)) x := by
  have hmo : q_Mono rc := fun z as σ v σ' h => (hrc z as σ v σ' h).2
  intro n
  induction n with
  | zero => intro x h; cases h
  | succ n ih =>
    intro x h
    obtain ⟨pc, lo, st, σ⟩ := x
    simp only [q_run] at h
    cases hs : q_step rc M (pc, lo, st, σ) with
    | none => rw [hs] at h; cases h
    | some r =>
      rw [hs] at h
      unfold q_step at hs
      dsimp only at hs
      split at hs
      · rename_i i hins
        unfold q_ins at hins
        split at hins
        · rename_i i' n' hdec
          split at hins
          · rename_i hn
            cases hins
            cases r with
            | inl x1 =>
              have hm1 := q_run_mono hmo _ _ _ h
              dsimp only at hm1
              exact q_ok_ex Cx hi hT hN hrc hP hta hRf hRl (by omega) (by omega) hdec hn hs (ih x1 h)
            | inr o1 =>
              cases h
              exact q_ok_end Cx hmo hr hlocks hdec hn hs
          · cases hins
        · cases hins
      · cases hs
end QE
def q_Mok (cl : List vw_C) (Ts Ns : List Cond) (yn : Nat → MethodName) (Mt : Nat → Option qM) : Prop := ∀ z M, Mt z = some M → plainFor (yn z) = true ∧ (M.2.2.2.1 = true → (yn z).name = "<init>") ∧ q_pok cl Ts Ns yn Mt (yn z).cls M.2.2.2.2
theorem q_ev_ok {l : Launch} {D : va_G} {cl : List vw_C} {ac : Nat → ClassId} {B0 : Nat} {Ts Ns : List Cond} {yn : Nat → MethodName} {Mt : Nat → Option qM} (hT : GoodIn Ts Ts) (hN : ∀ w ∈ Ns, q_isN w = true) (hM : q_Mok cl Ts Ns yn Mt) (hta : Cond.arrayClass .int ∈ Ts ∧ Cond.arrayClass .char ∈ Ts ∧ Cond.arrayClass .long ∈ Ts ∧ Cond.arrayClass .boolean ∈ Ts) : ∀ d, q_Snd l D cl ac B0 Ts Ns yn Mt d (q_ev Mt d) := by
  intro d
  induction d with
  | zero => intro z as σ v σ' h; cases h
  | succ d ih =>
    intro z as σ v σ' h
    have hmo : q_Mono (q_ev Mt d) := fun z as σ v σ' h => (ih z as σ v σ' h).2
    simp only [q_ev] at h
    split at h
    · rename_i M hMz
      split at h
      · rename_i hlen
        obtain ⟨n, hrun⟩ := q_out_iff.mp h
        obtain ⟨hk, hw⟩ := q_run_mono hmo _ _ _ hrun
        refine ⟨?_, hk, hw⟩
        intro M' hM'
        cases hMz.symm.trans hM'
        obtain ⟨m1, m2, m3⟩ := hM z M hMz
        refine va_MetF (cc := M.1) (maxL := M.2.1) (ret := M.2.2.1) m1 rfl ?_
        intro p e s m args below meth c s₁ B hml hv
        obtain ⟨rfl, hh, hK, hns, hB⟩ := hv
        have hts := atoms_spec (ws := Cond.code (yn z) M.1 M.2.1 M.2.2.1 :: Ts) B.pre
        have hown : s.vm.findClass (yn z).cls = some m.cls := findClass_of_methodNamed B.named
        have hin : meth.name = (yn z).name := (name_of_methodNamed B.named B.method).1
        have Cx : q_Cx p s m as.toArray c D cl ac B0 (yn z).cls M.1 M.2.1 Ts Ns := ⟨B.exec, B.bytes, hml, hown, fun w hw => hts w (List.mem_cons_of_mem _ hw), hns, hK, hB⟩
        have := q_ok_run (l := l) (e := e) (R := (headSpec (Cond.code (yn z) M.1 M.2.1 M.2.2.1 :: Ts) (q_rm (d + 1) (σ'.2.2.1 - σ.2.2.1) (σ'.2.2.2 - σ.2.2.2))).room) (below := below) (k0 := σ.2.2.1) (w0 := σ.2.2.2) Cx (fun hz => hin.trans (m2 hz)) B.returns B.notSynchronized hT hN ih m3 hta rfl rfl (Nat.le_refl _) (Nat.le_refl _) n _ hrun
        have := this s.heap [] _ (q_rel_entry hlen) (q_entry_len hlen) hh va_S.rf (Nat.le_refl _) (Nat.le_refl _)
        dsimp only at this
        rw [Nat.sub_self, Nat.sub_self] at this
        rw [lg_entry_eq]
        exact this
      · cases h
    · cases h
end
section
/-! printed by wip/tools/mk_tables.py: names, fields, pools, methods -/
def q_TPW : u_T := fun k => match k with
  | 0 => ("PatternWalk", "text", "[C", true)
  | 1 => ("PatternWalk", "length", "I", false)
  | 2 => ("PatternWalk", "errorAt", "I", false)
  | 3 => ("PatternWalk", "sets", "LPatternWalk$CharSets;", true)
  | 4 => ("PatternWalk", "parser", "LPatternWalk$Parser;", true)
  | 5 => ("PatternWalk", "program", "LPatternWalk$Program;", true)
  | _ => ("PatternWalk", "walk", "LPatternWalk$Walk;", true)
def q_YPW : Nat → FieldType := fun k => match k with
  | 0 => .array .char
  | 1 => .int
  | 2 => .int
  | 3 => .object "PatternWalk$CharSets"
  | 4 => .object "PatternWalk$Parser"
  | 5 => .object "PatternWalk$Program"
  | _ => .object "PatternWalk$Walk"
def q_TCs : u_T := fun k => match k with
  | 0 => ("PatternWalk$CharSets", "bits", "[J", true)
  | _ => ("PatternWalk$CharSets", "used", "I", false)
def q_YCs : Nat → FieldType := fun k => match k with
  | 0 => .array .long
  | _ => .int
def q_TPa : u_T := fun k => match k with
  | 0 => ("PatternWalk$Parser", "text", "[C", true)
  | 1 => ("PatternWalk$Parser", "sets", "LPatternWalk$CharSets;", true)
  | 2 => ("PatternWalk$Parser", "length", "I", false)
  | 3 => ("PatternWalk$Parser", "at", "I", false)
  | 4 => ("PatternWalk$Parser", "groups", "I", false)
  | _ => ("PatternWalk$Parser", "error", "I", false)
def q_YPa : Nat → FieldType := fun k => match k with
  | 0 => .array .char
  | 1 => .object "PatternWalk$CharSets"
  | 2 => .int
  | 3 => .int
  | 4 => .int
  | _ => .int
def q_TPr : u_T := fun k => match k with
  | 0 => ("PatternWalk$Program", "kinds", "[I", true)
  | 1 => ("PatternWalk$Program", "xs", "[I", true)
  | 2 => ("PatternWalk$Program", "ys", "[I", true)
  | 3 => ("PatternWalk$Program", "size", "I", false)
  | _ => ("PatternWalk$Program", "numbered", "I", false)
def q_YPr : Nat → FieldType := fun k => match k with
  | 0 => .array .int
  | 1 => .array .int
  | 2 => .array .int
  | 3 => .int
  | _ => .int
def q_TRp : u_T := fun k => match k with
  | 0 => ("PatternWalk$Repeat", "set", "I", false)
  | 1 => ("PatternWalk$Repeat", "inner", "LPatternWalk$Row;", false)
  | 2 => ("PatternWalk$Repeat", "number", "I", false)
  | 3 => ("PatternWalk$Repeat", "atomSize", "I", false)
  | 4 => ("PatternWalk$Repeat", "least", "I", false)
  | 5 => ("PatternWalk$Repeat", "most", "I", false)
  | 6 => ("PatternWalk$Repeat", "endless", "Z", false)
  | 7 => ("PatternWalk$Repeat", "plus", "Z", false)
  | 8 => ("PatternWalk$Repeat", "lazy", "Z", false)
  | _ => ("PatternWalk$Repeat", "next", "LPatternWalk$Repeat;", false)
def q_YRp : Nat → FieldType := fun k => match k with
  | 0 => .int
  | 1 => .object "PatternWalk$Row"
  | 2 => .int
  | 3 => .int
  | 4 => .int
  | 5 => .int
  | 6 => .boolean
  | 7 => .boolean
  | 8 => .boolean
  | _ => .object "PatternWalk$Repeat"
def q_TRw : u_T := fun k => match k with
  | 0 => ("PatternWalk$Row", "first", "LPatternWalk$Repeat;", false)
  | 1 => ("PatternWalk$Row", "last", "LPatternWalk$Repeat;", false)
  | 2 => ("PatternWalk$Row", "next", "LPatternWalk$Row;", false)
  | _ => ("PatternWalk$Row", "size", "I", false)
def q_YRw : Nat → FieldType := fun k => match k with
  | 0 => .object "PatternWalk$Repeat"
  | 1 => .object "PatternWalk$Repeat"
  | 2 => .object "PatternWalk$Row"
  | _ => .int
def q_TWk : u_T := fun k => match k with
  | 0 => ("PatternWalk$Walk", "program", "LPatternWalk$Program;", true)
  | 1 => ("PatternWalk$Walk", "sets", "LPatternWalk$CharSets;", true)
  | 2 => ("PatternWalk$Walk", "now", "LPatternWalk$Ways;", false)
  | 3 => ("PatternWalk$Walk", "before", "LPatternWalk$Ways;", false)
  | 4 => ("PatternWalk$Walk", "cameAt", "[I", true)
  | 5 => ("PatternWalk$Walk", "stack", "[I", true)
  | 6 => ("PatternWalk$Walk", "oldMarks", "[I", true)
  | 7 => ("PatternWalk$Walk", "height", "I", false)
  | 8 => ("PatternWalk$Walk", "marks", "[I", true)
  | 9 => ("PatternWalk$Walk", "foundMarks", "[I", true)
  | 10 => ("PatternWalk$Walk", "begun", "Z", false)
  | 11 => ("PatternWalk$Walk", "searching", "Z", false)
  | 12 => ("PatternWalk$Walk", "found", "Z", false)
  | 13 => ("PatternWalk$Walk", "cut", "Z", false)
  | _ => ("PatternWalk$Walk", "place", "I", false)
def q_YWk : Nat → FieldType := fun k => match k with
  | 0 => .object "PatternWalk$Program"
  | 1 => .object "PatternWalk$CharSets"
  | 2 => .object "PatternWalk$Ways"
  | 3 => .object "PatternWalk$Ways"
  | 4 => .array .int
  | 5 => .array .int
  | 6 => .array .int
  | 7 => .int
  | 8 => .array .int
  | 9 => .array .int
  | 10 => .boolean
  | 11 => .boolean
  | 12 => .boolean
  | 13 => .boolean
  | _ => .int
def q_TWy : u_T := fun k => match k with
  | 0 => ("PatternWalk$Ways", "takes", "[I", true)
  | 1 => ("PatternWalk$Ways", "marks", "[I", true)
  | _ => ("PatternWalk$Ways", "count", "I", false)
def q_YWy : Nat → FieldType := fun k => match k with
  | 0 => .array .int
  | 1 => .array .int
  | _ => .int
def q_TMd : u_T := fun k => match k with
  | 0 => ("PatternWalkModel", "thrown", "I", false)
  | 1 => ("PatternWalkModel", "size", "I", false)
  | 2 => ("PatternWalkModel", "text", "[C", true)
  | 3 => ("PatternWalkModel", "error", "I", false)
  | 4 => ("PatternWalkModel", "nodes", "I", false)
  | 5 => ("PatternWalkModel", "kind", "[I", true)
  | 6 => ("PatternWalkModel", "first", "[I", true)
  | 7 => ("PatternWalkModel", "last", "[I", true)
  | 8 => ("PatternWalkModel", "next", "[I", true)
  | 9 => ("PatternWalkModel", "a", "[I", true)
  | 10 => ("PatternWalkModel", "least", "[I", true)
  | 11 => ("PatternWalkModel", "most", "[I", true)
  | 12 => ("PatternWalkModel", "lazy", "[Z", true)
  | 13 => ("PatternWalkModel", "wide", "[I", true)
  | 14 => ("PatternWalkModel", "p", "I", false)
  | 15 => ("PatternWalkModel", "depth", "I", false)
  | 16 => ("PatternWalkModel", "openRepeat", "[I", true)
  | 17 => ("PatternWalkModel", "openChoice", "[I", true)
  | 18 => ("PatternWalkModel", "openRow", "[I", true)
  | 19 => ("PatternWalkModel", "numbers", "I", false)
  | 20 => ("PatternWalkModel", "sets", "I", false)
  | 21 => ("PatternWalkModel", "bits", "[I", true)
  | 22 => ("PatternWalkModel", "length", "I", false)
  | 23 => ("PatternWalkModel", "code", "[I", true)
  | 24 => ("PatternWalkModel", "x", "[I", true)
  | 25 => ("PatternWalkModel", "y", "[I", true)
  | 26 => ("PatternWalkModel", "tasks", "I", false)
  | 27 => ("PatternWalkModel", "taskNode", "[I", true)
  | 28 => ("PatternWalkModel", "taskAt", "[I", true)
  | 29 => ("PatternWalkModel", "begun", "Z", false)
  | 30 => ("PatternWalkModel", "search", "Z", false)
  | 31 => ("PatternWalkModel", "fed", "I", false)
  | 32 => ("PatternWalkModel", "word", "[I", true)
  | 33 => ("PatternWalkModel", "known", "Z", false)
  | 34 => ("PatternWalkModel", "matched", "Z", false)
  | 35 => ("PatternWalkModel", "can", "[I", true)
  | 36 => ("PatternWalkModel", "marks", "[I", true)
  | 37 => ("PatternWalkModel", "live", "[Z", true)
  | 38 => ("PatternWalkModel", "here", "[Z", true)
  | 39 => ("PatternWalkModel", "there", "[Z", true)
  | 40 => ("PatternWalkModel", "piled", "I", false)
  | 41 => ("PatternWalkModel", "pile", "[I", true)
  | 42 => ("PatternWalkModel", "from", "[I", true)
  | 43 => ("PatternWalkModel", "seen", "[Z", true)
  | _ => ("PatternWalkModel", "parent", "[I", true)
def q_YMd : Nat → FieldType := fun k => match k with
  | 0 => .int
  | 1 => .int
  | 2 => .array .char
  | 3 => .int
  | 4 => .int
  | 5 => .array .int
  | 6 => .array .int
  | 7 => .array .int
  | 8 => .array .int
  | 9 => .array .int
  | 10 => .array .int
  | 11 => .array .int
  | 12 => .array .boolean
  | 13 => .array .int
  | 14 => .int
  | 15 => .int
  | 16 => .array .int
  | 17 => .array .int
  | 18 => .array .int
  | 19 => .int
  | 20 => .int
  | 21 => .array .int
  | 22 => .int
  | 23 => .array .int
  | 24 => .array .int
  | 25 => .array .int
  | 26 => .int
  | 27 => .array .int
  | 28 => .array .int
  | 29 => .boolean
  | 30 => .boolean
  | 31 => .int
  | 32 => .array .int
  | 33 => .boolean
  | 34 => .boolean
  | 35 => .array .int
  | 36 => .array .int
  | 37 => .array .boolean
  | 38 => .array .boolean
  | 39 => .array .boolean
  | 40 => .int
  | 41 => .array .int
  | 42 => .array .int
  | 43 => .array .boolean
  | _ => .array .int
def q_cl : List vw_C := [("PatternWalk", q_TPW, 7), ("PatternWalk$CharSets", q_TCs, 2), ("PatternWalk$Parser", q_TPa, 6), ("PatternWalk$Program", q_TPr, 5), ("PatternWalk$Repeat", q_TRp, 10), ("PatternWalk$Row", q_TRw, 4), ("PatternWalk$Walk", q_TWk, 15), ("PatternWalk$Ways", q_TWy, 3), ("PatternWalkModel", q_TMd, 45)]
/-- a row of a pool by its number -/
def q_lk {α : Type} : List (Nat × α) → Nat → Option α
  | [], _ => none
  | (i, a) :: t, k => if k = i then some a else q_lk t k
theorem q_lk_mem {α : Type} {k : Nat} {a : α} : ∀ {l : List (Nat × α)}, q_lk l k = some a → (k, a) ∈ l
  | [], h => by cases h
  | (i, b) :: t, h => by
    unfold q_lk at h
    split at h
    · rename_i e; cases h; subst e; exact List.mem_cons_self
    · exact List.mem_cons_of_mem _ (q_lk_mem h)
def q_FPW : List (Nat × Nat × Nat × FieldType × Nat) := [(83, 2, 4, .int, 0), (67, 2, 5, .int, 0), (90, 3, 3, .int, 0), (116, 3, 4, .int, 0), (141, 7, 2, .int, 0), (137, 6, 2, .object "PatternWalk$Ways", 0), (123, 6, 10, .boolean, 0), (134, 6, 12, .boolean, 0), (127, 6, 14, .int, 0), (9, 0, 0, .array .char, 1), (13, 0, 1, .int, 0), (17, 0, 2, .int, 0), (23, 0, 3, .object "PatternWalk$CharSets", 1), (32, 0, 4, .object "PatternWalk$Parser", 1), (39, 0, 5, .object "PatternWalk$Program", 1), (48, 0, 6, .object "PatternWalk$Walk", 1)]
def q_CPW : List (Nat × ((Nat × List Value) ⊕ Nat)) := [(20, .inl (1, [.null, .int 0])), (27, .inl (2, [.null, .null, .int 0, .int 0, .int 0, .int 0])), (36, .inl (3, [.null, .null, .null, .int 0, .int 0])), (43, .inl (6, [.null, .null, .null, .null, .null, .null, .null, .int 0, .null, .null, .int 0, .int 0, .int 0, .int 0, .int 0])), (56, .inr 2), (70, .inr 1)]
def q_MPW : List (Nat × Nat × Nat × Nat × Nat) := [(3, 0, 0, 0, 0), (22, 3, 14, 0, 0), (29, 3, 22, 2, 0), (38, 3, 40, 0, 0), (45, 3, 58, 2, 0), (52, 1, 41, 0, 3), (93, 1, 42, 0, 3), (96, 1, 59, 0, 6), (99, 1, 43, 1, 3), (103, 1, 44, 1, 3), (107, 1, 45, 1, 3), (110, 1, 15, 1, 1), (113, 1, 46, 1, 3), (119, 1, 60, 1, 6), (130, 1, 68, 1, 6), (145, 1, 69, 1, 6), (148, 1, 70, 1, 6), (63, 1, 23, 1, 2), (75, 1, 56, 0, 5), (86, 1, 47, 2, 3)]
def q_IPW : List (Nat × Int32) := []
def q_LPW : List (Nat × Int64) := []
def q_PPW : qP := (q_lk q_FPW, q_lk q_CPW, q_lk q_MPW, q_lk q_IPW, q_lk q_LPW)
def q_FCs : List (Nat × Nat × Nat × FieldType × Nat) := [(11, 1, 0, .array .long, 1), (15, 1, 1, .int, 0)]
def q_CCs : List (Nat × ((Nat × List Value) ⊕ Nat)) := []
def q_MCs : List (Nat × Nat × Nat × Nat × Nat) := [(3, 0, 0, 0, 0), (25, 1, 16, 1, 1), (37, 2, 125, 1, 0), (19, 2, 124, 2, 0), (29, 4, 0, 0, 0)]
def q_ICs : List (Nat × Int32) := []
def q_LCs : List (Nat × Int64) := [(35, -1)]
def q_PCs : qP := (q_lk q_FCs, q_lk q_CCs, q_lk q_MCs, q_lk q_ICs, q_lk q_LCs)
def q_FPa : List (Nat × Nat × Nat × FieldType × Nat) := [(24, 2, 0, .array .char, 1), (28, 2, 1, .object "PatternWalk$CharSets", 1), (9, 2, 2, .int, 0), (15, 2, 3, .int, 0), (18, 2, 4, .int, 0), (21, 2, 5, .int, 0), (57, 5, 2, .object "PatternWalk$Row", 0), (79, 4, 0, .int, 0), (95, 4, 1, .object "PatternWalk$Row", 0), (92, 4, 2, .int, 0), (101, 4, 3, .int, 0), (127, 4, 4, .int, 0), (147, 4, 5, .int, 0), (130, 4, 6, .boolean, 0), (134, 4, 7, .boolean, 0), (140, 4, 8, .boolean, 0)]
def q_CPa : List (Nat × ((Nat × List Value) ⊕ Nat)) := [(50, .inl (5, [.null, .null, .null, .int 0])), (69, .inl (4, [.int 0, .null, .int 0, .int 0, .int 0, .int 0, .int 0, .int 0, .int 0, .null]))]
def q_MPa : List (Nat × Nat × Nat × Nat × Nat) := [(3, 0, 0, 0, 0), (32, 5, 0, 0, 0), (38, 1, 18, 0, 1), (43, 1, 24, 1, 2), (52, 3, 55, 0, 0), (53, 1, 25, 0, 2), (61, 1, 26, 1, 2), (71, 3, 53, 0, 0), (72, 1, 27, 2, 2), (47, 1, 28, 0, 2), (89, 1, 29, 1, 2), (98, 1, 56, 0, 5), (76, 1, 19, 0, 1), (82, 1, 30, 1, 2), (104, 1, 31, 1, 2), (118, 1, 32, 1, 2), (107, 1, 33, 1, 2), (110, 1, 20, 3, 1), (124, 2, 34, 1, 0), (121, 1, 21, 1, 1), (114, 2, 35, 1, 0), (86, 1, 36, 1, 2), (137, 1, 37, 1, 2), (143, 2, 38, 1, 0), (150, 1, 39, 1, 2), (65, 1, 57, 1, 5)]
def q_IPa : List (Nat × Int32) := []
def q_LPa : List (Nat × Int64) := []
def q_PPa : qP := (q_lk q_FPa, q_lk q_CPa, q_lk q_MPa, q_lk q_IPa, q_lk q_LPa)
def q_FPr : List (Nat × Nat × Nat × FieldType × Nat) := [(9, 3, 0, .array .int, 1), (15, 3, 1, .array .int, 1), (18, 3, 2, .array .int, 1), (21, 3, 3, .int, 0), (25, 3, 4, .int, 0), (54, 5, 0, .object "PatternWalk$Repeat", 0), (49, 5, 2, .object "PatternWalk$Row", 0), (53, 5, 3, .int, 0), (95, 4, 0, .int, 0), (92, 4, 1, .object "PatternWalk$Row", 0), (98, 4, 2, .int, 0), (86, 4, 3, .int, 0), (66, 4, 4, .int, 0), (89, 4, 5, .int, 0), (83, 4, 6, .boolean, 0), (72, 4, 7, .boolean, 0), (76, 4, 8, .boolean, 0), (62, 4, 9, .object "PatternWalk$Repeat", 0)]
def q_CPr : List (Nat × ((Nat × List Value) ⊕ Nat)) := []
def q_MPr : List (Nat × Nat × Nat × Nat × Nat) := [(3, 0, 0, 0, 0), (28, 1, 43, 1, 3), (32, 1, 42, 0, 3), (35, 1, 48, 3, 3), (39, 1, 49, 2, 3), (43, 1, 56, 0, 5), (58, 1, 50, 2, 3), (69, 1, 51, 2, 3), (79, 1, 52, 3, 3)]
def q_IPr : List (Nat × Int32) := []
def q_LPr : List (Nat × Int64) := []
def q_PPr : qP := (q_lk q_FPr, q_lk q_CPr, q_lk q_MPr, q_lk q_IPr, q_lk q_LPr)
def q_FRp : List (Nat × Nat × Nat × FieldType × Nat) := [(9, 4, 0, .int, 0), (15, 4, 1, .object "PatternWalk$Row", 0), (19, 4, 2, .int, 0), (22, 4, 3, .int, 0), (25, 4, 4, .int, 0), (28, 4, 5, .int, 0), (31, 4, 6, .boolean, 0), (35, 4, 7, .boolean, 0), (38, 4, 8, .boolean, 0), (41, 4, 9, .object "PatternWalk$Repeat", 0)]
def q_CRp : List (Nat × ((Nat × List Value) ⊕ Nat)) := []
def q_MRp : List (Nat × Nat × Nat × Nat × Nat) := [(3, 0, 0, 0, 0)]
def q_IRp : List (Nat × Int32) := []
def q_LRp : List (Nat × Int64) := []
def q_PRp : qP := (q_lk q_FRp, q_lk q_CRp, q_lk q_MRp, q_lk q_IRp, q_lk q_LRp)
def q_FRw : List (Nat × Nat × Nat × FieldType × Nat) := [(7, 5, 0, .object "PatternWalk$Repeat", 0), (13, 5, 1, .object "PatternWalk$Repeat", 0), (16, 5, 2, .object "PatternWalk$Row", 0), (20, 5, 3, .int, 0), (24, 4, 9, .object "PatternWalk$Repeat", 0)]
def q_CRw : List (Nat × ((Nat × List Value) ⊕ Nat)) := []
def q_MRw : List (Nat × Nat × Nat × Nat × Nat) := [(1, 0, 0, 0, 0), (31, 5, 0, 0, 0), (28, 1, 54, 0, 4)]
def q_IRw : List (Nat × Int32) := []
def q_LRw : List (Nat × Int64) := []
def q_PRw : qP := (q_lk q_FRw, q_lk q_CRw, q_lk q_MRw, q_lk q_IRw, q_lk q_LRw)
def q_FWk : List (Nat × Nat × Nat × FieldType × Nat) := [(65, 7, 2, .int, 0), (57, 6, 0, .object "PatternWalk$Program", 1), (61, 6, 1, .object "PatternWalk$CharSets", 1), (12, 6, 2, .object "PatternWalk$Ways", 0), (18, 6, 3, .object "PatternWalk$Ways", 0), (21, 6, 4, .array .int, 1), (25, 6, 5, .array .int, 1), (28, 6, 6, .array .int, 1), (31, 6, 7, .int, 0), (35, 6, 8, .array .int, 1), (38, 6, 9, .array .int, 1), (41, 6, 10, .boolean, 0), (45, 6, 11, .boolean, 0), (48, 6, 12, .boolean, 0), (51, 6, 13, .boolean, 0), (54, 6, 14, .int, 0)]
def q_CWk : List (Nat × ((Nat × List Value) ⊕ Nat)) := [(9, .inl (7, [.null, .null, .int 0]))]
def q_MWk : List (Nat × Nat × Nat × Nat × Nat) := [(3, 0, 0, 0, 0), (11, 3, 71, 0, 0), (68, 2, 123, 2, 0), (74, 1, 61, 0, 6), (96, 1, 62, 1, 6), (100, 1, 63, 2, 6), (104, 1, 64, 1, 6), (110, 1, 43, 1, 3), (113, 1, 44, 1, 3), (116, 1, 72, 2, 7), (119, 1, 46, 1, 3), (81, 1, 45, 1, 3), (122, 1, 65, 1, 6), (125, 1, 66, 0, 6), (107, 1, 67, 2, 6), (77, 1, 73, 1, 7), (86, 1, 17, 2, 1), (92, 1, 74, 2, 7)]
def q_IWk : List (Nat × Int32) := []
def q_LWk : List (Nat × Int64) := []
def q_PWk : qP := (q_lk q_FWk, q_lk q_CWk, q_lk q_MWk, q_lk q_IWk, q_lk q_LWk)
def q_FWy : List (Nat × Nat × Nat × FieldType × Nat) := [(9, 7, 0, .array .int, 1), (15, 7, 1, .array .int, 1), (18, 7, 2, .int, 0)]
def q_CWy : List (Nat × ((Nat × List Value) ⊕ Nat)) := []
def q_MWy : List (Nat × Nat × Nat × Nat × Nat) := [(3, 0, 0, 0, 0)]
def q_IWy : List (Nat × Int32) := []
def q_LWy : List (Nat × Int64) := []
def q_PWy : qP := (q_lk q_FWy, q_lk q_CWy, q_lk q_MWy, q_lk q_IWy, q_lk q_LWy)
def q_FMd : List (Nat × Nat × Nat × FieldType × Nat) := [(103, 8, 0, .int, 0), (106, 8, 1, .int, 0), (7, 8, 2, .array .char, 1), (13, 8, 3, .int, 0), (112, 8, 4, .int, 0), (17, 8, 5, .array .int, 1), (21, 8, 6, .array .int, 1), (24, 8, 7, .array .int, 1), (27, 8, 8, .array .int, 1), (30, 8, 9, .array .int, 1), (33, 8, 10, .array .int, 1), (36, 8, 11, .array .int, 1), (39, 8, 12, .array .boolean, 1), (43, 8, 13, .array .int, 1), (126, 8, 14, .int, 0), (161, 8, 15, .int, 0), (46, 8, 16, .array .int, 1), (49, 8, 17, .array .int, 1), (52, 8, 18, .array .int, 1), (164, 8, 19, .int, 0), (115, 8, 20, .int, 0), (55, 8, 21, .array .int, 1), (109, 8, 22, .int, 0), (58, 8, 23, .array .int, 1), (61, 8, 24, .array .int, 1), (64, 8, 25, .array .int, 1), (184, 8, 26, .int, 0), (67, 8, 27, .array .int, 1), (70, 8, 28, .array .int, 1), (212, 8, 29, .boolean, 0), (219, 8, 30, .boolean, 0), (222, 8, 31, .int, 0), (73, 8, 32, .array .int, 1), (225, 8, 33, .boolean, 0), (246, 8, 34, .boolean, 0), (76, 8, 35, .array .int, 1), (79, 8, 36, .array .int, 1), (82, 8, 37, .array .boolean, 1), (85, 8, 38, .array .boolean, 1), (88, 8, 39, .array .boolean, 1), (240, 8, 40, .int, 0), (91, 8, 41, .array .int, 1), (94, 8, 42, .array .int, 1), (97, 8, 43, .array .boolean, 1), (100, 8, 44, .array .int, 1)]
def q_CMd : List (Nat × ((Nat × List Value) ⊕ Nat)) := []
def q_MMd : List (Nat × Nat × Nat × Nat × Nat) := [(1, 0, 0, 0, 0), (201, 1, 79, 0, 8), (143, 1, 80, 2, 8), (129, 1, 81, 1, 8), (167, 1, 82, 1, 8), (170, 1, 83, 1, 8), (155, 1, 84, 1, 8), (158, 2, 85, 1, 0), (173, 1, 86, 1, 8), (140, 2, 87, 1, 0), (147, 1, 88, 0, 8), (151, 1, 89, 1, 8), (132, 1, 90, 2, 8), (118, 1, 91, 3, 8), (136, 2, 92, 1, 0), (205, 1, 93, 1, 8), (180, 1, 94, 4, 8), (187, 1, 95, 2, 8), (209, 1, 96, 2, 8), (195, 1, 97, 2, 8), (198, 1, 98, 2, 8), (191, 1, 99, 4, 8), (216, 1, 103, 1, 8), (122, 1, 104, 2, 8), (263, 1, 109, 0, 8), (243, 1, 110, 0, 8), (231, 1, 111, 2, 8), (237, 1, 112, 2, 8), (228, 1, 113, 2, 8), (234, 1, 114, 1, 8), (249, 1, 115, 2, 8), (253, 1, 116, 2, 8), (256, 1, 117, 2, 8), (259, 1, 118, 1, 8)]
def q_IMd : List (Nat × Int32) := []
def q_LMd : List (Nat × Int64) := [(176, 2), (178, 10000)]
def q_PMd : qP := (q_lk q_FMd, q_lk q_CMd, q_lk q_MMd, q_lk q_IMd, q_lk q_LMd)
def q_FAr : List (Nat × Nat × Nat × FieldType × Nat) := []
def q_CAr : List (Nat × ((Nat × List Value) ⊕ Nat)) := []
def q_MAr : List (Nat × Nat × Nat × Nat × Nat) := []
def q_IAr : List (Nat × Int32) := []
def q_LAr : List (Nat × Int64) := []
def q_PAr : qP := (q_lk q_FAr, q_lk q_CAr, q_lk q_MAr, q_lk q_IAr, q_lk q_LAr)
def q_FLo : List (Nat × Nat × Nat × FieldType × Nat) := []
def q_CLo : List (Nat × ((Nat × List Value) ⊕ Nat)) := []
def q_MLo : List (Nat × Nat × Nat × Nat × Nat) := []
def q_ILo : List (Nat × Int32) := []
def q_LLo : List (Nat × Int64) := [(314, 6148914691236517205), (316, 3689348814741910323), (318, 1085102592571150095)]
def q_PLo : qP := (q_lk q_FLo, q_lk q_CLo, q_lk q_MLo, q_lk q_ILo, q_lk q_LLo)
def q_yPW_init : MethodName := ⟨"PatternWalk", "<init>", "()V"⟩
def q_mPW_init : qM := (prog_1_method_1_code, 1, none, true, q_PPW)
def q_yPW_pattern : MethodName := ⟨"PatternWalk", "pattern", "(C)Z"⟩
def q_mPW_pattern : qM := (prog_1_method_2_code, 2, (some .boolean), false, q_PPW)
def q_yPW_position : MethodName := ⟨"PatternWalk", "position", "()I"⟩
def q_mPW_position : qM := (prog_1_method_4_code, 1, (some .int), false, q_PPW)
def q_yPW_clear : MethodName := ⟨"PatternWalk", "clear", "()V"⟩
def q_mPW_clear : qM := (prog_1_method_5_code, 1, none, false, q_PPW)
def q_yPW_instruction : MethodName := ⟨"PatternWalk", "instruction", "(II)I"⟩
def q_mPW_instruction : qM := (prog_1_method_6_code, 3, (some .int), false, q_PPW)
def q_yPW_groups : MethodName := ⟨"PatternWalk", "groups", "()I"⟩
def q_mPW_groups : qM := (prog_1_method_7_code, 1, (some .int), false, q_PPW)
def q_yPW_start : MethodName := ⟨"PatternWalk", "start", "(Z)Z"⟩
def q_mPW_start : qM := (prog_1_method_8_code, 2, (some .boolean), false, q_PPW)
def q_yPW_feed : MethodName := ⟨"PatternWalk", "feed", "(C)Z"⟩
def q_mPW_feed : qM := (prog_1_method_9_code, 2, (some .boolean), false, q_PPW)
def q_yPW_matched : MethodName := ⟨"PatternWalk", "matched", "()Z"⟩
def q_mPW_matched : qM := (prog_1_method_10_code, 1, (some .boolean), false, q_PPW)
def q_yPW_live : MethodName := ⟨"PatternWalk", "live", "()I"⟩
def q_mPW_live : qM := (prog_1_method_11_code, 1, (some .int), false, q_PPW)
def q_yPW_isLive : MethodName := ⟨"PatternWalk", "isLive", "(I)Z"⟩
def q_mPW_isLive : qM := (prog_1_method_12_code, 2, (some .boolean), false, q_PPW)
def q_yPW_mark : MethodName := ⟨"PatternWalk", "mark", "(I)I"⟩
def q_mPW_mark : qM := (prog_1_method_13_code, 2, (some .int), false, q_PPW)
def q_yPW_fed : MethodName := ⟨"PatternWalk", "fed", "()I"⟩
def q_mPW_fed : qM := (prog_1_method_14_code, 1, (some .int), false, q_PPW)
def q_yPW_compile : MethodName := ⟨"PatternWalk", "compile", "()I"⟩
def q_mPW_compile : qM := (prog_1_method_3_code, 2, (some .int), false, q_PPW)
def q_yCs_init : MethodName := ⟨"PatternWalk$CharSets", "<init>", "()V"⟩
def q_mCs_init : qM := (prog_2_method_1_code, 1, none, true, q_PCs)
def q_yCs_count : MethodName := ⟨"PatternWalk$CharSets", "count", "(I)I"⟩
def q_mCs_count : qM := (prog_2_method_8_code, 4, (some .int), false, q_PCs)
def q_yCs_isOpen : MethodName := ⟨"PatternWalk$CharSets", "isOpen", "(I)Z"⟩
def q_mCs_isOpen : qM := (prog_2_method_4_code, 2, (some .boolean), false, q_PCs)
def q_yCs_has : MethodName := ⟨"PatternWalk$CharSets", "has", "(II)Z"⟩
def q_mCs_has : qM := (prog_2_method_7_code, 3, (some .boolean), false, q_PCs)
def q_yCs_forgetAll : MethodName := ⟨"PatternWalk$CharSets", "forgetAll", "()V"⟩
def q_mCs_forgetAll : qM := (prog_2_method_2_code, 1, none, false, q_PCs)
def q_yCs_open : MethodName := ⟨"PatternWalk$CharSets", "open", "()I"⟩
def q_mCs_open : qM := (prog_2_method_3_code, 1, (some .int), false, q_PCs)
def q_yCs_addRange : MethodName := ⟨"PatternWalk$CharSets", "addRange", "(III)V"⟩
def q_mCs_addRange : qM := (prog_2_method_5_code, 5, none, false, q_PCs)
def q_yCs_invert : MethodName := ⟨"PatternWalk$CharSets", "invert", "(I)V"⟩
def q_mCs_invert : qM := (prog_2_method_6_code, 3, none, false, q_PCs)
def q_yPa_init : MethodName := ⟨"PatternWalk$Parser", "<init>", "([CLPatternWalk$CharSets;)V"⟩
def q_mPa_init : qM := (prog_3_method_1_code, 3, none, true, q_PPa)
def q_yPa_parse : MethodName := ⟨"PatternWalk$Parser", "parse", "(I)LPatternWalk$Row;"⟩
def q_mPa_parse : qM := (prog_3_method_2_code, 3, (some (.object "PatternWalk$Row")), false, q_PPa)
def q_yPa_readChoice : MethodName := ⟨"PatternWalk$Parser", "readChoice", "(I)LPatternWalk$Row;"⟩
def q_mPa_readChoice : qM := (prog_3_method_5_code, 6, (some (.object "PatternWalk$Row")), false, q_PPa)
def q_yPa_peek : MethodName := ⟨"PatternWalk$Parser", "peek", "()I"⟩
def q_mPa_peek : qM := (prog_3_method_3_code, 1, (some .int), false, q_PPa)
def q_yPa_readRepeat : MethodName := ⟨"PatternWalk$Parser", "readRepeat", "(I)LPatternWalk$Repeat;"⟩
def q_mPa_readRepeat : qM := (prog_3_method_6_code, 3, (some (.object "PatternWalk$Repeat")), false, q_PPa)
def q_yPa_readGroup : MethodName := ⟨"PatternWalk$Parser", "readGroup", "(LPatternWalk$Repeat;I)V"⟩
def q_mPa_readGroup : qM := (prog_3_method_7_code, 4, none, false, q_PPa)
def q_yPa_fail : MethodName := ⟨"PatternWalk$Parser", "fail", "()V"⟩
def q_mPa_fail : qM := (prog_3_method_4_code, 1, none, false, q_PPa)
def q_yPa_expect : MethodName := ⟨"PatternWalk$Parser", "expect", "(I)V"⟩
def q_mPa_expect : qM := (prog_3_method_8_code, 2, none, false, q_PPa)
def q_yPa_readCharacters : MethodName := ⟨"PatternWalk$Parser", "readCharacters", "(I)V"⟩
def q_mPa_readCharacters : qM := (prog_3_method_9_code, 3, none, false, q_PPa)
def q_yPa_readSet : MethodName := ⟨"PatternWalk$Parser", "readSet", "(I)V"⟩
def q_mPa_readSet : qM := (prog_3_method_11_code, 5, none, false, q_PPa)
def q_yPa_readItem : MethodName := ⟨"PatternWalk$Parser", "readItem", "(I)V"⟩
def q_mPa_readItem : qM := (prog_3_method_12_code, 4, none, false, q_PPa)
def q_yPa_readEscaped : MethodName := ⟨"PatternWalk$Parser", "readEscaped", "(I)V"⟩
def q_mPa_readEscaped : qM := (prog_3_method_14_code, 3, none, false, q_PPa)
def q_yPa_isItem : MethodName := ⟨"PatternWalk$Parser", "isItem", "(I)Z"⟩
def q_mPa_isItem : qM := (prog_3_method_13_code, 1, (some .boolean), false, q_PPa)
def q_yPa_standsForItself : MethodName := ⟨"PatternWalk$Parser", "standsForItself", "(I)Z"⟩
def q_mPa_standsForItself : qM := (prog_3_method_10_code, 1, (some .boolean), false, q_PPa)
def q_yPa_readCount : MethodName := ⟨"PatternWalk$Parser", "readCount", "(LPatternWalk$Repeat;)V"⟩
def q_mPa_readCount : qM := (prog_3_method_15_code, 2, none, false, q_PPa)
def q_yPa_readBraces : MethodName := ⟨"PatternWalk$Parser", "readBraces", "(LPatternWalk$Repeat;)V"⟩
def q_mPa_readBraces : qM := (prog_3_method_16_code, 3, none, false, q_PPa)
def q_yPa_digit : MethodName := ⟨"PatternWalk$Parser", "digit", "(I)I"⟩
def q_mPa_digit : qM := (prog_3_method_18_code, 1, (some .int), false, q_PPa)
def q_yPa_readMost : MethodName := ⟨"PatternWalk$Parser", "readMost", "(LPatternWalk$Repeat;)V"⟩
def q_mPa_readMost : qM := (prog_3_method_17_code, 3, none, false, q_PPa)
def q_yPr_init : MethodName := ⟨"PatternWalk$Program", "<init>", "()V"⟩
def q_mPr_init : qM := (prog_4_method_1_code, 1, none, true, q_PPr)
def q_yPr_isWritten : MethodName := ⟨"PatternWalk$Program", "isWritten", "()Z"⟩
def q_mPr_isWritten : qM := (prog_4_method_2_code, 1, (some .boolean), false, q_PPr)
def q_yPr_erase : MethodName := ⟨"PatternWalk$Program", "erase", "()V"⟩
def q_mPr_erase : qM := (prog_4_method_7_code, 1, none, false, q_PPr)
def q_yPr_has : MethodName := ⟨"PatternWalk$Program", "has", "(I)Z"⟩
def q_mPr_has : qM := (prog_4_method_3_code, 2, (some .boolean), false, q_PPr)
def q_yPr_kindOf : MethodName := ⟨"PatternWalk$Program", "kindOf", "(I)I"⟩
def q_mPr_kindOf : qM := (prog_4_method_4_code, 2, (some .int), false, q_PPr)
def q_yPr_xOf : MethodName := ⟨"PatternWalk$Program", "xOf", "(I)I"⟩
def q_mPr_xOf : qM := (prog_4_method_5_code, 2, (some .int), false, q_PPr)
def q_yPr_yOf : MethodName := ⟨"PatternWalk$Program", "yOf", "(I)I"⟩
def q_mPr_yOf : qM := (prog_4_method_6_code, 2, (some .int), false, q_PPr)
def q_yPr_write : MethodName := ⟨"PatternWalk$Program", "write", "(LPatternWalk$Row;I)V"⟩
def q_mPr_write : qM := (prog_4_method_8_code, 3, none, false, q_PPr)
def q_yPr_add : MethodName := ⟨"PatternWalk$Program", "add", "(III)V"⟩
def q_mPr_add : qM := (prog_4_method_9_code, 4, none, false, q_PPr)
def q_yPr_writeChoice : MethodName := ⟨"PatternWalk$Program", "writeChoice", "(LPatternWalk$Row;I)V"⟩
def q_mPr_writeChoice : qM := (prog_4_method_11_code, 6, none, false, q_PPr)
def q_yPr_writeRepeat : MethodName := ⟨"PatternWalk$Program", "writeRepeat", "(LPatternWalk$Repeat;I)V"⟩
def q_mPr_writeRepeat : qM := (prog_4_method_12_code, 5, none, false, q_PPr)
def q_yPr_writeAtom : MethodName := ⟨"PatternWalk$Program", "writeAtom", "(LPatternWalk$Repeat;I)V"⟩
def q_mPr_writeAtom : qM := (prog_4_method_13_code, 3, none, false, q_PPr)
def q_yPr_addSplit : MethodName := ⟨"PatternWalk$Program", "addSplit", "(IIZ)V"⟩
def q_mPr_addSplit : qM := (prog_4_method_10_code, 4, none, false, q_PPr)
def q_yRp_init : MethodName := ⟨"PatternWalk$Repeat", "<init>", "()V"⟩
def q_mRp_init : qM := (prog_5_method_1_code, 1, none, true, q_PRp)
def q_yRp_size : MethodName := ⟨"PatternWalk$Repeat", "size", "()I"⟩
def q_mRp_size : qM := (prog_5_method_2_code, 1, (some .int), false, q_PRp)
def q_yRw_init : MethodName := ⟨"PatternWalk$Row", "<init>", "()V"⟩
def q_mRw_init : qM := (prog_6_method_1_code, 1, none, true, q_PRw)
def q_yRw_sizeAsChoice : MethodName := ⟨"PatternWalk$Row", "sizeAsChoice", "()I"⟩
def q_mRw_sizeAsChoice : qM := (prog_6_method_3_code, 3, (some .int), false, q_PRw)
def q_yRw_append : MethodName := ⟨"PatternWalk$Row", "append", "(LPatternWalk$Repeat;)V"⟩
def q_mRw_append : qM := (prog_6_method_2_code, 2, none, false, q_PRw)
def q_yWk_init : MethodName := ⟨"PatternWalk$Walk", "<init>", "(LPatternWalk$Program;LPatternWalk$CharSets;)V"⟩
def q_mWk_init : qM := (prog_7_method_1_code, 3, none, true, q_PWk)
def q_yWk_end : MethodName := ⟨"PatternWalk$Walk", "end", "()V"⟩
def q_mWk_end : qM := (prog_7_method_2_code, 1, none, false, q_PWk)
def q_yWk_begin : MethodName := ⟨"PatternWalk$Walk", "begin", "(Z)V"⟩
def q_mWk_begin : qM := (prog_7_method_3_code, 2, none, false, q_PWk)
def q_yWk_followFromStart : MethodName := ⟨"PatternWalk$Walk", "followFromStart", "()V"⟩
def q_mWk_followFromStart : qM := (prog_7_method_5_code, 1, none, false, q_PWk)
def q_yWk_follow : MethodName := ⟨"PatternWalk$Walk", "follow", "(I)V"⟩
def q_mWk_follow : qM := (prog_7_method_6_code, 4, none, false, q_PWk)
def q_yWk_push : MethodName := ⟨"PatternWalk$Walk", "push", "(II)V"⟩
def q_mWk_push : qM := (prog_7_method_7_code, 3, none, false, q_PWk)
def q_yWk_visit : MethodName := ⟨"PatternWalk$Walk", "visit", "(I)V"⟩
def q_mWk_visit : qM := (prog_7_method_8_code, 2, none, false, q_PWk)
def q_yWk_passMark : MethodName := ⟨"PatternWalk$Walk", "passMark", "(I)V"⟩
def q_mWk_passMark : qM := (prog_7_method_9_code, 2, none, false, q_PWk)
def q_yWk_keepMatch : MethodName := ⟨"PatternWalk$Walk", "keepMatch", "()V"⟩
def q_mWk_keepMatch : qM := (prog_7_method_11_code, 2, none, false, q_PWk)
def q_yWk_setMark : MethodName := ⟨"PatternWalk$Walk", "setMark", "(II)V"⟩
def q_mWk_setMark : qM := (prog_7_method_10_code, 3, none, false, q_PWk)
def q_yWk_step : MethodName := ⟨"PatternWalk$Walk", "step", "(I)V"⟩
def q_mWk_step : qM := (prog_7_method_4_code, 5, none, false, q_PWk)
def q_yWk_standsAt : MethodName := ⟨"PatternWalk$Walk", "standsAt", "(I)Z"⟩
def q_mWk_standsAt : qM := (prog_7_method_13_code, 2, (some .boolean), false, q_PWk)
def q_yWk_foundMark : MethodName := ⟨"PatternWalk$Walk", "foundMark", "(I)I"⟩
def q_mWk_foundMark : qM := (prog_7_method_12_code, 2, (some .int), false, q_PWk)
def q_yWy_init : MethodName := ⟨"PatternWalk$Ways", "<init>", "()V"⟩
def q_mWy_init : qM := (prog_8_method_1_code, 1, none, true, q_PWy)
def q_yWy_add : MethodName := ⟨"PatternWalk$Ways", "add", "(I[I)V"⟩
def q_mWy_add : qM := (prog_8_method_2_code, 4, none, false, q_PWy)
def q_yWy_takeOf : MethodName := ⟨"PatternWalk$Ways", "takeOf", "(I)I"⟩
def q_mWy_takeOf : qM := (prog_8_method_3_code, 2, (some .int), false, q_PWy)
def q_yWy_copyMarks : MethodName := ⟨"PatternWalk$Ways", "copyMarks", "(I[I)V"⟩
def q_mWy_copyMarks : qM := (prog_8_method_4_code, 4, none, false, q_PWy)
def q_yMd_init : MethodName := ⟨"PatternWalkModel", "<init>", "()V"⟩
def q_mMd_init : qM := (prog_10_method_1_code, 1, none, true, q_PMd)
def q_yMd_thrown : MethodName := ⟨"PatternWalkModel", "thrown", "()I"⟩
def q_mMd_thrown : qM := (prog_10_method_2_code, 1, (some .int), false, q_PMd)
def q_yMd_pattern : MethodName := ⟨"PatternWalkModel", "pattern", "(C)Z"⟩
def q_mMd_pattern : qM := (prog_10_method_3_code, 2, (some .boolean), false, q_PMd)
def q_yMd_compile : MethodName := ⟨"PatternWalkModel", "compile", "()I"⟩
def q_mMd_compile : qM := (prog_10_method_27_code, 4, (some .int), false, q_PMd)
def q_yMd_read : MethodName := ⟨"PatternWalkModel", "read", "()Z"⟩
def q_mMd_read : qM := (prog_10_method_19_code, 3, (some .boolean), false, q_PMd)
def q_yMd_node : MethodName := ⟨"PatternWalkModel", "node", "(II)I"⟩
def q_mMd_node : qM := (prog_10_method_8_code, 4, (some .int), false, q_PMd)
def q_yMd_here : MethodName := ⟨"PatternWalkModel", "here", "(I)C"⟩
def q_mMd_here : qM := (prog_10_method_4_code, 2, (some .char), false, q_PMd)
def q_yMd_open : MethodName := ⟨"PatternWalkModel", "open", "(I)Z"⟩
def q_mMd_open : qM := (prog_10_method_18_code, 4, (some .boolean), false, q_PMd)
def q_yMd_readCount : MethodName := ⟨"PatternWalkModel", "readCount", "(I)Z"⟩
def q_mMd_readCount : qM := (prog_10_method_16_code, 3, (some .boolean), false, q_PMd)
def q_yMd_readBraces : MethodName := ⟨"PatternWalkModel", "readBraces", "(I)Z"⟩
def q_mMd_readBraces : qM := (prog_10_method_17_code, 3, (some .boolean), false, q_PMd)
def q_yMd_isDigit : MethodName := ⟨"PatternWalkModel", "isDigit", "(C)Z"⟩
def q_mMd_isDigit : qM := (prog_10_method_5_code, 1, (some .boolean), false, q_PMd)
def q_yMd_readSign : MethodName := ⟨"PatternWalkModel", "readSign", "(I)Z"⟩
def q_mMd_readSign : qM := (prog_10_method_15_code, 5, (some .boolean), false, q_PMd)
def q_yMd_isPlain : MethodName := ⟨"PatternWalkModel", "isPlain", "(C)Z"⟩
def q_mMd_isPlain : qM := (prog_10_method_6_code, 2, (some .boolean), false, q_PMd)
def q_yMd_newSet : MethodName := ⟨"PatternWalkModel", "newSet", "()I"⟩
def q_mMd_newSet : qM := (prog_10_method_9_code, 2, (some .int), false, q_PMd)
def q_yMd_readSet : MethodName := ⟨"PatternWalkModel", "readSet", "(I)Z"⟩
def q_mMd_readSet : qM := (prog_10_method_14_code, 6, (some .boolean), false, q_PMd)
def q_yMd_includeSpecial : MethodName := ⟨"PatternWalkModel", "includeSpecial", "(IC)V"⟩
def q_mMd_includeSpecial : qM := (prog_10_method_11_code, 3, none, false, q_PMd)
def q_yMd_include : MethodName := ⟨"PatternWalkModel", "include", "(III)V"⟩
def q_mMd_include : qM := (prog_10_method_10_code, 5, none, false, q_PMd)
def q_yMd_isItem : MethodName := ⟨"PatternWalkModel", "isItem", "(C)Z"⟩
def q_mMd_isItem : qM := (prog_10_method_7_code, 1, (some .boolean), false, q_PMd)
def q_yMd_widthOf : MethodName := ⟨"PatternWalkModel", "widthOf", "(I)I"⟩
def q_mMd_widthOf : qM := (prog_10_method_20_code, 8, (some .int), false, q_PMd)
def q_yMd_put : MethodName := ⟨"PatternWalkModel", "put", "(IIII)V"⟩
def q_mMd_put : qM := (prog_10_method_21_code, 5, none, false, q_PMd)
def q_yMd_later : MethodName := ⟨"PatternWalkModel", "later", "(II)V"⟩
def q_mMd_later : qM := (prog_10_method_23_code, 3, none, false, q_PMd)
def q_yMd_writeNode : MethodName := ⟨"PatternWalkModel", "writeNode", "(II)V"⟩
def q_mMd_writeNode : qM := (prog_10_method_26_code, 5, none, false, q_PMd)
def q_yMd_writeChoice : MethodName := ⟨"PatternWalkModel", "writeChoice", "(II)V"⟩
def q_mMd_writeChoice : qM := (prog_10_method_24_code, 6, none, false, q_PMd)
def q_yMd_writeRepeat : MethodName := ⟨"PatternWalkModel", "writeRepeat", "(II)V"⟩
def q_mMd_writeRepeat : qM := (prog_10_method_25_code, 11, none, false, q_PMd)
def q_yMd_split : MethodName := ⟨"PatternWalkModel", "split", "(IIIZ)V"⟩
def q_mMd_split : qM := (prog_10_method_22_code, 5, none, false, q_PMd)
def q_yMd_position : MethodName := ⟨"PatternWalkModel", "position", "()I"⟩
def q_mMd_position : qM := (prog_10_method_28_code, 1, (some .int), false, q_PMd)
def q_yMd_clear : MethodName := ⟨"PatternWalkModel", "clear", "()V"⟩
def q_mMd_clear : qM := (prog_10_method_29_code, 1, none, false, q_PMd)
def q_yMd_instruction : MethodName := ⟨"PatternWalkModel", "instruction", "(II)I"⟩
def q_mMd_instruction : qM := (prog_10_method_30_code, 3, (some .int), false, q_PMd)
def q_yMd_many : MethodName := ⟨"PatternWalkModel", "many", "(I)I"⟩
def q_mMd_many : qM := (prog_10_method_13_code, 4, (some .int), false, q_PMd)
def q_yMd_has : MethodName := ⟨"PatternWalkModel", "has", "(II)Z"⟩
def q_mMd_has : qM := (prog_10_method_12_code, 3, (some .boolean), false, q_PMd)
def q_yMd_groups : MethodName := ⟨"PatternWalkModel", "groups", "()I"⟩
def q_mMd_groups : qM := (prog_10_method_31_code, 1, (some .int), false, q_PMd)
def q_yMd_start : MethodName := ⟨"PatternWalkModel", "start", "(Z)Z"⟩
def q_mMd_start : qM := (prog_10_method_32_code, 2, (some .boolean), false, q_PMd)
def q_yMd_feed : MethodName := ⟨"PatternWalkModel", "feed", "(C)Z"⟩
def q_mMd_feed : qM := (prog_10_method_33_code, 2, (some .boolean), false, q_PMd)
def q_yMd_matched : MethodName := ⟨"PatternWalkModel", "matched", "()Z"⟩
def q_mMd_matched : qM := (prog_10_method_44_code, 1, (some .boolean), false, q_PMd)
def q_yMd_work : MethodName := ⟨"PatternWalkModel", "work", "()V"⟩
def q_mMd_work : qM := (prog_10_method_42_code, 6, none, false, q_PMd)
def q_yMd_fill : MethodName := ⟨"PatternWalkModel", "fill", "()V"⟩
def q_mMd_fill : qM := (prog_10_method_38_code, 5, none, false, q_PMd)
def q_yMd_reaches : MethodName := ⟨"PatternWalkModel", "reaches", "(II)Z"⟩
def q_mMd_reaches : qM := (prog_10_method_34_code, 3, (some .boolean), false, q_PMd)
def q_yMd_may : MethodName := ⟨"PatternWalkModel", "may", "(II)Z"⟩
def q_mMd_may : qM := (prog_10_method_37_code, 3, (some .boolean), false, q_PMd)
def q_yMd_takes : MethodName := ⟨"PatternWalkModel", "takes", "(II)Z"⟩
def q_mMd_takes : qM := (prog_10_method_35_code, 3, (some .boolean), false, q_PMd)
def q_yMd_isMatch : MethodName := ⟨"PatternWalkModel", "isMatch", "(I)Z"⟩
def q_mMd_isMatch : qM := (prog_10_method_36_code, 2, (some .boolean), false, q_PMd)
def q_yMd_spread : MethodName := ⟨"PatternWalkModel", "spread", "([ZI)V"⟩
def q_mMd_spread : qM := (prog_10_method_39_code, 4, none, false, q_PMd)
def q_yMd_choose : MethodName := ⟨"PatternWalkModel", "choose", "(II)I"⟩
def q_mMd_choose : qM := (prog_10_method_40_code, 4, (some .int), false, q_PMd)
def q_yMd_setMarks : MethodName := ⟨"PatternWalkModel", "setMarks", "(II)V"⟩
def q_mMd_setMarks : qM := (prog_10_method_41_code, 4, none, false, q_PMd)
def q_yMd_step : MethodName := ⟨"PatternWalkModel", "step", "(I)V"⟩
def q_mMd_step : qM := (prog_10_method_43_code, 3, none, false, q_PMd)
def q_yMd_live : MethodName := ⟨"PatternWalkModel", "live", "()I"⟩
def q_mMd_live : qM := (prog_10_method_45_code, 3, (some .int), false, q_PMd)
def q_yMd_isLive : MethodName := ⟨"PatternWalkModel", "isLive", "(I)Z"⟩
def q_mMd_isLive : qM := (prog_10_method_46_code, 2, (some .boolean), false, q_PMd)
def q_yMd_mark : MethodName := ⟨"PatternWalkModel", "mark", "(I)I"⟩
def q_mMd_mark : qM := (prog_10_method_47_code, 2, (some .int), false, q_PMd)
def q_yMd_fed : MethodName := ⟨"PatternWalkModel", "fed", "()I"⟩
def q_mMd_fed : qM := (prog_10_method_48_code, 1, (some .int), false, q_PMd)
def q_yAr_fill : MethodName := ⟨"java/util/Arrays", "fill", "([II)V"⟩
def q_mAr_fill : qM := (prog_19_method_103_code, 4, none, false, q_PAr)
def q_yAr_fill2 : MethodName := ⟨"java/util/Arrays", "fill", "([JJ)V"⟩
def q_mAr_fill2 : qM := (prog_19_method_101_code, 5, none, false, q_PAr)
def q_yLo_bitCount : MethodName := ⟨"java/lang/Long", "bitCount", "(J)I"⟩
def q_mLo_bitCount : qM := (prog_14_method_50_code, 2, (some .int), false, q_PLo)
def q_all : List (MethodName × qM) := [(q_yPW_init, q_mPW_init), (q_yPW_pattern, q_mPW_pattern), (q_yPW_position, q_mPW_position), (q_yPW_clear, q_mPW_clear), (q_yPW_instruction, q_mPW_instruction), (q_yPW_groups, q_mPW_groups), (q_yPW_start, q_mPW_start), (q_yPW_feed, q_mPW_feed), (q_yPW_matched, q_mPW_matched), (q_yPW_live, q_mPW_live), (q_yPW_isLive, q_mPW_isLive), (q_yPW_mark, q_mPW_mark), (q_yPW_fed, q_mPW_fed), (q_yPW_compile, q_mPW_compile), (q_yCs_init, q_mCs_init), (q_yCs_count, q_mCs_count), (q_yCs_isOpen, q_mCs_isOpen), (q_yCs_has, q_mCs_has), (q_yCs_forgetAll, q_mCs_forgetAll), (q_yCs_open, q_mCs_open), (q_yCs_addRange, q_mCs_addRange), (q_yCs_invert, q_mCs_invert), (q_yPa_init, q_mPa_init), (q_yPa_parse, q_mPa_parse), (q_yPa_readChoice, q_mPa_readChoice), (q_yPa_peek, q_mPa_peek), (q_yPa_readRepeat, q_mPa_readRepeat), (q_yPa_readGroup, q_mPa_readGroup), (q_yPa_fail, q_mPa_fail), (q_yPa_expect, q_mPa_expect), (q_yPa_readCharacters, q_mPa_readCharacters), (q_yPa_readSet, q_mPa_readSet), (q_yPa_readItem, q_mPa_readItem), (q_yPa_readEscaped, q_mPa_readEscaped), (q_yPa_isItem, q_mPa_isItem), (q_yPa_standsForItself, q_mPa_standsForItself), (q_yPa_readCount, q_mPa_readCount), (q_yPa_readBraces, q_mPa_readBraces), (q_yPa_digit, q_mPa_digit), (q_yPa_readMost, q_mPa_readMost), (q_yPr_init, q_mPr_init), (q_yPr_isWritten, q_mPr_isWritten), (q_yPr_erase, q_mPr_erase), (q_yPr_has, q_mPr_has), (q_yPr_kindOf, q_mPr_kindOf), (q_yPr_xOf, q_mPr_xOf), (q_yPr_yOf, q_mPr_yOf), (q_yPr_write, q_mPr_write), (q_yPr_add, q_mPr_add), (q_yPr_writeChoice, q_mPr_writeChoice), (q_yPr_writeRepeat, q_mPr_writeRepeat), (q_yPr_writeAtom, q_mPr_writeAtom), (q_yPr_addSplit, q_mPr_addSplit), (q_yRp_init, q_mRp_init), (q_yRp_size, q_mRp_size), (q_yRw_init, q_mRw_init), (q_yRw_sizeAsChoice, q_mRw_sizeAsChoice), (q_yRw_append, q_mRw_append), (q_yWk_init, q_mWk_init), (q_yWk_end, q_mWk_end), (q_yWk_begin, q_mWk_begin), (q_yWk_followFromStart, q_mWk_followFromStart), (q_yWk_follow, q_mWk_follow), (q_yWk_push, q_mWk_push), (q_yWk_visit, q_mWk_visit), (q_yWk_passMark, q_mWk_passMark), (q_yWk_keepMatch, q_mWk_keepMatch), (q_yWk_setMark, q_mWk_setMark), (q_yWk_step, q_mWk_step), (q_yWk_standsAt, q_mWk_standsAt), (q_yWk_foundMark, q_mWk_foundMark), (q_yWy_init, q_mWy_init), (q_yWy_add, q_mWy_add), (q_yWy_takeOf, q_mWy_takeOf), (q_yWy_copyMarks, q_mWy_copyMarks), (q_yMd_init, q_mMd_init), (q_yMd_thrown, q_mMd_thrown), (q_yMd_pattern, q_mMd_pattern), (q_yMd_compile, q_mMd_compile), (q_yMd_read, q_mMd_read), (q_yMd_node, q_mMd_node), (q_yMd_here, q_mMd_here), (q_yMd_open, q_mMd_open), (q_yMd_readCount, q_mMd_readCount), (q_yMd_readBraces, q_mMd_readBraces), (q_yMd_isDigit, q_mMd_isDigit), (q_yMd_readSign, q_mMd_readSign), (q_yMd_isPlain, q_mMd_isPlain), (q_yMd_newSet, q_mMd_newSet), (q_yMd_readSet, q_mMd_readSet), (q_yMd_includeSpecial, q_mMd_includeSpecial), (q_yMd_include, q_mMd_include), (q_yMd_isItem, q_mMd_isItem), (q_yMd_widthOf, q_mMd_widthOf), (q_yMd_put, q_mMd_put), (q_yMd_later, q_mMd_later), (q_yMd_writeNode, q_mMd_writeNode), (q_yMd_writeChoice, q_mMd_writeChoice), (q_yMd_writeRepeat, q_mMd_writeRepeat), (q_yMd_split, q_mMd_split), (q_yMd_position, q_mMd_position), (q_yMd_clear, q_mMd_clear), (q_yMd_instruction, q_mMd_instruction), (q_yMd_many, q_mMd_many), (q_yMd_has, q_mMd_has), (q_yMd_groups, q_mMd_groups), (q_yMd_start, q_mMd_start), (q_yMd_feed, q_mMd_feed), (q_yMd_matched, q_mMd_matched), (q_yMd_work, q_mMd_work), (q_yMd_fill, q_mMd_fill), (q_yMd_reaches, q_mMd_reaches), (q_yMd_may, q_mMd_may), (q_yMd_takes, q_mMd_takes), (q_yMd_isMatch, q_mMd_isMatch), (q_yMd_spread, q_mMd_spread), (q_yMd_choose, q_mMd_choose), (q_yMd_setMarks, q_mMd_setMarks), (q_yMd_step, q_mMd_step), (q_yMd_live, q_mMd_live), (q_yMd_isLive, q_mMd_isLive), (q_yMd_mark, q_mMd_mark), (q_yMd_fed, q_mMd_fed), (q_yAr_fill, q_mAr_fill), (q_yAr_fill2, q_mAr_fill2), (q_yLo_bitCount, q_mLo_bitCount)]
def q_yn (z : Nat) : MethodName := (q_all.getD z (q_yPW_init, q_mPW_init)).1
def q_Mt (z : Nat) : Option qM := (q_all[z]?).map (fun e => e.2)
theorem q_Mt_PW_init : q_Mt 0 = some q_mPW_init := rfl
theorem q_Mt_PW_pattern : q_Mt 1 = some q_mPW_pattern := rfl
theorem q_Mt_PW_position : q_Mt 2 = some q_mPW_position := rfl
theorem q_Mt_PW_clear : q_Mt 3 = some q_mPW_clear := rfl
theorem q_Mt_PW_instruction : q_Mt 4 = some q_mPW_instruction := rfl
theorem q_Mt_PW_groups : q_Mt 5 = some q_mPW_groups := rfl
theorem q_Mt_PW_start : q_Mt 6 = some q_mPW_start := rfl
theorem q_Mt_PW_feed : q_Mt 7 = some q_mPW_feed := rfl
theorem q_Mt_PW_matched : q_Mt 8 = some q_mPW_matched := rfl
theorem q_Mt_PW_live : q_Mt 9 = some q_mPW_live := rfl
theorem q_Mt_PW_isLive : q_Mt 10 = some q_mPW_isLive := rfl
theorem q_Mt_PW_mark : q_Mt 11 = some q_mPW_mark := rfl
theorem q_Mt_PW_fed : q_Mt 12 = some q_mPW_fed := rfl
theorem q_Mt_PW_compile : q_Mt 13 = some q_mPW_compile := rfl
theorem q_Mt_Cs_init : q_Mt 14 = some q_mCs_init := rfl
theorem q_Mt_Cs_count : q_Mt 15 = some q_mCs_count := rfl
theorem q_Mt_Cs_isOpen : q_Mt 16 = some q_mCs_isOpen := rfl
theorem q_Mt_Cs_has : q_Mt 17 = some q_mCs_has := rfl
theorem q_Mt_Cs_forgetAll : q_Mt 18 = some q_mCs_forgetAll := rfl
theorem q_Mt_Cs_open : q_Mt 19 = some q_mCs_open := rfl
theorem q_Mt_Cs_addRange : q_Mt 20 = some q_mCs_addRange := rfl
theorem q_Mt_Cs_invert : q_Mt 21 = some q_mCs_invert := rfl
theorem q_Mt_Pa_init : q_Mt 22 = some q_mPa_init := rfl
theorem q_Mt_Pa_parse : q_Mt 23 = some q_mPa_parse := rfl
theorem q_Mt_Pa_readChoice : q_Mt 24 = some q_mPa_readChoice := rfl
theorem q_Mt_Pa_peek : q_Mt 25 = some q_mPa_peek := rfl
theorem q_Mt_Pa_readRepeat : q_Mt 26 = some q_mPa_readRepeat := rfl
theorem q_Mt_Pa_readGroup : q_Mt 27 = some q_mPa_readGroup := rfl
theorem q_Mt_Pa_fail : q_Mt 28 = some q_mPa_fail := rfl
theorem q_Mt_Pa_expect : q_Mt 29 = some q_mPa_expect := rfl
theorem q_Mt_Pa_readCharacters : q_Mt 30 = some q_mPa_readCharacters := rfl
theorem q_Mt_Pa_readSet : q_Mt 31 = some q_mPa_readSet := rfl
theorem q_Mt_Pa_readItem : q_Mt 32 = some q_mPa_readItem := rfl
theorem q_Mt_Pa_readEscaped : q_Mt 33 = some q_mPa_readEscaped := rfl
theorem q_Mt_Pa_isItem : q_Mt 34 = some q_mPa_isItem := rfl
theorem q_Mt_Pa_standsForItself : q_Mt 35 = some q_mPa_standsForItself := rfl
theorem q_Mt_Pa_readCount : q_Mt 36 = some q_mPa_readCount := rfl
theorem q_Mt_Pa_readBraces : q_Mt 37 = some q_mPa_readBraces := rfl
theorem q_Mt_Pa_digit : q_Mt 38 = some q_mPa_digit := rfl
theorem q_Mt_Pa_readMost : q_Mt 39 = some q_mPa_readMost := rfl
theorem q_Mt_Pr_init : q_Mt 40 = some q_mPr_init := rfl
theorem q_Mt_Pr_isWritten : q_Mt 41 = some q_mPr_isWritten := rfl
theorem q_Mt_Pr_erase : q_Mt 42 = some q_mPr_erase := rfl
theorem q_Mt_Pr_has : q_Mt 43 = some q_mPr_has := rfl
theorem q_Mt_Pr_kindOf : q_Mt 44 = some q_mPr_kindOf := rfl
theorem q_Mt_Pr_xOf : q_Mt 45 = some q_mPr_xOf := rfl
theorem q_Mt_Pr_yOf : q_Mt 46 = some q_mPr_yOf := rfl
theorem q_Mt_Pr_write : q_Mt 47 = some q_mPr_write := rfl
theorem q_Mt_Pr_add : q_Mt 48 = some q_mPr_add := rfl
theorem q_Mt_Pr_writeChoice : q_Mt 49 = some q_mPr_writeChoice := rfl
theorem q_Mt_Pr_writeRepeat : q_Mt 50 = some q_mPr_writeRepeat := rfl
theorem q_Mt_Pr_writeAtom : q_Mt 51 = some q_mPr_writeAtom := rfl
theorem q_Mt_Pr_addSplit : q_Mt 52 = some q_mPr_addSplit := rfl
theorem q_Mt_Rp_init : q_Mt 53 = some q_mRp_init := rfl
theorem q_Mt_Rp_size : q_Mt 54 = some q_mRp_size := rfl
theorem q_Mt_Rw_init : q_Mt 55 = some q_mRw_init := rfl
theorem q_Mt_Rw_sizeAsChoice : q_Mt 56 = some q_mRw_sizeAsChoice := rfl
theorem q_Mt_Rw_append : q_Mt 57 = some q_mRw_append := rfl
theorem q_Mt_Wk_init : q_Mt 58 = some q_mWk_init := rfl
theorem q_Mt_Wk_end : q_Mt 59 = some q_mWk_end := rfl
theorem q_Mt_Wk_begin : q_Mt 60 = some q_mWk_begin := rfl
theorem q_Mt_Wk_followFromStart : q_Mt 61 = some q_mWk_followFromStart := rfl
theorem q_Mt_Wk_follow : q_Mt 62 = some q_mWk_follow := rfl
theorem q_Mt_Wk_push : q_Mt 63 = some q_mWk_push := rfl
theorem q_Mt_Wk_visit : q_Mt 64 = some q_mWk_visit := rfl
theorem q_Mt_Wk_passMark : q_Mt 65 = some q_mWk_passMark := rfl
theorem q_Mt_Wk_keepMatch : q_Mt 66 = some q_mWk_keepMatch := rfl
theorem q_Mt_Wk_setMark : q_Mt 67 = some q_mWk_setMark := rfl
theorem q_Mt_Wk_step : q_Mt 68 = some q_mWk_step := rfl
theorem q_Mt_Wk_standsAt : q_Mt 69 = some q_mWk_standsAt := rfl
theorem q_Mt_Wk_foundMark : q_Mt 70 = some q_mWk_foundMark := rfl
theorem q_Mt_Wy_init : q_Mt 71 = some q_mWy_init := rfl
theorem q_Mt_Wy_add : q_Mt 72 = some q_mWy_add := rfl
theorem q_Mt_Wy_takeOf : q_Mt 73 = some q_mWy_takeOf := rfl
theorem q_Mt_Wy_copyMarks : q_Mt 74 = some q_mWy_copyMarks := rfl
theorem q_Mt_Md_init : q_Mt 75 = some q_mMd_init := rfl
theorem q_Mt_Md_thrown : q_Mt 76 = some q_mMd_thrown := rfl
theorem q_Mt_Md_pattern : q_Mt 77 = some q_mMd_pattern := rfl
theorem q_Mt_Md_compile : q_Mt 78 = some q_mMd_compile := rfl
theorem q_Mt_Md_read : q_Mt 79 = some q_mMd_read := rfl
theorem q_Mt_Md_node : q_Mt 80 = some q_mMd_node := rfl
theorem q_Mt_Md_here : q_Mt 81 = some q_mMd_here := rfl
theorem q_Mt_Md_open : q_Mt 82 = some q_mMd_open := rfl
theorem q_Mt_Md_readCount : q_Mt 83 = some q_mMd_readCount := rfl
theorem q_Mt_Md_readBraces : q_Mt 84 = some q_mMd_readBraces := rfl
theorem q_Mt_Md_isDigit : q_Mt 85 = some q_mMd_isDigit := rfl
theorem q_Mt_Md_readSign : q_Mt 86 = some q_mMd_readSign := rfl
theorem q_Mt_Md_isPlain : q_Mt 87 = some q_mMd_isPlain := rfl
theorem q_Mt_Md_newSet : q_Mt 88 = some q_mMd_newSet := rfl
theorem q_Mt_Md_readSet : q_Mt 89 = some q_mMd_readSet := rfl
theorem q_Mt_Md_includeSpecial : q_Mt 90 = some q_mMd_includeSpecial := rfl
theorem q_Mt_Md_include : q_Mt 91 = some q_mMd_include := rfl
theorem q_Mt_Md_isItem : q_Mt 92 = some q_mMd_isItem := rfl
theorem q_Mt_Md_widthOf : q_Mt 93 = some q_mMd_widthOf := rfl
theorem q_Mt_Md_put : q_Mt 94 = some q_mMd_put := rfl
theorem q_Mt_Md_later : q_Mt 95 = some q_mMd_later := rfl
theorem q_Mt_Md_writeNode : q_Mt 96 = some q_mMd_writeNode := rfl
theorem q_Mt_Md_writeChoice : q_Mt 97 = some q_mMd_writeChoice := rfl
theorem q_Mt_Md_writeRepeat : q_Mt 98 = some q_mMd_writeRepeat := rfl
theorem q_Mt_Md_split : q_Mt 99 = some q_mMd_split := rfl
theorem q_Mt_Md_position : q_Mt 100 = some q_mMd_position := rfl
theorem q_Mt_Md_clear : q_Mt 101 = some q_mMd_clear := rfl
theorem q_Mt_Md_instruction : q_Mt 102 = some q_mMd_instruction := rfl
theorem q_Mt_Md_many : q_Mt 103 = some q_mMd_many := rfl
theorem q_Mt_Md_has : q_Mt 104 = some q_mMd_has := rfl
theorem q_Mt_Md_groups : q_Mt 105 = some q_mMd_groups := rfl
theorem q_Mt_Md_start : q_Mt 106 = some q_mMd_start := rfl
theorem q_Mt_Md_feed : q_Mt 107 = some q_mMd_feed := rfl
theorem q_Mt_Md_matched : q_Mt 108 = some q_mMd_matched := rfl
theorem q_Mt_Md_work : q_Mt 109 = some q_mMd_work := rfl
theorem q_Mt_Md_fill : q_Mt 110 = some q_mMd_fill := rfl
theorem q_Mt_Md_reaches : q_Mt 111 = some q_mMd_reaches := rfl
theorem q_Mt_Md_may : q_Mt 112 = some q_mMd_may := rfl
theorem q_Mt_Md_takes : q_Mt 113 = some q_mMd_takes := rfl
theorem q_Mt_Md_isMatch : q_Mt 114 = some q_mMd_isMatch := rfl
theorem q_Mt_Md_spread : q_Mt 115 = some q_mMd_spread := rfl
theorem q_Mt_Md_choose : q_Mt 116 = some q_mMd_choose := rfl
theorem q_Mt_Md_setMarks : q_Mt 117 = some q_mMd_setMarks := rfl
theorem q_Mt_Md_step : q_Mt 118 = some q_mMd_step := rfl
theorem q_Mt_Md_live : q_Mt 119 = some q_mMd_live := rfl
theorem q_Mt_Md_isLive : q_Mt 120 = some q_mMd_isLive := rfl
theorem q_Mt_Md_mark : q_Mt 121 = some q_mMd_mark := rfl
theorem q_Mt_Md_fed : q_Mt 122 = some q_mMd_fed := rfl
theorem q_Mt_Ar_fill : q_Mt 123 = some q_mAr_fill := rfl
theorem q_Mt_Ar_fill2 : q_Mt 124 = some q_mAr_fill2 := rfl
theorem q_Mt_Lo_bitCount : q_Mt 125 = some q_mLo_bitCount := rfl
def q_Ns : List Cond := lw_tbl.filter q_isN
theorem q_Ns_isN : ∀ w ∈ q_Ns, q_isN w = true := fun w hw => (List.mem_filter.mp hw).2
theorem q_inN (i : Nat) {w : Cond} (h : lw_tbl[i]? = some w) (hg : q_isN w = true) : w ∈ q_Ns := List.mem_filter.mpr ⟨List.mem_of_getElem? h, hg⟩
end
section
/-! printed by wip/tools/mk_tables.py: what the words say of the pools -/
theorem q_lPW_0 : u_lay "PatternWalk" q_TPW 0 ∈ q_Ts := q_in 231 (by decide +kernel) (by decide +kernel)
theorem q_lPW_1 : u_lay "PatternWalk" q_TPW 1 ∈ q_Ts := q_in 233 (by decide +kernel) (by decide +kernel)
theorem q_lPW_2 : u_lay "PatternWalk" q_TPW 2 ∈ q_Ts := q_in 235 (by decide +kernel) (by decide +kernel)
theorem q_lPW_3 : u_lay "PatternWalk" q_TPW 3 ∈ q_Ts := q_in 237 (by decide +kernel) (by decide +kernel)
theorem q_lPW_4 : u_lay "PatternWalk" q_TPW 4 ∈ q_Ts := q_in 239 (by decide +kernel) (by decide +kernel)
theorem q_lPW_5 : u_lay "PatternWalk" q_TPW 5 ∈ q_Ts := q_in 241 (by decide +kernel) (by decide +kernel)
theorem q_lPW_6 : u_lay "PatternWalk" q_TPW 6 ∈ q_Ts := q_in 243 (by decide +kernel) (by decide +kernel)
theorem q_wPW : ∀ w ∈ u_ws "PatternWalk" q_TPW 7, w ∈ q_Ts := by
  intro w hw
  obtain ⟨k, hk, rfl⟩ := List.mem_map.mp hw
  have hk := List.mem_range.mp hk
  match k, hk with
  | 0, _ => exact q_lPW_0
  | 1, _ => exact q_lPW_1
  | 2, _ => exact q_lPW_2
  | 3, _ => exact q_lPW_3
  | 4, _ => exact q_lPW_4
  | 5, _ => exact q_lPW_5
  | 6, _ => exact q_lPW_6
  | k + 7, hk => exact absurd hk (by omega)
theorem q_tPW : ∀ k, k < 7 → parseFieldDescriptor (q_TPW k).2.2.1 = some (q_YPW k) := by decide +kernel
theorem q_nPW : ∀ a, a < 7 → ∀ b, b < 7 → a ≠ b → (q_TPW a).2.1 ≠ (q_TPW b).2.1 := by decide +kernel
theorem q_lCs_0 : u_lay "PatternWalk$CharSets" q_TCs 0 ∈ q_Ts := q_in 91 (by decide +kernel) (by decide +kernel)
theorem q_lCs_1 : u_lay "PatternWalk$CharSets" q_TCs 1 ∈ q_Ts := q_in 93 (by decide +kernel) (by decide +kernel)
theorem q_wCs : ∀ w ∈ u_ws "PatternWalk$CharSets" q_TCs 2, w ∈ q_Ts := by
  intro w hw
  obtain ⟨k, hk, rfl⟩ := List.mem_map.mp hw
  have hk := List.mem_range.mp hk
  match k, hk with
  | 0, _ => exact q_lCs_0
  | 1, _ => exact q_lCs_1
  | k + 2, hk => exact absurd hk (by omega)
theorem q_tCs : ∀ k, k < 2 → parseFieldDescriptor (q_TCs k).2.2.1 = some (q_YCs k) := by decide +kernel
theorem q_nCs : ∀ a, a < 2 → ∀ b, b < 2 → a ≠ b → (q_TCs a).2.1 ≠ (q_TCs b).2.1 := by decide +kernel
theorem q_lPa_0 : u_lay "PatternWalk$Parser" q_TPa 0 ∈ q_Ts := q_in 112 (by decide +kernel) (by decide +kernel)
theorem q_lPa_1 : u_lay "PatternWalk$Parser" q_TPa 1 ∈ q_Ts := q_in 114 (by decide +kernel) (by decide +kernel)
theorem q_lPa_2 : u_lay "PatternWalk$Parser" q_TPa 2 ∈ q_Ts := q_in 116 (by decide +kernel) (by decide +kernel)
theorem q_lPa_3 : u_lay "PatternWalk$Parser" q_TPa 3 ∈ q_Ts := q_in 118 (by decide +kernel) (by decide +kernel)
theorem q_lPa_4 : u_lay "PatternWalk$Parser" q_TPa 4 ∈ q_Ts := q_in 120 (by decide +kernel) (by decide +kernel)
theorem q_lPa_5 : u_lay "PatternWalk$Parser" q_TPa 5 ∈ q_Ts := q_in 122 (by decide +kernel) (by decide +kernel)
theorem q_wPa : ∀ w ∈ u_ws "PatternWalk$Parser" q_TPa 6, w ∈ q_Ts := by
  intro w hw
  obtain ⟨k, hk, rfl⟩ := List.mem_map.mp hw
  have hk := List.mem_range.mp hk
  match k, hk with
  | 0, _ => exact q_lPa_0
  | 1, _ => exact q_lPa_1
  | 2, _ => exact q_lPa_2
  | 3, _ => exact q_lPa_3
  | 4, _ => exact q_lPa_4
  | 5, _ => exact q_lPa_5
  | k + 6, hk => exact absurd hk (by omega)
theorem q_tPa : ∀ k, k < 6 → parseFieldDescriptor (q_TPa k).2.2.1 = some (q_YPa k) := by decide +kernel
theorem q_nPa : ∀ a, a < 6 → ∀ b, b < 6 → a ≠ b → (q_TPa a).2.1 ≠ (q_TPa b).2.1 := by decide +kernel
theorem q_lPr_0 : u_lay "PatternWalk$Program" q_TPr 0 ∈ q_Ts := q_in 138 (by decide +kernel) (by decide +kernel)
theorem q_lPr_1 : u_lay "PatternWalk$Program" q_TPr 1 ∈ q_Ts := q_in 140 (by decide +kernel) (by decide +kernel)
theorem q_lPr_2 : u_lay "PatternWalk$Program" q_TPr 2 ∈ q_Ts := q_in 142 (by decide +kernel) (by decide +kernel)
theorem q_lPr_3 : u_lay "PatternWalk$Program" q_TPr 3 ∈ q_Ts := q_in 144 (by decide +kernel) (by decide +kernel)
theorem q_lPr_4 : u_lay "PatternWalk$Program" q_TPr 4 ∈ q_Ts := q_in 146 (by decide +kernel) (by decide +kernel)
theorem q_wPr : ∀ w ∈ u_ws "PatternWalk$Program" q_TPr 5, w ∈ q_Ts := by
  intro w hw
  obtain ⟨k, hk, rfl⟩ := List.mem_map.mp hw
  have hk := List.mem_range.mp hk
  match k, hk with
  | 0, _ => exact q_lPr_0
  | 1, _ => exact q_lPr_1
  | 2, _ => exact q_lPr_2
  | 3, _ => exact q_lPr_3
  | 4, _ => exact q_lPr_4
  | k + 5, hk => exact absurd hk (by omega)
theorem q_tPr : ∀ k, k < 5 → parseFieldDescriptor (q_TPr k).2.2.1 = some (q_YPr k) := by decide +kernel
theorem q_nPr : ∀ a, a < 5 → ∀ b, b < 5 → a ≠ b → (q_TPr a).2.1 ≠ (q_TPr b).2.1 := by decide +kernel
theorem q_lRp_0 : u_lay "PatternWalk$Repeat" q_TRp 0 ∈ q_Ts := q_in 565 (by decide +kernel) (by decide +kernel)
theorem q_lRp_1 : u_lay "PatternWalk$Repeat" q_TRp 1 ∈ q_Ts := q_in 567 (by decide +kernel) (by decide +kernel)
theorem q_lRp_2 : u_lay "PatternWalk$Repeat" q_TRp 2 ∈ q_Ts := q_in 569 (by decide +kernel) (by decide +kernel)
theorem q_lRp_3 : u_lay "PatternWalk$Repeat" q_TRp 3 ∈ q_Ts := q_in 571 (by decide +kernel) (by decide +kernel)
theorem q_lRp_4 : u_lay "PatternWalk$Repeat" q_TRp 4 ∈ q_Ts := q_in 573 (by decide +kernel) (by decide +kernel)
theorem q_lRp_5 : u_lay "PatternWalk$Repeat" q_TRp 5 ∈ q_Ts := q_in 575 (by decide +kernel) (by decide +kernel)
theorem q_lRp_6 : u_lay "PatternWalk$Repeat" q_TRp 6 ∈ q_Ts := q_in 577 (by decide +kernel) (by decide +kernel)
theorem q_lRp_7 : u_lay "PatternWalk$Repeat" q_TRp 7 ∈ q_Ts := q_in 579 (by decide +kernel) (by decide +kernel)
theorem q_lRp_8 : u_lay "PatternWalk$Repeat" q_TRp 8 ∈ q_Ts := q_in 581 (by decide +kernel) (by decide +kernel)
theorem q_lRp_9 : u_lay "PatternWalk$Repeat" q_TRp 9 ∈ q_Ts := q_in 583 (by decide +kernel) (by decide +kernel)
theorem q_wRp : ∀ w ∈ u_ws "PatternWalk$Repeat" q_TRp 10, w ∈ q_Ts := by
  intro w hw
  obtain ⟨k, hk, rfl⟩ := List.mem_map.mp hw
  have hk := List.mem_range.mp hk
  match k, hk with
  | 0, _ => exact q_lRp_0
  | 1, _ => exact q_lRp_1
  | 2, _ => exact q_lRp_2
  | 3, _ => exact q_lRp_3
  | 4, _ => exact q_lRp_4
  | 5, _ => exact q_lRp_5
  | 6, _ => exact q_lRp_6
  | 7, _ => exact q_lRp_7
  | 8, _ => exact q_lRp_8
  | 9, _ => exact q_lRp_9
  | k + 10, hk => exact absurd hk (by omega)
theorem q_tRp : ∀ k, k < 10 → parseFieldDescriptor (q_TRp k).2.2.1 = some (q_YRp k) := by decide +kernel
theorem q_nRp : ∀ a, a < 10 → ∀ b, b < 10 → a ≠ b → (q_TRp a).2.1 ≠ (q_TRp b).2.1 := by decide +kernel
theorem q_lRw_0 : u_lay "PatternWalk$Row" q_TRw 0 ∈ q_Ts := q_in 512 (by decide +kernel) (by decide +kernel)
theorem q_lRw_1 : u_lay "PatternWalk$Row" q_TRw 1 ∈ q_Ts := q_in 514 (by decide +kernel) (by decide +kernel)
theorem q_lRw_2 : u_lay "PatternWalk$Row" q_TRw 2 ∈ q_Ts := q_in 516 (by decide +kernel) (by decide +kernel)
theorem q_lRw_3 : u_lay "PatternWalk$Row" q_TRw 3 ∈ q_Ts := q_in 518 (by decide +kernel) (by decide +kernel)
theorem q_wRw : ∀ w ∈ u_ws "PatternWalk$Row" q_TRw 4, w ∈ q_Ts := by
  intro w hw
  obtain ⟨k, hk, rfl⟩ := List.mem_map.mp hw
  have hk := List.mem_range.mp hk
  match k, hk with
  | 0, _ => exact q_lRw_0
  | 1, _ => exact q_lRw_1
  | 2, _ => exact q_lRw_2
  | 3, _ => exact q_lRw_3
  | k + 4, hk => exact absurd hk (by omega)
theorem q_tRw : ∀ k, k < 4 → parseFieldDescriptor (q_TRw k).2.2.1 = some (q_YRw k) := by decide +kernel
theorem q_nRw : ∀ a, a < 4 → ∀ b, b < 4 → a ≠ b → (q_TRw a).2.1 ≠ (q_TRw b).2.1 := by decide +kernel
theorem q_lWk_0 : u_lay "PatternWalk$Walk" q_TWk 0 ∈ q_Ts := q_in 193 (by decide +kernel) (by decide +kernel)
theorem q_lWk_1 : u_lay "PatternWalk$Walk" q_TWk 1 ∈ q_Ts := q_in 195 (by decide +kernel) (by decide +kernel)
theorem q_lWk_2 : u_lay "PatternWalk$Walk" q_TWk 2 ∈ q_Ts := q_in 197 (by decide +kernel) (by decide +kernel)
theorem q_lWk_3 : u_lay "PatternWalk$Walk" q_TWk 3 ∈ q_Ts := q_in 199 (by decide +kernel) (by decide +kernel)
theorem q_lWk_4 : u_lay "PatternWalk$Walk" q_TWk 4 ∈ q_Ts := q_in 201 (by decide +kernel) (by decide +kernel)
theorem q_lWk_5 : u_lay "PatternWalk$Walk" q_TWk 5 ∈ q_Ts := q_in 203 (by decide +kernel) (by decide +kernel)
theorem q_lWk_6 : u_lay "PatternWalk$Walk" q_TWk 6 ∈ q_Ts := q_in 205 (by decide +kernel) (by decide +kernel)
theorem q_lWk_7 : u_lay "PatternWalk$Walk" q_TWk 7 ∈ q_Ts := q_in 207 (by decide +kernel) (by decide +kernel)
theorem q_lWk_8 : u_lay "PatternWalk$Walk" q_TWk 8 ∈ q_Ts := q_in 209 (by decide +kernel) (by decide +kernel)
theorem q_lWk_9 : u_lay "PatternWalk$Walk" q_TWk 9 ∈ q_Ts := q_in 211 (by decide +kernel) (by decide +kernel)
theorem q_lWk_10 : u_lay "PatternWalk$Walk" q_TWk 10 ∈ q_Ts := q_in 213 (by decide +kernel) (by decide +kernel)
theorem q_lWk_11 : u_lay "PatternWalk$Walk" q_TWk 11 ∈ q_Ts := q_in 215 (by decide +kernel) (by decide +kernel)
theorem q_lWk_12 : u_lay "PatternWalk$Walk" q_TWk 12 ∈ q_Ts := q_in 217 (by decide +kernel) (by decide +kernel)
theorem q_lWk_13 : u_lay "PatternWalk$Walk" q_TWk 13 ∈ q_Ts := q_in 219 (by decide +kernel) (by decide +kernel)
theorem q_lWk_14 : u_lay "PatternWalk$Walk" q_TWk 14 ∈ q_Ts := q_in 221 (by decide +kernel) (by decide +kernel)
theorem q_wWk : ∀ w ∈ u_ws "PatternWalk$Walk" q_TWk 15, w ∈ q_Ts := by
  intro w hw
  obtain ⟨k, hk, rfl⟩ := List.mem_map.mp hw
  have hk := List.mem_range.mp hk
  match k, hk with
  | 0, _ => exact q_lWk_0
  | 1, _ => exact q_lWk_1
  | 2, _ => exact q_lWk_2
  | 3, _ => exact q_lWk_3
  | 4, _ => exact q_lWk_4
  | 5, _ => exact q_lWk_5
  | 6, _ => exact q_lWk_6
  | 7, _ => exact q_lWk_7
  | 8, _ => exact q_lWk_8
  | 9, _ => exact q_lWk_9
  | 10, _ => exact q_lWk_10
  | 11, _ => exact q_lWk_11
  | 12, _ => exact q_lWk_12
  | 13, _ => exact q_lWk_13
  | 14, _ => exact q_lWk_14
  | k + 15, hk => exact absurd hk (by omega)
theorem q_tWk : ∀ k, k < 15 → parseFieldDescriptor (q_TWk k).2.2.1 = some (q_YWk k) := by decide +kernel
theorem q_nWk : ∀ a, a < 15 → ∀ b, b < 15 → a ≠ b → (q_TWk a).2.1 ≠ (q_TWk b).2.1 := by decide +kernel
theorem q_lWy_0 : u_lay "PatternWalk$Ways" q_TWy 0 ∈ q_Ts := q_in 167 (by decide +kernel) (by decide +kernel)
theorem q_lWy_1 : u_lay "PatternWalk$Ways" q_TWy 1 ∈ q_Ts := q_in 169 (by decide +kernel) (by decide +kernel)
theorem q_lWy_2 : u_lay "PatternWalk$Ways" q_TWy 2 ∈ q_Ts := q_in 171 (by decide +kernel) (by decide +kernel)
theorem q_wWy : ∀ w ∈ u_ws "PatternWalk$Ways" q_TWy 3, w ∈ q_Ts := by
  intro w hw
  obtain ⟨k, hk, rfl⟩ := List.mem_map.mp hw
  have hk := List.mem_range.mp hk
  match k, hk with
  | 0, _ => exact q_lWy_0
  | 1, _ => exact q_lWy_1
  | 2, _ => exact q_lWy_2
  | k + 3, hk => exact absurd hk (by omega)
theorem q_tWy : ∀ k, k < 3 → parseFieldDescriptor (q_TWy k).2.2.1 = some (q_YWy k) := by decide +kernel
theorem q_nWy : ∀ a, a < 3 → ∀ b, b < 3 → a ≠ b → (q_TWy a).2.1 ≠ (q_TWy b).2.1 := by decide +kernel
theorem q_lMd_0 : u_lay "PatternWalkModel" q_TMd 0 ∈ q_Ts := q_in 759 (by decide +kernel) (by decide +kernel)
theorem q_lMd_1 : u_lay "PatternWalkModel" q_TMd 1 ∈ q_Ts := q_in 761 (by decide +kernel) (by decide +kernel)
theorem q_lMd_2 : u_lay "PatternWalkModel" q_TMd 2 ∈ q_Ts := q_in 763 (by decide +kernel) (by decide +kernel)
theorem q_lMd_3 : u_lay "PatternWalkModel" q_TMd 3 ∈ q_Ts := q_in 765 (by decide +kernel) (by decide +kernel)
theorem q_lMd_4 : u_lay "PatternWalkModel" q_TMd 4 ∈ q_Ts := q_in 767 (by decide +kernel) (by decide +kernel)
theorem q_lMd_5 : u_lay "PatternWalkModel" q_TMd 5 ∈ q_Ts := q_in 769 (by decide +kernel) (by decide +kernel)
theorem q_lMd_6 : u_lay "PatternWalkModel" q_TMd 6 ∈ q_Ts := q_in 771 (by decide +kernel) (by decide +kernel)
theorem q_lMd_7 : u_lay "PatternWalkModel" q_TMd 7 ∈ q_Ts := q_in 773 (by decide +kernel) (by decide +kernel)
theorem q_lMd_8 : u_lay "PatternWalkModel" q_TMd 8 ∈ q_Ts := q_in 775 (by decide +kernel) (by decide +kernel)
theorem q_lMd_9 : u_lay "PatternWalkModel" q_TMd 9 ∈ q_Ts := q_in 777 (by decide +kernel) (by decide +kernel)
theorem q_lMd_10 : u_lay "PatternWalkModel" q_TMd 10 ∈ q_Ts := q_in 779 (by decide +kernel) (by decide +kernel)
theorem q_lMd_11 : u_lay "PatternWalkModel" q_TMd 11 ∈ q_Ts := q_in 781 (by decide +kernel) (by decide +kernel)
theorem q_lMd_12 : u_lay "PatternWalkModel" q_TMd 12 ∈ q_Ts := q_in 783 (by decide +kernel) (by decide +kernel)
theorem q_lMd_13 : u_lay "PatternWalkModel" q_TMd 13 ∈ q_Ts := q_in 785 (by decide +kernel) (by decide +kernel)
theorem q_lMd_14 : u_lay "PatternWalkModel" q_TMd 14 ∈ q_Ts := q_in 787 (by decide +kernel) (by decide +kernel)
theorem q_lMd_15 : u_lay "PatternWalkModel" q_TMd 15 ∈ q_Ts := q_in 789 (by decide +kernel) (by decide +kernel)
theorem q_lMd_16 : u_lay "PatternWalkModel" q_TMd 16 ∈ q_Ts := q_in 791 (by decide +kernel) (by decide +kernel)
theorem q_lMd_17 : u_lay "PatternWalkModel" q_TMd 17 ∈ q_Ts := q_in 793 (by decide +kernel) (by decide +kernel)
theorem q_lMd_18 : u_lay "PatternWalkModel" q_TMd 18 ∈ q_Ts := q_in 795 (by decide +kernel) (by decide +kernel)
theorem q_lMd_19 : u_lay "PatternWalkModel" q_TMd 19 ∈ q_Ts := q_in 797 (by decide +kernel) (by decide +kernel)
theorem q_lMd_20 : u_lay "PatternWalkModel" q_TMd 20 ∈ q_Ts := q_in 799 (by decide +kernel) (by decide +kernel)
theorem q_lMd_21 : u_lay "PatternWalkModel" q_TMd 21 ∈ q_Ts := q_in 801 (by decide +kernel) (by decide +kernel)
theorem q_lMd_22 : u_lay "PatternWalkModel" q_TMd 22 ∈ q_Ts := q_in 803 (by decide +kernel) (by decide +kernel)
theorem q_lMd_23 : u_lay "PatternWalkModel" q_TMd 23 ∈ q_Ts := q_in 805 (by decide +kernel) (by decide +kernel)
theorem q_lMd_24 : u_lay "PatternWalkModel" q_TMd 24 ∈ q_Ts := q_in 807 (by decide +kernel) (by decide +kernel)
theorem q_lMd_25 : u_lay "PatternWalkModel" q_TMd 25 ∈ q_Ts := q_in 809 (by decide +kernel) (by decide +kernel)
theorem q_lMd_26 : u_lay "PatternWalkModel" q_TMd 26 ∈ q_Ts := q_in 811 (by decide +kernel) (by decide +kernel)
theorem q_lMd_27 : u_lay "PatternWalkModel" q_TMd 27 ∈ q_Ts := q_in 813 (by decide +kernel) (by decide +kernel)
theorem q_lMd_28 : u_lay "PatternWalkModel" q_TMd 28 ∈ q_Ts := q_in 815 (by decide +kernel) (by decide +kernel)
theorem q_lMd_29 : u_lay "PatternWalkModel" q_TMd 29 ∈ q_Ts := q_in 817 (by decide +kernel) (by decide +kernel)
theorem q_lMd_30 : u_lay "PatternWalkModel" q_TMd 30 ∈ q_Ts := q_in 819 (by decide +kernel) (by decide +kernel)
theorem q_lMd_31 : u_lay "PatternWalkModel" q_TMd 31 ∈ q_Ts := q_in 821 (by decide +kernel) (by decide +kernel)
theorem q_lMd_32 : u_lay "PatternWalkModel" q_TMd 32 ∈ q_Ts := q_in 823 (by decide +kernel) (by decide +kernel)
theorem q_lMd_33 : u_lay "PatternWalkModel" q_TMd 33 ∈ q_Ts := q_in 825 (by decide +kernel) (by decide +kernel)
theorem q_lMd_34 : u_lay "PatternWalkModel" q_TMd 34 ∈ q_Ts := q_in 827 (by decide +kernel) (by decide +kernel)
theorem q_lMd_35 : u_lay "PatternWalkModel" q_TMd 35 ∈ q_Ts := q_in 829 (by decide +kernel) (by decide +kernel)
theorem q_lMd_36 : u_lay "PatternWalkModel" q_TMd 36 ∈ q_Ts := q_in 831 (by decide +kernel) (by decide +kernel)
theorem q_lMd_37 : u_lay "PatternWalkModel" q_TMd 37 ∈ q_Ts := q_in 833 (by decide +kernel) (by decide +kernel)
theorem q_lMd_38 : u_lay "PatternWalkModel" q_TMd 38 ∈ q_Ts := q_in 835 (by decide +kernel) (by decide +kernel)
theorem q_lMd_39 : u_lay "PatternWalkModel" q_TMd 39 ∈ q_Ts := q_in 837 (by decide +kernel) (by decide +kernel)
theorem q_lMd_40 : u_lay "PatternWalkModel" q_TMd 40 ∈ q_Ts := q_in 839 (by decide +kernel) (by decide +kernel)
theorem q_lMd_41 : u_lay "PatternWalkModel" q_TMd 41 ∈ q_Ts := q_in 841 (by decide +kernel) (by decide +kernel)
theorem q_lMd_42 : u_lay "PatternWalkModel" q_TMd 42 ∈ q_Ts := q_in 843 (by decide +kernel) (by decide +kernel)
theorem q_lMd_43 : u_lay "PatternWalkModel" q_TMd 43 ∈ q_Ts := q_in 845 (by decide +kernel) (by decide +kernel)
theorem q_lMd_44 : u_lay "PatternWalkModel" q_TMd 44 ∈ q_Ts := q_in 847 (by decide +kernel) (by decide +kernel)
theorem q_wMd : ∀ w ∈ u_ws "PatternWalkModel" q_TMd 45, w ∈ q_Ts := by
  intro w hw
  obtain ⟨k, hk, rfl⟩ := List.mem_map.mp hw
  have hk := List.mem_range.mp hk
  match k, hk with
  | 0, _ => exact q_lMd_0
  | 1, _ => exact q_lMd_1
  | 2, _ => exact q_lMd_2
  | 3, _ => exact q_lMd_3
  | 4, _ => exact q_lMd_4
  | 5, _ => exact q_lMd_5
  | 6, _ => exact q_lMd_6
  | 7, _ => exact q_lMd_7
  | 8, _ => exact q_lMd_8
  | 9, _ => exact q_lMd_9
  | 10, _ => exact q_lMd_10
  | 11, _ => exact q_lMd_11
  | 12, _ => exact q_lMd_12
  | 13, _ => exact q_lMd_13
  | 14, _ => exact q_lMd_14
  | 15, _ => exact q_lMd_15
  | 16, _ => exact q_lMd_16
  | 17, _ => exact q_lMd_17
  | 18, _ => exact q_lMd_18
  | 19, _ => exact q_lMd_19
  | 20, _ => exact q_lMd_20
  | 21, _ => exact q_lMd_21
  | 22, _ => exact q_lMd_22
  | 23, _ => exact q_lMd_23
  | 24, _ => exact q_lMd_24
  | 25, _ => exact q_lMd_25
  | 26, _ => exact q_lMd_26
  | 27, _ => exact q_lMd_27
  | 28, _ => exact q_lMd_28
  | 29, _ => exact q_lMd_29
  | 30, _ => exact q_lMd_30
  | 31, _ => exact q_lMd_31
  | 32, _ => exact q_lMd_32
  | 33, _ => exact q_lMd_33
  | 34, _ => exact q_lMd_34
  | 35, _ => exact q_lMd_35
  | 36, _ => exact q_lMd_36
  | 37, _ => exact q_lMd_37
  | 38, _ => exact q_lMd_38
  | 39, _ => exact q_lMd_39
  | 40, _ => exact q_lMd_40
  | 41, _ => exact q_lMd_41
  | 42, _ => exact q_lMd_42
  | 43, _ => exact q_lMd_43
  | 44, _ => exact q_lMd_44
  | k + 45, hk => exact absurd hk (by omega)
theorem q_tMd : ∀ k, k < 45 → parseFieldDescriptor (q_TMd k).2.2.1 = some (q_YMd k) := by decide +kernel
theorem q_nMd : ∀ a, a < 45 → ∀ b, b < 45 → a ≠ b → (q_TMd a).2.1 ≠ (q_TMd b).2.1 := by decide +kernel
end
section
theorem q_fPW_83 : q_fok q_cl q_Ts q_Ns "PatternWalk" 83 (2, 4, .int, 0) := ⟨"PatternWalk$Parser", q_TPa, 6, q_YPa, rfl, (by decide), q_wPa, q_tPa, q_nPa, (by decide +kernel), (fun _ => rfl), (fun h => absurd h (by decide)), Or.inr ⟨"PatternWalk", q_inN 109 (by decide +kernel) (by decide +kernel)⟩⟩
theorem q_fPW_67 : q_fok q_cl q_Ts q_Ns "PatternWalk" 67 (2, 5, .int, 0) := ⟨"PatternWalk$Parser", q_TPa, 6, q_YPa, rfl, (by decide), q_wPa, q_tPa, q_nPa, (by decide +kernel), (fun _ => rfl), (fun h => absurd h (by decide)), Or.inr ⟨"PatternWalk", q_inN 111 (by decide +kernel) (by decide +kernel)⟩⟩
theorem q_fPW_90 : q_fok q_cl q_Ts q_Ns "PatternWalk" 90 (3, 3, .int, 0) := ⟨"PatternWalk$Program", q_TPr, 5, q_YPr, rfl, (by decide), q_wPr, q_tPr, q_nPr, (by decide +kernel), (fun _ => rfl), (fun h => absurd h (by decide)), Or.inr ⟨"PatternWalk", q_inN 135 (by decide +kernel) (by decide +kernel)⟩⟩
theorem q_fPW_116 : q_fok q_cl q_Ts q_Ns "PatternWalk" 116 (3, 4, .int, 0) := ⟨"PatternWalk$Program", q_TPr, 5, q_YPr, rfl, (by decide), q_wPr, q_tPr, q_nPr, (by decide +kernel), (fun _ => rfl), (fun h => absurd h (by decide)), Or.inr ⟨"PatternWalk", q_inN 137 (by decide +kernel) (by decide +kernel)⟩⟩
theorem q_fPW_141 : q_fok q_cl q_Ts q_Ns "PatternWalk" 141 (7, 2, .int, 0) := ⟨"PatternWalk$Ways", q_TWy, 3, q_YWy, rfl, (by decide), q_wWy, q_tWy, q_nWy, (by decide +kernel), (fun _ => rfl), (fun h => absurd h (by decide)), Or.inr ⟨"PatternWalk", q_inN 166 (by decide +kernel) (by decide +kernel)⟩⟩
theorem q_fPW_137 : q_fok q_cl q_Ts q_Ns "PatternWalk" 137 (6, 2, .object "PatternWalk$Ways", 0) := ⟨"PatternWalk$Walk", q_TWk, 15, q_YWk, rfl, (by decide), q_wWk, q_tWk, q_nWk, (by decide +kernel), (fun _ => rfl), (fun h => absurd h (by decide)), Or.inr ⟨"PatternWalk", q_inN 177 (by decide +kernel) (by decide +kernel)⟩⟩
theorem q_fPW_123 : q_fok q_cl q_Ts q_Ns "PatternWalk" 123 (6, 10, .boolean, 0) := ⟨"PatternWalk$Walk", q_TWk, 15, q_YWk, rfl, (by decide), q_wWk, q_tWk, q_nWk, (by decide +kernel), (fun _ => rfl), (fun h => absurd h (by decide)), Or.inr ⟨"PatternWalk", q_inN 186 (by decide +kernel) (by decide +kernel)⟩⟩
theorem q_fPW_134 : q_fok q_cl q_Ts q_Ns "PatternWalk" 134 (6, 12, .boolean, 0) := ⟨"PatternWalk$Walk", q_TWk, 15, q_YWk, rfl, (by decide), q_wWk, q_tWk, q_nWk, (by decide +kernel), (fun _ => rfl), (fun h => absurd h (by decide)), Or.inr ⟨"PatternWalk", q_inN 189 (by decide +kernel) (by decide +kernel)⟩⟩
theorem q_fPW_127 : q_fok q_cl q_Ts q_Ns "PatternWalk" 127 (6, 14, .int, 0) := ⟨"PatternWalk$Walk", q_TWk, 15, q_YWk, rfl, (by decide), q_wWk, q_tWk, q_nWk, (by decide +kernel), (fun _ => rfl), (fun h => absurd h (by decide)), Or.inr ⟨"PatternWalk", q_inN 192 (by decide +kernel) (by decide +kernel)⟩⟩
theorem q_fPW_9 : q_fok q_cl q_Ts q_Ns "PatternWalk" 9 (0, 0, .array .char, 1) := ⟨"PatternWalk", q_TPW, 7, q_YPW, rfl, (by decide), q_wPW, q_tPW, q_nPW, (by decide +kernel), (fun h => absurd h (by decide)), (fun _ => ⟨rfl, rfl, q_in 224 (by decide +kernel) (by decide +kernel)⟩), Or.inl (q_in 224 (by decide +kernel) (by decide +kernel))⟩
theorem q_fPW_13 : q_fok q_cl q_Ts q_Ns "PatternWalk" 13 (0, 1, .int, 0) := ⟨"PatternWalk", q_TPW, 7, q_YPW, rfl, (by decide), q_wPW, q_tPW, q_nPW, (by decide +kernel), (fun _ => rfl), (fun h => absurd h (by decide)), Or.inl (q_in 225 (by decide +kernel) (by decide +kernel))⟩
theorem q_fPW_17 : q_fok q_cl q_Ts q_Ns "PatternWalk" 17 (0, 2, .int, 0) := ⟨"PatternWalk", q_TPW, 7, q_YPW, rfl, (by decide), q_wPW, q_tPW, q_nPW, (by decide +kernel), (fun _ => rfl), (fun h => absurd h (by decide)), Or.inl (q_in 226 (by decide +kernel) (by decide +kernel))⟩
theorem q_fPW_23 : q_fok q_cl q_Ts q_Ns "PatternWalk" 23 (0, 3, .object "PatternWalk$CharSets", 1) := ⟨"PatternWalk", q_TPW, 7, q_YPW, rfl, (by decide), q_wPW, q_tPW, q_nPW, (by decide +kernel), (fun h => absurd h (by decide)), (fun _ => ⟨rfl, rfl, q_in 227 (by decide +kernel) (by decide +kernel)⟩), Or.inl (q_in 227 (by decide +kernel) (by decide +kernel))⟩
theorem q_fPW_32 : q_fok q_cl q_Ts q_Ns "PatternWalk" 32 (0, 4, .object "PatternWalk$Parser", 1) := ⟨"PatternWalk", q_TPW, 7, q_YPW, rfl, (by decide), q_wPW, q_tPW, q_nPW, (by decide +kernel), (fun h => absurd h (by decide)), (fun _ => ⟨rfl, rfl, q_in 228 (by decide +kernel) (by decide +kernel)⟩), Or.inl (q_in 228 (by decide +kernel) (by decide +kernel))⟩
theorem q_fPW_39 : q_fok q_cl q_Ts q_Ns "PatternWalk" 39 (0, 5, .object "PatternWalk$Program", 1) := ⟨"PatternWalk", q_TPW, 7, q_YPW, rfl, (by decide), q_wPW, q_tPW, q_nPW, (by decide +kernel), (fun h => absurd h (by decide)), (fun _ => ⟨rfl, rfl, q_in 229 (by decide +kernel) (by decide +kernel)⟩), Or.inl (q_in 229 (by decide +kernel) (by decide +kernel))⟩
theorem q_fPW_48 : q_fok q_cl q_Ts q_Ns "PatternWalk" 48 (0, 6, .object "PatternWalk$Walk", 1) := ⟨"PatternWalk", q_TPW, 7, q_YPW, rfl, (by decide), q_wPW, q_tPW, q_nPW, (by decide +kernel), (fun h => absurd h (by decide)), (fun _ => ⟨rfl, rfl, q_in 230 (by decide +kernel) (by decide +kernel)⟩), Or.inl (q_in 230 (by decide +kernel) (by decide +kernel))⟩
theorem q_kPW_20 : q_nok q_cl q_Ts "PatternWalk" 20 (1, [.null, .int 0]) := ⟨"PatternWalk$CharSets", q_TCs, 2, q_YCs, rfl, rfl, q_wCs, q_tCs, (by
    intro j hj
    match j, hj with
    | 0, _ => rfl
    | 1, _ => rfl
    | k + 2, hk => exact absurd hk (by omega)
    ), q_in 83 (by decide +kernel) (by decide +kernel), q_in 84 (by decide +kernel) (by decide +kernel), q_in 59 (by decide +kernel) (by decide +kernel)⟩
theorem q_kPW_27 : q_nok q_cl q_Ts "PatternWalk" 27 (2, [.null, .null, .int 0, .int 0, .int 0, .int 0]) := ⟨"PatternWalk$Parser", q_TPa, 6, q_YPa, rfl, rfl, q_wPa, q_tPa, (by
    intro j hj
    match j, hj with
    | 0, _ => rfl
    | 1, _ => rfl
    | 2, _ => rfl
    | 3, _ => rfl
    | 4, _ => rfl
    | 5, _ => rfl
    | k + 6, hk => exact absurd hk (by omega)
    ), q_in 98 (by decide +kernel) (by decide +kernel), q_in 99 (by decide +kernel) (by decide +kernel), q_in 60 (by decide +kernel) (by decide +kernel)⟩
theorem q_kPW_36 : q_nok q_cl q_Ts "PatternWalk" 36 (3, [.null, .null, .null, .int 0, .int 0]) := ⟨"PatternWalk$Program", q_TPr, 5, q_YPr, rfl, rfl, q_wPr, q_tPr, (by
    intro j hj
    match j, hj with
    | 0, _ => rfl
    | 1, _ => rfl
    | 2, _ => rfl
    | 3, _ => rfl
    | 4, _ => rfl
    | k + 5, hk => exact absurd hk (by omega)
    ), q_in 125 (by decide +kernel) (by decide +kernel), q_in 126 (by decide +kernel) (by decide +kernel), q_in 61 (by decide +kernel) (by decide +kernel)⟩
theorem q_kPW_43 : q_nok q_cl q_Ts "PatternWalk" 43 (6, [.null, .null, .null, .null, .null, .null, .null, .int 0, .null, .null, .int 0, .int 0, .int 0, .int 0, .int 0]) := ⟨"PatternWalk$Walk", q_TWk, 15, q_YWk, rfl, rfl, q_wWk, q_tWk, (by
    intro j hj
    match j, hj with
    | 0, _ => rfl
    | 1, _ => rfl
    | 2, _ => rfl
    | 3, _ => rfl
    | 4, _ => rfl
    | 5, _ => rfl
    | 6, _ => rfl
    | 7, _ => rfl
    | 8, _ => rfl
    | 9, _ => rfl
    | 10, _ => rfl
    | 11, _ => rfl
    | 12, _ => rfl
    | 13, _ => rfl
    | 14, _ => rfl
    | k + 15, hk => exact absurd hk (by omega)
    ), q_in 150 (by decide +kernel) (by decide +kernel), q_in 151 (by decide +kernel) (by decide +kernel), q_in 62 (by decide +kernel) (by decide +kernel)⟩
theorem q_gPW_3 : q_mok q_cl q_Ts q_Ns q_yn q_Mt "PatternWalk" 3 (0, 0, 0, 0) := ⟨q_in 80 (by decide +kernel) (by decide +kernel), q_in 81 (by decide +kernel) (by decide +kernel), q_in 82 (by decide +kernel) (by decide +kernel)⟩
theorem q_gPW_22 : q_mok q_cl q_Ts q_Ns q_yn q_Mt "PatternWalk" 22 (3, 14, 0, 0) := ⟨⟨q_mCs_init, ⟨rfl, q_in 87 (by decide +kernel) (by decide +kernel), q_in 59 (by decide +kernel) (by decide +kernel), (by decide +kernel), (by decide)⟩, rfl⟩, Or.inr ⟨"PatternWalk", q_inN 85 (by decide +kernel) (by decide +kernel)⟩, q_in 86 (by decide +kernel) (by decide +kernel), rfl⟩
theorem q_gPW_29 : q_mok q_cl q_Ts q_Ns q_yn q_Mt "PatternWalk" 29 (3, 22, 2, 0) := ⟨⟨q_mPa_init, ⟨rfl, q_in 102 (by decide +kernel) (by decide +kernel), q_in 60 (by decide +kernel) (by decide +kernel), (by decide +kernel), (by decide)⟩, rfl⟩, Or.inl (q_in 100 (by decide +kernel) (by decide +kernel)), q_in 101 (by decide +kernel) (by decide +kernel), rfl⟩
theorem q_gPW_38 : q_mok q_cl q_Ts q_Ns q_yn q_Mt "PatternWalk" 38 (3, 40, 0, 0) := ⟨⟨q_mPr_init, ⟨rfl, q_in 129 (by decide +kernel) (by decide +kernel), q_in 61 (by decide +kernel) (by decide +kernel), (by decide +kernel), (by decide)⟩, rfl⟩, Or.inr ⟨"PatternWalk", q_inN 127 (by decide +kernel) (by decide +kernel)⟩, q_in 128 (by decide +kernel) (by decide +kernel), rfl⟩
theorem q_gPW_45 : q_mok q_cl q_Ts q_Ns q_yn q_Mt "PatternWalk" 45 (3, 58, 2, 0) := ⟨⟨q_mWk_init, ⟨rfl, q_in 154 (by decide +kernel) (by decide +kernel), q_in 62 (by decide +kernel) (by decide +kernel), (by decide +kernel), (by decide)⟩, rfl⟩, Or.inl (q_in 152 (by decide +kernel) (by decide +kernel)), q_in 153 (by decide +kernel) (by decide +kernel), rfl⟩
theorem q_gPW_52 : q_mok q_cl q_Ts q_Ns q_yn q_Mt "PatternWalk" 52 (1, 41, 0, 3) := ⟨⟨q_mPr_isWritten, rfl, q_in 253 (by decide +kernel) (by decide +kernel), q_in 61 (by decide +kernel) (by decide +kernel), (by decide +kernel), (by decide)⟩, Or.inl (q_in 250 (by decide +kernel) (by decide +kernel)), q_in 251 (by decide +kernel) (by decide +kernel), q_in 252 (by decide +kernel) (by decide +kernel), ⟨q_TPr, 5, rfl⟩⟩
theorem q_gPW_93 : q_mok q_cl q_Ts q_Ns q_yn q_Mt "PatternWalk" 93 (1, 42, 0, 3) := ⟨⟨q_mPr_erase, rfl, q_in 265 (by decide +kernel) (by decide +kernel), q_in 61 (by decide +kernel) (by decide +kernel), (by decide +kernel), (by decide)⟩, Or.inl (q_in 262 (by decide +kernel) (by decide +kernel)), q_in 263 (by decide +kernel) (by decide +kernel), q_in 264 (by decide +kernel) (by decide +kernel), ⟨q_TPr, 5, rfl⟩⟩
theorem q_gPW_96 : q_mok q_cl q_Ts q_Ns q_yn q_Mt "PatternWalk" 96 (1, 59, 0, 6) := ⟨⟨q_mWk_end, rfl, q_in 269 (by decide +kernel) (by decide +kernel), q_in 62 (by decide +kernel) (by decide +kernel), (by decide +kernel), (by decide)⟩, Or.inl (q_in 266 (by decide +kernel) (by decide +kernel)), q_in 267 (by decide +kernel) (by decide +kernel), q_in 268 (by decide +kernel) (by decide +kernel), ⟨q_TWk, 15, rfl⟩⟩
theorem q_gPW_99 : q_mok q_cl q_Ts q_Ns q_yn q_Mt "PatternWalk" 99 (1, 43, 1, 3) := ⟨⟨q_mPr_has, rfl, q_in 277 (by decide +kernel) (by decide +kernel), q_in 61 (by decide +kernel) (by decide +kernel), (by decide +kernel), (by decide)⟩, Or.inl (q_in 274 (by decide +kernel) (by decide +kernel)), q_in 275 (by decide +kernel) (by decide +kernel), q_in 276 (by decide +kernel) (by decide +kernel), ⟨q_TPr, 5, rfl⟩⟩
theorem q_gPW_103 : q_mok q_cl q_Ts q_Ns q_yn q_Mt "PatternWalk" 103 (1, 44, 1, 3) := ⟨⟨q_mPr_kindOf, rfl, q_in 281 (by decide +kernel) (by decide +kernel), q_in 61 (by decide +kernel) (by decide +kernel), (by decide +kernel), (by decide)⟩, Or.inl (q_in 278 (by decide +kernel) (by decide +kernel)), q_in 279 (by decide +kernel) (by decide +kernel), q_in 280 (by decide +kernel) (by decide +kernel), ⟨q_TPr, 5, rfl⟩⟩
theorem q_gPW_107 : q_mok q_cl q_Ts q_Ns q_yn q_Mt "PatternWalk" 107 (1, 45, 1, 3) := ⟨⟨q_mPr_xOf, rfl, q_in 286 (by decide +kernel) (by decide +kernel), q_in 61 (by decide +kernel) (by decide +kernel), (by decide +kernel), (by decide)⟩, Or.inl (q_in 283 (by decide +kernel) (by decide +kernel)), q_in 284 (by decide +kernel) (by decide +kernel), q_in 285 (by decide +kernel) (by decide +kernel), ⟨q_TPr, 5, rfl⟩⟩
theorem q_gPW_110 : q_mok q_cl q_Ts q_Ns q_yn q_Mt "PatternWalk" 110 (1, 15, 1, 1) := ⟨⟨q_mCs_count, rfl, q_in 290 (by decide +kernel) (by decide +kernel), q_in 59 (by decide +kernel) (by decide +kernel), (by decide +kernel), (by decide)⟩, Or.inl (q_in 287 (by decide +kernel) (by decide +kernel)), q_in 288 (by decide +kernel) (by decide +kernel), q_in 289 (by decide +kernel) (by decide +kernel), ⟨q_TCs, 2, rfl⟩⟩
theorem q_gPW_113 : q_mok q_cl q_Ts q_Ns q_yn q_Mt "PatternWalk" 113 (1, 46, 1, 3) := ⟨⟨q_mPr_yOf, rfl, q_in 304 (by decide +kernel) (by decide +kernel), q_in 61 (by decide +kernel) (by decide +kernel), (by decide +kernel), (by decide)⟩, Or.inl (q_in 301 (by decide +kernel) (by decide +kernel)), q_in 302 (by decide +kernel) (by decide +kernel), q_in 303 (by decide +kernel) (by decide +kernel), ⟨q_TPr, 5, rfl⟩⟩
theorem q_gPW_119 : q_mok q_cl q_Ts q_Ns q_yn q_Mt "PatternWalk" 119 (1, 60, 1, 6) := ⟨⟨q_mWk_begin, rfl, q_in 316 (by decide +kernel) (by decide +kernel), q_in 62 (by decide +kernel) (by decide +kernel), (by decide +kernel), (by decide)⟩, Or.inl (q_in 313 (by decide +kernel) (by decide +kernel)), q_in 314 (by decide +kernel) (by decide +kernel), q_in 315 (by decide +kernel) (by decide +kernel), ⟨q_TWk, 15, rfl⟩⟩
theorem q_gPW_130 : q_mok q_cl q_Ts q_Ns q_yn q_Mt "PatternWalk" 130 (1, 68, 1, 6) := ⟨⟨q_mWk_step, rfl, q_in 363 (by decide +kernel) (by decide +kernel), q_in 62 (by decide +kernel) (by decide +kernel), (by decide +kernel), (by decide)⟩, Or.inl (q_in 360 (by decide +kernel) (by decide +kernel)), q_in 361 (by decide +kernel) (by decide +kernel), q_in 362 (by decide +kernel) (by decide +kernel), ⟨q_TWk, 15, rfl⟩⟩
theorem q_gPW_145 : q_mok q_cl q_Ts q_Ns q_yn q_Mt "PatternWalk" 145 (1, 69, 1, 6) := ⟨⟨q_mWk_standsAt, rfl, q_in 391 (by decide +kernel) (by decide +kernel), q_in 62 (by decide +kernel) (by decide +kernel), (by decide +kernel), (by decide)⟩, Or.inl (q_in 388 (by decide +kernel) (by decide +kernel)), q_in 389 (by decide +kernel) (by decide +kernel), q_in 390 (by decide +kernel) (by decide +kernel), ⟨q_TWk, 15, rfl⟩⟩
theorem q_gPW_148 : q_mok q_cl q_Ts q_Ns q_yn q_Mt "PatternWalk" 148 (1, 70, 1, 6) := ⟨⟨q_mWk_foundMark, rfl, q_in 399 (by decide +kernel) (by decide +kernel), q_in 62 (by decide +kernel) (by decide +kernel), (by decide +kernel), (by decide)⟩, Or.inl (q_in 396 (by decide +kernel) (by decide +kernel)), q_in 397 (by decide +kernel) (by decide +kernel), q_in 398 (by decide +kernel) (by decide +kernel), ⟨q_TWk, 15, rfl⟩⟩
theorem q_gPW_63 : q_mok q_cl q_Ts q_Ns q_yn q_Mt "PatternWalk" 63 (1, 23, 1, 2) := ⟨⟨q_mPa_parse, rfl, q_in 483 (by decide +kernel) (by decide +kernel), q_in 60 (by decide +kernel) (by decide +kernel), (by decide +kernel), (by decide)⟩, Or.inl (q_in 480 (by decide +kernel) (by decide +kernel)), q_in 481 (by decide +kernel) (by decide +kernel), q_in 482 (by decide +kernel) (by decide +kernel), ⟨q_TPa, 6, rfl⟩⟩
theorem q_gPW_75 : q_mok q_cl q_Ts q_Ns q_yn q_Mt "PatternWalk" 75 (1, 56, 0, 5) := ⟨⟨q_mRw_sizeAsChoice, rfl, q_in 601 (by decide +kernel) (by decide +kernel), q_in 71 (by decide +kernel) (by decide +kernel), (by decide +kernel), (by decide)⟩, Or.inl (q_in 680 (by decide +kernel) (by decide +kernel)), q_in 599 (by decide +kernel) (by decide +kernel), q_in 600 (by decide +kernel) (by decide +kernel), ⟨q_TRw, 4, rfl⟩⟩
theorem q_gPW_86 : q_mok q_cl q_Ts q_Ns q_yn q_Mt "PatternWalk" 86 (1, 47, 2, 3) := ⟨⟨q_mPr_write, rfl, q_in 685 (by decide +kernel) (by decide +kernel), q_in 61 (by decide +kernel) (by decide +kernel), (by decide +kernel), (by decide)⟩, Or.inl (q_in 682 (by decide +kernel) (by decide +kernel)), q_in 683 (by decide +kernel) (by decide +kernel), q_in 684 (by decide +kernel) (by decide +kernel), ⟨q_TPr, 5, rfl⟩⟩
theorem q_pokPW : q_pok q_cl q_Ts q_Ns q_yn q_Mt "PatternWalk" q_PPW := by
  refine ⟨fun k f h => ?_, fun k n h => ?_, fun k x h => ?_, fun k v h => ?_, fun k v h => ?_⟩
  · have := q_lk_mem h
    exact (show ∀ e ∈ q_FPW, q_fok q_cl q_Ts q_Ns "PatternWalk" e.1 e.2 from (List.forall_mem_cons.mpr ⟨q_fPW_83, (List.forall_mem_cons.mpr ⟨q_fPW_67, (List.forall_mem_cons.mpr ⟨q_fPW_90, (List.forall_mem_cons.mpr ⟨q_fPW_116, (List.forall_mem_cons.mpr ⟨q_fPW_141, (List.forall_mem_cons.mpr ⟨q_fPW_137, (List.forall_mem_cons.mpr ⟨q_fPW_123, (List.forall_mem_cons.mpr ⟨q_fPW_134, (List.forall_mem_cons.mpr ⟨q_fPW_127, (List.forall_mem_cons.mpr ⟨q_fPW_9, (List.forall_mem_cons.mpr ⟨q_fPW_13, (List.forall_mem_cons.mpr ⟨q_fPW_17, (List.forall_mem_cons.mpr ⟨q_fPW_23, (List.forall_mem_cons.mpr ⟨q_fPW_32, (List.forall_mem_cons.mpr ⟨q_fPW_39, (List.forall_mem_cons.mpr ⟨q_fPW_48, (fun _ h => absurd h List.not_mem_nil)⟩)⟩)⟩)⟩)⟩)⟩)⟩)⟩)⟩)⟩)⟩)⟩)⟩)⟩)⟩)⟩)) (k, f) this
  · have := q_lk_mem h
    exact (show ∀ e ∈ q_CPW, ∀ n, e.2 = .inl n → q_nok q_cl q_Ts "PatternWalk" e.1 n from (List.forall_mem_cons.mpr ⟨(fun n hn => by cases hn; exact q_kPW_20), (List.forall_mem_cons.mpr ⟨(fun n hn => by cases hn; exact q_kPW_27), (List.forall_mem_cons.mpr ⟨(fun n hn => by cases hn; exact q_kPW_36), (List.forall_mem_cons.mpr ⟨(fun n hn => by cases hn; exact q_kPW_43), (List.forall_mem_cons.mpr ⟨(fun n hn => by cases hn), (List.forall_mem_cons.mpr ⟨(fun n hn => by cases hn), (fun _ h => absurd h List.not_mem_nil)⟩)⟩)⟩)⟩)⟩)⟩)) (k, .inl n) this n rfl
  · have := q_lk_mem h
    exact (show ∀ e ∈ q_MPW, q_mok q_cl q_Ts q_Ns q_yn q_Mt "PatternWalk" e.1 e.2 from (List.forall_mem_cons.mpr ⟨q_gPW_3, (List.forall_mem_cons.mpr ⟨q_gPW_22, (List.forall_mem_cons.mpr ⟨q_gPW_29, (List.forall_mem_cons.mpr ⟨q_gPW_38, (List.forall_mem_cons.mpr ⟨q_gPW_45, (List.forall_mem_cons.mpr ⟨q_gPW_52, (List.forall_mem_cons.mpr ⟨q_gPW_93, (List.forall_mem_cons.mpr ⟨q_gPW_96, (List.forall_mem_cons.mpr ⟨q_gPW_99, (List.forall_mem_cons.mpr ⟨q_gPW_103, (List.forall_mem_cons.mpr ⟨q_gPW_107, (List.forall_mem_cons.mpr ⟨q_gPW_110, (List.forall_mem_cons.mpr ⟨q_gPW_113, (List.forall_mem_cons.mpr ⟨q_gPW_119, (List.forall_mem_cons.mpr ⟨q_gPW_130, (List.forall_mem_cons.mpr ⟨q_gPW_145, (List.forall_mem_cons.mpr ⟨q_gPW_148, (List.forall_mem_cons.mpr ⟨q_gPW_63, (List.forall_mem_cons.mpr ⟨q_gPW_75, (List.forall_mem_cons.mpr ⟨q_gPW_86, (fun _ h => absurd h List.not_mem_nil)⟩)⟩)⟩)⟩)⟩)⟩)⟩)⟩)⟩)⟩)⟩)⟩)⟩)⟩)⟩)⟩)⟩)⟩)⟩)⟩)) (k, x) this
  · have := q_lk_mem h
    exact (show ∀ e ∈ q_IPW, Cond.constant "PatternWalk" e.1 e.2 ∈ q_Ts from (fun _ h => absurd h List.not_mem_nil)) (k, v) this
  · have := q_lk_mem h
    exact (show ∀ e ∈ q_LPW, Cond.constantLong "PatternWalk" e.1 e.2 ∈ q_Ts from (fun _ h => absurd h List.not_mem_nil)) (k, v) this
theorem q_fCs_11 : q_fok q_cl q_Ts q_Ns "PatternWalk$CharSets" 11 (1, 0, .array .long, 1) := ⟨"PatternWalk$CharSets", q_TCs, 2, q_YCs, rfl, (by decide), q_wCs, q_tCs, q_nCs, (by decide +kernel), (fun h => absurd h (by decide)), (fun _ => ⟨rfl, rfl, q_in 89 (by decide +kernel) (by decide +kernel)⟩), Or.inl (q_in 89 (by decide +kernel) (by decide +kernel))⟩
theorem q_fCs_15 : q_fok q_cl q_Ts q_Ns "PatternWalk$CharSets" 15 (1, 1, .int, 0) := ⟨"PatternWalk$CharSets", q_TCs, 2, q_YCs, rfl, (by decide), q_wCs, q_tCs, q_nCs, (by decide +kernel), (fun _ => rfl), (fun h => absurd h (by decide)), Or.inl (q_in 90 (by decide +kernel) (by decide +kernel))⟩
theorem q_gCs_3 : q_mok q_cl q_Ts q_Ns q_yn q_Mt "PatternWalk$CharSets" 3 (0, 0, 0, 0) := ⟨q_in 88 (by decide +kernel) (by decide +kernel), q_in 81 (by decide +kernel) (by decide +kernel), q_in 82 (by decide +kernel) (by decide +kernel)⟩
theorem q_gCs_25 : q_mok q_cl q_Ts q_Ns q_yn q_Mt "PatternWalk$CharSets" 25 (1, 16, 1, 1) := ⟨⟨q_mCs_isOpen, rfl, q_in 294 (by decide +kernel) (by decide +kernel), q_in 59 (by decide +kernel) (by decide +kernel), (by decide +kernel), (by decide)⟩, Or.inl (q_in 291 (by decide +kernel) (by decide +kernel)), q_in 293 (by decide +kernel) (by decide +kernel), q_in 0 (by decide +kernel) (by decide +kernel), ⟨q_TCs, 2, rfl⟩⟩
theorem q_gCs_37 : q_mok q_cl q_Ts q_Ns q_yn q_Mt "PatternWalk$CharSets" 37 (2, 125, 1, 0) := ⟨⟨q_mLo_bitCount, rfl, q_in 297 (by decide +kernel) (by decide +kernel), q_in 74 (by decide +kernel) (by decide +kernel), (by decide +kernel), (by decide)⟩, Or.inl (q_in 295 (by decide +kernel) (by decide +kernel)), q_in 296 (by decide +kernel) (by decide +kernel)⟩
theorem q_gCs_19 : q_mok q_cl q_Ts q_Ns q_yn q_Mt "PatternWalk$CharSets" 19 (2, 124, 2, 0) := ⟨⟨q_mAr_fill2, rfl, q_in 493 (by decide +kernel) (by decide +kernel), q_in 70 (by decide +kernel) (by decide +kernel), (by decide +kernel), (by decide)⟩, Or.inl (q_in 491 (by decide +kernel) (by decide +kernel)), q_in 492 (by decide +kernel) (by decide +kernel)⟩
theorem q_gCs_29 : q_mok q_cl q_Ts q_Ns q_yn q_Mt "PatternWalk$CharSets" 29 (4, 0, 0, 0) := ⟨q_in 627 (by decide +kernel) (by decide +kernel), q_in 628 (by decide +kernel) (by decide +kernel), q_in 69 (by decide +kernel) (by decide +kernel), q_in 629 (by decide +kernel) (by decide +kernel)⟩
theorem q_pokCs : q_pok q_cl q_Ts q_Ns q_yn q_Mt "PatternWalk$CharSets" q_PCs := by
  refine ⟨fun k f h => ?_, fun k n h => ?_, fun k x h => ?_, fun k v h => ?_, fun k v h => ?_⟩
  · have := q_lk_mem h
    exact (show ∀ e ∈ q_FCs, q_fok q_cl q_Ts q_Ns "PatternWalk$CharSets" e.1 e.2 from (List.forall_mem_cons.mpr ⟨q_fCs_11, (List.forall_mem_cons.mpr ⟨q_fCs_15, (fun _ h => absurd h List.not_mem_nil)⟩)⟩)) (k, f) this
  · have := q_lk_mem h
    exact (show ∀ e ∈ q_CCs, ∀ n, e.2 = .inl n → q_nok q_cl q_Ts "PatternWalk$CharSets" e.1 n from (fun _ h => absurd h List.not_mem_nil)) (k, .inl n) this n rfl
  · have := q_lk_mem h
    exact (show ∀ e ∈ q_MCs, q_mok q_cl q_Ts q_Ns q_yn q_Mt "PatternWalk$CharSets" e.1 e.2 from (List.forall_mem_cons.mpr ⟨q_gCs_3, (List.forall_mem_cons.mpr ⟨q_gCs_25, (List.forall_mem_cons.mpr ⟨q_gCs_37, (List.forall_mem_cons.mpr ⟨q_gCs_19, (List.forall_mem_cons.mpr ⟨q_gCs_29, (fun _ h => absurd h List.not_mem_nil)⟩)⟩)⟩)⟩)⟩)) (k, x) this
  · have := q_lk_mem h
    exact (show ∀ e ∈ q_ICs, Cond.constant "PatternWalk$CharSets" e.1 e.2 ∈ q_Ts from (fun _ h => absurd h List.not_mem_nil)) (k, v) this
  · have := q_lk_mem h
    exact (show ∀ e ∈ q_LCs, Cond.constantLong "PatternWalk$CharSets" e.1 e.2 ∈ q_Ts from (List.forall_mem_cons.mpr ⟨q_in 637 (by decide +kernel) (by decide +kernel), (fun _ h => absurd h List.not_mem_nil)⟩)) (k, v) this
theorem q_fPa_24 : q_fok q_cl q_Ts q_Ns "PatternWalk$Parser" 24 (2, 0, .array .char, 1) := ⟨"PatternWalk$Parser", q_TPa, 6, q_YPa, rfl, (by decide), q_wPa, q_tPa, q_nPa, (by decide +kernel), (fun h => absurd h (by decide)), (fun _ => ⟨rfl, rfl, q_in 104 (by decide +kernel) (by decide +kernel)⟩), Or.inl (q_in 104 (by decide +kernel) (by decide +kernel))⟩
theorem q_fPa_28 : q_fok q_cl q_Ts q_Ns "PatternWalk$Parser" 28 (2, 1, .object "PatternWalk$CharSets", 1) := ⟨"PatternWalk$Parser", q_TPa, 6, q_YPa, rfl, (by decide), q_wPa, q_tPa, q_nPa, (by decide +kernel), (fun h => absurd h (by decide)), (fun _ => ⟨rfl, rfl, q_in 105 (by decide +kernel) (by decide +kernel)⟩), Or.inl (q_in 105 (by decide +kernel) (by decide +kernel))⟩
theorem q_fPa_9 : q_fok q_cl q_Ts q_Ns "PatternWalk$Parser" 9 (2, 2, .int, 0) := ⟨"PatternWalk$Parser", q_TPa, 6, q_YPa, rfl, (by decide), q_wPa, q_tPa, q_nPa, (by decide +kernel), (fun _ => rfl), (fun h => absurd h (by decide)), Or.inl (q_in 106 (by decide +kernel) (by decide +kernel))⟩
theorem q_fPa_15 : q_fok q_cl q_Ts q_Ns "PatternWalk$Parser" 15 (2, 3, .int, 0) := ⟨"PatternWalk$Parser", q_TPa, 6, q_YPa, rfl, (by decide), q_wPa, q_tPa, q_nPa, (by decide +kernel), (fun _ => rfl), (fun h => absurd h (by decide)), Or.inl (q_in 107 (by decide +kernel) (by decide +kernel))⟩
theorem q_fPa_18 : q_fok q_cl q_Ts q_Ns "PatternWalk$Parser" 18 (2, 4, .int, 0) := ⟨"PatternWalk$Parser", q_TPa, 6, q_YPa, rfl, (by decide), q_wPa, q_tPa, q_nPa, (by decide +kernel), (fun _ => rfl), (fun h => absurd h (by decide)), Or.inl (q_in 108 (by decide +kernel) (by decide +kernel))⟩
theorem q_fPa_21 : q_fok q_cl q_Ts q_Ns "PatternWalk$Parser" 21 (2, 5, .int, 0) := ⟨"PatternWalk$Parser", q_TPa, 6, q_YPa, rfl, (by decide), q_wPa, q_tPa, q_nPa, (by decide +kernel), (fun _ => rfl), (fun h => absurd h (by decide)), Or.inl (q_in 110 (by decide +kernel) (by decide +kernel))⟩
theorem q_fPa_57 : q_fok q_cl q_Ts q_Ns "PatternWalk$Parser" 57 (5, 2, .object "PatternWalk$Row", 0) := ⟨"PatternWalk$Row", q_TRw, 4, q_YRw, rfl, (by decide), q_wRw, q_tRw, q_nRw, (by decide +kernel), (fun _ => rfl), (fun h => absurd h (by decide)), Or.inr ⟨"PatternWalk", q_inN 508 (by decide +kernel) (by decide +kernel)⟩⟩
theorem q_fPa_79 : q_fok q_cl q_Ts q_Ns "PatternWalk$Parser" 79 (4, 0, .int, 0) := ⟨"PatternWalk$Repeat", q_TRp, 10, q_YRp, rfl, (by decide), q_wRp, q_tRp, q_nRp, (by decide +kernel), (fun _ => rfl), (fun h => absurd h (by decide)), Or.inr ⟨"PatternWalk", q_inN 536 (by decide +kernel) (by decide +kernel)⟩⟩
theorem q_fPa_95 : q_fok q_cl q_Ts q_Ns "PatternWalk$Parser" 95 (4, 1, .object "PatternWalk$Row", 0) := ⟨"PatternWalk$Repeat", q_TRp, 10, q_YRp, rfl, (by decide), q_wRp, q_tRp, q_nRp, (by decide +kernel), (fun _ => rfl), (fun h => absurd h (by decide)), Or.inr ⟨"PatternWalk", q_inN 539 (by decide +kernel) (by decide +kernel)⟩⟩
theorem q_fPa_92 : q_fok q_cl q_Ts q_Ns "PatternWalk$Parser" 92 (4, 2, .int, 0) := ⟨"PatternWalk$Repeat", q_TRp, 10, q_YRp, rfl, (by decide), q_wRp, q_tRp, q_nRp, (by decide +kernel), (fun _ => rfl), (fun h => absurd h (by decide)), Or.inr ⟨"PatternWalk", q_inN 542 (by decide +kernel) (by decide +kernel)⟩⟩
theorem q_fPa_101 : q_fok q_cl q_Ts q_Ns "PatternWalk$Parser" 101 (4, 3, .int, 0) := ⟨"PatternWalk$Repeat", q_TRp, 10, q_YRp, rfl, (by decide), q_wRp, q_tRp, q_nRp, (by decide +kernel), (fun _ => rfl), (fun h => absurd h (by decide)), Or.inr ⟨"PatternWalk", q_inN 545 (by decide +kernel) (by decide +kernel)⟩⟩
theorem q_fPa_127 : q_fok q_cl q_Ts q_Ns "PatternWalk$Parser" 127 (4, 4, .int, 0) := ⟨"PatternWalk$Repeat", q_TRp, 10, q_YRp, rfl, (by decide), q_wRp, q_tRp, q_nRp, (by decide +kernel), (fun _ => rfl), (fun h => absurd h (by decide)), Or.inr ⟨"PatternWalk", q_inN 549 (by decide +kernel) (by decide +kernel)⟩⟩
theorem q_fPa_147 : q_fok q_cl q_Ts q_Ns "PatternWalk$Parser" 147 (4, 5, .int, 0) := ⟨"PatternWalk$Repeat", q_TRp, 10, q_YRp, rfl, (by decide), q_wRp, q_tRp, q_nRp, (by decide +kernel), (fun _ => rfl), (fun h => absurd h (by decide)), Or.inr ⟨"PatternWalk", q_inN 552 (by decide +kernel) (by decide +kernel)⟩⟩
theorem q_fPa_130 : q_fok q_cl q_Ts q_Ns "PatternWalk$Parser" 130 (4, 6, .boolean, 0) := ⟨"PatternWalk$Repeat", q_TRp, 10, q_YRp, rfl, (by decide), q_wRp, q_tRp, q_nRp, (by decide +kernel), (fun _ => rfl), (fun h => absurd h (by decide)), Or.inr ⟨"PatternWalk", q_inN 555 (by decide +kernel) (by decide +kernel)⟩⟩
theorem q_fPa_134 : q_fok q_cl q_Ts q_Ns "PatternWalk$Parser" 134 (4, 7, .boolean, 0) := ⟨"PatternWalk$Repeat", q_TRp, 10, q_YRp, rfl, (by decide), q_wRp, q_tRp, q_nRp, (by decide +kernel), (fun _ => rfl), (fun h => absurd h (by decide)), Or.inr ⟨"PatternWalk", q_inN 558 (by decide +kernel) (by decide +kernel)⟩⟩
theorem q_fPa_140 : q_fok q_cl q_Ts q_Ns "PatternWalk$Parser" 140 (4, 8, .boolean, 0) := ⟨"PatternWalk$Repeat", q_TRp, 10, q_YRp, rfl, (by decide), q_wRp, q_tRp, q_nRp, (by decide +kernel), (fun _ => rfl), (fun h => absurd h (by decide)), Or.inr ⟨"PatternWalk", q_inN 561 (by decide +kernel) (by decide +kernel)⟩⟩
theorem q_kPa_50 : q_nok q_cl q_Ts "PatternWalk$Parser" 50 (5, [.null, .null, .null, .int 0]) := ⟨"PatternWalk$Row", q_TRw, 4, q_YRw, rfl, rfl, q_wRw, q_tRw, (by
    intro j hj
    match j, hj with
    | 0, _ => rfl
    | 1, _ => rfl
    | 2, _ => rfl
    | 3, _ => rfl
    | k + 4, hk => exact absurd hk (by omega)
    ), q_in 498 (by decide +kernel) (by decide +kernel), q_in 499 (by decide +kernel) (by decide +kernel), q_in 71 (by decide +kernel) (by decide +kernel)⟩
theorem q_kPa_69 : q_nok q_cl q_Ts "PatternWalk$Parser" 69 (4, [.int 0, .null, .int 0, .int 0, .int 0, .int 0, .int 0, .int 0, .int 0, .null]) := ⟨"PatternWalk$Repeat", q_TRp, 10, q_YRp, rfl, rfl, q_wRp, q_tRp, (by
    intro j hj
    match j, hj with
    | 0, _ => rfl
    | 1, _ => rfl
    | 2, _ => rfl
    | 3, _ => rfl
    | 4, _ => rfl
    | 5, _ => rfl
    | 6, _ => rfl
    | 7, _ => rfl
    | 8, _ => rfl
    | 9, _ => rfl
    | k + 10, hk => exact absurd hk (by omega)
    ), q_in 529 (by decide +kernel) (by decide +kernel), q_in 530 (by decide +kernel) (by decide +kernel), q_in 72 (by decide +kernel) (by decide +kernel)⟩
theorem q_gPa_3 : q_mok q_cl q_Ts q_Ns q_yn q_Mt "PatternWalk$Parser" 3 (0, 0, 0, 0) := ⟨q_in 103 (by decide +kernel) (by decide +kernel), q_in 81 (by decide +kernel) (by decide +kernel), q_in 82 (by decide +kernel) (by decide +kernel)⟩
theorem q_gPa_32 : q_mok q_cl q_Ts q_Ns q_yn q_Mt "PatternWalk$Parser" 32 (5, 0, 0, 0) := ⟨q_in 484 (by decide +kernel) (by decide +kernel), q_in 485 (by decide +kernel) (by decide +kernel), q_in 69 (by decide +kernel) (by decide +kernel), q_in 486 (by decide +kernel) (by decide +kernel)⟩
theorem q_gPa_38 : q_mok q_cl q_Ts q_Ns q_yn q_Mt "PatternWalk$Parser" 38 (1, 18, 0, 1) := ⟨⟨q_mCs_forgetAll, rfl, q_in 490 (by decide +kernel) (by decide +kernel), q_in 59 (by decide +kernel) (by decide +kernel), (by decide +kernel), (by decide)⟩, Or.inl (q_in 487 (by decide +kernel) (by decide +kernel)), q_in 488 (by decide +kernel) (by decide +kernel), q_in 489 (by decide +kernel) (by decide +kernel), ⟨q_TCs, 2, rfl⟩⟩
theorem q_gPa_43 : q_mok q_cl q_Ts q_Ns q_yn q_Mt "PatternWalk$Parser" 43 (1, 24, 1, 2) := ⟨⟨q_mPa_readChoice, rfl, q_in 497 (by decide +kernel) (by decide +kernel), q_in 60 (by decide +kernel) (by decide +kernel), (by decide +kernel), (by decide)⟩, Or.inl (q_in 494 (by decide +kernel) (by decide +kernel)), q_in 496 (by decide +kernel) (by decide +kernel), q_in 9 (by decide +kernel) (by decide +kernel), ⟨q_TPa, 6, rfl⟩⟩
theorem q_gPa_52 : q_mok q_cl q_Ts q_Ns q_yn q_Mt "PatternWalk$Parser" 52 (3, 55, 0, 0) := ⟨⟨q_mRw_init, ⟨rfl, q_in 502 (by decide +kernel) (by decide +kernel), q_in 71 (by decide +kernel) (by decide +kernel), (by decide +kernel), (by decide)⟩, rfl⟩, Or.inr ⟨"PatternWalk", q_inN 500 (by decide +kernel) (by decide +kernel)⟩, q_in 501 (by decide +kernel) (by decide +kernel), rfl⟩
theorem q_gPa_53 : q_mok q_cl q_Ts q_Ns q_yn q_Mt "PatternWalk$Parser" 53 (1, 25, 0, 2) := ⟨⟨q_mPa_peek, rfl, q_in 524 (by decide +kernel) (by decide +kernel), q_in 60 (by decide +kernel) (by decide +kernel), (by decide +kernel), (by decide)⟩, Or.inl (q_in 521 (by decide +kernel) (by decide +kernel)), q_in 523 (by decide +kernel) (by decide +kernel), q_in 10 (by decide +kernel) (by decide +kernel), ⟨q_TPa, 6, rfl⟩⟩
theorem q_gPa_61 : q_mok q_cl q_Ts q_Ns q_yn q_Mt "PatternWalk$Parser" 61 (1, 26, 1, 2) := ⟨⟨q_mPa_readRepeat, rfl, q_in 528 (by decide +kernel) (by decide +kernel), q_in 60 (by decide +kernel) (by decide +kernel), (by decide +kernel), (by decide)⟩, Or.inl (q_in 525 (by decide +kernel) (by decide +kernel)), q_in 527 (by decide +kernel) (by decide +kernel), q_in 11 (by decide +kernel) (by decide +kernel), ⟨q_TPa, 6, rfl⟩⟩
theorem q_gPa_71 : q_mok q_cl q_Ts q_Ns q_yn q_Mt "PatternWalk$Parser" 71 (3, 53, 0, 0) := ⟨⟨q_mRp_init, ⟨rfl, q_in 533 (by decide +kernel) (by decide +kernel), q_in 72 (by decide +kernel) (by decide +kernel), (by decide +kernel), (by decide)⟩, rfl⟩, Or.inr ⟨"PatternWalk", q_inN 531 (by decide +kernel) (by decide +kernel)⟩, q_in 532 (by decide +kernel) (by decide +kernel), rfl⟩
theorem q_gPa_72 : q_mok q_cl q_Ts q_Ns q_yn q_Mt "PatternWalk$Parser" 72 (1, 27, 2, 2) := ⟨⟨q_mPa_readGroup, rfl, q_in 589 (by decide +kernel) (by decide +kernel), q_in 60 (by decide +kernel) (by decide +kernel), (by decide +kernel), (by decide)⟩, Or.inl (q_in 586 (by decide +kernel) (by decide +kernel)), q_in 588 (by decide +kernel) (by decide +kernel), q_in 12 (by decide +kernel) (by decide +kernel), ⟨q_TPa, 6, rfl⟩⟩
theorem q_gPa_47 : q_mok q_cl q_Ts q_Ns q_yn q_Mt "PatternWalk$Parser" 47 (1, 28, 0, 2) := ⟨⟨q_mPa_fail, rfl, q_in 593 (by decide +kernel) (by decide +kernel), q_in 60 (by decide +kernel) (by decide +kernel), (by decide +kernel), (by decide)⟩, Or.inl (q_in 590 (by decide +kernel) (by decide +kernel)), q_in 592 (by decide +kernel) (by decide +kernel), q_in 13 (by decide +kernel) (by decide +kernel), ⟨q_TPa, 6, rfl⟩⟩
theorem q_gPa_89 : q_mok q_cl q_Ts q_Ns q_yn q_Mt "PatternWalk$Parser" 89 (1, 29, 1, 2) := ⟨⟨q_mPa_expect, rfl, q_in 597 (by decide +kernel) (by decide +kernel), q_in 60 (by decide +kernel) (by decide +kernel), (by decide +kernel), (by decide)⟩, Or.inl (q_in 594 (by decide +kernel) (by decide +kernel)), q_in 596 (by decide +kernel) (by decide +kernel), q_in 14 (by decide +kernel) (by decide +kernel), ⟨q_TPa, 6, rfl⟩⟩
theorem q_gPa_98 : q_mok q_cl q_Ts q_Ns q_yn q_Mt "PatternWalk$Parser" 98 (1, 56, 0, 5) := ⟨⟨q_mRw_sizeAsChoice, rfl, q_in 601 (by decide +kernel) (by decide +kernel), q_in 71 (by decide +kernel) (by decide +kernel), (by decide +kernel), (by decide)⟩, Or.inl (q_in 598 (by decide +kernel) (by decide +kernel)), q_in 599 (by decide +kernel) (by decide +kernel), q_in 600 (by decide +kernel) (by decide +kernel), ⟨q_TRw, 4, rfl⟩⟩
theorem q_gPa_76 : q_mok q_cl q_Ts q_Ns q_yn q_Mt "PatternWalk$Parser" 76 (1, 19, 0, 1) := ⟨⟨q_mCs_open, rfl, q_in 606 (by decide +kernel) (by decide +kernel), q_in 59 (by decide +kernel) (by decide +kernel), (by decide +kernel), (by decide)⟩, Or.inl (q_in 603 (by decide +kernel) (by decide +kernel)), q_in 604 (by decide +kernel) (by decide +kernel), q_in 605 (by decide +kernel) (by decide +kernel), ⟨q_TCs, 2, rfl⟩⟩
theorem q_gPa_82 : q_mok q_cl q_Ts q_Ns q_yn q_Mt "PatternWalk$Parser" 82 (1, 30, 1, 2) := ⟨⟨q_mPa_readCharacters, rfl, q_in 610 (by decide +kernel) (by decide +kernel), q_in 60 (by decide +kernel) (by decide +kernel), (by decide +kernel), (by decide)⟩, Or.inl (q_in 607 (by decide +kernel) (by decide +kernel)), q_in 609 (by decide +kernel) (by decide +kernel), q_in 15 (by decide +kernel) (by decide +kernel), ⟨q_TPa, 6, rfl⟩⟩
theorem q_gPa_104 : q_mok q_cl q_Ts q_Ns q_yn q_Mt "PatternWalk$Parser" 104 (1, 31, 1, 2) := ⟨⟨q_mPa_readSet, rfl, q_in 614 (by decide +kernel) (by decide +kernel), q_in 60 (by decide +kernel) (by decide +kernel), (by decide +kernel), (by decide)⟩, Or.inl (q_in 611 (by decide +kernel) (by decide +kernel)), q_in 613 (by decide +kernel) (by decide +kernel), q_in 16 (by decide +kernel) (by decide +kernel), ⟨q_TPa, 6, rfl⟩⟩
theorem q_gPa_118 : q_mok q_cl q_Ts q_Ns q_yn q_Mt "PatternWalk$Parser" 118 (1, 32, 1, 2) := ⟨⟨q_mPa_readItem, rfl, q_in 618 (by decide +kernel) (by decide +kernel), q_in 60 (by decide +kernel) (by decide +kernel), (by decide +kernel), (by decide)⟩, Or.inl (q_in 615 (by decide +kernel) (by decide +kernel)), q_in 617 (by decide +kernel) (by decide +kernel), q_in 17 (by decide +kernel) (by decide +kernel), ⟨q_TPa, 6, rfl⟩⟩
theorem q_gPa_107 : q_mok q_cl q_Ts q_Ns q_yn q_Mt "PatternWalk$Parser" 107 (1, 33, 1, 2) := ⟨⟨q_mPa_readEscaped, rfl, q_in 622 (by decide +kernel) (by decide +kernel), q_in 60 (by decide +kernel) (by decide +kernel), (by decide +kernel), (by decide)⟩, Or.inl (q_in 619 (by decide +kernel) (by decide +kernel)), q_in 621 (by decide +kernel) (by decide +kernel), q_in 18 (by decide +kernel) (by decide +kernel), ⟨q_TPa, 6, rfl⟩⟩
theorem q_gPa_110 : q_mok q_cl q_Ts q_Ns q_yn q_Mt "PatternWalk$Parser" 110 (1, 20, 3, 1) := ⟨⟨q_mCs_addRange, rfl, q_in 626 (by decide +kernel) (by decide +kernel), q_in 59 (by decide +kernel) (by decide +kernel), (by decide +kernel), (by decide)⟩, Or.inl (q_in 623 (by decide +kernel) (by decide +kernel)), q_in 624 (by decide +kernel) (by decide +kernel), q_in 625 (by decide +kernel) (by decide +kernel), ⟨q_TCs, 2, rfl⟩⟩
theorem q_gPa_124 : q_mok q_cl q_Ts q_Ns q_yn q_Mt "PatternWalk$Parser" 124 (2, 34, 1, 0) := ⟨⟨q_mPa_isItem, rfl, q_in 632 (by decide +kernel) (by decide +kernel), q_in 60 (by decide +kernel) (by decide +kernel), (by decide +kernel), (by decide)⟩, Or.inl (q_in 630 (by decide +kernel) (by decide +kernel)), q_in 631 (by decide +kernel) (by decide +kernel)⟩
theorem q_gPa_121 : q_mok q_cl q_Ts q_Ns q_yn q_Mt "PatternWalk$Parser" 121 (1, 21, 1, 1) := ⟨⟨q_mCs_invert, rfl, q_in 636 (by decide +kernel) (by decide +kernel), q_in 59 (by decide +kernel) (by decide +kernel), (by decide +kernel), (by decide)⟩, Or.inl (q_in 633 (by decide +kernel) (by decide +kernel)), q_in 634 (by decide +kernel) (by decide +kernel), q_in 635 (by decide +kernel) (by decide +kernel), ⟨q_TCs, 2, rfl⟩⟩
theorem q_gPa_114 : q_mok q_cl q_Ts q_Ns q_yn q_Mt "PatternWalk$Parser" 114 (2, 35, 1, 0) := ⟨⟨q_mPa_standsForItself, rfl, q_in 640 (by decide +kernel) (by decide +kernel), q_in 60 (by decide +kernel) (by decide +kernel), (by decide +kernel), (by decide)⟩, Or.inl (q_in 638 (by decide +kernel) (by decide +kernel)), q_in 639 (by decide +kernel) (by decide +kernel)⟩
theorem q_gPa_86 : q_mok q_cl q_Ts q_Ns q_yn q_Mt "PatternWalk$Parser" 86 (1, 36, 1, 2) := ⟨⟨q_mPa_readCount, rfl, q_in 644 (by decide +kernel) (by decide +kernel), q_in 60 (by decide +kernel) (by decide +kernel), (by decide +kernel), (by decide)⟩, Or.inl (q_in 641 (by decide +kernel) (by decide +kernel)), q_in 643 (by decide +kernel) (by decide +kernel), q_in 19 (by decide +kernel) (by decide +kernel), ⟨q_TPa, 6, rfl⟩⟩
theorem q_gPa_137 : q_mok q_cl q_Ts q_Ns q_yn q_Mt "PatternWalk$Parser" 137 (1, 37, 1, 2) := ⟨⟨q_mPa_readBraces, rfl, q_in 648 (by decide +kernel) (by decide +kernel), q_in 60 (by decide +kernel) (by decide +kernel), (by decide +kernel), (by decide)⟩, Or.inl (q_in 645 (by decide +kernel) (by decide +kernel)), q_in 647 (by decide +kernel) (by decide +kernel), q_in 20 (by decide +kernel) (by decide +kernel), ⟨q_TPa, 6, rfl⟩⟩
theorem q_gPa_143 : q_mok q_cl q_Ts q_Ns q_yn q_Mt "PatternWalk$Parser" 143 (2, 38, 1, 0) := ⟨⟨q_mPa_digit, rfl, q_in 651 (by decide +kernel) (by decide +kernel), q_in 60 (by decide +kernel) (by decide +kernel), (by decide +kernel), (by decide)⟩, Or.inl (q_in 649 (by decide +kernel) (by decide +kernel)), q_in 650 (by decide +kernel) (by decide +kernel)⟩
theorem q_gPa_150 : q_mok q_cl q_Ts q_Ns q_yn q_Mt "PatternWalk$Parser" 150 (1, 39, 1, 2) := ⟨⟨q_mPa_readMost, rfl, q_in 655 (by decide +kernel) (by decide +kernel), q_in 60 (by decide +kernel) (by decide +kernel), (by decide +kernel), (by decide)⟩, Or.inl (q_in 652 (by decide +kernel) (by decide +kernel)), q_in 654 (by decide +kernel) (by decide +kernel), q_in 21 (by decide +kernel) (by decide +kernel), ⟨q_TPa, 6, rfl⟩⟩
theorem q_gPa_65 : q_mok q_cl q_Ts q_Ns q_yn q_Mt "PatternWalk$Parser" 65 (1, 57, 1, 5) := ⟨⟨q_mRw_append, rfl, q_in 659 (by decide +kernel) (by decide +kernel), q_in 71 (by decide +kernel) (by decide +kernel), (by decide +kernel), (by decide)⟩, Or.inl (q_in 656 (by decide +kernel) (by decide +kernel)), q_in 657 (by decide +kernel) (by decide +kernel), q_in 658 (by decide +kernel) (by decide +kernel), ⟨q_TRw, 4, rfl⟩⟩
theorem q_pokPa : q_pok q_cl q_Ts q_Ns q_yn q_Mt "PatternWalk$Parser" q_PPa := by
  refine ⟨fun k f h => ?_, fun k n h => ?_, fun k x h => ?_, fun k v h => ?_, fun k v h => ?_⟩
  · have := q_lk_mem h
    exact (show ∀ e ∈ q_FPa, q_fok q_cl q_Ts q_Ns "PatternWalk$Parser" e.1 e.2 from (List.forall_mem_cons.mpr ⟨q_fPa_24, (List.forall_mem_cons.mpr ⟨q_fPa_28, (List.forall_mem_cons.mpr ⟨q_fPa_9, (List.forall_mem_cons.mpr ⟨q_fPa_15, (List.forall_mem_cons.mpr ⟨q_fPa_18, (List.forall_mem_cons.mpr ⟨q_fPa_21, (List.forall_mem_cons.mpr ⟨q_fPa_57, (List.forall_mem_cons.mpr ⟨q_fPa_79, (List.forall_mem_cons.mpr ⟨q_fPa_95, (List.forall_mem_cons.mpr ⟨q_fPa_92, (List.forall_mem_cons.mpr ⟨q_fPa_101, (List.forall_mem_cons.mpr ⟨q_fPa_127, (List.forall_mem_cons.mpr ⟨q_fPa_147, (List.forall_mem_cons.mpr ⟨q_fPa_130, (List.forall_mem_cons.mpr ⟨q_fPa_134, (List.forall_mem_cons.mpr ⟨q_fPa_140, (fun _ h => absurd h List.not_mem_nil)⟩)⟩)⟩)⟩)⟩)⟩)⟩)⟩)⟩)⟩)⟩)⟩)⟩)⟩)⟩)⟩)) (k, f) this
  · have := q_lk_mem h
    exact (show ∀ e ∈ q_CPa, ∀ n, e.2 = .inl n → q_nok q_cl q_Ts "PatternWalk$Parser" e.1 n from (List.forall_mem_cons.mpr ⟨(fun n hn => by cases hn; exact q_kPa_50), (List.forall_mem_cons.mpr ⟨(fun n hn => by cases hn; exact q_kPa_69), (fun _ h => absurd h List.not_mem_nil)⟩)⟩)) (k, .inl n) this n rfl
  · have := q_lk_mem h
    exact (show ∀ e ∈ q_MPa, q_mok q_cl q_Ts q_Ns q_yn q_Mt "PatternWalk$Parser" e.1 e.2 from (List.forall_mem_cons.mpr ⟨q_gPa_3, (List.forall_mem_cons.mpr ⟨q_gPa_32, (List.forall_mem_cons.mpr ⟨q_gPa_38, (List.forall_mem_cons.mpr ⟨q_gPa_43, (List.forall_mem_cons.mpr ⟨q_gPa_52, (List.forall_mem_cons.mpr ⟨q_gPa_53, (List.forall_mem_cons.mpr ⟨q_gPa_61, (List.forall_mem_cons.mpr ⟨q_gPa_71, (List.forall_mem_cons.mpr ⟨q_gPa_72, (List.forall_mem_cons.mpr ⟨q_gPa_47, (List.forall_mem_cons.mpr ⟨q_gPa_89, (List.forall_mem_cons.mpr ⟨q_gPa_98, (List.forall_mem_cons.mpr ⟨q_gPa_76, (List.forall_mem_cons.mpr ⟨q_gPa_82, (List.forall_mem_cons.mpr ⟨q_gPa_104, (List.forall_mem_cons.mpr ⟨q_gPa_118, (List.forall_mem_cons.mpr ⟨q_gPa_107, (List.forall_mem_cons.mpr ⟨q_gPa_110, (List.forall_mem_cons.mpr ⟨q_gPa_124, (List.forall_mem_cons.mpr ⟨q_gPa_121, (List.forall_mem_cons.mpr ⟨q_gPa_114, (List.forall_mem_cons.mpr ⟨q_gPa_86, (List.forall_mem_cons.mpr ⟨q_gPa_137, (List.forall_mem_cons.mpr ⟨q_gPa_143, (List.forall_mem_cons.mpr ⟨q_gPa_150, (List.forall_mem_cons.mpr ⟨q_gPa_65, (fun _ h => absurd h List.not_mem_nil)⟩)⟩)⟩)⟩)⟩)⟩)⟩)⟩)⟩)⟩)⟩)⟩)⟩)⟩)⟩)⟩)⟩)⟩)⟩)⟩)⟩)⟩)⟩)⟩)⟩)⟩)) (k, x) this
  · have := q_lk_mem h
    exact (show ∀ e ∈ q_IPa, Cond.constant "PatternWalk$Parser" e.1 e.2 ∈ q_Ts from (fun _ h => absurd h List.not_mem_nil)) (k, v) this
  · have := q_lk_mem h
    exact (show ∀ e ∈ q_LPa, Cond.constantLong "PatternWalk$Parser" e.1 e.2 ∈ q_Ts from (fun _ h => absurd h List.not_mem_nil)) (k, v) this
theorem q_fPr_9 : q_fok q_cl q_Ts q_Ns "PatternWalk$Program" 9 (3, 0, .array .int, 1) := ⟨"PatternWalk$Program", q_TPr, 5, q_YPr, rfl, (by decide), q_wPr, q_tPr, q_nPr, (by decide +kernel), (fun h => absurd h (by decide)), (fun _ => ⟨rfl, rfl, q_in 131 (by decide +kernel) (by decide +kernel)⟩), Or.inl (q_in 131 (by decide +kernel) (by decide +kernel))⟩
theorem q_fPr_15 : q_fok q_cl q_Ts q_Ns "PatternWalk$Program" 15 (3, 1, .array .int, 1) := ⟨"PatternWalk$Program", q_TPr, 5, q_YPr, rfl, (by decide), q_wPr, q_tPr, q_nPr, (by decide +kernel), (fun h => absurd h (by decide)), (fun _ => ⟨rfl, rfl, q_in 132 (by decide +kernel) (by decide +kernel)⟩), Or.inl (q_in 132 (by decide +kernel) (by decide +kernel))⟩
theorem q_fPr_18 : q_fok q_cl q_Ts q_Ns "PatternWalk$Program" 18 (3, 2, .array .int, 1) := ⟨"PatternWalk$Program", q_TPr, 5, q_YPr, rfl, (by decide), q_wPr, q_tPr, q_nPr, (by decide +kernel), (fun h => absurd h (by decide)), (fun _ => ⟨rfl, rfl, q_in 133 (by decide +kernel) (by decide +kernel)⟩), Or.inl (q_in 133 (by decide +kernel) (by decide +kernel))⟩
theorem q_fPr_21 : q_fok q_cl q_Ts q_Ns "PatternWalk$Program" 21 (3, 3, .int, 0) := ⟨"PatternWalk$Program", q_TPr, 5, q_YPr, rfl, (by decide), q_wPr, q_tPr, q_nPr, (by decide +kernel), (fun _ => rfl), (fun h => absurd h (by decide)), Or.inl (q_in 134 (by decide +kernel) (by decide +kernel))⟩
theorem q_fPr_25 : q_fok q_cl q_Ts q_Ns "PatternWalk$Program" 25 (3, 4, .int, 0) := ⟨"PatternWalk$Program", q_TPr, 5, q_YPr, rfl, (by decide), q_wPr, q_tPr, q_nPr, (by decide +kernel), (fun _ => rfl), (fun h => absurd h (by decide)), Or.inl (q_in 136 (by decide +kernel) (by decide +kernel))⟩
theorem q_fPr_54 : q_fok q_cl q_Ts q_Ns "PatternWalk$Program" 54 (5, 0, .object "PatternWalk$Repeat", 0) := ⟨"PatternWalk$Row", q_TRw, 4, q_YRw, rfl, (by decide), q_wRw, q_tRw, q_nRw, (by decide +kernel), (fun _ => rfl), (fun h => absurd h (by decide)), Or.inr ⟨"PatternWalk", q_inN 505 (by decide +kernel) (by decide +kernel)⟩⟩
theorem q_fPr_49 : q_fok q_cl q_Ts q_Ns "PatternWalk$Program" 49 (5, 2, .object "PatternWalk$Row", 0) := ⟨"PatternWalk$Row", q_TRw, 4, q_YRw, rfl, (by decide), q_wRw, q_tRw, q_nRw, (by decide +kernel), (fun _ => rfl), (fun h => absurd h (by decide)), Or.inr ⟨"PatternWalk", q_inN 509 (by decide +kernel) (by decide +kernel)⟩⟩
theorem q_fPr_53 : q_fok q_cl q_Ts q_Ns "PatternWalk$Program" 53 (5, 3, .int, 0) := ⟨"PatternWalk$Row", q_TRw, 4, q_YRw, rfl, (by decide), q_wRw, q_tRw, q_nRw, (by decide +kernel), (fun _ => rfl), (fun h => absurd h (by decide)), Or.inr ⟨"PatternWalk", q_inN 511 (by decide +kernel) (by decide +kernel)⟩⟩
theorem q_fPr_95 : q_fok q_cl q_Ts q_Ns "PatternWalk$Program" 95 (4, 0, .int, 0) := ⟨"PatternWalk$Repeat", q_TRp, 10, q_YRp, rfl, (by decide), q_wRp, q_tRp, q_nRp, (by decide +kernel), (fun _ => rfl), (fun h => absurd h (by decide)), Or.inr ⟨"PatternWalk", q_inN 537 (by decide +kernel) (by decide +kernel)⟩⟩
theorem q_fPr_92 : q_fok q_cl q_Ts q_Ns "PatternWalk$Program" 92 (4, 1, .object "PatternWalk$Row", 0) := ⟨"PatternWalk$Repeat", q_TRp, 10, q_YRp, rfl, (by decide), q_wRp, q_tRp, q_nRp, (by decide +kernel), (fun _ => rfl), (fun h => absurd h (by decide)), Or.inr ⟨"PatternWalk", q_inN 540 (by decide +kernel) (by decide +kernel)⟩⟩
theorem q_fPr_98 : q_fok q_cl q_Ts q_Ns "PatternWalk$Program" 98 (4, 2, .int, 0) := ⟨"PatternWalk$Repeat", q_TRp, 10, q_YRp, rfl, (by decide), q_wRp, q_tRp, q_nRp, (by decide +kernel), (fun _ => rfl), (fun h => absurd h (by decide)), Or.inr ⟨"PatternWalk", q_inN 543 (by decide +kernel) (by decide +kernel)⟩⟩
theorem q_fPr_86 : q_fok q_cl q_Ts q_Ns "PatternWalk$Program" 86 (4, 3, .int, 0) := ⟨"PatternWalk$Repeat", q_TRp, 10, q_YRp, rfl, (by decide), q_wRp, q_tRp, q_nRp, (by decide +kernel), (fun _ => rfl), (fun h => absurd h (by decide)), Or.inr ⟨"PatternWalk", q_inN 546 (by decide +kernel) (by decide +kernel)⟩⟩
theorem q_fPr_66 : q_fok q_cl q_Ts q_Ns "PatternWalk$Program" 66 (4, 4, .int, 0) := ⟨"PatternWalk$Repeat", q_TRp, 10, q_YRp, rfl, (by decide), q_wRp, q_tRp, q_nRp, (by decide +kernel), (fun _ => rfl), (fun h => absurd h (by decide)), Or.inr ⟨"PatternWalk", q_inN 548 (by decide +kernel) (by decide +kernel)⟩⟩
theorem q_fPr_89 : q_fok q_cl q_Ts q_Ns "PatternWalk$Program" 89 (4, 5, .int, 0) := ⟨"PatternWalk$Repeat", q_TRp, 10, q_YRp, rfl, (by decide), q_wRp, q_tRp, q_nRp, (by decide +kernel), (fun _ => rfl), (fun h => absurd h (by decide)), Or.inr ⟨"PatternWalk", q_inN 551 (by decide +kernel) (by decide +kernel)⟩⟩
theorem q_fPr_83 : q_fok q_cl q_Ts q_Ns "PatternWalk$Program" 83 (4, 6, .boolean, 0) := ⟨"PatternWalk$Repeat", q_TRp, 10, q_YRp, rfl, (by decide), q_wRp, q_tRp, q_nRp, (by decide +kernel), (fun _ => rfl), (fun h => absurd h (by decide)), Or.inr ⟨"PatternWalk", q_inN 554 (by decide +kernel) (by decide +kernel)⟩⟩
theorem q_fPr_72 : q_fok q_cl q_Ts q_Ns "PatternWalk$Program" 72 (4, 7, .boolean, 0) := ⟨"PatternWalk$Repeat", q_TRp, 10, q_YRp, rfl, (by decide), q_wRp, q_tRp, q_nRp, (by decide +kernel), (fun _ => rfl), (fun h => absurd h (by decide)), Or.inr ⟨"PatternWalk", q_inN 557 (by decide +kernel) (by decide +kernel)⟩⟩
theorem q_fPr_76 : q_fok q_cl q_Ts q_Ns "PatternWalk$Program" 76 (4, 8, .boolean, 0) := ⟨"PatternWalk$Repeat", q_TRp, 10, q_YRp, rfl, (by decide), q_wRp, q_tRp, q_nRp, (by decide +kernel), (fun _ => rfl), (fun h => absurd h (by decide)), Or.inr ⟨"PatternWalk", q_inN 560 (by decide +kernel) (by decide +kernel)⟩⟩
theorem q_fPr_62 : q_fok q_cl q_Ts q_Ns "PatternWalk$Program" 62 (4, 9, .object "PatternWalk$Repeat", 0) := ⟨"PatternWalk$Repeat", q_TRp, 10, q_YRp, rfl, (by decide), q_wRp, q_tRp, q_nRp, (by decide +kernel), (fun _ => rfl), (fun h => absurd h (by decide)), Or.inr ⟨"PatternWalk", q_inN 564 (by decide +kernel) (by decide +kernel)⟩⟩
theorem q_gPr_3 : q_mok q_cl q_Ts q_Ns q_yn q_Mt "PatternWalk$Program" 3 (0, 0, 0, 0) := ⟨q_in 130 (by decide +kernel) (by decide +kernel), q_in 81 (by decide +kernel) (by decide +kernel), q_in 82 (by decide +kernel) (by decide +kernel)⟩
theorem q_gPr_28 : q_mok q_cl q_Ts q_Ns q_yn q_Mt "PatternWalk$Program" 28 (1, 43, 1, 3) := ⟨⟨q_mPr_has, rfl, q_in 277 (by decide +kernel) (by decide +kernel), q_in 61 (by decide +kernel) (by decide +kernel), (by decide +kernel), (by decide)⟩, Or.inl (q_in 282 (by decide +kernel) (by decide +kernel)), q_in 275 (by decide +kernel) (by decide +kernel), q_in 276 (by decide +kernel) (by decide +kernel), ⟨q_TPr, 5, rfl⟩⟩
theorem q_gPr_32 : q_mok q_cl q_Ts q_Ns q_yn q_Mt "PatternWalk$Program" 32 (1, 42, 0, 3) := ⟨⟨q_mPr_erase, rfl, q_in 265 (by decide +kernel) (by decide +kernel), q_in 61 (by decide +kernel) (by decide +kernel), (by decide +kernel), (by decide)⟩, Or.inl (q_in 686 (by decide +kernel) (by decide +kernel)), q_in 263 (by decide +kernel) (by decide +kernel), q_in 264 (by decide +kernel) (by decide +kernel), ⟨q_TPr, 5, rfl⟩⟩
theorem q_gPr_35 : q_mok q_cl q_Ts q_Ns q_yn q_Mt "PatternWalk$Program" 35 (1, 48, 3, 3) := ⟨⟨q_mPr_add, rfl, q_in 690 (by decide +kernel) (by decide +kernel), q_in 61 (by decide +kernel) (by decide +kernel), (by decide +kernel), (by decide)⟩, Or.inl (q_in 687 (by decide +kernel) (by decide +kernel)), q_in 689 (by decide +kernel) (by decide +kernel), q_in 22 (by decide +kernel) (by decide +kernel), ⟨q_TPr, 5, rfl⟩⟩
theorem q_gPr_39 : q_mok q_cl q_Ts q_Ns q_yn q_Mt "PatternWalk$Program" 39 (1, 49, 2, 3) := ⟨⟨q_mPr_writeChoice, rfl, q_in 694 (by decide +kernel) (by decide +kernel), q_in 61 (by decide +kernel) (by decide +kernel), (by decide +kernel), (by decide)⟩, Or.inl (q_in 691 (by decide +kernel) (by decide +kernel)), q_in 693 (by decide +kernel) (by decide +kernel), q_in 23 (by decide +kernel) (by decide +kernel), ⟨q_TPr, 5, rfl⟩⟩
theorem q_gPr_43 : q_mok q_cl q_Ts q_Ns q_yn q_Mt "PatternWalk$Program" 43 (1, 56, 0, 5) := ⟨⟨q_mRw_sizeAsChoice, rfl, q_in 601 (by decide +kernel) (by decide +kernel), q_in 71 (by decide +kernel) (by decide +kernel), (by decide +kernel), (by decide)⟩, Or.inl (q_in 695 (by decide +kernel) (by decide +kernel)), q_in 599 (by decide +kernel) (by decide +kernel), q_in 600 (by decide +kernel) (by decide +kernel), ⟨q_TRw, 4, rfl⟩⟩
theorem q_gPr_58 : q_mok q_cl q_Ts q_Ns q_yn q_Mt "PatternWalk$Program" 58 (1, 50, 2, 3) := ⟨⟨q_mPr_writeRepeat, rfl, q_in 699 (by decide +kernel) (by decide +kernel), q_in 61 (by decide +kernel) (by decide +kernel), (by decide +kernel), (by decide)⟩, Or.inl (q_in 696 (by decide +kernel) (by decide +kernel)), q_in 698 (by decide +kernel) (by decide +kernel), q_in 24 (by decide +kernel) (by decide +kernel), ⟨q_TPr, 5, rfl⟩⟩
theorem q_gPr_69 : q_mok q_cl q_Ts q_Ns q_yn q_Mt "PatternWalk$Program" 69 (1, 51, 2, 3) := ⟨⟨q_mPr_writeAtom, rfl, q_in 703 (by decide +kernel) (by decide +kernel), q_in 61 (by decide +kernel) (by decide +kernel), (by decide +kernel), (by decide)⟩, Or.inl (q_in 700 (by decide +kernel) (by decide +kernel)), q_in 702 (by decide +kernel) (by decide +kernel), q_in 25 (by decide +kernel) (by decide +kernel), ⟨q_TPr, 5, rfl⟩⟩
theorem q_gPr_79 : q_mok q_cl q_Ts q_Ns q_yn q_Mt "PatternWalk$Program" 79 (1, 52, 3, 3) := ⟨⟨q_mPr_addSplit, rfl, q_in 707 (by decide +kernel) (by decide +kernel), q_in 61 (by decide +kernel) (by decide +kernel), (by decide +kernel), (by decide)⟩, Or.inl (q_in 704 (by decide +kernel) (by decide +kernel)), q_in 706 (by decide +kernel) (by decide +kernel), q_in 26 (by decide +kernel) (by decide +kernel), ⟨q_TPr, 5, rfl⟩⟩
theorem q_pokPr : q_pok q_cl q_Ts q_Ns q_yn q_Mt "PatternWalk$Program" q_PPr := by
  refine ⟨fun k f h => ?_, fun k n h => ?_, fun k x h => ?_, fun k v h => ?_, fun k v h => ?_⟩
  · have := q_lk_mem h
    exact (show ∀ e ∈ q_FPr, q_fok q_cl q_Ts q_Ns "PatternWalk$Program" e.1 e.2 from (List.forall_mem_cons.mpr ⟨q_fPr_9, (List.forall_mem_cons.mpr ⟨q_fPr_15, (List.forall_mem_cons.mpr ⟨q_fPr_18, (List.forall_mem_cons.mpr ⟨q_fPr_21, (List.forall_mem_cons.mpr ⟨q_fPr_25, (List.forall_mem_cons.mpr ⟨q_fPr_54, (List.forall_mem_cons.mpr ⟨q_fPr_49, (List.forall_mem_cons.mpr ⟨q_fPr_53, (List.forall_mem_cons.mpr ⟨q_fPr_95, (List.forall_mem_cons.mpr ⟨q_fPr_92, (List.forall_mem_cons.mpr ⟨q_fPr_98, (List.forall_mem_cons.mpr ⟨q_fPr_86, (List.forall_mem_cons.mpr ⟨q_fPr_66, (List.forall_mem_cons.mpr ⟨q_fPr_89, (List.forall_mem_cons.mpr ⟨q_fPr_83, (List.forall_mem_cons.mpr ⟨q_fPr_72, (List.forall_mem_cons.mpr ⟨q_fPr_76, (List.forall_mem_cons.mpr ⟨q_fPr_62, (fun _ h => absurd h List.not_mem_nil)⟩)⟩)⟩)⟩)⟩)⟩)⟩)⟩)⟩)⟩)⟩)⟩)⟩)⟩)⟩)⟩)⟩)⟩)) (k, f) this
  · have := q_lk_mem h
    exact (show ∀ e ∈ q_CPr, ∀ n, e.2 = .inl n → q_nok q_cl q_Ts "PatternWalk$Program" e.1 n from (fun _ h => absurd h List.not_mem_nil)) (k, .inl n) this n rfl
  · have := q_lk_mem h
    exact (show ∀ e ∈ q_MPr, q_mok q_cl q_Ts q_Ns q_yn q_Mt "PatternWalk$Program" e.1 e.2 from (List.forall_mem_cons.mpr ⟨q_gPr_3, (List.forall_mem_cons.mpr ⟨q_gPr_28, (List.forall_mem_cons.mpr ⟨q_gPr_32, (List.forall_mem_cons.mpr ⟨q_gPr_35, (List.forall_mem_cons.mpr ⟨q_gPr_39, (List.forall_mem_cons.mpr ⟨q_gPr_43, (List.forall_mem_cons.mpr ⟨q_gPr_58, (List.forall_mem_cons.mpr ⟨q_gPr_69, (List.forall_mem_cons.mpr ⟨q_gPr_79, (fun _ h => absurd h List.not_mem_nil)⟩)⟩)⟩)⟩)⟩)⟩)⟩)⟩)⟩)) (k, x) this
  · have := q_lk_mem h
    exact (show ∀ e ∈ q_IPr, Cond.constant "PatternWalk$Program" e.1 e.2 ∈ q_Ts from (fun _ h => absurd h List.not_mem_nil)) (k, v) this
  · have := q_lk_mem h
    exact (show ∀ e ∈ q_LPr, Cond.constantLong "PatternWalk$Program" e.1 e.2 ∈ q_Ts from (fun _ h => absurd h List.not_mem_nil)) (k, v) this
theorem q_fRp_9 : q_fok q_cl q_Ts q_Ns "PatternWalk$Repeat" 9 (4, 0, .int, 0) := ⟨"PatternWalk$Repeat", q_TRp, 10, q_YRp, rfl, (by decide), q_wRp, q_tRp, q_nRp, (by decide +kernel), (fun _ => rfl), (fun h => absurd h (by decide)), Or.inl (q_in 535 (by decide +kernel) (by decide +kernel))⟩
theorem q_fRp_15 : q_fok q_cl q_Ts q_Ns "PatternWalk$Repeat" 15 (4, 1, .object "PatternWalk$Row", 0) := ⟨"PatternWalk$Repeat", q_TRp, 10, q_YRp, rfl, (by decide), q_wRp, q_tRp, q_nRp, (by decide +kernel), (fun _ => rfl), (fun h => absurd h (by decide)), Or.inl (q_in 538 (by decide +kernel) (by decide +kernel))⟩
theorem q_fRp_19 : q_fok q_cl q_Ts q_Ns "PatternWalk$Repeat" 19 (4, 2, .int, 0) := ⟨"PatternWalk$Repeat", q_TRp, 10, q_YRp, rfl, (by decide), q_wRp, q_tRp, q_nRp, (by decide +kernel), (fun _ => rfl), (fun h => absurd h (by decide)), Or.inl (q_in 541 (by decide +kernel) (by decide +kernel))⟩
theorem q_fRp_22 : q_fok q_cl q_Ts q_Ns "PatternWalk$Repeat" 22 (4, 3, .int, 0) := ⟨"PatternWalk$Repeat", q_TRp, 10, q_YRp, rfl, (by decide), q_wRp, q_tRp, q_nRp, (by decide +kernel), (fun _ => rfl), (fun h => absurd h (by decide)), Or.inl (q_in 544 (by decide +kernel) (by decide +kernel))⟩
theorem q_fRp_25 : q_fok q_cl q_Ts q_Ns "PatternWalk$Repeat" 25 (4, 4, .int, 0) := ⟨"PatternWalk$Repeat", q_TRp, 10, q_YRp, rfl, (by decide), q_wRp, q_tRp, q_nRp, (by decide +kernel), (fun _ => rfl), (fun h => absurd h (by decide)), Or.inl (q_in 547 (by decide +kernel) (by decide +kernel))⟩
theorem q_fRp_28 : q_fok q_cl q_Ts q_Ns "PatternWalk$Repeat" 28 (4, 5, .int, 0) := ⟨"PatternWalk$Repeat", q_TRp, 10, q_YRp, rfl, (by decide), q_wRp, q_tRp, q_nRp, (by decide +kernel), (fun _ => rfl), (fun h => absurd h (by decide)), Or.inl (q_in 550 (by decide +kernel) (by decide +kernel))⟩
theorem q_fRp_31 : q_fok q_cl q_Ts q_Ns "PatternWalk$Repeat" 31 (4, 6, .boolean, 0) := ⟨"PatternWalk$Repeat", q_TRp, 10, q_YRp, rfl, (by decide), q_wRp, q_tRp, q_nRp, (by decide +kernel), (fun _ => rfl), (fun h => absurd h (by decide)), Or.inl (q_in 553 (by decide +kernel) (by decide +kernel))⟩
theorem q_fRp_35 : q_fok q_cl q_Ts q_Ns "PatternWalk$Repeat" 35 (4, 7, .boolean, 0) := ⟨"PatternWalk$Repeat", q_TRp, 10, q_YRp, rfl, (by decide), q_wRp, q_tRp, q_nRp, (by decide +kernel), (fun _ => rfl), (fun h => absurd h (by decide)), Or.inl (q_in 556 (by decide +kernel) (by decide +kernel))⟩
theorem q_fRp_38 : q_fok q_cl q_Ts q_Ns "PatternWalk$Repeat" 38 (4, 8, .boolean, 0) := ⟨"PatternWalk$Repeat", q_TRp, 10, q_YRp, rfl, (by decide), q_wRp, q_tRp, q_nRp, (by decide +kernel), (fun _ => rfl), (fun h => absurd h (by decide)), Or.inl (q_in 559 (by decide +kernel) (by decide +kernel))⟩
theorem q_fRp_41 : q_fok q_cl q_Ts q_Ns "PatternWalk$Repeat" 41 (4, 9, .object "PatternWalk$Repeat", 0) := ⟨"PatternWalk$Repeat", q_TRp, 10, q_YRp, rfl, (by decide), q_wRp, q_tRp, q_nRp, (by decide +kernel), (fun _ => rfl), (fun h => absurd h (by decide)), Or.inl (q_in 562 (by decide +kernel) (by decide +kernel))⟩
theorem q_gRp_3 : q_mok q_cl q_Ts q_Ns q_yn q_Mt "PatternWalk$Repeat" 3 (0, 0, 0, 0) := ⟨q_in 534 (by decide +kernel) (by decide +kernel), q_in 81 (by decide +kernel) (by decide +kernel), q_in 82 (by decide +kernel) (by decide +kernel)⟩
theorem q_pokRp : q_pok q_cl q_Ts q_Ns q_yn q_Mt "PatternWalk$Repeat" q_PRp := by
  refine ⟨fun k f h => ?_, fun k n h => ?_, fun k x h => ?_, fun k v h => ?_, fun k v h => ?_⟩
  · have := q_lk_mem h
    exact (show ∀ e ∈ q_FRp, q_fok q_cl q_Ts q_Ns "PatternWalk$Repeat" e.1 e.2 from (List.forall_mem_cons.mpr ⟨q_fRp_9, (List.forall_mem_cons.mpr ⟨q_fRp_15, (List.forall_mem_cons.mpr ⟨q_fRp_19, (List.forall_mem_cons.mpr ⟨q_fRp_22, (List.forall_mem_cons.mpr ⟨q_fRp_25, (List.forall_mem_cons.mpr ⟨q_fRp_28, (List.forall_mem_cons.mpr ⟨q_fRp_31, (List.forall_mem_cons.mpr ⟨q_fRp_35, (List.forall_mem_cons.mpr ⟨q_fRp_38, (List.forall_mem_cons.mpr ⟨q_fRp_41, (fun _ h => absurd h List.not_mem_nil)⟩)⟩)⟩)⟩)⟩)⟩)⟩)⟩)⟩)⟩)) (k, f) this
  · have := q_lk_mem h
    exact (show ∀ e ∈ q_CRp, ∀ n, e.2 = .inl n → q_nok q_cl q_Ts "PatternWalk$Repeat" e.1 n from (fun _ h => absurd h List.not_mem_nil)) (k, .inl n) this n rfl
  · have := q_lk_mem h
    exact (show ∀ e ∈ q_MRp, q_mok q_cl q_Ts q_Ns q_yn q_Mt "PatternWalk$Repeat" e.1 e.2 from (List.forall_mem_cons.mpr ⟨q_gRp_3, (fun _ h => absurd h List.not_mem_nil)⟩)) (k, x) this
  · have := q_lk_mem h
    exact (show ∀ e ∈ q_IRp, Cond.constant "PatternWalk$Repeat" e.1 e.2 ∈ q_Ts from (fun _ h => absurd h List.not_mem_nil)) (k, v) this
  · have := q_lk_mem h
    exact (show ∀ e ∈ q_LRp, Cond.constantLong "PatternWalk$Repeat" e.1 e.2 ∈ q_Ts from (fun _ h => absurd h List.not_mem_nil)) (k, v) this
theorem q_fRw_7 : q_fok q_cl q_Ts q_Ns "PatternWalk$Row" 7 (5, 0, .object "PatternWalk$Repeat", 0) := ⟨"PatternWalk$Row", q_TRw, 4, q_YRw, rfl, (by decide), q_wRw, q_tRw, q_nRw, (by decide +kernel), (fun _ => rfl), (fun h => absurd h (by decide)), Or.inl (q_in 504 (by decide +kernel) (by decide +kernel))⟩
theorem q_fRw_13 : q_fok q_cl q_Ts q_Ns "PatternWalk$Row" 13 (5, 1, .object "PatternWalk$Repeat", 0) := ⟨"PatternWalk$Row", q_TRw, 4, q_YRw, rfl, (by decide), q_wRw, q_tRw, q_nRw, (by decide +kernel), (fun _ => rfl), (fun h => absurd h (by decide)), Or.inl (q_in 506 (by decide +kernel) (by decide +kernel))⟩
theorem q_fRw_16 : q_fok q_cl q_Ts q_Ns "PatternWalk$Row" 16 (5, 2, .object "PatternWalk$Row", 0) := ⟨"PatternWalk$Row", q_TRw, 4, q_YRw, rfl, (by decide), q_wRw, q_tRw, q_nRw, (by decide +kernel), (fun _ => rfl), (fun h => absurd h (by decide)), Or.inl (q_in 507 (by decide +kernel) (by decide +kernel))⟩
theorem q_fRw_20 : q_fok q_cl q_Ts q_Ns "PatternWalk$Row" 20 (5, 3, .int, 0) := ⟨"PatternWalk$Row", q_TRw, 4, q_YRw, rfl, (by decide), q_wRw, q_tRw, q_nRw, (by decide +kernel), (fun _ => rfl), (fun h => absurd h (by decide)), Or.inl (q_in 510 (by decide +kernel) (by decide +kernel))⟩
theorem q_fRw_24 : q_fok q_cl q_Ts q_Ns "PatternWalk$Row" 24 (4, 9, .object "PatternWalk$Repeat", 0) := ⟨"PatternWalk$Repeat", q_TRp, 10, q_YRp, rfl, (by decide), q_wRp, q_tRp, q_nRp, (by decide +kernel), (fun _ => rfl), (fun h => absurd h (by decide)), Or.inr ⟨"PatternWalk", q_inN 563 (by decide +kernel) (by decide +kernel)⟩⟩
theorem q_gRw_1 : q_mok q_cl q_Ts q_Ns q_yn q_Mt "PatternWalk$Row" 1 (0, 0, 0, 0) := ⟨q_in 503 (by decide +kernel) (by decide +kernel), q_in 81 (by decide +kernel) (by decide +kernel), q_in 82 (by decide +kernel) (by decide +kernel)⟩
theorem q_gRw_31 : q_mok q_cl q_Ts q_Ns q_yn q_Mt "PatternWalk$Row" 31 (5, 0, 0, 0) := ⟨q_in 602 (by decide +kernel) (by decide +kernel), q_in 485 (by decide +kernel) (by decide +kernel), q_in 69 (by decide +kernel) (by decide +kernel), q_in 486 (by decide +kernel) (by decide +kernel)⟩
theorem q_gRw_28 : q_mok q_cl q_Ts q_Ns q_yn q_Mt "PatternWalk$Row" 28 (1, 54, 0, 4) := ⟨⟨q_mRp_size, rfl, q_in 663 (by decide +kernel) (by decide +kernel), q_in 72 (by decide +kernel) (by decide +kernel), (by decide +kernel), (by decide)⟩, Or.inl (q_in 660 (by decide +kernel) (by decide +kernel)), q_in 661 (by decide +kernel) (by decide +kernel), q_in 662 (by decide +kernel) (by decide +kernel), ⟨q_TRp, 10, rfl⟩⟩
theorem q_pokRw : q_pok q_cl q_Ts q_Ns q_yn q_Mt "PatternWalk$Row" q_PRw := by
  refine ⟨fun k f h => ?_, fun k n h => ?_, fun k x h => ?_, fun k v h => ?_, fun k v h => ?_⟩
  · have := q_lk_mem h
    exact (show ∀ e ∈ q_FRw, q_fok q_cl q_Ts q_Ns "PatternWalk$Row" e.1 e.2 from (List.forall_mem_cons.mpr ⟨q_fRw_7, (List.forall_mem_cons.mpr ⟨q_fRw_13, (List.forall_mem_cons.mpr ⟨q_fRw_16, (List.forall_mem_cons.mpr ⟨q_fRw_20, (List.forall_mem_cons.mpr ⟨q_fRw_24, (fun _ h => absurd h List.not_mem_nil)⟩)⟩)⟩)⟩)⟩)) (k, f) this
  · have := q_lk_mem h
    exact (show ∀ e ∈ q_CRw, ∀ n, e.2 = .inl n → q_nok q_cl q_Ts "PatternWalk$Row" e.1 n from (fun _ h => absurd h List.not_mem_nil)) (k, .inl n) this n rfl
  · have := q_lk_mem h
    exact (show ∀ e ∈ q_MRw, q_mok q_cl q_Ts q_Ns q_yn q_Mt "PatternWalk$Row" e.1 e.2 from (List.forall_mem_cons.mpr ⟨q_gRw_1, (List.forall_mem_cons.mpr ⟨q_gRw_31, (List.forall_mem_cons.mpr ⟨q_gRw_28, (fun _ h => absurd h List.not_mem_nil)⟩)⟩)⟩)) (k, x) this
  · have := q_lk_mem h
    exact (show ∀ e ∈ q_IRw, Cond.constant "PatternWalk$Row" e.1 e.2 ∈ q_Ts from (fun _ h => absurd h List.not_mem_nil)) (k, v) this
  · have := q_lk_mem h
    exact (show ∀ e ∈ q_LRw, Cond.constantLong "PatternWalk$Row" e.1 e.2 ∈ q_Ts from (fun _ h => absurd h List.not_mem_nil)) (k, v) this
theorem q_fWk_65 : q_fok q_cl q_Ts q_Ns "PatternWalk$Walk" 65 (7, 2, .int, 0) := ⟨"PatternWalk$Ways", q_TWy, 3, q_YWy, rfl, (by decide), q_wWy, q_tWy, q_nWy, (by decide +kernel), (fun _ => rfl), (fun h => absurd h (by decide)), Or.inr ⟨"PatternWalk", q_inN 165 (by decide +kernel) (by decide +kernel)⟩⟩
theorem q_fWk_57 : q_fok q_cl q_Ts q_Ns "PatternWalk$Walk" 57 (6, 0, .object "PatternWalk$Program", 1) := ⟨"PatternWalk$Walk", q_TWk, 15, q_YWk, rfl, (by decide), q_wWk, q_tWk, q_nWk, (by decide +kernel), (fun h => absurd h (by decide)), (fun _ => ⟨rfl, rfl, q_in 174 (by decide +kernel) (by decide +kernel)⟩), Or.inl (q_in 174 (by decide +kernel) (by decide +kernel))⟩
theorem q_fWk_61 : q_fok q_cl q_Ts q_Ns "PatternWalk$Walk" 61 (6, 1, .object "PatternWalk$CharSets", 1) := ⟨"PatternWalk$Walk", q_TWk, 15, q_YWk, rfl, (by decide), q_wWk, q_tWk, q_nWk, (by decide +kernel), (fun h => absurd h (by decide)), (fun _ => ⟨rfl, rfl, q_in 175 (by decide +kernel) (by decide +kernel)⟩), Or.inl (q_in 175 (by decide +kernel) (by decide +kernel))⟩
theorem q_fWk_12 : q_fok q_cl q_Ts q_Ns "PatternWalk$Walk" 12 (6, 2, .object "PatternWalk$Ways", 0) := ⟨"PatternWalk$Walk", q_TWk, 15, q_YWk, rfl, (by decide), q_wWk, q_tWk, q_nWk, (by decide +kernel), (fun _ => rfl), (fun h => absurd h (by decide)), Or.inl (q_in 176 (by decide +kernel) (by decide +kernel))⟩
theorem q_fWk_18 : q_fok q_cl q_Ts q_Ns "PatternWalk$Walk" 18 (6, 3, .object "PatternWalk$Ways", 0) := ⟨"PatternWalk$Walk", q_TWk, 15, q_YWk, rfl, (by decide), q_wWk, q_tWk, q_nWk, (by decide +kernel), (fun _ => rfl), (fun h => absurd h (by decide)), Or.inl (q_in 178 (by decide +kernel) (by decide +kernel))⟩
theorem q_fWk_21 : q_fok q_cl q_Ts q_Ns "PatternWalk$Walk" 21 (6, 4, .array .int, 1) := ⟨"PatternWalk$Walk", q_TWk, 15, q_YWk, rfl, (by decide), q_wWk, q_tWk, q_nWk, (by decide +kernel), (fun h => absurd h (by decide)), (fun _ => ⟨rfl, rfl, q_in 179 (by decide +kernel) (by decide +kernel)⟩), Or.inl (q_in 179 (by decide +kernel) (by decide +kernel))⟩
theorem q_fWk_25 : q_fok q_cl q_Ts q_Ns "PatternWalk$Walk" 25 (6, 5, .array .int, 1) := ⟨"PatternWalk$Walk", q_TWk, 15, q_YWk, rfl, (by decide), q_wWk, q_tWk, q_nWk, (by decide +kernel), (fun h => absurd h (by decide)), (fun _ => ⟨rfl, rfl, q_in 180 (by decide +kernel) (by decide +kernel)⟩), Or.inl (q_in 180 (by decide +kernel) (by decide +kernel))⟩
theorem q_fWk_28 : q_fok q_cl q_Ts q_Ns "PatternWalk$Walk" 28 (6, 6, .array .int, 1) := ⟨"PatternWalk$Walk", q_TWk, 15, q_YWk, rfl, (by decide), q_wWk, q_tWk, q_nWk, (by decide +kernel), (fun h => absurd h (by decide)), (fun _ => ⟨rfl, rfl, q_in 181 (by decide +kernel) (by decide +kernel)⟩), Or.inl (q_in 181 (by decide +kernel) (by decide +kernel))⟩
theorem q_fWk_31 : q_fok q_cl q_Ts q_Ns "PatternWalk$Walk" 31 (6, 7, .int, 0) := ⟨"PatternWalk$Walk", q_TWk, 15, q_YWk, rfl, (by decide), q_wWk, q_tWk, q_nWk, (by decide +kernel), (fun _ => rfl), (fun h => absurd h (by decide)), Or.inl (q_in 182 (by decide +kernel) (by decide +kernel))⟩
theorem q_fWk_35 : q_fok q_cl q_Ts q_Ns "PatternWalk$Walk" 35 (6, 8, .array .int, 1) := ⟨"PatternWalk$Walk", q_TWk, 15, q_YWk, rfl, (by decide), q_wWk, q_tWk, q_nWk, (by decide +kernel), (fun h => absurd h (by decide)), (fun _ => ⟨rfl, rfl, q_in 183 (by decide +kernel) (by decide +kernel)⟩), Or.inl (q_in 183 (by decide +kernel) (by decide +kernel))⟩
theorem q_fWk_38 : q_fok q_cl q_Ts q_Ns "PatternWalk$Walk" 38 (6, 9, .array .int, 1) := ⟨"PatternWalk$Walk", q_TWk, 15, q_YWk, rfl, (by decide), q_wWk, q_tWk, q_nWk, (by decide +kernel), (fun h => absurd h (by decide)), (fun _ => ⟨rfl, rfl, q_in 184 (by decide +kernel) (by decide +kernel)⟩), Or.inl (q_in 184 (by decide +kernel) (by decide +kernel))⟩
theorem q_fWk_41 : q_fok q_cl q_Ts q_Ns "PatternWalk$Walk" 41 (6, 10, .boolean, 0) := ⟨"PatternWalk$Walk", q_TWk, 15, q_YWk, rfl, (by decide), q_wWk, q_tWk, q_nWk, (by decide +kernel), (fun _ => rfl), (fun h => absurd h (by decide)), Or.inl (q_in 185 (by decide +kernel) (by decide +kernel))⟩
theorem q_fWk_45 : q_fok q_cl q_Ts q_Ns "PatternWalk$Walk" 45 (6, 11, .boolean, 0) := ⟨"PatternWalk$Walk", q_TWk, 15, q_YWk, rfl, (by decide), q_wWk, q_tWk, q_nWk, (by decide +kernel), (fun _ => rfl), (fun h => absurd h (by decide)), Or.inl (q_in 187 (by decide +kernel) (by decide +kernel))⟩
theorem q_fWk_48 : q_fok q_cl q_Ts q_Ns "PatternWalk$Walk" 48 (6, 12, .boolean, 0) := ⟨"PatternWalk$Walk", q_TWk, 15, q_YWk, rfl, (by decide), q_wWk, q_tWk, q_nWk, (by decide +kernel), (fun _ => rfl), (fun h => absurd h (by decide)), Or.inl (q_in 188 (by decide +kernel) (by decide +kernel))⟩
theorem q_fWk_51 : q_fok q_cl q_Ts q_Ns "PatternWalk$Walk" 51 (6, 13, .boolean, 0) := ⟨"PatternWalk$Walk", q_TWk, 15, q_YWk, rfl, (by decide), q_wWk, q_tWk, q_nWk, (by decide +kernel), (fun _ => rfl), (fun h => absurd h (by decide)), Or.inl (q_in 190 (by decide +kernel) (by decide +kernel))⟩
theorem q_fWk_54 : q_fok q_cl q_Ts q_Ns "PatternWalk$Walk" 54 (6, 14, .int, 0) := ⟨"PatternWalk$Walk", q_TWk, 15, q_YWk, rfl, (by decide), q_wWk, q_tWk, q_nWk, (by decide +kernel), (fun _ => rfl), (fun h => absurd h (by decide)), Or.inl (q_in 191 (by decide +kernel) (by decide +kernel))⟩
theorem q_kWk_9 : q_nok q_cl q_Ts "PatternWalk$Walk" 9 (7, [.null, .null, .int 0]) := ⟨"PatternWalk$Ways", q_TWy, 3, q_YWy, rfl, rfl, q_wWy, q_tWy, (by
    intro j hj
    match j, hj with
    | 0, _ => rfl
    | 1, _ => rfl
    | 2, _ => rfl
    | k + 3, hk => exact absurd hk (by omega)
    ), q_in 156 (by decide +kernel) (by decide +kernel), q_in 157 (by decide +kernel) (by decide +kernel), q_in 63 (by decide +kernel) (by decide +kernel)⟩
theorem q_gWk_3 : q_mok q_cl q_Ts q_Ns q_yn q_Mt "PatternWalk$Walk" 3 (0, 0, 0, 0) := ⟨q_in 155 (by decide +kernel) (by decide +kernel), q_in 81 (by decide +kernel) (by decide +kernel), q_in 82 (by decide +kernel) (by decide +kernel)⟩
theorem q_gWk_11 : q_mok q_cl q_Ts q_Ns q_yn q_Mt "PatternWalk$Walk" 11 (3, 71, 0, 0) := ⟨⟨q_mWy_init, ⟨rfl, q_in 160 (by decide +kernel) (by decide +kernel), q_in 63 (by decide +kernel) (by decide +kernel), (by decide +kernel), (by decide)⟩, rfl⟩, Or.inr ⟨"PatternWalk", q_inN 158 (by decide +kernel) (by decide +kernel)⟩, q_in 159 (by decide +kernel) (by decide +kernel), rfl⟩
theorem q_gWk_68 : q_mok q_cl q_Ts q_Ns q_yn q_Mt "PatternWalk$Walk" 68 (2, 123, 2, 0) := ⟨⟨q_mAr_fill, rfl, q_in 319 (by decide +kernel) (by decide +kernel), q_in 70 (by decide +kernel) (by decide +kernel), (by decide +kernel), (by decide)⟩, Or.inl (q_in 317 (by decide +kernel) (by decide +kernel)), q_in 318 (by decide +kernel) (by decide +kernel)⟩
theorem q_gWk_74 : q_mok q_cl q_Ts q_Ns q_yn q_Mt "PatternWalk$Walk" 74 (1, 61, 0, 6) := ⟨⟨q_mWk_followFromStart, rfl, q_in 323 (by decide +kernel) (by decide +kernel), q_in 62 (by decide +kernel) (by decide +kernel), (by decide +kernel), (by decide)⟩, Or.inl (q_in 320 (by decide +kernel) (by decide +kernel)), q_in 322 (by decide +kernel) (by decide +kernel), q_in 1 (by decide +kernel) (by decide +kernel), ⟨q_TWk, 15, rfl⟩⟩
theorem q_gWk_96 : q_mok q_cl q_Ts q_Ns q_yn q_Mt "PatternWalk$Walk" 96 (1, 62, 1, 6) := ⟨⟨q_mWk_follow, rfl, q_in 327 (by decide +kernel) (by decide +kernel), q_in 62 (by decide +kernel) (by decide +kernel), (by decide +kernel), (by decide)⟩, Or.inl (q_in 324 (by decide +kernel) (by decide +kernel)), q_in 326 (by decide +kernel) (by decide +kernel), q_in 2 (by decide +kernel) (by decide +kernel), ⟨q_TWk, 15, rfl⟩⟩
theorem q_gWk_100 : q_mok q_cl q_Ts q_Ns q_yn q_Mt "PatternWalk$Walk" 100 (1, 63, 2, 6) := ⟨⟨q_mWk_push, rfl, q_in 331 (by decide +kernel) (by decide +kernel), q_in 62 (by decide +kernel) (by decide +kernel), (by decide +kernel), (by decide)⟩, Or.inl (q_in 328 (by decide +kernel) (by decide +kernel)), q_in 330 (by decide +kernel) (by decide +kernel), q_in 3 (by decide +kernel) (by decide +kernel), ⟨q_TWk, 15, rfl⟩⟩
theorem q_gWk_104 : q_mok q_cl q_Ts q_Ns q_yn q_Mt "PatternWalk$Walk" 104 (1, 64, 1, 6) := ⟨⟨q_mWk_visit, rfl, q_in 335 (by decide +kernel) (by decide +kernel), q_in 62 (by decide +kernel) (by decide +kernel), (by decide +kernel), (by decide)⟩, Or.inl (q_in 332 (by decide +kernel) (by decide +kernel)), q_in 334 (by decide +kernel) (by decide +kernel), q_in 4 (by decide +kernel) (by decide +kernel), ⟨q_TWk, 15, rfl⟩⟩
theorem q_gWk_110 : q_mok q_cl q_Ts q_Ns q_yn q_Mt "PatternWalk$Walk" 110 (1, 43, 1, 3) := ⟨⟨q_mPr_has, rfl, q_in 277 (by decide +kernel) (by decide +kernel), q_in 61 (by decide +kernel) (by decide +kernel), (by decide +kernel), (by decide)⟩, Or.inl (q_in 336 (by decide +kernel) (by decide +kernel)), q_in 275 (by decide +kernel) (by decide +kernel), q_in 276 (by decide +kernel) (by decide +kernel), ⟨q_TPr, 5, rfl⟩⟩
theorem q_gWk_113 : q_mok q_cl q_Ts q_Ns q_yn q_Mt "PatternWalk$Walk" 113 (1, 44, 1, 3) := ⟨⟨q_mPr_kindOf, rfl, q_in 281 (by decide +kernel) (by decide +kernel), q_in 61 (by decide +kernel) (by decide +kernel), (by decide +kernel), (by decide)⟩, Or.inl (q_in 337 (by decide +kernel) (by decide +kernel)), q_in 279 (by decide +kernel) (by decide +kernel), q_in 280 (by decide +kernel) (by decide +kernel), ⟨q_TPr, 5, rfl⟩⟩
theorem q_gWk_116 : q_mok q_cl q_Ts q_Ns q_yn q_Mt "PatternWalk$Walk" 116 (1, 72, 2, 7) := ⟨⟨q_mWy_add, rfl, q_in 341 (by decide +kernel) (by decide +kernel), q_in 63 (by decide +kernel) (by decide +kernel), (by decide +kernel), (by decide)⟩, Or.inl (q_in 338 (by decide +kernel) (by decide +kernel)), q_in 339 (by decide +kernel) (by decide +kernel), q_in 340 (by decide +kernel) (by decide +kernel), ⟨q_TWy, 3, rfl⟩⟩
theorem q_gWk_119 : q_mok q_cl q_Ts q_Ns q_yn q_Mt "PatternWalk$Walk" 119 (1, 46, 1, 3) := ⟨⟨q_mPr_yOf, rfl, q_in 304 (by decide +kernel) (by decide +kernel), q_in 61 (by decide +kernel) (by decide +kernel), (by decide +kernel), (by decide)⟩, Or.inl (q_in 342 (by decide +kernel) (by decide +kernel)), q_in 302 (by decide +kernel) (by decide +kernel), q_in 303 (by decide +kernel) (by decide +kernel), ⟨q_TPr, 5, rfl⟩⟩
theorem q_gWk_81 : q_mok q_cl q_Ts q_Ns q_yn q_Mt "PatternWalk$Walk" 81 (1, 45, 1, 3) := ⟨⟨q_mPr_xOf, rfl, q_in 286 (by decide +kernel) (by decide +kernel), q_in 61 (by decide +kernel) (by decide +kernel), (by decide +kernel), (by decide)⟩, Or.inl (q_in 343 (by decide +kernel) (by decide +kernel)), q_in 284 (by decide +kernel) (by decide +kernel), q_in 285 (by decide +kernel) (by decide +kernel), ⟨q_TPr, 5, rfl⟩⟩
theorem q_gWk_122 : q_mok q_cl q_Ts q_Ns q_yn q_Mt "PatternWalk$Walk" 122 (1, 65, 1, 6) := ⟨⟨q_mWk_passMark, rfl, q_in 347 (by decide +kernel) (by decide +kernel), q_in 62 (by decide +kernel) (by decide +kernel), (by decide +kernel), (by decide)⟩, Or.inl (q_in 344 (by decide +kernel) (by decide +kernel)), q_in 346 (by decide +kernel) (by decide +kernel), q_in 5 (by decide +kernel) (by decide +kernel), ⟨q_TWk, 15, rfl⟩⟩
theorem q_gWk_125 : q_mok q_cl q_Ts q_Ns q_yn q_Mt "PatternWalk$Walk" 125 (1, 66, 0, 6) := ⟨⟨q_mWk_keepMatch, rfl, q_in 351 (by decide +kernel) (by decide +kernel), q_in 62 (by decide +kernel) (by decide +kernel), (by decide +kernel), (by decide)⟩, Or.inl (q_in 348 (by decide +kernel) (by decide +kernel)), q_in 350 (by decide +kernel) (by decide +kernel), q_in 6 (by decide +kernel) (by decide +kernel), ⟨q_TWk, 15, rfl⟩⟩
theorem q_gWk_107 : q_mok q_cl q_Ts q_Ns q_yn q_Mt "PatternWalk$Walk" 107 (1, 67, 2, 6) := ⟨⟨q_mWk_setMark, rfl, q_in 355 (by decide +kernel) (by decide +kernel), q_in 62 (by decide +kernel) (by decide +kernel), (by decide +kernel), (by decide)⟩, Or.inl (q_in 352 (by decide +kernel) (by decide +kernel)), q_in 354 (by decide +kernel) (by decide +kernel), q_in 7 (by decide +kernel) (by decide +kernel), ⟨q_TWk, 15, rfl⟩⟩
theorem q_gWk_77 : q_mok q_cl q_Ts q_Ns q_yn q_Mt "PatternWalk$Walk" 77 (1, 73, 1, 7) := ⟨⟨q_mWy_takeOf, rfl, q_in 367 (by decide +kernel) (by decide +kernel), q_in 63 (by decide +kernel) (by decide +kernel), (by decide +kernel), (by decide)⟩, Or.inl (q_in 364 (by decide +kernel) (by decide +kernel)), q_in 365 (by decide +kernel) (by decide +kernel), q_in 366 (by decide +kernel) (by decide +kernel), ⟨q_TWy, 3, rfl⟩⟩
theorem q_gWk_86 : q_mok q_cl q_Ts q_Ns q_yn q_Mt "PatternWalk$Walk" 86 (1, 17, 2, 1) := ⟨⟨q_mCs_has, rfl, q_in 371 (by decide +kernel) (by decide +kernel), q_in 59 (by decide +kernel) (by decide +kernel), (by decide +kernel), (by decide)⟩, Or.inl (q_in 368 (by decide +kernel) (by decide +kernel)), q_in 369 (by decide +kernel) (by decide +kernel), q_in 370 (by decide +kernel) (by decide +kernel), ⟨q_TCs, 2, rfl⟩⟩
theorem q_gWk_92 : q_mok q_cl q_Ts q_Ns q_yn q_Mt "PatternWalk$Walk" 92 (1, 74, 2, 7) := ⟨⟨q_mWy_copyMarks, rfl, q_in 375 (by decide +kernel) (by decide +kernel), q_in 63 (by decide +kernel) (by decide +kernel), (by decide +kernel), (by decide)⟩, Or.inl (q_in 372 (by decide +kernel) (by decide +kernel)), q_in 373 (by decide +kernel) (by decide +kernel), q_in 374 (by decide +kernel) (by decide +kernel), ⟨q_TWy, 3, rfl⟩⟩
theorem q_pokWk : q_pok q_cl q_Ts q_Ns q_yn q_Mt "PatternWalk$Walk" q_PWk := by
  refine ⟨fun k f h => ?_, fun k n h => ?_, fun k x h => ?_, fun k v h => ?_, fun k v h => ?_⟩
  · have := q_lk_mem h
    exact (show ∀ e ∈ q_FWk, q_fok q_cl q_Ts q_Ns "PatternWalk$Walk" e.1 e.2 from (List.forall_mem_cons.mpr ⟨q_fWk_65, (List.forall_mem_cons.mpr ⟨q_fWk_57, (List.forall_mem_cons.mpr ⟨q_fWk_61, (List.forall_mem_cons.mpr ⟨q_fWk_12, (List.forall_mem_cons.mpr ⟨q_fWk_18, (List.forall_mem_cons.mpr ⟨q_fWk_21, (List.forall_mem_cons.mpr ⟨q_fWk_25, (List.forall_mem_cons.mpr ⟨q_fWk_28, (List.forall_mem_cons.mpr ⟨q_fWk_31, (List.forall_mem_cons.mpr ⟨q_fWk_35, (List.forall_mem_cons.mpr ⟨q_fWk_38, (List.forall_mem_cons.mpr ⟨q_fWk_41, (List.forall_mem_cons.mpr ⟨q_fWk_45, (List.forall_mem_cons.mpr ⟨q_fWk_48, (List.forall_mem_cons.mpr ⟨q_fWk_51, (List.forall_mem_cons.mpr ⟨q_fWk_54, (fun _ h => absurd h List.not_mem_nil)⟩)⟩)⟩)⟩)⟩)⟩)⟩)⟩)⟩)⟩)⟩)⟩)⟩)⟩)⟩)⟩)) (k, f) this
  · have := q_lk_mem h
    exact (show ∀ e ∈ q_CWk, ∀ n, e.2 = .inl n → q_nok q_cl q_Ts "PatternWalk$Walk" e.1 n from (List.forall_mem_cons.mpr ⟨(fun n hn => by cases hn; exact q_kWk_9), (fun _ h => absurd h List.not_mem_nil)⟩)) (k, .inl n) this n rfl
  · have := q_lk_mem h
    exact (show ∀ e ∈ q_MWk, q_mok q_cl q_Ts q_Ns q_yn q_Mt "PatternWalk$Walk" e.1 e.2 from (List.forall_mem_cons.mpr ⟨q_gWk_3, (List.forall_mem_cons.mpr ⟨q_gWk_11, (List.forall_mem_cons.mpr ⟨q_gWk_68, (List.forall_mem_cons.mpr ⟨q_gWk_74, (List.forall_mem_cons.mpr ⟨q_gWk_96, (List.forall_mem_cons.mpr ⟨q_gWk_100, (List.forall_mem_cons.mpr ⟨q_gWk_104, (List.forall_mem_cons.mpr ⟨q_gWk_110, (List.forall_mem_cons.mpr ⟨q_gWk_113, (List.forall_mem_cons.mpr ⟨q_gWk_116, (List.forall_mem_cons.mpr ⟨q_gWk_119, (List.forall_mem_cons.mpr ⟨q_gWk_81, (List.forall_mem_cons.mpr ⟨q_gWk_122, (List.forall_mem_cons.mpr ⟨q_gWk_125, (List.forall_mem_cons.mpr ⟨q_gWk_107, (List.forall_mem_cons.mpr ⟨q_gWk_77, (List.forall_mem_cons.mpr ⟨q_gWk_86, (List.forall_mem_cons.mpr ⟨q_gWk_92, (fun _ h => absurd h List.not_mem_nil)⟩)⟩)⟩)⟩)⟩)⟩)⟩)⟩)⟩)⟩)⟩)⟩)⟩)⟩)⟩)⟩)⟩)⟩)) (k, x) this
  · have := q_lk_mem h
    exact (show ∀ e ∈ q_IWk, Cond.constant "PatternWalk$Walk" e.1 e.2 ∈ q_Ts from (fun _ h => absurd h List.not_mem_nil)) (k, v) this
  · have := q_lk_mem h
    exact (show ∀ e ∈ q_LWk, Cond.constantLong "PatternWalk$Walk" e.1 e.2 ∈ q_Ts from (fun _ h => absurd h List.not_mem_nil)) (k, v) this
theorem q_fWy_9 : q_fok q_cl q_Ts q_Ns "PatternWalk$Ways" 9 (7, 0, .array .int, 1) := ⟨"PatternWalk$Ways", q_TWy, 3, q_YWy, rfl, (by decide), q_wWy, q_tWy, q_nWy, (by decide +kernel), (fun h => absurd h (by decide)), (fun _ => ⟨rfl, rfl, q_in 162 (by decide +kernel) (by decide +kernel)⟩), Or.inl (q_in 162 (by decide +kernel) (by decide +kernel))⟩
theorem q_fWy_15 : q_fok q_cl q_Ts q_Ns "PatternWalk$Ways" 15 (7, 1, .array .int, 1) := ⟨"PatternWalk$Ways", q_TWy, 3, q_YWy, rfl, (by decide), q_wWy, q_tWy, q_nWy, (by decide +kernel), (fun h => absurd h (by decide)), (fun _ => ⟨rfl, rfl, q_in 163 (by decide +kernel) (by decide +kernel)⟩), Or.inl (q_in 163 (by decide +kernel) (by decide +kernel))⟩
theorem q_fWy_18 : q_fok q_cl q_Ts q_Ns "PatternWalk$Ways" 18 (7, 2, .int, 0) := ⟨"PatternWalk$Ways", q_TWy, 3, q_YWy, rfl, (by decide), q_wWy, q_tWy, q_nWy, (by decide +kernel), (fun _ => rfl), (fun h => absurd h (by decide)), Or.inl (q_in 164 (by decide +kernel) (by decide +kernel))⟩
theorem q_gWy_3 : q_mok q_cl q_Ts q_Ns q_yn q_Mt "PatternWalk$Ways" 3 (0, 0, 0, 0) := ⟨q_in 161 (by decide +kernel) (by decide +kernel), q_in 81 (by decide +kernel) (by decide +kernel), q_in 82 (by decide +kernel) (by decide +kernel)⟩
theorem q_pokWy : q_pok q_cl q_Ts q_Ns q_yn q_Mt "PatternWalk$Ways" q_PWy := by
  refine ⟨fun k f h => ?_, fun k n h => ?_, fun k x h => ?_, fun k v h => ?_, fun k v h => ?_⟩
  · have := q_lk_mem h
    exact (show ∀ e ∈ q_FWy, q_fok q_cl q_Ts q_Ns "PatternWalk$Ways" e.1 e.2 from (List.forall_mem_cons.mpr ⟨q_fWy_9, (List.forall_mem_cons.mpr ⟨q_fWy_15, (List.forall_mem_cons.mpr ⟨q_fWy_18, (fun _ h => absurd h List.not_mem_nil)⟩)⟩)⟩)) (k, f) this
  · have := q_lk_mem h
    exact (show ∀ e ∈ q_CWy, ∀ n, e.2 = .inl n → q_nok q_cl q_Ts "PatternWalk$Ways" e.1 n from (fun _ h => absurd h List.not_mem_nil)) (k, .inl n) this n rfl
  · have := q_lk_mem h
    exact (show ∀ e ∈ q_MWy, q_mok q_cl q_Ts q_Ns q_yn q_Mt "PatternWalk$Ways" e.1 e.2 from (List.forall_mem_cons.mpr ⟨q_gWy_3, (fun _ h => absurd h List.not_mem_nil)⟩)) (k, x) this
  · have := q_lk_mem h
    exact (show ∀ e ∈ q_IWy, Cond.constant "PatternWalk$Ways" e.1 e.2 ∈ q_Ts from (fun _ h => absurd h List.not_mem_nil)) (k, v) this
  · have := q_lk_mem h
    exact (show ∀ e ∈ q_LWy, Cond.constantLong "PatternWalk$Ways" e.1 e.2 ∈ q_Ts from (fun _ h => absurd h List.not_mem_nil)) (k, v) this
theorem q_fMd_103 : q_fok q_cl q_Ts q_Ns "PatternWalkModel" 103 (8, 0, .int, 0) := ⟨"PatternWalkModel", q_TMd, 45, q_YMd, rfl, (by decide), q_wMd, q_tMd, q_nMd, (by decide +kernel), (fun _ => rfl), (fun h => absurd h (by decide)), Or.inl (q_in 714 (by decide +kernel) (by decide +kernel))⟩
theorem q_fMd_106 : q_fok q_cl q_Ts q_Ns "PatternWalkModel" 106 (8, 1, .int, 0) := ⟨"PatternWalkModel", q_TMd, 45, q_YMd, rfl, (by decide), q_wMd, q_tMd, q_nMd, (by decide +kernel), (fun _ => rfl), (fun h => absurd h (by decide)), Or.inl (q_in 715 (by decide +kernel) (by decide +kernel))⟩
theorem q_fMd_7 : q_fok q_cl q_Ts q_Ns "PatternWalkModel" 7 (8, 2, .array .char, 1) := ⟨"PatternWalkModel", q_TMd, 45, q_YMd, rfl, (by decide), q_wMd, q_tMd, q_nMd, (by decide +kernel), (fun h => absurd h (by decide)), (fun _ => ⟨rfl, rfl, q_in 716 (by decide +kernel) (by decide +kernel)⟩), Or.inl (q_in 716 (by decide +kernel) (by decide +kernel))⟩
theorem q_fMd_13 : q_fok q_cl q_Ts q_Ns "PatternWalkModel" 13 (8, 3, .int, 0) := ⟨"PatternWalkModel", q_TMd, 45, q_YMd, rfl, (by decide), q_wMd, q_tMd, q_nMd, (by decide +kernel), (fun _ => rfl), (fun h => absurd h (by decide)), Or.inl (q_in 717 (by decide +kernel) (by decide +kernel))⟩
theorem q_fMd_112 : q_fok q_cl q_Ts q_Ns "PatternWalkModel" 112 (8, 4, .int, 0) := ⟨"PatternWalkModel", q_TMd, 45, q_YMd, rfl, (by decide), q_wMd, q_tMd, q_nMd, (by decide +kernel), (fun _ => rfl), (fun h => absurd h (by decide)), Or.inl (q_in 718 (by decide +kernel) (by decide +kernel))⟩
theorem q_fMd_17 : q_fok q_cl q_Ts q_Ns "PatternWalkModel" 17 (8, 5, .array .int, 1) := ⟨"PatternWalkModel", q_TMd, 45, q_YMd, rfl, (by decide), q_wMd, q_tMd, q_nMd, (by decide +kernel), (fun h => absurd h (by decide)), (fun _ => ⟨rfl, rfl, q_in 719 (by decide +kernel) (by decide +kernel)⟩), Or.inl (q_in 719 (by decide +kernel) (by decide +kernel))⟩
theorem q_fMd_21 : q_fok q_cl q_Ts q_Ns "PatternWalkModel" 21 (8, 6, .array .int, 1) := ⟨"PatternWalkModel", q_TMd, 45, q_YMd, rfl, (by decide), q_wMd, q_tMd, q_nMd, (by decide +kernel), (fun h => absurd h (by decide)), (fun _ => ⟨rfl, rfl, q_in 720 (by decide +kernel) (by decide +kernel)⟩), Or.inl (q_in 720 (by decide +kernel) (by decide +kernel))⟩
theorem q_fMd_24 : q_fok q_cl q_Ts q_Ns "PatternWalkModel" 24 (8, 7, .array .int, 1) := ⟨"PatternWalkModel", q_TMd, 45, q_YMd, rfl, (by decide), q_wMd, q_tMd, q_nMd, (by decide +kernel), (fun h => absurd h (by decide)), (fun _ => ⟨rfl, rfl, q_in 721 (by decide +kernel) (by decide +kernel)⟩), Or.inl (q_in 721 (by decide +kernel) (by decide +kernel))⟩
theorem q_fMd_27 : q_fok q_cl q_Ts q_Ns "PatternWalkModel" 27 (8, 8, .array .int, 1) := ⟨"PatternWalkModel", q_TMd, 45, q_YMd, rfl, (by decide), q_wMd, q_tMd, q_nMd, (by decide +kernel), (fun h => absurd h (by decide)), (fun _ => ⟨rfl, rfl, q_in 722 (by decide +kernel) (by decide +kernel)⟩), Or.inl (q_in 722 (by decide +kernel) (by decide +kernel))⟩
theorem q_fMd_30 : q_fok q_cl q_Ts q_Ns "PatternWalkModel" 30 (8, 9, .array .int, 1) := ⟨"PatternWalkModel", q_TMd, 45, q_YMd, rfl, (by decide), q_wMd, q_tMd, q_nMd, (by decide +kernel), (fun h => absurd h (by decide)), (fun _ => ⟨rfl, rfl, q_in 723 (by decide +kernel) (by decide +kernel)⟩), Or.inl (q_in 723 (by decide +kernel) (by decide +kernel))⟩
theorem q_fMd_33 : q_fok q_cl q_Ts q_Ns "PatternWalkModel" 33 (8, 10, .array .int, 1) := ⟨"PatternWalkModel", q_TMd, 45, q_YMd, rfl, (by decide), q_wMd, q_tMd, q_nMd, (by decide +kernel), (fun h => absurd h (by decide)), (fun _ => ⟨rfl, rfl, q_in 724 (by decide +kernel) (by decide +kernel)⟩), Or.inl (q_in 724 (by decide +kernel) (by decide +kernel))⟩
theorem q_fMd_36 : q_fok q_cl q_Ts q_Ns "PatternWalkModel" 36 (8, 11, .array .int, 1) := ⟨"PatternWalkModel", q_TMd, 45, q_YMd, rfl, (by decide), q_wMd, q_tMd, q_nMd, (by decide +kernel), (fun h => absurd h (by decide)), (fun _ => ⟨rfl, rfl, q_in 725 (by decide +kernel) (by decide +kernel)⟩), Or.inl (q_in 725 (by decide +kernel) (by decide +kernel))⟩
theorem q_fMd_39 : q_fok q_cl q_Ts q_Ns "PatternWalkModel" 39 (8, 12, .array .boolean, 1) := ⟨"PatternWalkModel", q_TMd, 45, q_YMd, rfl, (by decide), q_wMd, q_tMd, q_nMd, (by decide +kernel), (fun h => absurd h (by decide)), (fun _ => ⟨rfl, rfl, q_in 726 (by decide +kernel) (by decide +kernel)⟩), Or.inl (q_in 726 (by decide +kernel) (by decide +kernel))⟩
theorem q_fMd_43 : q_fok q_cl q_Ts q_Ns "PatternWalkModel" 43 (8, 13, .array .int, 1) := ⟨"PatternWalkModel", q_TMd, 45, q_YMd, rfl, (by decide), q_wMd, q_tMd, q_nMd, (by decide +kernel), (fun h => absurd h (by decide)), (fun _ => ⟨rfl, rfl, q_in 727 (by decide +kernel) (by decide +kernel)⟩), Or.inl (q_in 727 (by decide +kernel) (by decide +kernel))⟩
theorem q_fMd_126 : q_fok q_cl q_Ts q_Ns "PatternWalkModel" 126 (8, 14, .int, 0) := ⟨"PatternWalkModel", q_TMd, 45, q_YMd, rfl, (by decide), q_wMd, q_tMd, q_nMd, (by decide +kernel), (fun _ => rfl), (fun h => absurd h (by decide)), Or.inl (q_in 728 (by decide +kernel) (by decide +kernel))⟩
theorem q_fMd_161 : q_fok q_cl q_Ts q_Ns "PatternWalkModel" 161 (8, 15, .int, 0) := ⟨"PatternWalkModel", q_TMd, 45, q_YMd, rfl, (by decide), q_wMd, q_tMd, q_nMd, (by decide +kernel), (fun _ => rfl), (fun h => absurd h (by decide)), Or.inl (q_in 729 (by decide +kernel) (by decide +kernel))⟩
theorem q_fMd_46 : q_fok q_cl q_Ts q_Ns "PatternWalkModel" 46 (8, 16, .array .int, 1) := ⟨"PatternWalkModel", q_TMd, 45, q_YMd, rfl, (by decide), q_wMd, q_tMd, q_nMd, (by decide +kernel), (fun h => absurd h (by decide)), (fun _ => ⟨rfl, rfl, q_in 730 (by decide +kernel) (by decide +kernel)⟩), Or.inl (q_in 730 (by decide +kernel) (by decide +kernel))⟩
theorem q_fMd_49 : q_fok q_cl q_Ts q_Ns "PatternWalkModel" 49 (8, 17, .array .int, 1) := ⟨"PatternWalkModel", q_TMd, 45, q_YMd, rfl, (by decide), q_wMd, q_tMd, q_nMd, (by decide +kernel), (fun h => absurd h (by decide)), (fun _ => ⟨rfl, rfl, q_in 731 (by decide +kernel) (by decide +kernel)⟩), Or.inl (q_in 731 (by decide +kernel) (by decide +kernel))⟩
theorem q_fMd_52 : q_fok q_cl q_Ts q_Ns "PatternWalkModel" 52 (8, 18, .array .int, 1) := ⟨"PatternWalkModel", q_TMd, 45, q_YMd, rfl, (by decide), q_wMd, q_tMd, q_nMd, (by decide +kernel), (fun h => absurd h (by decide)), (fun _ => ⟨rfl, rfl, q_in 732 (by decide +kernel) (by decide +kernel)⟩), Or.inl (q_in 732 (by decide +kernel) (by decide +kernel))⟩
theorem q_fMd_164 : q_fok q_cl q_Ts q_Ns "PatternWalkModel" 164 (8, 19, .int, 0) := ⟨"PatternWalkModel", q_TMd, 45, q_YMd, rfl, (by decide), q_wMd, q_tMd, q_nMd, (by decide +kernel), (fun _ => rfl), (fun h => absurd h (by decide)), Or.inl (q_in 733 (by decide +kernel) (by decide +kernel))⟩
theorem q_fMd_115 : q_fok q_cl q_Ts q_Ns "PatternWalkModel" 115 (8, 20, .int, 0) := ⟨"PatternWalkModel", q_TMd, 45, q_YMd, rfl, (by decide), q_wMd, q_tMd, q_nMd, (by decide +kernel), (fun _ => rfl), (fun h => absurd h (by decide)), Or.inl (q_in 734 (by decide +kernel) (by decide +kernel))⟩
theorem q_fMd_55 : q_fok q_cl q_Ts q_Ns "PatternWalkModel" 55 (8, 21, .array .int, 1) := ⟨"PatternWalkModel", q_TMd, 45, q_YMd, rfl, (by decide), q_wMd, q_tMd, q_nMd, (by decide +kernel), (fun h => absurd h (by decide)), (fun _ => ⟨rfl, rfl, q_in 735 (by decide +kernel) (by decide +kernel)⟩), Or.inl (q_in 735 (by decide +kernel) (by decide +kernel))⟩
theorem q_fMd_109 : q_fok q_cl q_Ts q_Ns "PatternWalkModel" 109 (8, 22, .int, 0) := ⟨"PatternWalkModel", q_TMd, 45, q_YMd, rfl, (by decide), q_wMd, q_tMd, q_nMd, (by decide +kernel), (fun _ => rfl), (fun h => absurd h (by decide)), Or.inl (q_in 736 (by decide +kernel) (by decide +kernel))⟩
theorem q_fMd_58 : q_fok q_cl q_Ts q_Ns "PatternWalkModel" 58 (8, 23, .array .int, 1) := ⟨"PatternWalkModel", q_TMd, 45, q_YMd, rfl, (by decide), q_wMd, q_tMd, q_nMd, (by decide +kernel), (fun h => absurd h (by decide)), (fun _ => ⟨rfl, rfl, q_in 737 (by decide +kernel) (by decide +kernel)⟩), Or.inl (q_in 737 (by decide +kernel) (by decide +kernel))⟩
theorem q_fMd_61 : q_fok q_cl q_Ts q_Ns "PatternWalkModel" 61 (8, 24, .array .int, 1) := ⟨"PatternWalkModel", q_TMd, 45, q_YMd, rfl, (by decide), q_wMd, q_tMd, q_nMd, (by decide +kernel), (fun h => absurd h (by decide)), (fun _ => ⟨rfl, rfl, q_in 738 (by decide +kernel) (by decide +kernel)⟩), Or.inl (q_in 738 (by decide +kernel) (by decide +kernel))⟩
theorem q_fMd_64 : q_fok q_cl q_Ts q_Ns "PatternWalkModel" 64 (8, 25, .array .int, 1) := ⟨"PatternWalkModel", q_TMd, 45, q_YMd, rfl, (by decide), q_wMd, q_tMd, q_nMd, (by decide +kernel), (fun h => absurd h (by decide)), (fun _ => ⟨rfl, rfl, q_in 739 (by decide +kernel) (by decide +kernel)⟩), Or.inl (q_in 739 (by decide +kernel) (by decide +kernel))⟩
theorem q_fMd_184 : q_fok q_cl q_Ts q_Ns "PatternWalkModel" 184 (8, 26, .int, 0) := ⟨"PatternWalkModel", q_TMd, 45, q_YMd, rfl, (by decide), q_wMd, q_tMd, q_nMd, (by decide +kernel), (fun _ => rfl), (fun h => absurd h (by decide)), Or.inl (q_in 740 (by decide +kernel) (by decide +kernel))⟩
theorem q_fMd_67 : q_fok q_cl q_Ts q_Ns "PatternWalkModel" 67 (8, 27, .array .int, 1) := ⟨"PatternWalkModel", q_TMd, 45, q_YMd, rfl, (by decide), q_wMd, q_tMd, q_nMd, (by decide +kernel), (fun h => absurd h (by decide)), (fun _ => ⟨rfl, rfl, q_in 741 (by decide +kernel) (by decide +kernel)⟩), Or.inl (q_in 741 (by decide +kernel) (by decide +kernel))⟩
theorem q_fMd_70 : q_fok q_cl q_Ts q_Ns "PatternWalkModel" 70 (8, 28, .array .int, 1) := ⟨"PatternWalkModel", q_TMd, 45, q_YMd, rfl, (by decide), q_wMd, q_tMd, q_nMd, (by decide +kernel), (fun h => absurd h (by decide)), (fun _ => ⟨rfl, rfl, q_in 742 (by decide +kernel) (by decide +kernel)⟩), Or.inl (q_in 742 (by decide +kernel) (by decide +kernel))⟩
theorem q_fMd_212 : q_fok q_cl q_Ts q_Ns "PatternWalkModel" 212 (8, 29, .boolean, 0) := ⟨"PatternWalkModel", q_TMd, 45, q_YMd, rfl, (by decide), q_wMd, q_tMd, q_nMd, (by decide +kernel), (fun _ => rfl), (fun h => absurd h (by decide)), Or.inl (q_in 743 (by decide +kernel) (by decide +kernel))⟩
theorem q_fMd_219 : q_fok q_cl q_Ts q_Ns "PatternWalkModel" 219 (8, 30, .boolean, 0) := ⟨"PatternWalkModel", q_TMd, 45, q_YMd, rfl, (by decide), q_wMd, q_tMd, q_nMd, (by decide +kernel), (fun _ => rfl), (fun h => absurd h (by decide)), Or.inl (q_in 744 (by decide +kernel) (by decide +kernel))⟩
theorem q_fMd_222 : q_fok q_cl q_Ts q_Ns "PatternWalkModel" 222 (8, 31, .int, 0) := ⟨"PatternWalkModel", q_TMd, 45, q_YMd, rfl, (by decide), q_wMd, q_tMd, q_nMd, (by decide +kernel), (fun _ => rfl), (fun h => absurd h (by decide)), Or.inl (q_in 745 (by decide +kernel) (by decide +kernel))⟩
theorem q_fMd_73 : q_fok q_cl q_Ts q_Ns "PatternWalkModel" 73 (8, 32, .array .int, 1) := ⟨"PatternWalkModel", q_TMd, 45, q_YMd, rfl, (by decide), q_wMd, q_tMd, q_nMd, (by decide +kernel), (fun h => absurd h (by decide)), (fun _ => ⟨rfl, rfl, q_in 746 (by decide +kernel) (by decide +kernel)⟩), Or.inl (q_in 746 (by decide +kernel) (by decide +kernel))⟩
theorem q_fMd_225 : q_fok q_cl q_Ts q_Ns "PatternWalkModel" 225 (8, 33, .boolean, 0) := ⟨"PatternWalkModel", q_TMd, 45, q_YMd, rfl, (by decide), q_wMd, q_tMd, q_nMd, (by decide +kernel), (fun _ => rfl), (fun h => absurd h (by decide)), Or.inl (q_in 747 (by decide +kernel) (by decide +kernel))⟩
theorem q_fMd_246 : q_fok q_cl q_Ts q_Ns "PatternWalkModel" 246 (8, 34, .boolean, 0) := ⟨"PatternWalkModel", q_TMd, 45, q_YMd, rfl, (by decide), q_wMd, q_tMd, q_nMd, (by decide +kernel), (fun _ => rfl), (fun h => absurd h (by decide)), Or.inl (q_in 748 (by decide +kernel) (by decide +kernel))⟩
theorem q_fMd_76 : q_fok q_cl q_Ts q_Ns "PatternWalkModel" 76 (8, 35, .array .int, 1) := ⟨"PatternWalkModel", q_TMd, 45, q_YMd, rfl, (by decide), q_wMd, q_tMd, q_nMd, (by decide +kernel), (fun h => absurd h (by decide)), (fun _ => ⟨rfl, rfl, q_in 749 (by decide +kernel) (by decide +kernel)⟩), Or.inl (q_in 749 (by decide +kernel) (by decide +kernel))⟩
theorem q_fMd_79 : q_fok q_cl q_Ts q_Ns "PatternWalkModel" 79 (8, 36, .array .int, 1) := ⟨"PatternWalkModel", q_TMd, 45, q_YMd, rfl, (by decide), q_wMd, q_tMd, q_nMd, (by decide +kernel), (fun h => absurd h (by decide)), (fun _ => ⟨rfl, rfl, q_in 750 (by decide +kernel) (by decide +kernel)⟩), Or.inl (q_in 750 (by decide +kernel) (by decide +kernel))⟩
theorem q_fMd_82 : q_fok q_cl q_Ts q_Ns "PatternWalkModel" 82 (8, 37, .array .boolean, 1) := ⟨"PatternWalkModel", q_TMd, 45, q_YMd, rfl, (by decide), q_wMd, q_tMd, q_nMd, (by decide +kernel), (fun h => absurd h (by decide)), (fun _ => ⟨rfl, rfl, q_in 751 (by decide +kernel) (by decide +kernel)⟩), Or.inl (q_in 751 (by decide +kernel) (by decide +kernel))⟩
theorem q_fMd_85 : q_fok q_cl q_Ts q_Ns "PatternWalkModel" 85 (8, 38, .array .boolean, 1) := ⟨"PatternWalkModel", q_TMd, 45, q_YMd, rfl, (by decide), q_wMd, q_tMd, q_nMd, (by decide +kernel), (fun h => absurd h (by decide)), (fun _ => ⟨rfl, rfl, q_in 752 (by decide +kernel) (by decide +kernel)⟩), Or.inl (q_in 752 (by decide +kernel) (by decide +kernel))⟩
theorem q_fMd_88 : q_fok q_cl q_Ts q_Ns "PatternWalkModel" 88 (8, 39, .array .boolean, 1) := ⟨"PatternWalkModel", q_TMd, 45, q_YMd, rfl, (by decide), q_wMd, q_tMd, q_nMd, (by decide +kernel), (fun h => absurd h (by decide)), (fun _ => ⟨rfl, rfl, q_in 753 (by decide +kernel) (by decide +kernel)⟩), Or.inl (q_in 753 (by decide +kernel) (by decide +kernel))⟩
theorem q_fMd_240 : q_fok q_cl q_Ts q_Ns "PatternWalkModel" 240 (8, 40, .int, 0) := ⟨"PatternWalkModel", q_TMd, 45, q_YMd, rfl, (by decide), q_wMd, q_tMd, q_nMd, (by decide +kernel), (fun _ => rfl), (fun h => absurd h (by decide)), Or.inl (q_in 754 (by decide +kernel) (by decide +kernel))⟩
theorem q_fMd_91 : q_fok q_cl q_Ts q_Ns "PatternWalkModel" 91 (8, 41, .array .int, 1) := ⟨"PatternWalkModel", q_TMd, 45, q_YMd, rfl, (by decide), q_wMd, q_tMd, q_nMd, (by decide +kernel), (fun h => absurd h (by decide)), (fun _ => ⟨rfl, rfl, q_in 755 (by decide +kernel) (by decide +kernel)⟩), Or.inl (q_in 755 (by decide +kernel) (by decide +kernel))⟩
theorem q_fMd_94 : q_fok q_cl q_Ts q_Ns "PatternWalkModel" 94 (8, 42, .array .int, 1) := ⟨"PatternWalkModel", q_TMd, 45, q_YMd, rfl, (by decide), q_wMd, q_tMd, q_nMd, (by decide +kernel), (fun h => absurd h (by decide)), (fun _ => ⟨rfl, rfl, q_in 756 (by decide +kernel) (by decide +kernel)⟩), Or.inl (q_in 756 (by decide +kernel) (by decide +kernel))⟩
theorem q_fMd_97 : q_fok q_cl q_Ts q_Ns "PatternWalkModel" 97 (8, 43, .array .boolean, 1) := ⟨"PatternWalkModel", q_TMd, 45, q_YMd, rfl, (by decide), q_wMd, q_tMd, q_nMd, (by decide +kernel), (fun h => absurd h (by decide)), (fun _ => ⟨rfl, rfl, q_in 757 (by decide +kernel) (by decide +kernel)⟩), Or.inl (q_in 757 (by decide +kernel) (by decide +kernel))⟩
theorem q_fMd_100 : q_fok q_cl q_Ts q_Ns "PatternWalkModel" 100 (8, 44, .array .int, 1) := ⟨"PatternWalkModel", q_TMd, 45, q_YMd, rfl, (by decide), q_wMd, q_tMd, q_nMd, (by decide +kernel), (fun h => absurd h (by decide)), (fun _ => ⟨rfl, rfl, q_in 758 (by decide +kernel) (by decide +kernel)⟩), Or.inl (q_in 758 (by decide +kernel) (by decide +kernel))⟩
theorem q_gMd_1 : q_mok q_cl q_Ts q_Ns q_yn q_Mt "PatternWalkModel" 1 (0, 0, 0, 0) := ⟨q_in 713 (by decide +kernel) (by decide +kernel), q_in 81 (by decide +kernel) (by decide +kernel), q_in 82 (by decide +kernel) (by decide +kernel)⟩
theorem q_gMd_201 : q_mok q_cl q_Ts q_Ns q_yn q_Mt "PatternWalkModel" 201 (1, 79, 0, 8) := ⟨⟨q_mMd_read, rfl, q_in 866 (by decide +kernel) (by decide +kernel), q_in 64 (by decide +kernel) (by decide +kernel), (by decide +kernel), (by decide)⟩, Or.inl (q_in 863 (by decide +kernel) (by decide +kernel)), q_in 865 (by decide +kernel) (by decide +kernel), q_in 27 (by decide +kernel) (by decide +kernel), ⟨q_TMd, 45, rfl⟩⟩
theorem q_gMd_143 : q_mok q_cl q_Ts q_Ns q_yn q_Mt "PatternWalkModel" 143 (1, 80, 2, 8) := ⟨⟨q_mMd_node, rfl, q_in 870 (by decide +kernel) (by decide +kernel), q_in 64 (by decide +kernel) (by decide +kernel), (by decide +kernel), (by decide)⟩, Or.inl (q_in 867 (by decide +kernel) (by decide +kernel)), q_in 869 (by decide +kernel) (by decide +kernel), q_in 28 (by decide +kernel) (by decide +kernel), ⟨q_TMd, 45, rfl⟩⟩
theorem q_gMd_129 : q_mok q_cl q_Ts q_Ns q_yn q_Mt "PatternWalkModel" 129 (1, 81, 1, 8) := ⟨⟨q_mMd_here, rfl, q_in 874 (by decide +kernel) (by decide +kernel), q_in 64 (by decide +kernel) (by decide +kernel), (by decide +kernel), (by decide)⟩, Or.inl (q_in 871 (by decide +kernel) (by decide +kernel)), q_in 873 (by decide +kernel) (by decide +kernel), q_in 29 (by decide +kernel) (by decide +kernel), ⟨q_TMd, 45, rfl⟩⟩
theorem q_gMd_167 : q_mok q_cl q_Ts q_Ns q_yn q_Mt "PatternWalkModel" 167 (1, 82, 1, 8) := ⟨⟨q_mMd_open, rfl, q_in 878 (by decide +kernel) (by decide +kernel), q_in 64 (by decide +kernel) (by decide +kernel), (by decide +kernel), (by decide)⟩, Or.inl (q_in 875 (by decide +kernel) (by decide +kernel)), q_in 877 (by decide +kernel) (by decide +kernel), q_in 30 (by decide +kernel) (by decide +kernel), ⟨q_TMd, 45, rfl⟩⟩
theorem q_gMd_170 : q_mok q_cl q_Ts q_Ns q_yn q_Mt "PatternWalkModel" 170 (1, 83, 1, 8) := ⟨⟨q_mMd_readCount, rfl, q_in 882 (by decide +kernel) (by decide +kernel), q_in 64 (by decide +kernel) (by decide +kernel), (by decide +kernel), (by decide)⟩, Or.inl (q_in 879 (by decide +kernel) (by decide +kernel)), q_in 881 (by decide +kernel) (by decide +kernel), q_in 31 (by decide +kernel) (by decide +kernel), ⟨q_TMd, 45, rfl⟩⟩
theorem q_gMd_155 : q_mok q_cl q_Ts q_Ns q_yn q_Mt "PatternWalkModel" 155 (1, 84, 1, 8) := ⟨⟨q_mMd_readBraces, rfl, q_in 886 (by decide +kernel) (by decide +kernel), q_in 64 (by decide +kernel) (by decide +kernel), (by decide +kernel), (by decide)⟩, Or.inl (q_in 883 (by decide +kernel) (by decide +kernel)), q_in 885 (by decide +kernel) (by decide +kernel), q_in 32 (by decide +kernel) (by decide +kernel), ⟨q_TMd, 45, rfl⟩⟩
theorem q_gMd_158 : q_mok q_cl q_Ts q_Ns q_yn q_Mt "PatternWalkModel" 158 (2, 85, 1, 0) := ⟨⟨q_mMd_isDigit, rfl, q_in 889 (by decide +kernel) (by decide +kernel), q_in 64 (by decide +kernel) (by decide +kernel), (by decide +kernel), (by decide)⟩, Or.inl (q_in 887 (by decide +kernel) (by decide +kernel)), q_in 888 (by decide +kernel) (by decide +kernel)⟩
theorem q_gMd_173 : q_mok q_cl q_Ts q_Ns q_yn q_Mt "PatternWalkModel" 173 (1, 86, 1, 8) := ⟨⟨q_mMd_readSign, rfl, q_in 893 (by decide +kernel) (by decide +kernel), q_in 64 (by decide +kernel) (by decide +kernel), (by decide +kernel), (by decide)⟩, Or.inl (q_in 890 (by decide +kernel) (by decide +kernel)), q_in 892 (by decide +kernel) (by decide +kernel), q_in 33 (by decide +kernel) (by decide +kernel), ⟨q_TMd, 45, rfl⟩⟩
theorem q_gMd_140 : q_mok q_cl q_Ts q_Ns q_yn q_Mt "PatternWalkModel" 140 (2, 87, 1, 0) := ⟨⟨q_mMd_isPlain, rfl, q_in 896 (by decide +kernel) (by decide +kernel), q_in 64 (by decide +kernel) (by decide +kernel), (by decide +kernel), (by decide)⟩, Or.inl (q_in 894 (by decide +kernel) (by decide +kernel)), q_in 895 (by decide +kernel) (by decide +kernel)⟩
theorem q_gMd_147 : q_mok q_cl q_Ts q_Ns q_yn q_Mt "PatternWalkModel" 147 (1, 88, 0, 8) := ⟨⟨q_mMd_newSet, rfl, q_in 900 (by decide +kernel) (by decide +kernel), q_in 64 (by decide +kernel) (by decide +kernel), (by decide +kernel), (by decide)⟩, Or.inl (q_in 897 (by decide +kernel) (by decide +kernel)), q_in 899 (by decide +kernel) (by decide +kernel), q_in 34 (by decide +kernel) (by decide +kernel), ⟨q_TMd, 45, rfl⟩⟩
theorem q_gMd_151 : q_mok q_cl q_Ts q_Ns q_yn q_Mt "PatternWalkModel" 151 (1, 89, 1, 8) := ⟨⟨q_mMd_readSet, rfl, q_in 904 (by decide +kernel) (by decide +kernel), q_in 64 (by decide +kernel) (by decide +kernel), (by decide +kernel), (by decide)⟩, Or.inl (q_in 901 (by decide +kernel) (by decide +kernel)), q_in 903 (by decide +kernel) (by decide +kernel), q_in 35 (by decide +kernel) (by decide +kernel), ⟨q_TMd, 45, rfl⟩⟩
theorem q_gMd_132 : q_mok q_cl q_Ts q_Ns q_yn q_Mt "PatternWalkModel" 132 (1, 90, 2, 8) := ⟨⟨q_mMd_includeSpecial, rfl, q_in 908 (by decide +kernel) (by decide +kernel), q_in 64 (by decide +kernel) (by decide +kernel), (by decide +kernel), (by decide)⟩, Or.inl (q_in 905 (by decide +kernel) (by decide +kernel)), q_in 907 (by decide +kernel) (by decide +kernel), q_in 36 (by decide +kernel) (by decide +kernel), ⟨q_TMd, 45, rfl⟩⟩
theorem q_gMd_118 : q_mok q_cl q_Ts q_Ns q_yn q_Mt "PatternWalkModel" 118 (1, 91, 3, 8) := ⟨⟨q_mMd_include, rfl, q_in 912 (by decide +kernel) (by decide +kernel), q_in 64 (by decide +kernel) (by decide +kernel), (by decide +kernel), (by decide)⟩, Or.inl (q_in 909 (by decide +kernel) (by decide +kernel)), q_in 911 (by decide +kernel) (by decide +kernel), q_in 37 (by decide +kernel) (by decide +kernel), ⟨q_TMd, 45, rfl⟩⟩
theorem q_gMd_136 : q_mok q_cl q_Ts q_Ns q_yn q_Mt "PatternWalkModel" 136 (2, 92, 1, 0) := ⟨⟨q_mMd_isItem, rfl, q_in 915 (by decide +kernel) (by decide +kernel), q_in 64 (by decide +kernel) (by decide +kernel), (by decide +kernel), (by decide)⟩, Or.inl (q_in 913 (by decide +kernel) (by decide +kernel)), q_in 914 (by decide +kernel) (by decide +kernel)⟩
theorem q_gMd_205 : q_mok q_cl q_Ts q_Ns q_yn q_Mt "PatternWalkModel" 205 (1, 93, 1, 8) := ⟨⟨q_mMd_widthOf, rfl, q_in 919 (by decide +kernel) (by decide +kernel), q_in 64 (by decide +kernel) (by decide +kernel), (by decide +kernel), (by decide)⟩, Or.inl (q_in 916 (by decide +kernel) (by decide +kernel)), q_in 918 (by decide +kernel) (by decide +kernel), q_in 38 (by decide +kernel) (by decide +kernel), ⟨q_TMd, 45, rfl⟩⟩
theorem q_gMd_180 : q_mok q_cl q_Ts q_Ns q_yn q_Mt "PatternWalkModel" 180 (1, 94, 4, 8) := ⟨⟨q_mMd_put, rfl, q_in 925 (by decide +kernel) (by decide +kernel), q_in 64 (by decide +kernel) (by decide +kernel), (by decide +kernel), (by decide)⟩, Or.inl (q_in 922 (by decide +kernel) (by decide +kernel)), q_in 924 (by decide +kernel) (by decide +kernel), q_in 39 (by decide +kernel) (by decide +kernel), ⟨q_TMd, 45, rfl⟩⟩
theorem q_gMd_187 : q_mok q_cl q_Ts q_Ns q_yn q_Mt "PatternWalkModel" 187 (1, 95, 2, 8) := ⟨⟨q_mMd_later, rfl, q_in 929 (by decide +kernel) (by decide +kernel), q_in 64 (by decide +kernel) (by decide +kernel), (by decide +kernel), (by decide)⟩, Or.inl (q_in 926 (by decide +kernel) (by decide +kernel)), q_in 928 (by decide +kernel) (by decide +kernel), q_in 40 (by decide +kernel) (by decide +kernel), ⟨q_TMd, 45, rfl⟩⟩
theorem q_gMd_209 : q_mok q_cl q_Ts q_Ns q_yn q_Mt "PatternWalkModel" 209 (1, 96, 2, 8) := ⟨⟨q_mMd_writeNode, rfl, q_in 933 (by decide +kernel) (by decide +kernel), q_in 64 (by decide +kernel) (by decide +kernel), (by decide +kernel), (by decide)⟩, Or.inl (q_in 930 (by decide +kernel) (by decide +kernel)), q_in 932 (by decide +kernel) (by decide +kernel), q_in 41 (by decide +kernel) (by decide +kernel), ⟨q_TMd, 45, rfl⟩⟩
theorem q_gMd_195 : q_mok q_cl q_Ts q_Ns q_yn q_Mt "PatternWalkModel" 195 (1, 97, 2, 8) := ⟨⟨q_mMd_writeChoice, rfl, q_in 937 (by decide +kernel) (by decide +kernel), q_in 64 (by decide +kernel) (by decide +kernel), (by decide +kernel), (by decide)⟩, Or.inl (q_in 934 (by decide +kernel) (by decide +kernel)), q_in 936 (by decide +kernel) (by decide +kernel), q_in 42 (by decide +kernel) (by decide +kernel), ⟨q_TMd, 45, rfl⟩⟩
theorem q_gMd_198 : q_mok q_cl q_Ts q_Ns q_yn q_Mt "PatternWalkModel" 198 (1, 98, 2, 8) := ⟨⟨q_mMd_writeRepeat, rfl, q_in 941 (by decide +kernel) (by decide +kernel), q_in 64 (by decide +kernel) (by decide +kernel), (by decide +kernel), (by decide)⟩, Or.inl (q_in 938 (by decide +kernel) (by decide +kernel)), q_in 940 (by decide +kernel) (by decide +kernel), q_in 43 (by decide +kernel) (by decide +kernel), ⟨q_TMd, 45, rfl⟩⟩
theorem q_gMd_191 : q_mok q_cl q_Ts q_Ns q_yn q_Mt "PatternWalkModel" 191 (1, 99, 4, 8) := ⟨⟨q_mMd_split, rfl, q_in 945 (by decide +kernel) (by decide +kernel), q_in 64 (by decide +kernel) (by decide +kernel), (by decide +kernel), (by decide)⟩, Or.inl (q_in 942 (by decide +kernel) (by decide +kernel)), q_in 944 (by decide +kernel) (by decide +kernel), q_in 44 (by decide +kernel) (by decide +kernel), ⟨q_TMd, 45, rfl⟩⟩
theorem q_gMd_216 : q_mok q_cl q_Ts q_Ns q_yn q_Mt "PatternWalkModel" 216 (1, 103, 1, 8) := ⟨⟨q_mMd_many, rfl, q_in 961 (by decide +kernel) (by decide +kernel), q_in 64 (by decide +kernel) (by decide +kernel), (by decide +kernel), (by decide)⟩, Or.inl (q_in 958 (by decide +kernel) (by decide +kernel)), q_in 960 (by decide +kernel) (by decide +kernel), q_in 45 (by decide +kernel) (by decide +kernel), ⟨q_TMd, 45, rfl⟩⟩
theorem q_gMd_122 : q_mok q_cl q_Ts q_Ns q_yn q_Mt "PatternWalkModel" 122 (1, 104, 2, 8) := ⟨⟨q_mMd_has, rfl, q_in 965 (by decide +kernel) (by decide +kernel), q_in 64 (by decide +kernel) (by decide +kernel), (by decide +kernel), (by decide)⟩, Or.inl (q_in 962 (by decide +kernel) (by decide +kernel)), q_in 964 (by decide +kernel) (by decide +kernel), q_in 46 (by decide +kernel) (by decide +kernel), ⟨q_TMd, 45, rfl⟩⟩
theorem q_gMd_263 : q_mok q_cl q_Ts q_Ns q_yn q_Mt "PatternWalkModel" 263 (1, 109, 0, 8) := ⟨⟨q_mMd_work, rfl, q_in 985 (by decide +kernel) (by decide +kernel), q_in 64 (by decide +kernel) (by decide +kernel), (by decide +kernel), (by decide)⟩, Or.inl (q_in 982 (by decide +kernel) (by decide +kernel)), q_in 984 (by decide +kernel) (by decide +kernel), q_in 47 (by decide +kernel) (by decide +kernel), ⟨q_TMd, 45, rfl⟩⟩
theorem q_gMd_243 : q_mok q_cl q_Ts q_Ns q_yn q_Mt "PatternWalkModel" 243 (1, 110, 0, 8) := ⟨⟨q_mMd_fill, rfl, q_in 989 (by decide +kernel) (by decide +kernel), q_in 64 (by decide +kernel) (by decide +kernel), (by decide +kernel), (by decide)⟩, Or.inl (q_in 986 (by decide +kernel) (by decide +kernel)), q_in 988 (by decide +kernel) (by decide +kernel), q_in 48 (by decide +kernel) (by decide +kernel), ⟨q_TMd, 45, rfl⟩⟩
theorem q_gMd_231 : q_mok q_cl q_Ts q_Ns q_yn q_Mt "PatternWalkModel" 231 (1, 111, 2, 8) := ⟨⟨q_mMd_reaches, rfl, q_in 993 (by decide +kernel) (by decide +kernel), q_in 64 (by decide +kernel) (by decide +kernel), (by decide +kernel), (by decide)⟩, Or.inl (q_in 990 (by decide +kernel) (by decide +kernel)), q_in 992 (by decide +kernel) (by decide +kernel), q_in 49 (by decide +kernel) (by decide +kernel), ⟨q_TMd, 45, rfl⟩⟩
theorem q_gMd_237 : q_mok q_cl q_Ts q_Ns q_yn q_Mt "PatternWalkModel" 237 (1, 112, 2, 8) := ⟨⟨q_mMd_may, rfl, q_in 997 (by decide +kernel) (by decide +kernel), q_in 64 (by decide +kernel) (by decide +kernel), (by decide +kernel), (by decide)⟩, Or.inl (q_in 994 (by decide +kernel) (by decide +kernel)), q_in 996 (by decide +kernel) (by decide +kernel), q_in 50 (by decide +kernel) (by decide +kernel), ⟨q_TMd, 45, rfl⟩⟩
theorem q_gMd_228 : q_mok q_cl q_Ts q_Ns q_yn q_Mt "PatternWalkModel" 228 (1, 113, 2, 8) := ⟨⟨q_mMd_takes, rfl, q_in 1001 (by decide +kernel) (by decide +kernel), q_in 64 (by decide +kernel) (by decide +kernel), (by decide +kernel), (by decide)⟩, Or.inl (q_in 998 (by decide +kernel) (by decide +kernel)), q_in 1000 (by decide +kernel) (by decide +kernel), q_in 51 (by decide +kernel) (by decide +kernel), ⟨q_TMd, 45, rfl⟩⟩
theorem q_gMd_234 : q_mok q_cl q_Ts q_Ns q_yn q_Mt "PatternWalkModel" 234 (1, 114, 1, 8) := ⟨⟨q_mMd_isMatch, rfl, q_in 1005 (by decide +kernel) (by decide +kernel), q_in 64 (by decide +kernel) (by decide +kernel), (by decide +kernel), (by decide)⟩, Or.inl (q_in 1002 (by decide +kernel) (by decide +kernel)), q_in 1004 (by decide +kernel) (by decide +kernel), q_in 52 (by decide +kernel) (by decide +kernel), ⟨q_TMd, 45, rfl⟩⟩
theorem q_gMd_249 : q_mok q_cl q_Ts q_Ns q_yn q_Mt "PatternWalkModel" 249 (1, 115, 2, 8) := ⟨⟨q_mMd_spread, rfl, q_in 1009 (by decide +kernel) (by decide +kernel), q_in 64 (by decide +kernel) (by decide +kernel), (by decide +kernel), (by decide)⟩, Or.inl (q_in 1006 (by decide +kernel) (by decide +kernel)), q_in 1008 (by decide +kernel) (by decide +kernel), q_in 53 (by decide +kernel) (by decide +kernel), ⟨q_TMd, 45, rfl⟩⟩
theorem q_gMd_253 : q_mok q_cl q_Ts q_Ns q_yn q_Mt "PatternWalkModel" 253 (1, 116, 2, 8) := ⟨⟨q_mMd_choose, rfl, q_in 1013 (by decide +kernel) (by decide +kernel), q_in 64 (by decide +kernel) (by decide +kernel), (by decide +kernel), (by decide)⟩, Or.inl (q_in 1010 (by decide +kernel) (by decide +kernel)), q_in 1012 (by decide +kernel) (by decide +kernel), q_in 54 (by decide +kernel) (by decide +kernel), ⟨q_TMd, 45, rfl⟩⟩
theorem q_gMd_256 : q_mok q_cl q_Ts q_Ns q_yn q_Mt "PatternWalkModel" 256 (1, 117, 2, 8) := ⟨⟨q_mMd_setMarks, rfl, q_in 1017 (by decide +kernel) (by decide +kernel), q_in 64 (by decide +kernel) (by decide +kernel), (by decide +kernel), (by decide)⟩, Or.inl (q_in 1014 (by decide +kernel) (by decide +kernel)), q_in 1016 (by decide +kernel) (by decide +kernel), q_in 55 (by decide +kernel) (by decide +kernel), ⟨q_TMd, 45, rfl⟩⟩
theorem q_gMd_259 : q_mok q_cl q_Ts q_Ns q_yn q_Mt "PatternWalkModel" 259 (1, 118, 1, 8) := ⟨⟨q_mMd_step, rfl, q_in 1021 (by decide +kernel) (by decide +kernel), q_in 64 (by decide +kernel) (by decide +kernel), (by decide +kernel), (by decide)⟩, Or.inl (q_in 1018 (by decide +kernel) (by decide +kernel)), q_in 1020 (by decide +kernel) (by decide +kernel), q_in 56 (by decide +kernel) (by decide +kernel), ⟨q_TMd, 45, rfl⟩⟩
theorem q_pokMd : q_pok q_cl q_Ts q_Ns q_yn q_Mt "PatternWalkModel" q_PMd := by
  refine ⟨fun k f h => ?_, fun k n h => ?_, fun k x h => ?_, fun k v h => ?_, fun k v h => ?_⟩
  · have := q_lk_mem h
    exact (show ∀ e ∈ q_FMd, q_fok q_cl q_Ts q_Ns "PatternWalkModel" e.1 e.2 from (List.forall_mem_cons.mpr ⟨q_fMd_103, (List.forall_mem_cons.mpr ⟨q_fMd_106, (List.forall_mem_cons.mpr ⟨q_fMd_7, (List.forall_mem_cons.mpr ⟨q_fMd_13, (List.forall_mem_cons.mpr ⟨q_fMd_112, (List.forall_mem_cons.mpr ⟨q_fMd_17, (List.forall_mem_cons.mpr ⟨q_fMd_21, (List.forall_mem_cons.mpr ⟨q_fMd_24, (List.forall_mem_cons.mpr ⟨q_fMd_27, (List.forall_mem_cons.mpr ⟨q_fMd_30, (List.forall_mem_cons.mpr ⟨q_fMd_33, (List.forall_mem_cons.mpr ⟨q_fMd_36, (List.forall_mem_cons.mpr ⟨q_fMd_39, (List.forall_mem_cons.mpr ⟨q_fMd_43, (List.forall_mem_cons.mpr ⟨q_fMd_126, (List.forall_mem_cons.mpr ⟨q_fMd_161, (List.forall_mem_cons.mpr ⟨q_fMd_46, (List.forall_mem_cons.mpr ⟨q_fMd_49, (List.forall_mem_cons.mpr ⟨q_fMd_52, (List.forall_mem_cons.mpr ⟨q_fMd_164, (List.forall_mem_cons.mpr ⟨q_fMd_115, (List.forall_mem_cons.mpr ⟨q_fMd_55, (List.forall_mem_cons.mpr ⟨q_fMd_109, (List.forall_mem_cons.mpr ⟨q_fMd_58, (List.forall_mem_cons.mpr ⟨q_fMd_61, (List.forall_mem_cons.mpr ⟨q_fMd_64, (List.forall_mem_cons.mpr ⟨q_fMd_184, (List.forall_mem_cons.mpr ⟨q_fMd_67, (List.forall_mem_cons.mpr ⟨q_fMd_70, (List.forall_mem_cons.mpr ⟨q_fMd_212, (List.forall_mem_cons.mpr ⟨q_fMd_219, (List.forall_mem_cons.mpr ⟨q_fMd_222, (List.forall_mem_cons.mpr ⟨q_fMd_73, (List.forall_mem_cons.mpr ⟨q_fMd_225, (List.forall_mem_cons.mpr ⟨q_fMd_246, (List.forall_mem_cons.mpr ⟨q_fMd_76, (List.forall_mem_cons.mpr ⟨q_fMd_79, (List.forall_mem_cons.mpr ⟨q_fMd_82, (List.forall_mem_cons.mpr ⟨q_fMd_85, (List.forall_mem_cons.mpr ⟨q_fMd_88, (List.forall_mem_cons.mpr ⟨q_fMd_240, (List.forall_mem_cons.mpr ⟨q_fMd_91, (List.forall_mem_cons.mpr ⟨q_fMd_94, (List.forall_mem_cons.mpr ⟨q_fMd_97, (List.forall_mem_cons.mpr ⟨q_fMd_100, (fun _ h => absurd h List.not_mem_nil)⟩)⟩)⟩)⟩)⟩)⟩)⟩)⟩)⟩)⟩)⟩)⟩)⟩)⟩)⟩)⟩)⟩)⟩)⟩)⟩)⟩)⟩)⟩)⟩)⟩)⟩)⟩)⟩)⟩)⟩)⟩)⟩)⟩)⟩)⟩)⟩)⟩)⟩)⟩)⟩)⟩)⟩)⟩)⟩)⟩)) (k, f) this
  · have := q_lk_mem h
    exact (show ∀ e ∈ q_CMd, ∀ n, e.2 = .inl n → q_nok q_cl q_Ts "PatternWalkModel" e.1 n from (fun _ h => absurd h List.not_mem_nil)) (k, .inl n) this n rfl
  · have := q_lk_mem h
    exact (show ∀ e ∈ q_MMd, q_mok q_cl q_Ts q_Ns q_yn q_Mt "PatternWalkModel" e.1 e.2 from (List.forall_mem_cons.mpr ⟨q_gMd_1, (List.forall_mem_cons.mpr ⟨q_gMd_201, (List.forall_mem_cons.mpr ⟨q_gMd_143, (List.forall_mem_cons.mpr ⟨q_gMd_129, (List.forall_mem_cons.mpr ⟨q_gMd_167, (List.forall_mem_cons.mpr ⟨q_gMd_170, (List.forall_mem_cons.mpr ⟨q_gMd_155, (List.forall_mem_cons.mpr ⟨q_gMd_158, (List.forall_mem_cons.mpr ⟨q_gMd_173, (List.forall_mem_cons.mpr ⟨q_gMd_140, (List.forall_mem_cons.mpr ⟨q_gMd_147, (List.forall_mem_cons.mpr ⟨q_gMd_151, (List.forall_mem_cons.mpr ⟨q_gMd_132, (List.forall_mem_cons.mpr ⟨q_gMd_118, (List.forall_mem_cons.mpr ⟨q_gMd_136, (List.forall_mem_cons.mpr ⟨q_gMd_205, (List.forall_mem_cons.mpr ⟨q_gMd_180, (List.forall_mem_cons.mpr ⟨q_gMd_187, (List.forall_mem_cons.mpr ⟨q_gMd_209, (List.forall_mem_cons.mpr ⟨q_gMd_195, (List.forall_mem_cons.mpr ⟨q_gMd_198, (List.forall_mem_cons.mpr ⟨q_gMd_191, (List.forall_mem_cons.mpr ⟨q_gMd_216, (List.forall_mem_cons.mpr ⟨q_gMd_122, (List.forall_mem_cons.mpr ⟨q_gMd_263, (List.forall_mem_cons.mpr ⟨q_gMd_243, (List.forall_mem_cons.mpr ⟨q_gMd_231, (List.forall_mem_cons.mpr ⟨q_gMd_237, (List.forall_mem_cons.mpr ⟨q_gMd_228, (List.forall_mem_cons.mpr ⟨q_gMd_234, (List.forall_mem_cons.mpr ⟨q_gMd_249, (List.forall_mem_cons.mpr ⟨q_gMd_253, (List.forall_mem_cons.mpr ⟨q_gMd_256, (List.forall_mem_cons.mpr ⟨q_gMd_259, (fun _ h => absurd h List.not_mem_nil)⟩)⟩)⟩)⟩)⟩)⟩)⟩)⟩)⟩)⟩)⟩)⟩)⟩)⟩)⟩)⟩)⟩)⟩)⟩)⟩)⟩)⟩)⟩)⟩)⟩)⟩)⟩)⟩)⟩)⟩)⟩)⟩)⟩)⟩)) (k, x) this
  · have := q_lk_mem h
    exact (show ∀ e ∈ q_IMd, Cond.constant "PatternWalkModel" e.1 e.2 ∈ q_Ts from (fun _ h => absurd h List.not_mem_nil)) (k, v) this
  · have := q_lk_mem h
    exact (show ∀ e ∈ q_LMd, Cond.constantLong "PatternWalkModel" e.1 e.2 ∈ q_Ts from (List.forall_mem_cons.mpr ⟨q_in 920 (by decide +kernel) (by decide +kernel), (List.forall_mem_cons.mpr ⟨q_in 921 (by decide +kernel) (by decide +kernel), (fun _ h => absurd h List.not_mem_nil)⟩)⟩)) (k, v) this
theorem q_pokAr : q_pok q_cl q_Ts q_Ns q_yn q_Mt "java/util/Arrays" q_PAr := by
  refine ⟨fun k f h => ?_, fun k n h => ?_, fun k x h => ?_, fun k v h => ?_, fun k v h => ?_⟩
  · have := q_lk_mem h
    exact (show ∀ e ∈ q_FAr, q_fok q_cl q_Ts q_Ns "java/util/Arrays" e.1 e.2 from (fun _ h => absurd h List.not_mem_nil)) (k, f) this
  · have := q_lk_mem h
    exact (show ∀ e ∈ q_CAr, ∀ n, e.2 = .inl n → q_nok q_cl q_Ts "java/util/Arrays" e.1 n from (fun _ h => absurd h List.not_mem_nil)) (k, .inl n) this n rfl
  · have := q_lk_mem h
    exact (show ∀ e ∈ q_MAr, q_mok q_cl q_Ts q_Ns q_yn q_Mt "java/util/Arrays" e.1 e.2 from (fun _ h => absurd h List.not_mem_nil)) (k, x) this
  · have := q_lk_mem h
    exact (show ∀ e ∈ q_IAr, Cond.constant "java/util/Arrays" e.1 e.2 ∈ q_Ts from (fun _ h => absurd h List.not_mem_nil)) (k, v) this
  · have := q_lk_mem h
    exact (show ∀ e ∈ q_LAr, Cond.constantLong "java/util/Arrays" e.1 e.2 ∈ q_Ts from (fun _ h => absurd h List.not_mem_nil)) (k, v) this
theorem q_pokLo : q_pok q_cl q_Ts q_Ns q_yn q_Mt "java/lang/Long" q_PLo := by
  refine ⟨fun k f h => ?_, fun k n h => ?_, fun k x h => ?_, fun k v h => ?_, fun k v h => ?_⟩
  · have := q_lk_mem h
    exact (show ∀ e ∈ q_FLo, q_fok q_cl q_Ts q_Ns "java/lang/Long" e.1 e.2 from (fun _ h => absurd h List.not_mem_nil)) (k, f) this
  · have := q_lk_mem h
    exact (show ∀ e ∈ q_CLo, ∀ n, e.2 = .inl n → q_nok q_cl q_Ts "java/lang/Long" e.1 n from (fun _ h => absurd h List.not_mem_nil)) (k, .inl n) this n rfl
  · have := q_lk_mem h
    exact (show ∀ e ∈ q_MLo, q_mok q_cl q_Ts q_Ns q_yn q_Mt "java/lang/Long" e.1 e.2 from (fun _ h => absurd h List.not_mem_nil)) (k, x) this
  · have := q_lk_mem h
    exact (show ∀ e ∈ q_ILo, Cond.constant "java/lang/Long" e.1 e.2 ∈ q_Ts from (fun _ h => absurd h List.not_mem_nil)) (k, v) this
  · have := q_lk_mem h
    exact (show ∀ e ∈ q_LLo, Cond.constantLong "java/lang/Long" e.1 e.2 ∈ q_Ts from (List.forall_mem_cons.mpr ⟨q_in 298 (by decide +kernel) (by decide +kernel), (List.forall_mem_cons.mpr ⟨q_in 299 (by decide +kernel) (by decide +kernel), (List.forall_mem_cons.mpr ⟨q_in 300 (by decide +kernel) (by decide +kernel), (fun _ h => absurd h List.not_mem_nil)⟩)⟩)⟩)) (k, v) this
end
section
set_option maxRecDepth 100000 in
theorem q_Mok_all : q_Mok q_cl q_Ts q_Ns q_yn q_Mt := by
  have key : ∀ e ∈ q_all, plainFor e.1 = true ∧ (e.2.2.2.2.1 = true → e.1.name = "<init>") ∧ q_pok q_cl q_Ts q_Ns q_yn q_Mt e.1.cls e.2.2.2.2.2 := (List.forall_mem_cons.mpr ⟨⟨by decide +kernel, fun _ => rfl, q_pokPW⟩, (List.forall_mem_cons.mpr ⟨⟨by decide +kernel, fun h => absurd h (by decide), q_pokPW⟩, (List.forall_mem_cons.mpr ⟨⟨by decide +kernel, fun h => absurd h (by decide), q_pokPW⟩, (List.forall_mem_cons.mpr ⟨⟨by decide +kernel, fun h => absurd h (by decide), q_pokPW⟩, (List.forall_mem_cons.mpr ⟨⟨by decide +kernel, fun h => absurd h (by decide), q_pokPW⟩, (List.forall_mem_cons.mpr ⟨⟨by decide +kernel, fun h => absurd h (by decide), q_pokPW⟩, (List.forall_mem_cons.mpr ⟨⟨by decide +kernel, fun h => absurd h (by decide), q_pokPW⟩, (List.forall_mem_cons.mpr ⟨⟨by decide +kernel, fun h => absurd h (by decide), q_pokPW⟩, (List.forall_mem_cons.mpr ⟨⟨by decide +kernel, fun h => absurd h (by decide), q_pokPW⟩, (List.forall_mem_cons.mpr ⟨⟨by decide +kernel, fun h => absurd h (by decide), q_pokPW⟩, (List.forall_mem_cons.mpr ⟨⟨by decide +kernel, fun h => absurd h (by decide), q_pokPW⟩, (List.forall_mem_cons.mpr ⟨⟨by decide +kernel, fun h => absurd h (by decide), q_pokPW⟩, (List.forall_mem_cons.mpr ⟨⟨by decide +kernel, fun h => absurd h (by decide), q_pokPW⟩, (List.forall_mem_cons.mpr ⟨⟨by decide +kernel, fun h => absurd h (by decide), q_pokPW⟩, (List.forall_mem_cons.mpr ⟨⟨by decide +kernel, fun _ => rfl, q_pokCs⟩, (List.forall_mem_cons.mpr ⟨⟨by decide +kernel, fun h => absurd h (by decide), q_pokCs⟩, (List.forall_mem_cons.mpr ⟨⟨by decide +kernel, fun h => absurd h (by decide), q_pokCs⟩, (List.forall_mem_cons.mpr ⟨⟨by decide +kernel, fun h => absurd h (by decide), q_pokCs⟩, (List.forall_mem_cons.mpr ⟨⟨by decide +kernel, fun h => absurd h (by decide), q_pokCs⟩, (List.forall_mem_cons.mpr ⟨⟨by decide +kernel, fun h => absurd h (by decide), q_pokCs⟩, (List.forall_mem_cons.mpr ⟨⟨by decide +kernel, fun h => absurd h (by decide), q_pokCs⟩, (List.forall_mem_cons.mpr ⟨⟨by decide +kernel, fun h => absurd h (by decide), q_pokCs⟩, (List.forall_mem_cons.mpr ⟨⟨by decide +kernel, fun _ => rfl, q_pokPa⟩, (List.forall_mem_cons.mpr ⟨⟨by decide +kernel, fun h => absurd h (by decide), q_pokPa⟩, (List.forall_mem_cons.mpr ⟨⟨by decide +kernel, fun h => absurd h (by decide), q_pokPa⟩, (List.forall_mem_cons.mpr ⟨⟨by decide +kernel, fun h => absurd h (by decide), q_pokPa⟩, (List.forall_mem_cons.mpr ⟨⟨by decide +kernel, fun h => absurd h (by decide), q_pokPa⟩, (List.forall_mem_cons.mpr ⟨⟨by decide +kernel, fun h => absurd h (by decide), q_pokPa⟩, (List.forall_mem_cons.mpr ⟨⟨by decide +kernel, fun h => absurd h (by decide), q_pokPa⟩, (List.forall_mem_cons.mpr ⟨⟨by decide +kernel, fun h => absurd h (by decide), q_pokPa⟩, (List.forall_mem_cons.mpr ⟨⟨by decide +kernel, fun h => absurd h (by decide), q_pokPa⟩, (List.forall_mem_cons.mpr ⟨⟨by decide +kernel, fun h => absurd h (by decide), q_pokPa⟩, (List.forall_mem_cons.mpr ⟨⟨by decide +kernel, fun h => absurd h (by decide), q_pokPa⟩, (List.forall_mem_cons.mpr ⟨⟨by decide +kernel, fun h => absurd h (by decide), q_pokPa⟩, (List.forall_mem_cons.mpr ⟨⟨by decide +kernel, fun h => absurd h (by decide), q_pokPa⟩, (List.forall_mem_cons.mpr ⟨⟨by decide +kernel, fun h => absurd h (by decide), q_pokPa⟩, (List.forall_mem_cons.mpr ⟨⟨by decide +kernel, fun h => absurd h (by decide), q_pokPa⟩, (List.forall_mem_cons.mpr ⟨⟨by decide +kernel, fun h => absurd h (by decide), q_pokPa⟩, (List.forall_mem_cons.mpr ⟨⟨by decide +kernel, fun h => absurd h (by decide), q_pokPa⟩, (List.forall_mem_cons.mpr ⟨⟨by decide +kernel, fun h => absurd h (by decide), q_pokPa⟩, (List.forall_mem_cons.mpr ⟨⟨by decide +kernel, fun _ => rfl, q_pokPr⟩, (List.forall_mem_cons.mpr ⟨⟨by decide +kernel, fun h => absurd h (by decide), q_pokPr⟩, (List.forall_mem_cons.mpr ⟨⟨by decide +kernel, fun h => absurd h (by decide), q_pokPr⟩, (List.forall_mem_cons.mpr ⟨⟨by decide +kernel, fun h => absurd h (by decide), q_pokPr⟩, (List.forall_mem_cons.mpr ⟨⟨by decide +kernel, fun h => absurd h (by decide), q_pokPr⟩, (List.forall_mem_cons.mpr ⟨⟨by decide +kernel, fun h => absurd h (by decide), q_pokPr⟩, (List.forall_mem_cons.mpr ⟨⟨by decide +kernel, fun h => absurd h (by decide), q_pokPr⟩, (List.forall_mem_cons.mpr ⟨⟨by decide +kernel, fun h => absurd h (by decide), q_pokPr⟩, (List.forall_mem_cons.mpr ⟨⟨by decide +kernel, fun h => absurd h (by decide), q_pokPr⟩, (List.forall_mem_cons.mpr ⟨⟨by decide +kernel, fun h => absurd h (by decide), q_pokPr⟩, (List.forall_mem_cons.mpr ⟨⟨by decide +kernel, fun h => absurd h (by decide), q_pokPr⟩, (List.forall_mem_cons.mpr ⟨⟨by decide +kernel, fun h => absurd h (by decide), q_pokPr⟩, (List.forall_mem_cons.mpr ⟨⟨by decide +kernel, fun h => absurd h (by decide), q_pokPr⟩, (List.forall_mem_cons.mpr ⟨⟨by decide +kernel, fun _ => rfl, q_pokRp⟩, (List.forall_mem_cons.mpr ⟨⟨by decide +kernel, fun h => absurd h (by decide), q_pokRp⟩, (List.forall_mem_cons.mpr ⟨⟨by decide +kernel, fun _ => rfl, q_pokRw⟩, (List.forall_mem_cons.mpr ⟨⟨by decide +kernel, fun h => absurd h (by decide), q_pokRw⟩, (List.forall_mem_cons.mpr ⟨⟨by decide +kernel, fun h => absurd h (by decide), q_pokRw⟩, (List.forall_mem_cons.mpr ⟨⟨by decide +kernel, fun _ => rfl, q_pokWk⟩, (List.forall_mem_cons.mpr ⟨⟨by decide +kernel, fun h => absurd h (by decide), q_pokWk⟩, (List.forall_mem_cons.mpr ⟨⟨by decide +kernel, fun h => absurd h (by decide), q_pokWk⟩, (List.forall_mem_cons.mpr ⟨⟨by decide +kernel, fun h => absurd h (by decide), q_pokWk⟩, (List.forall_mem_cons.mpr ⟨⟨by decide +kernel, fun h => absurd h (by decide), q_pokWk⟩, (List.forall_mem_cons.mpr ⟨⟨by decide +kernel, fun h => absurd h (by decide), q_pokWk⟩, (List.forall_mem_cons.mpr ⟨⟨by decide +kernel, fun h => absurd h (by decide), q_pokWk⟩, (List.forall_mem_cons.mpr ⟨⟨by decide +kernel, fun h => absurd h (by decide), q_pokWk⟩, (List.forall_mem_cons.mpr ⟨⟨by decide +kernel, fun h => absurd h (by decide), q_pokWk⟩, (List.forall_mem_cons.mpr ⟨⟨by decide +kernel, fun h => absurd h (by decide), q_pokWk⟩, (List.forall_mem_cons.mpr ⟨⟨by decide +kernel, fun h => absurd h (by decide), q_pokWk⟩, (List.forall_mem_cons.mpr ⟨⟨by decide +kernel, fun h => absurd h (by decide), q_pokWk⟩, (List.forall_mem_cons.mpr ⟨⟨by decide +kernel, fun h => absurd h (by decide), q_pokWk⟩, (List.forall_mem_cons.mpr ⟨⟨by decide +kernel, fun _ => rfl, q_pokWy⟩, (List.forall_mem_cons.mpr ⟨⟨by decide +kernel, fun h => absurd h (by decide), q_pokWy⟩, (List.forall_mem_cons.mpr ⟨⟨by decide +kernel, fun h => absurd h (by decide), q_pokWy⟩, (List.forall_mem_cons.mpr ⟨⟨by decide +kernel, fun h => absurd h (by decide), q_pokWy⟩, (List.forall_mem_cons.mpr ⟨⟨by decide +kernel, fun _ => rfl, q_pokMd⟩, (List.forall_mem_cons.mpr ⟨⟨by decide +kernel, fun h => absurd h (by decide), q_pokMd⟩, (List.forall_mem_cons.mpr ⟨⟨by decide +kernel, fun h => absurd h (by decide), q_pokMd⟩, (List.forall_mem_cons.mpr ⟨⟨by decide +kernel, fun h => absurd h (by decide), q_pokMd⟩, (List.forall_mem_cons.mpr ⟨⟨by decide +kernel, fun h => absurd h (by decide), q_pokMd⟩, (List.forall_mem_cons.mpr ⟨⟨by decide +kernel, fun h => absurd h (by decide), q_pokMd⟩, (List.forall_mem_cons.mpr ⟨⟨by decide +kernel, fun h => absurd h (by decide), q_pokMd⟩, (List.forall_mem_cons.mpr ⟨⟨by decide +kernel, fun h => absurd h (by decide), q_pokMd⟩, (List.forall_mem_cons.mpr ⟨⟨by decide +kernel, fun h => absurd h (by decide), q_pokMd⟩, (List.forall_mem_cons.mpr ⟨⟨by decide +kernel, fun h => absurd h (by decide), q_pokMd⟩, (List.forall_mem_cons.mpr ⟨⟨by decide +kernel, fun h => absurd h (by decide), q_pokMd⟩, (List.forall_mem_cons.mpr ⟨⟨by decide +kernel, fun h => absurd h (by decide), q_pokMd⟩, (List.forall_mem_cons.mpr ⟨⟨by decide +kernel, fun h => absurd h (by decide), q_pokMd⟩, (List.forall_mem_cons.mpr ⟨⟨by decide +kernel, fun h => absurd h (by decide), q_pokMd⟩, (List.forall_mem_cons.mpr ⟨⟨by decide +kernel, fun h => absurd h (by decide), q_pokMd⟩, (List.forall_mem_cons.mpr ⟨⟨by decide +kernel, fun h => absurd h (by decide), q_pokMd⟩, (List.forall_mem_cons.mpr ⟨⟨by decide +kernel, fun h => absurd h (by decide), q_pokMd⟩, (List.forall_mem_cons.mpr ⟨⟨by decide +kernel, fun h => absurd h (by decide), q_pokMd⟩, (List.forall_mem_cons.mpr ⟨⟨by decide +kernel, fun h => absurd h (by decide), q_pokMd⟩, (List.forall_mem_cons.mpr ⟨⟨by decide +kernel, fun h => absurd h (by decide), q_pokMd⟩, (List.forall_mem_cons.mpr ⟨⟨by decide +kernel, fun h => absurd h (by decide), q_pokMd⟩, (List.forall_mem_cons.mpr ⟨⟨by decide +kernel, fun h => absurd h (by decide), q_pokMd⟩, (List.forall_mem_cons.mpr ⟨⟨by decide +kernel, fun h => absurd h (by decide), q_pokMd⟩, (List.forall_mem_cons.mpr ⟨⟨by decide +kernel, fun h => absurd h (by decide), q_pokMd⟩, (List.forall_mem_cons.mpr ⟨⟨by decide +kernel, fun h => absurd h (by decide), q_pokMd⟩, (List.forall_mem_cons.mpr ⟨⟨by decide +kernel, fun h => absurd h (by decide), q_pokMd⟩, (List.forall_mem_cons.mpr ⟨⟨by decide +kernel, fun h => absurd h (by decide), q_pokMd⟩, (List.forall_mem_cons.mpr ⟨⟨by decide +kernel, fun h => absurd h (by decide), q_pokMd⟩, (List.forall_mem_cons.mpr ⟨⟨by decide +kernel, fun h => absurd h (by decide), q_pokMd⟩, (List.forall_mem_cons.mpr ⟨⟨by decide +kernel, fun h => absurd h (by decide), q_pokMd⟩, (List.forall_mem_cons.mpr ⟨⟨by decide +kernel, fun h => absurd h (by decide), q_pokMd⟩, (List.forall_mem_cons.mpr ⟨⟨by decide +kernel, fun h => absurd h (by decide), q_pokMd⟩, (List.forall_mem_cons.mpr ⟨⟨by decide +kernel, fun h => absurd h (by decide), q_pokMd⟩, (List.forall_mem_cons.mpr ⟨⟨by decide +kernel, fun h => absurd h (by decide), q_pokMd⟩, (List.forall_mem_cons.mpr ⟨⟨by decide +kernel, fun h => absurd h (by decide), q_pokMd⟩, (List.forall_mem_cons.mpr ⟨⟨by decide +kernel, fun h => absurd h (by decide), q_pokMd⟩, (List.forall_mem_cons.mpr ⟨⟨by decide +kernel, fun h => absurd h (by decide), q_pokMd⟩, (List.forall_mem_cons.mpr ⟨⟨by decide +kernel, fun h => absurd h (by decide), q_pokMd⟩, (List.forall_mem_cons.mpr ⟨⟨by decide +kernel, fun h => absurd h (by decide), q_pokMd⟩, (List.forall_mem_cons.mpr ⟨⟨by decide +kernel, fun h => absurd h (by decide), q_pokMd⟩, (List.forall_mem_cons.mpr ⟨⟨by decide +kernel, fun h => absurd h (by decide), q_pokMd⟩, (List.forall_mem_cons.mpr ⟨⟨by decide +kernel, fun h => absurd h (by decide), q_pokMd⟩, (List.forall_mem_cons.mpr ⟨⟨by decide +kernel, fun h => absurd h (by decide), q_pokMd⟩, (List.forall_mem_cons.mpr ⟨⟨by decide +kernel, fun h => absurd h (by decide), q_pokMd⟩, (List.forall_mem_cons.mpr ⟨⟨by decide +kernel, fun h => absurd h (by decide), q_pokMd⟩, (List.forall_mem_cons.mpr ⟨⟨by decide +kernel, fun h => absurd h (by decide), q_pokMd⟩, (List.forall_mem_cons.mpr ⟨⟨by decide +kernel, fun h => absurd h (by decide), q_pokMd⟩, (List.forall_mem_cons.mpr ⟨⟨by decide +kernel, fun h => absurd h (by decide), q_pokMd⟩, (List.forall_mem_cons.mpr ⟨⟨by decide +kernel, fun h => absurd h (by decide), q_pokAr⟩, (List.forall_mem_cons.mpr ⟨⟨by decide +kernel, fun h => absurd h (by decide), q_pokAr⟩, (List.forall_mem_cons.mpr ⟨⟨by decide +kernel, fun h => absurd h (by decide), q_pokLo⟩, (fun _ h => absurd h List.not_mem_nil)⟩)⟩)⟩)⟩)⟩)⟩)⟩)⟩)⟩)⟩)⟩)⟩)⟩)⟩)⟩)⟩)⟩)⟩)⟩)⟩)⟩)⟩)⟩)⟩)⟩)⟩)⟩)⟩)⟩)⟩)⟩)⟩)⟩)⟩)⟩)⟩)⟩)⟩)⟩)⟩)⟩)⟩)⟩)⟩)⟩)⟩)⟩)⟩)⟩)⟩)⟩)⟩)⟩)⟩)⟩)⟩)⟩)⟩)⟩)⟩)⟩)⟩)⟩)⟩)⟩)⟩)⟩)⟩)⟩)⟩)⟩)⟩)⟩)⟩)⟩)⟩)⟩)⟩)⟩)⟩)⟩)⟩)⟩)⟩)⟩)⟩)⟩)⟩)⟩)⟩)⟩)⟩)⟩)⟩)⟩)⟩)⟩)⟩)⟩)⟩)⟩)⟩)⟩)⟩)⟩)⟩)⟩)⟩)⟩)⟩)⟩)⟩)⟩)⟩)⟩)⟩)⟩)⟩)⟩)⟩)⟩)⟩)⟩)⟩)⟩)⟩)
  intro z M hz
  unfold q_Mt at hz
  cases he : q_all[z]? with
  | none => rw [he] at hz; cases hz
  | some e =>
    rw [he] at hz
    cases hz
    have h1 := key e (List.mem_of_getElem? he)
    have h2 : q_yn z = e.1 := by unfold q_yn; rw [List.getD_eq_getElem?_getD, he]; rfl
    rw [h2]
    exact h1
theorem q_arrs : Cond.arrayClass .int ∈ q_Ts ∧ Cond.arrayClass .char ∈ q_Ts ∧ Cond.arrayClass .long ∈ q_Ts ∧ Cond.arrayClass .boolean ∈ q_Ts := ⟨q_in 149 (by decide +kernel) (by decide +kernel), q_in 96 (by decide +kernel) (by decide +kernel), q_in 97 (by decide +kernel) (by decide +kernel), q_in 850 (by decide +kernel) (by decide +kernel)⟩
/-- every answer of the small machine is the machine's -/
theorem q_true {l : Launch} {D : va_G} {ac : Nat → ClassId} {B0 : Nat} (d : Nat) : q_Snd l D q_cl ac B0 q_Ts q_Ns q_yn q_Mt d (q_ev q_Mt d) := q_ev_ok q_Ts_good q_Ns_isN q_Mok_all q_arrs d
end
section
/-! EQUATIONS OF RUNS: what an instruction does to q_out -/
section QO
variable {rc : qC} {M : qM} {pc : Nat} {lo : qL} {st : List Value} {σ : qH}
theorem o_null  (hd : decode M.1 pc = .ok (.aconst_null, 1))  : q_out rc M (pc, lo, st, σ) = q_out rc M (pc + 1, lo, .null :: st, σ) :=
  q_out_go (by rw [q_step_of hd (Or.inl rfl)]; simp only [q_ex, q_push, q_go])
theorem o_iconst {n : Int} {v : Int32} (hd : decode M.1 pc = .ok (.iconst n, 1)) (hv : Int32.ofInt n = v) : q_out rc M (pc, lo, st, σ) = q_out rc M (pc + 1, lo, .int v :: st, σ) :=
  q_out_go (by rw [q_step_of hd (Or.inl rfl)]; subst hv; simp only [q_ex, q_push, q_go])
theorem o_bipush {n : Int} {v : Int32} (hd : decode M.1 pc = .ok (.bipush n, 2)) (hv : (Int8.ofInt n).toInt32 = v) : q_out rc M (pc, lo, st, σ) = q_out rc M (pc + 2, lo, .int v :: st, σ) :=
  q_out_go (by rw [q_step_of hd (Or.inl rfl)]; subst hv; simp only [q_ex, q_push, q_go])
theorem o_sipush {n : Int} {v : Int32} (hd : decode M.1 pc = .ok (.sipush n, 3)) (hv : (Int16.ofInt n).toInt32 = v) : q_out rc M (pc, lo, st, σ) = q_out rc M (pc + 3, lo, .int v :: st, σ) :=
  q_out_go (by rw [q_step_of hd (Or.inl rfl)]; subst hv; simp only [q_ex, q_push, q_go])
theorem o_lconst {n : Fin 2} {v : Int64} (hd : decode M.1 pc = .ok (.lconst n, 1)) (hv : Int64.ofNat (n : Nat) = v) : q_out rc M (pc, lo, st, σ) = q_out rc M (pc + 1, lo, .long v :: st, σ) :=
  q_out_go (by rw [q_step_of hd (Or.inl rfl)]; subst hv; simp only [q_ex, q_push, q_go])
theorem o_iload_n {k : Fin 4} {x : Int32} (hd : decode M.1 pc = .ok (.iload_n k, 1)) (hl : lo.getD k.val none = some (.int x)) : q_out rc M (pc, lo, st, σ) = q_out rc M (pc + 1, lo, .int x :: st, σ) :=
  q_out_go (by rw [q_step_of hd (Or.inl rfl)]; simp only [q_ex, q_iload, q_go, hl])
theorem o_iload {k : Nat} {x : Int32} (hd : decode M.1 pc = .ok (.iload k, 2)) (hl : lo.getD k none = some (.int x)) : q_out rc M (pc, lo, st, σ) = q_out rc M (pc + 2, lo, .int x :: st, σ) :=
  q_out_go (by rw [q_step_of hd (Or.inl rfl)]; simp only [q_ex, q_iload, q_go, hl])
theorem o_lload_n {k : Fin 4} {x : Int64} (hd : decode M.1 pc = .ok (.lload_n k, 1)) (hl : lo.getD k.val none = some (.long x)) : q_out rc M (pc, lo, st, σ) = q_out rc M (pc + 1, lo, .long x :: st, σ) :=
  q_out_go (by rw [q_step_of hd (Or.inl rfl)]; simp only [q_ex, q_lload, q_go, hl])
theorem o_lload {k : Nat} {x : Int64} (hd : decode M.1 pc = .ok (.lload k, 2)) (hl : lo.getD k none = some (.long x)) : q_out rc M (pc, lo, st, σ) = q_out rc M (pc + 2, lo, .long x :: st, σ) :=
  q_out_go (by rw [q_step_of hd (Or.inl rfl)]; simp only [q_ex, q_lload, q_go, hl])
theorem o_aload_n {k : Fin 4} {x : Nat} (hd : decode M.1 pc = .ok (.aload_n k, 1)) (hl : lo.getD k.val none = some (.ref x)) : q_out rc M (pc, lo, st, σ) = q_out rc M (pc + 1, lo, .ref x :: st, σ) :=
  q_out_go (by rw [q_step_of hd (Or.inl rfl)]; simp only [q_ex, q_aload, q_go, hl])
theorem o_aload {k : Nat} {x : Nat} (hd : decode M.1 pc = .ok (.aload k, 2)) (hl : lo.getD k none = some (.ref x)) : q_out rc M (pc, lo, st, σ) = q_out rc M (pc + 2, lo, .ref x :: st, σ) :=
  q_out_go (by rw [q_step_of hd (Or.inl rfl)]; simp only [q_ex, q_aload, q_go, hl])
theorem o_aload_nN {k : Fin 4} (hd : decode M.1 pc = .ok (.aload_n k, 1)) (hl : lo.getD k.val none = some .null) : q_out rc M (pc, lo, st, σ) = q_out rc M (pc + 1, lo, .null :: st, σ) :=
  q_out_go (by rw [q_step_of hd (Or.inl rfl)]; simp only [q_ex, q_aload, q_go, hl])
theorem o_aloadN {k : Nat} (hd : decode M.1 pc = .ok (.aload k, 2)) (hl : lo.getD k none = some .null) : q_out rc M (pc, lo, st, σ) = q_out rc M (pc + 2, lo, .null :: st, σ) :=
  q_out_go (by rw [q_step_of hd (Or.inl rfl)]; simp only [q_ex, q_aload, q_go, hl])
theorem o_istore_n {k : Fin 4} {x : Int32} {lo' : qL} (hd : decode M.1 pc = .ok (.istore_n k, 1)) (hi : k.val < lo.length) (hl : q_st1 lo k.val (.int x) = lo') : q_out rc M (pc, lo, .int x :: st, σ) = q_out rc M (pc + 1, lo', st, σ) :=
  q_out_go (by rw [q_step_of hd (Or.inl rfl)]; subst hl; simp only [q_ex, q_istore, q_go, if_pos hi])
theorem o_istore {k : Nat} {x : Int32} {lo' : qL} (hd : decode M.1 pc = .ok (.istore k, 2)) (hi : k < lo.length) (hl : q_st1 lo k (.int x) = lo') : q_out rc M (pc, lo, .int x :: st, σ) = q_out rc M (pc + 2, lo', st, σ) :=
  q_out_go (by rw [q_step_of hd (Or.inl rfl)]; subst hl; simp only [q_ex, q_istore, q_go, if_pos hi])
theorem o_lstore_n {k : Fin 4} {x : Int64} {lo' : qL} (hd : decode M.1 pc = .ok (.lstore_n k, 1)) (hi : k.val + 1 < lo.length) (hl : q_st2 lo k.val (.long x) = lo') : q_out rc M (pc, lo, .long x :: st, σ) = q_out rc M (pc + 1, lo', st, σ) :=
  q_out_go (by rw [q_step_of hd (Or.inl rfl)]; subst hl; simp only [q_ex, q_lstore, q_go, if_pos hi])
theorem o_lstore {k : Nat} {x : Int64} {lo' : qL} (hd : decode M.1 pc = .ok (.lstore k, 2)) (hi : k + 1 < lo.length) (hl : q_st2 lo k (.long x) = lo') : q_out rc M (pc, lo, .long x :: st, σ) = q_out rc M (pc + 2, lo', st, σ) :=
  q_out_go (by rw [q_step_of hd (Or.inl rfl)]; subst hl; simp only [q_ex, q_lstore, q_go, if_pos hi])
theorem o_astore_n {k : Fin 4} {x : Nat} {lo' : qL} (hd : decode M.1 pc = .ok (.astore_n k, 1)) (hi : k.val < lo.length) (hl : q_st1 lo k.val (.ref x) = lo') : q_out rc M (pc, lo, .ref x :: st, σ) = q_out rc M (pc + 1, lo', st, σ) :=
  q_out_go (by rw [q_step_of hd (Or.inl rfl)]; subst hl; simp only [q_ex, q_astore, q_go, if_pos hi])
theorem o_astore {k : Nat} {x : Nat} {lo' : qL} (hd : decode M.1 pc = .ok (.astore k, 2)) (hi : k < lo.length) (hl : q_st1 lo k (.ref x) = lo') : q_out rc M (pc, lo, .ref x :: st, σ) = q_out rc M (pc + 2, lo', st, σ) :=
  q_out_go (by rw [q_step_of hd (Or.inl rfl)]; subst hl; simp only [q_ex, q_astore, q_go, if_pos hi])
theorem o_astore_nN {k : Fin 4} {lo' : qL} (hd : decode M.1 pc = .ok (.astore_n k, 1)) (hi : k.val < lo.length) (hl : q_st1 lo k.val .null = lo') : q_out rc M (pc, lo, .null :: st, σ) = q_out rc M (pc + 1, lo', st, σ) :=
  q_out_go (by rw [q_step_of hd (Or.inl rfl)]; subst hl; simp only [q_ex, q_astore, q_go, if_pos hi])
theorem o_astoreN {k : Nat} {lo' : qL} (hd : decode M.1 pc = .ok (.astore k, 2)) (hi : k < lo.length) (hl : q_st1 lo k .null = lo') : q_out rc M (pc, lo, .null :: st, σ) = q_out rc M (pc + 2, lo', st, σ) :=
  q_out_go (by rw [q_step_of hd (Or.inl rfl)]; subst hl; simp only [q_ex, q_astore, q_go, if_pos hi])
theorem o_iinc {k : Nat} {n : Int} {x v : Int32} {lo' : qL} (hd : decode M.1 pc = .ok (.iinc k n, 3)) (hx : lo.getD k none = some (.int x)) (hv : x + Int32.ofInt n = v) (hi : k < lo.length) (hl : q_st1 lo k (.int v) = lo') : q_out rc M (pc, lo, st, σ) = q_out rc M (pc + 3, lo', st, σ) :=
  q_out_go (by rw [q_step_of hd (Or.inl rfl)]; subst hl; subst hv; simp only [q_ex, q_iinc, q_go, hx, if_pos hi])
theorem o_iadd {x y : Int32} (hd : decode M.1 pc = .ok (.iadd, 1))  : q_out rc M (pc, lo, .int y :: .int x :: st, σ) = q_out rc M (pc + 1, lo, .int (x + y) :: st, σ) :=
  q_out_go (by rw [q_step_of hd (Or.inl rfl)]; simp only [q_ex, q_i2, q_go])
theorem o_isub {x y : Int32} (hd : decode M.1 pc = .ok (.isub, 1))  : q_out rc M (pc, lo, .int y :: .int x :: st, σ) = q_out rc M (pc + 1, lo, .int (x - y) :: st, σ) :=
  q_out_go (by rw [q_step_of hd (Or.inl rfl)]; simp only [q_ex, q_i2, q_go])
theorem o_imul {x y : Int32} (hd : decode M.1 pc = .ok (.imul, 1))  : q_out rc M (pc, lo, .int y :: .int x :: st, σ) = q_out rc M (pc + 1, lo, .int (x * y) :: st, σ) :=
  q_out_go (by rw [q_step_of hd (Or.inl rfl)]; simp only [q_ex, q_i2, q_go])
theorem o_iand {x y : Int32} (hd : decode M.1 pc = .ok (.iand, 1))  : q_out rc M (pc, lo, .int y :: .int x :: st, σ) = q_out rc M (pc + 1, lo, .int (x &&& y) :: st, σ) :=
  q_out_go (by rw [q_step_of hd (Or.inl rfl)]; simp only [q_ex, q_i2, q_go])
theorem o_ior {x y : Int32} (hd : decode M.1 pc = .ok (.ior, 1))  : q_out rc M (pc, lo, .int y :: .int x :: st, σ) = q_out rc M (pc + 1, lo, .int (x ||| y) :: st, σ) :=
  q_out_go (by rw [q_step_of hd (Or.inl rfl)]; simp only [q_ex, q_i2, q_go])
theorem o_ixor {x y : Int32} (hd : decode M.1 pc = .ok (.ixor, 1))  : q_out rc M (pc, lo, .int y :: .int x :: st, σ) = q_out rc M (pc + 1, lo, .int (x ^^^ y) :: st, σ) :=
  q_out_go (by rw [q_step_of hd (Or.inl rfl)]; simp only [q_ex, q_i2, q_go])
theorem o_ishl {x y : Int32} (hd : decode M.1 pc = .ok (.ishl, 1))  : q_out rc M (pc, lo, .int y :: .int x :: st, σ) = q_out rc M (pc + 1, lo, .int (x <<< (y &&& 31)) :: st, σ) :=
  q_out_go (by rw [q_step_of hd (Or.inl rfl)]; simp only [q_ex, q_i2, q_go])
theorem o_ishr {x y : Int32} (hd : decode M.1 pc = .ok (.ishr, 1))  : q_out rc M (pc, lo, .int y :: .int x :: st, σ) = q_out rc M (pc + 1, lo, .int (x >>> (y &&& 31)) :: st, σ) :=
  q_out_go (by rw [q_step_of hd (Or.inl rfl)]; simp only [q_ex, q_i2, q_go])
theorem o_iushr {x y : Int32} (hd : decode M.1 pc = .ok (.iushr, 1))  : q_out rc M (pc, lo, .int y :: .int x :: st, σ) = q_out rc M (pc + 1, lo, .int ((x.toUInt32 >>> (y.toUInt32 &&& Int32.toUInt32 31)).toInt32) :: st, σ) :=
  q_out_go (by rw [q_step_of hd (Or.inl rfl)]; simp only [q_ex, q_i2, q_go])
theorem o_idiv {x y : Int32} (hd : decode M.1 pc = .ok (.idiv, 1)) (hy : ¬ y = 0) : q_out rc M (pc, lo, .int y :: .int x :: st, σ) = q_out rc M (pc + 1, lo, .int (x / y) :: st, σ) :=
  q_out_go (by rw [q_step_of hd (Or.inl rfl)]; simp only [q_ex, q_d2, q_go, if_neg hy])
theorem o_irem {x y : Int32} (hd : decode M.1 pc = .ok (.irem, 1)) (hy : ¬ y = 0) : q_out rc M (pc, lo, .int y :: .int x :: st, σ) = q_out rc M (pc + 1, lo, .int (x - x / y * y) :: st, σ) :=
  q_out_go (by rw [q_step_of hd (Or.inl rfl)]; simp only [q_ex, q_d2, q_go, if_neg hy])
theorem o_ineg {x : Int32} (hd : decode M.1 pc = .ok (.ineg, 1))  : q_out rc M (pc, lo, .int x :: st, σ) = q_out rc M (pc + 1, lo, .int (-x) :: st, σ) :=
  q_out_go (by rw [q_step_of hd (Or.inl rfl)]; simp only [q_ex, q_i1, q_go])
theorem o_i2c {x : Int32} (hd : decode M.1 pc = .ok (.i2c, 1))  : q_out rc M (pc, lo, .int x :: st, σ) = q_out rc M (pc + 1, lo, .int (x.toUInt32 % 65536).toInt32 :: st, σ) :=
  q_out_go (by rw [q_step_of hd (Or.inl rfl)]; simp only [q_ex, q_i1, q_go])
theorem o_i2l {x : Int32} (hd : decode M.1 pc = .ok (.i2l, 1))  : q_out rc M (pc, lo, .int x :: st, σ) = q_out rc M (pc + 1, lo, .long x.toInt64 :: st, σ) :=
  q_out_go (by rw [q_step_of hd (Or.inl rfl)]; simp only [q_ex, q_i1, q_go])
theorem o_l2i {x : Int64} (hd : decode M.1 pc = .ok (.l2i, 1))  : q_out rc M (pc, lo, .long x :: st, σ) = q_out rc M (pc + 1, lo, .int x.toInt32 :: st, σ) :=
  q_out_go (by rw [q_step_of hd (Or.inl rfl)]; simp only [q_ex, q_l1, q_go])
theorem o_ladd {x y : Int64} (hd : decode M.1 pc = .ok (.ladd, 1))  : q_out rc M (pc, lo, .long y :: .long x :: st, σ) = q_out rc M (pc + 1, lo, .long (x + y) :: st, σ) :=
  q_out_go (by rw [q_step_of hd (Or.inl rfl)]; simp only [q_ex, q_l2, q_go])
theorem o_lsub {x y : Int64} (hd : decode M.1 pc = .ok (.lsub, 1))  : q_out rc M (pc, lo, .long y :: .long x :: st, σ) = q_out rc M (pc + 1, lo, .long (x - y) :: st, σ) :=
  q_out_go (by rw [q_step_of hd (Or.inl rfl)]; simp only [q_ex, q_l2, q_go])
theorem o_lmul {x y : Int64} (hd : decode M.1 pc = .ok (.lmul, 1))  : q_out rc M (pc, lo, .long y :: .long x :: st, σ) = q_out rc M (pc + 1, lo, .long (x * y) :: st, σ) :=
  q_out_go (by rw [q_step_of hd (Or.inl rfl)]; simp only [q_ex, q_l2, q_go])
theorem o_land {x y : Int64} (hd : decode M.1 pc = .ok (.land, 1))  : q_out rc M (pc, lo, .long y :: .long x :: st, σ) = q_out rc M (pc + 1, lo, .long (x &&& y) :: st, σ) :=
  q_out_go (by rw [q_step_of hd (Or.inl rfl)]; simp only [q_ex, q_l2, q_go])
theorem o_lor {x y : Int64} (hd : decode M.1 pc = .ok (.lor, 1))  : q_out rc M (pc, lo, .long y :: .long x :: st, σ) = q_out rc M (pc + 1, lo, .long (x ||| y) :: st, σ) :=
  q_out_go (by rw [q_step_of hd (Or.inl rfl)]; simp only [q_ex, q_l2, q_go])
theorem o_lxor {x y : Int64} (hd : decode M.1 pc = .ok (.lxor, 1))  : q_out rc M (pc, lo, .long y :: .long x :: st, σ) = q_out rc M (pc + 1, lo, .long (x ^^^ y) :: st, σ) :=
  q_out_go (by rw [q_step_of hd (Or.inl rfl)]; simp only [q_ex, q_l2, q_go])
theorem o_lcmp {x y : Int64} (hd : decode M.1 pc = .ok (.lcmp, 1))  : q_out rc M (pc, lo, .long y :: .long x :: st, σ) = q_out rc M (pc + 1, lo, .int (lg_cmp x y) :: st, σ) :=
  q_out_go (by rw [q_step_of hd (Or.inl rfl)]; simp only [q_ex, q_l2, q_go])
theorem o_lshl {x : Int64} {y : Int32} (hd : decode M.1 pc = .ok (.lshl, 1))  : q_out rc M (pc, lo, .int y :: .long x :: st, σ) = q_out rc M (pc + 1, lo, .long (x <<< (y.toInt64 &&& 63)) :: st, σ) :=
  q_out_go (by rw [q_step_of hd (Or.inl rfl)]; simp only [q_ex, q_ls, q_go])
theorem o_lshr {x : Int64} {y : Int32} (hd : decode M.1 pc = .ok (.lshr, 1))  : q_out rc M (pc, lo, .int y :: .long x :: st, σ) = q_out rc M (pc + 1, lo, .long (x >>> (y.toInt64 &&& 63)) :: st, σ) :=
  q_out_go (by rw [q_step_of hd (Or.inl rfl)]; simp only [q_ex, q_ls, q_go])
theorem o_lushr {x : Int64} {y : Int32} (hd : decode M.1 pc = .ok (.lushr, 1))  : q_out rc M (pc, lo, .int y :: .long x :: st, σ) = q_out rc M (pc + 1, lo, .long ((x.toUInt64 >>> (y.toInt64.toUInt64 &&& Int64.toUInt64 63)).toInt64) :: st, σ) :=
  q_out_go (by rw [q_step_of hd (Or.inl rfl)]; simp only [q_ex, q_ls, q_go])
theorem o_dup {a : Value} (hd : decode M.1 pc = .ok (.dup, 1)) (ha : a.category = 1) : q_out rc M (pc, lo, a :: st, σ) = q_out rc M (pc + 1, lo, a :: a :: st, σ) :=
  q_out_go (by rw [q_step_of hd (Or.inl rfl)]; simp only [q_ex, q_dup, q_go, if_pos ha])
theorem o_pop {a : Value} (hd : decode M.1 pc = .ok (.pop, 1)) (ha : a.category = 1) : q_out rc M (pc, lo, a :: st, σ) = q_out rc M (pc + 1, lo, st, σ) :=
  q_out_go (by rw [q_step_of hd (Or.inl rfl)]; simp only [q_ex, q_pop, q_go, if_pos ha])
theorem o_pop2 {a : Int64} (hd : decode M.1 pc = .ok (.pop2, 1))  : q_out rc M (pc, lo, .long a :: st, σ) = q_out rc M (pc + 1, lo, st, σ) :=
  q_out_go (by rw [q_step_of hd (Or.inl rfl)]; simp only [q_ex, q_pop2, q_go])
theorem o_dup_x1 {a b : Value} (hd : decode M.1 pc = .ok (.dup_x1, 1)) (ha : a.category = 1) (hb : b.category = 1) : q_out rc M (pc, lo, a :: b :: st, σ) = q_out rc M (pc + 1, lo, a :: b :: a :: st, σ) :=
  q_out_go (by rw [q_step_of hd (Or.inl rfl)]; simp only [q_ex, q_dupx1, q_go, if_pos (And.intro ha hb)])
theorem o_dup_x2 {a b d : Value} (hd : decode M.1 pc = .ok (.dup_x2, 1)) (ha : a.category = 1) (hb : b.category = 1) (hc : d.category = 1) : q_out rc M (pc, lo, a :: b :: d :: st, σ) = q_out rc M (pc + 1, lo, a :: b :: d :: a :: st, σ) :=
  q_out_go (by rw [q_step_of hd (Or.inl rfl)]; simp only [q_ex, q_dupx2, q_go, if_pos (And.intro ha (And.intro hb hc))])
theorem o_dup2_2 {a : Int64} (hd : decode M.1 pc = .ok (.dup2, 1))  : q_out rc M (pc, lo, .long a :: st, σ) = q_out rc M (pc + 1, lo, .long a :: .long a :: st, σ) :=
  q_out_go (by rw [q_step_of hd (Or.inl rfl)]; simp only [q_ex, q_dup2, q_go])
theorem o_dup2_11 {x : Int32} {b : Value} (hd : decode M.1 pc = .ok (.dup2, 1)) (hb : b.category = 1) : q_out rc M (pc, lo, .int x :: b :: st, σ) = q_out rc M (pc + 1, lo, .int x :: b :: .int x :: b :: st, σ) :=
  q_out_go (by rw [q_step_of hd (Or.inl rfl)]; simp only [q_ex, q_dup2, q_go, if_pos (And.intro (show (Value.int x).category = 1 from rfl) hb)])
theorem o_dup2_x1 {a : Int64} {b : Value} (hd : decode M.1 pc = .ok (.dup2_x1, 1)) (hb : b.category = 1) : q_out rc M (pc, lo, .long a :: b :: st, σ) = q_out rc M (pc + 1, lo, .long a :: b :: .long a :: st, σ) :=
  q_out_go (by rw [q_step_of hd (Or.inl rfl)]; simp only [q_ex, q_dup2x1, q_go, if_pos hb])
theorem o_if_eq_t {x : Int32} {off : Int} {t : Nat} (hd : decode M.1 pc = .ok (.ifCond .eq off, 3)) (ht : (pc : Int) + off = (t : Int)) (h : x = 0) : q_out rc M (pc, lo, .int x :: st, σ) = q_out rc M (t, lo, st, σ) :=
  q_out_go (by rw [q_step_of hd (Or.inl rfl)]; have e9 : q_tg pc off = t := (by unfold q_tg; rw [ht]; rfl); simp only [q_ex, q_if, q_br, e9, if_pos ht, if_pos h])
theorem o_if_eq_f {x : Int32} {off : Int} {t : Nat} (hd : decode M.1 pc = .ok (.ifCond .eq off, 3)) (ht : (pc : Int) + off = (t : Int)) (h : ¬ (x = 0)) : q_out rc M (pc, lo, .int x :: st, σ) = q_out rc M (pc + 3, lo, st, σ) :=
  q_out_go (by rw [q_step_of hd (Or.inl rfl)]; have e9 : q_tg pc off = t := (by unfold q_tg; rw [ht]; rfl); simp only [q_ex, q_if, q_br, e9, if_pos ht, if_neg h])
theorem o_icmp_eq_t {x y : Int32} {off : Int} {t : Nat} (hd : decode M.1 pc = .ok (.if_icmp .eq off, 3)) (ht : (pc : Int) + off = (t : Int)) (h : x = y) : q_out rc M (pc, lo, .int y :: .int x :: st, σ) = q_out rc M (t, lo, st, σ) :=
  q_out_go (by rw [q_step_of hd (Or.inl rfl)]; have e9 : q_tg pc off = t := (by unfold q_tg; rw [ht]; rfl); simp only [q_ex, q_icmp, q_br, e9, if_pos ht, if_pos h])
theorem o_icmp_eq_f {x y : Int32} {off : Int} {t : Nat} (hd : decode M.1 pc = .ok (.if_icmp .eq off, 3)) (ht : (pc : Int) + off = (t : Int)) (h : ¬ (x = y)) : q_out rc M (pc, lo, .int y :: .int x :: st, σ) = q_out rc M (pc + 3, lo, st, σ) :=
  q_out_go (by rw [q_step_of hd (Or.inl rfl)]; have e9 : q_tg pc off = t := (by unfold q_tg; rw [ht]; rfl); simp only [q_ex, q_icmp, q_br, e9, if_pos ht, if_neg h])
theorem o_if_ne_t {x : Int32} {off : Int} {t : Nat} (hd : decode M.1 pc = .ok (.ifCond .ne off, 3)) (ht : (pc : Int) + off = (t : Int)) (h : ¬ x = 0) : q_out rc M (pc, lo, .int x :: st, σ) = q_out rc M (t, lo, st, σ) :=
  q_out_go (by rw [q_step_of hd (Or.inl rfl)]; have e9 : q_tg pc off = t := (by unfold q_tg; rw [ht]; rfl); simp only [q_ex, q_if, q_br, e9, if_pos ht, if_pos h])
theorem o_if_ne_f {x : Int32} {off : Int} {t : Nat} (hd : decode M.1 pc = .ok (.ifCond .ne off, 3)) (ht : (pc : Int) + off = (t : Int)) (h : ¬ (¬ x = 0)) : q_out rc M (pc, lo, .int x :: st, σ) = q_out rc M (pc + 3, lo, st, σ) :=
  q_out_go (by rw [q_step_of hd (Or.inl rfl)]; have e9 : q_tg pc off = t := (by unfold q_tg; rw [ht]; rfl); simp only [q_ex, q_if, q_br, e9, if_pos ht, if_neg h])
theorem o_icmp_ne_t {x y : Int32} {off : Int} {t : Nat} (hd : decode M.1 pc = .ok (.if_icmp .ne off, 3)) (ht : (pc : Int) + off = (t : Int)) (h : ¬ x = y) : q_out rc M (pc, lo, .int y :: .int x :: st, σ) = q_out rc M (t, lo, st, σ) :=
  q_out_go (by rw [q_step_of hd (Or.inl rfl)]; have e9 : q_tg pc off = t := (by unfold q_tg; rw [ht]; rfl); simp only [q_ex, q_icmp, q_br, e9, if_pos ht, if_pos h])
theorem o_icmp_ne_f {x y : Int32} {off : Int} {t : Nat} (hd : decode M.1 pc = .ok (.if_icmp .ne off, 3)) (ht : (pc : Int) + off = (t : Int)) (h : ¬ (¬ x = y)) : q_out rc M (pc, lo, .int y :: .int x :: st, σ) = q_out rc M (pc + 3, lo, st, σ) :=
  q_out_go (by rw [q_step_of hd (Or.inl rfl)]; have e9 : q_tg pc off = t := (by unfold q_tg; rw [ht]; rfl); simp only [q_ex, q_icmp, q_br, e9, if_pos ht, if_neg h])
theorem o_if_lt_t {x : Int32} {off : Int} {t : Nat} (hd : decode M.1 pc = .ok (.ifCond .lt off, 3)) (ht : (pc : Int) + off = (t : Int)) (h : x < 0) : q_out rc M (pc, lo, .int x :: st, σ) = q_out rc M (t, lo, st, σ) :=
  q_out_go (by rw [q_step_of hd (Or.inl rfl)]; have e9 : q_tg pc off = t := (by unfold q_tg; rw [ht]; rfl); simp only [q_ex, q_if, q_br, e9, if_pos ht, if_pos h])
theorem o_if_lt_f {x : Int32} {off : Int} {t : Nat} (hd : decode M.1 pc = .ok (.ifCond .lt off, 3)) (ht : (pc : Int) + off = (t : Int)) (h : ¬ (x < 0)) : q_out rc M (pc, lo, .int x :: st, σ) = q_out rc M (pc + 3, lo, st, σ) :=
  q_out_go (by rw [q_step_of hd (Or.inl rfl)]; have e9 : q_tg pc off = t := (by unfold q_tg; rw [ht]; rfl); simp only [q_ex, q_if, q_br, e9, if_pos ht, if_neg h])
theorem o_icmp_lt_t {x y : Int32} {off : Int} {t : Nat} (hd : decode M.1 pc = .ok (.if_icmp .lt off, 3)) (ht : (pc : Int) + off = (t : Int)) (h : x < y) : q_out rc M (pc, lo, .int y :: .int x :: st, σ) = q_out rc M (t, lo, st, σ) :=
  q_out_go (by rw [q_step_of hd (Or.inl rfl)]; have e9 : q_tg pc off = t := (by unfold q_tg; rw [ht]; rfl); simp only [q_ex, q_icmp, q_br, e9, if_pos ht, if_pos h])
theorem o_icmp_lt_f {x y : Int32} {off : Int} {t : Nat} (hd : decode M.1 pc = .ok (.if_icmp .lt off, 3)) (ht : (pc : Int) + off = (t : Int)) (h : ¬ (x < y)) : q_out rc M (pc, lo, .int y :: .int x :: st, σ) = q_out rc M (pc + 3, lo, st, σ) :=
  q_out_go (by rw [q_step_of hd (Or.inl rfl)]; have e9 : q_tg pc off = t := (by unfold q_tg; rw [ht]; rfl); simp only [q_ex, q_icmp, q_br, e9, if_pos ht, if_neg h])
theorem o_if_ge_t {x : Int32} {off : Int} {t : Nat} (hd : decode M.1 pc = .ok (.ifCond .ge off, 3)) (ht : (pc : Int) + off = (t : Int)) (h : 0 ≤ x) : q_out rc M (pc, lo, .int x :: st, σ) = q_out rc M (t, lo, st, σ) :=
  q_out_go (by rw [q_step_of hd (Or.inl rfl)]; have e9 : q_tg pc off = t := (by unfold q_tg; rw [ht]; rfl); simp only [q_ex, q_if, q_br, e9, if_pos ht, if_pos h])
theorem o_if_ge_f {x : Int32} {off : Int} {t : Nat} (hd : decode M.1 pc = .ok (.ifCond .ge off, 3)) (ht : (pc : Int) + off = (t : Int)) (h : ¬ (0 ≤ x)) : q_out rc M (pc, lo, .int x :: st, σ) = q_out rc M (pc + 3, lo, st, σ) :=
  q_out_go (by rw [q_step_of hd (Or.inl rfl)]; have e9 : q_tg pc off = t := (by unfold q_tg; rw [ht]; rfl); simp only [q_ex, q_if, q_br, e9, if_pos ht, if_neg h])
theorem o_icmp_ge_t {x y : Int32} {off : Int} {t : Nat} (hd : decode M.1 pc = .ok (.if_icmp .ge off, 3)) (ht : (pc : Int) + off = (t : Int)) (h : y ≤ x) : q_out rc M (pc, lo, .int y :: .int x :: st, σ) = q_out rc M (t, lo, st, σ) :=
  q_out_go (by rw [q_step_of hd (Or.inl rfl)]; have e9 : q_tg pc off = t := (by unfold q_tg; rw [ht]; rfl); simp only [q_ex, q_icmp, q_br, e9, if_pos ht, if_pos h])
theorem o_icmp_ge_f {x y : Int32} {off : Int} {t : Nat} (hd : decode M.1 pc = .ok (.if_icmp .ge off, 3)) (ht : (pc : Int) + off = (t : Int)) (h : ¬ (y ≤ x)) : q_out rc M (pc, lo, .int y :: .int x :: st, σ) = q_out rc M (pc + 3, lo, st, σ) :=
  q_out_go (by rw [q_step_of hd (Or.inl rfl)]; have e9 : q_tg pc off = t := (by unfold q_tg; rw [ht]; rfl); simp only [q_ex, q_icmp, q_br, e9, if_pos ht, if_neg h])
theorem o_if_gt_t {x : Int32} {off : Int} {t : Nat} (hd : decode M.1 pc = .ok (.ifCond .gt off, 3)) (ht : (pc : Int) + off = (t : Int)) (h : 0 < x) : q_out rc M (pc, lo, .int x :: st, σ) = q_out rc M (t, lo, st, σ) :=
  q_out_go (by rw [q_step_of hd (Or.inl rfl)]; have e9 : q_tg pc off = t := (by unfold q_tg; rw [ht]; rfl); simp only [q_ex, q_if, q_br, e9, if_pos ht, if_pos h])
theorem o_if_gt_f {x : Int32} {off : Int} {t : Nat} (hd : decode M.1 pc = .ok (.ifCond .gt off, 3)) (ht : (pc : Int) + off = (t : Int)) (h : ¬ (0 < x)) : q_out rc M (pc, lo, .int x :: st, σ) = q_out rc M (pc + 3, lo, st, σ) :=
  q_out_go (by rw [q_step_of hd (Or.inl rfl)]; have e9 : q_tg pc off = t := (by unfold q_tg; rw [ht]; rfl); simp only [q_ex, q_if, q_br, e9, if_pos ht, if_neg h])
theorem o_icmp_gt_t {x y : Int32} {off : Int} {t : Nat} (hd : decode M.1 pc = .ok (.if_icmp .gt off, 3)) (ht : (pc : Int) + off = (t : Int)) (h : y < x) : q_out rc M (pc, lo, .int y :: .int x :: st, σ) = q_out rc M (t, lo, st, σ) :=
  q_out_go (by rw [q_step_of hd (Or.inl rfl)]; have e9 : q_tg pc off = t := (by unfold q_tg; rw [ht]; rfl); simp only [q_ex, q_icmp, q_br, e9, if_pos ht, if_pos h])
theorem o_icmp_gt_f {x y : Int32} {off : Int} {t : Nat} (hd : decode M.1 pc = .ok (.if_icmp .gt off, 3)) (ht : (pc : Int) + off = (t : Int)) (h : ¬ (y < x)) : q_out rc M (pc, lo, .int y :: .int x :: st, σ) = q_out rc M (pc + 3, lo, st, σ) :=
  q_out_go (by rw [q_step_of hd (Or.inl rfl)]; have e9 : q_tg pc off = t := (by unfold q_tg; rw [ht]; rfl); simp only [q_ex, q_icmp, q_br, e9, if_pos ht, if_neg h])
theorem o_if_le_t {x : Int32} {off : Int} {t : Nat} (hd : decode M.1 pc = .ok (.ifCond .le off, 3)) (ht : (pc : Int) + off = (t : Int)) (h : x ≤ 0) : q_out rc M (pc, lo, .int x :: st, σ) = q_out rc M (t, lo, st, σ) :=
  q_out_go (by rw [q_step_of hd (Or.inl rfl)]; have e9 : q_tg pc off = t := (by unfold q_tg; rw [ht]; rfl); simp only [q_ex, q_if, q_br, e9, if_pos ht, if_pos h])
theorem o_if_le_f {x : Int32} {off : Int} {t : Nat} (hd : decode M.1 pc = .ok (.ifCond .le off, 3)) (ht : (pc : Int) + off = (t : Int)) (h : ¬ (x ≤ 0)) : q_out rc M (pc, lo, .int x :: st, σ) = q_out rc M (pc + 3, lo, st, σ) :=
  q_out_go (by rw [q_step_of hd (Or.inl rfl)]; have e9 : q_tg pc off = t := (by unfold q_tg; rw [ht]; rfl); simp only [q_ex, q_if, q_br, e9, if_pos ht, if_neg h])
theorem o_icmp_le_t {x y : Int32} {off : Int} {t : Nat} (hd : decode M.1 pc = .ok (.if_icmp .le off, 3)) (ht : (pc : Int) + off = (t : Int)) (h : x ≤ y) : q_out rc M (pc, lo, .int y :: .int x :: st, σ) = q_out rc M (t, lo, st, σ) :=
  q_out_go (by rw [q_step_of hd (Or.inl rfl)]; have e9 : q_tg pc off = t := (by unfold q_tg; rw [ht]; rfl); simp only [q_ex, q_icmp, q_br, e9, if_pos ht, if_pos h])
theorem o_icmp_le_f {x y : Int32} {off : Int} {t : Nat} (hd : decode M.1 pc = .ok (.if_icmp .le off, 3)) (ht : (pc : Int) + off = (t : Int)) (h : ¬ (x ≤ y)) : q_out rc M (pc, lo, .int y :: .int x :: st, σ) = q_out rc M (pc + 3, lo, st, σ) :=
  q_out_go (by rw [q_step_of hd (Or.inl rfl)]; have e9 : q_tg pc off = t := (by unfold q_tg; rw [ht]; rfl); simp only [q_ex, q_icmp, q_br, e9, if_pos ht, if_neg h])
theorem o_goto {off : Int} {t : Nat} (hd : decode M.1 pc = .ok (.goto off, 3)) (ht : (pc : Int) + off = (t : Int)) : q_out rc M (pc, lo, st, σ) = q_out rc M (t, lo, st, σ) :=
  q_out_go (by rw [q_step_of hd (Or.inl rfl)]; have e9 : q_tg pc off = t := (by unfold q_tg; rw [ht]; rfl); simp only [q_ex, q_goto, q_go, e9, if_pos ht])
theorem o_ifnull_t {off : Int} {t : Nat} (hd : decode M.1 pc = .ok (.ifnull off, 3)) (ht : (pc : Int) + off = (t : Int)) : q_out rc M (pc, lo, .null :: st, σ) = q_out rc M (t, lo, st, σ) :=
  q_out_go (by rw [q_step_of hd (Or.inl rfl)]; have e9 : q_tg pc off = t := (by unfold q_tg; rw [ht]; rfl); simp only [q_ex, q_ifnull, q_go, e9, if_pos ht])
theorem o_ifnull_f {off : Int} {a : Nat} (hd : decode M.1 pc = .ok (.ifnull off, 3))  : q_out rc M (pc, lo, .ref a :: st, σ) = q_out rc M (pc + 3, lo, st, σ) :=
  q_out_go (by rw [q_step_of hd (Or.inl rfl)]; simp only [q_ex, q_ifnull, q_go])
theorem o_ifnonnull_t {off : Int} {t a : Nat} (hd : decode M.1 pc = .ok (.ifnonnull off, 3)) (ht : (pc : Int) + off = (t : Int)) : q_out rc M (pc, lo, .ref a :: st, σ) = q_out rc M (t, lo, st, σ) :=
  q_out_go (by rw [q_step_of hd (Or.inl rfl)]; have e9 : q_tg pc off = t := (by unfold q_tg; rw [ht]; rfl); simp only [q_ex, q_ifnonnull, q_go, e9, if_pos ht])
theorem o_ifnonnull_f {off : Int} (hd : decode M.1 pc = .ok (.ifnonnull off, 3))  : q_out rc M (pc, lo, .null :: st, σ) = q_out rc M (pc + 3, lo, st, σ) :=
  q_out_go (by rw [q_step_of hd (Or.inl rfl)]; simp only [q_ex, q_ifnonnull, q_go])
theorem o_table {d a b off : Int} {os : Array Int} {n t : Nat} {x : Int32} (hd : decode M.1 pc = .ok (.tableswitch d a b os, n)) (ho : q_toff d a b os x.toInt = some off) (ht : (pc : Int) + off = (t : Int)) : q_out rc M (pc, lo, .int x :: st, σ) = q_out rc M (t, lo, st, σ) :=
  q_out_go (by
    rw [q_step_of hd (Or.inr rfl)]
    have e9 : q_tg pc off = t := (by unfold q_tg; rw [ht]; rfl)
    simp only [q_ex, q_table, q_go, ho, e9, if_pos ht])
theorem o_lookup {d off : Int} {ps : Array (Int × Int)} {n t : Nat} {x : Int32} (hd : decode M.1 pc = .ok (.lookupswitch d ps, n)) (hs : (ps.toList.zip (ps.toList.drop 1)).all (fun (a, next) => a.1 < next.1) = true) (ho : Op.lookupswitch.offset ps.toList d x.toInt = off) (ht : (pc : Int) + off = (t : Int)) : q_out rc M (pc, lo, .int x :: st, σ) = q_out rc M (t, lo, st, σ) :=
  q_out_go (by
    rw [q_step_of hd (Or.inr rfl)]
    have e9 : q_tg pc off = t := (by unfold q_tg; rw [ht]; rfl)
    simp only [q_ex, q_lookup, q_go, ho, e9]
    exact if_pos ⟨hs, ht⟩)
theorem o_getf {ci k md idx a : Nat} {ty : FieldType} {fs : List Value} {v : Value} (hd : decode M.1 pc = .ok (.getfield idx, 3)) (hp : M.2.2.2.2.1 idx = some (ci, k, ty, md)) (ha : σ.1 a = some (.inr (ci, fs))) (hv : fs[k]? = some v) : q_out rc M (pc, lo, .ref a :: st, σ) = q_out rc M (pc + 3, lo, v :: st, σ) :=
  q_out_go (by rw [q_step_of hd (Or.inl rfl)]; simp only [q_ex, q_getf, q_go, hp, ha, hv, if_true])
theorem o_putf {ci k md idx a : Nat} {ty : FieldType} {fs : List Value} {v : Value} {h' : Nat → Option qE} (hd : decode M.1 pc = .ok (.putfield idx, 3)) (hp : M.2.2.2.2.1 idx = some (ci, k, ty, md)) (ha : σ.1 a = some (.inr (ci, fs))) (hk : k < fs.length) (hn : narrow ty v = v) (hf : fits ty v = true) (hm : md = 0 ∨ (md = 1 ∧ M.2.2.2.1 = true)) (hh : q_up σ.1 a (.inr (ci, fs.set k v)) = h') : q_out rc M (pc, lo, v :: .ref a :: st, σ) = q_out rc M (pc + 3, lo, st, (h', σ.2)) :=
  q_out_go (by rw [q_step_of hd (Or.inl rfl)]; subst hh; simp only [q_ex, q_putf, q_go, hp, ha]; exact if_pos ⟨trivial, hk, hn, hf, hm⟩)
theorem o_iaload {a n : Nat} {i : Int32} {f : Nat → Int32} (hd : decode M.1 pc = .ok (.iaload, 1)) (ha : σ.1 a = some (.inl (0, n, .inl f))) (hi : ¬ (i < 0 ∨ n ≤ i.toNatClampNeg)) : q_out rc M (pc, lo, .int i :: .ref a :: st, σ) = q_out rc M (pc + 1, lo, .int (f i.toNatClampNeg) :: st, σ) :=
  q_out_go (by rw [q_step_of hd (Or.inl rfl)]; simp only [q_ex, q_iald, q_go, ha]; exact if_pos ⟨trivial, hi⟩)
theorem o_caload {a n : Nat} {i : Int32} {f : Nat → Int32} (hd : decode M.1 pc = .ok (.caload, 1)) (ha : σ.1 a = some (.inl (1, n, .inl f))) (hi : ¬ (i < 0 ∨ n ≤ i.toNatClampNeg)) : q_out rc M (pc, lo, .int i :: .ref a :: st, σ) = q_out rc M (pc + 1, lo, .int (f i.toNatClampNeg) :: st, σ) :=
  q_out_go (by rw [q_step_of hd (Or.inl rfl)]; simp only [q_ex, q_iald, q_go, ha]; exact if_pos ⟨trivial, hi⟩)
theorem o_baload {a n : Nat} {i : Int32} {f : Nat → Int32} (hd : decode M.1 pc = .ok (.baload, 1)) (ha : σ.1 a = some (.inl (3, n, .inl f))) (hi : ¬ (i < 0 ∨ n ≤ i.toNatClampNeg)) : q_out rc M (pc, lo, .int i :: .ref a :: st, σ) = q_out rc M (pc + 1, lo, .int (f i.toNatClampNeg) :: st, σ) :=
  q_out_go (by rw [q_step_of hd (Or.inl rfl)]; simp only [q_ex, q_iald, q_go, ha]; exact if_pos ⟨trivial, hi⟩)
theorem o_laload {a n : Nat} {i : Int32} {f : Nat → Int64} (hd : decode M.1 pc = .ok (.laload, 1)) (ha : σ.1 a = some (.inl (2, n, .inr (.inl f)))) (hi : ¬ (i < 0 ∨ n ≤ i.toNatClampNeg)) : q_out rc M (pc, lo, .int i :: .ref a :: st, σ) = q_out rc M (pc + 1, lo, .long (f i.toNatClampNeg) :: st, σ) :=
  q_out_go (by rw [q_step_of hd (Or.inl rfl)]; simp only [q_ex, q_lald, q_go, ha]; exact if_pos ⟨trivial, hi⟩)
theorem o_iastore {a n : Nat} {i x : Int32} {f : Nat → Int32} {h' : Nat → Option qE} (hd : decode M.1 pc = .ok (.iastore, 1)) (ha : σ.1 a = some (.inl (0, n, .inl f))) (hi : ¬ (i < 0 ∨ n ≤ i.toNatClampNeg)) (hh : q_up σ.1 a (.inl (0, n, .inl (upd f i.toNatClampNeg (x)))) = h') : q_out rc M (pc, lo, .int x :: .int i :: .ref a :: st, σ) = q_out rc M (pc + 1, lo, st, (h', σ.2)) :=
  q_out_go (by rw [q_step_of hd (Or.inl rfl)]; subst hh; simp only [q_ex, q_iast, q_go, ha]; exact if_pos ⟨trivial, hi⟩)
theorem o_castore {a n : Nat} {i x : Int32} {f : Nat → Int32} {h' : Nat → Option qE} (hd : decode M.1 pc = .ok (.castore, 1)) (ha : σ.1 a = some (.inl (1, n, .inl f))) (hi : ¬ (i < 0 ∨ n ≤ i.toNatClampNeg)) (hh : q_up σ.1 a (.inl (1, n, .inl (upd f i.toNatClampNeg (vp_nar .char x)))) = h') : q_out rc M (pc, lo, .int x :: .int i :: .ref a :: st, σ) = q_out rc M (pc + 1, lo, st, (h', σ.2)) :=
  q_out_go (by rw [q_step_of hd (Or.inl rfl)]; subst hh; simp only [q_ex, q_iast, q_go, ha]; exact if_pos ⟨trivial, hi⟩)
theorem o_bastore {a n : Nat} {i x : Int32} {f : Nat → Int32} {h' : Nat → Option qE} (hd : decode M.1 pc = .ok (.bastore, 1)) (ha : σ.1 a = some (.inl (3, n, .inl f))) (hi : ¬ (i < 0 ∨ n ≤ i.toNatClampNeg)) (hh : q_up σ.1 a (.inl (3, n, .inl (upd f i.toNatClampNeg (vp_nar .boolean x)))) = h') : q_out rc M (pc, lo, .int x :: .int i :: .ref a :: st, σ) = q_out rc M (pc + 1, lo, st, (h', σ.2)) :=
  q_out_go (by rw [q_step_of hd (Or.inl rfl)]; subst hh; simp only [q_ex, q_iast, q_go, ha]; exact if_pos ⟨trivial, hi⟩)
theorem o_lastore {a n : Nat} {i : Int32} {x : Int64} {f : Nat → Int64} {h' : Nat → Option qE} (hd : decode M.1 pc = .ok (.lastore, 1)) (ha : σ.1 a = some (.inl (2, n, .inr (.inl f)))) (hi : ¬ (i < 0 ∨ n ≤ i.toNatClampNeg)) (hh : q_up σ.1 a (.inl (2, n, .inr (.inl (vp_updL f i.toNatClampNeg x)))) = h') : q_out rc M (pc, lo, .long x :: .int i :: .ref a :: st, σ) = q_out rc M (pc + 1, lo, st, (h', σ.2)) :=
  q_out_go (by rw [q_step_of hd (Or.inl rfl)]; subst hh; simp only [q_ex, q_last, q_go, ha]; exact if_pos ⟨trivial, hi⟩)
theorem o_alen {a k n : Nat} {z : (Nat → Int32) ⊕ (Nat → Int64) ⊕ (Nat → UInt32) ⊕ (Nat → UInt64) ⊕ (Nat → Option Nat)} {v : Int32} (hd : decode M.1 pc = .ok (.arraylength, 1)) (ha : σ.1 a = some (.inl (k, n, z))) (hk : k < 4) (hv : Int32.ofNat n = v) : q_out rc M (pc, lo, .ref a :: st, σ) = q_out rc M (pc + 1, lo, .int v :: st, σ) :=
  q_out_go (by rw [q_step_of hd (Or.inl rfl)]; subst hv; simp only [q_ex, q_alen, q_go, ha, if_pos hk])
theorem o_ldc2 {idx : Nat} {v : Int64} (hd : decode M.1 pc = .ok (.ldc2_w idx, 3)) (hp : M.2.2.2.2.2.2.2.2 idx = some v) : q_out rc M (pc, lo, st, σ) = q_out rc M (pc + 3, lo, .long v :: st, σ) :=
  q_out_go (by rw [q_step_of hd (Or.inl rfl)]; simp only [q_ex, q_push, q_go, hp])
theorem o_newI {n : Int32} (hd : decode M.1 pc = .ok (.newarray .int, 2)) (hn : ¬ (n < 0 ∨ 536870912 < n.toNatClampNeg * 4)) : q_out rc M (pc, lo, .int n :: st, σ) = q_out rc M (pc + 2, lo, .ref σ.2.1 :: st, (q_up σ.1 σ.2.1 (.inl (0, n.toNatClampNeg, .inl fun _ => 0)), σ.2.1 + 1, σ.2.2.1 + 1, σ.2.2.2 + n.toNatClampNeg)) :=
  q_out_go (by rw [q_step_of hd (Or.inl rfl)]; simp only [q_ex, q_newA, q_new, q_go, if_neg hn])
theorem o_newC {n : Int32} (hd : decode M.1 pc = .ok (.newarray .char, 2)) (hn : ¬ (n < 0 ∨ 536870912 < n.toNatClampNeg * 2)) : q_out rc M (pc, lo, .int n :: st, σ) = q_out rc M (pc + 2, lo, .ref σ.2.1 :: st, (q_up σ.1 σ.2.1 (.inl (1, n.toNatClampNeg, .inl fun _ => 0)), σ.2.1 + 1, σ.2.2.1 + 1, σ.2.2.2 + n.toNatClampNeg)) :=
  q_out_go (by rw [q_step_of hd (Or.inl rfl)]; simp only [q_ex, q_newA, q_new, q_go, if_neg hn])
theorem o_newJ {n : Int32} (hd : decode M.1 pc = .ok (.newarray .long, 2)) (hn : ¬ (n < 0 ∨ 536870912 < n.toNatClampNeg * 8)) : q_out rc M (pc, lo, .int n :: st, σ) = q_out rc M (pc + 2, lo, .ref σ.2.1 :: st, (q_up σ.1 σ.2.1 (.inl (2, n.toNatClampNeg, .inr (.inl fun _ => 0))), σ.2.1 + 1, σ.2.2.1 + 1, σ.2.2.2 + n.toNatClampNeg)) :=
  q_out_go (by rw [q_step_of hd (Or.inl rfl)]; simp only [q_ex, q_newA, q_new, q_go, if_neg hn])
theorem o_newZ {n : Int32} (hd : decode M.1 pc = .ok (.newarray .boolean, 2)) (hn : ¬ (n < 0 ∨ 536870912 < n.toNatClampNeg * 1)) : q_out rc M (pc, lo, .int n :: st, σ) = q_out rc M (pc + 2, lo, .ref σ.2.1 :: st, (q_up σ.1 σ.2.1 (.inl (3, n.toNatClampNeg, .inl fun _ => 0)), σ.2.1 + 1, σ.2.2.1 + 1, σ.2.2.2 + n.toNatClampNeg)) :=
  q_out_go (by rw [q_step_of hd (Or.inl rfl)]; simp only [q_ex, q_newA, q_new, q_go, if_neg hn])
theorem o_new {idx ci : Nat} {fs : List Value} (hd : decode M.1 pc = .ok (.new idx, 3)) (hp : M.2.2.2.2.2.1 idx = some (.inl (ci, fs))) : q_out rc M (pc, lo, st, σ) = q_out rc M (pc + 3, lo, .ref σ.2.1 :: st, (q_up σ.1 σ.2.1 (.inr (ci, fs)), σ.2.1 + 1, σ.2.2.1 + 1, σ.2.2.2 + fs.length)) :=
  q_out_go (by rw [q_step_of hd (Or.inl rfl)]; simp only [q_ex, q_newC, q_go, hp])
theorem o_objInit {idx a : Nat} {z : Nat × Nat × Nat} (hd : decode M.1 pc = .ok (.invokespecial idx, 3)) (hp : M.2.2.2.2.2.2.1 idx = some (0, z)) (hs : q_sum st ≤ 8) : q_out rc M (pc, lo, .ref a :: st, σ) = q_out rc M (pc + 3, lo, st, σ) :=
  q_out_go (by rw [q_step_of hd (Or.inl rfl)]; simp only [q_ex, hp, q_call, q_go, if_pos hs])
theorem o_max {idx : Nat} {x y : Int32} {z : Nat × Nat × Nat} (hd : decode M.1 pc = .ok (.invokestatic idx, 3)) (hp : M.2.2.2.2.2.2.1 idx = some (4, z)) (hs : q_sum st ≤ 8) : q_out rc M (pc, lo, .int y :: .int x :: st, σ) = q_out rc M (pc + 3, lo, .int (if x < y then y else x) :: st, σ) :=
  q_out_go (by rw [q_step_of hd (Or.inl rfl)]; simp only [q_ex, hp, q_call, q_go, if_pos hs])
theorem o_min {idx : Nat} {x y : Int32} {z : Nat × Nat × Nat} (hd : decode M.1 pc = .ok (.invokestatic idx, 3)) (hp : M.2.2.2.2.2.2.1 idx = some (5, z)) (hs : q_sum st ≤ 8) : q_out rc M (pc, lo, .int y :: .int x :: st, σ) = q_out rc M (pc + 3, lo, .int (if y < x then y else x) :: st, σ) :=
  q_out_go (by rw [q_step_of hd (Or.inl rfl)]; simp only [q_ex, hp, q_call, q_go, if_pos hs])
theorem o_callV0 {idx z ci b : Nat} {fs : List Value} {v : Option Value} {σ' : qH} (hd : decode M.1 pc = .ok (.invokevirtual idx, 3)) (hp : M.2.2.2.2.2.2.1 idx = some (1, z, 0, ci)) (hs : q_sum st ≤ 8) (hb : σ.1 b = some (.inr (ci, fs))) (hc : rc z [.ref b] σ = some (.inl v, σ')) : q_out rc M (pc, lo, .ref b :: st, σ) = q_out rc M (pc + 3, lo, v.toList ++ st, σ') :=
  q_out_go (by rw [q_step_of hd (Or.inl rfl)]; simp only [q_ex, hp, q_call, List.drop, hb]; rw [if_pos ⟨trivial, hs⟩]; exact congrArg (q_back pc lo st) hc)
theorem o_callI0 {idx z ci b : Nat} {v : Option Value} {σ' : qH} (hd : decode M.1 pc = .ok (.invokespecial idx, 3)) (hp : M.2.2.2.2.2.2.1 idx = some (3, z, 0, ci)) (hs : q_sum st ≤ 8) (hc : rc z [.ref b] σ = some (.inl v, σ')) : q_out rc M (pc, lo, .ref b :: st, σ) = q_out rc M (pc + 3, lo, v.toList ++ st, σ') :=
  q_out_go (by rw [q_step_of hd (Or.inl rfl)]; simp only [q_ex, hp, q_call, List.drop]; rw [if_pos hs]; exact congrArg (q_back pc lo st) hc)
theorem o_callS0 {idx z ci : Nat} {v : Option Value} {σ' : qH} (hd : decode M.1 pc = .ok (.invokestatic idx, 3)) (hp : M.2.2.2.2.2.2.1 idx = some (2, z, 0, ci)) (hs : q_sum st ≤ 8) (hc : rc z [] σ = some (.inl v, σ')) : q_out rc M (pc, lo, st, σ) = q_out rc M (pc + 3, lo, v.toList ++ st, σ') :=
  q_out_go (by rw [q_step_of hd (Or.inl rfl)]; simp only [q_ex, hp, q_call]; rw [if_pos ⟨by (try simp only [List.length_cons]); omega, hs⟩]; exact congrArg (q_back pc lo st) hc)
theorem o_callV1 {idx z ci b : Nat} {a1 : Value} {fs : List Value} {v : Option Value} {σ' : qH} (hd : decode M.1 pc = .ok (.invokevirtual idx, 3)) (hp : M.2.2.2.2.2.2.1 idx = some (1, z, 1, ci)) (hs : q_sum st ≤ 8) (hb : σ.1 b = some (.inr (ci, fs))) (hc : rc z [.ref b, a1] σ = some (.inl v, σ')) : q_out rc M (pc, lo, a1 :: .ref b :: st, σ) = q_out rc M (pc + 3, lo, v.toList ++ st, σ') :=
  q_out_go (by rw [q_step_of hd (Or.inl rfl)]; simp only [q_ex, hp, q_call, List.drop, hb]; rw [if_pos ⟨trivial, hs⟩]; exact congrArg (q_back pc lo st) hc)
theorem o_callI1 {idx z ci b : Nat} {a1 : Value} {v : Option Value} {σ' : qH} (hd : decode M.1 pc = .ok (.invokespecial idx, 3)) (hp : M.2.2.2.2.2.2.1 idx = some (3, z, 1, ci)) (hs : q_sum st ≤ 8) (hc : rc z [.ref b, a1] σ = some (.inl v, σ')) : q_out rc M (pc, lo, a1 :: .ref b :: st, σ) = q_out rc M (pc + 3, lo, v.toList ++ st, σ') :=
  q_out_go (by rw [q_step_of hd (Or.inl rfl)]; simp only [q_ex, hp, q_call, List.drop]; rw [if_pos hs]; exact congrArg (q_back pc lo st) hc)
theorem o_callS1 {idx z ci : Nat} {a1 : Value} {v : Option Value} {σ' : qH} (hd : decode M.1 pc = .ok (.invokestatic idx, 3)) (hp : M.2.2.2.2.2.2.1 idx = some (2, z, 1, ci)) (hs : q_sum st ≤ 8) (hc : rc z [a1] σ = some (.inl v, σ')) : q_out rc M (pc, lo, a1 :: st, σ) = q_out rc M (pc + 3, lo, v.toList ++ st, σ') :=
  q_out_go (by rw [q_step_of hd (Or.inl rfl)]; simp only [q_ex, hp, q_call]; rw [if_pos ⟨by (try simp only [List.length_cons]); omega, hs⟩]; exact congrArg (q_back pc lo st) hc)
theorem o_callV2 {idx z ci b : Nat} {a1 a2 : Value} {fs : List Value} {v : Option Value} {σ' : qH} (hd : decode M.1 pc = .ok (.invokevirtual idx, 3)) (hp : M.2.2.2.2.2.2.1 idx = some (1, z, 2, ci)) (hs : q_sum st ≤ 8) (hb : σ.1 b = some (.inr (ci, fs))) (hc : rc z [.ref b, a1, a2] σ = some (.inl v, σ')) : q_out rc M (pc, lo, a2 :: a1 :: .ref b :: st, σ) = q_out rc M (pc + 3, lo, v.toList ++ st, σ') :=
  q_out_go (by rw [q_step_of hd (Or.inl rfl)]; simp only [q_ex, hp, q_call, List.drop, hb]; rw [if_pos ⟨trivial, hs⟩]; exact congrArg (q_back pc lo st) hc)
theorem o_callI2 {idx z ci b : Nat} {a1 a2 : Value} {v : Option Value} {σ' : qH} (hd : decode M.1 pc = .ok (.invokespecial idx, 3)) (hp : M.2.2.2.2.2.2.1 idx = some (3, z, 2, ci)) (hs : q_sum st ≤ 8) (hc : rc z [.ref b, a1, a2] σ = some (.inl v, σ')) : q_out rc M (pc, lo, a2 :: a1 :: .ref b :: st, σ) = q_out rc M (pc + 3, lo, v.toList ++ st, σ') :=
  q_out_go (by rw [q_step_of hd (Or.inl rfl)]; simp only [q_ex, hp, q_call, List.drop]; rw [if_pos hs]; exact congrArg (q_back pc lo st) hc)
theorem o_callS2 {idx z ci : Nat} {a1 a2 : Value} {v : Option Value} {σ' : qH} (hd : decode M.1 pc = .ok (.invokestatic idx, 3)) (hp : M.2.2.2.2.2.2.1 idx = some (2, z, 2, ci)) (hs : q_sum st ≤ 8) (hc : rc z [a1, a2] σ = some (.inl v, σ')) : q_out rc M (pc, lo, a2 :: a1 :: st, σ) = q_out rc M (pc + 3, lo, v.toList ++ st, σ') :=
  q_out_go (by rw [q_step_of hd (Or.inl rfl)]; simp only [q_ex, hp, q_call]; rw [if_pos ⟨by (try simp only [List.length_cons]); omega, hs⟩]; exact congrArg (q_back pc lo st) hc)
theorem o_callV3 {idx z ci b : Nat} {a1 a2 a3 : Value} {fs : List Value} {v : Option Value} {σ' : qH} (hd : decode M.1 pc = .ok (.invokevirtual idx, 3)) (hp : M.2.2.2.2.2.2.1 idx = some (1, z, 3, ci)) (hs : q_sum st ≤ 8) (hb : σ.1 b = some (.inr (ci, fs))) (hc : rc z [.ref b, a1, a2, a3] σ = some (.inl v, σ')) : q_out rc M (pc, lo, a3 :: a2 :: a1 :: .ref b :: st, σ) = q_out rc M (pc + 3, lo, v.toList ++ st, σ') :=
  q_out_go (by rw [q_step_of hd (Or.inl rfl)]; simp only [q_ex, hp, q_call, List.drop, hb]; rw [if_pos ⟨trivial, hs⟩]; exact congrArg (q_back pc lo st) hc)
theorem o_callI3 {idx z ci b : Nat} {a1 a2 a3 : Value} {v : Option Value} {σ' : qH} (hd : decode M.1 pc = .ok (.invokespecial idx, 3)) (hp : M.2.2.2.2.2.2.1 idx = some (3, z, 3, ci)) (hs : q_sum st ≤ 8) (hc : rc z [.ref b, a1, a2, a3] σ = some (.inl v, σ')) : q_out rc M (pc, lo, a3 :: a2 :: a1 :: .ref b :: st, σ) = q_out rc M (pc + 3, lo, v.toList ++ st, σ') :=
  q_out_go (by rw [q_step_of hd (Or.inl rfl)]; simp only [q_ex, hp, q_call, List.drop]; rw [if_pos hs]; exact congrArg (q_back pc lo st) hc)
theorem o_callS3 {idx z ci : Nat} {a1 a2 a3 : Value} {v : Option Value} {σ' : qH} (hd : decode M.1 pc = .ok (.invokestatic idx, 3)) (hp : M.2.2.2.2.2.2.1 idx = some (2, z, 3, ci)) (hs : q_sum st ≤ 8) (hc : rc z [a1, a2, a3] σ = some (.inl v, σ')) : q_out rc M (pc, lo, a3 :: a2 :: a1 :: st, σ) = q_out rc M (pc + 3, lo, v.toList ++ st, σ') :=
  q_out_go (by rw [q_step_of hd (Or.inl rfl)]; simp only [q_ex, hp, q_call]; rw [if_pos ⟨by (try simp only [List.length_cons]); omega, hs⟩]; exact congrArg (q_back pc lo st) hc)
theorem o_callV4 {idx z ci b : Nat} {a1 a2 a3 a4 : Value} {fs : List Value} {v : Option Value} {σ' : qH} (hd : decode M.1 pc = .ok (.invokevirtual idx, 3)) (hp : M.2.2.2.2.2.2.1 idx = some (1, z, 4, ci)) (hs : q_sum st ≤ 8) (hb : σ.1 b = some (.inr (ci, fs))) (hc : rc z [.ref b, a1, a2, a3, a4] σ = some (.inl v, σ')) : q_out rc M (pc, lo, a4 :: a3 :: a2 :: a1 :: .ref b :: st, σ) = q_out rc M (pc + 3, lo, v.toList ++ st, σ') :=
  q_out_go (by rw [q_step_of hd (Or.inl rfl)]; simp only [q_ex, hp, q_call, List.drop, hb]; rw [if_pos ⟨trivial, hs⟩]; exact congrArg (q_back pc lo st) hc)
theorem o_callI4 {idx z ci b : Nat} {a1 a2 a3 a4 : Value} {v : Option Value} {σ' : qH} (hd : decode M.1 pc = .ok (.invokespecial idx, 3)) (hp : M.2.2.2.2.2.2.1 idx = some (3, z, 4, ci)) (hs : q_sum st ≤ 8) (hc : rc z [.ref b, a1, a2, a3, a4] σ = some (.inl v, σ')) : q_out rc M (pc, lo, a4 :: a3 :: a2 :: a1 :: .ref b :: st, σ) = q_out rc M (pc + 3, lo, v.toList ++ st, σ') :=
  q_out_go (by rw [q_step_of hd (Or.inl rfl)]; simp only [q_ex, hp, q_call, List.drop]; rw [if_pos hs]; exact congrArg (q_back pc lo st) hc)
theorem o_callS4 {idx z ci : Nat} {a1 a2 a3 a4 : Value} {v : Option Value} {σ' : qH} (hd : decode M.1 pc = .ok (.invokestatic idx, 3)) (hp : M.2.2.2.2.2.2.1 idx = some (2, z, 4, ci)) (hs : q_sum st ≤ 8) (hc : rc z [a1, a2, a3, a4] σ = some (.inl v, σ')) : q_out rc M (pc, lo, a4 :: a3 :: a2 :: a1 :: st, σ) = q_out rc M (pc + 3, lo, v.toList ++ st, σ') :=
  q_out_go (by rw [q_step_of hd (Or.inl rfl)]; simp only [q_ex, hp, q_call]; rw [if_pos ⟨by (try simp only [List.length_cons]); omega, hs⟩]; exact congrArg (q_back pc lo st) hc)
theorem o_callV5 {idx z ci b : Nat} {a1 a2 a3 a4 a5 : Value} {fs : List Value} {v : Option Value} {σ' : qH} (hd : decode M.1 pc = .ok (.invokevirtual idx, 3)) (hp : M.2.2.2.2.2.2.1 idx = some (1, z, 5, ci)) (hs : q_sum st ≤ 8) (hb : σ.1 b = some (.inr (ci, fs))) (hc : rc z [.ref b, a1, a2, a3, a4, a5] σ = some (.inl v, σ')) : q_out rc M (pc, lo, a5 :: a4 :: a3 :: a2 :: a1 :: .ref b :: st, σ) = q_out rc M (pc + 3, lo, v.toList ++ st, σ') :=
  q_out_go (by rw [q_step_of hd (Or.inl rfl)]; simp only [q_ex, hp, q_call, List.drop, hb]; rw [if_pos ⟨trivial, hs⟩]; exact congrArg (q_back pc lo st) hc)
theorem o_callI5 {idx z ci b : Nat} {a1 a2 a3 a4 a5 : Value} {v : Option Value} {σ' : qH} (hd : decode M.1 pc = .ok (.invokespecial idx, 3)) (hp : M.2.2.2.2.2.2.1 idx = some (3, z, 5, ci)) (hs : q_sum st ≤ 8) (hc : rc z [.ref b, a1, a2, a3, a4, a5] σ = some (.inl v, σ')) : q_out rc M (pc, lo, a5 :: a4 :: a3 :: a2 :: a1 :: .ref b :: st, σ) = q_out rc M (pc + 3, lo, v.toList ++ st, σ') :=
  q_out_go (by rw [q_step_of hd (Or.inl rfl)]; simp only [q_ex, hp, q_call, List.drop]; rw [if_pos hs]; exact congrArg (q_back pc lo st) hc)
theorem o_callS5 {idx z ci : Nat} {a1 a2 a3 a4 a5 : Value} {v : Option Value} {σ' : qH} (hd : decode M.1 pc = .ok (.invokestatic idx, 3)) (hp : M.2.2.2.2.2.2.1 idx = some (2, z, 5, ci)) (hs : q_sum st ≤ 8) (hc : rc z [a1, a2, a3, a4, a5] σ = some (.inl v, σ')) : q_out rc M (pc, lo, a5 :: a4 :: a3 :: a2 :: a1 :: st, σ) = q_out rc M (pc + 3, lo, v.toList ++ st, σ') :=
  q_out_go (by rw [q_step_of hd (Or.inl rfl)]; simp only [q_ex, hp, q_call]; rw [if_pos ⟨by (try simp only [List.length_cons]); omega, hs⟩]; exact congrArg (q_back pc lo st) hc)
theorem o_callV6 {idx z ci b : Nat} {a1 a2 a3 a4 a5 a6 : Value} {fs : List Value} {v : Option Value} {σ' : qH} (hd : decode M.1 pc = .ok (.invokevirtual idx, 3)) (hp : M.2.2.2.2.2.2.1 idx = some (1, z, 6, ci)) (hs : q_sum st ≤ 8) (hb : σ.1 b = some (.inr (ci, fs))) (hc : rc z [.ref b, a1, a2, a3, a4, a5, a6] σ = some (.inl v, σ')) : q_out rc M (pc, lo, a6 :: a5 :: a4 :: a3 :: a2 :: a1 :: .ref b :: st, σ) = q_out rc M (pc + 3, lo, v.toList ++ st, σ') :=
  q_out_go (by rw [q_step_of hd (Or.inl rfl)]; simp only [q_ex, hp, q_call, List.drop, hb]; rw [if_pos ⟨trivial, hs⟩]; exact congrArg (q_back pc lo st) hc)
theorem o_callI6 {idx z ci b : Nat} {a1 a2 a3 a4 a5 a6 : Value} {v : Option Value} {σ' : qH} (hd : decode M.1 pc = .ok (.invokespecial idx, 3)) (hp : M.2.2.2.2.2.2.1 idx = some (3, z, 6, ci)) (hs : q_sum st ≤ 8) (hc : rc z [.ref b, a1, a2, a3, a4, a5, a6] σ = some (.inl v, σ')) : q_out rc M (pc, lo, a6 :: a5 :: a4 :: a3 :: a2 :: a1 :: .ref b :: st, σ) = q_out rc M (pc + 3, lo, v.toList ++ st, σ') :=
  q_out_go (by rw [q_step_of hd (Or.inl rfl)]; simp only [q_ex, hp, q_call, List.drop]; rw [if_pos hs]; exact congrArg (q_back pc lo st) hc)
theorem o_callS6 {idx z ci : Nat} {a1 a2 a3 a4 a5 a6 : Value} {v : Option Value} {σ' : qH} (hd : decode M.1 pc = .ok (.invokestatic idx, 3)) (hp : M.2.2.2.2.2.2.1 idx = some (2, z, 6, ci)) (hs : q_sum st ≤ 8) (hc : rc z [a1, a2, a3, a4, a5, a6] σ = some (.inl v, σ')) : q_out rc M (pc, lo, a6 :: a5 :: a4 :: a3 :: a2 :: a1 :: st, σ) = q_out rc M (pc + 3, lo, v.toList ++ st, σ') :=
  q_out_go (by rw [q_step_of hd (Or.inl rfl)]; simp only [q_ex, hp, q_call]; rw [if_pos ⟨by (try simp only [List.length_cons]); omega, hs⟩]; exact congrArg (q_back pc lo st) hc)
theorem o_callS7 {idx z ci : Nat} {a1 a2 a3 a4 a5 a6 a7 : Value} {v : Option Value} {σ' : qH} (hd : decode M.1 pc = .ok (.invokestatic idx, 3)) (hp : M.2.2.2.2.2.2.1 idx = some (2, z, 7, ci)) (hs : q_sum st ≤ 8) (hc : rc z [a1, a2, a3, a4, a5, a6, a7] σ = some (.inl v, σ')) : q_out rc M (pc, lo, a7 :: a6 :: a5 :: a4 :: a3 :: a2 :: a1 :: st, σ) = q_out rc M (pc + 3, lo, v.toList ++ st, σ') :=
  q_out_go (by rw [q_step_of hd (Or.inl rfl)]; simp only [q_ex, hp, q_call]; rw [if_pos ⟨by (try simp only [List.length_cons]); omega, hs⟩]; exact congrArg (q_back pc lo st) hc)
theorem o_ireturn {x : Int32} {t : FieldType} (hd : decode M.1 pc = .ok (.ireturn, 1)) (hr : M.2.2.1 = some t) (hn : narrow t (.int x) = .int x) : q_out rc M (pc, lo, [.int x], σ) = some (.inl (some (.int x)), σ) :=
  q_out_end (by rw [q_step_of hd (Or.inl rfl)]; simp only [q_ex, hr, q_ireturn, if_pos hn])
theorem o_lreturn {x : Int64} (hd : decode M.1 pc = .ok (.lreturn, 1)) (hr : M.2.2.1 = some .long) : q_out rc M (pc, lo, [.long x], σ) = some (.inl (some (.long x)), σ) :=
  q_out_end (by rw [q_step_of hd (Or.inl rfl)]; simp only [q_ex, hr, q_lreturn])
theorem o_areturn {a : Nat} (hd : decode M.1 pc = .ok (.areturn, 1)) (hr : q_isRefT M.2.2.1 = true) : q_out rc M (pc, lo, [.ref a], σ) = some (.inl (some (.ref a)), σ) :=
  q_out_end (by rw [q_step_of hd (Or.inl rfl)]; simp only [q_ex, q_areturn, if_pos hr])
theorem o_areturnN (hd : decode M.1 pc = .ok (.areturn, 1)) (hr : q_isRefT M.2.2.1 = true) : q_out rc M (pc, lo, [.null], σ) = some (.inl (some .null), σ) :=
  q_out_end (by rw [q_step_of hd (Or.inl rfl)]; simp only [q_ex, q_areturn, if_pos hr])
theorem o_return (hd : decode M.1 pc = .ok (.return_, 1)) (hr : M.2.2.1 = none) : q_out rc M (pc, lo, [], σ) = some (.inl none, σ) :=
  q_out_end (by rw [q_step_of hd (Or.inl rfl)]; simp only [q_ex, hr, q_vreturn])
theorem o_throw {idx x : Nat} (hd : decode M.1 pc = .ok (.new idx, 3)) (hp : M.2.2.2.2.2.1 idx = some (.inr x)) : q_out rc M (pc, lo, st, σ) = some (.inr x, (σ.1, σ.2.1 + 1, σ.2.2.1 + 1, σ.2.2.2 + 6)) :=
  q_out_end (by rw [q_step_of hd (Or.inl rfl)]; simp only [q_ex, q_newC, hp])
end QO
/-- a call is its body's run -/
theorem o_ev {Mt : Nat → Option qM} {d z : Nat} {as : List Value} {σ : qH} {M : qM} {lo : qL} (hM : Mt z = some M) (hl : (q_args as).length ≤ M.2.1) (he : q_entry M.2.1 as = lo) : q_ev Mt (d + 1) z as σ = q_out (q_ev Mt d) M (0, lo, [], σ) := by
  subst he
  simp only [q_ev, hM, if_pos hl]
end
section
theorem d_PW_init_0 : decode q_mPW_init.1 0 = .ok (.aload_n 0, 1) := by decide +kernel
theorem d_PW_init_1 : decode q_mPW_init.1 1 = .ok (.invokespecial 3, 3) := by decide +kernel
theorem d_PW_init_4 : decode q_mPW_init.1 4 = .ok (.aload_n 0, 1) := by decide +kernel
theorem d_PW_init_5 : decode q_mPW_init.1 5 = .ok (.bipush 48, 2) := by decide +kernel
theorem d_PW_init_7 : decode q_mPW_init.1 7 = .ok (.newarray .char, 2) := by decide +kernel
theorem d_PW_init_9 : decode q_mPW_init.1 9 = .ok (.putfield 9, 3) := by decide +kernel
theorem d_PW_init_12 : decode q_mPW_init.1 12 = .ok (.aload_n 0, 1) := by decide +kernel
theorem d_PW_init_13 : decode q_mPW_init.1 13 = .ok (.iconst 0, 1) := by decide +kernel
theorem d_PW_init_14 : decode q_mPW_init.1 14 = .ok (.putfield 13, 3) := by decide +kernel
theorem d_PW_init_17 : decode q_mPW_init.1 17 = .ok (.aload_n 0, 1) := by decide +kernel
theorem d_PW_init_18 : decode q_mPW_init.1 18 = .ok (.iconst (-1), 1) := by decide +kernel
theorem d_PW_init_19 : decode q_mPW_init.1 19 = .ok (.putfield 17, 3) := by decide +kernel
theorem d_PW_init_22 : decode q_mPW_init.1 22 = .ok (.aload_n 0, 1) := by decide +kernel
theorem d_PW_init_23 : decode q_mPW_init.1 23 = .ok (.new 20, 3) := by decide +kernel
theorem d_PW_init_26 : decode q_mPW_init.1 26 = .ok (.dup, 1) := by decide +kernel
theorem d_PW_init_27 : decode q_mPW_init.1 27 = .ok (.invokespecial 22, 3) := by decide +kernel
theorem d_PW_init_30 : decode q_mPW_init.1 30 = .ok (.putfield 23, 3) := by decide +kernel
theorem d_PW_init_33 : decode q_mPW_init.1 33 = .ok (.aload_n 0, 1) := by decide +kernel
theorem d_PW_init_34 : decode q_mPW_init.1 34 = .ok (.new 27, 3) := by decide +kernel
theorem d_PW_init_37 : decode q_mPW_init.1 37 = .ok (.dup, 1) := by decide +kernel
theorem d_PW_init_38 : decode q_mPW_init.1 38 = .ok (.aload_n 0, 1) := by decide +kernel
theorem d_PW_init_39 : decode q_mPW_init.1 39 = .ok (.getfield 9, 3) := by decide +kernel
theorem d_PW_init_42 : decode q_mPW_init.1 42 = .ok (.aload_n 0, 1) := by decide +kernel
theorem d_PW_init_43 : decode q_mPW_init.1 43 = .ok (.getfield 23, 3) := by decide +kernel
theorem d_PW_init_46 : decode q_mPW_init.1 46 = .ok (.invokespecial 29, 3) := by decide +kernel
theorem d_PW_init_49 : decode q_mPW_init.1 49 = .ok (.putfield 32, 3) := by decide +kernel
theorem d_PW_init_52 : decode q_mPW_init.1 52 = .ok (.aload_n 0, 1) := by decide +kernel
theorem d_PW_init_53 : decode q_mPW_init.1 53 = .ok (.new 36, 3) := by decide +kernel
theorem d_PW_init_56 : decode q_mPW_init.1 56 = .ok (.dup, 1) := by decide +kernel
theorem d_PW_init_57 : decode q_mPW_init.1 57 = .ok (.invokespecial 38, 3) := by decide +kernel
theorem d_PW_init_60 : decode q_mPW_init.1 60 = .ok (.putfield 39, 3) := by decide +kernel
theorem d_PW_init_63 : decode q_mPW_init.1 63 = .ok (.aload_n 0, 1) := by decide +kernel
theorem d_PW_init_64 : decode q_mPW_init.1 64 = .ok (.new 43, 3) := by decide +kernel
theorem d_PW_init_67 : decode q_mPW_init.1 67 = .ok (.dup, 1) := by decide +kernel
theorem d_PW_init_68 : decode q_mPW_init.1 68 = .ok (.aload_n 0, 1) := by decide +kernel
theorem d_PW_init_69 : decode q_mPW_init.1 69 = .ok (.getfield 39, 3) := by decide +kernel
theorem d_PW_init_72 : decode q_mPW_init.1 72 = .ok (.aload_n 0, 1) := by decide +kernel
theorem d_PW_init_73 : decode q_mPW_init.1 73 = .ok (.getfield 23, 3) := by decide +kernel
theorem d_PW_init_76 : decode q_mPW_init.1 76 = .ok (.invokespecial 45, 3) := by decide +kernel
theorem d_PW_init_79 : decode q_mPW_init.1 79 = .ok (.putfield 48, 3) := by decide +kernel
theorem d_PW_init_82 : decode q_mPW_init.1 82 = .ok (.return_, 1) := by decide +kernel
theorem d_PW_pattern_0 : decode q_mPW_pattern.1 0 = .ok (.iload_n 1, 1) := by decide +kernel
theorem d_PW_pattern_1 : decode q_mPW_pattern.1 1 = .ok (.bipush 32, 2) := by decide +kernel
theorem d_PW_pattern_3 : decode q_mPW_pattern.1 3 = .ok (.if_icmp .lt 19, 3) := by decide +kernel
theorem d_PW_pattern_6 : decode q_mPW_pattern.1 6 = .ok (.iload_n 1, 1) := by decide +kernel
theorem d_PW_pattern_7 : decode q_mPW_pattern.1 7 = .ok (.bipush 126, 2) := by decide +kernel
theorem d_PW_pattern_9 : decode q_mPW_pattern.1 9 = .ok (.if_icmp .gt 13, 3) := by decide +kernel
theorem d_PW_pattern_12 : decode q_mPW_pattern.1 12 = .ok (.aload_n 0, 1) := by decide +kernel
theorem d_PW_pattern_13 : decode q_mPW_pattern.1 13 = .ok (.getfield 39, 3) := by decide +kernel
theorem d_PW_pattern_16 : decode q_mPW_pattern.1 16 = .ok (.invokevirtual 52, 3) := by decide +kernel
theorem d_PW_pattern_19 : decode q_mPW_pattern.1 19 = .ok (.ifCond .eq 5, 3) := by decide +kernel
theorem d_PW_pattern_22 : decode q_mPW_pattern.1 22 = .ok (.iconst 0, 1) := by decide +kernel
theorem d_PW_pattern_23 : decode q_mPW_pattern.1 23 = .ok (.ireturn, 1) := by decide +kernel
theorem d_PW_pattern_24 : decode q_mPW_pattern.1 24 = .ok (.aload_n 0, 1) := by decide +kernel
theorem d_PW_pattern_25 : decode q_mPW_pattern.1 25 = .ok (.getfield 13, 3) := by decide +kernel
theorem d_PW_pattern_28 : decode q_mPW_pattern.1 28 = .ok (.ifCond .lt 12, 3) := by decide +kernel
theorem d_PW_pattern_31 : decode q_mPW_pattern.1 31 = .ok (.aload_n 0, 1) := by decide +kernel
theorem d_PW_pattern_32 : decode q_mPW_pattern.1 32 = .ok (.getfield 13, 3) := by decide +kernel
theorem d_PW_pattern_35 : decode q_mPW_pattern.1 35 = .ok (.bipush 48, 2) := by decide +kernel
theorem d_PW_pattern_37 : decode q_mPW_pattern.1 37 = .ok (.if_icmp .lt 5, 3) := by decide +kernel
theorem d_PW_pattern_40 : decode q_mPW_pattern.1 40 = .ok (.iconst 0, 1) := by decide +kernel
theorem d_PW_pattern_41 : decode q_mPW_pattern.1 41 = .ok (.ireturn, 1) := by decide +kernel
theorem d_PW_pattern_42 : decode q_mPW_pattern.1 42 = .ok (.aload_n 0, 1) := by decide +kernel
theorem d_PW_pattern_43 : decode q_mPW_pattern.1 43 = .ok (.getfield 9, 3) := by decide +kernel
theorem d_PW_pattern_46 : decode q_mPW_pattern.1 46 = .ok (.aload_n 0, 1) := by decide +kernel
theorem d_PW_pattern_47 : decode q_mPW_pattern.1 47 = .ok (.getfield 13, 3) := by decide +kernel
theorem d_PW_pattern_50 : decode q_mPW_pattern.1 50 = .ok (.iload_n 1, 1) := by decide +kernel
theorem d_PW_pattern_51 : decode q_mPW_pattern.1 51 = .ok (.castore, 1) := by decide +kernel
theorem d_PW_pattern_52 : decode q_mPW_pattern.1 52 = .ok (.aload_n 0, 1) := by decide +kernel
theorem d_PW_pattern_53 : decode q_mPW_pattern.1 53 = .ok (.dup, 1) := by decide +kernel
theorem d_PW_pattern_54 : decode q_mPW_pattern.1 54 = .ok (.getfield 13, 3) := by decide +kernel
theorem d_PW_pattern_57 : decode q_mPW_pattern.1 57 = .ok (.iconst 1, 1) := by decide +kernel
theorem d_PW_pattern_58 : decode q_mPW_pattern.1 58 = .ok (.iadd, 1) := by decide +kernel
theorem d_PW_pattern_59 : decode q_mPW_pattern.1 59 = .ok (.putfield 13, 3) := by decide +kernel
theorem d_PW_pattern_62 : decode q_mPW_pattern.1 62 = .ok (.iconst 1, 1) := by decide +kernel
theorem d_PW_pattern_63 : decode q_mPW_pattern.1 63 = .ok (.ireturn, 1) := by decide +kernel
theorem d_PW_position_0 : decode q_mPW_position.1 0 = .ok (.aload_n 0, 1) := by decide +kernel
theorem d_PW_position_1 : decode q_mPW_position.1 1 = .ok (.getfield 17, 3) := by decide +kernel
theorem d_PW_position_4 : decode q_mPW_position.1 4 = .ok (.ireturn, 1) := by decide +kernel
theorem d_PW_clear_0 : decode q_mPW_clear.1 0 = .ok (.aload_n 0, 1) := by decide +kernel
theorem d_PW_clear_1 : decode q_mPW_clear.1 1 = .ok (.iconst 0, 1) := by decide +kernel
theorem d_PW_clear_2 : decode q_mPW_clear.1 2 = .ok (.putfield 13, 3) := by decide +kernel
theorem d_PW_clear_5 : decode q_mPW_clear.1 5 = .ok (.aload_n 0, 1) := by decide +kernel
theorem d_PW_clear_6 : decode q_mPW_clear.1 6 = .ok (.iconst (-1), 1) := by decide +kernel
theorem d_PW_clear_7 : decode q_mPW_clear.1 7 = .ok (.putfield 17, 3) := by decide +kernel
theorem d_PW_clear_10 : decode q_mPW_clear.1 10 = .ok (.aload_n 0, 1) := by decide +kernel
theorem d_PW_clear_11 : decode q_mPW_clear.1 11 = .ok (.getfield 39, 3) := by decide +kernel
theorem d_PW_clear_14 : decode q_mPW_clear.1 14 = .ok (.invokevirtual 93, 3) := by decide +kernel
theorem d_PW_clear_17 : decode q_mPW_clear.1 17 = .ok (.aload_n 0, 1) := by decide +kernel
theorem d_PW_clear_18 : decode q_mPW_clear.1 18 = .ok (.getfield 48, 3) := by decide +kernel
theorem d_PW_clear_21 : decode q_mPW_clear.1 21 = .ok (.invokevirtual 96, 3) := by decide +kernel
theorem d_PW_clear_24 : decode q_mPW_clear.1 24 = .ok (.return_, 1) := by decide +kernel
theorem d_PW_instruction_0 : decode q_mPW_instruction.1 0 = .ok (.aload_n 0, 1) := by decide +kernel
theorem d_PW_instruction_1 : decode q_mPW_instruction.1 1 = .ok (.getfield 39, 3) := by decide +kernel
theorem d_PW_instruction_4 : decode q_mPW_instruction.1 4 = .ok (.iload_n 1, 1) := by decide +kernel
theorem d_PW_instruction_5 : decode q_mPW_instruction.1 5 = .ok (.invokevirtual 99, 3) := by decide +kernel
theorem d_PW_instruction_8 : decode q_mPW_instruction.1 8 = .ok (.ifCond .ne 5, 3) := by decide +kernel
theorem d_PW_instruction_11 : decode q_mPW_instruction.1 11 = .ok (.iconst (-1), 1) := by decide +kernel
theorem d_PW_instruction_12 : decode q_mPW_instruction.1 12 = .ok (.ireturn, 1) := by decide +kernel
theorem d_PW_instruction_13 : decode q_mPW_instruction.1 13 = .ok (.iload_n 2, 1) := by decide +kernel
theorem d_PW_instruction_14 : decode q_mPW_instruction.1 14 = .ok (.tableswitch 82 0 2 #[26, 35, 73], 26) := by decide +kernel
theorem d_PW_instruction_40 : decode q_mPW_instruction.1 40 = .ok (.aload_n 0, 1) := by decide +kernel
theorem d_PW_instruction_41 : decode q_mPW_instruction.1 41 = .ok (.getfield 39, 3) := by decide +kernel
theorem d_PW_instruction_44 : decode q_mPW_instruction.1 44 = .ok (.iload_n 1, 1) := by decide +kernel
theorem d_PW_instruction_45 : decode q_mPW_instruction.1 45 = .ok (.invokevirtual 103, 3) := by decide +kernel
theorem d_PW_instruction_48 : decode q_mPW_instruction.1 48 = .ok (.ireturn, 1) := by decide +kernel
theorem d_PW_instruction_49 : decode q_mPW_instruction.1 49 = .ok (.aload_n 0, 1) := by decide +kernel
theorem d_PW_instruction_50 : decode q_mPW_instruction.1 50 = .ok (.getfield 39, 3) := by decide +kernel
theorem d_PW_instruction_53 : decode q_mPW_instruction.1 53 = .ok (.iload_n 1, 1) := by decide +kernel
theorem d_PW_instruction_54 : decode q_mPW_instruction.1 54 = .ok (.invokevirtual 103, 3) := by decide +kernel
theorem d_PW_instruction_57 : decode q_mPW_instruction.1 57 = .ok (.ifCond .ne 21, 3) := by decide +kernel
theorem d_PW_instruction_60 : decode q_mPW_instruction.1 60 = .ok (.aload_n 0, 1) := by decide +kernel
theorem d_PW_instruction_61 : decode q_mPW_instruction.1 61 = .ok (.getfield 23, 3) := by decide +kernel
theorem d_PW_instruction_64 : decode q_mPW_instruction.1 64 = .ok (.aload_n 0, 1) := by decide +kernel
theorem d_PW_instruction_65 : decode q_mPW_instruction.1 65 = .ok (.getfield 39, 3) := by decide +kernel
theorem d_PW_instruction_68 : decode q_mPW_instruction.1 68 = .ok (.iload_n 1, 1) := by decide +kernel
theorem d_PW_instruction_69 : decode q_mPW_instruction.1 69 = .ok (.invokevirtual 107, 3) := by decide +kernel
theorem d_PW_instruction_72 : decode q_mPW_instruction.1 72 = .ok (.invokevirtual 110, 3) := by decide +kernel
theorem d_PW_instruction_75 : decode q_mPW_instruction.1 75 = .ok (.goto 11, 3) := by decide +kernel
theorem d_PW_instruction_78 : decode q_mPW_instruction.1 78 = .ok (.aload_n 0, 1) := by decide +kernel
theorem d_PW_instruction_79 : decode q_mPW_instruction.1 79 = .ok (.getfield 39, 3) := by decide +kernel
theorem d_PW_instruction_82 : decode q_mPW_instruction.1 82 = .ok (.iload_n 1, 1) := by decide +kernel
theorem d_PW_instruction_83 : decode q_mPW_instruction.1 83 = .ok (.invokevirtual 107, 3) := by decide +kernel
theorem d_PW_instruction_86 : decode q_mPW_instruction.1 86 = .ok (.ireturn, 1) := by decide +kernel
theorem d_PW_instruction_87 : decode q_mPW_instruction.1 87 = .ok (.aload_n 0, 1) := by decide +kernel
theorem d_PW_instruction_88 : decode q_mPW_instruction.1 88 = .ok (.getfield 39, 3) := by decide +kernel
theorem d_PW_instruction_91 : decode q_mPW_instruction.1 91 = .ok (.iload_n 1, 1) := by decide +kernel
theorem d_PW_instruction_92 : decode q_mPW_instruction.1 92 = .ok (.invokevirtual 113, 3) := by decide +kernel
theorem d_PW_instruction_95 : decode q_mPW_instruction.1 95 = .ok (.ireturn, 1) := by decide +kernel
theorem d_PW_instruction_96 : decode q_mPW_instruction.1 96 = .ok (.iconst (-1), 1) := by decide +kernel
theorem d_PW_instruction_97 : decode q_mPW_instruction.1 97 = .ok (.ireturn, 1) := by decide +kernel
theorem d_PW_groups_0 : decode q_mPW_groups.1 0 = .ok (.aload_n 0, 1) := by decide +kernel
theorem d_PW_groups_1 : decode q_mPW_groups.1 1 = .ok (.getfield 39, 3) := by decide +kernel
theorem d_PW_groups_4 : decode q_mPW_groups.1 4 = .ok (.invokevirtual 52, 3) := by decide +kernel
theorem d_PW_groups_7 : decode q_mPW_groups.1 7 = .ok (.ifCond .eq 13, 3) := by decide +kernel
theorem d_PW_groups_10 : decode q_mPW_groups.1 10 = .ok (.aload_n 0, 1) := by decide +kernel
theorem d_PW_groups_11 : decode q_mPW_groups.1 11 = .ok (.getfield 39, 3) := by decide +kernel
theorem d_PW_groups_14 : decode q_mPW_groups.1 14 = .ok (.getfield 116, 3) := by decide +kernel
theorem d_PW_groups_17 : decode q_mPW_groups.1 17 = .ok (.goto 4, 3) := by decide +kernel
theorem d_PW_groups_20 : decode q_mPW_groups.1 20 = .ok (.iconst (-1), 1) := by decide +kernel
theorem d_PW_groups_21 : decode q_mPW_groups.1 21 = .ok (.ireturn, 1) := by decide +kernel
theorem d_PW_start_0 : decode q_mPW_start.1 0 = .ok (.aload_n 0, 1) := by decide +kernel
theorem d_PW_start_1 : decode q_mPW_start.1 1 = .ok (.getfield 39, 3) := by decide +kernel
theorem d_PW_start_4 : decode q_mPW_start.1 4 = .ok (.invokevirtual 52, 3) := by decide +kernel
theorem d_PW_start_7 : decode q_mPW_start.1 7 = .ok (.ifCond .ne 5, 3) := by decide +kernel
theorem d_PW_start_10 : decode q_mPW_start.1 10 = .ok (.iconst 0, 1) := by decide +kernel
theorem d_PW_start_11 : decode q_mPW_start.1 11 = .ok (.ireturn, 1) := by decide +kernel
theorem d_PW_start_12 : decode q_mPW_start.1 12 = .ok (.aload_n 0, 1) := by decide +kernel
theorem d_PW_start_13 : decode q_mPW_start.1 13 = .ok (.getfield 48, 3) := by decide +kernel
theorem d_PW_start_16 : decode q_mPW_start.1 16 = .ok (.iload_n 1, 1) := by decide +kernel
theorem d_PW_start_17 : decode q_mPW_start.1 17 = .ok (.invokevirtual 119, 3) := by decide +kernel
theorem d_PW_start_20 : decode q_mPW_start.1 20 = .ok (.iconst 1, 1) := by decide +kernel
theorem d_PW_start_21 : decode q_mPW_start.1 21 = .ok (.ireturn, 1) := by decide +kernel
theorem d_PW_feed_0 : decode q_mPW_feed.1 0 = .ok (.aload_n 0, 1) := by decide +kernel
theorem d_PW_feed_1 : decode q_mPW_feed.1 1 = .ok (.getfield 48, 3) := by decide +kernel
theorem d_PW_feed_4 : decode q_mPW_feed.1 4 = .ok (.getfield 123, 3) := by decide +kernel
theorem d_PW_feed_7 : decode q_mPW_feed.1 7 = .ok (.ifCond .eq 23, 3) := by decide +kernel
theorem d_PW_feed_10 : decode q_mPW_feed.1 10 = .ok (.iload_n 1, 1) := by decide +kernel
theorem d_PW_feed_11 : decode q_mPW_feed.1 11 = .ok (.sipush 256, 3) := by decide +kernel
theorem d_PW_feed_14 : decode q_mPW_feed.1 14 = .ok (.if_icmp .ge 16, 3) := by decide +kernel
theorem d_PW_feed_17 : decode q_mPW_feed.1 17 = .ok (.aload_n 0, 1) := by decide +kernel
theorem d_PW_feed_18 : decode q_mPW_feed.1 18 = .ok (.getfield 48, 3) := by decide +kernel
theorem d_PW_feed_21 : decode q_mPW_feed.1 21 = .ok (.getfield 127, 3) := by decide +kernel
theorem d_PW_feed_24 : decode q_mPW_feed.1 24 = .ok (.sipush 200, 3) := by decide +kernel
theorem d_PW_feed_27 : decode q_mPW_feed.1 27 = .ok (.if_icmp .lt 5, 3) := by decide +kernel
theorem d_PW_feed_30 : decode q_mPW_feed.1 30 = .ok (.iconst 0, 1) := by decide +kernel
theorem d_PW_feed_31 : decode q_mPW_feed.1 31 = .ok (.ireturn, 1) := by decide +kernel
theorem d_PW_feed_32 : decode q_mPW_feed.1 32 = .ok (.aload_n 0, 1) := by decide +kernel
theorem d_PW_feed_33 : decode q_mPW_feed.1 33 = .ok (.getfield 48, 3) := by decide +kernel
theorem d_PW_feed_36 : decode q_mPW_feed.1 36 = .ok (.iload_n 1, 1) := by decide +kernel
theorem d_PW_feed_37 : decode q_mPW_feed.1 37 = .ok (.invokevirtual 130, 3) := by decide +kernel
theorem d_PW_feed_40 : decode q_mPW_feed.1 40 = .ok (.iconst 1, 1) := by decide +kernel
theorem d_PW_feed_41 : decode q_mPW_feed.1 41 = .ok (.ireturn, 1) := by decide +kernel
theorem d_PW_matched_0 : decode q_mPW_matched.1 0 = .ok (.aload_n 0, 1) := by decide +kernel
theorem d_PW_matched_1 : decode q_mPW_matched.1 1 = .ok (.getfield 48, 3) := by decide +kernel
theorem d_PW_matched_4 : decode q_mPW_matched.1 4 = .ok (.getfield 123, 3) := by decide +kernel
theorem d_PW_matched_7 : decode q_mPW_matched.1 7 = .ok (.ifCond .eq 17, 3) := by decide +kernel
theorem d_PW_matched_10 : decode q_mPW_matched.1 10 = .ok (.aload_n 0, 1) := by decide +kernel
theorem d_PW_matched_11 : decode q_mPW_matched.1 11 = .ok (.getfield 48, 3) := by decide +kernel
theorem d_PW_matched_14 : decode q_mPW_matched.1 14 = .ok (.getfield 134, 3) := by decide +kernel
theorem d_PW_matched_17 : decode q_mPW_matched.1 17 = .ok (.ifCond .eq 7, 3) := by decide +kernel
theorem d_PW_matched_20 : decode q_mPW_matched.1 20 = .ok (.iconst 1, 1) := by decide +kernel
theorem d_PW_matched_21 : decode q_mPW_matched.1 21 = .ok (.goto 4, 3) := by decide +kernel
theorem d_PW_matched_24 : decode q_mPW_matched.1 24 = .ok (.iconst 0, 1) := by decide +kernel
theorem d_PW_matched_25 : decode q_mPW_matched.1 25 = .ok (.ireturn, 1) := by decide +kernel
theorem d_PW_live_0 : decode q_mPW_live.1 0 = .ok (.aload_n 0, 1) := by decide +kernel
theorem d_PW_live_1 : decode q_mPW_live.1 1 = .ok (.getfield 48, 3) := by decide +kernel
theorem d_PW_live_4 : decode q_mPW_live.1 4 = .ok (.getfield 123, 3) := by decide +kernel
theorem d_PW_live_7 : decode q_mPW_live.1 7 = .ok (.ifCond .eq 16, 3) := by decide +kernel
theorem d_PW_live_10 : decode q_mPW_live.1 10 = .ok (.aload_n 0, 1) := by decide +kernel
theorem d_PW_live_11 : decode q_mPW_live.1 11 = .ok (.getfield 48, 3) := by decide +kernel
theorem d_PW_live_14 : decode q_mPW_live.1 14 = .ok (.getfield 137, 3) := by decide +kernel
theorem d_PW_live_17 : decode q_mPW_live.1 17 = .ok (.getfield 141, 3) := by decide +kernel
theorem d_PW_live_20 : decode q_mPW_live.1 20 = .ok (.goto 4, 3) := by decide +kernel
theorem d_PW_live_23 : decode q_mPW_live.1 23 = .ok (.iconst 0, 1) := by decide +kernel
theorem d_PW_live_24 : decode q_mPW_live.1 24 = .ok (.ireturn, 1) := by decide +kernel
theorem d_PW_isLive_0 : decode q_mPW_isLive.1 0 = .ok (.aload_n 0, 1) := by decide +kernel
theorem d_PW_isLive_1 : decode q_mPW_isLive.1 1 = .ok (.getfield 48, 3) := by decide +kernel
theorem d_PW_isLive_4 : decode q_mPW_isLive.1 4 = .ok (.getfield 123, 3) := by decide +kernel
theorem d_PW_isLive_7 : decode q_mPW_isLive.1 7 = .ok (.ifCond .eq 18, 3) := by decide +kernel
theorem d_PW_isLive_10 : decode q_mPW_isLive.1 10 = .ok (.aload_n 0, 1) := by decide +kernel
theorem d_PW_isLive_11 : decode q_mPW_isLive.1 11 = .ok (.getfield 48, 3) := by decide +kernel
theorem d_PW_isLive_14 : decode q_mPW_isLive.1 14 = .ok (.iload_n 1, 1) := by decide +kernel
theorem d_PW_isLive_15 : decode q_mPW_isLive.1 15 = .ok (.invokevirtual 145, 3) := by decide +kernel
theorem d_PW_isLive_18 : decode q_mPW_isLive.1 18 = .ok (.ifCond .eq 7, 3) := by decide +kernel
theorem d_PW_isLive_21 : decode q_mPW_isLive.1 21 = .ok (.iconst 1, 1) := by decide +kernel
theorem d_PW_isLive_22 : decode q_mPW_isLive.1 22 = .ok (.goto 4, 3) := by decide +kernel
theorem d_PW_isLive_25 : decode q_mPW_isLive.1 25 = .ok (.iconst 0, 1) := by decide +kernel
theorem d_PW_isLive_26 : decode q_mPW_isLive.1 26 = .ok (.ireturn, 1) := by decide +kernel
theorem d_PW_mark_0 : decode q_mPW_mark.1 0 = .ok (.aload_n 0, 1) := by decide +kernel
theorem d_PW_mark_1 : decode q_mPW_mark.1 1 = .ok (.getfield 48, 3) := by decide +kernel
theorem d_PW_mark_4 : decode q_mPW_mark.1 4 = .ok (.getfield 123, 3) := by decide +kernel
theorem d_PW_mark_7 : decode q_mPW_mark.1 7 = .ok (.ifCond .eq 14, 3) := by decide +kernel
theorem d_PW_mark_10 : decode q_mPW_mark.1 10 = .ok (.aload_n 0, 1) := by decide +kernel
theorem d_PW_mark_11 : decode q_mPW_mark.1 11 = .ok (.getfield 48, 3) := by decide +kernel
theorem d_PW_mark_14 : decode q_mPW_mark.1 14 = .ok (.iload_n 1, 1) := by decide +kernel
theorem d_PW_mark_15 : decode q_mPW_mark.1 15 = .ok (.invokevirtual 148, 3) := by decide +kernel
theorem d_PW_mark_18 : decode q_mPW_mark.1 18 = .ok (.goto 4, 3) := by decide +kernel
theorem d_PW_mark_21 : decode q_mPW_mark.1 21 = .ok (.iconst (-1), 1) := by decide +kernel
theorem d_PW_mark_22 : decode q_mPW_mark.1 22 = .ok (.ireturn, 1) := by decide +kernel
theorem d_PW_fed_0 : decode q_mPW_fed.1 0 = .ok (.aload_n 0, 1) := by decide +kernel
theorem d_PW_fed_1 : decode q_mPW_fed.1 1 = .ok (.getfield 48, 3) := by decide +kernel
theorem d_PW_fed_4 : decode q_mPW_fed.1 4 = .ok (.getfield 123, 3) := by decide +kernel
theorem d_PW_fed_7 : decode q_mPW_fed.1 7 = .ok (.ifCond .eq 13, 3) := by decide +kernel
theorem d_PW_fed_10 : decode q_mPW_fed.1 10 = .ok (.aload_n 0, 1) := by decide +kernel
theorem d_PW_fed_11 : decode q_mPW_fed.1 11 = .ok (.getfield 48, 3) := by decide +kernel
theorem d_PW_fed_14 : decode q_mPW_fed.1 14 = .ok (.getfield 127, 3) := by decide +kernel
theorem d_PW_fed_17 : decode q_mPW_fed.1 17 = .ok (.goto 4, 3) := by decide +kernel
theorem d_PW_fed_20 : decode q_mPW_fed.1 20 = .ok (.iconst (-1), 1) := by decide +kernel
theorem d_PW_fed_21 : decode q_mPW_fed.1 21 = .ok (.ireturn, 1) := by decide +kernel
theorem d_PW_compile_0 : decode q_mPW_compile.1 0 = .ok (.aload_n 0, 1) := by decide +kernel
theorem d_PW_compile_1 : decode q_mPW_compile.1 1 = .ok (.getfield 39, 3) := by decide +kernel
theorem d_PW_compile_4 : decode q_mPW_compile.1 4 = .ok (.invokevirtual 52, 3) := by decide +kernel
theorem d_PW_compile_7 : decode q_mPW_compile.1 7 = .ok (.ifCond .eq 13, 3) := by decide +kernel
theorem d_PW_compile_10 : decode q_mPW_compile.1 10 = .ok (.new 56, 3) := by decide +kernel
theorem d_PW_compile_13 : decode q_mPW_compile.1 13 = .ok (.dup, 1) := by decide +kernel
theorem d_PW_compile_14 : decode q_mPW_compile.1 14 = .ok (.ldc 58, 2) := by decide +kernel
theorem d_PW_compile_16 : decode q_mPW_compile.1 16 = .ok (.invokespecial 60, 3) := by decide +kernel
theorem d_PW_compile_19 : decode q_mPW_compile.1 19 = .ok (.athrow, 1) := by decide +kernel
theorem d_PW_compile_20 : decode q_mPW_compile.1 20 = .ok (.aload_n 0, 1) := by decide +kernel
theorem d_PW_compile_21 : decode q_mPW_compile.1 21 = .ok (.getfield 32, 3) := by decide +kernel
theorem d_PW_compile_24 : decode q_mPW_compile.1 24 = .ok (.aload_n 0, 1) := by decide +kernel
theorem d_PW_compile_25 : decode q_mPW_compile.1 25 = .ok (.getfield 13, 3) := by decide +kernel
theorem d_PW_compile_28 : decode q_mPW_compile.1 28 = .ok (.invokevirtual 63, 3) := by decide +kernel
theorem d_PW_compile_31 : decode q_mPW_compile.1 31 = .ok (.astore_n 1, 1) := by decide +kernel
theorem d_PW_compile_32 : decode q_mPW_compile.1 32 = .ok (.aload_n 0, 1) := by decide +kernel
theorem d_PW_compile_33 : decode q_mPW_compile.1 33 = .ok (.aload_n 0, 1) := by decide +kernel
theorem d_PW_compile_34 : decode q_mPW_compile.1 34 = .ok (.getfield 32, 3) := by decide +kernel
theorem d_PW_compile_37 : decode q_mPW_compile.1 37 = .ok (.getfield 67, 3) := by decide +kernel
theorem d_PW_compile_40 : decode q_mPW_compile.1 40 = .ok (.putfield 17, 3) := by decide +kernel
theorem d_PW_compile_43 : decode q_mPW_compile.1 43 = .ok (.aload_n 0, 1) := by decide +kernel
theorem d_PW_compile_44 : decode q_mPW_compile.1 44 = .ok (.getfield 17, 3) := by decide +kernel
theorem d_PW_compile_47 : decode q_mPW_compile.1 47 = .ok (.iconst (-1), 1) := by decide +kernel
theorem d_PW_compile_48 : decode q_mPW_compile.1 48 = .ok (.if_icmp .eq 13, 3) := by decide +kernel
theorem d_PW_compile_51 : decode q_mPW_compile.1 51 = .ok (.new 70, 3) := by decide +kernel
theorem d_PW_compile_54 : decode q_mPW_compile.1 54 = .ok (.dup, 1) := by decide +kernel
theorem d_PW_compile_55 : decode q_mPW_compile.1 55 = .ok (.ldc 72, 2) := by decide +kernel
theorem d_PW_compile_57 : decode q_mPW_compile.1 57 = .ok (.invokespecial 74, 3) := by decide +kernel
theorem d_PW_compile_60 : decode q_mPW_compile.1 60 = .ok (.athrow, 1) := by decide +kernel
theorem d_PW_compile_61 : decode q_mPW_compile.1 61 = .ok (.aload_n 1, 1) := by decide +kernel
theorem d_PW_compile_62 : decode q_mPW_compile.1 62 = .ok (.invokevirtual 75, 3) := by decide +kernel
theorem d_PW_compile_65 : decode q_mPW_compile.1 65 = .ok (.iconst 3, 1) := by decide +kernel
theorem d_PW_compile_66 : decode q_mPW_compile.1 66 = .ok (.iadd, 1) := by decide +kernel
theorem d_PW_compile_67 : decode q_mPW_compile.1 67 = .ok (.sipush 160, 3) := by decide +kernel
theorem d_PW_compile_70 : decode q_mPW_compile.1 70 = .ok (.if_icmp .le 13, 3) := by decide +kernel
theorem d_PW_compile_73 : decode q_mPW_compile.1 73 = .ok (.new 56, 3) := by decide +kernel
theorem d_PW_compile_76 : decode q_mPW_compile.1 76 = .ok (.dup, 1) := by decide +kernel
theorem d_PW_compile_77 : decode q_mPW_compile.1 77 = .ok (.ldc 81, 2) := by decide +kernel
theorem d_PW_compile_79 : decode q_mPW_compile.1 79 = .ok (.invokespecial 60, 3) := by decide +kernel
theorem d_PW_compile_82 : decode q_mPW_compile.1 82 = .ok (.athrow, 1) := by decide +kernel
theorem d_PW_compile_83 : decode q_mPW_compile.1 83 = .ok (.aload_n 0, 1) := by decide +kernel
theorem d_PW_compile_84 : decode q_mPW_compile.1 84 = .ok (.getfield 39, 3) := by decide +kernel
theorem d_PW_compile_87 : decode q_mPW_compile.1 87 = .ok (.aload_n 1, 1) := by decide +kernel
theorem d_PW_compile_88 : decode q_mPW_compile.1 88 = .ok (.aload_n 0, 1) := by decide +kernel
theorem d_PW_compile_89 : decode q_mPW_compile.1 89 = .ok (.getfield 32, 3) := by decide +kernel
theorem d_PW_compile_92 : decode q_mPW_compile.1 92 = .ok (.getfield 83, 3) := by decide +kernel
theorem d_PW_compile_95 : decode q_mPW_compile.1 95 = .ok (.invokevirtual 86, 3) := by decide +kernel
theorem d_PW_compile_98 : decode q_mPW_compile.1 98 = .ok (.aload_n 0, 1) := by decide +kernel
theorem d_PW_compile_99 : decode q_mPW_compile.1 99 = .ok (.getfield 39, 3) := by decide +kernel
theorem d_PW_compile_102 : decode q_mPW_compile.1 102 = .ok (.getfield 90, 3) := by decide +kernel
theorem d_PW_compile_105 : decode q_mPW_compile.1 105 = .ok (.ireturn, 1) := by decide +kernel
theorem d_Cs_init_0 : decode q_mCs_init.1 0 = .ok (.aload_n 0, 1) := by decide +kernel
theorem d_Cs_init_1 : decode q_mCs_init.1 1 = .ok (.invokespecial 3, 3) := by decide +kernel
theorem d_Cs_init_4 : decode q_mCs_init.1 4 = .ok (.aload_n 0, 1) := by decide +kernel
theorem d_Cs_init_5 : decode q_mCs_init.1 5 = .ok (.sipush 192, 3) := by decide +kernel
theorem d_Cs_init_8 : decode q_mCs_init.1 8 = .ok (.newarray .long, 2) := by decide +kernel
theorem d_Cs_init_10 : decode q_mCs_init.1 10 = .ok (.putfield 11, 3) := by decide +kernel
theorem d_Cs_init_13 : decode q_mCs_init.1 13 = .ok (.aload_n 0, 1) := by decide +kernel
theorem d_Cs_init_14 : decode q_mCs_init.1 14 = .ok (.iconst 0, 1) := by decide +kernel
theorem d_Cs_init_15 : decode q_mCs_init.1 15 = .ok (.putfield 15, 3) := by decide +kernel
theorem d_Cs_init_18 : decode q_mCs_init.1 18 = .ok (.return_, 1) := by decide +kernel
theorem d_Cs_count_0 : decode q_mCs_count.1 0 = .ok (.iconst 0, 1) := by decide +kernel
theorem d_Cs_count_1 : decode q_mCs_count.1 1 = .ok (.istore_n 2, 1) := by decide +kernel
theorem d_Cs_count_2 : decode q_mCs_count.1 2 = .ok (.iconst 0, 1) := by decide +kernel
theorem d_Cs_count_3 : decode q_mCs_count.1 3 = .ok (.istore_n 3, 1) := by decide +kernel
theorem d_Cs_count_4 : decode q_mCs_count.1 4 = .ok (.iload_n 3, 1) := by decide +kernel
theorem d_Cs_count_5 : decode q_mCs_count.1 5 = .ok (.iconst 4, 1) := by decide +kernel
theorem d_Cs_count_6 : decode q_mCs_count.1 6 = .ok (.if_icmp .ge 33, 3) := by decide +kernel
theorem d_Cs_count_9 : decode q_mCs_count.1 9 = .ok (.aload_n 0, 1) := by decide +kernel
theorem d_Cs_count_10 : decode q_mCs_count.1 10 = .ok (.iload_n 1, 1) := by decide +kernel
theorem d_Cs_count_11 : decode q_mCs_count.1 11 = .ok (.invokevirtual 25, 3) := by decide +kernel
theorem d_Cs_count_14 : decode q_mCs_count.1 14 = .ok (.ifCond .eq 25, 3) := by decide +kernel
theorem d_Cs_count_17 : decode q_mCs_count.1 17 = .ok (.iload_n 2, 1) := by decide +kernel
theorem d_Cs_count_18 : decode q_mCs_count.1 18 = .ok (.aload_n 0, 1) := by decide +kernel
theorem d_Cs_count_19 : decode q_mCs_count.1 19 = .ok (.getfield 11, 3) := by decide +kernel
theorem d_Cs_count_22 : decode q_mCs_count.1 22 = .ok (.iload_n 1, 1) := by decide +kernel
theorem d_Cs_count_23 : decode q_mCs_count.1 23 = .ok (.iconst 4, 1) := by decide +kernel
theorem d_Cs_count_24 : decode q_mCs_count.1 24 = .ok (.imul, 1) := by decide +kernel
theorem d_Cs_count_25 : decode q_mCs_count.1 25 = .ok (.iload_n 3, 1) := by decide +kernel
theorem d_Cs_count_26 : decode q_mCs_count.1 26 = .ok (.iadd, 1) := by decide +kernel
theorem d_Cs_count_27 : decode q_mCs_count.1 27 = .ok (.laload, 1) := by decide +kernel
theorem d_Cs_count_28 : decode q_mCs_count.1 28 = .ok (.invokestatic 37, 3) := by decide +kernel
theorem d_Cs_count_31 : decode q_mCs_count.1 31 = .ok (.iadd, 1) := by decide +kernel
theorem d_Cs_count_32 : decode q_mCs_count.1 32 = .ok (.istore_n 2, 1) := by decide +kernel
theorem d_Cs_count_33 : decode q_mCs_count.1 33 = .ok (.iinc 3 1, 3) := by decide +kernel
theorem d_Cs_count_36 : decode q_mCs_count.1 36 = .ok (.goto (-32), 3) := by decide +kernel
theorem d_Cs_count_39 : decode q_mCs_count.1 39 = .ok (.iload_n 2, 1) := by decide +kernel
theorem d_Cs_count_40 : decode q_mCs_count.1 40 = .ok (.ireturn, 1) := by decide +kernel
theorem d_Cs_isOpen_0 : decode q_mCs_isOpen.1 0 = .ok (.iload_n 1, 1) := by decide +kernel
theorem d_Cs_isOpen_1 : decode q_mCs_isOpen.1 1 = .ok (.ifCond .lt 21, 3) := by decide +kernel
theorem d_Cs_isOpen_4 : decode q_mCs_isOpen.1 4 = .ok (.iload_n 1, 1) := by decide +kernel
theorem d_Cs_isOpen_5 : decode q_mCs_isOpen.1 5 = .ok (.aload_n 0, 1) := by decide +kernel
theorem d_Cs_isOpen_6 : decode q_mCs_isOpen.1 6 = .ok (.getfield 15, 3) := by decide +kernel
theorem d_Cs_isOpen_9 : decode q_mCs_isOpen.1 9 = .ok (.if_icmp .ge 13, 3) := by decide +kernel
theorem d_Cs_isOpen_12 : decode q_mCs_isOpen.1 12 = .ok (.iload_n 1, 1) := by decide +kernel
theorem d_Cs_isOpen_13 : decode q_mCs_isOpen.1 13 = .ok (.bipush 48, 2) := by decide +kernel
theorem d_Cs_isOpen_15 : decode q_mCs_isOpen.1 15 = .ok (.if_icmp .ge 7, 3) := by decide +kernel
theorem d_Cs_isOpen_18 : decode q_mCs_isOpen.1 18 = .ok (.iconst 1, 1) := by decide +kernel
theorem d_Cs_isOpen_19 : decode q_mCs_isOpen.1 19 = .ok (.goto 4, 3) := by decide +kernel
theorem d_Cs_isOpen_22 : decode q_mCs_isOpen.1 22 = .ok (.iconst 0, 1) := by decide +kernel
theorem d_Cs_isOpen_23 : decode q_mCs_isOpen.1 23 = .ok (.ireturn, 1) := by decide +kernel
theorem d_Cs_has_0 : decode q_mCs_has.1 0 = .ok (.aload_n 0, 1) := by decide +kernel
theorem d_Cs_has_1 : decode q_mCs_has.1 1 = .ok (.iload_n 1, 1) := by decide +kernel
theorem d_Cs_has_2 : decode q_mCs_has.1 2 = .ok (.invokevirtual 25, 3) := by decide +kernel
theorem d_Cs_has_5 : decode q_mCs_has.1 5 = .ok (.ifCond .eq 14, 3) := by decide +kernel
theorem d_Cs_has_8 : decode q_mCs_has.1 8 = .ok (.iload_n 2, 1) := by decide +kernel
theorem d_Cs_has_9 : decode q_mCs_has.1 9 = .ok (.ifCond .lt 10, 3) := by decide +kernel
theorem d_Cs_has_12 : decode q_mCs_has.1 12 = .ok (.iload_n 2, 1) := by decide +kernel
theorem d_Cs_has_13 : decode q_mCs_has.1 13 = .ok (.sipush 256, 3) := by decide +kernel
theorem d_Cs_has_16 : decode q_mCs_has.1 16 = .ok (.if_icmp .lt 5, 3) := by decide +kernel
theorem d_Cs_has_19 : decode q_mCs_has.1 19 = .ok (.iconst 0, 1) := by decide +kernel
theorem d_Cs_has_20 : decode q_mCs_has.1 20 = .ok (.ireturn, 1) := by decide +kernel
theorem d_Cs_has_21 : decode q_mCs_has.1 21 = .ok (.aload_n 0, 1) := by decide +kernel
theorem d_Cs_has_22 : decode q_mCs_has.1 22 = .ok (.getfield 11, 3) := by decide +kernel
theorem d_Cs_has_25 : decode q_mCs_has.1 25 = .ok (.iload_n 1, 1) := by decide +kernel
theorem d_Cs_has_26 : decode q_mCs_has.1 26 = .ok (.iconst 4, 1) := by decide +kernel
theorem d_Cs_has_27 : decode q_mCs_has.1 27 = .ok (.imul, 1) := by decide +kernel
theorem d_Cs_has_28 : decode q_mCs_has.1 28 = .ok (.iload_n 2, 1) := by decide +kernel
theorem d_Cs_has_29 : decode q_mCs_has.1 29 = .ok (.bipush 6, 2) := by decide +kernel
theorem d_Cs_has_31 : decode q_mCs_has.1 31 = .ok (.ishr, 1) := by decide +kernel
theorem d_Cs_has_32 : decode q_mCs_has.1 32 = .ok (.iadd, 1) := by decide +kernel
theorem d_Cs_has_33 : decode q_mCs_has.1 33 = .ok (.laload, 1) := by decide +kernel
theorem d_Cs_has_34 : decode q_mCs_has.1 34 = .ok (.iload_n 2, 1) := by decide +kernel
theorem d_Cs_has_35 : decode q_mCs_has.1 35 = .ok (.bipush 63, 2) := by decide +kernel
theorem d_Cs_has_37 : decode q_mCs_has.1 37 = .ok (.iand, 1) := by decide +kernel
theorem d_Cs_has_38 : decode q_mCs_has.1 38 = .ok (.lshr, 1) := by decide +kernel
theorem d_Cs_has_39 : decode q_mCs_has.1 39 = .ok (.lconst 1, 1) := by decide +kernel
theorem d_Cs_has_40 : decode q_mCs_has.1 40 = .ok (.land, 1) := by decide +kernel
theorem d_Cs_has_41 : decode q_mCs_has.1 41 = .ok (.lconst 0, 1) := by decide +kernel
theorem d_Cs_has_42 : decode q_mCs_has.1 42 = .ok (.lcmp, 1) := by decide +kernel
theorem d_Cs_has_43 : decode q_mCs_has.1 43 = .ok (.ifCond .eq 7, 3) := by decide +kernel
theorem d_Cs_has_46 : decode q_mCs_has.1 46 = .ok (.iconst 1, 1) := by decide +kernel
theorem d_Cs_has_47 : decode q_mCs_has.1 47 = .ok (.goto 4, 3) := by decide +kernel
theorem d_Cs_has_50 : decode q_mCs_has.1 50 = .ok (.iconst 0, 1) := by decide +kernel
theorem d_Cs_has_51 : decode q_mCs_has.1 51 = .ok (.ireturn, 1) := by decide +kernel
theorem d_Cs_forgetAll_0 : decode q_mCs_forgetAll.1 0 = .ok (.aload_n 0, 1) := by decide +kernel
theorem d_Cs_forgetAll_1 : decode q_mCs_forgetAll.1 1 = .ok (.iconst 0, 1) := by decide +kernel
theorem d_Cs_forgetAll_2 : decode q_mCs_forgetAll.1 2 = .ok (.putfield 15, 3) := by decide +kernel
theorem d_Cs_forgetAll_5 : decode q_mCs_forgetAll.1 5 = .ok (.aload_n 0, 1) := by decide +kernel
theorem d_Cs_forgetAll_6 : decode q_mCs_forgetAll.1 6 = .ok (.getfield 11, 3) := by decide +kernel
theorem d_Cs_forgetAll_9 : decode q_mCs_forgetAll.1 9 = .ok (.lconst 0, 1) := by decide +kernel
theorem d_Cs_forgetAll_10 : decode q_mCs_forgetAll.1 10 = .ok (.invokestatic 19, 3) := by decide +kernel
theorem d_Cs_forgetAll_13 : decode q_mCs_forgetAll.1 13 = .ok (.return_, 1) := by decide +kernel
theorem d_Cs_open_0 : decode q_mCs_open.1 0 = .ok (.aload_n 0, 1) := by decide +kernel
theorem d_Cs_open_1 : decode q_mCs_open.1 1 = .ok (.getfield 15, 3) := by decide +kernel
theorem d_Cs_open_4 : decode q_mCs_open.1 4 = .ok (.bipush 48, 2) := by decide +kernel
theorem d_Cs_open_6 : decode q_mCs_open.1 6 = .ok (.if_icmp .lt 5, 3) := by decide +kernel
theorem d_Cs_open_9 : decode q_mCs_open.1 9 = .ok (.iconst (-1), 1) := by decide +kernel
theorem d_Cs_open_10 : decode q_mCs_open.1 10 = .ok (.ireturn, 1) := by decide +kernel
theorem d_Cs_open_11 : decode q_mCs_open.1 11 = .ok (.aload_n 0, 1) := by decide +kernel
theorem d_Cs_open_12 : decode q_mCs_open.1 12 = .ok (.dup, 1) := by decide +kernel
theorem d_Cs_open_13 : decode q_mCs_open.1 13 = .ok (.getfield 15, 3) := by decide +kernel
theorem d_Cs_open_16 : decode q_mCs_open.1 16 = .ok (.iconst 1, 1) := by decide +kernel
theorem d_Cs_open_17 : decode q_mCs_open.1 17 = .ok (.iadd, 1) := by decide +kernel
theorem d_Cs_open_18 : decode q_mCs_open.1 18 = .ok (.putfield 15, 3) := by decide +kernel
theorem d_Cs_open_21 : decode q_mCs_open.1 21 = .ok (.aload_n 0, 1) := by decide +kernel
theorem d_Cs_open_22 : decode q_mCs_open.1 22 = .ok (.getfield 15, 3) := by decide +kernel
theorem d_Cs_open_25 : decode q_mCs_open.1 25 = .ok (.iconst 1, 1) := by decide +kernel
theorem d_Cs_open_26 : decode q_mCs_open.1 26 = .ok (.isub, 1) := by decide +kernel
theorem d_Cs_open_27 : decode q_mCs_open.1 27 = .ok (.ireturn, 1) := by decide +kernel
theorem d_Cs_addRange_0 : decode q_mCs_addRange.1 0 = .ok (.aload_n 0, 1) := by decide +kernel
theorem d_Cs_addRange_1 : decode q_mCs_addRange.1 1 = .ok (.iload_n 1, 1) := by decide +kernel
theorem d_Cs_addRange_2 : decode q_mCs_addRange.1 2 = .ok (.invokevirtual 25, 3) := by decide +kernel
theorem d_Cs_addRange_5 : decode q_mCs_addRange.1 5 = .ok (.ifCond .ne 4, 3) := by decide +kernel
theorem d_Cs_addRange_8 : decode q_mCs_addRange.1 8 = .ok (.return_, 1) := by decide +kernel
theorem d_Cs_addRange_9 : decode q_mCs_addRange.1 9 = .ok (.iload_n 2, 1) := by decide +kernel
theorem d_Cs_addRange_10 : decode q_mCs_addRange.1 10 = .ok (.iconst 0, 1) := by decide +kernel
theorem d_Cs_addRange_11 : decode q_mCs_addRange.1 11 = .ok (.invokestatic 29, 3) := by decide +kernel
theorem d_Cs_addRange_14 : decode q_mCs_addRange.1 14 = .ok (.istore 4, 2) := by decide +kernel
theorem d_Cs_addRange_16 : decode q_mCs_addRange.1 16 = .ok (.iload 4, 2) := by decide +kernel
theorem d_Cs_addRange_18 : decode q_mCs_addRange.1 18 = .ok (.iload_n 3, 1) := by decide +kernel
theorem d_Cs_addRange_19 : decode q_mCs_addRange.1 19 = .ok (.if_icmp .gt 41, 3) := by decide +kernel
theorem d_Cs_addRange_22 : decode q_mCs_addRange.1 22 = .ok (.iload 4, 2) := by decide +kernel
theorem d_Cs_addRange_24 : decode q_mCs_addRange.1 24 = .ok (.sipush 256, 3) := by decide +kernel
theorem d_Cs_addRange_27 : decode q_mCs_addRange.1 27 = .ok (.if_icmp .ge 33, 3) := by decide +kernel
theorem d_Cs_addRange_30 : decode q_mCs_addRange.1 30 = .ok (.aload_n 0, 1) := by decide +kernel
theorem d_Cs_addRange_31 : decode q_mCs_addRange.1 31 = .ok (.getfield 11, 3) := by decide +kernel
theorem d_Cs_addRange_34 : decode q_mCs_addRange.1 34 = .ok (.iload_n 1, 1) := by decide +kernel
theorem d_Cs_addRange_35 : decode q_mCs_addRange.1 35 = .ok (.iconst 4, 1) := by decide +kernel
theorem d_Cs_addRange_36 : decode q_mCs_addRange.1 36 = .ok (.imul, 1) := by decide +kernel
theorem d_Cs_addRange_37 : decode q_mCs_addRange.1 37 = .ok (.iload 4, 2) := by decide +kernel
theorem d_Cs_addRange_39 : decode q_mCs_addRange.1 39 = .ok (.bipush 6, 2) := by decide +kernel
theorem d_Cs_addRange_41 : decode q_mCs_addRange.1 41 = .ok (.ishr, 1) := by decide +kernel
theorem d_Cs_addRange_42 : decode q_mCs_addRange.1 42 = .ok (.iadd, 1) := by decide +kernel
theorem d_Cs_addRange_43 : decode q_mCs_addRange.1 43 = .ok (.dup2, 1) := by decide +kernel
theorem d_Cs_addRange_44 : decode q_mCs_addRange.1 44 = .ok (.laload, 1) := by decide +kernel
theorem d_Cs_addRange_45 : decode q_mCs_addRange.1 45 = .ok (.lconst 1, 1) := by decide +kernel
theorem d_Cs_addRange_46 : decode q_mCs_addRange.1 46 = .ok (.iload 4, 2) := by decide +kernel
theorem d_Cs_addRange_48 : decode q_mCs_addRange.1 48 = .ok (.bipush 63, 2) := by decide +kernel
theorem d_Cs_addRange_50 : decode q_mCs_addRange.1 50 = .ok (.iand, 1) := by decide +kernel
theorem d_Cs_addRange_51 : decode q_mCs_addRange.1 51 = .ok (.lshl, 1) := by decide +kernel
theorem d_Cs_addRange_52 : decode q_mCs_addRange.1 52 = .ok (.lor, 1) := by decide +kernel
theorem d_Cs_addRange_53 : decode q_mCs_addRange.1 53 = .ok (.lastore, 1) := by decide +kernel
theorem d_Cs_addRange_54 : decode q_mCs_addRange.1 54 = .ok (.iinc 4 1, 3) := by decide +kernel
theorem d_Cs_addRange_57 : decode q_mCs_addRange.1 57 = .ok (.goto (-41), 3) := by decide +kernel
theorem d_Cs_addRange_60 : decode q_mCs_addRange.1 60 = .ok (.return_, 1) := by decide +kernel
theorem d_Cs_invert_0 : decode q_mCs_invert.1 0 = .ok (.aload_n 0, 1) := by decide +kernel
theorem d_Cs_invert_1 : decode q_mCs_invert.1 1 = .ok (.iload_n 1, 1) := by decide +kernel
theorem d_Cs_invert_2 : decode q_mCs_invert.1 2 = .ok (.invokevirtual 25, 3) := by decide +kernel
theorem d_Cs_invert_5 : decode q_mCs_invert.1 5 = .ok (.ifCond .ne 4, 3) := by decide +kernel
theorem d_Cs_invert_8 : decode q_mCs_invert.1 8 = .ok (.return_, 1) := by decide +kernel
theorem d_Cs_invert_9 : decode q_mCs_invert.1 9 = .ok (.iconst 0, 1) := by decide +kernel
theorem d_Cs_invert_10 : decode q_mCs_invert.1 10 = .ok (.istore_n 2, 1) := by decide +kernel
theorem d_Cs_invert_11 : decode q_mCs_invert.1 11 = .ok (.iload_n 2, 1) := by decide +kernel
theorem d_Cs_invert_12 : decode q_mCs_invert.1 12 = .ok (.iconst 4, 1) := by decide +kernel
theorem d_Cs_invert_13 : decode q_mCs_invert.1 13 = .ok (.if_icmp .ge 33, 3) := by decide +kernel
theorem d_Cs_invert_16 : decode q_mCs_invert.1 16 = .ok (.aload_n 0, 1) := by decide +kernel
theorem d_Cs_invert_17 : decode q_mCs_invert.1 17 = .ok (.getfield 11, 3) := by decide +kernel
theorem d_Cs_invert_20 : decode q_mCs_invert.1 20 = .ok (.iload_n 1, 1) := by decide +kernel
theorem d_Cs_invert_21 : decode q_mCs_invert.1 21 = .ok (.iconst 4, 1) := by decide +kernel
theorem d_Cs_invert_22 : decode q_mCs_invert.1 22 = .ok (.imul, 1) := by decide +kernel
theorem d_Cs_invert_23 : decode q_mCs_invert.1 23 = .ok (.iload_n 2, 1) := by decide +kernel
theorem d_Cs_invert_24 : decode q_mCs_invert.1 24 = .ok (.iadd, 1) := by decide +kernel
theorem d_Cs_invert_25 : decode q_mCs_invert.1 25 = .ok (.aload_n 0, 1) := by decide +kernel
theorem d_Cs_invert_26 : decode q_mCs_invert.1 26 = .ok (.getfield 11, 3) := by decide +kernel
theorem d_Cs_invert_29 : decode q_mCs_invert.1 29 = .ok (.iload_n 1, 1) := by decide +kernel
theorem d_Cs_invert_30 : decode q_mCs_invert.1 30 = .ok (.iconst 4, 1) := by decide +kernel
theorem d_Cs_invert_31 : decode q_mCs_invert.1 31 = .ok (.imul, 1) := by decide +kernel
theorem d_Cs_invert_32 : decode q_mCs_invert.1 32 = .ok (.iload_n 2, 1) := by decide +kernel
theorem d_Cs_invert_33 : decode q_mCs_invert.1 33 = .ok (.iadd, 1) := by decide +kernel
theorem d_Cs_invert_34 : decode q_mCs_invert.1 34 = .ok (.laload, 1) := by decide +kernel
theorem d_Cs_invert_35 : decode q_mCs_invert.1 35 = .ok (.ldc2_w 35, 3) := by decide +kernel
theorem d_Cs_invert_38 : decode q_mCs_invert.1 38 = .ok (.lxor, 1) := by decide +kernel
theorem d_Cs_invert_39 : decode q_mCs_invert.1 39 = .ok (.lastore, 1) := by decide +kernel
theorem d_Cs_invert_40 : decode q_mCs_invert.1 40 = .ok (.iinc 2 1, 3) := by decide +kernel
theorem d_Cs_invert_43 : decode q_mCs_invert.1 43 = .ok (.goto (-32), 3) := by decide +kernel
theorem d_Cs_invert_46 : decode q_mCs_invert.1 46 = .ok (.return_, 1) := by decide +kernel
theorem d_Pa_init_0 : decode q_mPa_init.1 0 = .ok (.aload_n 0, 1) := by decide +kernel
theorem d_Pa_init_1 : decode q_mPa_init.1 1 = .ok (.invokespecial 3, 3) := by decide +kernel
theorem d_Pa_init_4 : decode q_mPa_init.1 4 = .ok (.aload_n 0, 1) := by decide +kernel
theorem d_Pa_init_5 : decode q_mPa_init.1 5 = .ok (.iconst 0, 1) := by decide +kernel
theorem d_Pa_init_6 : decode q_mPa_init.1 6 = .ok (.putfield 9, 3) := by decide +kernel
theorem d_Pa_init_9 : decode q_mPa_init.1 9 = .ok (.aload_n 0, 1) := by decide +kernel
theorem d_Pa_init_10 : decode q_mPa_init.1 10 = .ok (.iconst 0, 1) := by decide +kernel
theorem d_Pa_init_11 : decode q_mPa_init.1 11 = .ok (.putfield 15, 3) := by decide +kernel
theorem d_Pa_init_14 : decode q_mPa_init.1 14 = .ok (.aload_n 0, 1) := by decide +kernel
theorem d_Pa_init_15 : decode q_mPa_init.1 15 = .ok (.iconst 0, 1) := by decide +kernel
theorem d_Pa_init_16 : decode q_mPa_init.1 16 = .ok (.putfield 18, 3) := by decide +kernel
theorem d_Pa_init_19 : decode q_mPa_init.1 19 = .ok (.aload_n 0, 1) := by decide +kernel
theorem d_Pa_init_20 : decode q_mPa_init.1 20 = .ok (.iconst (-1), 1) := by decide +kernel
theorem d_Pa_init_21 : decode q_mPa_init.1 21 = .ok (.putfield 21, 3) := by decide +kernel
theorem d_Pa_init_24 : decode q_mPa_init.1 24 = .ok (.aload_n 0, 1) := by decide +kernel
theorem d_Pa_init_25 : decode q_mPa_init.1 25 = .ok (.aload_n 1, 1) := by decide +kernel
theorem d_Pa_init_26 : decode q_mPa_init.1 26 = .ok (.putfield 24, 3) := by decide +kernel
theorem d_Pa_init_29 : decode q_mPa_init.1 29 = .ok (.aload_n 0, 1) := by decide +kernel
theorem d_Pa_init_30 : decode q_mPa_init.1 30 = .ok (.aload_n 2, 1) := by decide +kernel
theorem d_Pa_init_31 : decode q_mPa_init.1 31 = .ok (.putfield 28, 3) := by decide +kernel
theorem d_Pa_init_34 : decode q_mPa_init.1 34 = .ok (.return_, 1) := by decide +kernel
theorem d_Pa_parse_0 : decode q_mPa_parse.1 0 = .ok (.aload_n 0, 1) := by decide +kernel
theorem d_Pa_parse_1 : decode q_mPa_parse.1 1 = .ok (.iload_n 1, 1) := by decide +kernel
theorem d_Pa_parse_2 : decode q_mPa_parse.1 2 = .ok (.aload_n 0, 1) := by decide +kernel
theorem d_Pa_parse_3 : decode q_mPa_parse.1 3 = .ok (.getfield 24, 3) := by decide +kernel
theorem d_Pa_parse_6 : decode q_mPa_parse.1 6 = .ok (.arraylength, 1) := by decide +kernel
theorem d_Pa_parse_7 : decode q_mPa_parse.1 7 = .ok (.invokestatic 32, 3) := by decide +kernel
theorem d_Pa_parse_10 : decode q_mPa_parse.1 10 = .ok (.putfield 9, 3) := by decide +kernel
theorem d_Pa_parse_13 : decode q_mPa_parse.1 13 = .ok (.aload_n 0, 1) := by decide +kernel
theorem d_Pa_parse_14 : decode q_mPa_parse.1 14 = .ok (.iconst 0, 1) := by decide +kernel
theorem d_Pa_parse_15 : decode q_mPa_parse.1 15 = .ok (.putfield 15, 3) := by decide +kernel
theorem d_Pa_parse_18 : decode q_mPa_parse.1 18 = .ok (.aload_n 0, 1) := by decide +kernel
theorem d_Pa_parse_19 : decode q_mPa_parse.1 19 = .ok (.iconst 0, 1) := by decide +kernel
theorem d_Pa_parse_20 : decode q_mPa_parse.1 20 = .ok (.putfield 18, 3) := by decide +kernel
theorem d_Pa_parse_23 : decode q_mPa_parse.1 23 = .ok (.aload_n 0, 1) := by decide +kernel
theorem d_Pa_parse_24 : decode q_mPa_parse.1 24 = .ok (.iconst (-1), 1) := by decide +kernel
theorem d_Pa_parse_25 : decode q_mPa_parse.1 25 = .ok (.putfield 21, 3) := by decide +kernel
theorem d_Pa_parse_28 : decode q_mPa_parse.1 28 = .ok (.aload_n 0, 1) := by decide +kernel
theorem d_Pa_parse_29 : decode q_mPa_parse.1 29 = .ok (.getfield 28, 3) := by decide +kernel
theorem d_Pa_parse_32 : decode q_mPa_parse.1 32 = .ok (.invokevirtual 38, 3) := by decide +kernel
theorem d_Pa_parse_35 : decode q_mPa_parse.1 35 = .ok (.aload_n 0, 1) := by decide +kernel
theorem d_Pa_parse_36 : decode q_mPa_parse.1 36 = .ok (.iconst 0, 1) := by decide +kernel
theorem d_Pa_parse_37 : decode q_mPa_parse.1 37 = .ok (.invokevirtual 43, 3) := by decide +kernel
theorem d_Pa_parse_40 : decode q_mPa_parse.1 40 = .ok (.astore_n 2, 1) := by decide +kernel
theorem d_Pa_parse_41 : decode q_mPa_parse.1 41 = .ok (.aload_n 0, 1) := by decide +kernel
theorem d_Pa_parse_42 : decode q_mPa_parse.1 42 = .ok (.getfield 15, 3) := by decide +kernel
theorem d_Pa_parse_45 : decode q_mPa_parse.1 45 = .ok (.aload_n 0, 1) := by decide +kernel
theorem d_Pa_parse_46 : decode q_mPa_parse.1 46 = .ok (.getfield 9, 3) := by decide +kernel
theorem d_Pa_parse_49 : decode q_mPa_parse.1 49 = .ok (.if_icmp .ge 7, 3) := by decide +kernel
theorem d_Pa_parse_52 : decode q_mPa_parse.1 52 = .ok (.aload_n 0, 1) := by decide +kernel
theorem d_Pa_parse_53 : decode q_mPa_parse.1 53 = .ok (.invokevirtual 47, 3) := by decide +kernel
theorem d_Pa_parse_56 : decode q_mPa_parse.1 56 = .ok (.aload_n 2, 1) := by decide +kernel
theorem d_Pa_parse_57 : decode q_mPa_parse.1 57 = .ok (.areturn, 1) := by decide +kernel
theorem d_Pa_readChoice_0 : decode q_mPa_readChoice.1 0 = .ok (.new 50, 3) := by decide +kernel
theorem d_Pa_readChoice_3 : decode q_mPa_readChoice.1 3 = .ok (.dup, 1) := by decide +kernel
theorem d_Pa_readChoice_4 : decode q_mPa_readChoice.1 4 = .ok (.invokespecial 52, 3) := by decide +kernel
theorem d_Pa_readChoice_7 : decode q_mPa_readChoice.1 7 = .ok (.astore_n 2, 1) := by decide +kernel
theorem d_Pa_readChoice_8 : decode q_mPa_readChoice.1 8 = .ok (.aload_n 2, 1) := by decide +kernel
theorem d_Pa_readChoice_9 : decode q_mPa_readChoice.1 9 = .ok (.astore_n 3, 1) := by decide +kernel
theorem d_Pa_readChoice_10 : decode q_mPa_readChoice.1 10 = .ok (.iconst 0, 1) := by decide +kernel
theorem d_Pa_readChoice_11 : decode q_mPa_readChoice.1 11 = .ok (.istore 4, 2) := by decide +kernel
theorem d_Pa_readChoice_13 : decode q_mPa_readChoice.1 13 = .ok (.iload 4, 2) := by decide +kernel
theorem d_Pa_readChoice_15 : decode q_mPa_readChoice.1 15 = .ok (.bipush 48, 2) := by decide +kernel
theorem d_Pa_readChoice_17 : decode q_mPa_readChoice.1 17 = .ok (.if_icmp .ge 84, 3) := by decide +kernel
theorem d_Pa_readChoice_20 : decode q_mPa_readChoice.1 20 = .ok (.aload_n 0, 1) := by decide +kernel
theorem d_Pa_readChoice_21 : decode q_mPa_readChoice.1 21 = .ok (.getfield 21, 3) := by decide +kernel
theorem d_Pa_readChoice_24 : decode q_mPa_readChoice.1 24 = .ok (.iconst (-1), 1) := by decide +kernel
theorem d_Pa_readChoice_25 : decode q_mPa_readChoice.1 25 = .ok (.if_icmp .ne 76, 3) := by decide +kernel
theorem d_Pa_readChoice_28 : decode q_mPa_readChoice.1 28 = .ok (.aload_n 0, 1) := by decide +kernel
theorem d_Pa_readChoice_29 : decode q_mPa_readChoice.1 29 = .ok (.invokevirtual 53, 3) := by decide +kernel
theorem d_Pa_readChoice_32 : decode q_mPa_readChoice.1 32 = .ok (.istore 5, 2) := by decide +kernel
theorem d_Pa_readChoice_34 : decode q_mPa_readChoice.1 34 = .ok (.iload 5, 2) := by decide +kernel
theorem d_Pa_readChoice_36 : decode q_mPa_readChoice.1 36 = .ok (.iconst (-1), 1) := by decide +kernel
theorem d_Pa_readChoice_37 : decode q_mPa_readChoice.1 37 = .ok (.if_icmp .eq 64, 3) := by decide +kernel
theorem d_Pa_readChoice_40 : decode q_mPa_readChoice.1 40 = .ok (.iload 5, 2) := by decide +kernel
theorem d_Pa_readChoice_42 : decode q_mPa_readChoice.1 42 = .ok (.bipush 41, 2) := by decide +kernel
theorem d_Pa_readChoice_44 : decode q_mPa_readChoice.1 44 = .ok (.if_icmp .ne 6, 3) := by decide +kernel
theorem d_Pa_readChoice_47 : decode q_mPa_readChoice.1 47 = .ok (.goto 54, 3) := by decide +kernel
theorem d_Pa_readChoice_50 : decode q_mPa_readChoice.1 50 = .ok (.iload 5, 2) := by decide +kernel
theorem d_Pa_readChoice_52 : decode q_mPa_readChoice.1 52 = .ok (.bipush 124, 2) := by decide +kernel
theorem d_Pa_readChoice_54 : decode q_mPa_readChoice.1 54 = .ok (.if_icmp .ne 32, 3) := by decide +kernel
theorem d_Pa_readChoice_57 : decode q_mPa_readChoice.1 57 = .ok (.aload_n 0, 1) := by decide +kernel
theorem d_Pa_readChoice_58 : decode q_mPa_readChoice.1 58 = .ok (.dup, 1) := by decide +kernel
theorem d_Pa_readChoice_59 : decode q_mPa_readChoice.1 59 = .ok (.getfield 15, 3) := by decide +kernel
theorem d_Pa_readChoice_62 : decode q_mPa_readChoice.1 62 = .ok (.iconst 1, 1) := by decide +kernel
theorem d_Pa_readChoice_63 : decode q_mPa_readChoice.1 63 = .ok (.iadd, 1) := by decide +kernel
theorem d_Pa_readChoice_64 : decode q_mPa_readChoice.1 64 = .ok (.putfield 15, 3) := by decide +kernel
theorem d_Pa_readChoice_67 : decode q_mPa_readChoice.1 67 = .ok (.aload_n 3, 1) := by decide +kernel
theorem d_Pa_readChoice_68 : decode q_mPa_readChoice.1 68 = .ok (.new 50, 3) := by decide +kernel
theorem d_Pa_readChoice_71 : decode q_mPa_readChoice.1 71 = .ok (.dup, 1) := by decide +kernel
theorem d_Pa_readChoice_72 : decode q_mPa_readChoice.1 72 = .ok (.invokespecial 52, 3) := by decide +kernel
theorem d_Pa_readChoice_75 : decode q_mPa_readChoice.1 75 = .ok (.putfield 57, 3) := by decide +kernel
theorem d_Pa_readChoice_78 : decode q_mPa_readChoice.1 78 = .ok (.aload_n 3, 1) := by decide +kernel
theorem d_Pa_readChoice_79 : decode q_mPa_readChoice.1 79 = .ok (.getfield 57, 3) := by decide +kernel
theorem d_Pa_readChoice_82 : decode q_mPa_readChoice.1 82 = .ok (.astore_n 3, 1) := by decide +kernel
theorem d_Pa_readChoice_83 : decode q_mPa_readChoice.1 83 = .ok (.goto 12, 3) := by decide +kernel
theorem d_Pa_readChoice_86 : decode q_mPa_readChoice.1 86 = .ok (.aload_n 3, 1) := by decide +kernel
theorem d_Pa_readChoice_87 : decode q_mPa_readChoice.1 87 = .ok (.aload_n 0, 1) := by decide +kernel
theorem d_Pa_readChoice_88 : decode q_mPa_readChoice.1 88 = .ok (.iload_n 1, 1) := by decide +kernel
theorem d_Pa_readChoice_89 : decode q_mPa_readChoice.1 89 = .ok (.invokevirtual 61, 3) := by decide +kernel
theorem d_Pa_readChoice_92 : decode q_mPa_readChoice.1 92 = .ok (.invokevirtual 65, 3) := by decide +kernel
theorem d_Pa_readChoice_95 : decode q_mPa_readChoice.1 95 = .ok (.iinc 4 1, 3) := by decide +kernel
theorem d_Pa_readChoice_98 : decode q_mPa_readChoice.1 98 = .ok (.goto (-85), 3) := by decide +kernel
theorem d_Pa_readChoice_101 : decode q_mPa_readChoice.1 101 = .ok (.aload_n 2, 1) := by decide +kernel
theorem d_Pa_readChoice_102 : decode q_mPa_readChoice.1 102 = .ok (.areturn, 1) := by decide +kernel
theorem d_Pa_peek_0 : decode q_mPa_peek.1 0 = .ok (.aload_n 0, 1) := by decide +kernel
theorem d_Pa_peek_1 : decode q_mPa_peek.1 1 = .ok (.getfield 15, 3) := by decide +kernel
theorem d_Pa_peek_4 : decode q_mPa_peek.1 4 = .ok (.ifCond .lt 38, 3) := by decide +kernel
theorem d_Pa_peek_7 : decode q_mPa_peek.1 7 = .ok (.aload_n 0, 1) := by decide +kernel
theorem d_Pa_peek_8 : decode q_mPa_peek.1 8 = .ok (.getfield 15, 3) := by decide +kernel
theorem d_Pa_peek_11 : decode q_mPa_peek.1 11 = .ok (.aload_n 0, 1) := by decide +kernel
theorem d_Pa_peek_12 : decode q_mPa_peek.1 12 = .ok (.getfield 9, 3) := by decide +kernel
theorem d_Pa_peek_15 : decode q_mPa_peek.1 15 = .ok (.if_icmp .ge 27, 3) := by decide +kernel
theorem d_Pa_peek_18 : decode q_mPa_peek.1 18 = .ok (.aload_n 0, 1) := by decide +kernel
theorem d_Pa_peek_19 : decode q_mPa_peek.1 19 = .ok (.getfield 15, 3) := by decide +kernel
theorem d_Pa_peek_22 : decode q_mPa_peek.1 22 = .ok (.aload_n 0, 1) := by decide +kernel
theorem d_Pa_peek_23 : decode q_mPa_peek.1 23 = .ok (.getfield 24, 3) := by decide +kernel
theorem d_Pa_peek_26 : decode q_mPa_peek.1 26 = .ok (.arraylength, 1) := by decide +kernel
theorem d_Pa_peek_27 : decode q_mPa_peek.1 27 = .ok (.if_icmp .ge 15, 3) := by decide +kernel
theorem d_Pa_peek_30 : decode q_mPa_peek.1 30 = .ok (.aload_n 0, 1) := by decide +kernel
theorem d_Pa_peek_31 : decode q_mPa_peek.1 31 = .ok (.getfield 24, 3) := by decide +kernel
theorem d_Pa_peek_34 : decode q_mPa_peek.1 34 = .ok (.aload_n 0, 1) := by decide +kernel
theorem d_Pa_peek_35 : decode q_mPa_peek.1 35 = .ok (.getfield 15, 3) := by decide +kernel
theorem d_Pa_peek_38 : decode q_mPa_peek.1 38 = .ok (.caload, 1) := by decide +kernel
theorem d_Pa_peek_39 : decode q_mPa_peek.1 39 = .ok (.goto 4, 3) := by decide +kernel
theorem d_Pa_peek_42 : decode q_mPa_peek.1 42 = .ok (.iconst (-1), 1) := by decide +kernel
theorem d_Pa_peek_43 : decode q_mPa_peek.1 43 = .ok (.ireturn, 1) := by decide +kernel
theorem d_Pa_readRepeat_0 : decode q_mPa_readRepeat.1 0 = .ok (.new 69, 3) := by decide +kernel
theorem d_Pa_readRepeat_3 : decode q_mPa_readRepeat.1 3 = .ok (.dup, 1) := by decide +kernel
theorem d_Pa_readRepeat_4 : decode q_mPa_readRepeat.1 4 = .ok (.invokespecial 71, 3) := by decide +kernel
theorem d_Pa_readRepeat_7 : decode q_mPa_readRepeat.1 7 = .ok (.astore_n 2, 1) := by decide +kernel
theorem d_Pa_readRepeat_8 : decode q_mPa_readRepeat.1 8 = .ok (.aload_n 0, 1) := by decide +kernel
theorem d_Pa_readRepeat_9 : decode q_mPa_readRepeat.1 9 = .ok (.invokevirtual 53, 3) := by decide +kernel
theorem d_Pa_readRepeat_12 : decode q_mPa_readRepeat.1 12 = .ok (.bipush 40, 2) := by decide +kernel
theorem d_Pa_readRepeat_14 : decode q_mPa_readRepeat.1 14 = .ok (.if_icmp .ne 12, 3) := by decide +kernel
theorem d_Pa_readRepeat_17 : decode q_mPa_readRepeat.1 17 = .ok (.aload_n 0, 1) := by decide +kernel
theorem d_Pa_readRepeat_18 : decode q_mPa_readRepeat.1 18 = .ok (.aload_n 2, 1) := by decide +kernel
theorem d_Pa_readRepeat_19 : decode q_mPa_readRepeat.1 19 = .ok (.iload_n 1, 1) := by decide +kernel
theorem d_Pa_readRepeat_20 : decode q_mPa_readRepeat.1 20 = .ok (.invokevirtual 72, 3) := by decide +kernel
theorem d_Pa_readRepeat_23 : decode q_mPa_readRepeat.1 23 = .ok (.goto 22, 3) := by decide +kernel
theorem d_Pa_readRepeat_26 : decode q_mPa_readRepeat.1 26 = .ok (.aload_n 2, 1) := by decide +kernel
theorem d_Pa_readRepeat_27 : decode q_mPa_readRepeat.1 27 = .ok (.aload_n 0, 1) := by decide +kernel
theorem d_Pa_readRepeat_28 : decode q_mPa_readRepeat.1 28 = .ok (.getfield 28, 3) := by decide +kernel
theorem d_Pa_readRepeat_31 : decode q_mPa_readRepeat.1 31 = .ok (.invokevirtual 76, 3) := by decide +kernel
theorem d_Pa_readRepeat_34 : decode q_mPa_readRepeat.1 34 = .ok (.putfield 79, 3) := by decide +kernel
theorem d_Pa_readRepeat_37 : decode q_mPa_readRepeat.1 37 = .ok (.aload_n 0, 1) := by decide +kernel
theorem d_Pa_readRepeat_38 : decode q_mPa_readRepeat.1 38 = .ok (.aload_n 2, 1) := by decide +kernel
theorem d_Pa_readRepeat_39 : decode q_mPa_readRepeat.1 39 = .ok (.getfield 79, 3) := by decide +kernel
theorem d_Pa_readRepeat_42 : decode q_mPa_readRepeat.1 42 = .ok (.invokevirtual 82, 3) := by decide +kernel
theorem d_Pa_readRepeat_45 : decode q_mPa_readRepeat.1 45 = .ok (.aload_n 0, 1) := by decide +kernel
theorem d_Pa_readRepeat_46 : decode q_mPa_readRepeat.1 46 = .ok (.getfield 21, 3) := by decide +kernel
theorem d_Pa_readRepeat_49 : decode q_mPa_readRepeat.1 49 = .ok (.iconst (-1), 1) := by decide +kernel
theorem d_Pa_readRepeat_50 : decode q_mPa_readRepeat.1 50 = .ok (.if_icmp .ne 8, 3) := by decide +kernel
theorem d_Pa_readRepeat_53 : decode q_mPa_readRepeat.1 53 = .ok (.aload_n 0, 1) := by decide +kernel
theorem d_Pa_readRepeat_54 : decode q_mPa_readRepeat.1 54 = .ok (.aload_n 2, 1) := by decide +kernel
theorem d_Pa_readRepeat_55 : decode q_mPa_readRepeat.1 55 = .ok (.invokevirtual 86, 3) := by decide +kernel
theorem d_Pa_readRepeat_58 : decode q_mPa_readRepeat.1 58 = .ok (.aload_n 2, 1) := by decide +kernel
theorem d_Pa_readRepeat_59 : decode q_mPa_readRepeat.1 59 = .ok (.areturn, 1) := by decide +kernel
theorem d_Pa_readGroup_0 : decode q_mPa_readGroup.1 0 = .ok (.iload_n 2, 1) := by decide +kernel
theorem d_Pa_readGroup_1 : decode q_mPa_readGroup.1 1 = .ok (.bipush 8, 2) := by decide +kernel
theorem d_Pa_readGroup_3 : decode q_mPa_readGroup.1 3 = .ok (.if_icmp .lt 8, 3) := by decide +kernel
theorem d_Pa_readGroup_6 : decode q_mPa_readGroup.1 6 = .ok (.aload_n 0, 1) := by decide +kernel
theorem d_Pa_readGroup_7 : decode q_mPa_readGroup.1 7 = .ok (.invokevirtual 47, 3) := by decide +kernel
theorem d_Pa_readGroup_10 : decode q_mPa_readGroup.1 10 = .ok (.return_, 1) := by decide +kernel
theorem d_Pa_readGroup_11 : decode q_mPa_readGroup.1 11 = .ok (.aload_n 0, 1) := by decide +kernel
theorem d_Pa_readGroup_12 : decode q_mPa_readGroup.1 12 = .ok (.dup, 1) := by decide +kernel
theorem d_Pa_readGroup_13 : decode q_mPa_readGroup.1 13 = .ok (.getfield 15, 3) := by decide +kernel
theorem d_Pa_readGroup_16 : decode q_mPa_readGroup.1 16 = .ok (.iconst 1, 1) := by decide +kernel
theorem d_Pa_readGroup_17 : decode q_mPa_readGroup.1 17 = .ok (.iadd, 1) := by decide +kernel
theorem d_Pa_readGroup_18 : decode q_mPa_readGroup.1 18 = .ok (.putfield 15, 3) := by decide +kernel
theorem d_Pa_readGroup_21 : decode q_mPa_readGroup.1 21 = .ok (.aload_n 0, 1) := by decide +kernel
theorem d_Pa_readGroup_22 : decode q_mPa_readGroup.1 22 = .ok (.invokevirtual 53, 3) := by decide +kernel
theorem d_Pa_readGroup_25 : decode q_mPa_readGroup.1 25 = .ok (.bipush 63, 2) := by decide +kernel
theorem d_Pa_readGroup_27 : decode q_mPa_readGroup.1 27 = .ok (.if_icmp .ne 22, 3) := by decide +kernel
theorem d_Pa_readGroup_30 : decode q_mPa_readGroup.1 30 = .ok (.aload_n 0, 1) := by decide +kernel
theorem d_Pa_readGroup_31 : decode q_mPa_readGroup.1 31 = .ok (.dup, 1) := by decide +kernel
theorem d_Pa_readGroup_32 : decode q_mPa_readGroup.1 32 = .ok (.getfield 15, 3) := by decide +kernel
theorem d_Pa_readGroup_35 : decode q_mPa_readGroup.1 35 = .ok (.iconst 1, 1) := by decide +kernel
theorem d_Pa_readGroup_36 : decode q_mPa_readGroup.1 36 = .ok (.iadd, 1) := by decide +kernel
theorem d_Pa_readGroup_37 : decode q_mPa_readGroup.1 37 = .ok (.putfield 15, 3) := by decide +kernel
theorem d_Pa_readGroup_40 : decode q_mPa_readGroup.1 40 = .ok (.aload_n 0, 1) := by decide +kernel
theorem d_Pa_readGroup_41 : decode q_mPa_readGroup.1 41 = .ok (.bipush 58, 2) := by decide +kernel
theorem d_Pa_readGroup_43 : decode q_mPa_readGroup.1 43 = .ok (.invokevirtual 89, 3) := by decide +kernel
theorem d_Pa_readGroup_46 : decode q_mPa_readGroup.1 46 = .ok (.goto 37, 3) := by decide +kernel
theorem d_Pa_readGroup_49 : decode q_mPa_readGroup.1 49 = .ok (.aload_n 0, 1) := by decide +kernel
theorem d_Pa_readGroup_50 : decode q_mPa_readGroup.1 50 = .ok (.getfield 18, 3) := by decide +kernel
theorem d_Pa_readGroup_53 : decode q_mPa_readGroup.1 53 = .ok (.bipush 6, 2) := by decide +kernel
theorem d_Pa_readGroup_55 : decode q_mPa_readGroup.1 55 = .ok (.if_icmp .lt 10, 3) := by decide +kernel
theorem d_Pa_readGroup_58 : decode q_mPa_readGroup.1 58 = .ok (.aload_n 0, 1) := by decide +kernel
theorem d_Pa_readGroup_59 : decode q_mPa_readGroup.1 59 = .ok (.invokevirtual 47, 3) := by decide +kernel
theorem d_Pa_readGroup_62 : decode q_mPa_readGroup.1 62 = .ok (.goto 21, 3) := by decide +kernel
theorem d_Pa_readGroup_65 : decode q_mPa_readGroup.1 65 = .ok (.aload_n 0, 1) := by decide +kernel
theorem d_Pa_readGroup_66 : decode q_mPa_readGroup.1 66 = .ok (.dup, 1) := by decide +kernel
theorem d_Pa_readGroup_67 : decode q_mPa_readGroup.1 67 = .ok (.getfield 18, 3) := by decide +kernel
theorem d_Pa_readGroup_70 : decode q_mPa_readGroup.1 70 = .ok (.iconst 1, 1) := by decide +kernel
theorem d_Pa_readGroup_71 : decode q_mPa_readGroup.1 71 = .ok (.iadd, 1) := by decide +kernel
theorem d_Pa_readGroup_72 : decode q_mPa_readGroup.1 72 = .ok (.putfield 18, 3) := by decide +kernel
theorem d_Pa_readGroup_75 : decode q_mPa_readGroup.1 75 = .ok (.aload_n 1, 1) := by decide +kernel
theorem d_Pa_readGroup_76 : decode q_mPa_readGroup.1 76 = .ok (.aload_n 0, 1) := by decide +kernel
theorem d_Pa_readGroup_77 : decode q_mPa_readGroup.1 77 = .ok (.getfield 18, 3) := by decide +kernel
theorem d_Pa_readGroup_80 : decode q_mPa_readGroup.1 80 = .ok (.putfield 92, 3) := by decide +kernel
theorem d_Pa_readGroup_83 : decode q_mPa_readGroup.1 83 = .ok (.aload_n 0, 1) := by decide +kernel
theorem d_Pa_readGroup_84 : decode q_mPa_readGroup.1 84 = .ok (.getfield 21, 3) := by decide +kernel
theorem d_Pa_readGroup_87 : decode q_mPa_readGroup.1 87 = .ok (.iconst (-1), 1) := by decide +kernel
theorem d_Pa_readGroup_88 : decode q_mPa_readGroup.1 88 = .ok (.if_icmp .eq 4, 3) := by decide +kernel
theorem d_Pa_readGroup_91 : decode q_mPa_readGroup.1 91 = .ok (.return_, 1) := by decide +kernel
theorem d_Pa_readGroup_92 : decode q_mPa_readGroup.1 92 = .ok (.aload_n 0, 1) := by decide +kernel
theorem d_Pa_readGroup_93 : decode q_mPa_readGroup.1 93 = .ok (.iload_n 2, 1) := by decide +kernel
theorem d_Pa_readGroup_94 : decode q_mPa_readGroup.1 94 = .ok (.iconst 1, 1) := by decide +kernel
theorem d_Pa_readGroup_95 : decode q_mPa_readGroup.1 95 = .ok (.iadd, 1) := by decide +kernel
theorem d_Pa_readGroup_96 : decode q_mPa_readGroup.1 96 = .ok (.invokevirtual 43, 3) := by decide +kernel
theorem d_Pa_readGroup_99 : decode q_mPa_readGroup.1 99 = .ok (.astore_n 3, 1) := by decide +kernel
theorem d_Pa_readGroup_100 : decode q_mPa_readGroup.1 100 = .ok (.aload_n 0, 1) := by decide +kernel
theorem d_Pa_readGroup_101 : decode q_mPa_readGroup.1 101 = .ok (.bipush 41, 2) := by decide +kernel
theorem d_Pa_readGroup_103 : decode q_mPa_readGroup.1 103 = .ok (.invokevirtual 89, 3) := by decide +kernel
theorem d_Pa_readGroup_106 : decode q_mPa_readGroup.1 106 = .ok (.aload_n 1, 1) := by decide +kernel
theorem d_Pa_readGroup_107 : decode q_mPa_readGroup.1 107 = .ok (.aload_n 3, 1) := by decide +kernel
theorem d_Pa_readGroup_108 : decode q_mPa_readGroup.1 108 = .ok (.putfield 95, 3) := by decide +kernel
theorem d_Pa_readGroup_111 : decode q_mPa_readGroup.1 111 = .ok (.aload_n 1, 1) := by decide +kernel
theorem d_Pa_readGroup_112 : decode q_mPa_readGroup.1 112 = .ok (.aload_n 3, 1) := by decide +kernel
theorem d_Pa_readGroup_113 : decode q_mPa_readGroup.1 113 = .ok (.invokevirtual 98, 3) := by decide +kernel
theorem d_Pa_readGroup_116 : decode q_mPa_readGroup.1 116 = .ok (.aload_n 1, 1) := by decide +kernel
theorem d_Pa_readGroup_117 : decode q_mPa_readGroup.1 117 = .ok (.getfield 92, 3) := by decide +kernel
theorem d_Pa_readGroup_120 : decode q_mPa_readGroup.1 120 = .ok (.ifCond .le 7, 3) := by decide +kernel
theorem d_Pa_readGroup_123 : decode q_mPa_readGroup.1 123 = .ok (.iconst 2, 1) := by decide +kernel
theorem d_Pa_readGroup_124 : decode q_mPa_readGroup.1 124 = .ok (.goto 4, 3) := by decide +kernel
theorem d_Pa_readGroup_127 : decode q_mPa_readGroup.1 127 = .ok (.iconst 0, 1) := by decide +kernel
theorem d_Pa_readGroup_128 : decode q_mPa_readGroup.1 128 = .ok (.iadd, 1) := by decide +kernel
theorem d_Pa_readGroup_129 : decode q_mPa_readGroup.1 129 = .ok (.putfield 101, 3) := by decide +kernel
theorem d_Pa_readGroup_132 : decode q_mPa_readGroup.1 132 = .ok (.return_, 1) := by decide +kernel
theorem d_Pa_fail_0 : decode q_mPa_fail.1 0 = .ok (.aload_n 0, 1) := by decide +kernel
theorem d_Pa_fail_1 : decode q_mPa_fail.1 1 = .ok (.getfield 21, 3) := by decide +kernel
theorem d_Pa_fail_4 : decode q_mPa_fail.1 4 = .ok (.iconst (-1), 1) := by decide +kernel
theorem d_Pa_fail_5 : decode q_mPa_fail.1 5 = .ok (.if_icmp .ne 11, 3) := by decide +kernel
theorem d_Pa_fail_8 : decode q_mPa_fail.1 8 = .ok (.aload_n 0, 1) := by decide +kernel
theorem d_Pa_fail_9 : decode q_mPa_fail.1 9 = .ok (.aload_n 0, 1) := by decide +kernel
theorem d_Pa_fail_10 : decode q_mPa_fail.1 10 = .ok (.getfield 15, 3) := by decide +kernel
theorem d_Pa_fail_13 : decode q_mPa_fail.1 13 = .ok (.putfield 21, 3) := by decide +kernel
theorem d_Pa_fail_16 : decode q_mPa_fail.1 16 = .ok (.return_, 1) := by decide +kernel
end
section
theorem d_Pa_expect_0 : decode q_mPa_expect.1 0 = .ok (.aload_n 0, 1) := by decide +kernel
theorem d_Pa_expect_1 : decode q_mPa_expect.1 1 = .ok (.invokevirtual 53, 3) := by decide +kernel
theorem d_Pa_expect_4 : decode q_mPa_expect.1 4 = .ok (.iload_n 1, 1) := by decide +kernel
theorem d_Pa_expect_5 : decode q_mPa_expect.1 5 = .ok (.if_icmp .ne 16, 3) := by decide +kernel
theorem d_Pa_expect_8 : decode q_mPa_expect.1 8 = .ok (.aload_n 0, 1) := by decide +kernel
theorem d_Pa_expect_9 : decode q_mPa_expect.1 9 = .ok (.dup, 1) := by decide +kernel
theorem d_Pa_expect_10 : decode q_mPa_expect.1 10 = .ok (.getfield 15, 3) := by decide +kernel
theorem d_Pa_expect_13 : decode q_mPa_expect.1 13 = .ok (.iconst 1, 1) := by decide +kernel
theorem d_Pa_expect_14 : decode q_mPa_expect.1 14 = .ok (.iadd, 1) := by decide +kernel
theorem d_Pa_expect_15 : decode q_mPa_expect.1 15 = .ok (.putfield 15, 3) := by decide +kernel
theorem d_Pa_expect_18 : decode q_mPa_expect.1 18 = .ok (.goto 7, 3) := by decide +kernel
theorem d_Pa_expect_21 : decode q_mPa_expect.1 21 = .ok (.aload_n 0, 1) := by decide +kernel
theorem d_Pa_expect_22 : decode q_mPa_expect.1 22 = .ok (.invokevirtual 47, 3) := by decide +kernel
theorem d_Pa_expect_25 : decode q_mPa_expect.1 25 = .ok (.return_, 1) := by decide +kernel
theorem d_Pa_readCharacters_0 : decode q_mPa_readCharacters.1 0 = .ok (.aload_n 0, 1) := by decide +kernel
theorem d_Pa_readCharacters_1 : decode q_mPa_readCharacters.1 1 = .ok (.invokevirtual 53, 3) := by decide +kernel
theorem d_Pa_readCharacters_4 : decode q_mPa_readCharacters.1 4 = .ok (.istore_n 2, 1) := by decide +kernel
theorem d_Pa_readCharacters_5 : decode q_mPa_readCharacters.1 5 = .ok (.iload_n 2, 1) := by decide +kernel
theorem d_Pa_readCharacters_6 : decode q_mPa_readCharacters.1 6 = .ok (.bipush 91, 2) := by decide +kernel
theorem d_Pa_readCharacters_8 : decode q_mPa_readCharacters.1 8 = .ok (.if_icmp .ne 21, 3) := by decide +kernel
theorem d_Pa_readCharacters_11 : decode q_mPa_readCharacters.1 11 = .ok (.aload_n 0, 1) := by decide +kernel
theorem d_Pa_readCharacters_12 : decode q_mPa_readCharacters.1 12 = .ok (.dup, 1) := by decide +kernel
theorem d_Pa_readCharacters_13 : decode q_mPa_readCharacters.1 13 = .ok (.getfield 15, 3) := by decide +kernel
theorem d_Pa_readCharacters_16 : decode q_mPa_readCharacters.1 16 = .ok (.iconst 1, 1) := by decide +kernel
theorem d_Pa_readCharacters_17 : decode q_mPa_readCharacters.1 17 = .ok (.iadd, 1) := by decide +kernel
theorem d_Pa_readCharacters_18 : decode q_mPa_readCharacters.1 18 = .ok (.putfield 15, 3) := by decide +kernel
theorem d_Pa_readCharacters_21 : decode q_mPa_readCharacters.1 21 = .ok (.aload_n 0, 1) := by decide +kernel
theorem d_Pa_readCharacters_22 : decode q_mPa_readCharacters.1 22 = .ok (.iload_n 1, 1) := by decide +kernel
theorem d_Pa_readCharacters_23 : decode q_mPa_readCharacters.1 23 = .ok (.invokevirtual 104, 3) := by decide +kernel
theorem d_Pa_readCharacters_26 : decode q_mPa_readCharacters.1 26 = .ok (.goto 92, 3) := by decide +kernel
theorem d_Pa_readCharacters_29 : decode q_mPa_readCharacters.1 29 = .ok (.iload_n 2, 1) := by decide +kernel
theorem d_Pa_readCharacters_30 : decode q_mPa_readCharacters.1 30 = .ok (.bipush 92, 2) := by decide +kernel
theorem d_Pa_readCharacters_32 : decode q_mPa_readCharacters.1 32 = .ok (.if_icmp .ne 21, 3) := by decide +kernel
theorem d_Pa_readCharacters_35 : decode q_mPa_readCharacters.1 35 = .ok (.aload_n 0, 1) := by decide +kernel
theorem d_Pa_readCharacters_36 : decode q_mPa_readCharacters.1 36 = .ok (.dup, 1) := by decide +kernel
theorem d_Pa_readCharacters_37 : decode q_mPa_readCharacters.1 37 = .ok (.getfield 15, 3) := by decide +kernel
theorem d_Pa_readCharacters_40 : decode q_mPa_readCharacters.1 40 = .ok (.iconst 1, 1) := by decide +kernel
theorem d_Pa_readCharacters_41 : decode q_mPa_readCharacters.1 41 = .ok (.iadd, 1) := by decide +kernel
theorem d_Pa_readCharacters_42 : decode q_mPa_readCharacters.1 42 = .ok (.putfield 15, 3) := by decide +kernel
theorem d_Pa_readCharacters_45 : decode q_mPa_readCharacters.1 45 = .ok (.aload_n 0, 1) := by decide +kernel
theorem d_Pa_readCharacters_46 : decode q_mPa_readCharacters.1 46 = .ok (.iload_n 1, 1) := by decide +kernel
theorem d_Pa_readCharacters_47 : decode q_mPa_readCharacters.1 47 = .ok (.invokevirtual 107, 3) := by decide +kernel
theorem d_Pa_readCharacters_50 : decode q_mPa_readCharacters.1 50 = .ok (.goto 68, 3) := by decide +kernel
theorem d_Pa_readCharacters_53 : decode q_mPa_readCharacters.1 53 = .ok (.iload_n 2, 1) := by decide +kernel
theorem d_Pa_readCharacters_54 : decode q_mPa_readCharacters.1 54 = .ok (.bipush 46, 2) := by decide +kernel
theorem d_Pa_readCharacters_56 : decode q_mPa_readCharacters.1 56 = .ok (.if_icmp .ne 28, 3) := by decide +kernel
theorem d_Pa_readCharacters_59 : decode q_mPa_readCharacters.1 59 = .ok (.aload_n 0, 1) := by decide +kernel
theorem d_Pa_readCharacters_60 : decode q_mPa_readCharacters.1 60 = .ok (.dup, 1) := by decide +kernel
theorem d_Pa_readCharacters_61 : decode q_mPa_readCharacters.1 61 = .ok (.getfield 15, 3) := by decide +kernel
theorem d_Pa_readCharacters_64 : decode q_mPa_readCharacters.1 64 = .ok (.iconst 1, 1) := by decide +kernel
theorem d_Pa_readCharacters_65 : decode q_mPa_readCharacters.1 65 = .ok (.iadd, 1) := by decide +kernel
theorem d_Pa_readCharacters_66 : decode q_mPa_readCharacters.1 66 = .ok (.putfield 15, 3) := by decide +kernel
theorem d_Pa_readCharacters_69 : decode q_mPa_readCharacters.1 69 = .ok (.aload_n 0, 1) := by decide +kernel
theorem d_Pa_readCharacters_70 : decode q_mPa_readCharacters.1 70 = .ok (.getfield 28, 3) := by decide +kernel
theorem d_Pa_readCharacters_73 : decode q_mPa_readCharacters.1 73 = .ok (.iload_n 1, 1) := by decide +kernel
theorem d_Pa_readCharacters_74 : decode q_mPa_readCharacters.1 74 = .ok (.iconst 0, 1) := by decide +kernel
theorem d_Pa_readCharacters_75 : decode q_mPa_readCharacters.1 75 = .ok (.sipush 255, 3) := by decide +kernel
theorem d_Pa_readCharacters_78 : decode q_mPa_readCharacters.1 78 = .ok (.invokevirtual 110, 3) := by decide +kernel
theorem d_Pa_readCharacters_81 : decode q_mPa_readCharacters.1 81 = .ok (.goto 37, 3) := by decide +kernel
theorem d_Pa_readCharacters_84 : decode q_mPa_readCharacters.1 84 = .ok (.iload_n 2, 1) := by decide +kernel
theorem d_Pa_readCharacters_85 : decode q_mPa_readCharacters.1 85 = .ok (.invokestatic 114, 3) := by decide +kernel
theorem d_Pa_readCharacters_88 : decode q_mPa_readCharacters.1 88 = .ok (.ifCond .eq 26, 3) := by decide +kernel
theorem d_Pa_readCharacters_91 : decode q_mPa_readCharacters.1 91 = .ok (.aload_n 0, 1) := by decide +kernel
theorem d_Pa_readCharacters_92 : decode q_mPa_readCharacters.1 92 = .ok (.dup, 1) := by decide +kernel
theorem d_Pa_readCharacters_93 : decode q_mPa_readCharacters.1 93 = .ok (.getfield 15, 3) := by decide +kernel
theorem d_Pa_readCharacters_96 : decode q_mPa_readCharacters.1 96 = .ok (.iconst 1, 1) := by decide +kernel
theorem d_Pa_readCharacters_97 : decode q_mPa_readCharacters.1 97 = .ok (.iadd, 1) := by decide +kernel
theorem d_Pa_readCharacters_98 : decode q_mPa_readCharacters.1 98 = .ok (.putfield 15, 3) := by decide +kernel
theorem d_Pa_readCharacters_101 : decode q_mPa_readCharacters.1 101 = .ok (.aload_n 0, 1) := by decide +kernel
theorem d_Pa_readCharacters_102 : decode q_mPa_readCharacters.1 102 = .ok (.getfield 28, 3) := by decide +kernel
theorem d_Pa_readCharacters_105 : decode q_mPa_readCharacters.1 105 = .ok (.iload_n 1, 1) := by decide +kernel
theorem d_Pa_readCharacters_106 : decode q_mPa_readCharacters.1 106 = .ok (.iload_n 2, 1) := by decide +kernel
theorem d_Pa_readCharacters_107 : decode q_mPa_readCharacters.1 107 = .ok (.iload_n 2, 1) := by decide +kernel
theorem d_Pa_readCharacters_108 : decode q_mPa_readCharacters.1 108 = .ok (.invokevirtual 110, 3) := by decide +kernel
theorem d_Pa_readCharacters_111 : decode q_mPa_readCharacters.1 111 = .ok (.goto 7, 3) := by decide +kernel
theorem d_Pa_readCharacters_114 : decode q_mPa_readCharacters.1 114 = .ok (.aload_n 0, 1) := by decide +kernel
theorem d_Pa_readCharacters_115 : decode q_mPa_readCharacters.1 115 = .ok (.invokevirtual 47, 3) := by decide +kernel
theorem d_Pa_readCharacters_118 : decode q_mPa_readCharacters.1 118 = .ok (.return_, 1) := by decide +kernel
theorem d_Pa_readSet_0 : decode q_mPa_readSet.1 0 = .ok (.aload_n 0, 1) := by decide +kernel
theorem d_Pa_readSet_1 : decode q_mPa_readSet.1 1 = .ok (.invokevirtual 53, 3) := by decide +kernel
theorem d_Pa_readSet_4 : decode q_mPa_readSet.1 4 = .ok (.bipush 94, 2) := by decide +kernel
theorem d_Pa_readSet_6 : decode q_mPa_readSet.1 6 = .ok (.if_icmp .ne 7, 3) := by decide +kernel
theorem d_Pa_readSet_9 : decode q_mPa_readSet.1 9 = .ok (.iconst 1, 1) := by decide +kernel
theorem d_Pa_readSet_10 : decode q_mPa_readSet.1 10 = .ok (.goto 4, 3) := by decide +kernel
theorem d_Pa_readSet_13 : decode q_mPa_readSet.1 13 = .ok (.iconst 0, 1) := by decide +kernel
theorem d_Pa_readSet_14 : decode q_mPa_readSet.1 14 = .ok (.istore_n 2, 1) := by decide +kernel
theorem d_Pa_readSet_15 : decode q_mPa_readSet.1 15 = .ok (.iload_n 2, 1) := by decide +kernel
theorem d_Pa_readSet_16 : decode q_mPa_readSet.1 16 = .ok (.ifCond .eq 13, 3) := by decide +kernel
theorem d_Pa_readSet_19 : decode q_mPa_readSet.1 19 = .ok (.aload_n 0, 1) := by decide +kernel
theorem d_Pa_readSet_20 : decode q_mPa_readSet.1 20 = .ok (.dup, 1) := by decide +kernel
theorem d_Pa_readSet_21 : decode q_mPa_readSet.1 21 = .ok (.getfield 15, 3) := by decide +kernel
theorem d_Pa_readSet_24 : decode q_mPa_readSet.1 24 = .ok (.iconst 1, 1) := by decide +kernel
theorem d_Pa_readSet_25 : decode q_mPa_readSet.1 25 = .ok (.iadd, 1) := by decide +kernel
theorem d_Pa_readSet_26 : decode q_mPa_readSet.1 26 = .ok (.putfield 15, 3) := by decide +kernel
theorem d_Pa_readSet_29 : decode q_mPa_readSet.1 29 = .ok (.iconst 1, 1) := by decide +kernel
theorem d_Pa_readSet_30 : decode q_mPa_readSet.1 30 = .ok (.istore_n 3, 1) := by decide +kernel
theorem d_Pa_readSet_31 : decode q_mPa_readSet.1 31 = .ok (.iconst 0, 1) := by decide +kernel
theorem d_Pa_readSet_32 : decode q_mPa_readSet.1 32 = .ok (.istore 4, 2) := by decide +kernel
theorem d_Pa_readSet_34 : decode q_mPa_readSet.1 34 = .ok (.iload 4, 2) := by decide +kernel
theorem d_Pa_readSet_36 : decode q_mPa_readSet.1 36 = .ok (.bipush 48, 2) := by decide +kernel
theorem d_Pa_readSet_38 : decode q_mPa_readSet.1 38 = .ok (.if_icmp .ge 41, 3) := by decide +kernel
theorem d_Pa_readSet_41 : decode q_mPa_readSet.1 41 = .ok (.iload_n 3, 1) := by decide +kernel
theorem d_Pa_readSet_42 : decode q_mPa_readSet.1 42 = .ok (.ifCond .eq 37, 3) := by decide +kernel
theorem d_Pa_readSet_45 : decode q_mPa_readSet.1 45 = .ok (.aload_n 0, 1) := by decide +kernel
theorem d_Pa_readSet_46 : decode q_mPa_readSet.1 46 = .ok (.iload_n 1, 1) := by decide +kernel
theorem d_Pa_readSet_47 : decode q_mPa_readSet.1 47 = .ok (.invokevirtual 118, 3) := by decide +kernel
theorem d_Pa_readSet_50 : decode q_mPa_readSet.1 50 = .ok (.aload_n 0, 1) := by decide +kernel
theorem d_Pa_readSet_51 : decode q_mPa_readSet.1 51 = .ok (.getfield 21, 3) := by decide +kernel
theorem d_Pa_readSet_54 : decode q_mPa_readSet.1 54 = .ok (.iconst (-1), 1) := by decide +kernel
theorem d_Pa_readSet_55 : decode q_mPa_readSet.1 55 = .ok (.if_icmp .ne 16, 3) := by decide +kernel
theorem d_Pa_readSet_58 : decode q_mPa_readSet.1 58 = .ok (.aload_n 0, 1) := by decide +kernel
theorem d_Pa_readSet_59 : decode q_mPa_readSet.1 59 = .ok (.invokevirtual 53, 3) := by decide +kernel
theorem d_Pa_readSet_62 : decode q_mPa_readSet.1 62 = .ok (.bipush 93, 2) := by decide +kernel
theorem d_Pa_readSet_64 : decode q_mPa_readSet.1 64 = .ok (.if_icmp .eq 7, 3) := by decide +kernel
theorem d_Pa_readSet_67 : decode q_mPa_readSet.1 67 = .ok (.iconst 1, 1) := by decide +kernel
theorem d_Pa_readSet_68 : decode q_mPa_readSet.1 68 = .ok (.goto 4, 3) := by decide +kernel
theorem d_Pa_readSet_71 : decode q_mPa_readSet.1 71 = .ok (.iconst 0, 1) := by decide +kernel
theorem d_Pa_readSet_72 : decode q_mPa_readSet.1 72 = .ok (.istore_n 3, 1) := by decide +kernel
theorem d_Pa_readSet_73 : decode q_mPa_readSet.1 73 = .ok (.iinc 4 1, 3) := by decide +kernel
theorem d_Pa_readSet_76 : decode q_mPa_readSet.1 76 = .ok (.goto (-42), 3) := by decide +kernel
theorem d_Pa_readSet_79 : decode q_mPa_readSet.1 79 = .ok (.aload_n 0, 1) := by decide +kernel
theorem d_Pa_readSet_80 : decode q_mPa_readSet.1 80 = .ok (.getfield 21, 3) := by decide +kernel
theorem d_Pa_readSet_83 : decode q_mPa_readSet.1 83 = .ok (.iconst (-1), 1) := by decide +kernel
theorem d_Pa_readSet_84 : decode q_mPa_readSet.1 84 = .ok (.if_icmp .ne 9, 3) := by decide +kernel
theorem d_Pa_readSet_87 : decode q_mPa_readSet.1 87 = .ok (.aload_n 0, 1) := by decide +kernel
theorem d_Pa_readSet_88 : decode q_mPa_readSet.1 88 = .ok (.bipush 93, 2) := by decide +kernel
theorem d_Pa_readSet_90 : decode q_mPa_readSet.1 90 = .ok (.invokevirtual 89, 3) := by decide +kernel
theorem d_Pa_readSet_93 : decode q_mPa_readSet.1 93 = .ok (.iload_n 2, 1) := by decide +kernel
theorem d_Pa_readSet_94 : decode q_mPa_readSet.1 94 = .ok (.ifCond .eq 11, 3) := by decide +kernel
theorem d_Pa_readSet_97 : decode q_mPa_readSet.1 97 = .ok (.aload_n 0, 1) := by decide +kernel
theorem d_Pa_readSet_98 : decode q_mPa_readSet.1 98 = .ok (.getfield 28, 3) := by decide +kernel
theorem d_Pa_readSet_101 : decode q_mPa_readSet.1 101 = .ok (.iload_n 1, 1) := by decide +kernel
theorem d_Pa_readSet_102 : decode q_mPa_readSet.1 102 = .ok (.invokevirtual 121, 3) := by decide +kernel
theorem d_Pa_readSet_105 : decode q_mPa_readSet.1 105 = .ok (.return_, 1) := by decide +kernel
theorem d_Pa_readItem_0 : decode q_mPa_readItem.1 0 = .ok (.aload_n 0, 1) := by decide +kernel
theorem d_Pa_readItem_1 : decode q_mPa_readItem.1 1 = .ok (.invokevirtual 53, 3) := by decide +kernel
theorem d_Pa_readItem_4 : decode q_mPa_readItem.1 4 = .ok (.istore_n 2, 1) := by decide +kernel
theorem d_Pa_readItem_5 : decode q_mPa_readItem.1 5 = .ok (.iload_n 2, 1) := by decide +kernel
theorem d_Pa_readItem_6 : decode q_mPa_readItem.1 6 = .ok (.bipush 92, 2) := by decide +kernel
theorem d_Pa_readItem_8 : decode q_mPa_readItem.1 8 = .ok (.if_icmp .ne 19, 3) := by decide +kernel
theorem d_Pa_readItem_11 : decode q_mPa_readItem.1 11 = .ok (.aload_n 0, 1) := by decide +kernel
theorem d_Pa_readItem_12 : decode q_mPa_readItem.1 12 = .ok (.dup, 1) := by decide +kernel
theorem d_Pa_readItem_13 : decode q_mPa_readItem.1 13 = .ok (.getfield 15, 3) := by decide +kernel
theorem d_Pa_readItem_16 : decode q_mPa_readItem.1 16 = .ok (.iconst 1, 1) := by decide +kernel
theorem d_Pa_readItem_17 : decode q_mPa_readItem.1 17 = .ok (.iadd, 1) := by decide +kernel
theorem d_Pa_readItem_18 : decode q_mPa_readItem.1 18 = .ok (.putfield 15, 3) := by decide +kernel
theorem d_Pa_readItem_21 : decode q_mPa_readItem.1 21 = .ok (.aload_n 0, 1) := by decide +kernel
theorem d_Pa_readItem_22 : decode q_mPa_readItem.1 22 = .ok (.iload_n 1, 1) := by decide +kernel
theorem d_Pa_readItem_23 : decode q_mPa_readItem.1 23 = .ok (.invokevirtual 107, 3) := by decide +kernel
theorem d_Pa_readItem_26 : decode q_mPa_readItem.1 26 = .ok (.return_, 1) := by decide +kernel
theorem d_Pa_readItem_27 : decode q_mPa_readItem.1 27 = .ok (.iload_n 2, 1) := by decide +kernel
theorem d_Pa_readItem_28 : decode q_mPa_readItem.1 28 = .ok (.invokestatic 124, 3) := by decide +kernel
theorem d_Pa_readItem_31 : decode q_mPa_readItem.1 31 = .ok (.ifCond .ne 8, 3) := by decide +kernel
theorem d_Pa_readItem_34 : decode q_mPa_readItem.1 34 = .ok (.aload_n 0, 1) := by decide +kernel
theorem d_Pa_readItem_35 : decode q_mPa_readItem.1 35 = .ok (.invokevirtual 47, 3) := by decide +kernel
theorem d_Pa_readItem_38 : decode q_mPa_readItem.1 38 = .ok (.return_, 1) := by decide +kernel
theorem d_Pa_readItem_39 : decode q_mPa_readItem.1 39 = .ok (.aload_n 0, 1) := by decide +kernel
theorem d_Pa_readItem_40 : decode q_mPa_readItem.1 40 = .ok (.dup, 1) := by decide +kernel
theorem d_Pa_readItem_41 : decode q_mPa_readItem.1 41 = .ok (.getfield 15, 3) := by decide +kernel
theorem d_Pa_readItem_44 : decode q_mPa_readItem.1 44 = .ok (.iconst 1, 1) := by decide +kernel
theorem d_Pa_readItem_45 : decode q_mPa_readItem.1 45 = .ok (.iadd, 1) := by decide +kernel
theorem d_Pa_readItem_46 : decode q_mPa_readItem.1 46 = .ok (.putfield 15, 3) := by decide +kernel
theorem d_Pa_readItem_49 : decode q_mPa_readItem.1 49 = .ok (.iload_n 2, 1) := by decide +kernel
theorem d_Pa_readItem_50 : decode q_mPa_readItem.1 50 = .ok (.istore_n 3, 1) := by decide +kernel
theorem d_Pa_readItem_51 : decode q_mPa_readItem.1 51 = .ok (.aload_n 0, 1) := by decide +kernel
theorem d_Pa_readItem_52 : decode q_mPa_readItem.1 52 = .ok (.invokevirtual 53, 3) := by decide +kernel
theorem d_Pa_readItem_55 : decode q_mPa_readItem.1 55 = .ok (.bipush 45, 2) := by decide +kernel
theorem d_Pa_readItem_57 : decode q_mPa_readItem.1 57 = .ok (.if_icmp .ne 45, 3) := by decide +kernel
theorem d_Pa_readItem_60 : decode q_mPa_readItem.1 60 = .ok (.aload_n 0, 1) := by decide +kernel
theorem d_Pa_readItem_61 : decode q_mPa_readItem.1 61 = .ok (.dup, 1) := by decide +kernel
theorem d_Pa_readItem_62 : decode q_mPa_readItem.1 62 = .ok (.getfield 15, 3) := by decide +kernel
theorem d_Pa_readItem_65 : decode q_mPa_readItem.1 65 = .ok (.iconst 1, 1) := by decide +kernel
theorem d_Pa_readItem_66 : decode q_mPa_readItem.1 66 = .ok (.iadd, 1) := by decide +kernel
theorem d_Pa_readItem_67 : decode q_mPa_readItem.1 67 = .ok (.putfield 15, 3) := by decide +kernel
theorem d_Pa_readItem_70 : decode q_mPa_readItem.1 70 = .ok (.aload_n 0, 1) := by decide +kernel
theorem d_Pa_readItem_71 : decode q_mPa_readItem.1 71 = .ok (.invokevirtual 53, 3) := by decide +kernel
theorem d_Pa_readItem_74 : decode q_mPa_readItem.1 74 = .ok (.istore_n 3, 1) := by decide +kernel
theorem d_Pa_readItem_75 : decode q_mPa_readItem.1 75 = .ok (.iload_n 3, 1) := by decide +kernel
theorem d_Pa_readItem_76 : decode q_mPa_readItem.1 76 = .ok (.invokestatic 124, 3) := by decide +kernel
theorem d_Pa_readItem_79 : decode q_mPa_readItem.1 79 = .ok (.ifCond .eq 8, 3) := by decide +kernel
theorem d_Pa_readItem_82 : decode q_mPa_readItem.1 82 = .ok (.iload_n 3, 1) := by decide +kernel
theorem d_Pa_readItem_83 : decode q_mPa_readItem.1 83 = .ok (.iload_n 2, 1) := by decide +kernel
theorem d_Pa_readItem_84 : decode q_mPa_readItem.1 84 = .ok (.if_icmp .ge 8, 3) := by decide +kernel
theorem d_Pa_readItem_87 : decode q_mPa_readItem.1 87 = .ok (.aload_n 0, 1) := by decide +kernel
theorem d_Pa_readItem_88 : decode q_mPa_readItem.1 88 = .ok (.invokevirtual 47, 3) := by decide +kernel
theorem d_Pa_readItem_91 : decode q_mPa_readItem.1 91 = .ok (.return_, 1) := by decide +kernel
theorem d_Pa_readItem_92 : decode q_mPa_readItem.1 92 = .ok (.aload_n 0, 1) := by decide +kernel
theorem d_Pa_readItem_93 : decode q_mPa_readItem.1 93 = .ok (.dup, 1) := by decide +kernel
theorem d_Pa_readItem_94 : decode q_mPa_readItem.1 94 = .ok (.getfield 15, 3) := by decide +kernel
theorem d_Pa_readItem_97 : decode q_mPa_readItem.1 97 = .ok (.iconst 1, 1) := by decide +kernel
theorem d_Pa_readItem_98 : decode q_mPa_readItem.1 98 = .ok (.iadd, 1) := by decide +kernel
theorem d_Pa_readItem_99 : decode q_mPa_readItem.1 99 = .ok (.putfield 15, 3) := by decide +kernel
theorem d_Pa_readItem_102 : decode q_mPa_readItem.1 102 = .ok (.aload_n 0, 1) := by decide +kernel
theorem d_Pa_readItem_103 : decode q_mPa_readItem.1 103 = .ok (.getfield 28, 3) := by decide +kernel
theorem d_Pa_readItem_106 : decode q_mPa_readItem.1 106 = .ok (.iload_n 1, 1) := by decide +kernel
theorem d_Pa_readItem_107 : decode q_mPa_readItem.1 107 = .ok (.iload_n 2, 1) := by decide +kernel
theorem d_Pa_readItem_108 : decode q_mPa_readItem.1 108 = .ok (.iload_n 3, 1) := by decide +kernel
theorem d_Pa_readItem_109 : decode q_mPa_readItem.1 109 = .ok (.invokevirtual 110, 3) := by decide +kernel
theorem d_Pa_readItem_112 : decode q_mPa_readItem.1 112 = .ok (.return_, 1) := by decide +kernel
theorem d_Pa_readEscaped_0 : decode q_mPa_readEscaped.1 0 = .ok (.aload_n 0, 1) := by decide +kernel
theorem d_Pa_readEscaped_1 : decode q_mPa_readEscaped.1 1 = .ok (.invokevirtual 53, 3) := by decide +kernel
theorem d_Pa_readEscaped_4 : decode q_mPa_readEscaped.1 4 = .ok (.istore_n 2, 1) := by decide +kernel
theorem d_Pa_readEscaped_5 : decode q_mPa_readEscaped.1 5 = .ok (.iload_n 2, 1) := by decide +kernel
theorem d_Pa_readEscaped_6 : decode q_mPa_readEscaped.1 6 = .ok (.iconst (-1), 1) := by decide +kernel
theorem d_Pa_readEscaped_7 : decode q_mPa_readEscaped.1 7 = .ok (.if_icmp .ne 8, 3) := by decide +kernel
theorem d_Pa_readEscaped_10 : decode q_mPa_readEscaped.1 10 = .ok (.aload_n 0, 1) := by decide +kernel
theorem d_Pa_readEscaped_11 : decode q_mPa_readEscaped.1 11 = .ok (.invokevirtual 47, 3) := by decide +kernel
theorem d_Pa_readEscaped_14 : decode q_mPa_readEscaped.1 14 = .ok (.return_, 1) := by decide +kernel
theorem d_Pa_readEscaped_15 : decode q_mPa_readEscaped.1 15 = .ok (.aload_n 0, 1) := by decide +kernel
theorem d_Pa_readEscaped_16 : decode q_mPa_readEscaped.1 16 = .ok (.dup, 1) := by decide +kernel
theorem d_Pa_readEscaped_17 : decode q_mPa_readEscaped.1 17 = .ok (.getfield 15, 3) := by decide +kernel
theorem d_Pa_readEscaped_20 : decode q_mPa_readEscaped.1 20 = .ok (.iconst 1, 1) := by decide +kernel
theorem d_Pa_readEscaped_21 : decode q_mPa_readEscaped.1 21 = .ok (.iadd, 1) := by decide +kernel
theorem d_Pa_readEscaped_22 : decode q_mPa_readEscaped.1 22 = .ok (.putfield 15, 3) := by decide +kernel
theorem d_Pa_readEscaped_25 : decode q_mPa_readEscaped.1 25 = .ok (.iload_n 2, 1) := by decide +kernel
theorem d_Pa_readEscaped_26 : decode q_mPa_readEscaped.1 26 = .ok (.bipush 100, 2) := by decide +kernel
theorem d_Pa_readEscaped_28 : decode q_mPa_readEscaped.1 28 = .ok (.if_icmp .ne 18, 3) := by decide +kernel
theorem d_Pa_readEscaped_31 : decode q_mPa_readEscaped.1 31 = .ok (.aload_n 0, 1) := by decide +kernel
theorem d_Pa_readEscaped_32 : decode q_mPa_readEscaped.1 32 = .ok (.getfield 28, 3) := by decide +kernel
theorem d_Pa_readEscaped_35 : decode q_mPa_readEscaped.1 35 = .ok (.iload_n 1, 1) := by decide +kernel
theorem d_Pa_readEscaped_36 : decode q_mPa_readEscaped.1 36 = .ok (.bipush 48, 2) := by decide +kernel
theorem d_Pa_readEscaped_38 : decode q_mPa_readEscaped.1 38 = .ok (.bipush 57, 2) := by decide +kernel
theorem d_Pa_readEscaped_40 : decode q_mPa_readEscaped.1 40 = .ok (.invokevirtual 110, 3) := by decide +kernel
theorem d_Pa_readEscaped_43 : decode q_mPa_readEscaped.1 43 = .ok (.goto 70, 3) := by decide +kernel
theorem d_Pa_readEscaped_46 : decode q_mPa_readEscaped.1 46 = .ok (.iload_n 2, 1) := by decide +kernel
theorem d_Pa_readEscaped_47 : decode q_mPa_readEscaped.1 47 = .ok (.bipush 119, 2) := by decide +kernel
theorem d_Pa_readEscaped_49 : decode q_mPa_readEscaped.1 49 = .ok (.if_icmp .ne 54, 3) := by decide +kernel
theorem d_Pa_readEscaped_52 : decode q_mPa_readEscaped.1 52 = .ok (.aload_n 0, 1) := by decide +kernel
theorem d_Pa_readEscaped_53 : decode q_mPa_readEscaped.1 53 = .ok (.getfield 28, 3) := by decide +kernel
theorem d_Pa_readEscaped_56 : decode q_mPa_readEscaped.1 56 = .ok (.iload_n 1, 1) := by decide +kernel
theorem d_Pa_readEscaped_57 : decode q_mPa_readEscaped.1 57 = .ok (.bipush 97, 2) := by decide +kernel
theorem d_Pa_readEscaped_59 : decode q_mPa_readEscaped.1 59 = .ok (.bipush 122, 2) := by decide +kernel
theorem d_Pa_readEscaped_61 : decode q_mPa_readEscaped.1 61 = .ok (.invokevirtual 110, 3) := by decide +kernel
theorem d_Pa_readEscaped_64 : decode q_mPa_readEscaped.1 64 = .ok (.aload_n 0, 1) := by decide +kernel
theorem d_Pa_readEscaped_65 : decode q_mPa_readEscaped.1 65 = .ok (.getfield 28, 3) := by decide +kernel
theorem d_Pa_readEscaped_68 : decode q_mPa_readEscaped.1 68 = .ok (.iload_n 1, 1) := by decide +kernel
theorem d_Pa_readEscaped_69 : decode q_mPa_readEscaped.1 69 = .ok (.bipush 65, 2) := by decide +kernel
theorem d_Pa_readEscaped_71 : decode q_mPa_readEscaped.1 71 = .ok (.bipush 90, 2) := by decide +kernel
theorem d_Pa_readEscaped_73 : decode q_mPa_readEscaped.1 73 = .ok (.invokevirtual 110, 3) := by decide +kernel
theorem d_Pa_readEscaped_76 : decode q_mPa_readEscaped.1 76 = .ok (.aload_n 0, 1) := by decide +kernel
theorem d_Pa_readEscaped_77 : decode q_mPa_readEscaped.1 77 = .ok (.getfield 28, 3) := by decide +kernel
theorem d_Pa_readEscaped_80 : decode q_mPa_readEscaped.1 80 = .ok (.iload_n 1, 1) := by decide +kernel
theorem d_Pa_readEscaped_81 : decode q_mPa_readEscaped.1 81 = .ok (.bipush 48, 2) := by decide +kernel
theorem d_Pa_readEscaped_83 : decode q_mPa_readEscaped.1 83 = .ok (.bipush 57, 2) := by decide +kernel
theorem d_Pa_readEscaped_85 : decode q_mPa_readEscaped.1 85 = .ok (.invokevirtual 110, 3) := by decide +kernel
theorem d_Pa_readEscaped_88 : decode q_mPa_readEscaped.1 88 = .ok (.aload_n 0, 1) := by decide +kernel
theorem d_Pa_readEscaped_89 : decode q_mPa_readEscaped.1 89 = .ok (.getfield 28, 3) := by decide +kernel
theorem d_Pa_readEscaped_92 : decode q_mPa_readEscaped.1 92 = .ok (.iload_n 1, 1) := by decide +kernel
theorem d_Pa_readEscaped_93 : decode q_mPa_readEscaped.1 93 = .ok (.bipush 95, 2) := by decide +kernel
theorem d_Pa_readEscaped_95 : decode q_mPa_readEscaped.1 95 = .ok (.bipush 95, 2) := by decide +kernel
theorem d_Pa_readEscaped_97 : decode q_mPa_readEscaped.1 97 = .ok (.invokevirtual 110, 3) := by decide +kernel
theorem d_Pa_readEscaped_100 : decode q_mPa_readEscaped.1 100 = .ok (.goto 13, 3) := by decide +kernel
theorem d_Pa_readEscaped_103 : decode q_mPa_readEscaped.1 103 = .ok (.aload_n 0, 1) := by decide +kernel
theorem d_Pa_readEscaped_104 : decode q_mPa_readEscaped.1 104 = .ok (.getfield 28, 3) := by decide +kernel
theorem d_Pa_readEscaped_107 : decode q_mPa_readEscaped.1 107 = .ok (.iload_n 1, 1) := by decide +kernel
theorem d_Pa_readEscaped_108 : decode q_mPa_readEscaped.1 108 = .ok (.iload_n 2, 1) := by decide +kernel
theorem d_Pa_readEscaped_109 : decode q_mPa_readEscaped.1 109 = .ok (.iload_n 2, 1) := by decide +kernel
theorem d_Pa_readEscaped_110 : decode q_mPa_readEscaped.1 110 = .ok (.invokevirtual 110, 3) := by decide +kernel
theorem d_Pa_readEscaped_113 : decode q_mPa_readEscaped.1 113 = .ok (.return_, 1) := by decide +kernel
theorem d_Pa_isItem_0 : decode q_mPa_isItem.1 0 = .ok (.iload_n 0, 1) := by decide +kernel
theorem d_Pa_isItem_1 : decode q_mPa_isItem.1 1 = .ok (.iconst (-1), 1) := by decide +kernel
theorem d_Pa_isItem_2 : decode q_mPa_isItem.1 2 = .ok (.if_icmp .eq 37, 3) := by decide +kernel
theorem d_Pa_isItem_5 : decode q_mPa_isItem.1 5 = .ok (.iload_n 0, 1) := by decide +kernel
theorem d_Pa_isItem_6 : decode q_mPa_isItem.1 6 = .ok (.bipush 93, 2) := by decide +kernel
theorem d_Pa_isItem_8 : decode q_mPa_isItem.1 8 = .ok (.if_icmp .eq 31, 3) := by decide +kernel
theorem d_Pa_isItem_11 : decode q_mPa_isItem.1 11 = .ok (.iload_n 0, 1) := by decide +kernel
theorem d_Pa_isItem_12 : decode q_mPa_isItem.1 12 = .ok (.bipush 91, 2) := by decide +kernel
theorem d_Pa_isItem_14 : decode q_mPa_isItem.1 14 = .ok (.if_icmp .eq 25, 3) := by decide +kernel
theorem d_Pa_isItem_17 : decode q_mPa_isItem.1 17 = .ok (.iload_n 0, 1) := by decide +kernel
theorem d_Pa_isItem_18 : decode q_mPa_isItem.1 18 = .ok (.bipush 92, 2) := by decide +kernel
theorem d_Pa_isItem_20 : decode q_mPa_isItem.1 20 = .ok (.if_icmp .eq 19, 3) := by decide +kernel
theorem d_Pa_isItem_23 : decode q_mPa_isItem.1 23 = .ok (.iload_n 0, 1) := by decide +kernel
theorem d_Pa_isItem_24 : decode q_mPa_isItem.1 24 = .ok (.bipush 45, 2) := by decide +kernel
theorem d_Pa_isItem_26 : decode q_mPa_isItem.1 26 = .ok (.if_icmp .eq 13, 3) := by decide +kernel
theorem d_Pa_isItem_29 : decode q_mPa_isItem.1 29 = .ok (.iload_n 0, 1) := by decide +kernel
theorem d_Pa_isItem_30 : decode q_mPa_isItem.1 30 = .ok (.bipush 94, 2) := by decide +kernel
theorem d_Pa_isItem_32 : decode q_mPa_isItem.1 32 = .ok (.if_icmp .eq 7, 3) := by decide +kernel
theorem d_Pa_isItem_35 : decode q_mPa_isItem.1 35 = .ok (.iconst 1, 1) := by decide +kernel
theorem d_Pa_isItem_36 : decode q_mPa_isItem.1 36 = .ok (.goto 4, 3) := by decide +kernel
theorem d_Pa_isItem_39 : decode q_mPa_isItem.1 39 = .ok (.iconst 0, 1) := by decide +kernel
theorem d_Pa_isItem_40 : decode q_mPa_isItem.1 40 = .ok (.ireturn, 1) := by decide +kernel
theorem d_Pa_standsForItself_0 : decode q_mPa_standsForItself.1 0 = .ok (.iload_n 0, 1) := by decide +kernel
theorem d_Pa_standsForItself_1 : decode q_mPa_standsForItself.1 1 = .ok (.lookupswitch 117 #[(-1, 115), (40, 115), (41, 115), (42, 115), (43, 115), (46, 115), (63, 115), (91, 115), (92, 115), (93, 115), (123, 115), (124, 115), (125, 115)], 115) := by decide +kernel
theorem d_Pa_standsForItself_116 : decode q_mPa_standsForItself.1 116 = .ok (.iconst 0, 1) := by decide +kernel
theorem d_Pa_standsForItself_117 : decode q_mPa_standsForItself.1 117 = .ok (.ireturn, 1) := by decide +kernel
theorem d_Pa_standsForItself_118 : decode q_mPa_standsForItself.1 118 = .ok (.iconst 1, 1) := by decide +kernel
theorem d_Pa_standsForItself_119 : decode q_mPa_standsForItself.1 119 = .ok (.ireturn, 1) := by decide +kernel
theorem d_Pa_readCount_0 : decode q_mPa_readCount.1 0 = .ok (.aload_n 0, 1) := by decide +kernel
theorem d_Pa_readCount_1 : decode q_mPa_readCount.1 1 = .ok (.invokevirtual 53, 3) := by decide +kernel
theorem d_Pa_readCount_4 : decode q_mPa_readCount.1 4 = .ok (.lookupswitch 126 #[(42, 44), (43, 67), (63, 90), (123, 108)], 44) := by decide +kernel
theorem d_Pa_readCount_48 : decode q_mPa_readCount.1 48 = .ok (.aload_n 1, 1) := by decide +kernel
theorem d_Pa_readCount_49 : decode q_mPa_readCount.1 49 = .ok (.iconst 0, 1) := by decide +kernel
theorem d_Pa_readCount_50 : decode q_mPa_readCount.1 50 = .ok (.putfield 127, 3) := by decide +kernel
theorem d_Pa_readCount_53 : decode q_mPa_readCount.1 53 = .ok (.aload_n 1, 1) := by decide +kernel
theorem d_Pa_readCount_54 : decode q_mPa_readCount.1 54 = .ok (.iconst 1, 1) := by decide +kernel
theorem d_Pa_readCount_55 : decode q_mPa_readCount.1 55 = .ok (.putfield 130, 3) := by decide +kernel
theorem d_Pa_readCount_58 : decode q_mPa_readCount.1 58 = .ok (.aload_n 0, 1) := by decide +kernel
theorem d_Pa_readCount_59 : decode q_mPa_readCount.1 59 = .ok (.dup, 1) := by decide +kernel
theorem d_Pa_readCount_60 : decode q_mPa_readCount.1 60 = .ok (.getfield 15, 3) := by decide +kernel
theorem d_Pa_readCount_63 : decode q_mPa_readCount.1 63 = .ok (.iconst 1, 1) := by decide +kernel
theorem d_Pa_readCount_64 : decode q_mPa_readCount.1 64 = .ok (.iadd, 1) := by decide +kernel
theorem d_Pa_readCount_65 : decode q_mPa_readCount.1 65 = .ok (.putfield 15, 3) := by decide +kernel
theorem d_Pa_readCount_68 : decode q_mPa_readCount.1 68 = .ok (.goto 63, 3) := by decide +kernel
theorem d_Pa_readCount_71 : decode q_mPa_readCount.1 71 = .ok (.aload_n 1, 1) := by decide +kernel
theorem d_Pa_readCount_72 : decode q_mPa_readCount.1 72 = .ok (.iconst 0, 1) := by decide +kernel
theorem d_Pa_readCount_73 : decode q_mPa_readCount.1 73 = .ok (.putfield 127, 3) := by decide +kernel
theorem d_Pa_readCount_76 : decode q_mPa_readCount.1 76 = .ok (.aload_n 1, 1) := by decide +kernel
theorem d_Pa_readCount_77 : decode q_mPa_readCount.1 77 = .ok (.iconst 1, 1) := by decide +kernel
theorem d_Pa_readCount_78 : decode q_mPa_readCount.1 78 = .ok (.putfield 134, 3) := by decide +kernel
theorem d_Pa_readCount_81 : decode q_mPa_readCount.1 81 = .ok (.aload_n 0, 1) := by decide +kernel
theorem d_Pa_readCount_82 : decode q_mPa_readCount.1 82 = .ok (.dup, 1) := by decide +kernel
theorem d_Pa_readCount_83 : decode q_mPa_readCount.1 83 = .ok (.getfield 15, 3) := by decide +kernel
theorem d_Pa_readCount_86 : decode q_mPa_readCount.1 86 = .ok (.iconst 1, 1) := by decide +kernel
theorem d_Pa_readCount_87 : decode q_mPa_readCount.1 87 = .ok (.iadd, 1) := by decide +kernel
theorem d_Pa_readCount_88 : decode q_mPa_readCount.1 88 = .ok (.putfield 15, 3) := by decide +kernel
theorem d_Pa_readCount_91 : decode q_mPa_readCount.1 91 = .ok (.goto 40, 3) := by decide +kernel
theorem d_Pa_readCount_94 : decode q_mPa_readCount.1 94 = .ok (.aload_n 1, 1) := by decide +kernel
theorem d_Pa_readCount_95 : decode q_mPa_readCount.1 95 = .ok (.iconst 0, 1) := by decide +kernel
theorem d_Pa_readCount_96 : decode q_mPa_readCount.1 96 = .ok (.putfield 127, 3) := by decide +kernel
theorem d_Pa_readCount_99 : decode q_mPa_readCount.1 99 = .ok (.aload_n 0, 1) := by decide +kernel
theorem d_Pa_readCount_100 : decode q_mPa_readCount.1 100 = .ok (.dup, 1) := by decide +kernel
theorem d_Pa_readCount_101 : decode q_mPa_readCount.1 101 = .ok (.getfield 15, 3) := by decide +kernel
theorem d_Pa_readCount_104 : decode q_mPa_readCount.1 104 = .ok (.iconst 1, 1) := by decide +kernel
theorem d_Pa_readCount_105 : decode q_mPa_readCount.1 105 = .ok (.iadd, 1) := by decide +kernel
theorem d_Pa_readCount_106 : decode q_mPa_readCount.1 106 = .ok (.putfield 15, 3) := by decide +kernel
theorem d_Pa_readCount_109 : decode q_mPa_readCount.1 109 = .ok (.goto 22, 3) := by decide +kernel
theorem d_Pa_readCount_112 : decode q_mPa_readCount.1 112 = .ok (.aload_n 0, 1) := by decide +kernel
theorem d_Pa_readCount_113 : decode q_mPa_readCount.1 113 = .ok (.dup, 1) := by decide +kernel
theorem d_Pa_readCount_114 : decode q_mPa_readCount.1 114 = .ok (.getfield 15, 3) := by decide +kernel
theorem d_Pa_readCount_117 : decode q_mPa_readCount.1 117 = .ok (.iconst 1, 1) := by decide +kernel
theorem d_Pa_readCount_118 : decode q_mPa_readCount.1 118 = .ok (.iadd, 1) := by decide +kernel
theorem d_Pa_readCount_119 : decode q_mPa_readCount.1 119 = .ok (.putfield 15, 3) := by decide +kernel
theorem d_Pa_readCount_122 : decode q_mPa_readCount.1 122 = .ok (.aload_n 0, 1) := by decide +kernel
theorem d_Pa_readCount_123 : decode q_mPa_readCount.1 123 = .ok (.aload_n 1, 1) := by decide +kernel
theorem d_Pa_readCount_124 : decode q_mPa_readCount.1 124 = .ok (.invokevirtual 137, 3) := by decide +kernel
theorem d_Pa_readCount_127 : decode q_mPa_readCount.1 127 = .ok (.goto 4, 3) := by decide +kernel
theorem d_Pa_readCount_130 : decode q_mPa_readCount.1 130 = .ok (.return_, 1) := by decide +kernel
theorem d_Pa_readCount_131 : decode q_mPa_readCount.1 131 = .ok (.aload_n 0, 1) := by decide +kernel
theorem d_Pa_readCount_132 : decode q_mPa_readCount.1 132 = .ok (.getfield 21, 3) := by decide +kernel
theorem d_Pa_readCount_135 : decode q_mPa_readCount.1 135 = .ok (.iconst (-1), 1) := by decide +kernel
theorem d_Pa_readCount_136 : decode q_mPa_readCount.1 136 = .ok (.if_icmp .ne 27, 3) := by decide +kernel
theorem d_Pa_readCount_139 : decode q_mPa_readCount.1 139 = .ok (.aload_n 0, 1) := by decide +kernel
theorem d_Pa_readCount_140 : decode q_mPa_readCount.1 140 = .ok (.invokevirtual 53, 3) := by decide +kernel
theorem d_Pa_readCount_143 : decode q_mPa_readCount.1 143 = .ok (.bipush 63, 2) := by decide +kernel
theorem d_Pa_readCount_145 : decode q_mPa_readCount.1 145 = .ok (.if_icmp .ne 18, 3) := by decide +kernel
theorem d_Pa_readCount_148 : decode q_mPa_readCount.1 148 = .ok (.aload_n 1, 1) := by decide +kernel
theorem d_Pa_readCount_149 : decode q_mPa_readCount.1 149 = .ok (.iconst 1, 1) := by decide +kernel
theorem d_Pa_readCount_150 : decode q_mPa_readCount.1 150 = .ok (.putfield 140, 3) := by decide +kernel
theorem d_Pa_readCount_153 : decode q_mPa_readCount.1 153 = .ok (.aload_n 0, 1) := by decide +kernel
theorem d_Pa_readCount_154 : decode q_mPa_readCount.1 154 = .ok (.dup, 1) := by decide +kernel
theorem d_Pa_readCount_155 : decode q_mPa_readCount.1 155 = .ok (.getfield 15, 3) := by decide +kernel
theorem d_Pa_readCount_158 : decode q_mPa_readCount.1 158 = .ok (.iconst 1, 1) := by decide +kernel
theorem d_Pa_readCount_159 : decode q_mPa_readCount.1 159 = .ok (.iadd, 1) := by decide +kernel
theorem d_Pa_readCount_160 : decode q_mPa_readCount.1 160 = .ok (.putfield 15, 3) := by decide +kernel
theorem d_Pa_readCount_163 : decode q_mPa_readCount.1 163 = .ok (.return_, 1) := by decide +kernel
theorem d_Pa_readBraces_0 : decode q_mPa_readBraces.1 0 = .ok (.aload_n 0, 1) := by decide +kernel
theorem d_Pa_readBraces_1 : decode q_mPa_readBraces.1 1 = .ok (.invokevirtual 53, 3) := by decide +kernel
theorem d_Pa_readBraces_4 : decode q_mPa_readBraces.1 4 = .ok (.invokestatic 143, 3) := by decide +kernel
theorem d_Pa_readBraces_7 : decode q_mPa_readBraces.1 7 = .ok (.istore_n 2, 1) := by decide +kernel
theorem d_Pa_readBraces_8 : decode q_mPa_readBraces.1 8 = .ok (.iload_n 2, 1) := by decide +kernel
theorem d_Pa_readBraces_9 : decode q_mPa_readBraces.1 9 = .ok (.iconst (-1), 1) := by decide +kernel
theorem d_Pa_readBraces_10 : decode q_mPa_readBraces.1 10 = .ok (.if_icmp .ne 8, 3) := by decide +kernel
theorem d_Pa_readBraces_13 : decode q_mPa_readBraces.1 13 = .ok (.aload_n 0, 1) := by decide +kernel
theorem d_Pa_readBraces_14 : decode q_mPa_readBraces.1 14 = .ok (.invokevirtual 47, 3) := by decide +kernel
theorem d_Pa_readBraces_17 : decode q_mPa_readBraces.1 17 = .ok (.return_, 1) := by decide +kernel
theorem d_Pa_readBraces_18 : decode q_mPa_readBraces.1 18 = .ok (.aload_n 0, 1) := by decide +kernel
theorem d_Pa_readBraces_19 : decode q_mPa_readBraces.1 19 = .ok (.dup, 1) := by decide +kernel
theorem d_Pa_readBraces_20 : decode q_mPa_readBraces.1 20 = .ok (.getfield 15, 3) := by decide +kernel
theorem d_Pa_readBraces_23 : decode q_mPa_readBraces.1 23 = .ok (.iconst 1, 1) := by decide +kernel
theorem d_Pa_readBraces_24 : decode q_mPa_readBraces.1 24 = .ok (.iadd, 1) := by decide +kernel
theorem d_Pa_readBraces_25 : decode q_mPa_readBraces.1 25 = .ok (.putfield 15, 3) := by decide +kernel
theorem d_Pa_readBraces_28 : decode q_mPa_readBraces.1 28 = .ok (.aload_n 1, 1) := by decide +kernel
theorem d_Pa_readBraces_29 : decode q_mPa_readBraces.1 29 = .ok (.iload_n 2, 1) := by decide +kernel
theorem d_Pa_readBraces_30 : decode q_mPa_readBraces.1 30 = .ok (.putfield 127, 3) := by decide +kernel
theorem d_Pa_readBraces_33 : decode q_mPa_readBraces.1 33 = .ok (.aload_n 1, 1) := by decide +kernel
theorem d_Pa_readBraces_34 : decode q_mPa_readBraces.1 34 = .ok (.iload_n 2, 1) := by decide +kernel
theorem d_Pa_readBraces_35 : decode q_mPa_readBraces.1 35 = .ok (.putfield 147, 3) := by decide +kernel
theorem d_Pa_readBraces_38 : decode q_mPa_readBraces.1 38 = .ok (.aload_n 0, 1) := by decide +kernel
theorem d_Pa_readBraces_39 : decode q_mPa_readBraces.1 39 = .ok (.invokevirtual 53, 3) := by decide +kernel
theorem d_Pa_readBraces_42 : decode q_mPa_readBraces.1 42 = .ok (.bipush 44, 2) := by decide +kernel
theorem d_Pa_readBraces_44 : decode q_mPa_readBraces.1 44 = .ok (.if_icmp .ne 18, 3) := by decide +kernel
theorem d_Pa_readBraces_47 : decode q_mPa_readBraces.1 47 = .ok (.aload_n 0, 1) := by decide +kernel
theorem d_Pa_readBraces_48 : decode q_mPa_readBraces.1 48 = .ok (.dup, 1) := by decide +kernel
theorem d_Pa_readBraces_49 : decode q_mPa_readBraces.1 49 = .ok (.getfield 15, 3) := by decide +kernel
theorem d_Pa_readBraces_52 : decode q_mPa_readBraces.1 52 = .ok (.iconst 1, 1) := by decide +kernel
theorem d_Pa_readBraces_53 : decode q_mPa_readBraces.1 53 = .ok (.iadd, 1) := by decide +kernel
theorem d_Pa_readBraces_54 : decode q_mPa_readBraces.1 54 = .ok (.putfield 15, 3) := by decide +kernel
theorem d_Pa_readBraces_57 : decode q_mPa_readBraces.1 57 = .ok (.aload_n 0, 1) := by decide +kernel
theorem d_Pa_readBraces_58 : decode q_mPa_readBraces.1 58 = .ok (.aload_n 1, 1) := by decide +kernel
theorem d_Pa_readBraces_59 : decode q_mPa_readBraces.1 59 = .ok (.invokevirtual 150, 3) := by decide +kernel
theorem d_Pa_readBraces_62 : decode q_mPa_readBraces.1 62 = .ok (.aload_n 0, 1) := by decide +kernel
theorem d_Pa_readBraces_63 : decode q_mPa_readBraces.1 63 = .ok (.bipush 125, 2) := by decide +kernel
theorem d_Pa_readBraces_65 : decode q_mPa_readBraces.1 65 = .ok (.invokevirtual 89, 3) := by decide +kernel
theorem d_Pa_readBraces_68 : decode q_mPa_readBraces.1 68 = .ok (.return_, 1) := by decide +kernel
theorem d_Pa_digit_0 : decode q_mPa_digit.1 0 = .ok (.iload_n 0, 1) := by decide +kernel
theorem d_Pa_digit_1 : decode q_mPa_digit.1 1 = .ok (.bipush 48, 2) := by decide +kernel
theorem d_Pa_digit_3 : decode q_mPa_digit.1 3 = .ok (.if_icmp .lt 16, 3) := by decide +kernel
theorem d_Pa_digit_6 : decode q_mPa_digit.1 6 = .ok (.iload_n 0, 1) := by decide +kernel
theorem d_Pa_digit_7 : decode q_mPa_digit.1 7 = .ok (.bipush 57, 2) := by decide +kernel
theorem d_Pa_digit_9 : decode q_mPa_digit.1 9 = .ok (.if_icmp .gt 10, 3) := by decide +kernel
theorem d_Pa_digit_12 : decode q_mPa_digit.1 12 = .ok (.iload_n 0, 1) := by decide +kernel
theorem d_Pa_digit_13 : decode q_mPa_digit.1 13 = .ok (.bipush 48, 2) := by decide +kernel
theorem d_Pa_digit_15 : decode q_mPa_digit.1 15 = .ok (.isub, 1) := by decide +kernel
theorem d_Pa_digit_16 : decode q_mPa_digit.1 16 = .ok (.goto 4, 3) := by decide +kernel
theorem d_Pa_digit_19 : decode q_mPa_digit.1 19 = .ok (.iconst (-1), 1) := by decide +kernel
theorem d_Pa_digit_20 : decode q_mPa_digit.1 20 = .ok (.ireturn, 1) := by decide +kernel
theorem d_Pa_readMost_0 : decode q_mPa_readMost.1 0 = .ok (.aload_n 0, 1) := by decide +kernel
theorem d_Pa_readMost_1 : decode q_mPa_readMost.1 1 = .ok (.invokevirtual 53, 3) := by decide +kernel
theorem d_Pa_readMost_4 : decode q_mPa_readMost.1 4 = .ok (.bipush 125, 2) := by decide +kernel
theorem d_Pa_readMost_6 : decode q_mPa_readMost.1 6 = .ok (.if_icmp .ne 9, 3) := by decide +kernel
theorem d_Pa_readMost_9 : decode q_mPa_readMost.1 9 = .ok (.aload_n 1, 1) := by decide +kernel
theorem d_Pa_readMost_10 : decode q_mPa_readMost.1 10 = .ok (.iconst 1, 1) := by decide +kernel
theorem d_Pa_readMost_11 : decode q_mPa_readMost.1 11 = .ok (.putfield 130, 3) := by decide +kernel
theorem d_Pa_readMost_14 : decode q_mPa_readMost.1 14 = .ok (.return_, 1) := by decide +kernel
theorem d_Pa_readMost_15 : decode q_mPa_readMost.1 15 = .ok (.aload_n 0, 1) := by decide +kernel
theorem d_Pa_readMost_16 : decode q_mPa_readMost.1 16 = .ok (.invokevirtual 53, 3) := by decide +kernel
theorem d_Pa_readMost_19 : decode q_mPa_readMost.1 19 = .ok (.invokestatic 143, 3) := by decide +kernel
theorem d_Pa_readMost_22 : decode q_mPa_readMost.1 22 = .ok (.istore_n 2, 1) := by decide +kernel
theorem d_Pa_readMost_23 : decode q_mPa_readMost.1 23 = .ok (.iload_n 2, 1) := by decide +kernel
theorem d_Pa_readMost_24 : decode q_mPa_readMost.1 24 = .ok (.aload_n 1, 1) := by decide +kernel
theorem d_Pa_readMost_25 : decode q_mPa_readMost.1 25 = .ok (.getfield 127, 3) := by decide +kernel
theorem d_Pa_readMost_28 : decode q_mPa_readMost.1 28 = .ok (.if_icmp .ge 8, 3) := by decide +kernel
theorem d_Pa_readMost_31 : decode q_mPa_readMost.1 31 = .ok (.aload_n 0, 1) := by decide +kernel
theorem d_Pa_readMost_32 : decode q_mPa_readMost.1 32 = .ok (.invokevirtual 47, 3) := by decide +kernel
theorem d_Pa_readMost_35 : decode q_mPa_readMost.1 35 = .ok (.return_, 1) := by decide +kernel
theorem d_Pa_readMost_36 : decode q_mPa_readMost.1 36 = .ok (.aload_n 0, 1) := by decide +kernel
theorem d_Pa_readMost_37 : decode q_mPa_readMost.1 37 = .ok (.dup, 1) := by decide +kernel
theorem d_Pa_readMost_38 : decode q_mPa_readMost.1 38 = .ok (.getfield 15, 3) := by decide +kernel
theorem d_Pa_readMost_41 : decode q_mPa_readMost.1 41 = .ok (.iconst 1, 1) := by decide +kernel
theorem d_Pa_readMost_42 : decode q_mPa_readMost.1 42 = .ok (.iadd, 1) := by decide +kernel
theorem d_Pa_readMost_43 : decode q_mPa_readMost.1 43 = .ok (.putfield 15, 3) := by decide +kernel
theorem d_Pa_readMost_46 : decode q_mPa_readMost.1 46 = .ok (.aload_n 1, 1) := by decide +kernel
theorem d_Pa_readMost_47 : decode q_mPa_readMost.1 47 = .ok (.iload_n 2, 1) := by decide +kernel
theorem d_Pa_readMost_48 : decode q_mPa_readMost.1 48 = .ok (.putfield 147, 3) := by decide +kernel
theorem d_Pa_readMost_51 : decode q_mPa_readMost.1 51 = .ok (.return_, 1) := by decide +kernel
theorem d_Pr_init_0 : decode q_mPr_init.1 0 = .ok (.aload_n 0, 1) := by decide +kernel
theorem d_Pr_init_1 : decode q_mPr_init.1 1 = .ok (.invokespecial 3, 3) := by decide +kernel
theorem d_Pr_init_4 : decode q_mPr_init.1 4 = .ok (.aload_n 0, 1) := by decide +kernel
theorem d_Pr_init_5 : decode q_mPr_init.1 5 = .ok (.sipush 160, 3) := by decide +kernel
theorem d_Pr_init_8 : decode q_mPr_init.1 8 = .ok (.newarray .int, 2) := by decide +kernel
theorem d_Pr_init_10 : decode q_mPr_init.1 10 = .ok (.putfield 9, 3) := by decide +kernel
theorem d_Pr_init_13 : decode q_mPr_init.1 13 = .ok (.aload_n 0, 1) := by decide +kernel
theorem d_Pr_init_14 : decode q_mPr_init.1 14 = .ok (.sipush 160, 3) := by decide +kernel
theorem d_Pr_init_17 : decode q_mPr_init.1 17 = .ok (.newarray .int, 2) := by decide +kernel
theorem d_Pr_init_19 : decode q_mPr_init.1 19 = .ok (.putfield 15, 3) := by decide +kernel
theorem d_Pr_init_22 : decode q_mPr_init.1 22 = .ok (.aload_n 0, 1) := by decide +kernel
theorem d_Pr_init_23 : decode q_mPr_init.1 23 = .ok (.sipush 160, 3) := by decide +kernel
theorem d_Pr_init_26 : decode q_mPr_init.1 26 = .ok (.newarray .int, 2) := by decide +kernel
theorem d_Pr_init_28 : decode q_mPr_init.1 28 = .ok (.putfield 18, 3) := by decide +kernel
theorem d_Pr_init_31 : decode q_mPr_init.1 31 = .ok (.aload_n 0, 1) := by decide +kernel
theorem d_Pr_init_32 : decode q_mPr_init.1 32 = .ok (.iconst 0, 1) := by decide +kernel
theorem d_Pr_init_33 : decode q_mPr_init.1 33 = .ok (.putfield 21, 3) := by decide +kernel
theorem d_Pr_init_36 : decode q_mPr_init.1 36 = .ok (.aload_n 0, 1) := by decide +kernel
theorem d_Pr_init_37 : decode q_mPr_init.1 37 = .ok (.iconst 0, 1) := by decide +kernel
theorem d_Pr_init_38 : decode q_mPr_init.1 38 = .ok (.putfield 25, 3) := by decide +kernel
theorem d_Pr_init_41 : decode q_mPr_init.1 41 = .ok (.return_, 1) := by decide +kernel
theorem d_Pr_isWritten_0 : decode q_mPr_isWritten.1 0 = .ok (.aload_n 0, 1) := by decide +kernel
theorem d_Pr_isWritten_1 : decode q_mPr_isWritten.1 1 = .ok (.getfield 21, 3) := by decide +kernel
theorem d_Pr_isWritten_4 : decode q_mPr_isWritten.1 4 = .ok (.ifCond .le 7, 3) := by decide +kernel
theorem d_Pr_isWritten_7 : decode q_mPr_isWritten.1 7 = .ok (.iconst 1, 1) := by decide +kernel
theorem d_Pr_isWritten_8 : decode q_mPr_isWritten.1 8 = .ok (.goto 4, 3) := by decide +kernel
theorem d_Pr_isWritten_11 : decode q_mPr_isWritten.1 11 = .ok (.iconst 0, 1) := by decide +kernel
theorem d_Pr_isWritten_12 : decode q_mPr_isWritten.1 12 = .ok (.ireturn, 1) := by decide +kernel
theorem d_Pr_erase_0 : decode q_mPr_erase.1 0 = .ok (.aload_n 0, 1) := by decide +kernel
theorem d_Pr_erase_1 : decode q_mPr_erase.1 1 = .ok (.iconst 0, 1) := by decide +kernel
theorem d_Pr_erase_2 : decode q_mPr_erase.1 2 = .ok (.putfield 21, 3) := by decide +kernel
theorem d_Pr_erase_5 : decode q_mPr_erase.1 5 = .ok (.aload_n 0, 1) := by decide +kernel
theorem d_Pr_erase_6 : decode q_mPr_erase.1 6 = .ok (.iconst 0, 1) := by decide +kernel
theorem d_Pr_erase_7 : decode q_mPr_erase.1 7 = .ok (.putfield 25, 3) := by decide +kernel
theorem d_Pr_erase_10 : decode q_mPr_erase.1 10 = .ok (.return_, 1) := by decide +kernel
theorem d_Pr_has_0 : decode q_mPr_has.1 0 = .ok (.iload_n 1, 1) := by decide +kernel
theorem d_Pr_has_1 : decode q_mPr_has.1 1 = .ok (.ifCond .lt 22, 3) := by decide +kernel
theorem d_Pr_has_4 : decode q_mPr_has.1 4 = .ok (.iload_n 1, 1) := by decide +kernel
theorem d_Pr_has_5 : decode q_mPr_has.1 5 = .ok (.aload_n 0, 1) := by decide +kernel
theorem d_Pr_has_6 : decode q_mPr_has.1 6 = .ok (.getfield 21, 3) := by decide +kernel
theorem d_Pr_has_9 : decode q_mPr_has.1 9 = .ok (.if_icmp .ge 14, 3) := by decide +kernel
theorem d_Pr_has_12 : decode q_mPr_has.1 12 = .ok (.iload_n 1, 1) := by decide +kernel
theorem d_Pr_has_13 : decode q_mPr_has.1 13 = .ok (.sipush 160, 3) := by decide +kernel
theorem d_Pr_has_16 : decode q_mPr_has.1 16 = .ok (.if_icmp .ge 7, 3) := by decide +kernel
theorem d_Pr_has_19 : decode q_mPr_has.1 19 = .ok (.iconst 1, 1) := by decide +kernel
theorem d_Pr_has_20 : decode q_mPr_has.1 20 = .ok (.goto 4, 3) := by decide +kernel
theorem d_Pr_has_23 : decode q_mPr_has.1 23 = .ok (.iconst 0, 1) := by decide +kernel
theorem d_Pr_has_24 : decode q_mPr_has.1 24 = .ok (.ireturn, 1) := by decide +kernel
theorem d_Pr_kindOf_0 : decode q_mPr_kindOf.1 0 = .ok (.aload_n 0, 1) := by decide +kernel
theorem d_Pr_kindOf_1 : decode q_mPr_kindOf.1 1 = .ok (.iload_n 1, 1) := by decide +kernel
theorem d_Pr_kindOf_2 : decode q_mPr_kindOf.1 2 = .ok (.invokevirtual 28, 3) := by decide +kernel
theorem d_Pr_kindOf_5 : decode q_mPr_kindOf.1 5 = .ok (.ifCond .eq 12, 3) := by decide +kernel
theorem d_Pr_kindOf_8 : decode q_mPr_kindOf.1 8 = .ok (.aload_n 0, 1) := by decide +kernel
theorem d_Pr_kindOf_9 : decode q_mPr_kindOf.1 9 = .ok (.getfield 9, 3) := by decide +kernel
theorem d_Pr_kindOf_12 : decode q_mPr_kindOf.1 12 = .ok (.iload_n 1, 1) := by decide +kernel
theorem d_Pr_kindOf_13 : decode q_mPr_kindOf.1 13 = .ok (.iaload, 1) := by decide +kernel
theorem d_Pr_kindOf_14 : decode q_mPr_kindOf.1 14 = .ok (.goto 4, 3) := by decide +kernel
theorem d_Pr_kindOf_17 : decode q_mPr_kindOf.1 17 = .ok (.iconst (-1), 1) := by decide +kernel
theorem d_Pr_kindOf_18 : decode q_mPr_kindOf.1 18 = .ok (.ireturn, 1) := by decide +kernel
theorem d_Pr_xOf_0 : decode q_mPr_xOf.1 0 = .ok (.aload_n 0, 1) := by decide +kernel
theorem d_Pr_xOf_1 : decode q_mPr_xOf.1 1 = .ok (.iload_n 1, 1) := by decide +kernel
theorem d_Pr_xOf_2 : decode q_mPr_xOf.1 2 = .ok (.invokevirtual 28, 3) := by decide +kernel
theorem d_Pr_xOf_5 : decode q_mPr_xOf.1 5 = .ok (.ifCond .eq 12, 3) := by decide +kernel
theorem d_Pr_xOf_8 : decode q_mPr_xOf.1 8 = .ok (.aload_n 0, 1) := by decide +kernel
theorem d_Pr_xOf_9 : decode q_mPr_xOf.1 9 = .ok (.getfield 15, 3) := by decide +kernel
theorem d_Pr_xOf_12 : decode q_mPr_xOf.1 12 = .ok (.iload_n 1, 1) := by decide +kernel
theorem d_Pr_xOf_13 : decode q_mPr_xOf.1 13 = .ok (.iaload, 1) := by decide +kernel
theorem d_Pr_xOf_14 : decode q_mPr_xOf.1 14 = .ok (.goto 4, 3) := by decide +kernel
theorem d_Pr_xOf_17 : decode q_mPr_xOf.1 17 = .ok (.iconst (-1), 1) := by decide +kernel
theorem d_Pr_xOf_18 : decode q_mPr_xOf.1 18 = .ok (.ireturn, 1) := by decide +kernel
theorem d_Pr_yOf_0 : decode q_mPr_yOf.1 0 = .ok (.aload_n 0, 1) := by decide +kernel
theorem d_Pr_yOf_1 : decode q_mPr_yOf.1 1 = .ok (.iload_n 1, 1) := by decide +kernel
theorem d_Pr_yOf_2 : decode q_mPr_yOf.1 2 = .ok (.invokevirtual 28, 3) := by decide +kernel
theorem d_Pr_yOf_5 : decode q_mPr_yOf.1 5 = .ok (.ifCond .eq 12, 3) := by decide +kernel
theorem d_Pr_yOf_8 : decode q_mPr_yOf.1 8 = .ok (.aload_n 0, 1) := by decide +kernel
theorem d_Pr_yOf_9 : decode q_mPr_yOf.1 9 = .ok (.getfield 18, 3) := by decide +kernel
theorem d_Pr_yOf_12 : decode q_mPr_yOf.1 12 = .ok (.iload_n 1, 1) := by decide +kernel
theorem d_Pr_yOf_13 : decode q_mPr_yOf.1 13 = .ok (.iaload, 1) := by decide +kernel
theorem d_Pr_yOf_14 : decode q_mPr_yOf.1 14 = .ok (.goto 4, 3) := by decide +kernel
theorem d_Pr_yOf_17 : decode q_mPr_yOf.1 17 = .ok (.iconst (-1), 1) := by decide +kernel
theorem d_Pr_yOf_18 : decode q_mPr_yOf.1 18 = .ok (.ireturn, 1) := by decide +kernel
theorem d_Pr_write_0 : decode q_mPr_write.1 0 = .ok (.aload_n 0, 1) := by decide +kernel
theorem d_Pr_write_1 : decode q_mPr_write.1 1 = .ok (.invokevirtual 32, 3) := by decide +kernel
theorem d_Pr_write_4 : decode q_mPr_write.1 4 = .ok (.aload_n 0, 1) := by decide +kernel
theorem d_Pr_write_5 : decode q_mPr_write.1 5 = .ok (.iload_n 2, 1) := by decide +kernel
theorem d_Pr_write_6 : decode q_mPr_write.1 6 = .ok (.putfield 25, 3) := by decide +kernel
theorem d_Pr_write_9 : decode q_mPr_write.1 9 = .ok (.aload_n 0, 1) := by decide +kernel
theorem d_Pr_write_10 : decode q_mPr_write.1 10 = .ok (.iconst 3, 1) := by decide +kernel
theorem d_Pr_write_11 : decode q_mPr_write.1 11 = .ok (.iconst 0, 1) := by decide +kernel
theorem d_Pr_write_12 : decode q_mPr_write.1 12 = .ok (.iconst 0, 1) := by decide +kernel
theorem d_Pr_write_13 : decode q_mPr_write.1 13 = .ok (.invokevirtual 35, 3) := by decide +kernel
theorem d_Pr_write_16 : decode q_mPr_write.1 16 = .ok (.aload_n 0, 1) := by decide +kernel
theorem d_Pr_write_17 : decode q_mPr_write.1 17 = .ok (.aload_n 1, 1) := by decide +kernel
theorem d_Pr_write_18 : decode q_mPr_write.1 18 = .ok (.iconst 0, 1) := by decide +kernel
theorem d_Pr_write_19 : decode q_mPr_write.1 19 = .ok (.invokevirtual 39, 3) := by decide +kernel
theorem d_Pr_write_22 : decode q_mPr_write.1 22 = .ok (.aload_n 0, 1) := by decide +kernel
theorem d_Pr_write_23 : decode q_mPr_write.1 23 = .ok (.iconst 3, 1) := by decide +kernel
theorem d_Pr_write_24 : decode q_mPr_write.1 24 = .ok (.iconst 1, 1) := by decide +kernel
theorem d_Pr_write_25 : decode q_mPr_write.1 25 = .ok (.iconst 0, 1) := by decide +kernel
theorem d_Pr_write_26 : decode q_mPr_write.1 26 = .ok (.invokevirtual 35, 3) := by decide +kernel
theorem d_Pr_write_29 : decode q_mPr_write.1 29 = .ok (.aload_n 0, 1) := by decide +kernel
theorem d_Pr_write_30 : decode q_mPr_write.1 30 = .ok (.iconst 4, 1) := by decide +kernel
theorem d_Pr_write_31 : decode q_mPr_write.1 31 = .ok (.iconst 0, 1) := by decide +kernel
theorem d_Pr_write_32 : decode q_mPr_write.1 32 = .ok (.iconst 0, 1) := by decide +kernel
theorem d_Pr_write_33 : decode q_mPr_write.1 33 = .ok (.invokevirtual 35, 3) := by decide +kernel
theorem d_Pr_write_36 : decode q_mPr_write.1 36 = .ok (.return_, 1) := by decide +kernel
theorem d_Pr_add_0 : decode q_mPr_add.1 0 = .ok (.aload_n 0, 1) := by decide +kernel
theorem d_Pr_add_1 : decode q_mPr_add.1 1 = .ok (.getfield 21, 3) := by decide +kernel
theorem d_Pr_add_4 : decode q_mPr_add.1 4 = .ok (.ifCond .lt 13, 3) := by decide +kernel
theorem d_Pr_add_7 : decode q_mPr_add.1 7 = .ok (.aload_n 0, 1) := by decide +kernel
theorem d_Pr_add_8 : decode q_mPr_add.1 8 = .ok (.getfield 21, 3) := by decide +kernel
theorem d_Pr_add_11 : decode q_mPr_add.1 11 = .ok (.sipush 160, 3) := by decide +kernel
theorem d_Pr_add_14 : decode q_mPr_add.1 14 = .ok (.if_icmp .lt 4, 3) := by decide +kernel
theorem d_Pr_add_17 : decode q_mPr_add.1 17 = .ok (.return_, 1) := by decide +kernel
theorem d_Pr_add_18 : decode q_mPr_add.1 18 = .ok (.aload_n 0, 1) := by decide +kernel
theorem d_Pr_add_19 : decode q_mPr_add.1 19 = .ok (.getfield 9, 3) := by decide +kernel
theorem d_Pr_add_22 : decode q_mPr_add.1 22 = .ok (.aload_n 0, 1) := by decide +kernel
theorem d_Pr_add_23 : decode q_mPr_add.1 23 = .ok (.getfield 21, 3) := by decide +kernel
theorem d_Pr_add_26 : decode q_mPr_add.1 26 = .ok (.iload_n 1, 1) := by decide +kernel
theorem d_Pr_add_27 : decode q_mPr_add.1 27 = .ok (.iastore, 1) := by decide +kernel
theorem d_Pr_add_28 : decode q_mPr_add.1 28 = .ok (.aload_n 0, 1) := by decide +kernel
theorem d_Pr_add_29 : decode q_mPr_add.1 29 = .ok (.getfield 15, 3) := by decide +kernel
theorem d_Pr_add_32 : decode q_mPr_add.1 32 = .ok (.aload_n 0, 1) := by decide +kernel
theorem d_Pr_add_33 : decode q_mPr_add.1 33 = .ok (.getfield 21, 3) := by decide +kernel
theorem d_Pr_add_36 : decode q_mPr_add.1 36 = .ok (.iload_n 2, 1) := by decide +kernel
theorem d_Pr_add_37 : decode q_mPr_add.1 37 = .ok (.iastore, 1) := by decide +kernel
theorem d_Pr_add_38 : decode q_mPr_add.1 38 = .ok (.aload_n 0, 1) := by decide +kernel
theorem d_Pr_add_39 : decode q_mPr_add.1 39 = .ok (.getfield 18, 3) := by decide +kernel
theorem d_Pr_add_42 : decode q_mPr_add.1 42 = .ok (.aload_n 0, 1) := by decide +kernel
theorem d_Pr_add_43 : decode q_mPr_add.1 43 = .ok (.getfield 21, 3) := by decide +kernel
theorem d_Pr_add_46 : decode q_mPr_add.1 46 = .ok (.iload_n 3, 1) := by decide +kernel
theorem d_Pr_add_47 : decode q_mPr_add.1 47 = .ok (.iastore, 1) := by decide +kernel
theorem d_Pr_add_48 : decode q_mPr_add.1 48 = .ok (.aload_n 0, 1) := by decide +kernel
theorem d_Pr_add_49 : decode q_mPr_add.1 49 = .ok (.dup, 1) := by decide +kernel
theorem d_Pr_add_50 : decode q_mPr_add.1 50 = .ok (.getfield 21, 3) := by decide +kernel
theorem d_Pr_add_53 : decode q_mPr_add.1 53 = .ok (.iconst 1, 1) := by decide +kernel
theorem d_Pr_add_54 : decode q_mPr_add.1 54 = .ok (.iadd, 1) := by decide +kernel
theorem d_Pr_add_55 : decode q_mPr_add.1 55 = .ok (.putfield 21, 3) := by decide +kernel
theorem d_Pr_add_58 : decode q_mPr_add.1 58 = .ok (.return_, 1) := by decide +kernel
theorem d_Pr_writeChoice_0 : decode q_mPr_writeChoice.1 0 = .ok (.aload_n 1, 1) := by decide +kernel
theorem d_Pr_writeChoice_1 : decode q_mPr_writeChoice.1 1 = .ok (.ifnull 9, 3) := by decide +kernel
theorem d_Pr_writeChoice_4 : decode q_mPr_writeChoice.1 4 = .ok (.iload_n 2, 1) := by decide +kernel
theorem d_Pr_writeChoice_5 : decode q_mPr_writeChoice.1 5 = .ok (.bipush 8, 2) := by decide +kernel
theorem d_Pr_writeChoice_7 : decode q_mPr_writeChoice.1 7 = .ok (.if_icmp .le 4, 3) := by decide +kernel
theorem d_Pr_writeChoice_10 : decode q_mPr_writeChoice.1 10 = .ok (.return_, 1) := by decide +kernel
theorem d_Pr_writeChoice_11 : decode q_mPr_writeChoice.1 11 = .ok (.aload_n 0, 1) := by decide +kernel
theorem d_Pr_writeChoice_12 : decode q_mPr_writeChoice.1 12 = .ok (.getfield 21, 3) := by decide +kernel
theorem d_Pr_writeChoice_15 : decode q_mPr_writeChoice.1 15 = .ok (.aload_n 1, 1) := by decide +kernel
theorem d_Pr_writeChoice_16 : decode q_mPr_writeChoice.1 16 = .ok (.invokevirtual 43, 3) := by decide +kernel
theorem d_Pr_writeChoice_19 : decode q_mPr_writeChoice.1 19 = .ok (.iadd, 1) := by decide +kernel
theorem d_Pr_writeChoice_20 : decode q_mPr_writeChoice.1 20 = .ok (.istore_n 3, 1) := by decide +kernel
theorem d_Pr_writeChoice_21 : decode q_mPr_writeChoice.1 21 = .ok (.aload_n 1, 1) := by decide +kernel
theorem d_Pr_writeChoice_22 : decode q_mPr_writeChoice.1 22 = .ok (.astore 4, 2) := by decide +kernel
theorem d_Pr_writeChoice_24 : decode q_mPr_writeChoice.1 24 = .ok (.aload 4, 2) := by decide +kernel
theorem d_Pr_writeChoice_26 : decode q_mPr_writeChoice.1 26 = .ok (.ifnull 88, 3) := by decide +kernel
theorem d_Pr_writeChoice_29 : decode q_mPr_writeChoice.1 29 = .ok (.aload 4, 2) := by decide +kernel
theorem d_Pr_writeChoice_31 : decode q_mPr_writeChoice.1 31 = .ok (.getfield 49, 3) := by decide +kernel
theorem d_Pr_writeChoice_34 : decode q_mPr_writeChoice.1 34 = .ok (.ifnull 26, 3) := by decide +kernel
theorem d_Pr_writeChoice_37 : decode q_mPr_writeChoice.1 37 = .ok (.aload_n 0, 1) := by decide +kernel
theorem d_Pr_writeChoice_38 : decode q_mPr_writeChoice.1 38 = .ok (.iconst 1, 1) := by decide +kernel
theorem d_Pr_writeChoice_39 : decode q_mPr_writeChoice.1 39 = .ok (.aload_n 0, 1) := by decide +kernel
theorem d_Pr_writeChoice_40 : decode q_mPr_writeChoice.1 40 = .ok (.getfield 21, 3) := by decide +kernel
theorem d_Pr_writeChoice_43 : decode q_mPr_writeChoice.1 43 = .ok (.iconst 1, 1) := by decide +kernel
theorem d_Pr_writeChoice_44 : decode q_mPr_writeChoice.1 44 = .ok (.iadd, 1) := by decide +kernel
theorem d_Pr_writeChoice_45 : decode q_mPr_writeChoice.1 45 = .ok (.aload_n 0, 1) := by decide +kernel
theorem d_Pr_writeChoice_46 : decode q_mPr_writeChoice.1 46 = .ok (.getfield 21, 3) := by decide +kernel
theorem d_Pr_writeChoice_49 : decode q_mPr_writeChoice.1 49 = .ok (.aload 4, 2) := by decide +kernel
theorem d_Pr_writeChoice_51 : decode q_mPr_writeChoice.1 51 = .ok (.getfield 53, 3) := by decide +kernel
theorem d_Pr_writeChoice_54 : decode q_mPr_writeChoice.1 54 = .ok (.iadd, 1) := by decide +kernel
theorem d_Pr_writeChoice_55 : decode q_mPr_writeChoice.1 55 = .ok (.iconst 2, 1) := by decide +kernel
theorem d_Pr_writeChoice_56 : decode q_mPr_writeChoice.1 56 = .ok (.iadd, 1) := by decide +kernel
theorem d_Pr_writeChoice_57 : decode q_mPr_writeChoice.1 57 = .ok (.invokevirtual 35, 3) := by decide +kernel
theorem d_Pr_writeChoice_60 : decode q_mPr_writeChoice.1 60 = .ok (.aload 4, 2) := by decide +kernel
theorem d_Pr_writeChoice_62 : decode q_mPr_writeChoice.1 62 = .ok (.getfield 54, 3) := by decide +kernel
theorem d_Pr_writeChoice_65 : decode q_mPr_writeChoice.1 65 = .ok (.astore 5, 2) := by decide +kernel
theorem d_Pr_writeChoice_67 : decode q_mPr_writeChoice.1 67 = .ok (.aload 5, 2) := by decide +kernel
theorem d_Pr_writeChoice_69 : decode q_mPr_writeChoice.1 69 = .ok (.ifnull 20, 3) := by decide +kernel
theorem d_Pr_writeChoice_72 : decode q_mPr_writeChoice.1 72 = .ok (.aload_n 0, 1) := by decide +kernel
theorem d_Pr_writeChoice_73 : decode q_mPr_writeChoice.1 73 = .ok (.aload 5, 2) := by decide +kernel
theorem d_Pr_writeChoice_75 : decode q_mPr_writeChoice.1 75 = .ok (.iload_n 2, 1) := by decide +kernel
theorem d_Pr_writeChoice_76 : decode q_mPr_writeChoice.1 76 = .ok (.invokevirtual 58, 3) := by decide +kernel
theorem d_Pr_writeChoice_79 : decode q_mPr_writeChoice.1 79 = .ok (.aload 5, 2) := by decide +kernel
theorem d_Pr_writeChoice_81 : decode q_mPr_writeChoice.1 81 = .ok (.getfield 62, 3) := by decide +kernel
theorem d_Pr_writeChoice_84 : decode q_mPr_writeChoice.1 84 = .ok (.astore 5, 2) := by decide +kernel
theorem d_Pr_writeChoice_86 : decode q_mPr_writeChoice.1 86 = .ok (.goto (-19), 3) := by decide +kernel
theorem d_Pr_writeChoice_89 : decode q_mPr_writeChoice.1 89 = .ok (.aload 4, 2) := by decide +kernel
theorem d_Pr_writeChoice_91 : decode q_mPr_writeChoice.1 91 = .ok (.getfield 49, 3) := by decide +kernel
theorem d_Pr_writeChoice_94 : decode q_mPr_writeChoice.1 94 = .ok (.ifnull 10, 3) := by decide +kernel
theorem d_Pr_writeChoice_97 : decode q_mPr_writeChoice.1 97 = .ok (.aload_n 0, 1) := by decide +kernel
theorem d_Pr_writeChoice_98 : decode q_mPr_writeChoice.1 98 = .ok (.iconst 2, 1) := by decide +kernel
theorem d_Pr_writeChoice_99 : decode q_mPr_writeChoice.1 99 = .ok (.iload_n 3, 1) := by decide +kernel
theorem d_Pr_writeChoice_100 : decode q_mPr_writeChoice.1 100 = .ok (.iconst 0, 1) := by decide +kernel
theorem d_Pr_writeChoice_101 : decode q_mPr_writeChoice.1 101 = .ok (.invokevirtual 35, 3) := by decide +kernel
theorem d_Pr_writeChoice_104 : decode q_mPr_writeChoice.1 104 = .ok (.aload 4, 2) := by decide +kernel
theorem d_Pr_writeChoice_106 : decode q_mPr_writeChoice.1 106 = .ok (.getfield 49, 3) := by decide +kernel
theorem d_Pr_writeChoice_109 : decode q_mPr_writeChoice.1 109 = .ok (.astore 4, 2) := by decide +kernel
theorem d_Pr_writeChoice_111 : decode q_mPr_writeChoice.1 111 = .ok (.goto (-87), 3) := by decide +kernel
theorem d_Pr_writeChoice_114 : decode q_mPr_writeChoice.1 114 = .ok (.return_, 1) := by decide +kernel
end
section
theorem d_Pr_writeRepeat_0 : decode q_mPr_writeRepeat.1 0 = .ok (.iconst 0, 1) := by decide +kernel
theorem d_Pr_writeRepeat_1 : decode q_mPr_writeRepeat.1 1 = .ok (.istore_n 3, 1) := by decide +kernel
theorem d_Pr_writeRepeat_2 : decode q_mPr_writeRepeat.1 2 = .ok (.iload_n 3, 1) := by decide +kernel
theorem d_Pr_writeRepeat_3 : decode q_mPr_writeRepeat.1 3 = .ok (.aload_n 1, 1) := by decide +kernel
theorem d_Pr_writeRepeat_4 : decode q_mPr_writeRepeat.1 4 = .ok (.getfield 66, 3) := by decide +kernel
theorem d_Pr_writeRepeat_7 : decode q_mPr_writeRepeat.1 7 = .ok (.if_icmp .ge 15, 3) := by decide +kernel
theorem d_Pr_writeRepeat_10 : decode q_mPr_writeRepeat.1 10 = .ok (.aload_n 0, 1) := by decide +kernel
theorem d_Pr_writeRepeat_11 : decode q_mPr_writeRepeat.1 11 = .ok (.aload_n 1, 1) := by decide +kernel
theorem d_Pr_writeRepeat_12 : decode q_mPr_writeRepeat.1 12 = .ok (.iload_n 2, 1) := by decide +kernel
theorem d_Pr_writeRepeat_13 : decode q_mPr_writeRepeat.1 13 = .ok (.invokevirtual 69, 3) := by decide +kernel
theorem d_Pr_writeRepeat_16 : decode q_mPr_writeRepeat.1 16 = .ok (.iinc 3 1, 3) := by decide +kernel
theorem d_Pr_writeRepeat_19 : decode q_mPr_writeRepeat.1 19 = .ok (.goto (-17), 3) := by decide +kernel
theorem d_Pr_writeRepeat_22 : decode q_mPr_writeRepeat.1 22 = .ok (.aload_n 1, 1) := by decide +kernel
theorem d_Pr_writeRepeat_23 : decode q_mPr_writeRepeat.1 23 = .ok (.getfield 72, 3) := by decide +kernel
theorem d_Pr_writeRepeat_26 : decode q_mPr_writeRepeat.1 26 = .ok (.ifCond .eq 32, 3) := by decide +kernel
theorem d_Pr_writeRepeat_29 : decode q_mPr_writeRepeat.1 29 = .ok (.aload_n 0, 1) := by decide +kernel
theorem d_Pr_writeRepeat_30 : decode q_mPr_writeRepeat.1 30 = .ok (.getfield 21, 3) := by decide +kernel
theorem d_Pr_writeRepeat_33 : decode q_mPr_writeRepeat.1 33 = .ok (.istore_n 3, 1) := by decide +kernel
theorem d_Pr_writeRepeat_34 : decode q_mPr_writeRepeat.1 34 = .ok (.aload_n 0, 1) := by decide +kernel
theorem d_Pr_writeRepeat_35 : decode q_mPr_writeRepeat.1 35 = .ok (.aload_n 1, 1) := by decide +kernel
theorem d_Pr_writeRepeat_36 : decode q_mPr_writeRepeat.1 36 = .ok (.iload_n 2, 1) := by decide +kernel
theorem d_Pr_writeRepeat_37 : decode q_mPr_writeRepeat.1 37 = .ok (.invokevirtual 69, 3) := by decide +kernel
theorem d_Pr_writeRepeat_40 : decode q_mPr_writeRepeat.1 40 = .ok (.aload_n 0, 1) := by decide +kernel
theorem d_Pr_writeRepeat_41 : decode q_mPr_writeRepeat.1 41 = .ok (.iload_n 3, 1) := by decide +kernel
theorem d_Pr_writeRepeat_42 : decode q_mPr_writeRepeat.1 42 = .ok (.aload_n 0, 1) := by decide +kernel
theorem d_Pr_writeRepeat_43 : decode q_mPr_writeRepeat.1 43 = .ok (.getfield 21, 3) := by decide +kernel
theorem d_Pr_writeRepeat_46 : decode q_mPr_writeRepeat.1 46 = .ok (.iconst 1, 1) := by decide +kernel
theorem d_Pr_writeRepeat_47 : decode q_mPr_writeRepeat.1 47 = .ok (.iadd, 1) := by decide +kernel
theorem d_Pr_writeRepeat_48 : decode q_mPr_writeRepeat.1 48 = .ok (.aload_n 1, 1) := by decide +kernel
theorem d_Pr_writeRepeat_49 : decode q_mPr_writeRepeat.1 49 = .ok (.getfield 76, 3) := by decide +kernel
theorem d_Pr_writeRepeat_52 : decode q_mPr_writeRepeat.1 52 = .ok (.invokevirtual 79, 3) := by decide +kernel
theorem d_Pr_writeRepeat_55 : decode q_mPr_writeRepeat.1 55 = .ok (.goto 114, 3) := by decide +kernel
theorem d_Pr_writeRepeat_58 : decode q_mPr_writeRepeat.1 58 = .ok (.aload_n 1, 1) := by decide +kernel
theorem d_Pr_writeRepeat_59 : decode q_mPr_writeRepeat.1 59 = .ok (.getfield 83, 3) := by decide +kernel
theorem d_Pr_writeRepeat_62 : decode q_mPr_writeRepeat.1 62 = .ok (.ifCond .eq 43, 3) := by decide +kernel
theorem d_Pr_writeRepeat_65 : decode q_mPr_writeRepeat.1 65 = .ok (.aload_n 0, 1) := by decide +kernel
theorem d_Pr_writeRepeat_66 : decode q_mPr_writeRepeat.1 66 = .ok (.getfield 21, 3) := by decide +kernel
theorem d_Pr_writeRepeat_69 : decode q_mPr_writeRepeat.1 69 = .ok (.istore_n 3, 1) := by decide +kernel
theorem d_Pr_writeRepeat_70 : decode q_mPr_writeRepeat.1 70 = .ok (.aload_n 0, 1) := by decide +kernel
theorem d_Pr_writeRepeat_71 : decode q_mPr_writeRepeat.1 71 = .ok (.iload_n 3, 1) := by decide +kernel
theorem d_Pr_writeRepeat_72 : decode q_mPr_writeRepeat.1 72 = .ok (.iconst 1, 1) := by decide +kernel
theorem d_Pr_writeRepeat_73 : decode q_mPr_writeRepeat.1 73 = .ok (.iadd, 1) := by decide +kernel
theorem d_Pr_writeRepeat_74 : decode q_mPr_writeRepeat.1 74 = .ok (.iload_n 3, 1) := by decide +kernel
theorem d_Pr_writeRepeat_75 : decode q_mPr_writeRepeat.1 75 = .ok (.aload_n 1, 1) := by decide +kernel
theorem d_Pr_writeRepeat_76 : decode q_mPr_writeRepeat.1 76 = .ok (.getfield 86, 3) := by decide +kernel
theorem d_Pr_writeRepeat_79 : decode q_mPr_writeRepeat.1 79 = .ok (.iadd, 1) := by decide +kernel
theorem d_Pr_writeRepeat_80 : decode q_mPr_writeRepeat.1 80 = .ok (.iconst 2, 1) := by decide +kernel
theorem d_Pr_writeRepeat_81 : decode q_mPr_writeRepeat.1 81 = .ok (.iadd, 1) := by decide +kernel
theorem d_Pr_writeRepeat_82 : decode q_mPr_writeRepeat.1 82 = .ok (.aload_n 1, 1) := by decide +kernel
theorem d_Pr_writeRepeat_83 : decode q_mPr_writeRepeat.1 83 = .ok (.getfield 76, 3) := by decide +kernel
theorem d_Pr_writeRepeat_86 : decode q_mPr_writeRepeat.1 86 = .ok (.invokevirtual 79, 3) := by decide +kernel
theorem d_Pr_writeRepeat_89 : decode q_mPr_writeRepeat.1 89 = .ok (.aload_n 0, 1) := by decide +kernel
theorem d_Pr_writeRepeat_90 : decode q_mPr_writeRepeat.1 90 = .ok (.aload_n 1, 1) := by decide +kernel
theorem d_Pr_writeRepeat_91 : decode q_mPr_writeRepeat.1 91 = .ok (.iload_n 2, 1) := by decide +kernel
theorem d_Pr_writeRepeat_92 : decode q_mPr_writeRepeat.1 92 = .ok (.invokevirtual 69, 3) := by decide +kernel
theorem d_Pr_writeRepeat_95 : decode q_mPr_writeRepeat.1 95 = .ok (.aload_n 0, 1) := by decide +kernel
theorem d_Pr_writeRepeat_96 : decode q_mPr_writeRepeat.1 96 = .ok (.iconst 2, 1) := by decide +kernel
theorem d_Pr_writeRepeat_97 : decode q_mPr_writeRepeat.1 97 = .ok (.iload_n 3, 1) := by decide +kernel
theorem d_Pr_writeRepeat_98 : decode q_mPr_writeRepeat.1 98 = .ok (.iconst 0, 1) := by decide +kernel
theorem d_Pr_writeRepeat_99 : decode q_mPr_writeRepeat.1 99 = .ok (.invokevirtual 35, 3) := by decide +kernel
theorem d_Pr_writeRepeat_102 : decode q_mPr_writeRepeat.1 102 = .ok (.goto 67, 3) := by decide +kernel
theorem d_Pr_writeRepeat_105 : decode q_mPr_writeRepeat.1 105 = .ok (.aload_n 0, 1) := by decide +kernel
theorem d_Pr_writeRepeat_106 : decode q_mPr_writeRepeat.1 106 = .ok (.getfield 21, 3) := by decide +kernel
theorem d_Pr_writeRepeat_109 : decode q_mPr_writeRepeat.1 109 = .ok (.aload_n 1, 1) := by decide +kernel
theorem d_Pr_writeRepeat_110 : decode q_mPr_writeRepeat.1 110 = .ok (.getfield 89, 3) := by decide +kernel
theorem d_Pr_writeRepeat_113 : decode q_mPr_writeRepeat.1 113 = .ok (.aload_n 1, 1) := by decide +kernel
theorem d_Pr_writeRepeat_114 : decode q_mPr_writeRepeat.1 114 = .ok (.getfield 66, 3) := by decide +kernel
theorem d_Pr_writeRepeat_117 : decode q_mPr_writeRepeat.1 117 = .ok (.isub, 1) := by decide +kernel
theorem d_Pr_writeRepeat_118 : decode q_mPr_writeRepeat.1 118 = .ok (.aload_n 1, 1) := by decide +kernel
theorem d_Pr_writeRepeat_119 : decode q_mPr_writeRepeat.1 119 = .ok (.getfield 86, 3) := by decide +kernel
theorem d_Pr_writeRepeat_122 : decode q_mPr_writeRepeat.1 122 = .ok (.iconst 1, 1) := by decide +kernel
theorem d_Pr_writeRepeat_123 : decode q_mPr_writeRepeat.1 123 = .ok (.iadd, 1) := by decide +kernel
theorem d_Pr_writeRepeat_124 : decode q_mPr_writeRepeat.1 124 = .ok (.imul, 1) := by decide +kernel
theorem d_Pr_writeRepeat_125 : decode q_mPr_writeRepeat.1 125 = .ok (.iadd, 1) := by decide +kernel
theorem d_Pr_writeRepeat_126 : decode q_mPr_writeRepeat.1 126 = .ok (.istore_n 3, 1) := by decide +kernel
theorem d_Pr_writeRepeat_127 : decode q_mPr_writeRepeat.1 127 = .ok (.aload_n 1, 1) := by decide +kernel
theorem d_Pr_writeRepeat_128 : decode q_mPr_writeRepeat.1 128 = .ok (.getfield 66, 3) := by decide +kernel
theorem d_Pr_writeRepeat_131 : decode q_mPr_writeRepeat.1 131 = .ok (.istore 4, 2) := by decide +kernel
theorem d_Pr_writeRepeat_133 : decode q_mPr_writeRepeat.1 133 = .ok (.iload 4, 2) := by decide +kernel
theorem d_Pr_writeRepeat_135 : decode q_mPr_writeRepeat.1 135 = .ok (.aload_n 1, 1) := by decide +kernel
theorem d_Pr_writeRepeat_136 : decode q_mPr_writeRepeat.1 136 = .ok (.getfield 89, 3) := by decide +kernel
theorem d_Pr_writeRepeat_139 : decode q_mPr_writeRepeat.1 139 = .ok (.if_icmp .ge 30, 3) := by decide +kernel
theorem d_Pr_writeRepeat_142 : decode q_mPr_writeRepeat.1 142 = .ok (.aload_n 0, 1) := by decide +kernel
theorem d_Pr_writeRepeat_143 : decode q_mPr_writeRepeat.1 143 = .ok (.aload_n 0, 1) := by decide +kernel
theorem d_Pr_writeRepeat_144 : decode q_mPr_writeRepeat.1 144 = .ok (.getfield 21, 3) := by decide +kernel
theorem d_Pr_writeRepeat_147 : decode q_mPr_writeRepeat.1 147 = .ok (.iconst 1, 1) := by decide +kernel
theorem d_Pr_writeRepeat_148 : decode q_mPr_writeRepeat.1 148 = .ok (.iadd, 1) := by decide +kernel
theorem d_Pr_writeRepeat_149 : decode q_mPr_writeRepeat.1 149 = .ok (.iload_n 3, 1) := by decide +kernel
theorem d_Pr_writeRepeat_150 : decode q_mPr_writeRepeat.1 150 = .ok (.aload_n 1, 1) := by decide +kernel
theorem d_Pr_writeRepeat_151 : decode q_mPr_writeRepeat.1 151 = .ok (.getfield 76, 3) := by decide +kernel
theorem d_Pr_writeRepeat_154 : decode q_mPr_writeRepeat.1 154 = .ok (.invokevirtual 79, 3) := by decide +kernel
theorem d_Pr_writeRepeat_157 : decode q_mPr_writeRepeat.1 157 = .ok (.aload_n 0, 1) := by decide +kernel
theorem d_Pr_writeRepeat_158 : decode q_mPr_writeRepeat.1 158 = .ok (.aload_n 1, 1) := by decide +kernel
theorem d_Pr_writeRepeat_159 : decode q_mPr_writeRepeat.1 159 = .ok (.iload_n 2, 1) := by decide +kernel
theorem d_Pr_writeRepeat_160 : decode q_mPr_writeRepeat.1 160 = .ok (.invokevirtual 69, 3) := by decide +kernel
theorem d_Pr_writeRepeat_163 : decode q_mPr_writeRepeat.1 163 = .ok (.iinc 4 1, 3) := by decide +kernel
theorem d_Pr_writeRepeat_166 : decode q_mPr_writeRepeat.1 166 = .ok (.goto (-33), 3) := by decide +kernel
theorem d_Pr_writeRepeat_169 : decode q_mPr_writeRepeat.1 169 = .ok (.return_, 1) := by decide +kernel
theorem d_Pr_writeAtom_0 : decode q_mPr_writeAtom.1 0 = .ok (.aload_n 1, 1) := by decide +kernel
theorem d_Pr_writeAtom_1 : decode q_mPr_writeAtom.1 1 = .ok (.getfield 86, 3) := by decide +kernel
theorem d_Pr_writeAtom_4 : decode q_mPr_writeAtom.1 4 = .ok (.ifCond .ne 4, 3) := by decide +kernel
theorem d_Pr_writeAtom_7 : decode q_mPr_writeAtom.1 7 = .ok (.return_, 1) := by decide +kernel
theorem d_Pr_writeAtom_8 : decode q_mPr_writeAtom.1 8 = .ok (.aload_n 1, 1) := by decide +kernel
theorem d_Pr_writeAtom_9 : decode q_mPr_writeAtom.1 9 = .ok (.getfield 92, 3) := by decide +kernel
theorem d_Pr_writeAtom_12 : decode q_mPr_writeAtom.1 12 = .ok (.ifnonnull 14, 3) := by decide +kernel
theorem d_Pr_writeAtom_15 : decode q_mPr_writeAtom.1 15 = .ok (.aload_n 0, 1) := by decide +kernel
theorem d_Pr_writeAtom_16 : decode q_mPr_writeAtom.1 16 = .ok (.iconst 0, 1) := by decide +kernel
theorem d_Pr_writeAtom_17 : decode q_mPr_writeAtom.1 17 = .ok (.aload_n 1, 1) := by decide +kernel
theorem d_Pr_writeAtom_18 : decode q_mPr_writeAtom.1 18 = .ok (.getfield 95, 3) := by decide +kernel
theorem d_Pr_writeAtom_21 : decode q_mPr_writeAtom.1 21 = .ok (.iconst 0, 1) := by decide +kernel
theorem d_Pr_writeAtom_22 : decode q_mPr_writeAtom.1 22 = .ok (.invokevirtual 35, 3) := by decide +kernel
theorem d_Pr_writeAtom_25 : decode q_mPr_writeAtom.1 25 = .ok (.return_, 1) := by decide +kernel
theorem d_Pr_writeAtom_26 : decode q_mPr_writeAtom.1 26 = .ok (.aload_n 1, 1) := by decide +kernel
theorem d_Pr_writeAtom_27 : decode q_mPr_writeAtom.1 27 = .ok (.getfield 98, 3) := by decide +kernel
theorem d_Pr_writeAtom_30 : decode q_mPr_writeAtom.1 30 = .ok (.ifCond .le 15, 3) := by decide +kernel
theorem d_Pr_writeAtom_33 : decode q_mPr_writeAtom.1 33 = .ok (.aload_n 0, 1) := by decide +kernel
theorem d_Pr_writeAtom_34 : decode q_mPr_writeAtom.1 34 = .ok (.iconst 3, 1) := by decide +kernel
theorem d_Pr_writeAtom_35 : decode q_mPr_writeAtom.1 35 = .ok (.iconst 2, 1) := by decide +kernel
theorem d_Pr_writeAtom_36 : decode q_mPr_writeAtom.1 36 = .ok (.aload_n 1, 1) := by decide +kernel
theorem d_Pr_writeAtom_37 : decode q_mPr_writeAtom.1 37 = .ok (.getfield 98, 3) := by decide +kernel
theorem d_Pr_writeAtom_40 : decode q_mPr_writeAtom.1 40 = .ok (.imul, 1) := by decide +kernel
theorem d_Pr_writeAtom_41 : decode q_mPr_writeAtom.1 41 = .ok (.iconst 0, 1) := by decide +kernel
theorem d_Pr_writeAtom_42 : decode q_mPr_writeAtom.1 42 = .ok (.invokevirtual 35, 3) := by decide +kernel
theorem d_Pr_writeAtom_45 : decode q_mPr_writeAtom.1 45 = .ok (.aload_n 0, 1) := by decide +kernel
theorem d_Pr_writeAtom_46 : decode q_mPr_writeAtom.1 46 = .ok (.aload_n 1, 1) := by decide +kernel
theorem d_Pr_writeAtom_47 : decode q_mPr_writeAtom.1 47 = .ok (.getfield 92, 3) := by decide +kernel
theorem d_Pr_writeAtom_50 : decode q_mPr_writeAtom.1 50 = .ok (.iload_n 2, 1) := by decide +kernel
theorem d_Pr_writeAtom_51 : decode q_mPr_writeAtom.1 51 = .ok (.iconst 1, 1) := by decide +kernel
theorem d_Pr_writeAtom_52 : decode q_mPr_writeAtom.1 52 = .ok (.iadd, 1) := by decide +kernel
theorem d_Pr_writeAtom_53 : decode q_mPr_writeAtom.1 53 = .ok (.invokevirtual 39, 3) := by decide +kernel
theorem d_Pr_writeAtom_56 : decode q_mPr_writeAtom.1 56 = .ok (.aload_n 1, 1) := by decide +kernel
theorem d_Pr_writeAtom_57 : decode q_mPr_writeAtom.1 57 = .ok (.getfield 98, 3) := by decide +kernel
theorem d_Pr_writeAtom_60 : decode q_mPr_writeAtom.1 60 = .ok (.ifCond .le 17, 3) := by decide +kernel
theorem d_Pr_writeAtom_63 : decode q_mPr_writeAtom.1 63 = .ok (.aload_n 0, 1) := by decide +kernel
theorem d_Pr_writeAtom_64 : decode q_mPr_writeAtom.1 64 = .ok (.iconst 3, 1) := by decide +kernel
theorem d_Pr_writeAtom_65 : decode q_mPr_writeAtom.1 65 = .ok (.iconst 2, 1) := by decide +kernel
theorem d_Pr_writeAtom_66 : decode q_mPr_writeAtom.1 66 = .ok (.aload_n 1, 1) := by decide +kernel
theorem d_Pr_writeAtom_67 : decode q_mPr_writeAtom.1 67 = .ok (.getfield 98, 3) := by decide +kernel
theorem d_Pr_writeAtom_70 : decode q_mPr_writeAtom.1 70 = .ok (.imul, 1) := by decide +kernel
theorem d_Pr_writeAtom_71 : decode q_mPr_writeAtom.1 71 = .ok (.iconst 1, 1) := by decide +kernel
theorem d_Pr_writeAtom_72 : decode q_mPr_writeAtom.1 72 = .ok (.iadd, 1) := by decide +kernel
theorem d_Pr_writeAtom_73 : decode q_mPr_writeAtom.1 73 = .ok (.iconst 0, 1) := by decide +kernel
theorem d_Pr_writeAtom_74 : decode q_mPr_writeAtom.1 74 = .ok (.invokevirtual 35, 3) := by decide +kernel
theorem d_Pr_writeAtom_77 : decode q_mPr_writeAtom.1 77 = .ok (.return_, 1) := by decide +kernel
theorem d_Pr_addSplit_0 : decode q_mPr_addSplit.1 0 = .ok (.aload_n 0, 1) := by decide +kernel
theorem d_Pr_addSplit_1 : decode q_mPr_addSplit.1 1 = .ok (.iconst 1, 1) := by decide +kernel
theorem d_Pr_addSplit_2 : decode q_mPr_addSplit.1 2 = .ok (.iload_n 3, 1) := by decide +kernel
theorem d_Pr_addSplit_3 : decode q_mPr_addSplit.1 3 = .ok (.ifCond .eq 7, 3) := by decide +kernel
theorem d_Pr_addSplit_6 : decode q_mPr_addSplit.1 6 = .ok (.iload_n 2, 1) := by decide +kernel
theorem d_Pr_addSplit_7 : decode q_mPr_addSplit.1 7 = .ok (.goto 4, 3) := by decide +kernel
theorem d_Pr_addSplit_10 : decode q_mPr_addSplit.1 10 = .ok (.iload_n 1, 1) := by decide +kernel
theorem d_Pr_addSplit_11 : decode q_mPr_addSplit.1 11 = .ok (.iload_n 3, 1) := by decide +kernel
theorem d_Pr_addSplit_12 : decode q_mPr_addSplit.1 12 = .ok (.ifCond .eq 7, 3) := by decide +kernel
theorem d_Pr_addSplit_15 : decode q_mPr_addSplit.1 15 = .ok (.iload_n 1, 1) := by decide +kernel
theorem d_Pr_addSplit_16 : decode q_mPr_addSplit.1 16 = .ok (.goto 4, 3) := by decide +kernel
theorem d_Pr_addSplit_19 : decode q_mPr_addSplit.1 19 = .ok (.iload_n 2, 1) := by decide +kernel
theorem d_Pr_addSplit_20 : decode q_mPr_addSplit.1 20 = .ok (.invokevirtual 35, 3) := by decide +kernel
theorem d_Pr_addSplit_23 : decode q_mPr_addSplit.1 23 = .ok (.return_, 1) := by decide +kernel
theorem d_Rp_init_0 : decode q_mRp_init.1 0 = .ok (.aload_n 0, 1) := by decide +kernel
theorem d_Rp_init_1 : decode q_mRp_init.1 1 = .ok (.invokespecial 3, 3) := by decide +kernel
theorem d_Rp_init_4 : decode q_mRp_init.1 4 = .ok (.aload_n 0, 1) := by decide +kernel
theorem d_Rp_init_5 : decode q_mRp_init.1 5 = .ok (.iconst (-1), 1) := by decide +kernel
theorem d_Rp_init_6 : decode q_mRp_init.1 6 = .ok (.putfield 9, 3) := by decide +kernel
theorem d_Rp_init_9 : decode q_mRp_init.1 9 = .ok (.aload_n 0, 1) := by decide +kernel
theorem d_Rp_init_10 : decode q_mRp_init.1 10 = .ok (.aconst_null, 1) := by decide +kernel
theorem d_Rp_init_11 : decode q_mRp_init.1 11 = .ok (.putfield 15, 3) := by decide +kernel
theorem d_Rp_init_14 : decode q_mRp_init.1 14 = .ok (.aload_n 0, 1) := by decide +kernel
theorem d_Rp_init_15 : decode q_mRp_init.1 15 = .ok (.iconst 0, 1) := by decide +kernel
theorem d_Rp_init_16 : decode q_mRp_init.1 16 = .ok (.putfield 19, 3) := by decide +kernel
theorem d_Rp_init_19 : decode q_mRp_init.1 19 = .ok (.aload_n 0, 1) := by decide +kernel
theorem d_Rp_init_20 : decode q_mRp_init.1 20 = .ok (.iconst 1, 1) := by decide +kernel
theorem d_Rp_init_21 : decode q_mRp_init.1 21 = .ok (.putfield 22, 3) := by decide +kernel
theorem d_Rp_init_24 : decode q_mRp_init.1 24 = .ok (.aload_n 0, 1) := by decide +kernel
theorem d_Rp_init_25 : decode q_mRp_init.1 25 = .ok (.iconst 1, 1) := by decide +kernel
theorem d_Rp_init_26 : decode q_mRp_init.1 26 = .ok (.putfield 25, 3) := by decide +kernel
theorem d_Rp_init_29 : decode q_mRp_init.1 29 = .ok (.aload_n 0, 1) := by decide +kernel
theorem d_Rp_init_30 : decode q_mRp_init.1 30 = .ok (.iconst 1, 1) := by decide +kernel
theorem d_Rp_init_31 : decode q_mRp_init.1 31 = .ok (.putfield 28, 3) := by decide +kernel
theorem d_Rp_init_34 : decode q_mRp_init.1 34 = .ok (.aload_n 0, 1) := by decide +kernel
theorem d_Rp_init_35 : decode q_mRp_init.1 35 = .ok (.iconst 0, 1) := by decide +kernel
theorem d_Rp_init_36 : decode q_mRp_init.1 36 = .ok (.putfield 31, 3) := by decide +kernel
theorem d_Rp_init_39 : decode q_mRp_init.1 39 = .ok (.aload_n 0, 1) := by decide +kernel
theorem d_Rp_init_40 : decode q_mRp_init.1 40 = .ok (.iconst 0, 1) := by decide +kernel
theorem d_Rp_init_41 : decode q_mRp_init.1 41 = .ok (.putfield 35, 3) := by decide +kernel
theorem d_Rp_init_44 : decode q_mRp_init.1 44 = .ok (.aload_n 0, 1) := by decide +kernel
theorem d_Rp_init_45 : decode q_mRp_init.1 45 = .ok (.iconst 0, 1) := by decide +kernel
theorem d_Rp_init_46 : decode q_mRp_init.1 46 = .ok (.putfield 38, 3) := by decide +kernel
theorem d_Rp_init_49 : decode q_mRp_init.1 49 = .ok (.aload_n 0, 1) := by decide +kernel
theorem d_Rp_init_50 : decode q_mRp_init.1 50 = .ok (.aconst_null, 1) := by decide +kernel
theorem d_Rp_init_51 : decode q_mRp_init.1 51 = .ok (.putfield 41, 3) := by decide +kernel
theorem d_Rp_init_54 : decode q_mRp_init.1 54 = .ok (.return_, 1) := by decide +kernel
theorem d_Rp_size_0 : decode q_mRp_size.1 0 = .ok (.aload_n 0, 1) := by decide +kernel
theorem d_Rp_size_1 : decode q_mRp_size.1 1 = .ok (.getfield 35, 3) := by decide +kernel
theorem d_Rp_size_4 : decode q_mRp_size.1 4 = .ok (.ifCond .eq 10, 3) := by decide +kernel
theorem d_Rp_size_7 : decode q_mRp_size.1 7 = .ok (.aload_n 0, 1) := by decide +kernel
theorem d_Rp_size_8 : decode q_mRp_size.1 8 = .ok (.getfield 22, 3) := by decide +kernel
theorem d_Rp_size_11 : decode q_mRp_size.1 11 = .ok (.iconst 1, 1) := by decide +kernel
theorem d_Rp_size_12 : decode q_mRp_size.1 12 = .ok (.iadd, 1) := by decide +kernel
theorem d_Rp_size_13 : decode q_mRp_size.1 13 = .ok (.ireturn, 1) := by decide +kernel
theorem d_Rp_size_14 : decode q_mRp_size.1 14 = .ok (.aload_n 0, 1) := by decide +kernel
theorem d_Rp_size_15 : decode q_mRp_size.1 15 = .ok (.getfield 31, 3) := by decide +kernel
theorem d_Rp_size_18 : decode q_mRp_size.1 18 = .ok (.ifCond .eq 17, 3) := by decide +kernel
theorem d_Rp_size_21 : decode q_mRp_size.1 21 = .ok (.aload_n 0, 1) := by decide +kernel
theorem d_Rp_size_22 : decode q_mRp_size.1 22 = .ok (.getfield 25, 3) := by decide +kernel
theorem d_Rp_size_25 : decode q_mRp_size.1 25 = .ok (.iconst 1, 1) := by decide +kernel
theorem d_Rp_size_26 : decode q_mRp_size.1 26 = .ok (.iadd, 1) := by decide +kernel
theorem d_Rp_size_27 : decode q_mRp_size.1 27 = .ok (.aload_n 0, 1) := by decide +kernel
theorem d_Rp_size_28 : decode q_mRp_size.1 28 = .ok (.getfield 22, 3) := by decide +kernel
theorem d_Rp_size_31 : decode q_mRp_size.1 31 = .ok (.imul, 1) := by decide +kernel
theorem d_Rp_size_32 : decode q_mRp_size.1 32 = .ok (.iconst 2, 1) := by decide +kernel
theorem d_Rp_size_33 : decode q_mRp_size.1 33 = .ok (.iadd, 1) := by decide +kernel
theorem d_Rp_size_34 : decode q_mRp_size.1 34 = .ok (.ireturn, 1) := by decide +kernel
theorem d_Rp_size_35 : decode q_mRp_size.1 35 = .ok (.aload_n 0, 1) := by decide +kernel
theorem d_Rp_size_36 : decode q_mRp_size.1 36 = .ok (.getfield 25, 3) := by decide +kernel
theorem d_Rp_size_39 : decode q_mRp_size.1 39 = .ok (.aload_n 0, 1) := by decide +kernel
theorem d_Rp_size_40 : decode q_mRp_size.1 40 = .ok (.getfield 22, 3) := by decide +kernel
theorem d_Rp_size_43 : decode q_mRp_size.1 43 = .ok (.imul, 1) := by decide +kernel
theorem d_Rp_size_44 : decode q_mRp_size.1 44 = .ok (.aload_n 0, 1) := by decide +kernel
theorem d_Rp_size_45 : decode q_mRp_size.1 45 = .ok (.getfield 28, 3) := by decide +kernel
theorem d_Rp_size_48 : decode q_mRp_size.1 48 = .ok (.aload_n 0, 1) := by decide +kernel
theorem d_Rp_size_49 : decode q_mRp_size.1 49 = .ok (.getfield 25, 3) := by decide +kernel
theorem d_Rp_size_52 : decode q_mRp_size.1 52 = .ok (.isub, 1) := by decide +kernel
theorem d_Rp_size_53 : decode q_mRp_size.1 53 = .ok (.aload_n 0, 1) := by decide +kernel
theorem d_Rp_size_54 : decode q_mRp_size.1 54 = .ok (.getfield 22, 3) := by decide +kernel
theorem d_Rp_size_57 : decode q_mRp_size.1 57 = .ok (.iconst 1, 1) := by decide +kernel
theorem d_Rp_size_58 : decode q_mRp_size.1 58 = .ok (.iadd, 1) := by decide +kernel
theorem d_Rp_size_59 : decode q_mRp_size.1 59 = .ok (.imul, 1) := by decide +kernel
theorem d_Rp_size_60 : decode q_mRp_size.1 60 = .ok (.iadd, 1) := by decide +kernel
theorem d_Rp_size_61 : decode q_mRp_size.1 61 = .ok (.ireturn, 1) := by decide +kernel
theorem d_Rw_init_0 : decode q_mRw_init.1 0 = .ok (.aload_n 0, 1) := by decide +kernel
theorem d_Rw_init_1 : decode q_mRw_init.1 1 = .ok (.invokespecial 1, 3) := by decide +kernel
theorem d_Rw_init_4 : decode q_mRw_init.1 4 = .ok (.aload_n 0, 1) := by decide +kernel
theorem d_Rw_init_5 : decode q_mRw_init.1 5 = .ok (.aconst_null, 1) := by decide +kernel
theorem d_Rw_init_6 : decode q_mRw_init.1 6 = .ok (.putfield 7, 3) := by decide +kernel
theorem d_Rw_init_9 : decode q_mRw_init.1 9 = .ok (.aload_n 0, 1) := by decide +kernel
theorem d_Rw_init_10 : decode q_mRw_init.1 10 = .ok (.aconst_null, 1) := by decide +kernel
theorem d_Rw_init_11 : decode q_mRw_init.1 11 = .ok (.putfield 13, 3) := by decide +kernel
theorem d_Rw_init_14 : decode q_mRw_init.1 14 = .ok (.aload_n 0, 1) := by decide +kernel
theorem d_Rw_init_15 : decode q_mRw_init.1 15 = .ok (.aconst_null, 1) := by decide +kernel
theorem d_Rw_init_16 : decode q_mRw_init.1 16 = .ok (.putfield 16, 3) := by decide +kernel
theorem d_Rw_init_19 : decode q_mRw_init.1 19 = .ok (.aload_n 0, 1) := by decide +kernel
theorem d_Rw_init_20 : decode q_mRw_init.1 20 = .ok (.iconst 0, 1) := by decide +kernel
theorem d_Rw_init_21 : decode q_mRw_init.1 21 = .ok (.putfield 20, 3) := by decide +kernel
theorem d_Rw_init_24 : decode q_mRw_init.1 24 = .ok (.return_, 1) := by decide +kernel
theorem d_Rw_sizeAsChoice_0 : decode q_mRw_sizeAsChoice.1 0 = .ok (.aload_n 0, 1) := by decide +kernel
theorem d_Rw_sizeAsChoice_1 : decode q_mRw_sizeAsChoice.1 1 = .ok (.getfield 20, 3) := by decide +kernel
theorem d_Rw_sizeAsChoice_4 : decode q_mRw_sizeAsChoice.1 4 = .ok (.istore_n 1, 1) := by decide +kernel
theorem d_Rw_sizeAsChoice_5 : decode q_mRw_sizeAsChoice.1 5 = .ok (.aload_n 0, 1) := by decide +kernel
theorem d_Rw_sizeAsChoice_6 : decode q_mRw_sizeAsChoice.1 6 = .ok (.getfield 16, 3) := by decide +kernel
theorem d_Rw_sizeAsChoice_9 : decode q_mRw_sizeAsChoice.1 9 = .ok (.astore_n 2, 1) := by decide +kernel
theorem d_Rw_sizeAsChoice_10 : decode q_mRw_sizeAsChoice.1 10 = .ok (.aload_n 2, 1) := by decide +kernel
theorem d_Rw_sizeAsChoice_11 : decode q_mRw_sizeAsChoice.1 11 = .ok (.ifnull 26, 3) := by decide +kernel
theorem d_Rw_sizeAsChoice_14 : decode q_mRw_sizeAsChoice.1 14 = .ok (.sipush 1000, 3) := by decide +kernel
theorem d_Rw_sizeAsChoice_17 : decode q_mRw_sizeAsChoice.1 17 = .ok (.iload_n 1, 1) := by decide +kernel
theorem d_Rw_sizeAsChoice_18 : decode q_mRw_sizeAsChoice.1 18 = .ok (.iconst 2, 1) := by decide +kernel
theorem d_Rw_sizeAsChoice_19 : decode q_mRw_sizeAsChoice.1 19 = .ok (.iadd, 1) := by decide +kernel
theorem d_Rw_sizeAsChoice_20 : decode q_mRw_sizeAsChoice.1 20 = .ok (.aload_n 2, 1) := by decide +kernel
theorem d_Rw_sizeAsChoice_21 : decode q_mRw_sizeAsChoice.1 21 = .ok (.getfield 20, 3) := by decide +kernel
theorem d_Rw_sizeAsChoice_24 : decode q_mRw_sizeAsChoice.1 24 = .ok (.iadd, 1) := by decide +kernel
theorem d_Rw_sizeAsChoice_25 : decode q_mRw_sizeAsChoice.1 25 = .ok (.invokestatic 31, 3) := by decide +kernel
theorem d_Rw_sizeAsChoice_28 : decode q_mRw_sizeAsChoice.1 28 = .ok (.istore_n 1, 1) := by decide +kernel
theorem d_Rw_sizeAsChoice_29 : decode q_mRw_sizeAsChoice.1 29 = .ok (.aload_n 2, 1) := by decide +kernel
theorem d_Rw_sizeAsChoice_30 : decode q_mRw_sizeAsChoice.1 30 = .ok (.getfield 16, 3) := by decide +kernel
theorem d_Rw_sizeAsChoice_33 : decode q_mRw_sizeAsChoice.1 33 = .ok (.astore_n 2, 1) := by decide +kernel
theorem d_Rw_sizeAsChoice_34 : decode q_mRw_sizeAsChoice.1 34 = .ok (.goto (-24), 3) := by decide +kernel
theorem d_Rw_sizeAsChoice_37 : decode q_mRw_sizeAsChoice.1 37 = .ok (.iload_n 1, 1) := by decide +kernel
theorem d_Rw_sizeAsChoice_38 : decode q_mRw_sizeAsChoice.1 38 = .ok (.ireturn, 1) := by decide +kernel
theorem d_Rw_append_0 : decode q_mRw_append.1 0 = .ok (.aload_n 0, 1) := by decide +kernel
theorem d_Rw_append_1 : decode q_mRw_append.1 1 = .ok (.getfield 13, 3) := by decide +kernel
theorem d_Rw_append_4 : decode q_mRw_append.1 4 = .ok (.ifnonnull 11, 3) := by decide +kernel
theorem d_Rw_append_7 : decode q_mRw_append.1 7 = .ok (.aload_n 0, 1) := by decide +kernel
theorem d_Rw_append_8 : decode q_mRw_append.1 8 = .ok (.aload_n 1, 1) := by decide +kernel
theorem d_Rw_append_9 : decode q_mRw_append.1 9 = .ok (.putfield 7, 3) := by decide +kernel
theorem d_Rw_append_12 : decode q_mRw_append.1 12 = .ok (.goto 11, 3) := by decide +kernel
theorem d_Rw_append_15 : decode q_mRw_append.1 15 = .ok (.aload_n 0, 1) := by decide +kernel
theorem d_Rw_append_16 : decode q_mRw_append.1 16 = .ok (.getfield 13, 3) := by decide +kernel
theorem d_Rw_append_19 : decode q_mRw_append.1 19 = .ok (.aload_n 1, 1) := by decide +kernel
theorem d_Rw_append_20 : decode q_mRw_append.1 20 = .ok (.putfield 24, 3) := by decide +kernel
theorem d_Rw_append_23 : decode q_mRw_append.1 23 = .ok (.aload_n 0, 1) := by decide +kernel
theorem d_Rw_append_24 : decode q_mRw_append.1 24 = .ok (.aload_n 1, 1) := by decide +kernel
theorem d_Rw_append_25 : decode q_mRw_append.1 25 = .ok (.putfield 13, 3) := by decide +kernel
theorem d_Rw_append_28 : decode q_mRw_append.1 28 = .ok (.aload_n 0, 1) := by decide +kernel
theorem d_Rw_append_29 : decode q_mRw_append.1 29 = .ok (.sipush 1000, 3) := by decide +kernel
theorem d_Rw_append_32 : decode q_mRw_append.1 32 = .ok (.aload_n 0, 1) := by decide +kernel
theorem d_Rw_append_33 : decode q_mRw_append.1 33 = .ok (.getfield 20, 3) := by decide +kernel
theorem d_Rw_append_36 : decode q_mRw_append.1 36 = .ok (.aload_n 1, 1) := by decide +kernel
theorem d_Rw_append_37 : decode q_mRw_append.1 37 = .ok (.invokevirtual 28, 3) := by decide +kernel
theorem d_Rw_append_40 : decode q_mRw_append.1 40 = .ok (.iadd, 1) := by decide +kernel
theorem d_Rw_append_41 : decode q_mRw_append.1 41 = .ok (.invokestatic 31, 3) := by decide +kernel
theorem d_Rw_append_44 : decode q_mRw_append.1 44 = .ok (.putfield 20, 3) := by decide +kernel
theorem d_Rw_append_47 : decode q_mRw_append.1 47 = .ok (.return_, 1) := by decide +kernel
theorem d_Wk_init_0 : decode q_mWk_init.1 0 = .ok (.aload_n 0, 1) := by decide +kernel
theorem d_Wk_init_1 : decode q_mWk_init.1 1 = .ok (.invokespecial 3, 3) := by decide +kernel
theorem d_Wk_init_4 : decode q_mWk_init.1 4 = .ok (.aload_n 0, 1) := by decide +kernel
theorem d_Wk_init_5 : decode q_mWk_init.1 5 = .ok (.new 9, 3) := by decide +kernel
theorem d_Wk_init_8 : decode q_mWk_init.1 8 = .ok (.dup, 1) := by decide +kernel
theorem d_Wk_init_9 : decode q_mWk_init.1 9 = .ok (.invokespecial 11, 3) := by decide +kernel
theorem d_Wk_init_12 : decode q_mWk_init.1 12 = .ok (.putfield 12, 3) := by decide +kernel
theorem d_Wk_init_15 : decode q_mWk_init.1 15 = .ok (.aload_n 0, 1) := by decide +kernel
theorem d_Wk_init_16 : decode q_mWk_init.1 16 = .ok (.new 9, 3) := by decide +kernel
theorem d_Wk_init_19 : decode q_mWk_init.1 19 = .ok (.dup, 1) := by decide +kernel
theorem d_Wk_init_20 : decode q_mWk_init.1 20 = .ok (.invokespecial 11, 3) := by decide +kernel
theorem d_Wk_init_23 : decode q_mWk_init.1 23 = .ok (.putfield 18, 3) := by decide +kernel
theorem d_Wk_init_26 : decode q_mWk_init.1 26 = .ok (.aload_n 0, 1) := by decide +kernel
theorem d_Wk_init_27 : decode q_mWk_init.1 27 = .ok (.sipush 160, 3) := by decide +kernel
theorem d_Wk_init_30 : decode q_mWk_init.1 30 = .ok (.newarray .int, 2) := by decide +kernel
theorem d_Wk_init_32 : decode q_mWk_init.1 32 = .ok (.putfield 21, 3) := by decide +kernel
theorem d_Wk_init_35 : decode q_mWk_init.1 35 = .ok (.aload_n 0, 1) := by decide +kernel
theorem d_Wk_init_36 : decode q_mWk_init.1 36 = .ok (.sipush 321, 3) := by decide +kernel
theorem d_Wk_init_39 : decode q_mWk_init.1 39 = .ok (.newarray .int, 2) := by decide +kernel
theorem d_Wk_init_41 : decode q_mWk_init.1 41 = .ok (.putfield 25, 3) := by decide +kernel
theorem d_Wk_init_44 : decode q_mWk_init.1 44 = .ok (.aload_n 0, 1) := by decide +kernel
theorem d_Wk_init_45 : decode q_mWk_init.1 45 = .ok (.sipush 321, 3) := by decide +kernel
theorem d_Wk_init_48 : decode q_mWk_init.1 48 = .ok (.newarray .int, 2) := by decide +kernel
theorem d_Wk_init_50 : decode q_mWk_init.1 50 = .ok (.putfield 28, 3) := by decide +kernel
theorem d_Wk_init_53 : decode q_mWk_init.1 53 = .ok (.aload_n 0, 1) := by decide +kernel
theorem d_Wk_init_54 : decode q_mWk_init.1 54 = .ok (.iconst 0, 1) := by decide +kernel
theorem d_Wk_init_55 : decode q_mWk_init.1 55 = .ok (.putfield 31, 3) := by decide +kernel
theorem d_Wk_init_58 : decode q_mWk_init.1 58 = .ok (.aload_n 0, 1) := by decide +kernel
theorem d_Wk_init_59 : decode q_mWk_init.1 59 = .ok (.bipush 14, 2) := by decide +kernel
theorem d_Wk_init_61 : decode q_mWk_init.1 61 = .ok (.newarray .int, 2) := by decide +kernel
theorem d_Wk_init_63 : decode q_mWk_init.1 63 = .ok (.putfield 35, 3) := by decide +kernel
theorem d_Wk_init_66 : decode q_mWk_init.1 66 = .ok (.aload_n 0, 1) := by decide +kernel
theorem d_Wk_init_67 : decode q_mWk_init.1 67 = .ok (.bipush 14, 2) := by decide +kernel
theorem d_Wk_init_69 : decode q_mWk_init.1 69 = .ok (.newarray .int, 2) := by decide +kernel
theorem d_Wk_init_71 : decode q_mWk_init.1 71 = .ok (.putfield 38, 3) := by decide +kernel
theorem d_Wk_init_74 : decode q_mWk_init.1 74 = .ok (.aload_n 0, 1) := by decide +kernel
theorem d_Wk_init_75 : decode q_mWk_init.1 75 = .ok (.iconst 0, 1) := by decide +kernel
theorem d_Wk_init_76 : decode q_mWk_init.1 76 = .ok (.putfield 41, 3) := by decide +kernel
theorem d_Wk_init_79 : decode q_mWk_init.1 79 = .ok (.aload_n 0, 1) := by decide +kernel
theorem d_Wk_init_80 : decode q_mWk_init.1 80 = .ok (.iconst 0, 1) := by decide +kernel
theorem d_Wk_init_81 : decode q_mWk_init.1 81 = .ok (.putfield 45, 3) := by decide +kernel
theorem d_Wk_init_84 : decode q_mWk_init.1 84 = .ok (.aload_n 0, 1) := by decide +kernel
theorem d_Wk_init_85 : decode q_mWk_init.1 85 = .ok (.iconst 0, 1) := by decide +kernel
theorem d_Wk_init_86 : decode q_mWk_init.1 86 = .ok (.putfield 48, 3) := by decide +kernel
theorem d_Wk_init_89 : decode q_mWk_init.1 89 = .ok (.aload_n 0, 1) := by decide +kernel
theorem d_Wk_init_90 : decode q_mWk_init.1 90 = .ok (.iconst 0, 1) := by decide +kernel
theorem d_Wk_init_91 : decode q_mWk_init.1 91 = .ok (.putfield 51, 3) := by decide +kernel
theorem d_Wk_init_94 : decode q_mWk_init.1 94 = .ok (.aload_n 0, 1) := by decide +kernel
theorem d_Wk_init_95 : decode q_mWk_init.1 95 = .ok (.iconst 0, 1) := by decide +kernel
theorem d_Wk_init_96 : decode q_mWk_init.1 96 = .ok (.putfield 54, 3) := by decide +kernel
theorem d_Wk_init_99 : decode q_mWk_init.1 99 = .ok (.aload_n 0, 1) := by decide +kernel
theorem d_Wk_init_100 : decode q_mWk_init.1 100 = .ok (.aload_n 1, 1) := by decide +kernel
theorem d_Wk_init_101 : decode q_mWk_init.1 101 = .ok (.putfield 57, 3) := by decide +kernel
theorem d_Wk_init_104 : decode q_mWk_init.1 104 = .ok (.aload_n 0, 1) := by decide +kernel
theorem d_Wk_init_105 : decode q_mWk_init.1 105 = .ok (.aload_n 2, 1) := by decide +kernel
theorem d_Wk_init_106 : decode q_mWk_init.1 106 = .ok (.putfield 61, 3) := by decide +kernel
theorem d_Wk_init_109 : decode q_mWk_init.1 109 = .ok (.return_, 1) := by decide +kernel
theorem d_Wk_end_0 : decode q_mWk_end.1 0 = .ok (.aload_n 0, 1) := by decide +kernel
theorem d_Wk_end_1 : decode q_mWk_end.1 1 = .ok (.iconst 0, 1) := by decide +kernel
theorem d_Wk_end_2 : decode q_mWk_end.1 2 = .ok (.putfield 41, 3) := by decide +kernel
theorem d_Wk_end_5 : decode q_mWk_end.1 5 = .ok (.return_, 1) := by decide +kernel
theorem d_Wk_begin_0 : decode q_mWk_begin.1 0 = .ok (.aload_n 0, 1) := by decide +kernel
theorem d_Wk_begin_1 : decode q_mWk_begin.1 1 = .ok (.iconst 1, 1) := by decide +kernel
theorem d_Wk_begin_2 : decode q_mWk_begin.1 2 = .ok (.putfield 41, 3) := by decide +kernel
theorem d_Wk_begin_5 : decode q_mWk_begin.1 5 = .ok (.aload_n 0, 1) := by decide +kernel
theorem d_Wk_begin_6 : decode q_mWk_begin.1 6 = .ok (.iload_n 1, 1) := by decide +kernel
theorem d_Wk_begin_7 : decode q_mWk_begin.1 7 = .ok (.putfield 45, 3) := by decide +kernel
theorem d_Wk_begin_10 : decode q_mWk_begin.1 10 = .ok (.aload_n 0, 1) := by decide +kernel
theorem d_Wk_begin_11 : decode q_mWk_begin.1 11 = .ok (.iconst 0, 1) := by decide +kernel
theorem d_Wk_begin_12 : decode q_mWk_begin.1 12 = .ok (.putfield 48, 3) := by decide +kernel
theorem d_Wk_begin_15 : decode q_mWk_begin.1 15 = .ok (.aload_n 0, 1) := by decide +kernel
theorem d_Wk_begin_16 : decode q_mWk_begin.1 16 = .ok (.iconst 0, 1) := by decide +kernel
theorem d_Wk_begin_17 : decode q_mWk_begin.1 17 = .ok (.putfield 51, 3) := by decide +kernel
theorem d_Wk_begin_20 : decode q_mWk_begin.1 20 = .ok (.aload_n 0, 1) := by decide +kernel
theorem d_Wk_begin_21 : decode q_mWk_begin.1 21 = .ok (.iconst 0, 1) := by decide +kernel
theorem d_Wk_begin_22 : decode q_mWk_begin.1 22 = .ok (.putfield 54, 3) := by decide +kernel
theorem d_Wk_begin_25 : decode q_mWk_begin.1 25 = .ok (.aload_n 0, 1) := by decide +kernel
theorem d_Wk_begin_26 : decode q_mWk_begin.1 26 = .ok (.getfield 12, 3) := by decide +kernel
theorem d_Wk_begin_29 : decode q_mWk_begin.1 29 = .ok (.iconst 0, 1) := by decide +kernel
theorem d_Wk_begin_30 : decode q_mWk_begin.1 30 = .ok (.putfield 65, 3) := by decide +kernel
theorem d_Wk_begin_33 : decode q_mWk_begin.1 33 = .ok (.aload_n 0, 1) := by decide +kernel
theorem d_Wk_begin_34 : decode q_mWk_begin.1 34 = .ok (.getfield 21, 3) := by decide +kernel
theorem d_Wk_begin_37 : decode q_mWk_begin.1 37 = .ok (.iconst (-1), 1) := by decide +kernel
theorem d_Wk_begin_38 : decode q_mWk_begin.1 38 = .ok (.invokestatic 68, 3) := by decide +kernel
theorem d_Wk_begin_41 : decode q_mWk_begin.1 41 = .ok (.aload_n 0, 1) := by decide +kernel
theorem d_Wk_begin_42 : decode q_mWk_begin.1 42 = .ok (.invokevirtual 74, 3) := by decide +kernel
theorem d_Wk_begin_45 : decode q_mWk_begin.1 45 = .ok (.return_, 1) := by decide +kernel
theorem d_Wk_followFromStart_0 : decode q_mWk_followFromStart.1 0 = .ok (.aload_n 0, 1) := by decide +kernel
theorem d_Wk_followFromStart_1 : decode q_mWk_followFromStart.1 1 = .ok (.getfield 35, 3) := by decide +kernel
theorem d_Wk_followFromStart_4 : decode q_mWk_followFromStart.1 4 = .ok (.iconst (-1), 1) := by decide +kernel
theorem d_Wk_followFromStart_5 : decode q_mWk_followFromStart.1 5 = .ok (.invokestatic 68, 3) := by decide +kernel
theorem d_Wk_followFromStart_8 : decode q_mWk_followFromStart.1 8 = .ok (.aload_n 0, 1) := by decide +kernel
theorem d_Wk_followFromStart_9 : decode q_mWk_followFromStart.1 9 = .ok (.iconst 0, 1) := by decide +kernel
theorem d_Wk_followFromStart_10 : decode q_mWk_followFromStart.1 10 = .ok (.invokevirtual 96, 3) := by decide +kernel
theorem d_Wk_followFromStart_13 : decode q_mWk_followFromStart.1 13 = .ok (.return_, 1) := by decide +kernel
theorem d_Wk_follow_0 : decode q_mWk_follow.1 0 = .ok (.aload_n 0, 1) := by decide +kernel
theorem d_Wk_follow_1 : decode q_mWk_follow.1 1 = .ok (.iconst 0, 1) := by decide +kernel
theorem d_Wk_follow_2 : decode q_mWk_follow.1 2 = .ok (.putfield 31, 3) := by decide +kernel
theorem d_Wk_follow_5 : decode q_mWk_follow.1 5 = .ok (.aload_n 0, 1) := by decide +kernel
theorem d_Wk_follow_6 : decode q_mWk_follow.1 6 = .ok (.iload_n 1, 1) := by decide +kernel
theorem d_Wk_follow_7 : decode q_mWk_follow.1 7 = .ok (.iconst 0, 1) := by decide +kernel
theorem d_Wk_follow_8 : decode q_mWk_follow.1 8 = .ok (.invokevirtual 100, 3) := by decide +kernel
theorem d_Wk_follow_11 : decode q_mWk_follow.1 11 = .ok (.iconst 0, 1) := by decide +kernel
theorem d_Wk_follow_12 : decode q_mWk_follow.1 12 = .ok (.istore_n 2, 1) := by decide +kernel
theorem d_Wk_follow_13 : decode q_mWk_follow.1 13 = .ok (.iload_n 2, 1) := by decide +kernel
theorem d_Wk_follow_14 : decode q_mWk_follow.1 14 = .ok (.sipush 321, 3) := by decide +kernel
theorem d_Wk_follow_17 : decode q_mWk_follow.1 17 = .ok (.if_icmp .ge 81, 3) := by decide +kernel
theorem d_Wk_follow_20 : decode q_mWk_follow.1 20 = .ok (.aload_n 0, 1) := by decide +kernel
theorem d_Wk_follow_21 : decode q_mWk_follow.1 21 = .ok (.getfield 31, 3) := by decide +kernel
theorem d_Wk_follow_24 : decode q_mWk_follow.1 24 = .ok (.ifCond .le 74, 3) := by decide +kernel
theorem d_Wk_follow_27 : decode q_mWk_follow.1 27 = .ok (.aload_n 0, 1) := by decide +kernel
theorem d_Wk_follow_28 : decode q_mWk_follow.1 28 = .ok (.getfield 31, 3) := by decide +kernel
theorem d_Wk_follow_31 : decode q_mWk_follow.1 31 = .ok (.sipush 321, 3) := by decide +kernel
theorem d_Wk_follow_34 : decode q_mWk_follow.1 34 = .ok (.if_icmp .gt 64, 3) := by decide +kernel
theorem d_Wk_follow_37 : decode q_mWk_follow.1 37 = .ok (.aload_n 0, 1) := by decide +kernel
theorem d_Wk_follow_38 : decode q_mWk_follow.1 38 = .ok (.getfield 51, 3) := by decide +kernel
theorem d_Wk_follow_41 : decode q_mWk_follow.1 41 = .ok (.ifCond .ne 57, 3) := by decide +kernel
theorem d_Wk_follow_44 : decode q_mWk_follow.1 44 = .ok (.aload_n 0, 1) := by decide +kernel
theorem d_Wk_follow_45 : decode q_mWk_follow.1 45 = .ok (.dup, 1) := by decide +kernel
theorem d_Wk_follow_46 : decode q_mWk_follow.1 46 = .ok (.getfield 31, 3) := by decide +kernel
theorem d_Wk_follow_49 : decode q_mWk_follow.1 49 = .ok (.iconst 1, 1) := by decide +kernel
theorem d_Wk_follow_50 : decode q_mWk_follow.1 50 = .ok (.isub, 1) := by decide +kernel
theorem d_Wk_follow_51 : decode q_mWk_follow.1 51 = .ok (.putfield 31, 3) := by decide +kernel
theorem d_Wk_follow_54 : decode q_mWk_follow.1 54 = .ok (.aload_n 0, 1) := by decide +kernel
theorem d_Wk_follow_55 : decode q_mWk_follow.1 55 = .ok (.getfield 25, 3) := by decide +kernel
theorem d_Wk_follow_58 : decode q_mWk_follow.1 58 = .ok (.aload_n 0, 1) := by decide +kernel
theorem d_Wk_follow_59 : decode q_mWk_follow.1 59 = .ok (.getfield 31, 3) := by decide +kernel
theorem d_Wk_follow_62 : decode q_mWk_follow.1 62 = .ok (.iaload, 1) := by decide +kernel
theorem d_Wk_follow_63 : decode q_mWk_follow.1 63 = .ok (.istore_n 3, 1) := by decide +kernel
theorem d_Wk_follow_64 : decode q_mWk_follow.1 64 = .ok (.iload_n 3, 1) := by decide +kernel
theorem d_Wk_follow_65 : decode q_mWk_follow.1 65 = .ok (.ifCond .lt 11, 3) := by decide +kernel
theorem d_Wk_follow_68 : decode q_mWk_follow.1 68 = .ok (.aload_n 0, 1) := by decide +kernel
theorem d_Wk_follow_69 : decode q_mWk_follow.1 69 = .ok (.iload_n 3, 1) := by decide +kernel
theorem d_Wk_follow_70 : decode q_mWk_follow.1 70 = .ok (.invokevirtual 104, 3) := by decide +kernel
theorem d_Wk_follow_73 : decode q_mWk_follow.1 73 = .ok (.goto 19, 3) := by decide +kernel
theorem d_Wk_follow_76 : decode q_mWk_follow.1 76 = .ok (.aload_n 0, 1) := by decide +kernel
theorem d_Wk_follow_77 : decode q_mWk_follow.1 77 = .ok (.iconst (-1), 1) := by decide +kernel
theorem d_Wk_follow_78 : decode q_mWk_follow.1 78 = .ok (.iload_n 3, 1) := by decide +kernel
theorem d_Wk_follow_79 : decode q_mWk_follow.1 79 = .ok (.isub, 1) := by decide +kernel
theorem d_Wk_follow_80 : decode q_mWk_follow.1 80 = .ok (.aload_n 0, 1) := by decide +kernel
theorem d_Wk_follow_81 : decode q_mWk_follow.1 81 = .ok (.getfield 28, 3) := by decide +kernel
theorem d_Wk_follow_84 : decode q_mWk_follow.1 84 = .ok (.aload_n 0, 1) := by decide +kernel
theorem d_Wk_follow_85 : decode q_mWk_follow.1 85 = .ok (.getfield 31, 3) := by decide +kernel
theorem d_Wk_follow_88 : decode q_mWk_follow.1 88 = .ok (.iaload, 1) := by decide +kernel
theorem d_Wk_follow_89 : decode q_mWk_follow.1 89 = .ok (.invokevirtual 107, 3) := by decide +kernel
theorem d_Wk_follow_92 : decode q_mWk_follow.1 92 = .ok (.iinc 2 1, 3) := by decide +kernel
theorem d_Wk_follow_95 : decode q_mWk_follow.1 95 = .ok (.goto (-82), 3) := by decide +kernel
theorem d_Wk_follow_98 : decode q_mWk_follow.1 98 = .ok (.return_, 1) := by decide +kernel
theorem d_Wk_push_0 : decode q_mWk_push.1 0 = .ok (.aload_n 0, 1) := by decide +kernel
theorem d_Wk_push_1 : decode q_mWk_push.1 1 = .ok (.getfield 31, 3) := by decide +kernel
theorem d_Wk_push_4 : decode q_mWk_push.1 4 = .ok (.ifCond .lt 13, 3) := by decide +kernel
theorem d_Wk_push_7 : decode q_mWk_push.1 7 = .ok (.aload_n 0, 1) := by decide +kernel
theorem d_Wk_push_8 : decode q_mWk_push.1 8 = .ok (.getfield 31, 3) := by decide +kernel
theorem d_Wk_push_11 : decode q_mWk_push.1 11 = .ok (.sipush 321, 3) := by decide +kernel
theorem d_Wk_push_14 : decode q_mWk_push.1 14 = .ok (.if_icmp .lt 4, 3) := by decide +kernel
theorem d_Wk_push_17 : decode q_mWk_push.1 17 = .ok (.return_, 1) := by decide +kernel
theorem d_Wk_push_18 : decode q_mWk_push.1 18 = .ok (.aload_n 0, 1) := by decide +kernel
theorem d_Wk_push_19 : decode q_mWk_push.1 19 = .ok (.getfield 25, 3) := by decide +kernel
theorem d_Wk_push_22 : decode q_mWk_push.1 22 = .ok (.aload_n 0, 1) := by decide +kernel
theorem d_Wk_push_23 : decode q_mWk_push.1 23 = .ok (.getfield 31, 3) := by decide +kernel
theorem d_Wk_push_26 : decode q_mWk_push.1 26 = .ok (.iload_n 1, 1) := by decide +kernel
theorem d_Wk_push_27 : decode q_mWk_push.1 27 = .ok (.iastore, 1) := by decide +kernel
theorem d_Wk_push_28 : decode q_mWk_push.1 28 = .ok (.aload_n 0, 1) := by decide +kernel
theorem d_Wk_push_29 : decode q_mWk_push.1 29 = .ok (.getfield 28, 3) := by decide +kernel
theorem d_Wk_push_32 : decode q_mWk_push.1 32 = .ok (.aload_n 0, 1) := by decide +kernel
theorem d_Wk_push_33 : decode q_mWk_push.1 33 = .ok (.getfield 31, 3) := by decide +kernel
theorem d_Wk_push_36 : decode q_mWk_push.1 36 = .ok (.iload_n 2, 1) := by decide +kernel
theorem d_Wk_push_37 : decode q_mWk_push.1 37 = .ok (.iastore, 1) := by decide +kernel
theorem d_Wk_push_38 : decode q_mWk_push.1 38 = .ok (.aload_n 0, 1) := by decide +kernel
theorem d_Wk_push_39 : decode q_mWk_push.1 39 = .ok (.dup, 1) := by decide +kernel
theorem d_Wk_push_40 : decode q_mWk_push.1 40 = .ok (.getfield 31, 3) := by decide +kernel
theorem d_Wk_push_43 : decode q_mWk_push.1 43 = .ok (.iconst 1, 1) := by decide +kernel
theorem d_Wk_push_44 : decode q_mWk_push.1 44 = .ok (.iadd, 1) := by decide +kernel
theorem d_Wk_push_45 : decode q_mWk_push.1 45 = .ok (.putfield 31, 3) := by decide +kernel
theorem d_Wk_push_48 : decode q_mWk_push.1 48 = .ok (.return_, 1) := by decide +kernel
theorem d_Wk_visit_0 : decode q_mWk_visit.1 0 = .ok (.aload_n 0, 1) := by decide +kernel
theorem d_Wk_visit_1 : decode q_mWk_visit.1 1 = .ok (.getfield 57, 3) := by decide +kernel
theorem d_Wk_visit_4 : decode q_mWk_visit.1 4 = .ok (.iload_n 1, 1) := by decide +kernel
theorem d_Wk_visit_5 : decode q_mWk_visit.1 5 = .ok (.invokevirtual 110, 3) := by decide +kernel
theorem d_Wk_visit_8 : decode q_mWk_visit.1 8 = .ok (.ifCond .eq 23, 3) := by decide +kernel
theorem d_Wk_visit_11 : decode q_mWk_visit.1 11 = .ok (.iload_n 1, 1) := by decide +kernel
theorem d_Wk_visit_12 : decode q_mWk_visit.1 12 = .ok (.sipush 160, 3) := by decide +kernel
theorem d_Wk_visit_15 : decode q_mWk_visit.1 15 = .ok (.if_icmp .ge 16, 3) := by decide +kernel
theorem d_Wk_visit_18 : decode q_mWk_visit.1 18 = .ok (.aload_n 0, 1) := by decide +kernel
theorem d_Wk_visit_19 : decode q_mWk_visit.1 19 = .ok (.getfield 21, 3) := by decide +kernel
theorem d_Wk_visit_22 : decode q_mWk_visit.1 22 = .ok (.iload_n 1, 1) := by decide +kernel
theorem d_Wk_visit_23 : decode q_mWk_visit.1 23 = .ok (.iaload, 1) := by decide +kernel
theorem d_Wk_visit_24 : decode q_mWk_visit.1 24 = .ok (.aload_n 0, 1) := by decide +kernel
theorem d_Wk_visit_25 : decode q_mWk_visit.1 25 = .ok (.getfield 54, 3) := by decide +kernel
theorem d_Wk_visit_28 : decode q_mWk_visit.1 28 = .ok (.if_icmp .ne 4, 3) := by decide +kernel
theorem d_Wk_visit_31 : decode q_mWk_visit.1 31 = .ok (.return_, 1) := by decide +kernel
theorem d_Wk_visit_32 : decode q_mWk_visit.1 32 = .ok (.aload_n 0, 1) := by decide +kernel
theorem d_Wk_visit_33 : decode q_mWk_visit.1 33 = .ok (.getfield 21, 3) := by decide +kernel
theorem d_Wk_visit_36 : decode q_mWk_visit.1 36 = .ok (.iload_n 1, 1) := by decide +kernel
theorem d_Wk_visit_37 : decode q_mWk_visit.1 37 = .ok (.aload_n 0, 1) := by decide +kernel
theorem d_Wk_visit_38 : decode q_mWk_visit.1 38 = .ok (.getfield 54, 3) := by decide +kernel
theorem d_Wk_visit_41 : decode q_mWk_visit.1 41 = .ok (.iastore, 1) := by decide +kernel
theorem d_Wk_visit_42 : decode q_mWk_visit.1 42 = .ok (.aload_n 0, 1) := by decide +kernel
theorem d_Wk_visit_43 : decode q_mWk_visit.1 43 = .ok (.getfield 57, 3) := by decide +kernel
theorem d_Wk_visit_46 : decode q_mWk_visit.1 46 = .ok (.iload_n 1, 1) := by decide +kernel
theorem d_Wk_visit_47 : decode q_mWk_visit.1 47 = .ok (.invokevirtual 113, 3) := by decide +kernel
theorem d_Wk_visit_50 : decode q_mWk_visit.1 50 = .ok (.tableswitch 113 0 3 #[30, 45, 74, 90], 30) := by decide +kernel
theorem d_Wk_visit_80 : decode q_mWk_visit.1 80 = .ok (.aload_n 0, 1) := by decide +kernel
theorem d_Wk_visit_81 : decode q_mWk_visit.1 81 = .ok (.getfield 12, 3) := by decide +kernel
theorem d_Wk_visit_84 : decode q_mWk_visit.1 84 = .ok (.iload_n 1, 1) := by decide +kernel
theorem d_Wk_visit_85 : decode q_mWk_visit.1 85 = .ok (.aload_n 0, 1) := by decide +kernel
theorem d_Wk_visit_86 : decode q_mWk_visit.1 86 = .ok (.getfield 35, 3) := by decide +kernel
theorem d_Wk_visit_89 : decode q_mWk_visit.1 89 = .ok (.invokevirtual 116, 3) := by decide +kernel
theorem d_Wk_visit_92 : decode q_mWk_visit.1 92 = .ok (.goto 75, 3) := by decide +kernel
theorem d_Wk_visit_95 : decode q_mWk_visit.1 95 = .ok (.aload_n 0, 1) := by decide +kernel
theorem d_Wk_visit_96 : decode q_mWk_visit.1 96 = .ok (.aload_n 0, 1) := by decide +kernel
theorem d_Wk_visit_97 : decode q_mWk_visit.1 97 = .ok (.getfield 57, 3) := by decide +kernel
theorem d_Wk_visit_100 : decode q_mWk_visit.1 100 = .ok (.iload_n 1, 1) := by decide +kernel
theorem d_Wk_visit_101 : decode q_mWk_visit.1 101 = .ok (.invokevirtual 119, 3) := by decide +kernel
theorem d_Wk_visit_104 : decode q_mWk_visit.1 104 = .ok (.iconst 0, 1) := by decide +kernel
theorem d_Wk_visit_105 : decode q_mWk_visit.1 105 = .ok (.invokevirtual 100, 3) := by decide +kernel
theorem d_Wk_visit_108 : decode q_mWk_visit.1 108 = .ok (.aload_n 0, 1) := by decide +kernel
theorem d_Wk_visit_109 : decode q_mWk_visit.1 109 = .ok (.aload_n 0, 1) := by decide +kernel
theorem d_Wk_visit_110 : decode q_mWk_visit.1 110 = .ok (.getfield 57, 3) := by decide +kernel
theorem d_Wk_visit_113 : decode q_mWk_visit.1 113 = .ok (.iload_n 1, 1) := by decide +kernel
theorem d_Wk_visit_114 : decode q_mWk_visit.1 114 = .ok (.invokevirtual 81, 3) := by decide +kernel
theorem d_Wk_visit_117 : decode q_mWk_visit.1 117 = .ok (.iconst 0, 1) := by decide +kernel
theorem d_Wk_visit_118 : decode q_mWk_visit.1 118 = .ok (.invokevirtual 100, 3) := by decide +kernel
theorem d_Wk_visit_121 : decode q_mWk_visit.1 121 = .ok (.goto 46, 3) := by decide +kernel
theorem d_Wk_visit_124 : decode q_mWk_visit.1 124 = .ok (.aload_n 0, 1) := by decide +kernel
theorem d_Wk_visit_125 : decode q_mWk_visit.1 125 = .ok (.aload_n 0, 1) := by decide +kernel
theorem d_Wk_visit_126 : decode q_mWk_visit.1 126 = .ok (.getfield 57, 3) := by decide +kernel
theorem d_Wk_visit_129 : decode q_mWk_visit.1 129 = .ok (.iload_n 1, 1) := by decide +kernel
theorem d_Wk_visit_130 : decode q_mWk_visit.1 130 = .ok (.invokevirtual 81, 3) := by decide +kernel
theorem d_Wk_visit_133 : decode q_mWk_visit.1 133 = .ok (.iconst 0, 1) := by decide +kernel
theorem d_Wk_visit_134 : decode q_mWk_visit.1 134 = .ok (.invokevirtual 100, 3) := by decide +kernel
theorem d_Wk_visit_137 : decode q_mWk_visit.1 137 = .ok (.goto 30, 3) := by decide +kernel
theorem d_Wk_visit_140 : decode q_mWk_visit.1 140 = .ok (.aload_n 0, 1) := by decide +kernel
theorem d_Wk_visit_141 : decode q_mWk_visit.1 141 = .ok (.aload_n 0, 1) := by decide +kernel
theorem d_Wk_visit_142 : decode q_mWk_visit.1 142 = .ok (.getfield 57, 3) := by decide +kernel
theorem d_Wk_visit_145 : decode q_mWk_visit.1 145 = .ok (.iload_n 1, 1) := by decide +kernel
theorem d_Wk_visit_146 : decode q_mWk_visit.1 146 = .ok (.invokevirtual 81, 3) := by decide +kernel
theorem d_Wk_visit_149 : decode q_mWk_visit.1 149 = .ok (.invokevirtual 122, 3) := by decide +kernel
theorem d_Wk_visit_152 : decode q_mWk_visit.1 152 = .ok (.aload_n 0, 1) := by decide +kernel
theorem d_Wk_visit_153 : decode q_mWk_visit.1 153 = .ok (.iload_n 1, 1) := by decide +kernel
theorem d_Wk_visit_154 : decode q_mWk_visit.1 154 = .ok (.iconst 1, 1) := by decide +kernel
theorem d_Wk_visit_155 : decode q_mWk_visit.1 155 = .ok (.iadd, 1) := by decide +kernel
theorem d_Wk_visit_156 : decode q_mWk_visit.1 156 = .ok (.iconst 0, 1) := by decide +kernel
theorem d_Wk_visit_157 : decode q_mWk_visit.1 157 = .ok (.invokevirtual 100, 3) := by decide +kernel
theorem d_Wk_visit_160 : decode q_mWk_visit.1 160 = .ok (.goto 7, 3) := by decide +kernel
theorem d_Wk_visit_163 : decode q_mWk_visit.1 163 = .ok (.aload_n 0, 1) := by decide +kernel
theorem d_Wk_visit_164 : decode q_mWk_visit.1 164 = .ok (.invokevirtual 125, 3) := by decide +kernel
theorem d_Wk_visit_167 : decode q_mWk_visit.1 167 = .ok (.return_, 1) := by decide +kernel
theorem d_Wk_passMark_0 : decode q_mWk_passMark.1 0 = .ok (.iload_n 1, 1) := by decide +kernel
theorem d_Wk_passMark_1 : decode q_mWk_passMark.1 1 = .ok (.ifCond .lt 9, 3) := by decide +kernel
theorem d_Wk_passMark_4 : decode q_mWk_passMark.1 4 = .ok (.iload_n 1, 1) := by decide +kernel
theorem d_Wk_passMark_5 : decode q_mWk_passMark.1 5 = .ok (.bipush 14, 2) := by decide +kernel
theorem d_Wk_passMark_7 : decode q_mWk_passMark.1 7 = .ok (.if_icmp .lt 4, 3) := by decide +kernel
theorem d_Wk_passMark_10 : decode q_mWk_passMark.1 10 = .ok (.return_, 1) := by decide +kernel
theorem d_Wk_passMark_11 : decode q_mWk_passMark.1 11 = .ok (.aload_n 0, 1) := by decide +kernel
theorem d_Wk_passMark_12 : decode q_mWk_passMark.1 12 = .ok (.iconst (-1), 1) := by decide +kernel
theorem d_Wk_passMark_13 : decode q_mWk_passMark.1 13 = .ok (.iload_n 1, 1) := by decide +kernel
theorem d_Wk_passMark_14 : decode q_mWk_passMark.1 14 = .ok (.isub, 1) := by decide +kernel
theorem d_Wk_passMark_15 : decode q_mWk_passMark.1 15 = .ok (.aload_n 0, 1) := by decide +kernel
theorem d_Wk_passMark_16 : decode q_mWk_passMark.1 16 = .ok (.getfield 35, 3) := by decide +kernel
theorem d_Wk_passMark_19 : decode q_mWk_passMark.1 19 = .ok (.iload_n 1, 1) := by decide +kernel
theorem d_Wk_passMark_20 : decode q_mWk_passMark.1 20 = .ok (.iaload, 1) := by decide +kernel
theorem d_Wk_passMark_21 : decode q_mWk_passMark.1 21 = .ok (.invokevirtual 100, 3) := by decide +kernel
theorem d_Wk_passMark_24 : decode q_mWk_passMark.1 24 = .ok (.aload_n 0, 1) := by decide +kernel
theorem d_Wk_passMark_25 : decode q_mWk_passMark.1 25 = .ok (.getfield 35, 3) := by decide +kernel
theorem d_Wk_passMark_28 : decode q_mWk_passMark.1 28 = .ok (.iload_n 1, 1) := by decide +kernel
theorem d_Wk_passMark_29 : decode q_mWk_passMark.1 29 = .ok (.aload_n 0, 1) := by decide +kernel
theorem d_Wk_passMark_30 : decode q_mWk_passMark.1 30 = .ok (.getfield 54, 3) := by decide +kernel
theorem d_Wk_passMark_33 : decode q_mWk_passMark.1 33 = .ok (.iastore, 1) := by decide +kernel
theorem d_Wk_passMark_34 : decode q_mWk_passMark.1 34 = .ok (.return_, 1) := by decide +kernel
theorem d_Wk_keepMatch_0 : decode q_mWk_keepMatch.1 0 = .ok (.aload_n 0, 1) := by decide +kernel
theorem d_Wk_keepMatch_1 : decode q_mWk_keepMatch.1 1 = .ok (.iconst 1, 1) := by decide +kernel
theorem d_Wk_keepMatch_2 : decode q_mWk_keepMatch.1 2 = .ok (.putfield 48, 3) := by decide +kernel
theorem d_Wk_keepMatch_5 : decode q_mWk_keepMatch.1 5 = .ok (.aload_n 0, 1) := by decide +kernel
theorem d_Wk_keepMatch_6 : decode q_mWk_keepMatch.1 6 = .ok (.aload_n 0, 1) := by decide +kernel
theorem d_Wk_keepMatch_7 : decode q_mWk_keepMatch.1 7 = .ok (.getfield 45, 3) := by decide +kernel
theorem d_Wk_keepMatch_10 : decode q_mWk_keepMatch.1 10 = .ok (.putfield 51, 3) := by decide +kernel
theorem d_Wk_keepMatch_13 : decode q_mWk_keepMatch.1 13 = .ok (.iconst 0, 1) := by decide +kernel
theorem d_Wk_keepMatch_14 : decode q_mWk_keepMatch.1 14 = .ok (.istore_n 1, 1) := by decide +kernel
theorem d_Wk_keepMatch_15 : decode q_mWk_keepMatch.1 15 = .ok (.iload_n 1, 1) := by decide +kernel
theorem d_Wk_keepMatch_16 : decode q_mWk_keepMatch.1 16 = .ok (.bipush 14, 2) := by decide +kernel
theorem d_Wk_keepMatch_18 : decode q_mWk_keepMatch.1 18 = .ok (.if_icmp .ge 21, 3) := by decide +kernel
theorem d_Wk_keepMatch_21 : decode q_mWk_keepMatch.1 21 = .ok (.aload_n 0, 1) := by decide +kernel
theorem d_Wk_keepMatch_22 : decode q_mWk_keepMatch.1 22 = .ok (.getfield 38, 3) := by decide +kernel
theorem d_Wk_keepMatch_25 : decode q_mWk_keepMatch.1 25 = .ok (.iload_n 1, 1) := by decide +kernel
theorem d_Wk_keepMatch_26 : decode q_mWk_keepMatch.1 26 = .ok (.aload_n 0, 1) := by decide +kernel
theorem d_Wk_keepMatch_27 : decode q_mWk_keepMatch.1 27 = .ok (.getfield 35, 3) := by decide +kernel
theorem d_Wk_keepMatch_30 : decode q_mWk_keepMatch.1 30 = .ok (.iload_n 1, 1) := by decide +kernel
theorem d_Wk_keepMatch_31 : decode q_mWk_keepMatch.1 31 = .ok (.iaload, 1) := by decide +kernel
theorem d_Wk_keepMatch_32 : decode q_mWk_keepMatch.1 32 = .ok (.iastore, 1) := by decide +kernel
theorem d_Wk_keepMatch_33 : decode q_mWk_keepMatch.1 33 = .ok (.iinc 1 1, 3) := by decide +kernel
theorem d_Wk_keepMatch_36 : decode q_mWk_keepMatch.1 36 = .ok (.goto (-21), 3) := by decide +kernel
theorem d_Wk_keepMatch_39 : decode q_mWk_keepMatch.1 39 = .ok (.return_, 1) := by decide +kernel
theorem d_Wk_setMark_0 : decode q_mWk_setMark.1 0 = .ok (.iload_n 1, 1) := by decide +kernel
theorem d_Wk_setMark_1 : decode q_mWk_setMark.1 1 = .ok (.ifCond .lt 16, 3) := by decide +kernel
theorem d_Wk_setMark_4 : decode q_mWk_setMark.1 4 = .ok (.iload_n 1, 1) := by decide +kernel
theorem d_Wk_setMark_5 : decode q_mWk_setMark.1 5 = .ok (.bipush 14, 2) := by decide +kernel
theorem d_Wk_setMark_7 : decode q_mWk_setMark.1 7 = .ok (.if_icmp .ge 10, 3) := by decide +kernel
theorem d_Wk_setMark_10 : decode q_mWk_setMark.1 10 = .ok (.aload_n 0, 1) := by decide +kernel
theorem d_Wk_setMark_11 : decode q_mWk_setMark.1 11 = .ok (.getfield 35, 3) := by decide +kernel
theorem d_Wk_setMark_14 : decode q_mWk_setMark.1 14 = .ok (.iload_n 1, 1) := by decide +kernel
theorem d_Wk_setMark_15 : decode q_mWk_setMark.1 15 = .ok (.iload_n 2, 1) := by decide +kernel
theorem d_Wk_setMark_16 : decode q_mWk_setMark.1 16 = .ok (.iastore, 1) := by decide +kernel
theorem d_Wk_setMark_17 : decode q_mWk_setMark.1 17 = .ok (.return_, 1) := by decide +kernel
theorem d_Wk_step_0 : decode q_mWk_step.1 0 = .ok (.aload_n 0, 1) := by decide +kernel
theorem d_Wk_step_1 : decode q_mWk_step.1 1 = .ok (.getfield 12, 3) := by decide +kernel
theorem d_Wk_step_4 : decode q_mWk_step.1 4 = .ok (.astore_n 2, 1) := by decide +kernel
theorem d_Wk_step_5 : decode q_mWk_step.1 5 = .ok (.aload_n 0, 1) := by decide +kernel
theorem d_Wk_step_6 : decode q_mWk_step.1 6 = .ok (.aload_n 0, 1) := by decide +kernel
theorem d_Wk_step_7 : decode q_mWk_step.1 7 = .ok (.getfield 18, 3) := by decide +kernel
theorem d_Wk_step_10 : decode q_mWk_step.1 10 = .ok (.putfield 12, 3) := by decide +kernel
theorem d_Wk_step_13 : decode q_mWk_step.1 13 = .ok (.aload_n 0, 1) := by decide +kernel
theorem d_Wk_step_14 : decode q_mWk_step.1 14 = .ok (.aload_n 2, 1) := by decide +kernel
theorem d_Wk_step_15 : decode q_mWk_step.1 15 = .ok (.putfield 18, 3) := by decide +kernel
theorem d_Wk_step_18 : decode q_mWk_step.1 18 = .ok (.aload_n 0, 1) := by decide +kernel
theorem d_Wk_step_19 : decode q_mWk_step.1 19 = .ok (.getfield 12, 3) := by decide +kernel
theorem d_Wk_step_22 : decode q_mWk_step.1 22 = .ok (.iconst 0, 1) := by decide +kernel
theorem d_Wk_step_23 : decode q_mWk_step.1 23 = .ok (.putfield 65, 3) := by decide +kernel
theorem d_Wk_step_26 : decode q_mWk_step.1 26 = .ok (.aload_n 0, 1) := by decide +kernel
theorem d_Wk_step_27 : decode q_mWk_step.1 27 = .ok (.dup, 1) := by decide +kernel
theorem d_Wk_step_28 : decode q_mWk_step.1 28 = .ok (.getfield 54, 3) := by decide +kernel
theorem d_Wk_step_31 : decode q_mWk_step.1 31 = .ok (.iconst 1, 1) := by decide +kernel
theorem d_Wk_step_32 : decode q_mWk_step.1 32 = .ok (.iadd, 1) := by decide +kernel
theorem d_Wk_step_33 : decode q_mWk_step.1 33 = .ok (.putfield 54, 3) := by decide +kernel
theorem d_Wk_step_36 : decode q_mWk_step.1 36 = .ok (.aload_n 0, 1) := by decide +kernel
theorem d_Wk_step_37 : decode q_mWk_step.1 37 = .ok (.iconst 0, 1) := by decide +kernel
theorem d_Wk_step_38 : decode q_mWk_step.1 38 = .ok (.putfield 51, 3) := by decide +kernel
theorem d_Wk_step_41 : decode q_mWk_step.1 41 = .ok (.aload_n 0, 1) := by decide +kernel
theorem d_Wk_step_42 : decode q_mWk_step.1 42 = .ok (.aload_n 0, 1) := by decide +kernel
theorem d_Wk_step_43 : decode q_mWk_step.1 43 = .ok (.getfield 48, 3) := by decide +kernel
theorem d_Wk_step_46 : decode q_mWk_step.1 46 = .ok (.ifCond .eq 14, 3) := by decide +kernel
theorem d_Wk_step_49 : decode q_mWk_step.1 49 = .ok (.aload_n 0, 1) := by decide +kernel
theorem d_Wk_step_50 : decode q_mWk_step.1 50 = .ok (.getfield 45, 3) := by decide +kernel
theorem d_Wk_step_53 : decode q_mWk_step.1 53 = .ok (.ifCond .eq 7, 3) := by decide +kernel
theorem d_Wk_step_56 : decode q_mWk_step.1 56 = .ok (.iconst 1, 1) := by decide +kernel
theorem d_Wk_step_57 : decode q_mWk_step.1 57 = .ok (.goto 4, 3) := by decide +kernel
theorem d_Wk_step_60 : decode q_mWk_step.1 60 = .ok (.iconst 0, 1) := by decide +kernel
theorem d_Wk_step_61 : decode q_mWk_step.1 61 = .ok (.putfield 48, 3) := by decide +kernel
theorem d_Wk_step_64 : decode q_mWk_step.1 64 = .ok (.iconst 0, 1) := by decide +kernel
theorem d_Wk_step_65 : decode q_mWk_step.1 65 = .ok (.istore_n 3, 1) := by decide +kernel
theorem d_Wk_step_66 : decode q_mWk_step.1 66 = .ok (.iload_n 3, 1) := by decide +kernel
theorem d_Wk_step_67 : decode q_mWk_step.1 67 = .ok (.aload_n 2, 1) := by decide +kernel
theorem d_Wk_step_68 : decode q_mWk_step.1 68 = .ok (.getfield 65, 3) := by decide +kernel
theorem d_Wk_step_71 : decode q_mWk_step.1 71 = .ok (.if_icmp .ge 60, 3) := by decide +kernel
theorem d_Wk_step_74 : decode q_mWk_step.1 74 = .ok (.aload_n 0, 1) := by decide +kernel
theorem d_Wk_step_75 : decode q_mWk_step.1 75 = .ok (.getfield 51, 3) := by decide +kernel
theorem d_Wk_step_78 : decode q_mWk_step.1 78 = .ok (.ifCond .ne 53, 3) := by decide +kernel
theorem d_Wk_step_81 : decode q_mWk_step.1 81 = .ok (.aload_n 2, 1) := by decide +kernel
theorem d_Wk_step_82 : decode q_mWk_step.1 82 = .ok (.iload_n 3, 1) := by decide +kernel
theorem d_Wk_step_83 : decode q_mWk_step.1 83 = .ok (.invokevirtual 77, 3) := by decide +kernel
theorem d_Wk_step_86 : decode q_mWk_step.1 86 = .ok (.istore 4, 2) := by decide +kernel
theorem d_Wk_step_88 : decode q_mWk_step.1 88 = .ok (.aload_n 0, 1) := by decide +kernel
theorem d_Wk_step_89 : decode q_mWk_step.1 89 = .ok (.getfield 61, 3) := by decide +kernel
theorem d_Wk_step_92 : decode q_mWk_step.1 92 = .ok (.aload_n 0, 1) := by decide +kernel
theorem d_Wk_step_93 : decode q_mWk_step.1 93 = .ok (.getfield 57, 3) := by decide +kernel
theorem d_Wk_step_96 : decode q_mWk_step.1 96 = .ok (.iload 4, 2) := by decide +kernel
theorem d_Wk_step_98 : decode q_mWk_step.1 98 = .ok (.invokevirtual 81, 3) := by decide +kernel
theorem d_Wk_step_101 : decode q_mWk_step.1 101 = .ok (.iload_n 1, 1) := by decide +kernel
theorem d_Wk_step_102 : decode q_mWk_step.1 102 = .ok (.invokevirtual 86, 3) := by decide +kernel
theorem d_Wk_step_105 : decode q_mWk_step.1 105 = .ok (.ifCond .eq 20, 3) := by decide +kernel
theorem d_Wk_step_108 : decode q_mWk_step.1 108 = .ok (.aload_n 2, 1) := by decide +kernel
theorem d_Wk_step_109 : decode q_mWk_step.1 109 = .ok (.iload_n 3, 1) := by decide +kernel
theorem d_Wk_step_110 : decode q_mWk_step.1 110 = .ok (.aload_n 0, 1) := by decide +kernel
theorem d_Wk_step_111 : decode q_mWk_step.1 111 = .ok (.getfield 35, 3) := by decide +kernel
theorem d_Wk_step_114 : decode q_mWk_step.1 114 = .ok (.invokevirtual 92, 3) := by decide +kernel
theorem d_Wk_step_117 : decode q_mWk_step.1 117 = .ok (.aload_n 0, 1) := by decide +kernel
theorem d_Wk_step_118 : decode q_mWk_step.1 118 = .ok (.iload 4, 2) := by decide +kernel
theorem d_Wk_step_120 : decode q_mWk_step.1 120 = .ok (.iconst 1, 1) := by decide +kernel
theorem d_Wk_step_121 : decode q_mWk_step.1 121 = .ok (.iadd, 1) := by decide +kernel
theorem d_Wk_step_122 : decode q_mWk_step.1 122 = .ok (.invokevirtual 96, 3) := by decide +kernel
theorem d_Wk_step_125 : decode q_mWk_step.1 125 = .ok (.iinc 3 1, 3) := by decide +kernel
theorem d_Wk_step_128 : decode q_mWk_step.1 128 = .ok (.goto (-62), 3) := by decide +kernel
theorem d_Wk_step_131 : decode q_mWk_step.1 131 = .ok (.aload_n 0, 1) := by decide +kernel
theorem d_Wk_step_132 : decode q_mWk_step.1 132 = .ok (.getfield 45, 3) := by decide +kernel
theorem d_Wk_step_135 : decode q_mWk_step.1 135 = .ok (.ifCond .eq 14, 3) := by decide +kernel
theorem d_Wk_step_138 : decode q_mWk_step.1 138 = .ok (.aload_n 0, 1) := by decide +kernel
theorem d_Wk_step_139 : decode q_mWk_step.1 139 = .ok (.getfield 48, 3) := by decide +kernel
theorem d_Wk_step_142 : decode q_mWk_step.1 142 = .ok (.ifCond .ne 7, 3) := by decide +kernel
theorem d_Wk_step_145 : decode q_mWk_step.1 145 = .ok (.aload_n 0, 1) := by decide +kernel
theorem d_Wk_step_146 : decode q_mWk_step.1 146 = .ok (.invokevirtual 74, 3) := by decide +kernel
theorem d_Wk_step_149 : decode q_mWk_step.1 149 = .ok (.return_, 1) := by decide +kernel
theorem d_Wk_standsAt_0 : decode q_mWk_standsAt.1 0 = .ok (.iload_n 1, 1) := by decide +kernel
theorem d_Wk_standsAt_1 : decode q_mWk_standsAt.1 1 = .ok (.ifCond .lt 10, 3) := by decide +kernel
theorem d_Wk_standsAt_4 : decode q_mWk_standsAt.1 4 = .ok (.iload_n 1, 1) := by decide +kernel
theorem d_Wk_standsAt_5 : decode q_mWk_standsAt.1 5 = .ok (.sipush 160, 3) := by decide +kernel
theorem d_Wk_standsAt_8 : decode q_mWk_standsAt.1 8 = .ok (.if_icmp .lt 5, 3) := by decide +kernel
theorem d_Wk_standsAt_11 : decode q_mWk_standsAt.1 11 = .ok (.iconst 0, 1) := by decide +kernel
theorem d_Wk_standsAt_12 : decode q_mWk_standsAt.1 12 = .ok (.ireturn, 1) := by decide +kernel
theorem d_Wk_standsAt_13 : decode q_mWk_standsAt.1 13 = .ok (.aload_n 0, 1) := by decide +kernel
theorem d_Wk_standsAt_14 : decode q_mWk_standsAt.1 14 = .ok (.getfield 57, 3) := by decide +kernel
theorem d_Wk_standsAt_17 : decode q_mWk_standsAt.1 17 = .ok (.iload_n 1, 1) := by decide +kernel
theorem d_Wk_standsAt_18 : decode q_mWk_standsAt.1 18 = .ok (.invokevirtual 113, 3) := by decide +kernel
theorem d_Wk_standsAt_21 : decode q_mWk_standsAt.1 21 = .ok (.ifCond .ne 20, 3) := by decide +kernel
theorem d_Wk_standsAt_24 : decode q_mWk_standsAt.1 24 = .ok (.aload_n 0, 1) := by decide +kernel
theorem d_Wk_standsAt_25 : decode q_mWk_standsAt.1 25 = .ok (.getfield 21, 3) := by decide +kernel
theorem d_Wk_standsAt_28 : decode q_mWk_standsAt.1 28 = .ok (.iload_n 1, 1) := by decide +kernel
theorem d_Wk_standsAt_29 : decode q_mWk_standsAt.1 29 = .ok (.iaload, 1) := by decide +kernel
theorem d_Wk_standsAt_30 : decode q_mWk_standsAt.1 30 = .ok (.aload_n 0, 1) := by decide +kernel
theorem d_Wk_standsAt_31 : decode q_mWk_standsAt.1 31 = .ok (.getfield 54, 3) := by decide +kernel
theorem d_Wk_standsAt_34 : decode q_mWk_standsAt.1 34 = .ok (.if_icmp .ne 7, 3) := by decide +kernel
theorem d_Wk_standsAt_37 : decode q_mWk_standsAt.1 37 = .ok (.iconst 1, 1) := by decide +kernel
theorem d_Wk_standsAt_38 : decode q_mWk_standsAt.1 38 = .ok (.goto 4, 3) := by decide +kernel
theorem d_Wk_standsAt_41 : decode q_mWk_standsAt.1 41 = .ok (.iconst 0, 1) := by decide +kernel
theorem d_Wk_standsAt_42 : decode q_mWk_standsAt.1 42 = .ok (.ireturn, 1) := by decide +kernel
end
section
theorem d_Wk_foundMark_0 : decode q_mWk_foundMark.1 0 = .ok (.aload_n 0, 1) := by decide +kernel
theorem d_Wk_foundMark_1 : decode q_mWk_foundMark.1 1 = .ok (.getfield 48, 3) := by decide +kernel
theorem d_Wk_foundMark_4 : decode q_mWk_foundMark.1 4 = .ok (.ifCond .eq 22, 3) := by decide +kernel
theorem d_Wk_foundMark_7 : decode q_mWk_foundMark.1 7 = .ok (.iload_n 1, 1) := by decide +kernel
theorem d_Wk_foundMark_8 : decode q_mWk_foundMark.1 8 = .ok (.ifCond .lt 18, 3) := by decide +kernel
theorem d_Wk_foundMark_11 : decode q_mWk_foundMark.1 11 = .ok (.iload_n 1, 1) := by decide +kernel
theorem d_Wk_foundMark_12 : decode q_mWk_foundMark.1 12 = .ok (.bipush 14, 2) := by decide +kernel
theorem d_Wk_foundMark_14 : decode q_mWk_foundMark.1 14 = .ok (.if_icmp .ge 12, 3) := by decide +kernel
theorem d_Wk_foundMark_17 : decode q_mWk_foundMark.1 17 = .ok (.aload_n 0, 1) := by decide +kernel
theorem d_Wk_foundMark_18 : decode q_mWk_foundMark.1 18 = .ok (.getfield 38, 3) := by decide +kernel
theorem d_Wk_foundMark_21 : decode q_mWk_foundMark.1 21 = .ok (.iload_n 1, 1) := by decide +kernel
theorem d_Wk_foundMark_22 : decode q_mWk_foundMark.1 22 = .ok (.iaload, 1) := by decide +kernel
theorem d_Wk_foundMark_23 : decode q_mWk_foundMark.1 23 = .ok (.goto 4, 3) := by decide +kernel
theorem d_Wk_foundMark_26 : decode q_mWk_foundMark.1 26 = .ok (.iconst (-1), 1) := by decide +kernel
theorem d_Wk_foundMark_27 : decode q_mWk_foundMark.1 27 = .ok (.ireturn, 1) := by decide +kernel
theorem d_Wy_init_0 : decode q_mWy_init.1 0 = .ok (.aload_n 0, 1) := by decide +kernel
theorem d_Wy_init_1 : decode q_mWy_init.1 1 = .ok (.invokespecial 3, 3) := by decide +kernel
theorem d_Wy_init_4 : decode q_mWy_init.1 4 = .ok (.aload_n 0, 1) := by decide +kernel
theorem d_Wy_init_5 : decode q_mWy_init.1 5 = .ok (.sipush 160, 3) := by decide +kernel
theorem d_Wy_init_8 : decode q_mWy_init.1 8 = .ok (.newarray .int, 2) := by decide +kernel
theorem d_Wy_init_10 : decode q_mWy_init.1 10 = .ok (.putfield 9, 3) := by decide +kernel
theorem d_Wy_init_13 : decode q_mWy_init.1 13 = .ok (.aload_n 0, 1) := by decide +kernel
theorem d_Wy_init_14 : decode q_mWy_init.1 14 = .ok (.sipush 2240, 3) := by decide +kernel
theorem d_Wy_init_17 : decode q_mWy_init.1 17 = .ok (.newarray .int, 2) := by decide +kernel
theorem d_Wy_init_19 : decode q_mWy_init.1 19 = .ok (.putfield 15, 3) := by decide +kernel
theorem d_Wy_init_22 : decode q_mWy_init.1 22 = .ok (.aload_n 0, 1) := by decide +kernel
theorem d_Wy_init_23 : decode q_mWy_init.1 23 = .ok (.iconst 0, 1) := by decide +kernel
theorem d_Wy_init_24 : decode q_mWy_init.1 24 = .ok (.putfield 18, 3) := by decide +kernel
theorem d_Wy_init_27 : decode q_mWy_init.1 27 = .ok (.return_, 1) := by decide +kernel
theorem d_Wy_add_0 : decode q_mWy_add.1 0 = .ok (.aload_n 0, 1) := by decide +kernel
theorem d_Wy_add_1 : decode q_mWy_add.1 1 = .ok (.getfield 18, 3) := by decide +kernel
theorem d_Wy_add_4 : decode q_mWy_add.1 4 = .ok (.ifCond .lt 13, 3) := by decide +kernel
theorem d_Wy_add_7 : decode q_mWy_add.1 7 = .ok (.aload_n 0, 1) := by decide +kernel
theorem d_Wy_add_8 : decode q_mWy_add.1 8 = .ok (.getfield 18, 3) := by decide +kernel
theorem d_Wy_add_11 : decode q_mWy_add.1 11 = .ok (.sipush 160, 3) := by decide +kernel
theorem d_Wy_add_14 : decode q_mWy_add.1 14 = .ok (.if_icmp .lt 4, 3) := by decide +kernel
theorem d_Wy_add_17 : decode q_mWy_add.1 17 = .ok (.return_, 1) := by decide +kernel
theorem d_Wy_add_18 : decode q_mWy_add.1 18 = .ok (.aload_n 0, 1) := by decide +kernel
theorem d_Wy_add_19 : decode q_mWy_add.1 19 = .ok (.getfield 9, 3) := by decide +kernel
theorem d_Wy_add_22 : decode q_mWy_add.1 22 = .ok (.aload_n 0, 1) := by decide +kernel
theorem d_Wy_add_23 : decode q_mWy_add.1 23 = .ok (.getfield 18, 3) := by decide +kernel
theorem d_Wy_add_26 : decode q_mWy_add.1 26 = .ok (.iload_n 1, 1) := by decide +kernel
theorem d_Wy_add_27 : decode q_mWy_add.1 27 = .ok (.iastore, 1) := by decide +kernel
theorem d_Wy_add_28 : decode q_mWy_add.1 28 = .ok (.iconst 0, 1) := by decide +kernel
theorem d_Wy_add_29 : decode q_mWy_add.1 29 = .ok (.istore_n 3, 1) := by decide +kernel
theorem d_Wy_add_30 : decode q_mWy_add.1 30 = .ok (.iload_n 3, 1) := by decide +kernel
theorem d_Wy_add_31 : decode q_mWy_add.1 31 = .ok (.bipush 14, 2) := by decide +kernel
theorem d_Wy_add_33 : decode q_mWy_add.1 33 = .ok (.if_icmp .ge 32, 3) := by decide +kernel
theorem d_Wy_add_36 : decode q_mWy_add.1 36 = .ok (.iload_n 3, 1) := by decide +kernel
theorem d_Wy_add_37 : decode q_mWy_add.1 37 = .ok (.aload_n 2, 1) := by decide +kernel
theorem d_Wy_add_38 : decode q_mWy_add.1 38 = .ok (.arraylength, 1) := by decide +kernel
theorem d_Wy_add_39 : decode q_mWy_add.1 39 = .ok (.if_icmp .ge 26, 3) := by decide +kernel
theorem d_Wy_add_42 : decode q_mWy_add.1 42 = .ok (.aload_n 0, 1) := by decide +kernel
theorem d_Wy_add_43 : decode q_mWy_add.1 43 = .ok (.getfield 15, 3) := by decide +kernel
theorem d_Wy_add_46 : decode q_mWy_add.1 46 = .ok (.aload_n 0, 1) := by decide +kernel
theorem d_Wy_add_47 : decode q_mWy_add.1 47 = .ok (.getfield 18, 3) := by decide +kernel
theorem d_Wy_add_50 : decode q_mWy_add.1 50 = .ok (.bipush 14, 2) := by decide +kernel
theorem d_Wy_add_52 : decode q_mWy_add.1 52 = .ok (.imul, 1) := by decide +kernel
theorem d_Wy_add_53 : decode q_mWy_add.1 53 = .ok (.iload_n 3, 1) := by decide +kernel
theorem d_Wy_add_54 : decode q_mWy_add.1 54 = .ok (.iadd, 1) := by decide +kernel
theorem d_Wy_add_55 : decode q_mWy_add.1 55 = .ok (.aload_n 2, 1) := by decide +kernel
theorem d_Wy_add_56 : decode q_mWy_add.1 56 = .ok (.iload_n 3, 1) := by decide +kernel
theorem d_Wy_add_57 : decode q_mWy_add.1 57 = .ok (.iaload, 1) := by decide +kernel
theorem d_Wy_add_58 : decode q_mWy_add.1 58 = .ok (.iastore, 1) := by decide +kernel
theorem d_Wy_add_59 : decode q_mWy_add.1 59 = .ok (.iinc 3 1, 3) := by decide +kernel
theorem d_Wy_add_62 : decode q_mWy_add.1 62 = .ok (.goto (-32), 3) := by decide +kernel
theorem d_Wy_add_65 : decode q_mWy_add.1 65 = .ok (.aload_n 0, 1) := by decide +kernel
theorem d_Wy_add_66 : decode q_mWy_add.1 66 = .ok (.dup, 1) := by decide +kernel
theorem d_Wy_add_67 : decode q_mWy_add.1 67 = .ok (.getfield 18, 3) := by decide +kernel
theorem d_Wy_add_70 : decode q_mWy_add.1 70 = .ok (.iconst 1, 1) := by decide +kernel
theorem d_Wy_add_71 : decode q_mWy_add.1 71 = .ok (.iadd, 1) := by decide +kernel
theorem d_Wy_add_72 : decode q_mWy_add.1 72 = .ok (.putfield 18, 3) := by decide +kernel
theorem d_Wy_add_75 : decode q_mWy_add.1 75 = .ok (.return_, 1) := by decide +kernel
theorem d_Wy_takeOf_0 : decode q_mWy_takeOf.1 0 = .ok (.iload_n 1, 1) := by decide +kernel
theorem d_Wy_takeOf_1 : decode q_mWy_takeOf.1 1 = .ok (.ifCond .lt 27, 3) := by decide +kernel
theorem d_Wy_takeOf_4 : decode q_mWy_takeOf.1 4 = .ok (.iload_n 1, 1) := by decide +kernel
theorem d_Wy_takeOf_5 : decode q_mWy_takeOf.1 5 = .ok (.aload_n 0, 1) := by decide +kernel
theorem d_Wy_takeOf_6 : decode q_mWy_takeOf.1 6 = .ok (.getfield 18, 3) := by decide +kernel
theorem d_Wy_takeOf_9 : decode q_mWy_takeOf.1 9 = .ok (.if_icmp .ge 19, 3) := by decide +kernel
theorem d_Wy_takeOf_12 : decode q_mWy_takeOf.1 12 = .ok (.iload_n 1, 1) := by decide +kernel
theorem d_Wy_takeOf_13 : decode q_mWy_takeOf.1 13 = .ok (.sipush 160, 3) := by decide +kernel
theorem d_Wy_takeOf_16 : decode q_mWy_takeOf.1 16 = .ok (.if_icmp .ge 12, 3) := by decide +kernel
theorem d_Wy_takeOf_19 : decode q_mWy_takeOf.1 19 = .ok (.aload_n 0, 1) := by decide +kernel
theorem d_Wy_takeOf_20 : decode q_mWy_takeOf.1 20 = .ok (.getfield 9, 3) := by decide +kernel
theorem d_Wy_takeOf_23 : decode q_mWy_takeOf.1 23 = .ok (.iload_n 1, 1) := by decide +kernel
theorem d_Wy_takeOf_24 : decode q_mWy_takeOf.1 24 = .ok (.iaload, 1) := by decide +kernel
theorem d_Wy_takeOf_25 : decode q_mWy_takeOf.1 25 = .ok (.goto 4, 3) := by decide +kernel
theorem d_Wy_takeOf_28 : decode q_mWy_takeOf.1 28 = .ok (.iconst (-1), 1) := by decide +kernel
theorem d_Wy_takeOf_29 : decode q_mWy_takeOf.1 29 = .ok (.ireturn, 1) := by decide +kernel
theorem d_Wy_copyMarks_0 : decode q_mWy_copyMarks.1 0 = .ok (.iload_n 1, 1) := by decide +kernel
theorem d_Wy_copyMarks_1 : decode q_mWy_copyMarks.1 1 = .ok (.ifCond .lt 10, 3) := by decide +kernel
theorem d_Wy_copyMarks_4 : decode q_mWy_copyMarks.1 4 = .ok (.iload_n 1, 1) := by decide +kernel
theorem d_Wy_copyMarks_5 : decode q_mWy_copyMarks.1 5 = .ok (.sipush 160, 3) := by decide +kernel
theorem d_Wy_copyMarks_8 : decode q_mWy_copyMarks.1 8 = .ok (.if_icmp .lt 4, 3) := by decide +kernel
theorem d_Wy_copyMarks_11 : decode q_mWy_copyMarks.1 11 = .ok (.return_, 1) := by decide +kernel
theorem d_Wy_copyMarks_12 : decode q_mWy_copyMarks.1 12 = .ok (.iconst 0, 1) := by decide +kernel
theorem d_Wy_copyMarks_13 : decode q_mWy_copyMarks.1 13 = .ok (.istore_n 3, 1) := by decide +kernel
theorem d_Wy_copyMarks_14 : decode q_mWy_copyMarks.1 14 = .ok (.iload_n 3, 1) := by decide +kernel
theorem d_Wy_copyMarks_15 : decode q_mWy_copyMarks.1 15 = .ok (.bipush 14, 2) := by decide +kernel
theorem d_Wy_copyMarks_17 : decode q_mWy_copyMarks.1 17 = .ok (.if_icmp .ge 29, 3) := by decide +kernel
theorem d_Wy_copyMarks_20 : decode q_mWy_copyMarks.1 20 = .ok (.iload_n 3, 1) := by decide +kernel
theorem d_Wy_copyMarks_21 : decode q_mWy_copyMarks.1 21 = .ok (.aload_n 2, 1) := by decide +kernel
theorem d_Wy_copyMarks_22 : decode q_mWy_copyMarks.1 22 = .ok (.arraylength, 1) := by decide +kernel
theorem d_Wy_copyMarks_23 : decode q_mWy_copyMarks.1 23 = .ok (.if_icmp .ge 23, 3) := by decide +kernel
theorem d_Wy_copyMarks_26 : decode q_mWy_copyMarks.1 26 = .ok (.aload_n 2, 1) := by decide +kernel
theorem d_Wy_copyMarks_27 : decode q_mWy_copyMarks.1 27 = .ok (.iload_n 3, 1) := by decide +kernel
theorem d_Wy_copyMarks_28 : decode q_mWy_copyMarks.1 28 = .ok (.aload_n 0, 1) := by decide +kernel
theorem d_Wy_copyMarks_29 : decode q_mWy_copyMarks.1 29 = .ok (.getfield 15, 3) := by decide +kernel
theorem d_Wy_copyMarks_32 : decode q_mWy_copyMarks.1 32 = .ok (.iload_n 1, 1) := by decide +kernel
theorem d_Wy_copyMarks_33 : decode q_mWy_copyMarks.1 33 = .ok (.bipush 14, 2) := by decide +kernel
theorem d_Wy_copyMarks_35 : decode q_mWy_copyMarks.1 35 = .ok (.imul, 1) := by decide +kernel
theorem d_Wy_copyMarks_36 : decode q_mWy_copyMarks.1 36 = .ok (.iload_n 3, 1) := by decide +kernel
theorem d_Wy_copyMarks_37 : decode q_mWy_copyMarks.1 37 = .ok (.iadd, 1) := by decide +kernel
theorem d_Wy_copyMarks_38 : decode q_mWy_copyMarks.1 38 = .ok (.iaload, 1) := by decide +kernel
theorem d_Wy_copyMarks_39 : decode q_mWy_copyMarks.1 39 = .ok (.iastore, 1) := by decide +kernel
theorem d_Wy_copyMarks_40 : decode q_mWy_copyMarks.1 40 = .ok (.iinc 3 1, 3) := by decide +kernel
theorem d_Wy_copyMarks_43 : decode q_mWy_copyMarks.1 43 = .ok (.goto (-29), 3) := by decide +kernel
theorem d_Wy_copyMarks_46 : decode q_mWy_copyMarks.1 46 = .ok (.return_, 1) := by decide +kernel
theorem d_Md_init_0 : decode q_mMd_init.1 0 = .ok (.aload_n 0, 1) := by decide +kernel
theorem d_Md_init_1 : decode q_mMd_init.1 1 = .ok (.invokespecial 1, 3) := by decide +kernel
theorem d_Md_init_4 : decode q_mMd_init.1 4 = .ok (.aload_n 0, 1) := by decide +kernel
theorem d_Md_init_5 : decode q_mMd_init.1 5 = .ok (.bipush 48, 2) := by decide +kernel
theorem d_Md_init_7 : decode q_mMd_init.1 7 = .ok (.newarray .char, 2) := by decide +kernel
theorem d_Md_init_9 : decode q_mMd_init.1 9 = .ok (.putfield 7, 3) := by decide +kernel
theorem d_Md_init_12 : decode q_mMd_init.1 12 = .ok (.aload_n 0, 1) := by decide +kernel
theorem d_Md_init_13 : decode q_mMd_init.1 13 = .ok (.iconst (-1), 1) := by decide +kernel
theorem d_Md_init_14 : decode q_mMd_init.1 14 = .ok (.putfield 13, 3) := by decide +kernel
theorem d_Md_init_17 : decode q_mMd_init.1 17 = .ok (.aload_n 0, 1) := by decide +kernel
theorem d_Md_init_18 : decode q_mMd_init.1 18 = .ok (.sipush 220, 3) := by decide +kernel
theorem d_Md_init_21 : decode q_mMd_init.1 21 = .ok (.newarray .int, 2) := by decide +kernel
theorem d_Md_init_23 : decode q_mMd_init.1 23 = .ok (.putfield 17, 3) := by decide +kernel
theorem d_Md_init_26 : decode q_mMd_init.1 26 = .ok (.aload_n 0, 1) := by decide +kernel
theorem d_Md_init_27 : decode q_mMd_init.1 27 = .ok (.sipush 220, 3) := by decide +kernel
theorem d_Md_init_30 : decode q_mMd_init.1 30 = .ok (.newarray .int, 2) := by decide +kernel
theorem d_Md_init_32 : decode q_mMd_init.1 32 = .ok (.putfield 21, 3) := by decide +kernel
theorem d_Md_init_35 : decode q_mMd_init.1 35 = .ok (.aload_n 0, 1) := by decide +kernel
theorem d_Md_init_36 : decode q_mMd_init.1 36 = .ok (.sipush 220, 3) := by decide +kernel
theorem d_Md_init_39 : decode q_mMd_init.1 39 = .ok (.newarray .int, 2) := by decide +kernel
theorem d_Md_init_41 : decode q_mMd_init.1 41 = .ok (.putfield 24, 3) := by decide +kernel
theorem d_Md_init_44 : decode q_mMd_init.1 44 = .ok (.aload_n 0, 1) := by decide +kernel
theorem d_Md_init_45 : decode q_mMd_init.1 45 = .ok (.sipush 220, 3) := by decide +kernel
theorem d_Md_init_48 : decode q_mMd_init.1 48 = .ok (.newarray .int, 2) := by decide +kernel
theorem d_Md_init_50 : decode q_mMd_init.1 50 = .ok (.putfield 27, 3) := by decide +kernel
theorem d_Md_init_53 : decode q_mMd_init.1 53 = .ok (.aload_n 0, 1) := by decide +kernel
theorem d_Md_init_54 : decode q_mMd_init.1 54 = .ok (.sipush 220, 3) := by decide +kernel
theorem d_Md_init_57 : decode q_mMd_init.1 57 = .ok (.newarray .int, 2) := by decide +kernel
theorem d_Md_init_59 : decode q_mMd_init.1 59 = .ok (.putfield 30, 3) := by decide +kernel
theorem d_Md_init_62 : decode q_mMd_init.1 62 = .ok (.aload_n 0, 1) := by decide +kernel
theorem d_Md_init_63 : decode q_mMd_init.1 63 = .ok (.sipush 220, 3) := by decide +kernel
theorem d_Md_init_66 : decode q_mMd_init.1 66 = .ok (.newarray .int, 2) := by decide +kernel
theorem d_Md_init_68 : decode q_mMd_init.1 68 = .ok (.putfield 33, 3) := by decide +kernel
theorem d_Md_init_71 : decode q_mMd_init.1 71 = .ok (.aload_n 0, 1) := by decide +kernel
theorem d_Md_init_72 : decode q_mMd_init.1 72 = .ok (.sipush 220, 3) := by decide +kernel
theorem d_Md_init_75 : decode q_mMd_init.1 75 = .ok (.newarray .int, 2) := by decide +kernel
theorem d_Md_init_77 : decode q_mMd_init.1 77 = .ok (.putfield 36, 3) := by decide +kernel
theorem d_Md_init_80 : decode q_mMd_init.1 80 = .ok (.aload_n 0, 1) := by decide +kernel
theorem d_Md_init_81 : decode q_mMd_init.1 81 = .ok (.sipush 220, 3) := by decide +kernel
theorem d_Md_init_84 : decode q_mMd_init.1 84 = .ok (.newarray .boolean, 2) := by decide +kernel
theorem d_Md_init_86 : decode q_mMd_init.1 86 = .ok (.putfield 39, 3) := by decide +kernel
theorem d_Md_init_89 : decode q_mMd_init.1 89 = .ok (.aload_n 0, 1) := by decide +kernel
theorem d_Md_init_90 : decode q_mMd_init.1 90 = .ok (.sipush 220, 3) := by decide +kernel
theorem d_Md_init_93 : decode q_mMd_init.1 93 = .ok (.newarray .int, 2) := by decide +kernel
theorem d_Md_init_95 : decode q_mMd_init.1 95 = .ok (.putfield 43, 3) := by decide +kernel
theorem d_Md_init_98 : decode q_mMd_init.1 98 = .ok (.aload_n 0, 1) := by decide +kernel
theorem d_Md_init_99 : decode q_mMd_init.1 99 = .ok (.bipush 9, 2) := by decide +kernel
theorem d_Md_init_101 : decode q_mMd_init.1 101 = .ok (.newarray .int, 2) := by decide +kernel
theorem d_Md_init_103 : decode q_mMd_init.1 103 = .ok (.putfield 46, 3) := by decide +kernel
theorem d_Md_init_106 : decode q_mMd_init.1 106 = .ok (.aload_n 0, 1) := by decide +kernel
theorem d_Md_init_107 : decode q_mMd_init.1 107 = .ok (.bipush 9, 2) := by decide +kernel
theorem d_Md_init_109 : decode q_mMd_init.1 109 = .ok (.newarray .int, 2) := by decide +kernel
theorem d_Md_init_111 : decode q_mMd_init.1 111 = .ok (.putfield 49, 3) := by decide +kernel
theorem d_Md_init_114 : decode q_mMd_init.1 114 = .ok (.aload_n 0, 1) := by decide +kernel
theorem d_Md_init_115 : decode q_mMd_init.1 115 = .ok (.bipush 9, 2) := by decide +kernel
theorem d_Md_init_117 : decode q_mMd_init.1 117 = .ok (.newarray .int, 2) := by decide +kernel
theorem d_Md_init_119 : decode q_mMd_init.1 119 = .ok (.putfield 52, 3) := by decide +kernel
theorem d_Md_init_122 : decode q_mMd_init.1 122 = .ok (.aload_n 0, 1) := by decide +kernel
theorem d_Md_init_123 : decode q_mMd_init.1 123 = .ok (.sipush 400, 3) := by decide +kernel
theorem d_Md_init_126 : decode q_mMd_init.1 126 = .ok (.newarray .int, 2) := by decide +kernel
theorem d_Md_init_128 : decode q_mMd_init.1 128 = .ok (.putfield 55, 3) := by decide +kernel
theorem d_Md_init_131 : decode q_mMd_init.1 131 = .ok (.aload_n 0, 1) := by decide +kernel
theorem d_Md_init_132 : decode q_mMd_init.1 132 = .ok (.sipush 160, 3) := by decide +kernel
theorem d_Md_init_135 : decode q_mMd_init.1 135 = .ok (.newarray .int, 2) := by decide +kernel
theorem d_Md_init_137 : decode q_mMd_init.1 137 = .ok (.putfield 58, 3) := by decide +kernel
theorem d_Md_init_140 : decode q_mMd_init.1 140 = .ok (.aload_n 0, 1) := by decide +kernel
theorem d_Md_init_141 : decode q_mMd_init.1 141 = .ok (.sipush 160, 3) := by decide +kernel
theorem d_Md_init_144 : decode q_mMd_init.1 144 = .ok (.newarray .int, 2) := by decide +kernel
theorem d_Md_init_146 : decode q_mMd_init.1 146 = .ok (.putfield 61, 3) := by decide +kernel
theorem d_Md_init_149 : decode q_mMd_init.1 149 = .ok (.aload_n 0, 1) := by decide +kernel
theorem d_Md_init_150 : decode q_mMd_init.1 150 = .ok (.sipush 160, 3) := by decide +kernel
theorem d_Md_init_153 : decode q_mMd_init.1 153 = .ok (.newarray .int, 2) := by decide +kernel
theorem d_Md_init_155 : decode q_mMd_init.1 155 = .ok (.putfield 64, 3) := by decide +kernel
theorem d_Md_init_158 : decode q_mMd_init.1 158 = .ok (.aload_n 0, 1) := by decide +kernel
theorem d_Md_init_159 : decode q_mMd_init.1 159 = .ok (.sipush 800, 3) := by decide +kernel
theorem d_Md_init_162 : decode q_mMd_init.1 162 = .ok (.newarray .int, 2) := by decide +kernel
theorem d_Md_init_164 : decode q_mMd_init.1 164 = .ok (.putfield 67, 3) := by decide +kernel
theorem d_Md_init_167 : decode q_mMd_init.1 167 = .ok (.aload_n 0, 1) := by decide +kernel
theorem d_Md_init_168 : decode q_mMd_init.1 168 = .ok (.sipush 800, 3) := by decide +kernel
theorem d_Md_init_171 : decode q_mMd_init.1 171 = .ok (.newarray .int, 2) := by decide +kernel
theorem d_Md_init_173 : decode q_mMd_init.1 173 = .ok (.putfield 70, 3) := by decide +kernel
theorem d_Md_init_176 : decode q_mMd_init.1 176 = .ok (.aload_n 0, 1) := by decide +kernel
theorem d_Md_init_177 : decode q_mMd_init.1 177 = .ok (.sipush 200, 3) := by decide +kernel
theorem d_Md_init_180 : decode q_mMd_init.1 180 = .ok (.newarray .int, 2) := by decide +kernel
theorem d_Md_init_182 : decode q_mMd_init.1 182 = .ok (.putfield 73, 3) := by decide +kernel
theorem d_Md_init_185 : decode q_mMd_init.1 185 = .ok (.aload_n 0, 1) := by decide +kernel
theorem d_Md_init_186 : decode q_mMd_init.1 186 = .ok (.sipush 1120, 3) := by decide +kernel
theorem d_Md_init_189 : decode q_mMd_init.1 189 = .ok (.newarray .int, 2) := by decide +kernel
theorem d_Md_init_191 : decode q_mMd_init.1 191 = .ok (.putfield 76, 3) := by decide +kernel
theorem d_Md_init_194 : decode q_mMd_init.1 194 = .ok (.aload_n 0, 1) := by decide +kernel
theorem d_Md_init_195 : decode q_mMd_init.1 195 = .ok (.bipush 14, 2) := by decide +kernel
theorem d_Md_init_197 : decode q_mMd_init.1 197 = .ok (.newarray .int, 2) := by decide +kernel
theorem d_Md_init_199 : decode q_mMd_init.1 199 = .ok (.putfield 79, 3) := by decide +kernel
theorem d_Md_init_202 : decode q_mMd_init.1 202 = .ok (.aload_n 0, 1) := by decide +kernel
theorem d_Md_init_203 : decode q_mMd_init.1 203 = .ok (.sipush 160, 3) := by decide +kernel
theorem d_Md_init_206 : decode q_mMd_init.1 206 = .ok (.newarray .boolean, 2) := by decide +kernel
theorem d_Md_init_208 : decode q_mMd_init.1 208 = .ok (.putfield 82, 3) := by decide +kernel
theorem d_Md_init_211 : decode q_mMd_init.1 211 = .ok (.aload_n 0, 1) := by decide +kernel
theorem d_Md_init_212 : decode q_mMd_init.1 212 = .ok (.sipush 160, 3) := by decide +kernel
theorem d_Md_init_215 : decode q_mMd_init.1 215 = .ok (.newarray .boolean, 2) := by decide +kernel
theorem d_Md_init_217 : decode q_mMd_init.1 217 = .ok (.putfield 85, 3) := by decide +kernel
theorem d_Md_init_220 : decode q_mMd_init.1 220 = .ok (.aload_n 0, 1) := by decide +kernel
theorem d_Md_init_221 : decode q_mMd_init.1 221 = .ok (.sipush 160, 3) := by decide +kernel
theorem d_Md_init_224 : decode q_mMd_init.1 224 = .ok (.newarray .boolean, 2) := by decide +kernel
theorem d_Md_init_226 : decode q_mMd_init.1 226 = .ok (.putfield 88, 3) := by decide +kernel
theorem d_Md_init_229 : decode q_mMd_init.1 229 = .ok (.aload_n 0, 1) := by decide +kernel
theorem d_Md_init_230 : decode q_mMd_init.1 230 = .ok (.sipush 330, 3) := by decide +kernel
theorem d_Md_init_233 : decode q_mMd_init.1 233 = .ok (.newarray .int, 2) := by decide +kernel
theorem d_Md_init_235 : decode q_mMd_init.1 235 = .ok (.putfield 91, 3) := by decide +kernel
theorem d_Md_init_238 : decode q_mMd_init.1 238 = .ok (.aload_n 0, 1) := by decide +kernel
theorem d_Md_init_239 : decode q_mMd_init.1 239 = .ok (.sipush 330, 3) := by decide +kernel
theorem d_Md_init_242 : decode q_mMd_init.1 242 = .ok (.newarray .int, 2) := by decide +kernel
theorem d_Md_init_244 : decode q_mMd_init.1 244 = .ok (.putfield 94, 3) := by decide +kernel
theorem d_Md_init_247 : decode q_mMd_init.1 247 = .ok (.aload_n 0, 1) := by decide +kernel
theorem d_Md_init_248 : decode q_mMd_init.1 248 = .ok (.sipush 160, 3) := by decide +kernel
theorem d_Md_init_251 : decode q_mMd_init.1 251 = .ok (.newarray .boolean, 2) := by decide +kernel
theorem d_Md_init_253 : decode q_mMd_init.1 253 = .ok (.putfield 97, 3) := by decide +kernel
theorem d_Md_init_256 : decode q_mMd_init.1 256 = .ok (.aload_n 0, 1) := by decide +kernel
theorem d_Md_init_257 : decode q_mMd_init.1 257 = .ok (.sipush 160, 3) := by decide +kernel
theorem d_Md_init_260 : decode q_mMd_init.1 260 = .ok (.newarray .int, 2) := by decide +kernel
theorem d_Md_init_262 : decode q_mMd_init.1 262 = .ok (.putfield 100, 3) := by decide +kernel
theorem d_Md_init_265 : decode q_mMd_init.1 265 = .ok (.return_, 1) := by decide +kernel
theorem d_Md_thrown_0 : decode q_mMd_thrown.1 0 = .ok (.aload_n 0, 1) := by decide +kernel
theorem d_Md_thrown_1 : decode q_mMd_thrown.1 1 = .ok (.getfield 103, 3) := by decide +kernel
theorem d_Md_thrown_4 : decode q_mMd_thrown.1 4 = .ok (.ireturn, 1) := by decide +kernel
theorem d_Md_pattern_0 : decode q_mMd_pattern.1 0 = .ok (.aload_n 0, 1) := by decide +kernel
theorem d_Md_pattern_1 : decode q_mMd_pattern.1 1 = .ok (.iconst 0, 1) := by decide +kernel
theorem d_Md_pattern_2 : decode q_mMd_pattern.1 2 = .ok (.putfield 103, 3) := by decide +kernel
theorem d_Md_pattern_5 : decode q_mMd_pattern.1 5 = .ok (.iload_n 1, 1) := by decide +kernel
theorem d_Md_pattern_6 : decode q_mMd_pattern.1 6 = .ok (.bipush 32, 2) := by decide +kernel
theorem d_Md_pattern_8 : decode q_mMd_pattern.1 8 = .ok (.if_icmp .lt 25, 3) := by decide +kernel
theorem d_Md_pattern_11 : decode q_mMd_pattern.1 11 = .ok (.iload_n 1, 1) := by decide +kernel
theorem d_Md_pattern_12 : decode q_mMd_pattern.1 12 = .ok (.bipush 126, 2) := by decide +kernel
theorem d_Md_pattern_14 : decode q_mMd_pattern.1 14 = .ok (.if_icmp .gt 19, 3) := by decide +kernel
theorem d_Md_pattern_17 : decode q_mMd_pattern.1 17 = .ok (.aload_n 0, 1) := by decide +kernel
theorem d_Md_pattern_18 : decode q_mMd_pattern.1 18 = .ok (.getfield 106, 3) := by decide +kernel
theorem d_Md_pattern_21 : decode q_mMd_pattern.1 21 = .ok (.bipush 48, 2) := by decide +kernel
theorem d_Md_pattern_23 : decode q_mMd_pattern.1 23 = .ok (.if_icmp .eq 10, 3) := by decide +kernel
theorem d_Md_pattern_26 : decode q_mMd_pattern.1 26 = .ok (.aload_n 0, 1) := by decide +kernel
theorem d_Md_pattern_27 : decode q_mMd_pattern.1 27 = .ok (.getfield 109, 3) := by decide +kernel
theorem d_Md_pattern_30 : decode q_mMd_pattern.1 30 = .ok (.ifCond .le 5, 3) := by decide +kernel
theorem d_Md_pattern_33 : decode q_mMd_pattern.1 33 = .ok (.iconst 0, 1) := by decide +kernel
theorem d_Md_pattern_34 : decode q_mMd_pattern.1 34 = .ok (.ireturn, 1) := by decide +kernel
theorem d_Md_pattern_35 : decode q_mMd_pattern.1 35 = .ok (.aload_n 0, 1) := by decide +kernel
theorem d_Md_pattern_36 : decode q_mMd_pattern.1 36 = .ok (.getfield 7, 3) := by decide +kernel
theorem d_Md_pattern_39 : decode q_mMd_pattern.1 39 = .ok (.aload_n 0, 1) := by decide +kernel
theorem d_Md_pattern_40 : decode q_mMd_pattern.1 40 = .ok (.getfield 106, 3) := by decide +kernel
theorem d_Md_pattern_43 : decode q_mMd_pattern.1 43 = .ok (.iload_n 1, 1) := by decide +kernel
theorem d_Md_pattern_44 : decode q_mMd_pattern.1 44 = .ok (.castore, 1) := by decide +kernel
theorem d_Md_pattern_45 : decode q_mMd_pattern.1 45 = .ok (.aload_n 0, 1) := by decide +kernel
theorem d_Md_pattern_46 : decode q_mMd_pattern.1 46 = .ok (.dup, 1) := by decide +kernel
theorem d_Md_pattern_47 : decode q_mMd_pattern.1 47 = .ok (.getfield 106, 3) := by decide +kernel
theorem d_Md_pattern_50 : decode q_mMd_pattern.1 50 = .ok (.iconst 1, 1) := by decide +kernel
theorem d_Md_pattern_51 : decode q_mMd_pattern.1 51 = .ok (.iadd, 1) := by decide +kernel
theorem d_Md_pattern_52 : decode q_mMd_pattern.1 52 = .ok (.putfield 106, 3) := by decide +kernel
theorem d_Md_pattern_55 : decode q_mMd_pattern.1 55 = .ok (.iconst 1, 1) := by decide +kernel
theorem d_Md_pattern_56 : decode q_mMd_pattern.1 56 = .ok (.ireturn, 1) := by decide +kernel
theorem d_Md_compile_0 : decode q_mMd_compile.1 0 = .ok (.aload_n 0, 1) := by decide +kernel
theorem d_Md_compile_1 : decode q_mMd_compile.1 1 = .ok (.iconst 0, 1) := by decide +kernel
theorem d_Md_compile_2 : decode q_mMd_compile.1 2 = .ok (.putfield 103, 3) := by decide +kernel
theorem d_Md_compile_5 : decode q_mMd_compile.1 5 = .ok (.aload_n 0, 1) := by decide +kernel
theorem d_Md_compile_6 : decode q_mMd_compile.1 6 = .ok (.getfield 109, 3) := by decide +kernel
theorem d_Md_compile_9 : decode q_mMd_compile.1 9 = .ok (.ifCond .le 7, 3) := by decide +kernel
theorem d_Md_compile_12 : decode q_mMd_compile.1 12 = .ok (.iconst 1, 1) := by decide +kernel
theorem d_Md_compile_13 : decode q_mMd_compile.1 13 = .ok (.goto 4, 3) := by decide +kernel
theorem d_Md_compile_16 : decode q_mMd_compile.1 16 = .ok (.iconst 0, 1) := by decide +kernel
theorem d_Md_compile_17 : decode q_mMd_compile.1 17 = .ok (.istore_n 1, 1) := by decide +kernel
theorem d_Md_compile_18 : decode q_mMd_compile.1 18 = .ok (.iload_n 1, 1) := by decide +kernel
theorem d_Md_compile_19 : decode q_mMd_compile.1 19 = .ok (.ifCond .ne 14, 3) := by decide +kernel
theorem d_Md_compile_22 : decode q_mMd_compile.1 22 = .ok (.aload_n 0, 1) := by decide +kernel
theorem d_Md_compile_23 : decode q_mMd_compile.1 23 = .ok (.invokevirtual 201, 3) := by decide +kernel
theorem d_Md_compile_26 : decode q_mMd_compile.1 26 = .ok (.ifCond .eq 7, 3) := by decide +kernel
theorem d_Md_compile_29 : decode q_mMd_compile.1 29 = .ok (.iconst 1, 1) := by decide +kernel
theorem d_Md_compile_30 : decode q_mMd_compile.1 30 = .ok (.goto 4, 3) := by decide +kernel
theorem d_Md_compile_33 : decode q_mMd_compile.1 33 = .ok (.iconst 0, 1) := by decide +kernel
theorem d_Md_compile_34 : decode q_mMd_compile.1 34 = .ok (.istore_n 2, 1) := by decide +kernel
theorem d_Md_compile_35 : decode q_mMd_compile.1 35 = .ok (.aload_n 0, 1) := by decide +kernel
theorem d_Md_compile_36 : decode q_mMd_compile.1 36 = .ok (.iload_n 1, 1) := by decide +kernel
theorem d_Md_compile_37 : decode q_mMd_compile.1 37 = .ok (.ifCond .ne 7, 3) := by decide +kernel
theorem d_Md_compile_40 : decode q_mMd_compile.1 40 = .ok (.iload_n 2, 1) := by decide +kernel
theorem d_Md_compile_41 : decode q_mMd_compile.1 41 = .ok (.ifCond .eq 7, 3) := by decide +kernel
theorem d_Md_compile_44 : decode q_mMd_compile.1 44 = .ok (.iconst (-1), 1) := by decide +kernel
theorem d_Md_compile_45 : decode q_mMd_compile.1 45 = .ok (.goto 7, 3) := by decide +kernel
theorem d_Md_compile_48 : decode q_mMd_compile.1 48 = .ok (.aload_n 0, 1) := by decide +kernel
theorem d_Md_compile_49 : decode q_mMd_compile.1 49 = .ok (.getfield 126, 3) := by decide +kernel
theorem d_Md_compile_52 : decode q_mMd_compile.1 52 = .ok (.putfield 13, 3) := by decide +kernel
theorem d_Md_compile_55 : decode q_mMd_compile.1 55 = .ok (.aload_n 0, 1) := by decide +kernel
theorem d_Md_compile_56 : decode q_mMd_compile.1 56 = .ok (.getfield 112, 3) := by decide +kernel
theorem d_Md_compile_59 : decode q_mMd_compile.1 59 = .ok (.iconst 1, 1) := by decide +kernel
theorem d_Md_compile_60 : decode q_mMd_compile.1 60 = .ok (.isub, 1) := by decide +kernel
theorem d_Md_compile_61 : decode q_mMd_compile.1 61 = .ok (.istore_n 3, 1) := by decide +kernel
theorem d_Md_compile_62 : decode q_mMd_compile.1 62 = .ok (.iload_n 3, 1) := by decide +kernel
theorem d_Md_compile_63 : decode q_mMd_compile.1 63 = .ok (.ifCond .lt 24, 3) := by decide +kernel
theorem d_Md_compile_66 : decode q_mMd_compile.1 66 = .ok (.iload_n 2, 1) := by decide +kernel
theorem d_Md_compile_67 : decode q_mMd_compile.1 67 = .ok (.ifCond .eq 20, 3) := by decide +kernel
theorem d_Md_compile_70 : decode q_mMd_compile.1 70 = .ok (.aload_n 0, 1) := by decide +kernel
theorem d_Md_compile_71 : decode q_mMd_compile.1 71 = .ok (.getfield 43, 3) := by decide +kernel
theorem d_Md_compile_74 : decode q_mMd_compile.1 74 = .ok (.iload_n 3, 1) := by decide +kernel
theorem d_Md_compile_75 : decode q_mMd_compile.1 75 = .ok (.aload_n 0, 1) := by decide +kernel
theorem d_Md_compile_76 : decode q_mMd_compile.1 76 = .ok (.iload_n 3, 1) := by decide +kernel
theorem d_Md_compile_77 : decode q_mMd_compile.1 77 = .ok (.invokevirtual 205, 3) := by decide +kernel
theorem d_Md_compile_80 : decode q_mMd_compile.1 80 = .ok (.iastore, 1) := by decide +kernel
theorem d_Md_compile_81 : decode q_mMd_compile.1 81 = .ok (.iinc 3 (-1), 3) := by decide +kernel
theorem d_Md_compile_84 : decode q_mMd_compile.1 84 = .ok (.goto (-22), 3) := by decide +kernel
theorem d_Md_compile_87 : decode q_mMd_compile.1 87 = .ok (.aload_n 0, 1) := by decide +kernel
theorem d_Md_compile_88 : decode q_mMd_compile.1 88 = .ok (.iload_n 1, 1) := by decide +kernel
theorem d_Md_compile_89 : decode q_mMd_compile.1 89 = .ok (.ifCond .eq 7, 3) := by decide +kernel
theorem d_Md_compile_92 : decode q_mMd_compile.1 92 = .ok (.iconst 2, 1) := by decide +kernel
theorem d_Md_compile_93 : decode q_mMd_compile.1 93 = .ok (.goto 30, 3) := by decide +kernel
theorem d_Md_compile_96 : decode q_mMd_compile.1 96 = .ok (.iload_n 2, 1) := by decide +kernel
theorem d_Md_compile_97 : decode q_mMd_compile.1 97 = .ok (.ifCond .ne 7, 3) := by decide +kernel
theorem d_Md_compile_100 : decode q_mMd_compile.1 100 = .ok (.iconst 1, 1) := by decide +kernel
theorem d_Md_compile_101 : decode q_mMd_compile.1 101 = .ok (.goto 22, 3) := by decide +kernel
theorem d_Md_compile_104 : decode q_mMd_compile.1 104 = .ok (.aload_n 0, 1) := by decide +kernel
theorem d_Md_compile_105 : decode q_mMd_compile.1 105 = .ok (.getfield 43, 3) := by decide +kernel
theorem d_Md_compile_108 : decode q_mMd_compile.1 108 = .ok (.iconst 0, 1) := by decide +kernel
theorem d_Md_compile_109 : decode q_mMd_compile.1 109 = .ok (.iaload, 1) := by decide +kernel
theorem d_Md_compile_110 : decode q_mMd_compile.1 110 = .ok (.iconst 3, 1) := by decide +kernel
theorem d_Md_compile_111 : decode q_mMd_compile.1 111 = .ok (.iadd, 1) := by decide +kernel
theorem d_Md_compile_112 : decode q_mMd_compile.1 112 = .ok (.sipush 160, 3) := by decide +kernel
theorem d_Md_compile_115 : decode q_mMd_compile.1 115 = .ok (.if_icmp .le 7, 3) := by decide +kernel
theorem d_Md_compile_118 : decode q_mMd_compile.1 118 = .ok (.iconst 2, 1) := by decide +kernel
theorem d_Md_compile_119 : decode q_mMd_compile.1 119 = .ok (.goto 4, 3) := by decide +kernel
theorem d_Md_compile_122 : decode q_mMd_compile.1 122 = .ok (.iconst 0, 1) := by decide +kernel
theorem d_Md_compile_123 : decode q_mMd_compile.1 123 = .ok (.putfield 103, 3) := by decide +kernel
theorem d_Md_compile_126 : decode q_mMd_compile.1 126 = .ok (.aload_n 0, 1) := by decide +kernel
theorem d_Md_compile_127 : decode q_mMd_compile.1 127 = .ok (.getfield 103, 3) := by decide +kernel
theorem d_Md_compile_130 : decode q_mMd_compile.1 130 = .ok (.ifCond .le 5, 3) := by decide +kernel
theorem d_Md_compile_133 : decode q_mMd_compile.1 133 = .ok (.iconst 0, 1) := by decide +kernel
theorem d_Md_compile_134 : decode q_mMd_compile.1 134 = .ok (.ireturn, 1) := by decide +kernel
theorem d_Md_compile_135 : decode q_mMd_compile.1 135 = .ok (.aload_n 0, 1) := by decide +kernel
theorem d_Md_compile_136 : decode q_mMd_compile.1 136 = .ok (.aload_n 0, 1) := by decide +kernel
theorem d_Md_compile_137 : decode q_mMd_compile.1 137 = .ok (.getfield 43, 3) := by decide +kernel
theorem d_Md_compile_140 : decode q_mMd_compile.1 140 = .ok (.iconst 0, 1) := by decide +kernel
theorem d_Md_compile_141 : decode q_mMd_compile.1 141 = .ok (.iaload, 1) := by decide +kernel
theorem d_Md_compile_142 : decode q_mMd_compile.1 142 = .ok (.iconst 3, 1) := by decide +kernel
theorem d_Md_compile_143 : decode q_mMd_compile.1 143 = .ok (.iadd, 1) := by decide +kernel
theorem d_Md_compile_144 : decode q_mMd_compile.1 144 = .ok (.putfield 109, 3) := by decide +kernel
theorem d_Md_compile_147 : decode q_mMd_compile.1 147 = .ok (.aload_n 0, 1) := by decide +kernel
theorem d_Md_compile_148 : decode q_mMd_compile.1 148 = .ok (.iconst 0, 1) := by decide +kernel
theorem d_Md_compile_149 : decode q_mMd_compile.1 149 = .ok (.iconst 3, 1) := by decide +kernel
theorem d_Md_compile_150 : decode q_mMd_compile.1 150 = .ok (.iconst 0, 1) := by decide +kernel
theorem d_Md_compile_151 : decode q_mMd_compile.1 151 = .ok (.iconst 0, 1) := by decide +kernel
theorem d_Md_compile_152 : decode q_mMd_compile.1 152 = .ok (.invokevirtual 180, 3) := by decide +kernel
theorem d_Md_compile_155 : decode q_mMd_compile.1 155 = .ok (.aload_n 0, 1) := by decide +kernel
theorem d_Md_compile_156 : decode q_mMd_compile.1 156 = .ok (.aload_n 0, 1) := by decide +kernel
theorem d_Md_compile_157 : decode q_mMd_compile.1 157 = .ok (.getfield 109, 3) := by decide +kernel
theorem d_Md_compile_160 : decode q_mMd_compile.1 160 = .ok (.iconst 2, 1) := by decide +kernel
theorem d_Md_compile_161 : decode q_mMd_compile.1 161 = .ok (.isub, 1) := by decide +kernel
theorem d_Md_compile_162 : decode q_mMd_compile.1 162 = .ok (.iconst 3, 1) := by decide +kernel
theorem d_Md_compile_163 : decode q_mMd_compile.1 163 = .ok (.iconst 1, 1) := by decide +kernel
theorem d_Md_compile_164 : decode q_mMd_compile.1 164 = .ok (.iconst 0, 1) := by decide +kernel
theorem d_Md_compile_165 : decode q_mMd_compile.1 165 = .ok (.invokevirtual 180, 3) := by decide +kernel
theorem d_Md_compile_168 : decode q_mMd_compile.1 168 = .ok (.aload_n 0, 1) := by decide +kernel
theorem d_Md_compile_169 : decode q_mMd_compile.1 169 = .ok (.aload_n 0, 1) := by decide +kernel
theorem d_Md_compile_170 : decode q_mMd_compile.1 170 = .ok (.getfield 109, 3) := by decide +kernel
theorem d_Md_compile_173 : decode q_mMd_compile.1 173 = .ok (.iconst 1, 1) := by decide +kernel
theorem d_Md_compile_174 : decode q_mMd_compile.1 174 = .ok (.isub, 1) := by decide +kernel
theorem d_Md_compile_175 : decode q_mMd_compile.1 175 = .ok (.iconst 4, 1) := by decide +kernel
theorem d_Md_compile_176 : decode q_mMd_compile.1 176 = .ok (.iconst 0, 1) := by decide +kernel
theorem d_Md_compile_177 : decode q_mMd_compile.1 177 = .ok (.iconst 0, 1) := by decide +kernel
theorem d_Md_compile_178 : decode q_mMd_compile.1 178 = .ok (.invokevirtual 180, 3) := by decide +kernel
theorem d_Md_compile_181 : decode q_mMd_compile.1 181 = .ok (.aload_n 0, 1) := by decide +kernel
theorem d_Md_compile_182 : decode q_mMd_compile.1 182 = .ok (.iconst 0, 1) := by decide +kernel
theorem d_Md_compile_183 : decode q_mMd_compile.1 183 = .ok (.putfield 184, 3) := by decide +kernel
theorem d_Md_compile_186 : decode q_mMd_compile.1 186 = .ok (.aload_n 0, 1) := by decide +kernel
theorem d_Md_compile_187 : decode q_mMd_compile.1 187 = .ok (.iconst 0, 1) := by decide +kernel
theorem d_Md_compile_188 : decode q_mMd_compile.1 188 = .ok (.iconst 1, 1) := by decide +kernel
theorem d_Md_compile_189 : decode q_mMd_compile.1 189 = .ok (.invokevirtual 187, 3) := by decide +kernel
theorem d_Md_compile_192 : decode q_mMd_compile.1 192 = .ok (.aload_n 0, 1) := by decide +kernel
theorem d_Md_compile_193 : decode q_mMd_compile.1 193 = .ok (.getfield 184, 3) := by decide +kernel
theorem d_Md_compile_196 : decode q_mMd_compile.1 196 = .ok (.ifCond .le 38, 3) := by decide +kernel
theorem d_Md_compile_199 : decode q_mMd_compile.1 199 = .ok (.aload_n 0, 1) := by decide +kernel
theorem d_Md_compile_200 : decode q_mMd_compile.1 200 = .ok (.dup, 1) := by decide +kernel
theorem d_Md_compile_201 : decode q_mMd_compile.1 201 = .ok (.getfield 184, 3) := by decide +kernel
theorem d_Md_compile_204 : decode q_mMd_compile.1 204 = .ok (.iconst 1, 1) := by decide +kernel
theorem d_Md_compile_205 : decode q_mMd_compile.1 205 = .ok (.isub, 1) := by decide +kernel
theorem d_Md_compile_206 : decode q_mMd_compile.1 206 = .ok (.putfield 184, 3) := by decide +kernel
theorem d_Md_compile_209 : decode q_mMd_compile.1 209 = .ok (.aload_n 0, 1) := by decide +kernel
theorem d_Md_compile_210 : decode q_mMd_compile.1 210 = .ok (.aload_n 0, 1) := by decide +kernel
theorem d_Md_compile_211 : decode q_mMd_compile.1 211 = .ok (.getfield 67, 3) := by decide +kernel
theorem d_Md_compile_214 : decode q_mMd_compile.1 214 = .ok (.aload_n 0, 1) := by decide +kernel
theorem d_Md_compile_215 : decode q_mMd_compile.1 215 = .ok (.getfield 184, 3) := by decide +kernel
theorem d_Md_compile_218 : decode q_mMd_compile.1 218 = .ok (.iaload, 1) := by decide +kernel
theorem d_Md_compile_219 : decode q_mMd_compile.1 219 = .ok (.aload_n 0, 1) := by decide +kernel
theorem d_Md_compile_220 : decode q_mMd_compile.1 220 = .ok (.getfield 70, 3) := by decide +kernel
theorem d_Md_compile_223 : decode q_mMd_compile.1 223 = .ok (.aload_n 0, 1) := by decide +kernel
theorem d_Md_compile_224 : decode q_mMd_compile.1 224 = .ok (.getfield 184, 3) := by decide +kernel
theorem d_Md_compile_227 : decode q_mMd_compile.1 227 = .ok (.iaload, 1) := by decide +kernel
theorem d_Md_compile_228 : decode q_mMd_compile.1 228 = .ok (.invokevirtual 209, 3) := by decide +kernel
theorem d_Md_compile_231 : decode q_mMd_compile.1 231 = .ok (.goto (-39), 3) := by decide +kernel
theorem d_Md_compile_234 : decode q_mMd_compile.1 234 = .ok (.aload_n 0, 1) := by decide +kernel
theorem d_Md_compile_235 : decode q_mMd_compile.1 235 = .ok (.iconst 0, 1) := by decide +kernel
theorem d_Md_compile_236 : decode q_mMd_compile.1 236 = .ok (.putfield 212, 3) := by decide +kernel
theorem d_Md_compile_239 : decode q_mMd_compile.1 239 = .ok (.aload_n 0, 1) := by decide +kernel
theorem d_Md_compile_240 : decode q_mMd_compile.1 240 = .ok (.getfield 109, 3) := by decide +kernel
theorem d_Md_compile_243 : decode q_mMd_compile.1 243 = .ok (.ireturn, 1) := by decide +kernel
theorem d_Md_read_0 : decode q_mMd_read.1 0 = .ok (.aload_n 0, 1) := by decide +kernel
theorem d_Md_read_1 : decode q_mMd_read.1 1 = .ok (.iconst 0, 1) := by decide +kernel
theorem d_Md_read_2 : decode q_mMd_read.1 2 = .ok (.putfield 112, 3) := by decide +kernel
theorem d_Md_read_5 : decode q_mMd_read.1 5 = .ok (.aload_n 0, 1) := by decide +kernel
theorem d_Md_read_6 : decode q_mMd_read.1 6 = .ok (.iconst 0, 1) := by decide +kernel
theorem d_Md_read_7 : decode q_mMd_read.1 7 = .ok (.putfield 115, 3) := by decide +kernel
theorem d_Md_read_10 : decode q_mMd_read.1 10 = .ok (.aload_n 0, 1) := by decide +kernel
theorem d_Md_read_11 : decode q_mMd_read.1 11 = .ok (.iconst 0, 1) := by decide +kernel
theorem d_Md_read_12 : decode q_mMd_read.1 12 = .ok (.putfield 164, 3) := by decide +kernel
theorem d_Md_read_15 : decode q_mMd_read.1 15 = .ok (.aload_n 0, 1) := by decide +kernel
theorem d_Md_read_16 : decode q_mMd_read.1 16 = .ok (.iconst 0, 1) := by decide +kernel
theorem d_Md_read_17 : decode q_mMd_read.1 17 = .ok (.putfield 161, 3) := by decide +kernel
theorem d_Md_read_20 : decode q_mMd_read.1 20 = .ok (.aload_n 0, 1) := by decide +kernel
theorem d_Md_read_21 : decode q_mMd_read.1 21 = .ok (.iconst 0, 1) := by decide +kernel
theorem d_Md_read_22 : decode q_mMd_read.1 22 = .ok (.putfield 126, 3) := by decide +kernel
theorem d_Md_read_25 : decode q_mMd_read.1 25 = .ok (.aload_n 0, 1) := by decide +kernel
theorem d_Md_read_26 : decode q_mMd_read.1 26 = .ok (.getfield 49, 3) := by decide +kernel
theorem d_Md_read_29 : decode q_mMd_read.1 29 = .ok (.iconst 0, 1) := by decide +kernel
theorem d_Md_read_30 : decode q_mMd_read.1 30 = .ok (.aload_n 0, 1) := by decide +kernel
theorem d_Md_read_31 : decode q_mMd_read.1 31 = .ok (.iconst 0, 1) := by decide +kernel
theorem d_Md_read_32 : decode q_mMd_read.1 32 = .ok (.iconst (-1), 1) := by decide +kernel
theorem d_Md_read_33 : decode q_mMd_read.1 33 = .ok (.invokevirtual 143, 3) := by decide +kernel
theorem d_Md_read_36 : decode q_mMd_read.1 36 = .ok (.iastore, 1) := by decide +kernel
theorem d_Md_read_37 : decode q_mMd_read.1 37 = .ok (.aload_n 0, 1) := by decide +kernel
theorem d_Md_read_38 : decode q_mMd_read.1 38 = .ok (.getfield 52, 3) := by decide +kernel
theorem d_Md_read_41 : decode q_mMd_read.1 41 = .ok (.iconst 0, 1) := by decide +kernel
theorem d_Md_read_42 : decode q_mMd_read.1 42 = .ok (.aload_n 0, 1) := by decide +kernel
theorem d_Md_read_43 : decode q_mMd_read.1 43 = .ok (.iconst 1, 1) := by decide +kernel
theorem d_Md_read_44 : decode q_mMd_read.1 44 = .ok (.iconst 0, 1) := by decide +kernel
theorem d_Md_read_45 : decode q_mMd_read.1 45 = .ok (.invokevirtual 143, 3) := by decide +kernel
theorem d_Md_read_48 : decode q_mMd_read.1 48 = .ok (.iastore, 1) := by decide +kernel
theorem d_Md_read_49 : decode q_mMd_read.1 49 = .ok (.aload_n 0, 1) := by decide +kernel
theorem d_Md_read_50 : decode q_mMd_read.1 50 = .ok (.getfield 126, 3) := by decide +kernel
theorem d_Md_read_53 : decode q_mMd_read.1 53 = .ok (.aload_n 0, 1) := by decide +kernel
theorem d_Md_read_54 : decode q_mMd_read.1 54 = .ok (.getfield 106, 3) := by decide +kernel
theorem d_Md_read_57 : decode q_mMd_read.1 57 = .ok (.if_icmp .ge 167, 3) := by decide +kernel
theorem d_Md_read_60 : decode q_mMd_read.1 60 = .ok (.aload_n 0, 1) := by decide +kernel
theorem d_Md_read_61 : decode q_mMd_read.1 61 = .ok (.aload_n 0, 1) := by decide +kernel
theorem d_Md_read_62 : decode q_mMd_read.1 62 = .ok (.getfield 126, 3) := by decide +kernel
theorem d_Md_read_65 : decode q_mMd_read.1 65 = .ok (.invokevirtual 129, 3) := by decide +kernel
theorem d_Md_read_68 : decode q_mMd_read.1 68 = .ok (.istore_n 1, 1) := by decide +kernel
theorem d_Md_read_69 : decode q_mMd_read.1 69 = .ok (.iload_n 1, 1) := by decide +kernel
theorem d_Md_read_70 : decode q_mMd_read.1 70 = .ok (.bipush 124, 2) := by decide +kernel
theorem d_Md_read_72 : decode q_mMd_read.1 72 = .ok (.if_icmp .ne 39, 3) := by decide +kernel
theorem d_Md_read_75 : decode q_mMd_read.1 75 = .ok (.aload_n 0, 1) := by decide +kernel
theorem d_Md_read_76 : decode q_mMd_read.1 76 = .ok (.dup, 1) := by decide +kernel
theorem d_Md_read_77 : decode q_mMd_read.1 77 = .ok (.getfield 126, 3) := by decide +kernel
theorem d_Md_read_80 : decode q_mMd_read.1 80 = .ok (.iconst 1, 1) := by decide +kernel
theorem d_Md_read_81 : decode q_mMd_read.1 81 = .ok (.iadd, 1) := by decide +kernel
theorem d_Md_read_82 : decode q_mMd_read.1 82 = .ok (.putfield 126, 3) := by decide +kernel
theorem d_Md_read_85 : decode q_mMd_read.1 85 = .ok (.aload_n 0, 1) := by decide +kernel
theorem d_Md_read_86 : decode q_mMd_read.1 86 = .ok (.getfield 52, 3) := by decide +kernel
theorem d_Md_read_89 : decode q_mMd_read.1 89 = .ok (.aload_n 0, 1) := by decide +kernel
theorem d_Md_read_90 : decode q_mMd_read.1 90 = .ok (.getfield 161, 3) := by decide +kernel
theorem d_Md_read_93 : decode q_mMd_read.1 93 = .ok (.aload_n 0, 1) := by decide +kernel
theorem d_Md_read_94 : decode q_mMd_read.1 94 = .ok (.iconst 1, 1) := by decide +kernel
theorem d_Md_read_95 : decode q_mMd_read.1 95 = .ok (.aload_n 0, 1) := by decide +kernel
theorem d_Md_read_96 : decode q_mMd_read.1 96 = .ok (.getfield 49, 3) := by decide +kernel
theorem d_Md_read_99 : decode q_mMd_read.1 99 = .ok (.aload_n 0, 1) := by decide +kernel
theorem d_Md_read_100 : decode q_mMd_read.1 100 = .ok (.getfield 161, 3) := by decide +kernel
theorem d_Md_read_103 : decode q_mMd_read.1 103 = .ok (.iaload, 1) := by decide +kernel
theorem d_Md_read_104 : decode q_mMd_read.1 104 = .ok (.invokevirtual 143, 3) := by decide +kernel
theorem d_Md_read_107 : decode q_mMd_read.1 107 = .ok (.iastore, 1) := by decide +kernel
theorem d_Md_read_108 : decode q_mMd_read.1 108 = .ok (.goto 113, 3) := by decide +kernel
theorem d_Md_read_111 : decode q_mMd_read.1 111 = .ok (.iload_n 1, 1) := by decide +kernel
theorem d_Md_read_112 : decode q_mMd_read.1 112 = .ok (.bipush 40, 2) := by decide +kernel
theorem d_Md_read_114 : decode q_mMd_read.1 114 = .ok (.if_icmp .ne 21, 3) := by decide +kernel
theorem d_Md_read_117 : decode q_mMd_read.1 117 = .ok (.aload_n 0, 1) := by decide +kernel
theorem d_Md_read_118 : decode q_mMd_read.1 118 = .ok (.aload_n 0, 1) := by decide +kernel
theorem d_Md_read_119 : decode q_mMd_read.1 119 = .ok (.getfield 52, 3) := by decide +kernel
theorem d_Md_read_122 : decode q_mMd_read.1 122 = .ok (.aload_n 0, 1) := by decide +kernel
theorem d_Md_read_123 : decode q_mMd_read.1 123 = .ok (.getfield 161, 3) := by decide +kernel
theorem d_Md_read_126 : decode q_mMd_read.1 126 = .ok (.iaload, 1) := by decide +kernel
theorem d_Md_read_127 : decode q_mMd_read.1 127 = .ok (.invokevirtual 167, 3) := by decide +kernel
theorem d_Md_read_130 : decode q_mMd_read.1 130 = .ok (.ifCond .ne 91, 3) := by decide +kernel
theorem d_Md_read_133 : decode q_mMd_read.1 133 = .ok (.iconst 0, 1) := by decide +kernel
theorem d_Md_read_134 : decode q_mMd_read.1 134 = .ok (.ireturn, 1) := by decide +kernel
theorem d_Md_read_135 : decode q_mMd_read.1 135 = .ok (.iload_n 1, 1) := by decide +kernel
theorem d_Md_read_136 : decode q_mMd_read.1 136 = .ok (.bipush 41, 2) := by decide +kernel
theorem d_Md_read_138 : decode q_mMd_read.1 138 = .ok (.if_icmp .ne 50, 3) := by decide +kernel
theorem d_Md_read_141 : decode q_mMd_read.1 141 = .ok (.aload_n 0, 1) := by decide +kernel
theorem d_Md_read_142 : decode q_mMd_read.1 142 = .ok (.getfield 161, 3) := by decide +kernel
theorem d_Md_read_145 : decode q_mMd_read.1 145 = .ok (.ifCond .le 43, 3) := by decide +kernel
theorem d_Md_read_148 : decode q_mMd_read.1 148 = .ok (.aload_n 0, 1) := by decide +kernel
theorem d_Md_read_149 : decode q_mMd_read.1 149 = .ok (.dup, 1) := by decide +kernel
theorem d_Md_read_150 : decode q_mMd_read.1 150 = .ok (.getfield 126, 3) := by decide +kernel
theorem d_Md_read_153 : decode q_mMd_read.1 153 = .ok (.iconst 1, 1) := by decide +kernel
theorem d_Md_read_154 : decode q_mMd_read.1 154 = .ok (.iadd, 1) := by decide +kernel
theorem d_Md_read_155 : decode q_mMd_read.1 155 = .ok (.putfield 126, 3) := by decide +kernel
theorem d_Md_read_158 : decode q_mMd_read.1 158 = .ok (.aload_n 0, 1) := by decide +kernel
theorem d_Md_read_159 : decode q_mMd_read.1 159 = .ok (.dup, 1) := by decide +kernel
theorem d_Md_read_160 : decode q_mMd_read.1 160 = .ok (.getfield 161, 3) := by decide +kernel
theorem d_Md_read_163 : decode q_mMd_read.1 163 = .ok (.iconst 1, 1) := by decide +kernel
theorem d_Md_read_164 : decode q_mMd_read.1 164 = .ok (.isub, 1) := by decide +kernel
theorem d_Md_read_165 : decode q_mMd_read.1 165 = .ok (.putfield 161, 3) := by decide +kernel
theorem d_Md_read_168 : decode q_mMd_read.1 168 = .ok (.aload_n 0, 1) := by decide +kernel
theorem d_Md_read_169 : decode q_mMd_read.1 169 = .ok (.aload_n 0, 1) := by decide +kernel
theorem d_Md_read_170 : decode q_mMd_read.1 170 = .ok (.getfield 46, 3) := by decide +kernel
theorem d_Md_read_173 : decode q_mMd_read.1 173 = .ok (.aload_n 0, 1) := by decide +kernel
theorem d_Md_read_174 : decode q_mMd_read.1 174 = .ok (.getfield 161, 3) := by decide +kernel
theorem d_Md_read_177 : decode q_mMd_read.1 177 = .ok (.iconst 1, 1) := by decide +kernel
theorem d_Md_read_178 : decode q_mMd_read.1 178 = .ok (.iadd, 1) := by decide +kernel
theorem d_Md_read_179 : decode q_mMd_read.1 179 = .ok (.iaload, 1) := by decide +kernel
theorem d_Md_read_180 : decode q_mMd_read.1 180 = .ok (.invokevirtual 170, 3) := by decide +kernel
theorem d_Md_read_183 : decode q_mMd_read.1 183 = .ok (.ifCond .ne 38, 3) := by decide +kernel
theorem d_Md_read_186 : decode q_mMd_read.1 186 = .ok (.iconst 0, 1) := by decide +kernel
theorem d_Md_read_187 : decode q_mMd_read.1 187 = .ok (.ireturn, 1) := by decide +kernel
theorem d_Md_read_188 : decode q_mMd_read.1 188 = .ok (.aload_n 0, 1) := by decide +kernel
theorem d_Md_read_189 : decode q_mMd_read.1 189 = .ok (.iconst 2, 1) := by decide +kernel
theorem d_Md_read_190 : decode q_mMd_read.1 190 = .ok (.aload_n 0, 1) := by decide +kernel
theorem d_Md_read_191 : decode q_mMd_read.1 191 = .ok (.getfield 52, 3) := by decide +kernel
theorem d_Md_read_194 : decode q_mMd_read.1 194 = .ok (.aload_n 0, 1) := by decide +kernel
theorem d_Md_read_195 : decode q_mMd_read.1 195 = .ok (.getfield 161, 3) := by decide +kernel
theorem d_Md_read_198 : decode q_mMd_read.1 198 = .ok (.iaload, 1) := by decide +kernel
theorem d_Md_read_199 : decode q_mMd_read.1 199 = .ok (.invokevirtual 143, 3) := by decide +kernel
theorem d_Md_read_202 : decode q_mMd_read.1 202 = .ok (.istore_n 2, 1) := by decide +kernel
theorem d_Md_read_203 : decode q_mMd_read.1 203 = .ok (.aload_n 0, 1) := by decide +kernel
theorem d_Md_read_204 : decode q_mMd_read.1 204 = .ok (.iload_n 2, 1) := by decide +kernel
theorem d_Md_read_205 : decode q_mMd_read.1 205 = .ok (.invokevirtual 173, 3) := by decide +kernel
theorem d_Md_read_208 : decode q_mMd_read.1 208 = .ok (.ifCond .eq 11, 3) := by decide +kernel
theorem d_Md_read_211 : decode q_mMd_read.1 211 = .ok (.aload_n 0, 1) := by decide +kernel
theorem d_Md_read_212 : decode q_mMd_read.1 212 = .ok (.iload_n 2, 1) := by decide +kernel
theorem d_Md_read_213 : decode q_mMd_read.1 213 = .ok (.invokevirtual 170, 3) := by decide +kernel
theorem d_Md_read_216 : decode q_mMd_read.1 216 = .ok (.ifCond .ne 5, 3) := by decide +kernel
theorem d_Md_read_219 : decode q_mMd_read.1 219 = .ok (.iconst 0, 1) := by decide +kernel
theorem d_Md_read_220 : decode q_mMd_read.1 220 = .ok (.ireturn, 1) := by decide +kernel
theorem d_Md_read_221 : decode q_mMd_read.1 221 = .ok (.goto (-172), 3) := by decide +kernel
theorem d_Md_read_224 : decode q_mMd_read.1 224 = .ok (.aload_n 0, 1) := by decide +kernel
theorem d_Md_read_225 : decode q_mMd_read.1 225 = .ok (.getfield 161, 3) := by decide +kernel
theorem d_Md_read_228 : decode q_mMd_read.1 228 = .ok (.ifCond .ne 7, 3) := by decide +kernel
theorem d_Md_read_231 : decode q_mMd_read.1 231 = .ok (.iconst 1, 1) := by decide +kernel
theorem d_Md_read_232 : decode q_mMd_read.1 232 = .ok (.goto 4, 3) := by decide +kernel
theorem d_Md_read_235 : decode q_mMd_read.1 235 = .ok (.iconst 0, 1) := by decide +kernel
theorem d_Md_read_236 : decode q_mMd_read.1 236 = .ok (.ireturn, 1) := by decide +kernel
theorem d_Md_node_0 : decode q_mMd_node.1 0 = .ok (.aload_n 0, 1) := by decide +kernel
theorem d_Md_node_1 : decode q_mMd_node.1 1 = .ok (.getfield 112, 3) := by decide +kernel
theorem d_Md_node_4 : decode q_mMd_node.1 4 = .ok (.istore_n 3, 1) := by decide +kernel
theorem d_Md_node_5 : decode q_mMd_node.1 5 = .ok (.aload_n 0, 1) := by decide +kernel
theorem d_Md_node_6 : decode q_mMd_node.1 6 = .ok (.dup, 1) := by decide +kernel
theorem d_Md_node_7 : decode q_mMd_node.1 7 = .ok (.getfield 112, 3) := by decide +kernel
theorem d_Md_node_10 : decode q_mMd_node.1 10 = .ok (.iconst 1, 1) := by decide +kernel
theorem d_Md_node_11 : decode q_mMd_node.1 11 = .ok (.iadd, 1) := by decide +kernel
theorem d_Md_node_12 : decode q_mMd_node.1 12 = .ok (.putfield 112, 3) := by decide +kernel
theorem d_Md_node_15 : decode q_mMd_node.1 15 = .ok (.aload_n 0, 1) := by decide +kernel
theorem d_Md_node_16 : decode q_mMd_node.1 16 = .ok (.getfield 17, 3) := by decide +kernel
theorem d_Md_node_19 : decode q_mMd_node.1 19 = .ok (.iload_n 3, 1) := by decide +kernel
theorem d_Md_node_20 : decode q_mMd_node.1 20 = .ok (.iload_n 1, 1) := by decide +kernel
theorem d_Md_node_21 : decode q_mMd_node.1 21 = .ok (.iastore, 1) := by decide +kernel
theorem d_Md_node_22 : decode q_mMd_node.1 22 = .ok (.aload_n 0, 1) := by decide +kernel
theorem d_Md_node_23 : decode q_mMd_node.1 23 = .ok (.getfield 21, 3) := by decide +kernel
theorem d_Md_node_26 : decode q_mMd_node.1 26 = .ok (.iload_n 3, 1) := by decide +kernel
theorem d_Md_node_27 : decode q_mMd_node.1 27 = .ok (.iconst (-1), 1) := by decide +kernel
theorem d_Md_node_28 : decode q_mMd_node.1 28 = .ok (.iastore, 1) := by decide +kernel
theorem d_Md_node_29 : decode q_mMd_node.1 29 = .ok (.aload_n 0, 1) := by decide +kernel
theorem d_Md_node_30 : decode q_mMd_node.1 30 = .ok (.getfield 24, 3) := by decide +kernel
theorem d_Md_node_33 : decode q_mMd_node.1 33 = .ok (.iload_n 3, 1) := by decide +kernel
theorem d_Md_node_34 : decode q_mMd_node.1 34 = .ok (.iconst (-1), 1) := by decide +kernel
theorem d_Md_node_35 : decode q_mMd_node.1 35 = .ok (.iastore, 1) := by decide +kernel
theorem d_Md_node_36 : decode q_mMd_node.1 36 = .ok (.aload_n 0, 1) := by decide +kernel
theorem d_Md_node_37 : decode q_mMd_node.1 37 = .ok (.getfield 27, 3) := by decide +kernel
theorem d_Md_node_40 : decode q_mMd_node.1 40 = .ok (.iload_n 3, 1) := by decide +kernel
theorem d_Md_node_41 : decode q_mMd_node.1 41 = .ok (.iconst (-1), 1) := by decide +kernel
theorem d_Md_node_42 : decode q_mMd_node.1 42 = .ok (.iastore, 1) := by decide +kernel
theorem d_Md_node_43 : decode q_mMd_node.1 43 = .ok (.aload_n 0, 1) := by decide +kernel
theorem d_Md_node_44 : decode q_mMd_node.1 44 = .ok (.getfield 30, 3) := by decide +kernel
theorem d_Md_node_47 : decode q_mMd_node.1 47 = .ok (.iload_n 3, 1) := by decide +kernel
theorem d_Md_node_48 : decode q_mMd_node.1 48 = .ok (.iconst 0, 1) := by decide +kernel
theorem d_Md_node_49 : decode q_mMd_node.1 49 = .ok (.iastore, 1) := by decide +kernel
theorem d_Md_node_50 : decode q_mMd_node.1 50 = .ok (.aload_n 0, 1) := by decide +kernel
theorem d_Md_node_51 : decode q_mMd_node.1 51 = .ok (.getfield 33, 3) := by decide +kernel
theorem d_Md_node_54 : decode q_mMd_node.1 54 = .ok (.iload_n 3, 1) := by decide +kernel
theorem d_Md_node_55 : decode q_mMd_node.1 55 = .ok (.iconst 0, 1) := by decide +kernel
theorem d_Md_node_56 : decode q_mMd_node.1 56 = .ok (.iastore, 1) := by decide +kernel
theorem d_Md_node_57 : decode q_mMd_node.1 57 = .ok (.aload_n 0, 1) := by decide +kernel
theorem d_Md_node_58 : decode q_mMd_node.1 58 = .ok (.getfield 36, 3) := by decide +kernel
theorem d_Md_node_61 : decode q_mMd_node.1 61 = .ok (.iload_n 3, 1) := by decide +kernel
theorem d_Md_node_62 : decode q_mMd_node.1 62 = .ok (.iconst 0, 1) := by decide +kernel
theorem d_Md_node_63 : decode q_mMd_node.1 63 = .ok (.iastore, 1) := by decide +kernel
theorem d_Md_node_64 : decode q_mMd_node.1 64 = .ok (.aload_n 0, 1) := by decide +kernel
theorem d_Md_node_65 : decode q_mMd_node.1 65 = .ok (.getfield 39, 3) := by decide +kernel
theorem d_Md_node_68 : decode q_mMd_node.1 68 = .ok (.iload_n 3, 1) := by decide +kernel
theorem d_Md_node_69 : decode q_mMd_node.1 69 = .ok (.iconst 0, 1) := by decide +kernel
theorem d_Md_node_70 : decode q_mMd_node.1 70 = .ok (.bastore, 1) := by decide +kernel
theorem d_Md_node_71 : decode q_mMd_node.1 71 = .ok (.iload_n 2, 1) := by decide +kernel
theorem d_Md_node_72 : decode q_mMd_node.1 72 = .ok (.ifCond .lt 41, 3) := by decide +kernel
theorem d_Md_node_75 : decode q_mMd_node.1 75 = .ok (.aload_n 0, 1) := by decide +kernel
theorem d_Md_node_76 : decode q_mMd_node.1 76 = .ok (.getfield 21, 3) := by decide +kernel
theorem d_Md_node_79 : decode q_mMd_node.1 79 = .ok (.iload_n 2, 1) := by decide +kernel
theorem d_Md_node_80 : decode q_mMd_node.1 80 = .ok (.iaload, 1) := by decide +kernel
theorem d_Md_node_81 : decode q_mMd_node.1 81 = .ok (.ifCond .ge 13, 3) := by decide +kernel
theorem d_Md_node_84 : decode q_mMd_node.1 84 = .ok (.aload_n 0, 1) := by decide +kernel
theorem d_Md_node_85 : decode q_mMd_node.1 85 = .ok (.getfield 21, 3) := by decide +kernel
theorem d_Md_node_88 : decode q_mMd_node.1 88 = .ok (.iload_n 2, 1) := by decide +kernel
theorem d_Md_node_89 : decode q_mMd_node.1 89 = .ok (.iload_n 3, 1) := by decide +kernel
theorem d_Md_node_90 : decode q_mMd_node.1 90 = .ok (.iastore, 1) := by decide +kernel
theorem d_Md_node_91 : decode q_mMd_node.1 91 = .ok (.goto 15, 3) := by decide +kernel
theorem d_Md_node_94 : decode q_mMd_node.1 94 = .ok (.aload_n 0, 1) := by decide +kernel
theorem d_Md_node_95 : decode q_mMd_node.1 95 = .ok (.getfield 27, 3) := by decide +kernel
theorem d_Md_node_98 : decode q_mMd_node.1 98 = .ok (.aload_n 0, 1) := by decide +kernel
theorem d_Md_node_99 : decode q_mMd_node.1 99 = .ok (.getfield 24, 3) := by decide +kernel
theorem d_Md_node_102 : decode q_mMd_node.1 102 = .ok (.iload_n 2, 1) := by decide +kernel
theorem d_Md_node_103 : decode q_mMd_node.1 103 = .ok (.iaload, 1) := by decide +kernel
theorem d_Md_node_104 : decode q_mMd_node.1 104 = .ok (.iload_n 3, 1) := by decide +kernel
theorem d_Md_node_105 : decode q_mMd_node.1 105 = .ok (.iastore, 1) := by decide +kernel
theorem d_Md_node_106 : decode q_mMd_node.1 106 = .ok (.aload_n 0, 1) := by decide +kernel
theorem d_Md_node_107 : decode q_mMd_node.1 107 = .ok (.getfield 24, 3) := by decide +kernel
theorem d_Md_node_110 : decode q_mMd_node.1 110 = .ok (.iload_n 2, 1) := by decide +kernel
theorem d_Md_node_111 : decode q_mMd_node.1 111 = .ok (.iload_n 3, 1) := by decide +kernel
theorem d_Md_node_112 : decode q_mMd_node.1 112 = .ok (.iastore, 1) := by decide +kernel
theorem d_Md_node_113 : decode q_mMd_node.1 113 = .ok (.iload_n 3, 1) := by decide +kernel
theorem d_Md_node_114 : decode q_mMd_node.1 114 = .ok (.ireturn, 1) := by decide +kernel
theorem d_Md_here_0 : decode q_mMd_here.1 0 = .ok (.iload_n 1, 1) := by decide +kernel
theorem d_Md_here_1 : decode q_mMd_here.1 1 = .ok (.aload_n 0, 1) := by decide +kernel
theorem d_Md_here_2 : decode q_mMd_here.1 2 = .ok (.getfield 106, 3) := by decide +kernel
theorem d_Md_here_5 : decode q_mMd_here.1 5 = .ok (.if_icmp .ge 12, 3) := by decide +kernel
theorem d_Md_here_8 : decode q_mMd_here.1 8 = .ok (.aload_n 0, 1) := by decide +kernel
theorem d_Md_here_9 : decode q_mMd_here.1 9 = .ok (.getfield 7, 3) := by decide +kernel
theorem d_Md_here_12 : decode q_mMd_here.1 12 = .ok (.iload_n 1, 1) := by decide +kernel
theorem d_Md_here_13 : decode q_mMd_here.1 13 = .ok (.caload, 1) := by decide +kernel
theorem d_Md_here_14 : decode q_mMd_here.1 14 = .ok (.goto 4, 3) := by decide +kernel
theorem d_Md_here_17 : decode q_mMd_here.1 17 = .ok (.iconst 0, 1) := by decide +kernel
theorem d_Md_here_18 : decode q_mMd_here.1 18 = .ok (.ireturn, 1) := by decide +kernel
end
section
theorem d_Md_open_0 : decode q_mMd_open.1 0 = .ok (.aload_n 0, 1) := by decide +kernel
theorem d_Md_open_1 : decode q_mMd_open.1 1 = .ok (.getfield 161, 3) := by decide +kernel
theorem d_Md_open_4 : decode q_mMd_open.1 4 = .ok (.bipush 8, 2) := by decide +kernel
theorem d_Md_open_6 : decode q_mMd_open.1 6 = .ok (.if_icmp .ne 5, 3) := by decide +kernel
theorem d_Md_open_9 : decode q_mMd_open.1 9 = .ok (.iconst 0, 1) := by decide +kernel
theorem d_Md_open_10 : decode q_mMd_open.1 10 = .ok (.ireturn, 1) := by decide +kernel
theorem d_Md_open_11 : decode q_mMd_open.1 11 = .ok (.aload_n 0, 1) := by decide +kernel
theorem d_Md_open_12 : decode q_mMd_open.1 12 = .ok (.dup, 1) := by decide +kernel
theorem d_Md_open_13 : decode q_mMd_open.1 13 = .ok (.getfield 126, 3) := by decide +kernel
theorem d_Md_open_16 : decode q_mMd_open.1 16 = .ok (.iconst 1, 1) := by decide +kernel
theorem d_Md_open_17 : decode q_mMd_open.1 17 = .ok (.iadd, 1) := by decide +kernel
theorem d_Md_open_18 : decode q_mMd_open.1 18 = .ok (.putfield 126, 3) := by decide +kernel
theorem d_Md_open_21 : decode q_mMd_open.1 21 = .ok (.aload_n 0, 1) := by decide +kernel
theorem d_Md_open_22 : decode q_mMd_open.1 22 = .ok (.aload_n 0, 1) := by decide +kernel
theorem d_Md_open_23 : decode q_mMd_open.1 23 = .ok (.getfield 126, 3) := by decide +kernel
theorem d_Md_open_26 : decode q_mMd_open.1 26 = .ok (.invokevirtual 129, 3) := by decide +kernel
theorem d_Md_open_29 : decode q_mMd_open.1 29 = .ok (.bipush 63, 2) := by decide +kernel
theorem d_Md_open_31 : decode q_mMd_open.1 31 = .ok (.if_icmp .ne 7, 3) := by decide +kernel
theorem d_Md_open_34 : decode q_mMd_open.1 34 = .ok (.iconst 1, 1) := by decide +kernel
theorem d_Md_open_35 : decode q_mMd_open.1 35 = .ok (.goto 4, 3) := by decide +kernel
theorem d_Md_open_38 : decode q_mMd_open.1 38 = .ok (.iconst 0, 1) := by decide +kernel
theorem d_Md_open_39 : decode q_mMd_open.1 39 = .ok (.istore_n 2, 1) := by decide +kernel
theorem d_Md_open_40 : decode q_mMd_open.1 40 = .ok (.iload_n 2, 1) := by decide +kernel
theorem d_Md_open_41 : decode q_mMd_open.1 41 = .ok (.ifCond .ne 14, 3) := by decide +kernel
theorem d_Md_open_44 : decode q_mMd_open.1 44 = .ok (.aload_n 0, 1) := by decide +kernel
theorem d_Md_open_45 : decode q_mMd_open.1 45 = .ok (.getfield 164, 3) := by decide +kernel
theorem d_Md_open_48 : decode q_mMd_open.1 48 = .ok (.bipush 6, 2) := by decide +kernel
theorem d_Md_open_50 : decode q_mMd_open.1 50 = .ok (.if_icmp .ne 5, 3) := by decide +kernel
theorem d_Md_open_53 : decode q_mMd_open.1 53 = .ok (.iconst 0, 1) := by decide +kernel
theorem d_Md_open_54 : decode q_mMd_open.1 54 = .ok (.ireturn, 1) := by decide +kernel
theorem d_Md_open_55 : decode q_mMd_open.1 55 = .ok (.iload_n 2, 1) := by decide +kernel
theorem d_Md_open_56 : decode q_mMd_open.1 56 = .ok (.ifCond .eq 38, 3) := by decide +kernel
theorem d_Md_open_59 : decode q_mMd_open.1 59 = .ok (.aload_n 0, 1) := by decide +kernel
theorem d_Md_open_60 : decode q_mMd_open.1 60 = .ok (.dup, 1) := by decide +kernel
theorem d_Md_open_61 : decode q_mMd_open.1 61 = .ok (.getfield 126, 3) := by decide +kernel
theorem d_Md_open_64 : decode q_mMd_open.1 64 = .ok (.iconst 1, 1) := by decide +kernel
theorem d_Md_open_65 : decode q_mMd_open.1 65 = .ok (.iadd, 1) := by decide +kernel
theorem d_Md_open_66 : decode q_mMd_open.1 66 = .ok (.putfield 126, 3) := by decide +kernel
theorem d_Md_open_69 : decode q_mMd_open.1 69 = .ok (.aload_n 0, 1) := by decide +kernel
theorem d_Md_open_70 : decode q_mMd_open.1 70 = .ok (.aload_n 0, 1) := by decide +kernel
theorem d_Md_open_71 : decode q_mMd_open.1 71 = .ok (.getfield 126, 3) := by decide +kernel
theorem d_Md_open_74 : decode q_mMd_open.1 74 = .ok (.invokevirtual 129, 3) := by decide +kernel
theorem d_Md_open_77 : decode q_mMd_open.1 77 = .ok (.bipush 58, 2) := by decide +kernel
theorem d_Md_open_79 : decode q_mMd_open.1 79 = .ok (.if_icmp .eq 5, 3) := by decide +kernel
theorem d_Md_open_82 : decode q_mMd_open.1 82 = .ok (.iconst 0, 1) := by decide +kernel
theorem d_Md_open_83 : decode q_mMd_open.1 83 = .ok (.ireturn, 1) := by decide +kernel
theorem d_Md_open_84 : decode q_mMd_open.1 84 = .ok (.aload_n 0, 1) := by decide +kernel
theorem d_Md_open_85 : decode q_mMd_open.1 85 = .ok (.dup, 1) := by decide +kernel
theorem d_Md_open_86 : decode q_mMd_open.1 86 = .ok (.getfield 126, 3) := by decide +kernel
theorem d_Md_open_89 : decode q_mMd_open.1 89 = .ok (.iconst 1, 1) := by decide +kernel
theorem d_Md_open_90 : decode q_mMd_open.1 90 = .ok (.iadd, 1) := by decide +kernel
theorem d_Md_open_91 : decode q_mMd_open.1 91 = .ok (.putfield 126, 3) := by decide +kernel
theorem d_Md_open_94 : decode q_mMd_open.1 94 = .ok (.aload_n 0, 1) := by decide +kernel
theorem d_Md_open_95 : decode q_mMd_open.1 95 = .ok (.dup, 1) := by decide +kernel
theorem d_Md_open_96 : decode q_mMd_open.1 96 = .ok (.getfield 161, 3) := by decide +kernel
theorem d_Md_open_99 : decode q_mMd_open.1 99 = .ok (.iconst 1, 1) := by decide +kernel
theorem d_Md_open_100 : decode q_mMd_open.1 100 = .ok (.iadd, 1) := by decide +kernel
theorem d_Md_open_101 : decode q_mMd_open.1 101 = .ok (.putfield 161, 3) := by decide +kernel
theorem d_Md_open_104 : decode q_mMd_open.1 104 = .ok (.aload_n 0, 1) := by decide +kernel
theorem d_Md_open_105 : decode q_mMd_open.1 105 = .ok (.getfield 46, 3) := by decide +kernel
theorem d_Md_open_108 : decode q_mMd_open.1 108 = .ok (.aload_n 0, 1) := by decide +kernel
theorem d_Md_open_109 : decode q_mMd_open.1 109 = .ok (.getfield 161, 3) := by decide +kernel
theorem d_Md_open_112 : decode q_mMd_open.1 112 = .ok (.aload_n 0, 1) := by decide +kernel
theorem d_Md_open_113 : decode q_mMd_open.1 113 = .ok (.iconst 2, 1) := by decide +kernel
theorem d_Md_open_114 : decode q_mMd_open.1 114 = .ok (.iload_n 1, 1) := by decide +kernel
theorem d_Md_open_115 : decode q_mMd_open.1 115 = .ok (.invokevirtual 143, 3) := by decide +kernel
theorem d_Md_open_118 : decode q_mMd_open.1 118 = .ok (.iastore, 1) := by decide +kernel
theorem d_Md_open_119 : decode q_mMd_open.1 119 = .ok (.aload_n 0, 1) := by decide +kernel
theorem d_Md_open_120 : decode q_mMd_open.1 120 = .ok (.iconst 4, 1) := by decide +kernel
theorem d_Md_open_121 : decode q_mMd_open.1 121 = .ok (.aload_n 0, 1) := by decide +kernel
theorem d_Md_open_122 : decode q_mMd_open.1 122 = .ok (.getfield 46, 3) := by decide +kernel
theorem d_Md_open_125 : decode q_mMd_open.1 125 = .ok (.aload_n 0, 1) := by decide +kernel
theorem d_Md_open_126 : decode q_mMd_open.1 126 = .ok (.getfield 161, 3) := by decide +kernel
theorem d_Md_open_129 : decode q_mMd_open.1 129 = .ok (.iaload, 1) := by decide +kernel
theorem d_Md_open_130 : decode q_mMd_open.1 130 = .ok (.invokevirtual 143, 3) := by decide +kernel
theorem d_Md_open_133 : decode q_mMd_open.1 133 = .ok (.istore_n 3, 1) := by decide +kernel
theorem d_Md_open_134 : decode q_mMd_open.1 134 = .ok (.aload_n 0, 1) := by decide +kernel
theorem d_Md_open_135 : decode q_mMd_open.1 135 = .ok (.iload_n 2, 1) := by decide +kernel
theorem d_Md_open_136 : decode q_mMd_open.1 136 = .ok (.ifCond .eq 10, 3) := by decide +kernel
theorem d_Md_open_139 : decode q_mMd_open.1 139 = .ok (.aload_n 0, 1) := by decide +kernel
theorem d_Md_open_140 : decode q_mMd_open.1 140 = .ok (.getfield 164, 3) := by decide +kernel
theorem d_Md_open_143 : decode q_mMd_open.1 143 = .ok (.goto 9, 3) := by decide +kernel
theorem d_Md_open_146 : decode q_mMd_open.1 146 = .ok (.aload_n 0, 1) := by decide +kernel
theorem d_Md_open_147 : decode q_mMd_open.1 147 = .ok (.getfield 164, 3) := by decide +kernel
theorem d_Md_open_150 : decode q_mMd_open.1 150 = .ok (.iconst 1, 1) := by decide +kernel
theorem d_Md_open_151 : decode q_mMd_open.1 151 = .ok (.iadd, 1) := by decide +kernel
theorem d_Md_open_152 : decode q_mMd_open.1 152 = .ok (.putfield 164, 3) := by decide +kernel
theorem d_Md_open_155 : decode q_mMd_open.1 155 = .ok (.aload_n 0, 1) := by decide +kernel
theorem d_Md_open_156 : decode q_mMd_open.1 156 = .ok (.getfield 30, 3) := by decide +kernel
theorem d_Md_open_159 : decode q_mMd_open.1 159 = .ok (.iload_n 3, 1) := by decide +kernel
theorem d_Md_open_160 : decode q_mMd_open.1 160 = .ok (.iload_n 2, 1) := by decide +kernel
theorem d_Md_open_161 : decode q_mMd_open.1 161 = .ok (.ifCond .eq 7, 3) := by decide +kernel
theorem d_Md_open_164 : decode q_mMd_open.1 164 = .ok (.iconst 0, 1) := by decide +kernel
theorem d_Md_open_165 : decode q_mMd_open.1 165 = .ok (.goto 7, 3) := by decide +kernel
theorem d_Md_open_168 : decode q_mMd_open.1 168 = .ok (.aload_n 0, 1) := by decide +kernel
theorem d_Md_open_169 : decode q_mMd_open.1 169 = .ok (.getfield 164, 3) := by decide +kernel
theorem d_Md_open_172 : decode q_mMd_open.1 172 = .ok (.iastore, 1) := by decide +kernel
theorem d_Md_open_173 : decode q_mMd_open.1 173 = .ok (.aload_n 0, 1) := by decide +kernel
theorem d_Md_open_174 : decode q_mMd_open.1 174 = .ok (.getfield 49, 3) := by decide +kernel
theorem d_Md_open_177 : decode q_mMd_open.1 177 = .ok (.aload_n 0, 1) := by decide +kernel
theorem d_Md_open_178 : decode q_mMd_open.1 178 = .ok (.getfield 161, 3) := by decide +kernel
theorem d_Md_open_181 : decode q_mMd_open.1 181 = .ok (.aload_n 0, 1) := by decide +kernel
theorem d_Md_open_182 : decode q_mMd_open.1 182 = .ok (.iconst 0, 1) := by decide +kernel
theorem d_Md_open_183 : decode q_mMd_open.1 183 = .ok (.iload_n 3, 1) := by decide +kernel
theorem d_Md_open_184 : decode q_mMd_open.1 184 = .ok (.invokevirtual 143, 3) := by decide +kernel
theorem d_Md_open_187 : decode q_mMd_open.1 187 = .ok (.iastore, 1) := by decide +kernel
theorem d_Md_open_188 : decode q_mMd_open.1 188 = .ok (.aload_n 0, 1) := by decide +kernel
theorem d_Md_open_189 : decode q_mMd_open.1 189 = .ok (.getfield 52, 3) := by decide +kernel
theorem d_Md_open_192 : decode q_mMd_open.1 192 = .ok (.aload_n 0, 1) := by decide +kernel
theorem d_Md_open_193 : decode q_mMd_open.1 193 = .ok (.getfield 161, 3) := by decide +kernel
theorem d_Md_open_196 : decode q_mMd_open.1 196 = .ok (.aload_n 0, 1) := by decide +kernel
theorem d_Md_open_197 : decode q_mMd_open.1 197 = .ok (.iconst 1, 1) := by decide +kernel
theorem d_Md_open_198 : decode q_mMd_open.1 198 = .ok (.aload_n 0, 1) := by decide +kernel
theorem d_Md_open_199 : decode q_mMd_open.1 199 = .ok (.getfield 49, 3) := by decide +kernel
theorem d_Md_open_202 : decode q_mMd_open.1 202 = .ok (.aload_n 0, 1) := by decide +kernel
theorem d_Md_open_203 : decode q_mMd_open.1 203 = .ok (.getfield 161, 3) := by decide +kernel
theorem d_Md_open_206 : decode q_mMd_open.1 206 = .ok (.iaload, 1) := by decide +kernel
theorem d_Md_open_207 : decode q_mMd_open.1 207 = .ok (.invokevirtual 143, 3) := by decide +kernel
theorem d_Md_open_210 : decode q_mMd_open.1 210 = .ok (.iastore, 1) := by decide +kernel
theorem d_Md_open_211 : decode q_mMd_open.1 211 = .ok (.iconst 1, 1) := by decide +kernel
theorem d_Md_open_212 : decode q_mMd_open.1 212 = .ok (.ireturn, 1) := by decide +kernel
theorem d_Md_readCount_0 : decode q_mMd_readCount.1 0 = .ok (.aload_n 0, 1) := by decide +kernel
theorem d_Md_readCount_1 : decode q_mMd_readCount.1 1 = .ok (.aload_n 0, 1) := by decide +kernel
theorem d_Md_readCount_2 : decode q_mMd_readCount.1 2 = .ok (.getfield 126, 3) := by decide +kernel
theorem d_Md_readCount_5 : decode q_mMd_readCount.1 5 = .ok (.invokevirtual 129, 3) := by decide +kernel
theorem d_Md_readCount_8 : decode q_mMd_readCount.1 8 = .ok (.istore_n 2, 1) := by decide +kernel
theorem d_Md_readCount_9 : decode q_mMd_readCount.1 9 = .ok (.iload_n 2, 1) := by decide +kernel
theorem d_Md_readCount_10 : decode q_mMd_readCount.1 10 = .ok (.bipush 42, 2) := by decide +kernel
theorem d_Md_readCount_12 : decode q_mMd_readCount.1 12 = .ok (.if_icmp .eq 23, 3) := by decide +kernel
theorem d_Md_readCount_15 : decode q_mMd_readCount.1 15 = .ok (.iload_n 2, 1) := by decide +kernel
theorem d_Md_readCount_16 : decode q_mMd_readCount.1 16 = .ok (.bipush 43, 2) := by decide +kernel
theorem d_Md_readCount_18 : decode q_mMd_readCount.1 18 = .ok (.if_icmp .eq 17, 3) := by decide +kernel
theorem d_Md_readCount_21 : decode q_mMd_readCount.1 21 = .ok (.iload_n 2, 1) := by decide +kernel
theorem d_Md_readCount_22 : decode q_mMd_readCount.1 22 = .ok (.bipush 63, 2) := by decide +kernel
theorem d_Md_readCount_24 : decode q_mMd_readCount.1 24 = .ok (.if_icmp .eq 11, 3) := by decide +kernel
theorem d_Md_readCount_27 : decode q_mMd_readCount.1 27 = .ok (.iload_n 2, 1) := by decide +kernel
theorem d_Md_readCount_28 : decode q_mMd_readCount.1 28 = .ok (.bipush 123, 2) := by decide +kernel
theorem d_Md_readCount_30 : decode q_mMd_readCount.1 30 = .ok (.if_icmp .eq 5, 3) := by decide +kernel
theorem d_Md_readCount_33 : decode q_mMd_readCount.1 33 = .ok (.iconst 1, 1) := by decide +kernel
theorem d_Md_readCount_34 : decode q_mMd_readCount.1 34 = .ok (.ireturn, 1) := by decide +kernel
theorem d_Md_readCount_35 : decode q_mMd_readCount.1 35 = .ok (.aload_n 0, 1) := by decide +kernel
theorem d_Md_readCount_36 : decode q_mMd_readCount.1 36 = .ok (.dup, 1) := by decide +kernel
theorem d_Md_readCount_37 : decode q_mMd_readCount.1 37 = .ok (.getfield 126, 3) := by decide +kernel
theorem d_Md_readCount_40 : decode q_mMd_readCount.1 40 = .ok (.iconst 1, 1) := by decide +kernel
theorem d_Md_readCount_41 : decode q_mMd_readCount.1 41 = .ok (.iadd, 1) := by decide +kernel
theorem d_Md_readCount_42 : decode q_mMd_readCount.1 42 = .ok (.putfield 126, 3) := by decide +kernel
theorem d_Md_readCount_45 : decode q_mMd_readCount.1 45 = .ok (.aload_n 0, 1) := by decide +kernel
theorem d_Md_readCount_46 : decode q_mMd_readCount.1 46 = .ok (.getfield 30, 3) := by decide +kernel
theorem d_Md_readCount_49 : decode q_mMd_readCount.1 49 = .ok (.iload_n 1, 1) := by decide +kernel
theorem d_Md_readCount_50 : decode q_mMd_readCount.1 50 = .ok (.iload_n 2, 1) := by decide +kernel
theorem d_Md_readCount_51 : decode q_mMd_readCount.1 51 = .ok (.bipush 42, 2) := by decide +kernel
theorem d_Md_readCount_53 : decode q_mMd_readCount.1 53 = .ok (.if_icmp .ne 7, 3) := by decide +kernel
theorem d_Md_readCount_56 : decode q_mMd_readCount.1 56 = .ok (.iconst 1, 1) := by decide +kernel
theorem d_Md_readCount_57 : decode q_mMd_readCount.1 57 = .ok (.goto 24, 3) := by decide +kernel
theorem d_Md_readCount_60 : decode q_mMd_readCount.1 60 = .ok (.iload_n 2, 1) := by decide +kernel
theorem d_Md_readCount_61 : decode q_mMd_readCount.1 61 = .ok (.bipush 43, 2) := by decide +kernel
theorem d_Md_readCount_63 : decode q_mMd_readCount.1 63 = .ok (.if_icmp .ne 7, 3) := by decide +kernel
theorem d_Md_readCount_66 : decode q_mMd_readCount.1 66 = .ok (.iconst 2, 1) := by decide +kernel
theorem d_Md_readCount_67 : decode q_mMd_readCount.1 67 = .ok (.goto 14, 3) := by decide +kernel
theorem d_Md_readCount_70 : decode q_mMd_readCount.1 70 = .ok (.iload_n 2, 1) := by decide +kernel
theorem d_Md_readCount_71 : decode q_mMd_readCount.1 71 = .ok (.bipush 63, 2) := by decide +kernel
theorem d_Md_readCount_73 : decode q_mMd_readCount.1 73 = .ok (.if_icmp .ne 7, 3) := by decide +kernel
theorem d_Md_readCount_76 : decode q_mMd_readCount.1 76 = .ok (.iconst 3, 1) := by decide +kernel
theorem d_Md_readCount_77 : decode q_mMd_readCount.1 77 = .ok (.goto 4, 3) := by decide +kernel
theorem d_Md_readCount_80 : decode q_mMd_readCount.1 80 = .ok (.iconst 4, 1) := by decide +kernel
theorem d_Md_readCount_81 : decode q_mMd_readCount.1 81 = .ok (.iastore, 1) := by decide +kernel
theorem d_Md_readCount_82 : decode q_mMd_readCount.1 82 = .ok (.iload_n 2, 1) := by decide +kernel
theorem d_Md_readCount_83 : decode q_mMd_readCount.1 83 = .ok (.bipush 123, 2) := by decide +kernel
theorem d_Md_readCount_85 : decode q_mMd_readCount.1 85 = .ok (.if_icmp .ne 13, 3) := by decide +kernel
theorem d_Md_readCount_88 : decode q_mMd_readCount.1 88 = .ok (.aload_n 0, 1) := by decide +kernel
theorem d_Md_readCount_89 : decode q_mMd_readCount.1 89 = .ok (.iload_n 1, 1) := by decide +kernel
theorem d_Md_readCount_90 : decode q_mMd_readCount.1 90 = .ok (.invokevirtual 155, 3) := by decide +kernel
theorem d_Md_readCount_93 : decode q_mMd_readCount.1 93 = .ok (.ifCond .ne 5, 3) := by decide +kernel
theorem d_Md_readCount_96 : decode q_mMd_readCount.1 96 = .ok (.iconst 0, 1) := by decide +kernel
theorem d_Md_readCount_97 : decode q_mMd_readCount.1 97 = .ok (.ireturn, 1) := by decide +kernel
theorem d_Md_readCount_98 : decode q_mMd_readCount.1 98 = .ok (.aload_n 0, 1) := by decide +kernel
theorem d_Md_readCount_99 : decode q_mMd_readCount.1 99 = .ok (.getfield 39, 3) := by decide +kernel
theorem d_Md_readCount_102 : decode q_mMd_readCount.1 102 = .ok (.iload_n 1, 1) := by decide +kernel
theorem d_Md_readCount_103 : decode q_mMd_readCount.1 103 = .ok (.aload_n 0, 1) := by decide +kernel
theorem d_Md_readCount_104 : decode q_mMd_readCount.1 104 = .ok (.aload_n 0, 1) := by decide +kernel
theorem d_Md_readCount_105 : decode q_mMd_readCount.1 105 = .ok (.getfield 126, 3) := by decide +kernel
theorem d_Md_readCount_108 : decode q_mMd_readCount.1 108 = .ok (.invokevirtual 129, 3) := by decide +kernel
theorem d_Md_readCount_111 : decode q_mMd_readCount.1 111 = .ok (.bipush 63, 2) := by decide +kernel
theorem d_Md_readCount_113 : decode q_mMd_readCount.1 113 = .ok (.if_icmp .ne 7, 3) := by decide +kernel
theorem d_Md_readCount_116 : decode q_mMd_readCount.1 116 = .ok (.iconst 1, 1) := by decide +kernel
theorem d_Md_readCount_117 : decode q_mMd_readCount.1 117 = .ok (.goto 4, 3) := by decide +kernel
theorem d_Md_readCount_120 : decode q_mMd_readCount.1 120 = .ok (.iconst 0, 1) := by decide +kernel
theorem d_Md_readCount_121 : decode q_mMd_readCount.1 121 = .ok (.bastore, 1) := by decide +kernel
theorem d_Md_readCount_122 : decode q_mMd_readCount.1 122 = .ok (.aload_n 0, 1) := by decide +kernel
theorem d_Md_readCount_123 : decode q_mMd_readCount.1 123 = .ok (.aload_n 0, 1) := by decide +kernel
theorem d_Md_readCount_124 : decode q_mMd_readCount.1 124 = .ok (.getfield 39, 3) := by decide +kernel
theorem d_Md_readCount_127 : decode q_mMd_readCount.1 127 = .ok (.iload_n 1, 1) := by decide +kernel
theorem d_Md_readCount_128 : decode q_mMd_readCount.1 128 = .ok (.baload, 1) := by decide +kernel
theorem d_Md_readCount_129 : decode q_mMd_readCount.1 129 = .ok (.ifCond .eq 12, 3) := by decide +kernel
theorem d_Md_readCount_132 : decode q_mMd_readCount.1 132 = .ok (.aload_n 0, 1) := by decide +kernel
theorem d_Md_readCount_133 : decode q_mMd_readCount.1 133 = .ok (.getfield 126, 3) := by decide +kernel
theorem d_Md_readCount_136 : decode q_mMd_readCount.1 136 = .ok (.iconst 1, 1) := by decide +kernel
theorem d_Md_readCount_137 : decode q_mMd_readCount.1 137 = .ok (.iadd, 1) := by decide +kernel
theorem d_Md_readCount_138 : decode q_mMd_readCount.1 138 = .ok (.goto 7, 3) := by decide +kernel
theorem d_Md_readCount_141 : decode q_mMd_readCount.1 141 = .ok (.aload_n 0, 1) := by decide +kernel
theorem d_Md_readCount_142 : decode q_mMd_readCount.1 142 = .ok (.getfield 126, 3) := by decide +kernel
theorem d_Md_readCount_145 : decode q_mMd_readCount.1 145 = .ok (.putfield 126, 3) := by decide +kernel
theorem d_Md_readCount_148 : decode q_mMd_readCount.1 148 = .ok (.iconst 1, 1) := by decide +kernel
theorem d_Md_readCount_149 : decode q_mMd_readCount.1 149 = .ok (.ireturn, 1) := by decide +kernel
theorem d_Md_readBraces_0 : decode q_mMd_readBraces.1 0 = .ok (.aload_n 0, 1) := by decide +kernel
theorem d_Md_readBraces_1 : decode q_mMd_readBraces.1 1 = .ok (.aload_n 0, 1) := by decide +kernel
theorem d_Md_readBraces_2 : decode q_mMd_readBraces.1 2 = .ok (.getfield 126, 3) := by decide +kernel
theorem d_Md_readBraces_5 : decode q_mMd_readBraces.1 5 = .ok (.invokevirtual 129, 3) := by decide +kernel
theorem d_Md_readBraces_8 : decode q_mMd_readBraces.1 8 = .ok (.invokestatic 158, 3) := by decide +kernel
theorem d_Md_readBraces_11 : decode q_mMd_readBraces.1 11 = .ok (.ifCond .ne 5, 3) := by decide +kernel
theorem d_Md_readBraces_14 : decode q_mMd_readBraces.1 14 = .ok (.iconst 0, 1) := by decide +kernel
theorem d_Md_readBraces_15 : decode q_mMd_readBraces.1 15 = .ok (.ireturn, 1) := by decide +kernel
theorem d_Md_readBraces_16 : decode q_mMd_readBraces.1 16 = .ok (.aload_n 0, 1) := by decide +kernel
theorem d_Md_readBraces_17 : decode q_mMd_readBraces.1 17 = .ok (.getfield 33, 3) := by decide +kernel
theorem d_Md_readBraces_20 : decode q_mMd_readBraces.1 20 = .ok (.iload_n 1, 1) := by decide +kernel
theorem d_Md_readBraces_21 : decode q_mMd_readBraces.1 21 = .ok (.aload_n 0, 1) := by decide +kernel
theorem d_Md_readBraces_22 : decode q_mMd_readBraces.1 22 = .ok (.aload_n 0, 1) := by decide +kernel
theorem d_Md_readBraces_23 : decode q_mMd_readBraces.1 23 = .ok (.getfield 126, 3) := by decide +kernel
theorem d_Md_readBraces_26 : decode q_mMd_readBraces.1 26 = .ok (.invokevirtual 129, 3) := by decide +kernel
theorem d_Md_readBraces_29 : decode q_mMd_readBraces.1 29 = .ok (.bipush 48, 2) := by decide +kernel
theorem d_Md_readBraces_31 : decode q_mMd_readBraces.1 31 = .ok (.isub, 1) := by decide +kernel
theorem d_Md_readBraces_32 : decode q_mMd_readBraces.1 32 = .ok (.iastore, 1) := by decide +kernel
theorem d_Md_readBraces_33 : decode q_mMd_readBraces.1 33 = .ok (.aload_n 0, 1) := by decide +kernel
theorem d_Md_readBraces_34 : decode q_mMd_readBraces.1 34 = .ok (.dup, 1) := by decide +kernel
theorem d_Md_readBraces_35 : decode q_mMd_readBraces.1 35 = .ok (.getfield 126, 3) := by decide +kernel
theorem d_Md_readBraces_38 : decode q_mMd_readBraces.1 38 = .ok (.iconst 1, 1) := by decide +kernel
theorem d_Md_readBraces_39 : decode q_mMd_readBraces.1 39 = .ok (.iadd, 1) := by decide +kernel
theorem d_Md_readBraces_40 : decode q_mMd_readBraces.1 40 = .ok (.putfield 126, 3) := by decide +kernel
theorem d_Md_readBraces_43 : decode q_mMd_readBraces.1 43 = .ok (.aload_n 0, 1) := by decide +kernel
theorem d_Md_readBraces_44 : decode q_mMd_readBraces.1 44 = .ok (.aload_n 0, 1) := by decide +kernel
theorem d_Md_readBraces_45 : decode q_mMd_readBraces.1 45 = .ok (.getfield 126, 3) := by decide +kernel
theorem d_Md_readBraces_48 : decode q_mMd_readBraces.1 48 = .ok (.invokevirtual 129, 3) := by decide +kernel
theorem d_Md_readBraces_51 : decode q_mMd_readBraces.1 51 = .ok (.bipush 44, 2) := by decide +kernel
theorem d_Md_readBraces_53 : decode q_mMd_readBraces.1 53 = .ok (.if_icmp .ne 86, 3) := by decide +kernel
theorem d_Md_readBraces_56 : decode q_mMd_readBraces.1 56 = .ok (.aload_n 0, 1) := by decide +kernel
theorem d_Md_readBraces_57 : decode q_mMd_readBraces.1 57 = .ok (.dup, 1) := by decide +kernel
theorem d_Md_readBraces_58 : decode q_mMd_readBraces.1 58 = .ok (.getfield 126, 3) := by decide +kernel
theorem d_Md_readBraces_61 : decode q_mMd_readBraces.1 61 = .ok (.iconst 1, 1) := by decide +kernel
theorem d_Md_readBraces_62 : decode q_mMd_readBraces.1 62 = .ok (.iadd, 1) := by decide +kernel
theorem d_Md_readBraces_63 : decode q_mMd_readBraces.1 63 = .ok (.putfield 126, 3) := by decide +kernel
theorem d_Md_readBraces_66 : decode q_mMd_readBraces.1 66 = .ok (.aload_n 0, 1) := by decide +kernel
theorem d_Md_readBraces_67 : decode q_mMd_readBraces.1 67 = .ok (.getfield 30, 3) := by decide +kernel
theorem d_Md_readBraces_70 : decode q_mMd_readBraces.1 70 = .ok (.iload_n 1, 1) := by decide +kernel
theorem d_Md_readBraces_71 : decode q_mMd_readBraces.1 71 = .ok (.iconst 5, 1) := by decide +kernel
theorem d_Md_readBraces_72 : decode q_mMd_readBraces.1 72 = .ok (.iastore, 1) := by decide +kernel
theorem d_Md_readBraces_73 : decode q_mMd_readBraces.1 73 = .ok (.aload_n 0, 1) := by decide +kernel
theorem d_Md_readBraces_74 : decode q_mMd_readBraces.1 74 = .ok (.aload_n 0, 1) := by decide +kernel
theorem d_Md_readBraces_75 : decode q_mMd_readBraces.1 75 = .ok (.getfield 126, 3) := by decide +kernel
theorem d_Md_readBraces_78 : decode q_mMd_readBraces.1 78 = .ok (.invokevirtual 129, 3) := by decide +kernel
theorem d_Md_readBraces_81 : decode q_mMd_readBraces.1 81 = .ok (.invokestatic 158, 3) := by decide +kernel
theorem d_Md_readBraces_84 : decode q_mMd_readBraces.1 84 = .ok (.ifCond .eq 55, 3) := by decide +kernel
theorem d_Md_readBraces_87 : decode q_mMd_readBraces.1 87 = .ok (.aload_n 0, 1) := by decide +kernel
theorem d_Md_readBraces_88 : decode q_mMd_readBraces.1 88 = .ok (.getfield 36, 3) := by decide +kernel
theorem d_Md_readBraces_91 : decode q_mMd_readBraces.1 91 = .ok (.iload_n 1, 1) := by decide +kernel
theorem d_Md_readBraces_92 : decode q_mMd_readBraces.1 92 = .ok (.aload_n 0, 1) := by decide +kernel
theorem d_Md_readBraces_93 : decode q_mMd_readBraces.1 93 = .ok (.aload_n 0, 1) := by decide +kernel
theorem d_Md_readBraces_94 : decode q_mMd_readBraces.1 94 = .ok (.getfield 126, 3) := by decide +kernel
theorem d_Md_readBraces_97 : decode q_mMd_readBraces.1 97 = .ok (.invokevirtual 129, 3) := by decide +kernel
theorem d_Md_readBraces_100 : decode q_mMd_readBraces.1 100 = .ok (.bipush 48, 2) := by decide +kernel
theorem d_Md_readBraces_102 : decode q_mMd_readBraces.1 102 = .ok (.isub, 1) := by decide +kernel
theorem d_Md_readBraces_103 : decode q_mMd_readBraces.1 103 = .ok (.iastore, 1) := by decide +kernel
theorem d_Md_readBraces_104 : decode q_mMd_readBraces.1 104 = .ok (.aload_n 0, 1) := by decide +kernel
theorem d_Md_readBraces_105 : decode q_mMd_readBraces.1 105 = .ok (.getfield 30, 3) := by decide +kernel
theorem d_Md_readBraces_108 : decode q_mMd_readBraces.1 108 = .ok (.iload_n 1, 1) := by decide +kernel
theorem d_Md_readBraces_109 : decode q_mMd_readBraces.1 109 = .ok (.bipush 6, 2) := by decide +kernel
theorem d_Md_readBraces_111 : decode q_mMd_readBraces.1 111 = .ok (.iastore, 1) := by decide +kernel
theorem d_Md_readBraces_112 : decode q_mMd_readBraces.1 112 = .ok (.aload_n 0, 1) := by decide +kernel
theorem d_Md_readBraces_113 : decode q_mMd_readBraces.1 113 = .ok (.getfield 36, 3) := by decide +kernel
theorem d_Md_readBraces_116 : decode q_mMd_readBraces.1 116 = .ok (.iload_n 1, 1) := by decide +kernel
theorem d_Md_readBraces_117 : decode q_mMd_readBraces.1 117 = .ok (.iaload, 1) := by decide +kernel
theorem d_Md_readBraces_118 : decode q_mMd_readBraces.1 118 = .ok (.aload_n 0, 1) := by decide +kernel
theorem d_Md_readBraces_119 : decode q_mMd_readBraces.1 119 = .ok (.getfield 33, 3) := by decide +kernel
theorem d_Md_readBraces_122 : decode q_mMd_readBraces.1 122 = .ok (.iload_n 1, 1) := by decide +kernel
theorem d_Md_readBraces_123 : decode q_mMd_readBraces.1 123 = .ok (.iaload, 1) := by decide +kernel
theorem d_Md_readBraces_124 : decode q_mMd_readBraces.1 124 = .ok (.if_icmp .ge 5, 3) := by decide +kernel
theorem d_Md_readBraces_127 : decode q_mMd_readBraces.1 127 = .ok (.iconst 0, 1) := by decide +kernel
theorem d_Md_readBraces_128 : decode q_mMd_readBraces.1 128 = .ok (.ireturn, 1) := by decide +kernel
theorem d_Md_readBraces_129 : decode q_mMd_readBraces.1 129 = .ok (.aload_n 0, 1) := by decide +kernel
theorem d_Md_readBraces_130 : decode q_mMd_readBraces.1 130 = .ok (.dup, 1) := by decide +kernel
theorem d_Md_readBraces_131 : decode q_mMd_readBraces.1 131 = .ok (.getfield 126, 3) := by decide +kernel
theorem d_Md_readBraces_134 : decode q_mMd_readBraces.1 134 = .ok (.iconst 1, 1) := by decide +kernel
theorem d_Md_readBraces_135 : decode q_mMd_readBraces.1 135 = .ok (.iadd, 1) := by decide +kernel
theorem d_Md_readBraces_136 : decode q_mMd_readBraces.1 136 = .ok (.putfield 126, 3) := by decide +kernel
theorem d_Md_readBraces_139 : decode q_mMd_readBraces.1 139 = .ok (.aload_n 0, 1) := by decide +kernel
theorem d_Md_readBraces_140 : decode q_mMd_readBraces.1 140 = .ok (.aload_n 0, 1) := by decide +kernel
theorem d_Md_readBraces_141 : decode q_mMd_readBraces.1 141 = .ok (.getfield 126, 3) := by decide +kernel
theorem d_Md_readBraces_144 : decode q_mMd_readBraces.1 144 = .ok (.invokevirtual 129, 3) := by decide +kernel
theorem d_Md_readBraces_147 : decode q_mMd_readBraces.1 147 = .ok (.bipush 125, 2) := by decide +kernel
theorem d_Md_readBraces_149 : decode q_mMd_readBraces.1 149 = .ok (.if_icmp .ne 7, 3) := by decide +kernel
theorem d_Md_readBraces_152 : decode q_mMd_readBraces.1 152 = .ok (.iconst 1, 1) := by decide +kernel
theorem d_Md_readBraces_153 : decode q_mMd_readBraces.1 153 = .ok (.goto 4, 3) := by decide +kernel
theorem d_Md_readBraces_156 : decode q_mMd_readBraces.1 156 = .ok (.iconst 0, 1) := by decide +kernel
theorem d_Md_readBraces_157 : decode q_mMd_readBraces.1 157 = .ok (.istore_n 2, 1) := by decide +kernel
theorem d_Md_readBraces_158 : decode q_mMd_readBraces.1 158 = .ok (.aload_n 0, 1) := by decide +kernel
theorem d_Md_readBraces_159 : decode q_mMd_readBraces.1 159 = .ok (.iload_n 2, 1) := by decide +kernel
theorem d_Md_readBraces_160 : decode q_mMd_readBraces.1 160 = .ok (.ifCond .eq 12, 3) := by decide +kernel
theorem d_Md_readBraces_163 : decode q_mMd_readBraces.1 163 = .ok (.aload_n 0, 1) := by decide +kernel
theorem d_Md_readBraces_164 : decode q_mMd_readBraces.1 164 = .ok (.getfield 126, 3) := by decide +kernel
theorem d_Md_readBraces_167 : decode q_mMd_readBraces.1 167 = .ok (.iconst 1, 1) := by decide +kernel
theorem d_Md_readBraces_168 : decode q_mMd_readBraces.1 168 = .ok (.iadd, 1) := by decide +kernel
theorem d_Md_readBraces_169 : decode q_mMd_readBraces.1 169 = .ok (.goto 7, 3) := by decide +kernel
theorem d_Md_readBraces_172 : decode q_mMd_readBraces.1 172 = .ok (.aload_n 0, 1) := by decide +kernel
theorem d_Md_readBraces_173 : decode q_mMd_readBraces.1 173 = .ok (.getfield 126, 3) := by decide +kernel
theorem d_Md_readBraces_176 : decode q_mMd_readBraces.1 176 = .ok (.putfield 126, 3) := by decide +kernel
theorem d_Md_readBraces_179 : decode q_mMd_readBraces.1 179 = .ok (.iload_n 2, 1) := by decide +kernel
theorem d_Md_readBraces_180 : decode q_mMd_readBraces.1 180 = .ok (.ireturn, 1) := by decide +kernel
theorem d_Md_isDigit_0 : decode q_mMd_isDigit.1 0 = .ok (.iload_n 0, 1) := by decide +kernel
theorem d_Md_isDigit_1 : decode q_mMd_isDigit.1 1 = .ok (.bipush 48, 2) := by decide +kernel
theorem d_Md_isDigit_3 : decode q_mMd_isDigit.1 3 = .ok (.if_icmp .lt 13, 3) := by decide +kernel
theorem d_Md_isDigit_6 : decode q_mMd_isDigit.1 6 = .ok (.iload_n 0, 1) := by decide +kernel
theorem d_Md_isDigit_7 : decode q_mMd_isDigit.1 7 = .ok (.bipush 57, 2) := by decide +kernel
theorem d_Md_isDigit_9 : decode q_mMd_isDigit.1 9 = .ok (.if_icmp .gt 7, 3) := by decide +kernel
theorem d_Md_isDigit_12 : decode q_mMd_isDigit.1 12 = .ok (.iconst 1, 1) := by decide +kernel
theorem d_Md_isDigit_13 : decode q_mMd_isDigit.1 13 = .ok (.goto 4, 3) := by decide +kernel
theorem d_Md_isDigit_16 : decode q_mMd_isDigit.1 16 = .ok (.iconst 0, 1) := by decide +kernel
theorem d_Md_isDigit_17 : decode q_mMd_isDigit.1 17 = .ok (.ireturn, 1) := by decide +kernel
theorem d_Md_readSign_0 : decode q_mMd_readSign.1 0 = .ok (.aload_n 0, 1) := by decide +kernel
theorem d_Md_readSign_1 : decode q_mMd_readSign.1 1 = .ok (.aload_n 0, 1) := by decide +kernel
theorem d_Md_readSign_2 : decode q_mMd_readSign.1 2 = .ok (.getfield 126, 3) := by decide +kernel
theorem d_Md_readSign_5 : decode q_mMd_readSign.1 5 = .ok (.invokevirtual 129, 3) := by decide +kernel
theorem d_Md_readSign_8 : decode q_mMd_readSign.1 8 = .ok (.istore_n 2, 1) := by decide +kernel
theorem d_Md_readSign_9 : decode q_mMd_readSign.1 9 = .ok (.iload_n 2, 1) := by decide +kernel
theorem d_Md_readSign_10 : decode q_mMd_readSign.1 10 = .ok (.invokestatic 140, 3) := by decide +kernel
theorem d_Md_readSign_13 : decode q_mMd_readSign.1 13 = .ok (.ifCond .ne 23, 3) := by decide +kernel
theorem d_Md_readSign_16 : decode q_mMd_readSign.1 16 = .ok (.iload_n 2, 1) := by decide +kernel
theorem d_Md_readSign_17 : decode q_mMd_readSign.1 17 = .ok (.bipush 46, 2) := by decide +kernel
theorem d_Md_readSign_19 : decode q_mMd_readSign.1 19 = .ok (.if_icmp .eq 17, 3) := by decide +kernel
theorem d_Md_readSign_22 : decode q_mMd_readSign.1 22 = .ok (.iload_n 2, 1) := by decide +kernel
theorem d_Md_readSign_23 : decode q_mMd_readSign.1 23 = .ok (.bipush 92, 2) := by decide +kernel
theorem d_Md_readSign_25 : decode q_mMd_readSign.1 25 = .ok (.if_icmp .eq 11, 3) := by decide +kernel
theorem d_Md_readSign_28 : decode q_mMd_readSign.1 28 = .ok (.iload_n 2, 1) := by decide +kernel
theorem d_Md_readSign_29 : decode q_mMd_readSign.1 29 = .ok (.bipush 91, 2) := by decide +kernel
theorem d_Md_readSign_31 : decode q_mMd_readSign.1 31 = .ok (.if_icmp .eq 5, 3) := by decide +kernel
theorem d_Md_readSign_34 : decode q_mMd_readSign.1 34 = .ok (.iconst 0, 1) := by decide +kernel
theorem d_Md_readSign_35 : decode q_mMd_readSign.1 35 = .ok (.ireturn, 1) := by decide +kernel
theorem d_Md_readSign_36 : decode q_mMd_readSign.1 36 = .ok (.aload_n 0, 1) := by decide +kernel
theorem d_Md_readSign_37 : decode q_mMd_readSign.1 37 = .ok (.iconst 3, 1) := by decide +kernel
theorem d_Md_readSign_38 : decode q_mMd_readSign.1 38 = .ok (.iload_n 1, 1) := by decide +kernel
theorem d_Md_readSign_39 : decode q_mMd_readSign.1 39 = .ok (.invokevirtual 143, 3) := by decide +kernel
theorem d_Md_readSign_42 : decode q_mMd_readSign.1 42 = .ok (.istore_n 3, 1) := by decide +kernel
theorem d_Md_readSign_43 : decode q_mMd_readSign.1 43 = .ok (.aload_n 0, 1) := by decide +kernel
theorem d_Md_readSign_44 : decode q_mMd_readSign.1 44 = .ok (.invokevirtual 147, 3) := by decide +kernel
theorem d_Md_readSign_47 : decode q_mMd_readSign.1 47 = .ok (.istore 4, 2) := by decide +kernel
theorem d_Md_readSign_49 : decode q_mMd_readSign.1 49 = .ok (.aload_n 0, 1) := by decide +kernel
theorem d_Md_readSign_50 : decode q_mMd_readSign.1 50 = .ok (.getfield 30, 3) := by decide +kernel
theorem d_Md_readSign_53 : decode q_mMd_readSign.1 53 = .ok (.iload_n 3, 1) := by decide +kernel
theorem d_Md_readSign_54 : decode q_mMd_readSign.1 54 = .ok (.iload 4, 2) := by decide +kernel
theorem d_Md_readSign_56 : decode q_mMd_readSign.1 56 = .ok (.iastore, 1) := by decide +kernel
theorem d_Md_readSign_57 : decode q_mMd_readSign.1 57 = .ok (.aload_n 0, 1) := by decide +kernel
theorem d_Md_readSign_58 : decode q_mMd_readSign.1 58 = .ok (.dup, 1) := by decide +kernel
theorem d_Md_readSign_59 : decode q_mMd_readSign.1 59 = .ok (.getfield 126, 3) := by decide +kernel
theorem d_Md_readSign_62 : decode q_mMd_readSign.1 62 = .ok (.iconst 1, 1) := by decide +kernel
theorem d_Md_readSign_63 : decode q_mMd_readSign.1 63 = .ok (.iadd, 1) := by decide +kernel
theorem d_Md_readSign_64 : decode q_mMd_readSign.1 64 = .ok (.putfield 126, 3) := by decide +kernel
theorem d_Md_readSign_67 : decode q_mMd_readSign.1 67 = .ok (.iload_n 2, 1) := by decide +kernel
theorem d_Md_readSign_68 : decode q_mMd_readSign.1 68 = .ok (.bipush 91, 2) := by decide +kernel
theorem d_Md_readSign_70 : decode q_mMd_readSign.1 70 = .ok (.if_icmp .ne 10, 3) := by decide +kernel
theorem d_Md_readSign_73 : decode q_mMd_readSign.1 73 = .ok (.aload_n 0, 1) := by decide +kernel
theorem d_Md_readSign_74 : decode q_mMd_readSign.1 74 = .ok (.iload 4, 2) := by decide +kernel
theorem d_Md_readSign_76 : decode q_mMd_readSign.1 76 = .ok (.invokevirtual 151, 3) := by decide +kernel
theorem d_Md_readSign_79 : decode q_mMd_readSign.1 79 = .ok (.ireturn, 1) := by decide +kernel
theorem d_Md_readSign_80 : decode q_mMd_readSign.1 80 = .ok (.iload_n 2, 1) := by decide +kernel
theorem d_Md_readSign_81 : decode q_mMd_readSign.1 81 = .ok (.bipush 92, 2) := by decide +kernel
theorem d_Md_readSign_83 : decode q_mMd_readSign.1 83 = .ok (.if_icmp .ne 43, 3) := by decide +kernel
theorem d_Md_readSign_86 : decode q_mMd_readSign.1 86 = .ok (.aload_n 0, 1) := by decide +kernel
theorem d_Md_readSign_87 : decode q_mMd_readSign.1 87 = .ok (.aload_n 0, 1) := by decide +kernel
theorem d_Md_readSign_88 : decode q_mMd_readSign.1 88 = .ok (.getfield 126, 3) := by decide +kernel
theorem d_Md_readSign_91 : decode q_mMd_readSign.1 91 = .ok (.invokevirtual 129, 3) := by decide +kernel
theorem d_Md_readSign_94 : decode q_mMd_readSign.1 94 = .ok (.ifCond .ne 5, 3) := by decide +kernel
theorem d_Md_readSign_97 : decode q_mMd_readSign.1 97 = .ok (.iconst 0, 1) := by decide +kernel
theorem d_Md_readSign_98 : decode q_mMd_readSign.1 98 = .ok (.ireturn, 1) := by decide +kernel
theorem d_Md_readSign_99 : decode q_mMd_readSign.1 99 = .ok (.aload_n 0, 1) := by decide +kernel
theorem d_Md_readSign_100 : decode q_mMd_readSign.1 100 = .ok (.iload 4, 2) := by decide +kernel
theorem d_Md_readSign_102 : decode q_mMd_readSign.1 102 = .ok (.aload_n 0, 1) := by decide +kernel
theorem d_Md_readSign_103 : decode q_mMd_readSign.1 103 = .ok (.aload_n 0, 1) := by decide +kernel
theorem d_Md_readSign_104 : decode q_mMd_readSign.1 104 = .ok (.getfield 126, 3) := by decide +kernel
theorem d_Md_readSign_107 : decode q_mMd_readSign.1 107 = .ok (.invokevirtual 129, 3) := by decide +kernel
theorem d_Md_readSign_110 : decode q_mMd_readSign.1 110 = .ok (.invokevirtual 132, 3) := by decide +kernel
theorem d_Md_readSign_113 : decode q_mMd_readSign.1 113 = .ok (.aload_n 0, 1) := by decide +kernel
theorem d_Md_readSign_114 : decode q_mMd_readSign.1 114 = .ok (.dup, 1) := by decide +kernel
theorem d_Md_readSign_115 : decode q_mMd_readSign.1 115 = .ok (.getfield 126, 3) := by decide +kernel
theorem d_Md_readSign_118 : decode q_mMd_readSign.1 118 = .ok (.iconst 1, 1) := by decide +kernel
theorem d_Md_readSign_119 : decode q_mMd_readSign.1 119 = .ok (.iadd, 1) := by decide +kernel
theorem d_Md_readSign_120 : decode q_mMd_readSign.1 120 = .ok (.putfield 126, 3) := by decide +kernel
theorem d_Md_readSign_123 : decode q_mMd_readSign.1 123 = .ok (.goto 33, 3) := by decide +kernel
theorem d_Md_readSign_126 : decode q_mMd_readSign.1 126 = .ok (.aload_n 0, 1) := by decide +kernel
theorem d_Md_readSign_127 : decode q_mMd_readSign.1 127 = .ok (.iload 4, 2) := by decide +kernel
theorem d_Md_readSign_129 : decode q_mMd_readSign.1 129 = .ok (.iload_n 2, 1) := by decide +kernel
theorem d_Md_readSign_130 : decode q_mMd_readSign.1 130 = .ok (.bipush 46, 2) := by decide +kernel
theorem d_Md_readSign_132 : decode q_mMd_readSign.1 132 = .ok (.if_icmp .ne 7, 3) := by decide +kernel
theorem d_Md_readSign_135 : decode q_mMd_readSign.1 135 = .ok (.iconst 0, 1) := by decide +kernel
theorem d_Md_readSign_136 : decode q_mMd_readSign.1 136 = .ok (.goto 4, 3) := by decide +kernel
theorem d_Md_readSign_139 : decode q_mMd_readSign.1 139 = .ok (.iload_n 2, 1) := by decide +kernel
theorem d_Md_readSign_140 : decode q_mMd_readSign.1 140 = .ok (.iload_n 2, 1) := by decide +kernel
theorem d_Md_readSign_141 : decode q_mMd_readSign.1 141 = .ok (.bipush 46, 2) := by decide +kernel
theorem d_Md_readSign_143 : decode q_mMd_readSign.1 143 = .ok (.if_icmp .ne 9, 3) := by decide +kernel
theorem d_Md_readSign_146 : decode q_mMd_readSign.1 146 = .ok (.sipush 255, 3) := by decide +kernel
theorem d_Md_readSign_149 : decode q_mMd_readSign.1 149 = .ok (.goto 4, 3) := by decide +kernel
theorem d_Md_readSign_152 : decode q_mMd_readSign.1 152 = .ok (.iload_n 2, 1) := by decide +kernel
theorem d_Md_readSign_153 : decode q_mMd_readSign.1 153 = .ok (.invokevirtual 118, 3) := by decide +kernel
theorem d_Md_readSign_156 : decode q_mMd_readSign.1 156 = .ok (.iconst 1, 1) := by decide +kernel
theorem d_Md_readSign_157 : decode q_mMd_readSign.1 157 = .ok (.ireturn, 1) := by decide +kernel
theorem d_Md_isPlain_0 : decode q_mMd_isPlain.1 0 = .ok (.iload_n 0, 1) := by decide +kernel
theorem d_Md_isPlain_1 : decode q_mMd_isPlain.1 1 = .ok (.bipush 91, 2) := by decide +kernel
theorem d_Md_isPlain_3 : decode q_mMd_isPlain.1 3 = .ok (.if_icmp .eq 33, 3) := by decide +kernel
theorem d_Md_isPlain_6 : decode q_mMd_isPlain.1 6 = .ok (.iload_n 0, 1) := by decide +kernel
theorem d_Md_isPlain_7 : decode q_mMd_isPlain.1 7 = .ok (.bipush 93, 2) := by decide +kernel
theorem d_Md_isPlain_9 : decode q_mMd_isPlain.1 9 = .ok (.if_icmp .eq 27, 3) := by decide +kernel
theorem d_Md_isPlain_12 : decode q_mMd_isPlain.1 12 = .ok (.iload_n 0, 1) := by decide +kernel
theorem d_Md_isPlain_13 : decode q_mMd_isPlain.1 13 = .ok (.bipush 40, 2) := by decide +kernel
theorem d_Md_isPlain_15 : decode q_mMd_isPlain.1 15 = .ok (.if_icmp .eq 21, 3) := by decide +kernel
theorem d_Md_isPlain_18 : decode q_mMd_isPlain.1 18 = .ok (.iload_n 0, 1) := by decide +kernel
theorem d_Md_isPlain_19 : decode q_mMd_isPlain.1 19 = .ok (.bipush 41, 2) := by decide +kernel
theorem d_Md_isPlain_21 : decode q_mMd_isPlain.1 21 = .ok (.if_icmp .eq 15, 3) := by decide +kernel
theorem d_Md_isPlain_24 : decode q_mMd_isPlain.1 24 = .ok (.iload_n 0, 1) := by decide +kernel
theorem d_Md_isPlain_25 : decode q_mMd_isPlain.1 25 = .ok (.bipush 123, 2) := by decide +kernel
theorem d_Md_isPlain_27 : decode q_mMd_isPlain.1 27 = .ok (.if_icmp .eq 9, 3) := by decide +kernel
theorem d_Md_isPlain_30 : decode q_mMd_isPlain.1 30 = .ok (.iload_n 0, 1) := by decide +kernel
theorem d_Md_isPlain_31 : decode q_mMd_isPlain.1 31 = .ok (.bipush 125, 2) := by decide +kernel
theorem d_Md_isPlain_33 : decode q_mMd_isPlain.1 33 = .ok (.if_icmp .ne 7, 3) := by decide +kernel
theorem d_Md_isPlain_36 : decode q_mMd_isPlain.1 36 = .ok (.iconst 1, 1) := by decide +kernel
theorem d_Md_isPlain_37 : decode q_mMd_isPlain.1 37 = .ok (.goto 4, 3) := by decide +kernel
theorem d_Md_isPlain_40 : decode q_mMd_isPlain.1 40 = .ok (.iconst 0, 1) := by decide +kernel
theorem d_Md_isPlain_41 : decode q_mMd_isPlain.1 41 = .ok (.istore_n 1, 1) := by decide +kernel
theorem d_Md_isPlain_42 : decode q_mMd_isPlain.1 42 = .ok (.iload_n 0, 1) := by decide +kernel
theorem d_Md_isPlain_43 : decode q_mMd_isPlain.1 43 = .ok (.ifCond .le 47, 3) := by decide +kernel
theorem d_Md_isPlain_46 : decode q_mMd_isPlain.1 46 = .ok (.iload_n 1, 1) := by decide +kernel
theorem d_Md_isPlain_47 : decode q_mMd_isPlain.1 47 = .ok (.ifCond .ne 43, 3) := by decide +kernel
theorem d_Md_isPlain_50 : decode q_mMd_isPlain.1 50 = .ok (.iload_n 0, 1) := by decide +kernel
theorem d_Md_isPlain_51 : decode q_mMd_isPlain.1 51 = .ok (.bipush 92, 2) := by decide +kernel
theorem d_Md_isPlain_53 : decode q_mMd_isPlain.1 53 = .ok (.if_icmp .eq 37, 3) := by decide +kernel
theorem d_Md_isPlain_56 : decode q_mMd_isPlain.1 56 = .ok (.iload_n 0, 1) := by decide +kernel
theorem d_Md_isPlain_57 : decode q_mMd_isPlain.1 57 = .ok (.bipush 46, 2) := by decide +kernel
theorem d_Md_isPlain_59 : decode q_mMd_isPlain.1 59 = .ok (.if_icmp .eq 31, 3) := by decide +kernel
theorem d_Md_isPlain_62 : decode q_mMd_isPlain.1 62 = .ok (.iload_n 0, 1) := by decide +kernel
theorem d_Md_isPlain_63 : decode q_mMd_isPlain.1 63 = .ok (.bipush 42, 2) := by decide +kernel
theorem d_Md_isPlain_65 : decode q_mMd_isPlain.1 65 = .ok (.if_icmp .eq 25, 3) := by decide +kernel
theorem d_Md_isPlain_68 : decode q_mMd_isPlain.1 68 = .ok (.iload_n 0, 1) := by decide +kernel
theorem d_Md_isPlain_69 : decode q_mMd_isPlain.1 69 = .ok (.bipush 43, 2) := by decide +kernel
theorem d_Md_isPlain_71 : decode q_mMd_isPlain.1 71 = .ok (.if_icmp .eq 19, 3) := by decide +kernel
theorem d_Md_isPlain_74 : decode q_mMd_isPlain.1 74 = .ok (.iload_n 0, 1) := by decide +kernel
theorem d_Md_isPlain_75 : decode q_mMd_isPlain.1 75 = .ok (.bipush 63, 2) := by decide +kernel
theorem d_Md_isPlain_77 : decode q_mMd_isPlain.1 77 = .ok (.if_icmp .eq 13, 3) := by decide +kernel
theorem d_Md_isPlain_80 : decode q_mMd_isPlain.1 80 = .ok (.iload_n 0, 1) := by decide +kernel
theorem d_Md_isPlain_81 : decode q_mMd_isPlain.1 81 = .ok (.bipush 124, 2) := by decide +kernel
theorem d_Md_isPlain_83 : decode q_mMd_isPlain.1 83 = .ok (.if_icmp .eq 7, 3) := by decide +kernel
theorem d_Md_isPlain_86 : decode q_mMd_isPlain.1 86 = .ok (.iconst 1, 1) := by decide +kernel
theorem d_Md_isPlain_87 : decode q_mMd_isPlain.1 87 = .ok (.goto 4, 3) := by decide +kernel
theorem d_Md_isPlain_90 : decode q_mMd_isPlain.1 90 = .ok (.iconst 0, 1) := by decide +kernel
theorem d_Md_isPlain_91 : decode q_mMd_isPlain.1 91 = .ok (.ireturn, 1) := by decide +kernel
theorem d_Md_newSet_0 : decode q_mMd_newSet.1 0 = .ok (.iconst 0, 1) := by decide +kernel
theorem d_Md_newSet_1 : decode q_mMd_newSet.1 1 = .ok (.istore_n 1, 1) := by decide +kernel
theorem d_Md_newSet_2 : decode q_mMd_newSet.1 2 = .ok (.iload_n 1, 1) := by decide +kernel
theorem d_Md_newSet_3 : decode q_mMd_newSet.1 3 = .ok (.bipush 8, 2) := by decide +kernel
theorem d_Md_newSet_5 : decode q_mMd_newSet.1 5 = .ok (.if_icmp .ge 24, 3) := by decide +kernel
theorem d_Md_newSet_8 : decode q_mMd_newSet.1 8 = .ok (.aload_n 0, 1) := by decide +kernel
theorem d_Md_newSet_9 : decode q_mMd_newSet.1 9 = .ok (.getfield 55, 3) := by decide +kernel
theorem d_Md_newSet_12 : decode q_mMd_newSet.1 12 = .ok (.bipush 8, 2) := by decide +kernel
theorem d_Md_newSet_14 : decode q_mMd_newSet.1 14 = .ok (.aload_n 0, 1) := by decide +kernel
theorem d_Md_newSet_15 : decode q_mMd_newSet.1 15 = .ok (.getfield 115, 3) := by decide +kernel
theorem d_Md_newSet_18 : decode q_mMd_newSet.1 18 = .ok (.imul, 1) := by decide +kernel
theorem d_Md_newSet_19 : decode q_mMd_newSet.1 19 = .ok (.iload_n 1, 1) := by decide +kernel
theorem d_Md_newSet_20 : decode q_mMd_newSet.1 20 = .ok (.iadd, 1) := by decide +kernel
theorem d_Md_newSet_21 : decode q_mMd_newSet.1 21 = .ok (.iconst 0, 1) := by decide +kernel
theorem d_Md_newSet_22 : decode q_mMd_newSet.1 22 = .ok (.iastore, 1) := by decide +kernel
theorem d_Md_newSet_23 : decode q_mMd_newSet.1 23 = .ok (.iinc 1 1, 3) := by decide +kernel
theorem d_Md_newSet_26 : decode q_mMd_newSet.1 26 = .ok (.goto (-24), 3) := by decide +kernel
theorem d_Md_newSet_29 : decode q_mMd_newSet.1 29 = .ok (.aload_n 0, 1) := by decide +kernel
theorem d_Md_newSet_30 : decode q_mMd_newSet.1 30 = .ok (.dup, 1) := by decide +kernel
theorem d_Md_newSet_31 : decode q_mMd_newSet.1 31 = .ok (.getfield 115, 3) := by decide +kernel
theorem d_Md_newSet_34 : decode q_mMd_newSet.1 34 = .ok (.iconst 1, 1) := by decide +kernel
theorem d_Md_newSet_35 : decode q_mMd_newSet.1 35 = .ok (.iadd, 1) := by decide +kernel
theorem d_Md_newSet_36 : decode q_mMd_newSet.1 36 = .ok (.putfield 115, 3) := by decide +kernel
theorem d_Md_newSet_39 : decode q_mMd_newSet.1 39 = .ok (.aload_n 0, 1) := by decide +kernel
theorem d_Md_newSet_40 : decode q_mMd_newSet.1 40 = .ok (.getfield 115, 3) := by decide +kernel
theorem d_Md_newSet_43 : decode q_mMd_newSet.1 43 = .ok (.iconst 1, 1) := by decide +kernel
theorem d_Md_newSet_44 : decode q_mMd_newSet.1 44 = .ok (.isub, 1) := by decide +kernel
theorem d_Md_newSet_45 : decode q_mMd_newSet.1 45 = .ok (.ireturn, 1) := by decide +kernel
theorem d_Md_readSet_0 : decode q_mMd_readSet.1 0 = .ok (.aload_n 0, 1) := by decide +kernel
theorem d_Md_readSet_1 : decode q_mMd_readSet.1 1 = .ok (.aload_n 0, 1) := by decide +kernel
theorem d_Md_readSet_2 : decode q_mMd_readSet.1 2 = .ok (.getfield 126, 3) := by decide +kernel
theorem d_Md_readSet_5 : decode q_mMd_readSet.1 5 = .ok (.invokevirtual 129, 3) := by decide +kernel
theorem d_Md_readSet_8 : decode q_mMd_readSet.1 8 = .ok (.bipush 94, 2) := by decide +kernel
theorem d_Md_readSet_10 : decode q_mMd_readSet.1 10 = .ok (.if_icmp .ne 7, 3) := by decide +kernel
theorem d_Md_readSet_13 : decode q_mMd_readSet.1 13 = .ok (.iconst 1, 1) := by decide +kernel
theorem d_Md_readSet_14 : decode q_mMd_readSet.1 14 = .ok (.goto 4, 3) := by decide +kernel
theorem d_Md_readSet_17 : decode q_mMd_readSet.1 17 = .ok (.iconst 0, 1) := by decide +kernel
theorem d_Md_readSet_18 : decode q_mMd_readSet.1 18 = .ok (.istore_n 2, 1) := by decide +kernel
theorem d_Md_readSet_19 : decode q_mMd_readSet.1 19 = .ok (.aload_n 0, 1) := by decide +kernel
theorem d_Md_readSet_20 : decode q_mMd_readSet.1 20 = .ok (.iload_n 2, 1) := by decide +kernel
theorem d_Md_readSet_21 : decode q_mMd_readSet.1 21 = .ok (.ifCond .eq 12, 3) := by decide +kernel
theorem d_Md_readSet_24 : decode q_mMd_readSet.1 24 = .ok (.aload_n 0, 1) := by decide +kernel
theorem d_Md_readSet_25 : decode q_mMd_readSet.1 25 = .ok (.getfield 126, 3) := by decide +kernel
theorem d_Md_readSet_28 : decode q_mMd_readSet.1 28 = .ok (.iconst 1, 1) := by decide +kernel
theorem d_Md_readSet_29 : decode q_mMd_readSet.1 29 = .ok (.iadd, 1) := by decide +kernel
theorem d_Md_readSet_30 : decode q_mMd_readSet.1 30 = .ok (.goto 7, 3) := by decide +kernel
theorem d_Md_readSet_33 : decode q_mMd_readSet.1 33 = .ok (.aload_n 0, 1) := by decide +kernel
theorem d_Md_readSet_34 : decode q_mMd_readSet.1 34 = .ok (.getfield 126, 3) := by decide +kernel
theorem d_Md_readSet_37 : decode q_mMd_readSet.1 37 = .ok (.putfield 126, 3) := by decide +kernel
theorem d_Md_readSet_40 : decode q_mMd_readSet.1 40 = .ok (.iconst 0, 1) := by decide +kernel
theorem d_Md_readSet_41 : decode q_mMd_readSet.1 41 = .ok (.istore_n 3, 1) := by decide +kernel
theorem d_Md_readSet_42 : decode q_mMd_readSet.1 42 = .ok (.iload_n 3, 1) := by decide +kernel
theorem d_Md_readSet_43 : decode q_mMd_readSet.1 43 = .ok (.bipush 48, 2) := by decide +kernel
theorem d_Md_readSet_45 : decode q_mMd_readSet.1 45 = .ok (.if_icmp .ge 185, 3) := by decide +kernel
theorem d_Md_readSet_48 : decode q_mMd_readSet.1 48 = .ok (.aload_n 0, 1) := by decide +kernel
theorem d_Md_readSet_49 : decode q_mMd_readSet.1 49 = .ok (.aload_n 0, 1) := by decide +kernel
theorem d_Md_readSet_50 : decode q_mMd_readSet.1 50 = .ok (.getfield 126, 3) := by decide +kernel
theorem d_Md_readSet_53 : decode q_mMd_readSet.1 53 = .ok (.invokevirtual 129, 3) := by decide +kernel
theorem d_Md_readSet_56 : decode q_mMd_readSet.1 56 = .ok (.bipush 93, 2) := by decide +kernel
theorem d_Md_readSet_58 : decode q_mMd_readSet.1 58 = .ok (.if_icmp .ne 7, 3) := by decide +kernel
theorem d_Md_readSet_61 : decode q_mMd_readSet.1 61 = .ok (.iload_n 3, 1) := by decide +kernel
theorem d_Md_readSet_62 : decode q_mMd_readSet.1 62 = .ok (.ifCond .ne 168, 3) := by decide +kernel
theorem d_Md_readSet_65 : decode q_mMd_readSet.1 65 = .ok (.aload_n 0, 1) := by decide +kernel
theorem d_Md_readSet_66 : decode q_mMd_readSet.1 66 = .ok (.aload_n 0, 1) := by decide +kernel
theorem d_Md_readSet_67 : decode q_mMd_readSet.1 67 = .ok (.getfield 126, 3) := by decide +kernel
theorem d_Md_readSet_70 : decode q_mMd_readSet.1 70 = .ok (.invokevirtual 129, 3) := by decide +kernel
theorem d_Md_readSet_73 : decode q_mMd_readSet.1 73 = .ok (.istore 4, 2) := by decide +kernel
theorem d_Md_readSet_75 : decode q_mMd_readSet.1 75 = .ok (.iload 4, 2) := by decide +kernel
theorem d_Md_readSet_77 : decode q_mMd_readSet.1 77 = .ok (.bipush 92, 2) := by decide +kernel
theorem d_Md_readSet_79 : decode q_mMd_readSet.1 79 = .ok (.if_icmp .ne 52, 3) := by decide +kernel
theorem d_Md_readSet_82 : decode q_mMd_readSet.1 82 = .ok (.aload_n 0, 1) := by decide +kernel
theorem d_Md_readSet_83 : decode q_mMd_readSet.1 83 = .ok (.dup, 1) := by decide +kernel
theorem d_Md_readSet_84 : decode q_mMd_readSet.1 84 = .ok (.getfield 126, 3) := by decide +kernel
theorem d_Md_readSet_87 : decode q_mMd_readSet.1 87 = .ok (.iconst 1, 1) := by decide +kernel
theorem d_Md_readSet_88 : decode q_mMd_readSet.1 88 = .ok (.iadd, 1) := by decide +kernel
theorem d_Md_readSet_89 : decode q_mMd_readSet.1 89 = .ok (.putfield 126, 3) := by decide +kernel
theorem d_Md_readSet_92 : decode q_mMd_readSet.1 92 = .ok (.aload_n 0, 1) := by decide +kernel
theorem d_Md_readSet_93 : decode q_mMd_readSet.1 93 = .ok (.aload_n 0, 1) := by decide +kernel
theorem d_Md_readSet_94 : decode q_mMd_readSet.1 94 = .ok (.getfield 126, 3) := by decide +kernel
theorem d_Md_readSet_97 : decode q_mMd_readSet.1 97 = .ok (.invokevirtual 129, 3) := by decide +kernel
theorem d_Md_readSet_100 : decode q_mMd_readSet.1 100 = .ok (.ifCond .ne 5, 3) := by decide +kernel
theorem d_Md_readSet_103 : decode q_mMd_readSet.1 103 = .ok (.iconst 0, 1) := by decide +kernel
theorem d_Md_readSet_104 : decode q_mMd_readSet.1 104 = .ok (.ireturn, 1) := by decide +kernel
theorem d_Md_readSet_105 : decode q_mMd_readSet.1 105 = .ok (.aload_n 0, 1) := by decide +kernel
theorem d_Md_readSet_106 : decode q_mMd_readSet.1 106 = .ok (.iload_n 1, 1) := by decide +kernel
theorem d_Md_readSet_107 : decode q_mMd_readSet.1 107 = .ok (.aload_n 0, 1) := by decide +kernel
theorem d_Md_readSet_108 : decode q_mMd_readSet.1 108 = .ok (.aload_n 0, 1) := by decide +kernel
theorem d_Md_readSet_109 : decode q_mMd_readSet.1 109 = .ok (.getfield 126, 3) := by decide +kernel
theorem d_Md_readSet_112 : decode q_mMd_readSet.1 112 = .ok (.invokevirtual 129, 3) := by decide +kernel
theorem d_Md_readSet_115 : decode q_mMd_readSet.1 115 = .ok (.invokevirtual 132, 3) := by decide +kernel
theorem d_Md_readSet_118 : decode q_mMd_readSet.1 118 = .ok (.aload_n 0, 1) := by decide +kernel
theorem d_Md_readSet_119 : decode q_mMd_readSet.1 119 = .ok (.dup, 1) := by decide +kernel
theorem d_Md_readSet_120 : decode q_mMd_readSet.1 120 = .ok (.getfield 126, 3) := by decide +kernel
theorem d_Md_readSet_123 : decode q_mMd_readSet.1 123 = .ok (.iconst 1, 1) := by decide +kernel
theorem d_Md_readSet_124 : decode q_mMd_readSet.1 124 = .ok (.iadd, 1) := by decide +kernel
theorem d_Md_readSet_125 : decode q_mMd_readSet.1 125 = .ok (.putfield 126, 3) := by decide +kernel
theorem d_Md_readSet_128 : decode q_mMd_readSet.1 128 = .ok (.goto 96, 3) := by decide +kernel
theorem d_Md_readSet_131 : decode q_mMd_readSet.1 131 = .ok (.iload 4, 2) := by decide +kernel
theorem d_Md_readSet_133 : decode q_mMd_readSet.1 133 = .ok (.invokestatic 136, 3) := by decide +kernel
theorem d_Md_readSet_136 : decode q_mMd_readSet.1 136 = .ok (.ifCond .ne 5, 3) := by decide +kernel
theorem d_Md_readSet_139 : decode q_mMd_readSet.1 139 = .ok (.iconst 0, 1) := by decide +kernel
theorem d_Md_readSet_140 : decode q_mMd_readSet.1 140 = .ok (.ireturn, 1) := by decide +kernel
theorem d_Md_readSet_141 : decode q_mMd_readSet.1 141 = .ok (.aload_n 0, 1) := by decide +kernel
theorem d_Md_readSet_142 : decode q_mMd_readSet.1 142 = .ok (.dup, 1) := by decide +kernel
theorem d_Md_readSet_143 : decode q_mMd_readSet.1 143 = .ok (.getfield 126, 3) := by decide +kernel
theorem d_Md_readSet_146 : decode q_mMd_readSet.1 146 = .ok (.iconst 1, 1) := by decide +kernel
theorem d_Md_readSet_147 : decode q_mMd_readSet.1 147 = .ok (.iadd, 1) := by decide +kernel
theorem d_Md_readSet_148 : decode q_mMd_readSet.1 148 = .ok (.putfield 126, 3) := by decide +kernel
theorem d_Md_readSet_151 : decode q_mMd_readSet.1 151 = .ok (.iload 4, 2) := by decide +kernel
theorem d_Md_readSet_153 : decode q_mMd_readSet.1 153 = .ok (.istore 5, 2) := by decide +kernel
theorem d_Md_readSet_155 : decode q_mMd_readSet.1 155 = .ok (.aload_n 0, 1) := by decide +kernel
theorem d_Md_readSet_156 : decode q_mMd_readSet.1 156 = .ok (.aload_n 0, 1) := by decide +kernel
theorem d_Md_readSet_157 : decode q_mMd_readSet.1 157 = .ok (.getfield 126, 3) := by decide +kernel
theorem d_Md_readSet_160 : decode q_mMd_readSet.1 160 = .ok (.invokevirtual 129, 3) := by decide +kernel
theorem d_Md_readSet_163 : decode q_mMd_readSet.1 163 = .ok (.bipush 45, 2) := by decide +kernel
theorem d_Md_readSet_165 : decode q_mMd_readSet.1 165 = .ok (.if_icmp .ne 50, 3) := by decide +kernel
theorem d_Md_readSet_168 : decode q_mMd_readSet.1 168 = .ok (.aload_n 0, 1) := by decide +kernel
theorem d_Md_readSet_169 : decode q_mMd_readSet.1 169 = .ok (.dup, 1) := by decide +kernel
theorem d_Md_readSet_170 : decode q_mMd_readSet.1 170 = .ok (.getfield 126, 3) := by decide +kernel
theorem d_Md_readSet_173 : decode q_mMd_readSet.1 173 = .ok (.iconst 1, 1) := by decide +kernel
theorem d_Md_readSet_174 : decode q_mMd_readSet.1 174 = .ok (.iadd, 1) := by decide +kernel
theorem d_Md_readSet_175 : decode q_mMd_readSet.1 175 = .ok (.putfield 126, 3) := by decide +kernel
theorem d_Md_readSet_178 : decode q_mMd_readSet.1 178 = .ok (.aload_n 0, 1) := by decide +kernel
theorem d_Md_readSet_179 : decode q_mMd_readSet.1 179 = .ok (.aload_n 0, 1) := by decide +kernel
theorem d_Md_readSet_180 : decode q_mMd_readSet.1 180 = .ok (.getfield 126, 3) := by decide +kernel
theorem d_Md_readSet_183 : decode q_mMd_readSet.1 183 = .ok (.invokevirtual 129, 3) := by decide +kernel
theorem d_Md_readSet_186 : decode q_mMd_readSet.1 186 = .ok (.istore 5, 2) := by decide +kernel
theorem d_Md_readSet_188 : decode q_mMd_readSet.1 188 = .ok (.iload 5, 2) := by decide +kernel
theorem d_Md_readSet_190 : decode q_mMd_readSet.1 190 = .ok (.invokestatic 136, 3) := by decide +kernel
theorem d_Md_readSet_193 : decode q_mMd_readSet.1 193 = .ok (.ifCond .eq 10, 3) := by decide +kernel
theorem d_Md_readSet_196 : decode q_mMd_readSet.1 196 = .ok (.iload 5, 2) := by decide +kernel
theorem d_Md_readSet_198 : decode q_mMd_readSet.1 198 = .ok (.iload 4, 2) := by decide +kernel
theorem d_Md_readSet_200 : decode q_mMd_readSet.1 200 = .ok (.if_icmp .ge 5, 3) := by decide +kernel
theorem d_Md_readSet_203 : decode q_mMd_readSet.1 203 = .ok (.iconst 0, 1) := by decide +kernel
theorem d_Md_readSet_204 : decode q_mMd_readSet.1 204 = .ok (.ireturn, 1) := by decide +kernel
theorem d_Md_readSet_205 : decode q_mMd_readSet.1 205 = .ok (.aload_n 0, 1) := by decide +kernel
theorem d_Md_readSet_206 : decode q_mMd_readSet.1 206 = .ok (.dup, 1) := by decide +kernel
theorem d_Md_readSet_207 : decode q_mMd_readSet.1 207 = .ok (.getfield 126, 3) := by decide +kernel
theorem d_Md_readSet_210 : decode q_mMd_readSet.1 210 = .ok (.iconst 1, 1) := by decide +kernel
theorem d_Md_readSet_211 : decode q_mMd_readSet.1 211 = .ok (.iadd, 1) := by decide +kernel
theorem d_Md_readSet_212 : decode q_mMd_readSet.1 212 = .ok (.putfield 126, 3) := by decide +kernel
theorem d_Md_readSet_215 : decode q_mMd_readSet.1 215 = .ok (.aload_n 0, 1) := by decide +kernel
theorem d_Md_readSet_216 : decode q_mMd_readSet.1 216 = .ok (.iload_n 1, 1) := by decide +kernel
theorem d_Md_readSet_217 : decode q_mMd_readSet.1 217 = .ok (.iload 4, 2) := by decide +kernel
theorem d_Md_readSet_219 : decode q_mMd_readSet.1 219 = .ok (.iload 5, 2) := by decide +kernel
theorem d_Md_readSet_221 : decode q_mMd_readSet.1 221 = .ok (.invokevirtual 118, 3) := by decide +kernel
theorem d_Md_readSet_224 : decode q_mMd_readSet.1 224 = .ok (.iinc 3 1, 3) := by decide +kernel
theorem d_Md_readSet_227 : decode q_mMd_readSet.1 227 = .ok (.goto (-185), 3) := by decide +kernel
theorem d_Md_readSet_230 : decode q_mMd_readSet.1 230 = .ok (.aload_n 0, 1) := by decide +kernel
theorem d_Md_readSet_231 : decode q_mMd_readSet.1 231 = .ok (.dup, 1) := by decide +kernel
theorem d_Md_readSet_232 : decode q_mMd_readSet.1 232 = .ok (.getfield 126, 3) := by decide +kernel
theorem d_Md_readSet_235 : decode q_mMd_readSet.1 235 = .ok (.iconst 1, 1) := by decide +kernel
theorem d_Md_readSet_236 : decode q_mMd_readSet.1 236 = .ok (.iadd, 1) := by decide +kernel
theorem d_Md_readSet_237 : decode q_mMd_readSet.1 237 = .ok (.putfield 126, 3) := by decide +kernel
theorem d_Md_readSet_240 : decode q_mMd_readSet.1 240 = .ok (.iconst 0, 1) := by decide +kernel
theorem d_Md_readSet_241 : decode q_mMd_readSet.1 241 = .ok (.istore 4, 2) := by decide +kernel
theorem d_Md_readSet_243 : decode q_mMd_readSet.1 243 = .ok (.iload 4, 2) := by decide +kernel
theorem d_Md_readSet_245 : decode q_mMd_readSet.1 245 = .ok (.bipush 8, 2) := by decide +kernel
theorem d_Md_readSet_247 : decode q_mMd_readSet.1 247 = .ok (.if_icmp .ge 39, 3) := by decide +kernel
theorem d_Md_readSet_250 : decode q_mMd_readSet.1 250 = .ok (.iload_n 2, 1) := by decide +kernel
theorem d_Md_readSet_251 : decode q_mMd_readSet.1 251 = .ok (.ifCond .eq 35, 3) := by decide +kernel
theorem d_Md_readSet_254 : decode q_mMd_readSet.1 254 = .ok (.aload_n 0, 1) := by decide +kernel
theorem d_Md_readSet_255 : decode q_mMd_readSet.1 255 = .ok (.getfield 55, 3) := by decide +kernel
theorem d_Md_readSet_258 : decode q_mMd_readSet.1 258 = .ok (.bipush 8, 2) := by decide +kernel
theorem d_Md_readSet_260 : decode q_mMd_readSet.1 260 = .ok (.iload_n 1, 1) := by decide +kernel
theorem d_Md_readSet_261 : decode q_mMd_readSet.1 261 = .ok (.imul, 1) := by decide +kernel
theorem d_Md_readSet_262 : decode q_mMd_readSet.1 262 = .ok (.iload 4, 2) := by decide +kernel
theorem d_Md_readSet_264 : decode q_mMd_readSet.1 264 = .ok (.iadd, 1) := by decide +kernel
theorem d_Md_readSet_265 : decode q_mMd_readSet.1 265 = .ok (.aload_n 0, 1) := by decide +kernel
theorem d_Md_readSet_266 : decode q_mMd_readSet.1 266 = .ok (.getfield 55, 3) := by decide +kernel
theorem d_Md_readSet_269 : decode q_mMd_readSet.1 269 = .ok (.bipush 8, 2) := by decide +kernel
theorem d_Md_readSet_271 : decode q_mMd_readSet.1 271 = .ok (.iload_n 1, 1) := by decide +kernel
theorem d_Md_readSet_272 : decode q_mMd_readSet.1 272 = .ok (.imul, 1) := by decide +kernel
theorem d_Md_readSet_273 : decode q_mMd_readSet.1 273 = .ok (.iload 4, 2) := by decide +kernel
theorem d_Md_readSet_275 : decode q_mMd_readSet.1 275 = .ok (.iadd, 1) := by decide +kernel
theorem d_Md_readSet_276 : decode q_mMd_readSet.1 276 = .ok (.iaload, 1) := by decide +kernel
theorem d_Md_readSet_277 : decode q_mMd_readSet.1 277 = .ok (.iconst (-1), 1) := by decide +kernel
theorem d_Md_readSet_278 : decode q_mMd_readSet.1 278 = .ok (.ixor, 1) := by decide +kernel
theorem d_Md_readSet_279 : decode q_mMd_readSet.1 279 = .ok (.iastore, 1) := by decide +kernel
theorem d_Md_readSet_280 : decode q_mMd_readSet.1 280 = .ok (.iinc 4 1, 3) := by decide +kernel
theorem d_Md_readSet_283 : decode q_mMd_readSet.1 283 = .ok (.goto (-40), 3) := by decide +kernel
theorem d_Md_readSet_286 : decode q_mMd_readSet.1 286 = .ok (.iconst 1, 1) := by decide +kernel
theorem d_Md_readSet_287 : decode q_mMd_readSet.1 287 = .ok (.ireturn, 1) := by decide +kernel
theorem d_Md_includeSpecial_0 : decode q_mMd_includeSpecial.1 0 = .ok (.iload_n 2, 1) := by decide +kernel
theorem d_Md_includeSpecial_1 : decode q_mMd_includeSpecial.1 1 = .ok (.bipush 100, 2) := by decide +kernel
theorem d_Md_includeSpecial_3 : decode q_mMd_includeSpecial.1 3 = .ok (.if_icmp .eq 9, 3) := by decide +kernel
theorem d_Md_includeSpecial_6 : decode q_mMd_includeSpecial.1 6 = .ok (.iload_n 2, 1) := by decide +kernel
theorem d_Md_includeSpecial_7 : decode q_mMd_includeSpecial.1 7 = .ok (.bipush 119, 2) := by decide +kernel
theorem d_Md_includeSpecial_9 : decode q_mMd_includeSpecial.1 9 = .ok (.if_icmp .ne 12, 3) := by decide +kernel
theorem d_Md_includeSpecial_12 : decode q_mMd_includeSpecial.1 12 = .ok (.aload_n 0, 1) := by decide +kernel
theorem d_Md_includeSpecial_13 : decode q_mMd_includeSpecial.1 13 = .ok (.iload_n 1, 1) := by decide +kernel
theorem d_Md_includeSpecial_14 : decode q_mMd_includeSpecial.1 14 = .ok (.bipush 48, 2) := by decide +kernel
theorem d_Md_includeSpecial_16 : decode q_mMd_includeSpecial.1 16 = .ok (.bipush 57, 2) := by decide +kernel
theorem d_Md_includeSpecial_18 : decode q_mMd_includeSpecial.1 18 = .ok (.invokevirtual 118, 3) := by decide +kernel
theorem d_Md_includeSpecial_21 : decode q_mMd_includeSpecial.1 21 = .ok (.iload_n 2, 1) := by decide +kernel
theorem d_Md_includeSpecial_22 : decode q_mMd_includeSpecial.1 22 = .ok (.bipush 119, 2) := by decide +kernel
theorem d_Md_includeSpecial_24 : decode q_mMd_includeSpecial.1 24 = .ok (.if_icmp .ne 30, 3) := by decide +kernel
theorem d_Md_includeSpecial_27 : decode q_mMd_includeSpecial.1 27 = .ok (.aload_n 0, 1) := by decide +kernel
theorem d_Md_includeSpecial_28 : decode q_mMd_includeSpecial.1 28 = .ok (.iload_n 1, 1) := by decide +kernel
theorem d_Md_includeSpecial_29 : decode q_mMd_includeSpecial.1 29 = .ok (.bipush 97, 2) := by decide +kernel
theorem d_Md_includeSpecial_31 : decode q_mMd_includeSpecial.1 31 = .ok (.bipush 122, 2) := by decide +kernel
theorem d_Md_includeSpecial_33 : decode q_mMd_includeSpecial.1 33 = .ok (.invokevirtual 118, 3) := by decide +kernel
theorem d_Md_includeSpecial_36 : decode q_mMd_includeSpecial.1 36 = .ok (.aload_n 0, 1) := by decide +kernel
theorem d_Md_includeSpecial_37 : decode q_mMd_includeSpecial.1 37 = .ok (.iload_n 1, 1) := by decide +kernel
theorem d_Md_includeSpecial_38 : decode q_mMd_includeSpecial.1 38 = .ok (.bipush 65, 2) := by decide +kernel
theorem d_Md_includeSpecial_40 : decode q_mMd_includeSpecial.1 40 = .ok (.bipush 90, 2) := by decide +kernel
theorem d_Md_includeSpecial_42 : decode q_mMd_includeSpecial.1 42 = .ok (.invokevirtual 118, 3) := by decide +kernel
theorem d_Md_includeSpecial_45 : decode q_mMd_includeSpecial.1 45 = .ok (.aload_n 0, 1) := by decide +kernel
theorem d_Md_includeSpecial_46 : decode q_mMd_includeSpecial.1 46 = .ok (.iload_n 1, 1) := by decide +kernel
theorem d_Md_includeSpecial_47 : decode q_mMd_includeSpecial.1 47 = .ok (.bipush 95, 2) := by decide +kernel
theorem d_Md_includeSpecial_49 : decode q_mMd_includeSpecial.1 49 = .ok (.bipush 95, 2) := by decide +kernel
theorem d_Md_includeSpecial_51 : decode q_mMd_includeSpecial.1 51 = .ok (.invokevirtual 118, 3) := by decide +kernel
theorem d_Md_includeSpecial_54 : decode q_mMd_includeSpecial.1 54 = .ok (.iload_n 2, 1) := by decide +kernel
theorem d_Md_includeSpecial_55 : decode q_mMd_includeSpecial.1 55 = .ok (.bipush 100, 2) := by decide +kernel
theorem d_Md_includeSpecial_57 : decode q_mMd_includeSpecial.1 57 = .ok (.if_icmp .eq 16, 3) := by decide +kernel
theorem d_Md_includeSpecial_60 : decode q_mMd_includeSpecial.1 60 = .ok (.iload_n 2, 1) := by decide +kernel
theorem d_Md_includeSpecial_61 : decode q_mMd_includeSpecial.1 61 = .ok (.bipush 119, 2) := by decide +kernel
theorem d_Md_includeSpecial_63 : decode q_mMd_includeSpecial.1 63 = .ok (.if_icmp .eq 10, 3) := by decide +kernel
theorem d_Md_includeSpecial_66 : decode q_mMd_includeSpecial.1 66 = .ok (.aload_n 0, 1) := by decide +kernel
theorem d_Md_includeSpecial_67 : decode q_mMd_includeSpecial.1 67 = .ok (.iload_n 1, 1) := by decide +kernel
theorem d_Md_includeSpecial_68 : decode q_mMd_includeSpecial.1 68 = .ok (.iload_n 2, 1) := by decide +kernel
theorem d_Md_includeSpecial_69 : decode q_mMd_includeSpecial.1 69 = .ok (.iload_n 2, 1) := by decide +kernel
theorem d_Md_includeSpecial_70 : decode q_mMd_includeSpecial.1 70 = .ok (.invokevirtual 118, 3) := by decide +kernel
theorem d_Md_includeSpecial_73 : decode q_mMd_includeSpecial.1 73 = .ok (.return_, 1) := by decide +kernel
end
section
theorem d_Md_include_0 : decode q_mMd_include.1 0 = .ok (.iload_n 2, 1) := by decide +kernel
theorem d_Md_include_1 : decode q_mMd_include.1 1 = .ok (.istore 4, 2) := by decide +kernel
theorem d_Md_include_3 : decode q_mMd_include.1 3 = .ok (.iload 4, 2) := by decide +kernel
theorem d_Md_include_5 : decode q_mMd_include.1 5 = .ok (.iload_n 3, 1) := by decide +kernel
theorem d_Md_include_6 : decode q_mMd_include.1 6 = .ok (.if_icmp .gt 47, 3) := by decide +kernel
theorem d_Md_include_9 : decode q_mMd_include.1 9 = .ok (.aload_n 0, 1) := by decide +kernel
theorem d_Md_include_10 : decode q_mMd_include.1 10 = .ok (.getfield 55, 3) := by decide +kernel
theorem d_Md_include_13 : decode q_mMd_include.1 13 = .ok (.bipush 8, 2) := by decide +kernel
theorem d_Md_include_15 : decode q_mMd_include.1 15 = .ok (.iload_n 1, 1) := by decide +kernel
theorem d_Md_include_16 : decode q_mMd_include.1 16 = .ok (.imul, 1) := by decide +kernel
theorem d_Md_include_17 : decode q_mMd_include.1 17 = .ok (.iload 4, 2) := by decide +kernel
theorem d_Md_include_19 : decode q_mMd_include.1 19 = .ok (.bipush 32, 2) := by decide +kernel
theorem d_Md_include_21 : decode q_mMd_include.1 21 = .ok (.idiv, 1) := by decide +kernel
theorem d_Md_include_22 : decode q_mMd_include.1 22 = .ok (.iadd, 1) := by decide +kernel
theorem d_Md_include_23 : decode q_mMd_include.1 23 = .ok (.aload_n 0, 1) := by decide +kernel
theorem d_Md_include_24 : decode q_mMd_include.1 24 = .ok (.getfield 55, 3) := by decide +kernel
theorem d_Md_include_27 : decode q_mMd_include.1 27 = .ok (.bipush 8, 2) := by decide +kernel
theorem d_Md_include_29 : decode q_mMd_include.1 29 = .ok (.iload_n 1, 1) := by decide +kernel
theorem d_Md_include_30 : decode q_mMd_include.1 30 = .ok (.imul, 1) := by decide +kernel
theorem d_Md_include_31 : decode q_mMd_include.1 31 = .ok (.iload 4, 2) := by decide +kernel
theorem d_Md_include_33 : decode q_mMd_include.1 33 = .ok (.bipush 32, 2) := by decide +kernel
theorem d_Md_include_35 : decode q_mMd_include.1 35 = .ok (.idiv, 1) := by decide +kernel
theorem d_Md_include_36 : decode q_mMd_include.1 36 = .ok (.iadd, 1) := by decide +kernel
theorem d_Md_include_37 : decode q_mMd_include.1 37 = .ok (.iaload, 1) := by decide +kernel
theorem d_Md_include_38 : decode q_mMd_include.1 38 = .ok (.iconst 1, 1) := by decide +kernel
theorem d_Md_include_39 : decode q_mMd_include.1 39 = .ok (.iload 4, 2) := by decide +kernel
theorem d_Md_include_41 : decode q_mMd_include.1 41 = .ok (.bipush 32, 2) := by decide +kernel
theorem d_Md_include_43 : decode q_mMd_include.1 43 = .ok (.irem, 1) := by decide +kernel
theorem d_Md_include_44 : decode q_mMd_include.1 44 = .ok (.ishl, 1) := by decide +kernel
theorem d_Md_include_45 : decode q_mMd_include.1 45 = .ok (.ior, 1) := by decide +kernel
theorem d_Md_include_46 : decode q_mMd_include.1 46 = .ok (.iastore, 1) := by decide +kernel
theorem d_Md_include_47 : decode q_mMd_include.1 47 = .ok (.iinc 4 1, 3) := by decide +kernel
theorem d_Md_include_50 : decode q_mMd_include.1 50 = .ok (.goto (-47), 3) := by decide +kernel
theorem d_Md_include_53 : decode q_mMd_include.1 53 = .ok (.return_, 1) := by decide +kernel
theorem d_Md_isItem_0 : decode q_mMd_isItem.1 0 = .ok (.iload_n 0, 1) := by decide +kernel
theorem d_Md_isItem_1 : decode q_mMd_isItem.1 1 = .ok (.ifCond .le 37, 3) := by decide +kernel
theorem d_Md_isItem_4 : decode q_mMd_isItem.1 4 = .ok (.iload_n 0, 1) := by decide +kernel
theorem d_Md_isItem_5 : decode q_mMd_isItem.1 5 = .ok (.bipush 93, 2) := by decide +kernel
theorem d_Md_isItem_7 : decode q_mMd_isItem.1 7 = .ok (.if_icmp .eq 31, 3) := by decide +kernel
theorem d_Md_isItem_10 : decode q_mMd_isItem.1 10 = .ok (.iload_n 0, 1) := by decide +kernel
theorem d_Md_isItem_11 : decode q_mMd_isItem.1 11 = .ok (.bipush 91, 2) := by decide +kernel
theorem d_Md_isItem_13 : decode q_mMd_isItem.1 13 = .ok (.if_icmp .eq 25, 3) := by decide +kernel
theorem d_Md_isItem_16 : decode q_mMd_isItem.1 16 = .ok (.iload_n 0, 1) := by decide +kernel
theorem d_Md_isItem_17 : decode q_mMd_isItem.1 17 = .ok (.bipush 92, 2) := by decide +kernel
theorem d_Md_isItem_19 : decode q_mMd_isItem.1 19 = .ok (.if_icmp .eq 19, 3) := by decide +kernel
theorem d_Md_isItem_22 : decode q_mMd_isItem.1 22 = .ok (.iload_n 0, 1) := by decide +kernel
theorem d_Md_isItem_23 : decode q_mMd_isItem.1 23 = .ok (.bipush 45, 2) := by decide +kernel
theorem d_Md_isItem_25 : decode q_mMd_isItem.1 25 = .ok (.if_icmp .eq 13, 3) := by decide +kernel
theorem d_Md_isItem_28 : decode q_mMd_isItem.1 28 = .ok (.iload_n 0, 1) := by decide +kernel
theorem d_Md_isItem_29 : decode q_mMd_isItem.1 29 = .ok (.bipush 94, 2) := by decide +kernel
theorem d_Md_isItem_31 : decode q_mMd_isItem.1 31 = .ok (.if_icmp .eq 7, 3) := by decide +kernel
theorem d_Md_isItem_34 : decode q_mMd_isItem.1 34 = .ok (.iconst 1, 1) := by decide +kernel
theorem d_Md_isItem_35 : decode q_mMd_isItem.1 35 = .ok (.goto 4, 3) := by decide +kernel
theorem d_Md_isItem_38 : decode q_mMd_isItem.1 38 = .ok (.iconst 0, 1) := by decide +kernel
theorem d_Md_isItem_39 : decode q_mMd_isItem.1 39 = .ok (.ireturn, 1) := by decide +kernel
theorem d_Md_widthOf_0 : decode q_mMd_widthOf.1 0 = .ok (.lconst 0, 1) := by decide +kernel
theorem d_Md_widthOf_1 : decode q_mMd_widthOf.1 1 = .ok (.lstore_n 2, 1) := by decide +kernel
theorem d_Md_widthOf_2 : decode q_mMd_widthOf.1 2 = .ok (.iconst 0, 1) := by decide +kernel
theorem d_Md_widthOf_3 : decode q_mMd_widthOf.1 3 = .ok (.istore 4, 2) := by decide +kernel
theorem d_Md_widthOf_5 : decode q_mMd_widthOf.1 5 = .ok (.aload_n 0, 1) := by decide +kernel
theorem d_Md_widthOf_6 : decode q_mMd_widthOf.1 6 = .ok (.getfield 21, 3) := by decide +kernel
theorem d_Md_widthOf_9 : decode q_mMd_widthOf.1 9 = .ok (.iload_n 1, 1) := by decide +kernel
theorem d_Md_widthOf_10 : decode q_mMd_widthOf.1 10 = .ok (.iaload, 1) := by decide +kernel
theorem d_Md_widthOf_11 : decode q_mMd_widthOf.1 11 = .ok (.istore 5, 2) := by decide +kernel
theorem d_Md_widthOf_13 : decode q_mMd_widthOf.1 13 = .ok (.iload 5, 2) := by decide +kernel
theorem d_Md_widthOf_15 : decode q_mMd_widthOf.1 15 = .ok (.ifCond .lt 29, 3) := by decide +kernel
theorem d_Md_widthOf_18 : decode q_mMd_widthOf.1 18 = .ok (.lload_n 2, 1) := by decide +kernel
theorem d_Md_widthOf_19 : decode q_mMd_widthOf.1 19 = .ok (.aload_n 0, 1) := by decide +kernel
theorem d_Md_widthOf_20 : decode q_mMd_widthOf.1 20 = .ok (.getfield 43, 3) := by decide +kernel
theorem d_Md_widthOf_23 : decode q_mMd_widthOf.1 23 = .ok (.iload 5, 2) := by decide +kernel
theorem d_Md_widthOf_25 : decode q_mMd_widthOf.1 25 = .ok (.iaload, 1) := by decide +kernel
theorem d_Md_widthOf_26 : decode q_mMd_widthOf.1 26 = .ok (.i2l, 1) := by decide +kernel
theorem d_Md_widthOf_27 : decode q_mMd_widthOf.1 27 = .ok (.ladd, 1) := by decide +kernel
theorem d_Md_widthOf_28 : decode q_mMd_widthOf.1 28 = .ok (.lstore_n 2, 1) := by decide +kernel
theorem d_Md_widthOf_29 : decode q_mMd_widthOf.1 29 = .ok (.iinc 4 1, 3) := by decide +kernel
theorem d_Md_widthOf_32 : decode q_mMd_widthOf.1 32 = .ok (.aload_n 0, 1) := by decide +kernel
theorem d_Md_widthOf_33 : decode q_mMd_widthOf.1 33 = .ok (.getfield 27, 3) := by decide +kernel
theorem d_Md_widthOf_36 : decode q_mMd_widthOf.1 36 = .ok (.iload 5, 2) := by decide +kernel
theorem d_Md_widthOf_38 : decode q_mMd_widthOf.1 38 = .ok (.iaload, 1) := by decide +kernel
theorem d_Md_widthOf_39 : decode q_mMd_widthOf.1 39 = .ok (.istore 5, 2) := by decide +kernel
theorem d_Md_widthOf_41 : decode q_mMd_widthOf.1 41 = .ok (.goto (-28), 3) := by decide +kernel
theorem d_Md_widthOf_44 : decode q_mMd_widthOf.1 44 = .ok (.aload_n 0, 1) := by decide +kernel
theorem d_Md_widthOf_45 : decode q_mMd_widthOf.1 45 = .ok (.getfield 17, 3) := by decide +kernel
theorem d_Md_widthOf_48 : decode q_mMd_widthOf.1 48 = .ok (.iload_n 1, 1) := by decide +kernel
theorem d_Md_widthOf_49 : decode q_mMd_widthOf.1 49 = .ok (.iaload, 1) := by decide +kernel
theorem d_Md_widthOf_50 : decode q_mMd_widthOf.1 50 = .ok (.iconst 3, 1) := by decide +kernel
theorem d_Md_widthOf_51 : decode q_mMd_widthOf.1 51 = .ok (.if_icmp .ne 7, 3) := by decide +kernel
theorem d_Md_widthOf_54 : decode q_mMd_widthOf.1 54 = .ok (.lconst 1, 1) := by decide +kernel
theorem d_Md_widthOf_55 : decode q_mMd_widthOf.1 55 = .ok (.goto 52, 3) := by decide +kernel
theorem d_Md_widthOf_58 : decode q_mMd_widthOf.1 58 = .ok (.aload_n 0, 1) := by decide +kernel
theorem d_Md_widthOf_59 : decode q_mMd_widthOf.1 59 = .ok (.getfield 17, 3) := by decide +kernel
theorem d_Md_widthOf_62 : decode q_mMd_widthOf.1 62 = .ok (.iload_n 1, 1) := by decide +kernel
theorem d_Md_widthOf_63 : decode q_mMd_widthOf.1 63 = .ok (.iaload, 1) := by decide +kernel
theorem d_Md_widthOf_64 : decode q_mMd_widthOf.1 64 = .ok (.ifCond .ne 15, 3) := by decide +kernel
theorem d_Md_widthOf_67 : decode q_mMd_widthOf.1 67 = .ok (.lload_n 2, 1) := by decide +kernel
theorem d_Md_widthOf_68 : decode q_mMd_widthOf.1 68 = .ok (.iconst 2, 1) := by decide +kernel
theorem d_Md_widthOf_69 : decode q_mMd_widthOf.1 69 = .ok (.iload 4, 2) := by decide +kernel
theorem d_Md_widthOf_71 : decode q_mMd_widthOf.1 71 = .ok (.iconst 1, 1) := by decide +kernel
theorem d_Md_widthOf_72 : decode q_mMd_widthOf.1 72 = .ok (.isub, 1) := by decide +kernel
theorem d_Md_widthOf_73 : decode q_mMd_widthOf.1 73 = .ok (.imul, 1) := by decide +kernel
theorem d_Md_widthOf_74 : decode q_mMd_widthOf.1 74 = .ok (.i2l, 1) := by decide +kernel
theorem d_Md_widthOf_75 : decode q_mMd_widthOf.1 75 = .ok (.ladd, 1) := by decide +kernel
theorem d_Md_widthOf_76 : decode q_mMd_widthOf.1 76 = .ok (.goto 31, 3) := by decide +kernel
theorem d_Md_widthOf_79 : decode q_mMd_widthOf.1 79 = .ok (.aload_n 0, 1) := by decide +kernel
theorem d_Md_widthOf_80 : decode q_mMd_widthOf.1 80 = .ok (.getfield 17, 3) := by decide +kernel
theorem d_Md_widthOf_83 : decode q_mMd_widthOf.1 83 = .ok (.iload_n 1, 1) := by decide +kernel
theorem d_Md_widthOf_84 : decode q_mMd_widthOf.1 84 = .ok (.iaload, 1) := by decide +kernel
theorem d_Md_widthOf_85 : decode q_mMd_widthOf.1 85 = .ok (.iconst 4, 1) := by decide +kernel
theorem d_Md_widthOf_86 : decode q_mMd_widthOf.1 86 = .ok (.if_icmp .ne 20, 3) := by decide +kernel
theorem d_Md_widthOf_89 : decode q_mMd_widthOf.1 89 = .ok (.aload_n 0, 1) := by decide +kernel
theorem d_Md_widthOf_90 : decode q_mMd_widthOf.1 90 = .ok (.getfield 30, 3) := by decide +kernel
theorem d_Md_widthOf_93 : decode q_mMd_widthOf.1 93 = .ok (.iload_n 1, 1) := by decide +kernel
theorem d_Md_widthOf_94 : decode q_mMd_widthOf.1 94 = .ok (.iaload, 1) := by decide +kernel
theorem d_Md_widthOf_95 : decode q_mMd_widthOf.1 95 = .ok (.ifCond .le 11, 3) := by decide +kernel
theorem d_Md_widthOf_98 : decode q_mMd_widthOf.1 98 = .ok (.lload_n 2, 1) := by decide +kernel
theorem d_Md_widthOf_99 : decode q_mMd_widthOf.1 99 = .ok (.ldc2_w 176, 3) := by decide +kernel
theorem d_Md_widthOf_102 : decode q_mMd_widthOf.1 102 = .ok (.ladd, 1) := by decide +kernel
theorem d_Md_widthOf_103 : decode q_mMd_widthOf.1 103 = .ok (.goto 4, 3) := by decide +kernel
theorem d_Md_widthOf_106 : decode q_mMd_widthOf.1 106 = .ok (.lload_n 2, 1) := by decide +kernel
theorem d_Md_widthOf_107 : decode q_mMd_widthOf.1 107 = .ok (.lstore 5, 2) := by decide +kernel
theorem d_Md_widthOf_109 : decode q_mMd_widthOf.1 109 = .ok (.aload_n 0, 1) := by decide +kernel
theorem d_Md_widthOf_110 : decode q_mMd_widthOf.1 110 = .ok (.getfield 17, 3) := by decide +kernel
theorem d_Md_widthOf_113 : decode q_mMd_widthOf.1 113 = .ok (.iload_n 1, 1) := by decide +kernel
theorem d_Md_widthOf_114 : decode q_mMd_widthOf.1 114 = .ok (.iaload, 1) := by decide +kernel
theorem d_Md_widthOf_115 : decode q_mMd_widthOf.1 115 = .ok (.iconst 2, 1) := by decide +kernel
theorem d_Md_widthOf_116 : decode q_mMd_widthOf.1 116 = .ok (.if_icmp .ne 126, 3) := by decide +kernel
theorem d_Md_widthOf_119 : decode q_mMd_widthOf.1 119 = .ok (.aload_n 0, 1) := by decide +kernel
theorem d_Md_widthOf_120 : decode q_mMd_widthOf.1 120 = .ok (.getfield 30, 3) := by decide +kernel
theorem d_Md_widthOf_123 : decode q_mMd_widthOf.1 123 = .ok (.iload_n 1, 1) := by decide +kernel
theorem d_Md_widthOf_124 : decode q_mMd_widthOf.1 124 = .ok (.iaload, 1) := by decide +kernel
theorem d_Md_widthOf_125 : decode q_mMd_widthOf.1 125 = .ok (.istore 7, 2) := by decide +kernel
theorem d_Md_widthOf_127 : decode q_mMd_widthOf.1 127 = .ok (.iload 7, 2) := by decide +kernel
theorem d_Md_widthOf_129 : decode q_mMd_widthOf.1 129 = .ok (.iconst 1, 1) := by decide +kernel
theorem d_Md_widthOf_130 : decode q_mMd_widthOf.1 130 = .ok (.if_icmp .ne 11, 3) := by decide +kernel
theorem d_Md_widthOf_133 : decode q_mMd_widthOf.1 133 = .ok (.lload_n 2, 1) := by decide +kernel
theorem d_Md_widthOf_134 : decode q_mMd_widthOf.1 134 = .ok (.ldc2_w 176, 3) := by decide +kernel
theorem d_Md_widthOf_137 : decode q_mMd_widthOf.1 137 = .ok (.ladd, 1) := by decide +kernel
theorem d_Md_widthOf_138 : decode q_mMd_widthOf.1 138 = .ok (.goto 102, 3) := by decide +kernel
theorem d_Md_widthOf_141 : decode q_mMd_widthOf.1 141 = .ok (.iload 7, 2) := by decide +kernel
theorem d_Md_widthOf_143 : decode q_mMd_widthOf.1 143 = .ok (.iconst 2, 1) := by decide +kernel
theorem d_Md_widthOf_144 : decode q_mMd_widthOf.1 144 = .ok (.if_icmp .eq 9, 3) := by decide +kernel
theorem d_Md_widthOf_147 : decode q_mMd_widthOf.1 147 = .ok (.iload 7, 2) := by decide +kernel
theorem d_Md_widthOf_149 : decode q_mMd_widthOf.1 149 = .ok (.iconst 3, 1) := by decide +kernel
theorem d_Md_widthOf_150 : decode q_mMd_widthOf.1 150 = .ok (.if_icmp .ne 9, 3) := by decide +kernel
theorem d_Md_widthOf_153 : decode q_mMd_widthOf.1 153 = .ok (.lload_n 2, 1) := by decide +kernel
theorem d_Md_widthOf_154 : decode q_mMd_widthOf.1 154 = .ok (.lconst 1, 1) := by decide +kernel
theorem d_Md_widthOf_155 : decode q_mMd_widthOf.1 155 = .ok (.ladd, 1) := by decide +kernel
theorem d_Md_widthOf_156 : decode q_mMd_widthOf.1 156 = .ok (.goto 84, 3) := by decide +kernel
theorem d_Md_widthOf_159 : decode q_mMd_widthOf.1 159 = .ok (.iload 7, 2) := by decide +kernel
theorem d_Md_widthOf_161 : decode q_mMd_widthOf.1 161 = .ok (.iconst 4, 1) := by decide +kernel
theorem d_Md_widthOf_162 : decode q_mMd_widthOf.1 162 = .ok (.if_icmp .ne 15, 3) := by decide +kernel
theorem d_Md_widthOf_165 : decode q_mMd_widthOf.1 165 = .ok (.aload_n 0, 1) := by decide +kernel
theorem d_Md_widthOf_166 : decode q_mMd_widthOf.1 166 = .ok (.getfield 33, 3) := by decide +kernel
theorem d_Md_widthOf_169 : decode q_mMd_widthOf.1 169 = .ok (.iload_n 1, 1) := by decide +kernel
theorem d_Md_widthOf_170 : decode q_mMd_widthOf.1 170 = .ok (.iaload, 1) := by decide +kernel
theorem d_Md_widthOf_171 : decode q_mMd_widthOf.1 171 = .ok (.i2l, 1) := by decide +kernel
theorem d_Md_widthOf_172 : decode q_mMd_widthOf.1 172 = .ok (.lload_n 2, 1) := by decide +kernel
theorem d_Md_widthOf_173 : decode q_mMd_widthOf.1 173 = .ok (.lmul, 1) := by decide +kernel
theorem d_Md_widthOf_174 : decode q_mMd_widthOf.1 174 = .ok (.goto 66, 3) := by decide +kernel
theorem d_Md_widthOf_177 : decode q_mMd_widthOf.1 177 = .ok (.iload 7, 2) := by decide +kernel
theorem d_Md_widthOf_179 : decode q_mMd_widthOf.1 179 = .ok (.iconst 5, 1) := by decide +kernel
theorem d_Md_widthOf_180 : decode q_mMd_widthOf.1 180 = .ok (.if_icmp .ne 21, 3) := by decide +kernel
theorem d_Md_widthOf_183 : decode q_mMd_widthOf.1 183 = .ok (.aload_n 0, 1) := by decide +kernel
theorem d_Md_widthOf_184 : decode q_mMd_widthOf.1 184 = .ok (.getfield 33, 3) := by decide +kernel
theorem d_Md_widthOf_187 : decode q_mMd_widthOf.1 187 = .ok (.iload_n 1, 1) := by decide +kernel
theorem d_Md_widthOf_188 : decode q_mMd_widthOf.1 188 = .ok (.iaload, 1) := by decide +kernel
theorem d_Md_widthOf_189 : decode q_mMd_widthOf.1 189 = .ok (.iconst 1, 1) := by decide +kernel
theorem d_Md_widthOf_190 : decode q_mMd_widthOf.1 190 = .ok (.iadd, 1) := by decide +kernel
theorem d_Md_widthOf_191 : decode q_mMd_widthOf.1 191 = .ok (.i2l, 1) := by decide +kernel
theorem d_Md_widthOf_192 : decode q_mMd_widthOf.1 192 = .ok (.lload_n 2, 1) := by decide +kernel
theorem d_Md_widthOf_193 : decode q_mMd_widthOf.1 193 = .ok (.lmul, 1) := by decide +kernel
theorem d_Md_widthOf_194 : decode q_mMd_widthOf.1 194 = .ok (.ldc2_w 176, 3) := by decide +kernel
theorem d_Md_widthOf_197 : decode q_mMd_widthOf.1 197 = .ok (.ladd, 1) := by decide +kernel
theorem d_Md_widthOf_198 : decode q_mMd_widthOf.1 198 = .ok (.goto 42, 3) := by decide +kernel
theorem d_Md_widthOf_201 : decode q_mMd_widthOf.1 201 = .ok (.iload 7, 2) := by decide +kernel
theorem d_Md_widthOf_203 : decode q_mMd_widthOf.1 203 = .ok (.bipush 6, 2) := by decide +kernel
theorem d_Md_widthOf_205 : decode q_mMd_widthOf.1 205 = .ok (.if_icmp .ne 34, 3) := by decide +kernel
theorem d_Md_widthOf_208 : decode q_mMd_widthOf.1 208 = .ok (.aload_n 0, 1) := by decide +kernel
theorem d_Md_widthOf_209 : decode q_mMd_widthOf.1 209 = .ok (.getfield 33, 3) := by decide +kernel
theorem d_Md_widthOf_212 : decode q_mMd_widthOf.1 212 = .ok (.iload_n 1, 1) := by decide +kernel
theorem d_Md_widthOf_213 : decode q_mMd_widthOf.1 213 = .ok (.iaload, 1) := by decide +kernel
theorem d_Md_widthOf_214 : decode q_mMd_widthOf.1 214 = .ok (.i2l, 1) := by decide +kernel
theorem d_Md_widthOf_215 : decode q_mMd_widthOf.1 215 = .ok (.lload_n 2, 1) := by decide +kernel
theorem d_Md_widthOf_216 : decode q_mMd_widthOf.1 216 = .ok (.lmul, 1) := by decide +kernel
theorem d_Md_widthOf_217 : decode q_mMd_widthOf.1 217 = .ok (.aload_n 0, 1) := by decide +kernel
theorem d_Md_widthOf_218 : decode q_mMd_widthOf.1 218 = .ok (.getfield 36, 3) := by decide +kernel
theorem d_Md_widthOf_221 : decode q_mMd_widthOf.1 221 = .ok (.iload_n 1, 1) := by decide +kernel
theorem d_Md_widthOf_222 : decode q_mMd_widthOf.1 222 = .ok (.iaload, 1) := by decide +kernel
theorem d_Md_widthOf_223 : decode q_mMd_widthOf.1 223 = .ok (.aload_n 0, 1) := by decide +kernel
theorem d_Md_widthOf_224 : decode q_mMd_widthOf.1 224 = .ok (.getfield 33, 3) := by decide +kernel
theorem d_Md_widthOf_227 : decode q_mMd_widthOf.1 227 = .ok (.iload_n 1, 1) := by decide +kernel
theorem d_Md_widthOf_228 : decode q_mMd_widthOf.1 228 = .ok (.iaload, 1) := by decide +kernel
theorem d_Md_widthOf_229 : decode q_mMd_widthOf.1 229 = .ok (.isub, 1) := by decide +kernel
theorem d_Md_widthOf_230 : decode q_mMd_widthOf.1 230 = .ok (.i2l, 1) := by decide +kernel
theorem d_Md_widthOf_231 : decode q_mMd_widthOf.1 231 = .ok (.lload_n 2, 1) := by decide +kernel
theorem d_Md_widthOf_232 : decode q_mMd_widthOf.1 232 = .ok (.lconst 1, 1) := by decide +kernel
theorem d_Md_widthOf_233 : decode q_mMd_widthOf.1 233 = .ok (.ladd, 1) := by decide +kernel
theorem d_Md_widthOf_234 : decode q_mMd_widthOf.1 234 = .ok (.lmul, 1) := by decide +kernel
theorem d_Md_widthOf_235 : decode q_mMd_widthOf.1 235 = .ok (.ladd, 1) := by decide +kernel
theorem d_Md_widthOf_236 : decode q_mMd_widthOf.1 236 = .ok (.goto 4, 3) := by decide +kernel
theorem d_Md_widthOf_239 : decode q_mMd_widthOf.1 239 = .ok (.lload_n 2, 1) := by decide +kernel
theorem d_Md_widthOf_240 : decode q_mMd_widthOf.1 240 = .ok (.lstore 5, 2) := by decide +kernel
theorem d_Md_widthOf_242 : decode q_mMd_widthOf.1 242 = .ok (.lload 5, 2) := by decide +kernel
theorem d_Md_widthOf_244 : decode q_mMd_widthOf.1 244 = .ok (.ldc2_w 178, 3) := by decide +kernel
theorem d_Md_widthOf_247 : decode q_mMd_widthOf.1 247 = .ok (.lcmp, 1) := by decide +kernel
theorem d_Md_widthOf_248 : decode q_mMd_widthOf.1 248 = .ok (.ifCond .le 9, 3) := by decide +kernel
theorem d_Md_widthOf_251 : decode q_mMd_widthOf.1 251 = .ok (.sipush 10000, 3) := by decide +kernel
theorem d_Md_widthOf_254 : decode q_mMd_widthOf.1 254 = .ok (.goto 6, 3) := by decide +kernel
theorem d_Md_widthOf_257 : decode q_mMd_widthOf.1 257 = .ok (.lload 5, 2) := by decide +kernel
theorem d_Md_widthOf_259 : decode q_mMd_widthOf.1 259 = .ok (.l2i, 1) := by decide +kernel
theorem d_Md_widthOf_260 : decode q_mMd_widthOf.1 260 = .ok (.ireturn, 1) := by decide +kernel
theorem d_Md_put_0 : decode q_mMd_put.1 0 = .ok (.aload_n 0, 1) := by decide +kernel
theorem d_Md_put_1 : decode q_mMd_put.1 1 = .ok (.getfield 58, 3) := by decide +kernel
theorem d_Md_put_4 : decode q_mMd_put.1 4 = .ok (.iload_n 1, 1) := by decide +kernel
theorem d_Md_put_5 : decode q_mMd_put.1 5 = .ok (.iload_n 2, 1) := by decide +kernel
theorem d_Md_put_6 : decode q_mMd_put.1 6 = .ok (.iastore, 1) := by decide +kernel
theorem d_Md_put_7 : decode q_mMd_put.1 7 = .ok (.aload_n 0, 1) := by decide +kernel
theorem d_Md_put_8 : decode q_mMd_put.1 8 = .ok (.getfield 61, 3) := by decide +kernel
theorem d_Md_put_11 : decode q_mMd_put.1 11 = .ok (.iload_n 1, 1) := by decide +kernel
theorem d_Md_put_12 : decode q_mMd_put.1 12 = .ok (.iload_n 3, 1) := by decide +kernel
theorem d_Md_put_13 : decode q_mMd_put.1 13 = .ok (.iastore, 1) := by decide +kernel
theorem d_Md_put_14 : decode q_mMd_put.1 14 = .ok (.aload_n 0, 1) := by decide +kernel
theorem d_Md_put_15 : decode q_mMd_put.1 15 = .ok (.getfield 64, 3) := by decide +kernel
theorem d_Md_put_18 : decode q_mMd_put.1 18 = .ok (.iload_n 1, 1) := by decide +kernel
theorem d_Md_put_19 : decode q_mMd_put.1 19 = .ok (.iload 4, 2) := by decide +kernel
theorem d_Md_put_21 : decode q_mMd_put.1 21 = .ok (.iastore, 1) := by decide +kernel
theorem d_Md_put_22 : decode q_mMd_put.1 22 = .ok (.return_, 1) := by decide +kernel
theorem d_Md_later_0 : decode q_mMd_later.1 0 = .ok (.aload_n 0, 1) := by decide +kernel
theorem d_Md_later_1 : decode q_mMd_later.1 1 = .ok (.getfield 43, 3) := by decide +kernel
theorem d_Md_later_4 : decode q_mMd_later.1 4 = .ok (.iload_n 1, 1) := by decide +kernel
theorem d_Md_later_5 : decode q_mMd_later.1 5 = .ok (.iaload, 1) := by decide +kernel
theorem d_Md_later_6 : decode q_mMd_later.1 6 = .ok (.ifCond .le 33, 3) := by decide +kernel
theorem d_Md_later_9 : decode q_mMd_later.1 9 = .ok (.aload_n 0, 1) := by decide +kernel
theorem d_Md_later_10 : decode q_mMd_later.1 10 = .ok (.getfield 67, 3) := by decide +kernel
theorem d_Md_later_13 : decode q_mMd_later.1 13 = .ok (.aload_n 0, 1) := by decide +kernel
theorem d_Md_later_14 : decode q_mMd_later.1 14 = .ok (.getfield 184, 3) := by decide +kernel
theorem d_Md_later_17 : decode q_mMd_later.1 17 = .ok (.iload_n 1, 1) := by decide +kernel
theorem d_Md_later_18 : decode q_mMd_later.1 18 = .ok (.iastore, 1) := by decide +kernel
theorem d_Md_later_19 : decode q_mMd_later.1 19 = .ok (.aload_n 0, 1) := by decide +kernel
theorem d_Md_later_20 : decode q_mMd_later.1 20 = .ok (.getfield 70, 3) := by decide +kernel
theorem d_Md_later_23 : decode q_mMd_later.1 23 = .ok (.aload_n 0, 1) := by decide +kernel
theorem d_Md_later_24 : decode q_mMd_later.1 24 = .ok (.getfield 184, 3) := by decide +kernel
theorem d_Md_later_27 : decode q_mMd_later.1 27 = .ok (.iload_n 2, 1) := by decide +kernel
theorem d_Md_later_28 : decode q_mMd_later.1 28 = .ok (.iastore, 1) := by decide +kernel
theorem d_Md_later_29 : decode q_mMd_later.1 29 = .ok (.aload_n 0, 1) := by decide +kernel
theorem d_Md_later_30 : decode q_mMd_later.1 30 = .ok (.dup, 1) := by decide +kernel
theorem d_Md_later_31 : decode q_mMd_later.1 31 = .ok (.getfield 184, 3) := by decide +kernel
theorem d_Md_later_34 : decode q_mMd_later.1 34 = .ok (.iconst 1, 1) := by decide +kernel
theorem d_Md_later_35 : decode q_mMd_later.1 35 = .ok (.iadd, 1) := by decide +kernel
theorem d_Md_later_36 : decode q_mMd_later.1 36 = .ok (.putfield 184, 3) := by decide +kernel
theorem d_Md_later_39 : decode q_mMd_later.1 39 = .ok (.return_, 1) := by decide +kernel
theorem d_Md_writeNode_0 : decode q_mMd_writeNode.1 0 = .ok (.aload_n 0, 1) := by decide +kernel
theorem d_Md_writeNode_1 : decode q_mMd_writeNode.1 1 = .ok (.getfield 17, 3) := by decide +kernel
theorem d_Md_writeNode_4 : decode q_mMd_writeNode.1 4 = .ok (.iload_n 1, 1) := by decide +kernel
theorem d_Md_writeNode_5 : decode q_mMd_writeNode.1 5 = .ok (.iaload, 1) := by decide +kernel
theorem d_Md_writeNode_6 : decode q_mMd_writeNode.1 6 = .ok (.ifCond .ne 12, 3) := by decide +kernel
theorem d_Md_writeNode_9 : decode q_mMd_writeNode.1 9 = .ok (.aload_n 0, 1) := by decide +kernel
theorem d_Md_writeNode_10 : decode q_mMd_writeNode.1 10 = .ok (.iload_n 1, 1) := by decide +kernel
theorem d_Md_writeNode_11 : decode q_mMd_writeNode.1 11 = .ok (.iload_n 2, 1) := by decide +kernel
theorem d_Md_writeNode_12 : decode q_mMd_writeNode.1 12 = .ok (.invokevirtual 195, 3) := by decide +kernel
theorem d_Md_writeNode_15 : decode q_mMd_writeNode.1 15 = .ok (.goto 182, 3) := by decide +kernel
theorem d_Md_writeNode_18 : decode q_mMd_writeNode.1 18 = .ok (.aload_n 0, 1) := by decide +kernel
theorem d_Md_writeNode_19 : decode q_mMd_writeNode.1 19 = .ok (.getfield 17, 3) := by decide +kernel
theorem d_Md_writeNode_22 : decode q_mMd_writeNode.1 22 = .ok (.iload_n 1, 1) := by decide +kernel
theorem d_Md_writeNode_23 : decode q_mMd_writeNode.1 23 = .ok (.iaload, 1) := by decide +kernel
theorem d_Md_writeNode_24 : decode q_mMd_writeNode.1 24 = .ok (.iconst 2, 1) := by decide +kernel
theorem d_Md_writeNode_25 : decode q_mMd_writeNode.1 25 = .ok (.if_icmp .ne 12, 3) := by decide +kernel
theorem d_Md_writeNode_28 : decode q_mMd_writeNode.1 28 = .ok (.aload_n 0, 1) := by decide +kernel
theorem d_Md_writeNode_29 : decode q_mMd_writeNode.1 29 = .ok (.iload_n 1, 1) := by decide +kernel
theorem d_Md_writeNode_30 : decode q_mMd_writeNode.1 30 = .ok (.iload_n 2, 1) := by decide +kernel
theorem d_Md_writeNode_31 : decode q_mMd_writeNode.1 31 = .ok (.invokevirtual 198, 3) := by decide +kernel
theorem d_Md_writeNode_34 : decode q_mMd_writeNode.1 34 = .ok (.goto 163, 3) := by decide +kernel
theorem d_Md_writeNode_37 : decode q_mMd_writeNode.1 37 = .ok (.aload_n 0, 1) := by decide +kernel
theorem d_Md_writeNode_38 : decode q_mMd_writeNode.1 38 = .ok (.getfield 17, 3) := by decide +kernel
theorem d_Md_writeNode_41 : decode q_mMd_writeNode.1 41 = .ok (.iload_n 1, 1) := by decide +kernel
theorem d_Md_writeNode_42 : decode q_mMd_writeNode.1 42 = .ok (.iaload, 1) := by decide +kernel
theorem d_Md_writeNode_43 : decode q_mMd_writeNode.1 43 = .ok (.iconst 3, 1) := by decide +kernel
theorem d_Md_writeNode_44 : decode q_mMd_writeNode.1 44 = .ok (.if_icmp .ne 19, 3) := by decide +kernel
theorem d_Md_writeNode_47 : decode q_mMd_writeNode.1 47 = .ok (.aload_n 0, 1) := by decide +kernel
theorem d_Md_writeNode_48 : decode q_mMd_writeNode.1 48 = .ok (.iload_n 2, 1) := by decide +kernel
theorem d_Md_writeNode_49 : decode q_mMd_writeNode.1 49 = .ok (.iconst 0, 1) := by decide +kernel
theorem d_Md_writeNode_50 : decode q_mMd_writeNode.1 50 = .ok (.aload_n 0, 1) := by decide +kernel
theorem d_Md_writeNode_51 : decode q_mMd_writeNode.1 51 = .ok (.getfield 30, 3) := by decide +kernel
theorem d_Md_writeNode_54 : decode q_mMd_writeNode.1 54 = .ok (.iload_n 1, 1) := by decide +kernel
theorem d_Md_writeNode_55 : decode q_mMd_writeNode.1 55 = .ok (.iaload, 1) := by decide +kernel
theorem d_Md_writeNode_56 : decode q_mMd_writeNode.1 56 = .ok (.iconst 0, 1) := by decide +kernel
theorem d_Md_writeNode_57 : decode q_mMd_writeNode.1 57 = .ok (.invokevirtual 180, 3) := by decide +kernel
theorem d_Md_writeNode_60 : decode q_mMd_writeNode.1 60 = .ok (.goto 137, 3) := by decide +kernel
theorem d_Md_writeNode_63 : decode q_mMd_writeNode.1 63 = .ok (.aload_n 0, 1) := by decide +kernel
theorem d_Md_writeNode_64 : decode q_mMd_writeNode.1 64 = .ok (.getfield 17, 3) := by decide +kernel
theorem d_Md_writeNode_67 : decode q_mMd_writeNode.1 67 = .ok (.iload_n 1, 1) := by decide +kernel
theorem d_Md_writeNode_68 : decode q_mMd_writeNode.1 68 = .ok (.iaload, 1) := by decide +kernel
theorem d_Md_writeNode_69 : decode q_mMd_writeNode.1 69 = .ok (.iconst 1, 1) := by decide +kernel
theorem d_Md_writeNode_70 : decode q_mMd_writeNode.1 70 = .ok (.if_icmp .ne 50, 3) := by decide +kernel
theorem d_Md_writeNode_73 : decode q_mMd_writeNode.1 73 = .ok (.iload_n 2, 1) := by decide +kernel
theorem d_Md_writeNode_74 : decode q_mMd_writeNode.1 74 = .ok (.istore_n 3, 1) := by decide +kernel
theorem d_Md_writeNode_75 : decode q_mMd_writeNode.1 75 = .ok (.aload_n 0, 1) := by decide +kernel
theorem d_Md_writeNode_76 : decode q_mMd_writeNode.1 76 = .ok (.getfield 21, 3) := by decide +kernel
theorem d_Md_writeNode_79 : decode q_mMd_writeNode.1 79 = .ok (.iload_n 1, 1) := by decide +kernel
theorem d_Md_writeNode_80 : decode q_mMd_writeNode.1 80 = .ok (.iaload, 1) := by decide +kernel
theorem d_Md_writeNode_81 : decode q_mMd_writeNode.1 81 = .ok (.istore 4, 2) := by decide +kernel
theorem d_Md_writeNode_83 : decode q_mMd_writeNode.1 83 = .ok (.iload 4, 2) := by decide +kernel
theorem d_Md_writeNode_85 : decode q_mMd_writeNode.1 85 = .ok (.ifCond .lt 32, 3) := by decide +kernel
theorem d_Md_writeNode_88 : decode q_mMd_writeNode.1 88 = .ok (.aload_n 0, 1) := by decide +kernel
theorem d_Md_writeNode_89 : decode q_mMd_writeNode.1 89 = .ok (.iload 4, 2) := by decide +kernel
theorem d_Md_writeNode_91 : decode q_mMd_writeNode.1 91 = .ok (.iload_n 3, 1) := by decide +kernel
theorem d_Md_writeNode_92 : decode q_mMd_writeNode.1 92 = .ok (.invokevirtual 187, 3) := by decide +kernel
theorem d_Md_writeNode_95 : decode q_mMd_writeNode.1 95 = .ok (.iload_n 3, 1) := by decide +kernel
theorem d_Md_writeNode_96 : decode q_mMd_writeNode.1 96 = .ok (.aload_n 0, 1) := by decide +kernel
theorem d_Md_writeNode_97 : decode q_mMd_writeNode.1 97 = .ok (.getfield 43, 3) := by decide +kernel
theorem d_Md_writeNode_100 : decode q_mMd_writeNode.1 100 = .ok (.iload 4, 2) := by decide +kernel
theorem d_Md_writeNode_102 : decode q_mMd_writeNode.1 102 = .ok (.iaload, 1) := by decide +kernel
theorem d_Md_writeNode_103 : decode q_mMd_writeNode.1 103 = .ok (.iadd, 1) := by decide +kernel
theorem d_Md_writeNode_104 : decode q_mMd_writeNode.1 104 = .ok (.istore_n 3, 1) := by decide +kernel
theorem d_Md_writeNode_105 : decode q_mMd_writeNode.1 105 = .ok (.aload_n 0, 1) := by decide +kernel
theorem d_Md_writeNode_106 : decode q_mMd_writeNode.1 106 = .ok (.getfield 27, 3) := by decide +kernel
theorem d_Md_writeNode_109 : decode q_mMd_writeNode.1 109 = .ok (.iload 4, 2) := by decide +kernel
theorem d_Md_writeNode_111 : decode q_mMd_writeNode.1 111 = .ok (.iaload, 1) := by decide +kernel
theorem d_Md_writeNode_112 : decode q_mMd_writeNode.1 112 = .ok (.istore 4, 2) := by decide +kernel
theorem d_Md_writeNode_114 : decode q_mMd_writeNode.1 114 = .ok (.goto (-31), 3) := by decide +kernel
theorem d_Md_writeNode_117 : decode q_mMd_writeNode.1 117 = .ok (.goto 80, 3) := by decide +kernel
theorem d_Md_writeNode_120 : decode q_mMd_writeNode.1 120 = .ok (.aload_n 0, 1) := by decide +kernel
theorem d_Md_writeNode_121 : decode q_mMd_writeNode.1 121 = .ok (.getfield 30, 3) := by decide +kernel
theorem d_Md_writeNode_124 : decode q_mMd_writeNode.1 124 = .ok (.iload_n 1, 1) := by decide +kernel
theorem d_Md_writeNode_125 : decode q_mMd_writeNode.1 125 = .ok (.iaload, 1) := by decide +kernel
theorem d_Md_writeNode_126 : decode q_mMd_writeNode.1 126 = .ok (.ifCond .le 60, 3) := by decide +kernel
theorem d_Md_writeNode_129 : decode q_mMd_writeNode.1 129 = .ok (.aload_n 0, 1) := by decide +kernel
theorem d_Md_writeNode_130 : decode q_mMd_writeNode.1 130 = .ok (.iload_n 2, 1) := by decide +kernel
theorem d_Md_writeNode_131 : decode q_mMd_writeNode.1 131 = .ok (.iconst 3, 1) := by decide +kernel
theorem d_Md_writeNode_132 : decode q_mMd_writeNode.1 132 = .ok (.iconst 2, 1) := by decide +kernel
theorem d_Md_writeNode_133 : decode q_mMd_writeNode.1 133 = .ok (.aload_n 0, 1) := by decide +kernel
theorem d_Md_writeNode_134 : decode q_mMd_writeNode.1 134 = .ok (.getfield 30, 3) := by decide +kernel
theorem d_Md_writeNode_137 : decode q_mMd_writeNode.1 137 = .ok (.iload_n 1, 1) := by decide +kernel
theorem d_Md_writeNode_138 : decode q_mMd_writeNode.1 138 = .ok (.iaload, 1) := by decide +kernel
theorem d_Md_writeNode_139 : decode q_mMd_writeNode.1 139 = .ok (.imul, 1) := by decide +kernel
theorem d_Md_writeNode_140 : decode q_mMd_writeNode.1 140 = .ok (.iconst 0, 1) := by decide +kernel
theorem d_Md_writeNode_141 : decode q_mMd_writeNode.1 141 = .ok (.invokevirtual 180, 3) := by decide +kernel
theorem d_Md_writeNode_144 : decode q_mMd_writeNode.1 144 = .ok (.aload_n 0, 1) := by decide +kernel
theorem d_Md_writeNode_145 : decode q_mMd_writeNode.1 145 = .ok (.aload_n 0, 1) := by decide +kernel
theorem d_Md_writeNode_146 : decode q_mMd_writeNode.1 146 = .ok (.getfield 21, 3) := by decide +kernel
theorem d_Md_writeNode_149 : decode q_mMd_writeNode.1 149 = .ok (.iload_n 1, 1) := by decide +kernel
theorem d_Md_writeNode_150 : decode q_mMd_writeNode.1 150 = .ok (.iaload, 1) := by decide +kernel
theorem d_Md_writeNode_151 : decode q_mMd_writeNode.1 151 = .ok (.iload_n 2, 1) := by decide +kernel
theorem d_Md_writeNode_152 : decode q_mMd_writeNode.1 152 = .ok (.iconst 1, 1) := by decide +kernel
theorem d_Md_writeNode_153 : decode q_mMd_writeNode.1 153 = .ok (.iadd, 1) := by decide +kernel
theorem d_Md_writeNode_154 : decode q_mMd_writeNode.1 154 = .ok (.invokevirtual 187, 3) := by decide +kernel
theorem d_Md_writeNode_157 : decode q_mMd_writeNode.1 157 = .ok (.aload_n 0, 1) := by decide +kernel
theorem d_Md_writeNode_158 : decode q_mMd_writeNode.1 158 = .ok (.iload_n 2, 1) := by decide +kernel
theorem d_Md_writeNode_159 : decode q_mMd_writeNode.1 159 = .ok (.aload_n 0, 1) := by decide +kernel
theorem d_Md_writeNode_160 : decode q_mMd_writeNode.1 160 = .ok (.getfield 43, 3) := by decide +kernel
theorem d_Md_writeNode_163 : decode q_mMd_writeNode.1 163 = .ok (.iload_n 1, 1) := by decide +kernel
theorem d_Md_writeNode_164 : decode q_mMd_writeNode.1 164 = .ok (.iaload, 1) := by decide +kernel
theorem d_Md_writeNode_165 : decode q_mMd_writeNode.1 165 = .ok (.iadd, 1) := by decide +kernel
theorem d_Md_writeNode_166 : decode q_mMd_writeNode.1 166 = .ok (.iconst 1, 1) := by decide +kernel
theorem d_Md_writeNode_167 : decode q_mMd_writeNode.1 167 = .ok (.isub, 1) := by decide +kernel
theorem d_Md_writeNode_168 : decode q_mMd_writeNode.1 168 = .ok (.iconst 3, 1) := by decide +kernel
theorem d_Md_writeNode_169 : decode q_mMd_writeNode.1 169 = .ok (.iconst 2, 1) := by decide +kernel
theorem d_Md_writeNode_170 : decode q_mMd_writeNode.1 170 = .ok (.aload_n 0, 1) := by decide +kernel
theorem d_Md_writeNode_171 : decode q_mMd_writeNode.1 171 = .ok (.getfield 30, 3) := by decide +kernel
theorem d_Md_writeNode_174 : decode q_mMd_writeNode.1 174 = .ok (.iload_n 1, 1) := by decide +kernel
theorem d_Md_writeNode_175 : decode q_mMd_writeNode.1 175 = .ok (.iaload, 1) := by decide +kernel
theorem d_Md_writeNode_176 : decode q_mMd_writeNode.1 176 = .ok (.imul, 1) := by decide +kernel
theorem d_Md_writeNode_177 : decode q_mMd_writeNode.1 177 = .ok (.iconst 1, 1) := by decide +kernel
theorem d_Md_writeNode_178 : decode q_mMd_writeNode.1 178 = .ok (.iadd, 1) := by decide +kernel
theorem d_Md_writeNode_179 : decode q_mMd_writeNode.1 179 = .ok (.iconst 0, 1) := by decide +kernel
theorem d_Md_writeNode_180 : decode q_mMd_writeNode.1 180 = .ok (.invokevirtual 180, 3) := by decide +kernel
theorem d_Md_writeNode_183 : decode q_mMd_writeNode.1 183 = .ok (.goto 14, 3) := by decide +kernel
theorem d_Md_writeNode_186 : decode q_mMd_writeNode.1 186 = .ok (.aload_n 0, 1) := by decide +kernel
theorem d_Md_writeNode_187 : decode q_mMd_writeNode.1 187 = .ok (.aload_n 0, 1) := by decide +kernel
theorem d_Md_writeNode_188 : decode q_mMd_writeNode.1 188 = .ok (.getfield 21, 3) := by decide +kernel
theorem d_Md_writeNode_191 : decode q_mMd_writeNode.1 191 = .ok (.iload_n 1, 1) := by decide +kernel
theorem d_Md_writeNode_192 : decode q_mMd_writeNode.1 192 = .ok (.iaload, 1) := by decide +kernel
theorem d_Md_writeNode_193 : decode q_mMd_writeNode.1 193 = .ok (.iload_n 2, 1) := by decide +kernel
theorem d_Md_writeNode_194 : decode q_mMd_writeNode.1 194 = .ok (.invokevirtual 187, 3) := by decide +kernel
theorem d_Md_writeNode_197 : decode q_mMd_writeNode.1 197 = .ok (.return_, 1) := by decide +kernel
theorem d_Md_writeChoice_0 : decode q_mMd_writeChoice.1 0 = .ok (.iload_n 2, 1) := by decide +kernel
theorem d_Md_writeChoice_1 : decode q_mMd_writeChoice.1 1 = .ok (.aload_n 0, 1) := by decide +kernel
theorem d_Md_writeChoice_2 : decode q_mMd_writeChoice.1 2 = .ok (.getfield 43, 3) := by decide +kernel
theorem d_Md_writeChoice_5 : decode q_mMd_writeChoice.1 5 = .ok (.iload_n 1, 1) := by decide +kernel
theorem d_Md_writeChoice_6 : decode q_mMd_writeChoice.1 6 = .ok (.iaload, 1) := by decide +kernel
theorem d_Md_writeChoice_7 : decode q_mMd_writeChoice.1 7 = .ok (.iadd, 1) := by decide +kernel
theorem d_Md_writeChoice_8 : decode q_mMd_writeChoice.1 8 = .ok (.istore_n 3, 1) := by decide +kernel
theorem d_Md_writeChoice_9 : decode q_mMd_writeChoice.1 9 = .ok (.iload_n 2, 1) := by decide +kernel
theorem d_Md_writeChoice_10 : decode q_mMd_writeChoice.1 10 = .ok (.istore 4, 2) := by decide +kernel
theorem d_Md_writeChoice_12 : decode q_mMd_writeChoice.1 12 = .ok (.aload_n 0, 1) := by decide +kernel
theorem d_Md_writeChoice_13 : decode q_mMd_writeChoice.1 13 = .ok (.getfield 21, 3) := by decide +kernel
theorem d_Md_writeChoice_16 : decode q_mMd_writeChoice.1 16 = .ok (.iload_n 1, 1) := by decide +kernel
theorem d_Md_writeChoice_17 : decode q_mMd_writeChoice.1 17 = .ok (.iaload, 1) := by decide +kernel
theorem d_Md_writeChoice_18 : decode q_mMd_writeChoice.1 18 = .ok (.istore 5, 2) := by decide +kernel
theorem d_Md_writeChoice_20 : decode q_mMd_writeChoice.1 20 = .ok (.iload 5, 2) := by decide +kernel
theorem d_Md_writeChoice_22 : decode q_mMd_writeChoice.1 22 = .ok (.ifCond .lt 102, 3) := by decide +kernel
theorem d_Md_writeChoice_25 : decode q_mMd_writeChoice.1 25 = .ok (.aload_n 0, 1) := by decide +kernel
theorem d_Md_writeChoice_26 : decode q_mMd_writeChoice.1 26 = .ok (.getfield 27, 3) := by decide +kernel
theorem d_Md_writeChoice_29 : decode q_mMd_writeChoice.1 29 = .ok (.iload 5, 2) := by decide +kernel
theorem d_Md_writeChoice_31 : decode q_mMd_writeChoice.1 31 = .ok (.iaload, 1) := by decide +kernel
theorem d_Md_writeChoice_32 : decode q_mMd_writeChoice.1 32 = .ok (.ifCond .lt 72, 3) := by decide +kernel
theorem d_Md_writeChoice_35 : decode q_mMd_writeChoice.1 35 = .ok (.aload_n 0, 1) := by decide +kernel
theorem d_Md_writeChoice_36 : decode q_mMd_writeChoice.1 36 = .ok (.iload 4, 2) := by decide +kernel
theorem d_Md_writeChoice_38 : decode q_mMd_writeChoice.1 38 = .ok (.iconst 1, 1) := by decide +kernel
theorem d_Md_writeChoice_39 : decode q_mMd_writeChoice.1 39 = .ok (.iload 4, 2) := by decide +kernel
theorem d_Md_writeChoice_41 : decode q_mMd_writeChoice.1 41 = .ok (.iconst 1, 1) := by decide +kernel
theorem d_Md_writeChoice_42 : decode q_mMd_writeChoice.1 42 = .ok (.iadd, 1) := by decide +kernel
theorem d_Md_writeChoice_43 : decode q_mMd_writeChoice.1 43 = .ok (.iload 4, 2) := by decide +kernel
theorem d_Md_writeChoice_45 : decode q_mMd_writeChoice.1 45 = .ok (.aload_n 0, 1) := by decide +kernel
theorem d_Md_writeChoice_46 : decode q_mMd_writeChoice.1 46 = .ok (.getfield 43, 3) := by decide +kernel
theorem d_Md_writeChoice_49 : decode q_mMd_writeChoice.1 49 = .ok (.iload 5, 2) := by decide +kernel
theorem d_Md_writeChoice_51 : decode q_mMd_writeChoice.1 51 = .ok (.iaload, 1) := by decide +kernel
theorem d_Md_writeChoice_52 : decode q_mMd_writeChoice.1 52 = .ok (.iadd, 1) := by decide +kernel
theorem d_Md_writeChoice_53 : decode q_mMd_writeChoice.1 53 = .ok (.iconst 2, 1) := by decide +kernel
theorem d_Md_writeChoice_54 : decode q_mMd_writeChoice.1 54 = .ok (.iadd, 1) := by decide +kernel
theorem d_Md_writeChoice_55 : decode q_mMd_writeChoice.1 55 = .ok (.invokevirtual 180, 3) := by decide +kernel
theorem d_Md_writeChoice_58 : decode q_mMd_writeChoice.1 58 = .ok (.aload_n 0, 1) := by decide +kernel
theorem d_Md_writeChoice_59 : decode q_mMd_writeChoice.1 59 = .ok (.iload 5, 2) := by decide +kernel
theorem d_Md_writeChoice_61 : decode q_mMd_writeChoice.1 61 = .ok (.iload 4, 2) := by decide +kernel
theorem d_Md_writeChoice_63 : decode q_mMd_writeChoice.1 63 = .ok (.iconst 1, 1) := by decide +kernel
theorem d_Md_writeChoice_64 : decode q_mMd_writeChoice.1 64 = .ok (.iadd, 1) := by decide +kernel
theorem d_Md_writeChoice_65 : decode q_mMd_writeChoice.1 65 = .ok (.invokevirtual 187, 3) := by decide +kernel
theorem d_Md_writeChoice_68 : decode q_mMd_writeChoice.1 68 = .ok (.aload_n 0, 1) := by decide +kernel
theorem d_Md_writeChoice_69 : decode q_mMd_writeChoice.1 69 = .ok (.iload 4, 2) := by decide +kernel
theorem d_Md_writeChoice_71 : decode q_mMd_writeChoice.1 71 = .ok (.aload_n 0, 1) := by decide +kernel
theorem d_Md_writeChoice_72 : decode q_mMd_writeChoice.1 72 = .ok (.getfield 43, 3) := by decide +kernel
theorem d_Md_writeChoice_75 : decode q_mMd_writeChoice.1 75 = .ok (.iload 5, 2) := by decide +kernel
theorem d_Md_writeChoice_77 : decode q_mMd_writeChoice.1 77 = .ok (.iaload, 1) := by decide +kernel
theorem d_Md_writeChoice_78 : decode q_mMd_writeChoice.1 78 = .ok (.iadd, 1) := by decide +kernel
theorem d_Md_writeChoice_79 : decode q_mMd_writeChoice.1 79 = .ok (.iconst 1, 1) := by decide +kernel
theorem d_Md_writeChoice_80 : decode q_mMd_writeChoice.1 80 = .ok (.iadd, 1) := by decide +kernel
theorem d_Md_writeChoice_81 : decode q_mMd_writeChoice.1 81 = .ok (.iconst 2, 1) := by decide +kernel
theorem d_Md_writeChoice_82 : decode q_mMd_writeChoice.1 82 = .ok (.iload_n 3, 1) := by decide +kernel
theorem d_Md_writeChoice_83 : decode q_mMd_writeChoice.1 83 = .ok (.iconst 0, 1) := by decide +kernel
theorem d_Md_writeChoice_84 : decode q_mMd_writeChoice.1 84 = .ok (.invokevirtual 180, 3) := by decide +kernel
theorem d_Md_writeChoice_87 : decode q_mMd_writeChoice.1 87 = .ok (.iload 4, 2) := by decide +kernel
theorem d_Md_writeChoice_89 : decode q_mMd_writeChoice.1 89 = .ok (.aload_n 0, 1) := by decide +kernel
theorem d_Md_writeChoice_90 : decode q_mMd_writeChoice.1 90 = .ok (.getfield 43, 3) := by decide +kernel
theorem d_Md_writeChoice_93 : decode q_mMd_writeChoice.1 93 = .ok (.iload 5, 2) := by decide +kernel
theorem d_Md_writeChoice_95 : decode q_mMd_writeChoice.1 95 = .ok (.iaload, 1) := by decide +kernel
theorem d_Md_writeChoice_96 : decode q_mMd_writeChoice.1 96 = .ok (.iconst 2, 1) := by decide +kernel
theorem d_Md_writeChoice_97 : decode q_mMd_writeChoice.1 97 = .ok (.iadd, 1) := by decide +kernel
theorem d_Md_writeChoice_98 : decode q_mMd_writeChoice.1 98 = .ok (.iadd, 1) := by decide +kernel
theorem d_Md_writeChoice_99 : decode q_mMd_writeChoice.1 99 = .ok (.istore 4, 2) := by decide +kernel
theorem d_Md_writeChoice_101 : decode q_mMd_writeChoice.1 101 = .ok (.goto 11, 3) := by decide +kernel
theorem d_Md_writeChoice_104 : decode q_mMd_writeChoice.1 104 = .ok (.aload_n 0, 1) := by decide +kernel
theorem d_Md_writeChoice_105 : decode q_mMd_writeChoice.1 105 = .ok (.iload 5, 2) := by decide +kernel
theorem d_Md_writeChoice_107 : decode q_mMd_writeChoice.1 107 = .ok (.iload 4, 2) := by decide +kernel
theorem d_Md_writeChoice_109 : decode q_mMd_writeChoice.1 109 = .ok (.invokevirtual 187, 3) := by decide +kernel
theorem d_Md_writeChoice_112 : decode q_mMd_writeChoice.1 112 = .ok (.aload_n 0, 1) := by decide +kernel
theorem d_Md_writeChoice_113 : decode q_mMd_writeChoice.1 113 = .ok (.getfield 27, 3) := by decide +kernel
theorem d_Md_writeChoice_116 : decode q_mMd_writeChoice.1 116 = .ok (.iload 5, 2) := by decide +kernel
theorem d_Md_writeChoice_118 : decode q_mMd_writeChoice.1 118 = .ok (.iaload, 1) := by decide +kernel
theorem d_Md_writeChoice_119 : decode q_mMd_writeChoice.1 119 = .ok (.istore 5, 2) := by decide +kernel
theorem d_Md_writeChoice_121 : decode q_mMd_writeChoice.1 121 = .ok (.goto (-101), 3) := by decide +kernel
theorem d_Md_writeChoice_124 : decode q_mMd_writeChoice.1 124 = .ok (.return_, 1) := by decide +kernel
theorem d_Md_writeRepeat_0 : decode q_mMd_writeRepeat.1 0 = .ok (.aload_n 0, 1) := by decide +kernel
theorem d_Md_writeRepeat_1 : decode q_mMd_writeRepeat.1 1 = .ok (.getfield 21, 3) := by decide +kernel
theorem d_Md_writeRepeat_4 : decode q_mMd_writeRepeat.1 4 = .ok (.iload_n 1, 1) := by decide +kernel
theorem d_Md_writeRepeat_5 : decode q_mMd_writeRepeat.1 5 = .ok (.iaload, 1) := by decide +kernel
theorem d_Md_writeRepeat_6 : decode q_mMd_writeRepeat.1 6 = .ok (.istore_n 3, 1) := by decide +kernel
theorem d_Md_writeRepeat_7 : decode q_mMd_writeRepeat.1 7 = .ok (.aload_n 0, 1) := by decide +kernel
theorem d_Md_writeRepeat_8 : decode q_mMd_writeRepeat.1 8 = .ok (.getfield 43, 3) := by decide +kernel
theorem d_Md_writeRepeat_11 : decode q_mMd_writeRepeat.1 11 = .ok (.iload_n 3, 1) := by decide +kernel
theorem d_Md_writeRepeat_12 : decode q_mMd_writeRepeat.1 12 = .ok (.iaload, 1) := by decide +kernel
theorem d_Md_writeRepeat_13 : decode q_mMd_writeRepeat.1 13 = .ok (.istore 4, 2) := by decide +kernel
theorem d_Md_writeRepeat_15 : decode q_mMd_writeRepeat.1 15 = .ok (.aload_n 0, 1) := by decide +kernel
theorem d_Md_writeRepeat_16 : decode q_mMd_writeRepeat.1 16 = .ok (.getfield 30, 3) := by decide +kernel
theorem d_Md_writeRepeat_19 : decode q_mMd_writeRepeat.1 19 = .ok (.iload_n 1, 1) := by decide +kernel
theorem d_Md_writeRepeat_20 : decode q_mMd_writeRepeat.1 20 = .ok (.iaload, 1) := by decide +kernel
theorem d_Md_writeRepeat_21 : decode q_mMd_writeRepeat.1 21 = .ok (.istore 5, 2) := by decide +kernel
theorem d_Md_writeRepeat_23 : decode q_mMd_writeRepeat.1 23 = .ok (.iload_n 2, 1) := by decide +kernel
theorem d_Md_writeRepeat_24 : decode q_mMd_writeRepeat.1 24 = .ok (.istore 6, 2) := by decide +kernel
theorem d_Md_writeRepeat_26 : decode q_mMd_writeRepeat.1 26 = .ok (.iload 5, 2) := by decide +kernel
theorem d_Md_writeRepeat_28 : decode q_mMd_writeRepeat.1 28 = .ok (.ifCond .eq 9, 3) := by decide +kernel
theorem d_Md_writeRepeat_31 : decode q_mMd_writeRepeat.1 31 = .ok (.iload 5, 2) := by decide +kernel
theorem d_Md_writeRepeat_33 : decode q_mMd_writeRepeat.1 33 = .ok (.iconst 2, 1) := by decide +kernel
theorem d_Md_writeRepeat_34 : decode q_mMd_writeRepeat.1 34 = .ok (.if_icmp .ne 7, 3) := by decide +kernel
theorem d_Md_writeRepeat_37 : decode q_mMd_writeRepeat.1 37 = .ok (.iconst 1, 1) := by decide +kernel
theorem d_Md_writeRepeat_38 : decode q_mMd_writeRepeat.1 38 = .ok (.goto 19, 3) := by decide +kernel
theorem d_Md_writeRepeat_41 : decode q_mMd_writeRepeat.1 41 = .ok (.iload 5, 2) := by decide +kernel
theorem d_Md_writeRepeat_43 : decode q_mMd_writeRepeat.1 43 = .ok (.iconst 3, 1) := by decide +kernel
theorem d_Md_writeRepeat_44 : decode q_mMd_writeRepeat.1 44 = .ok (.if_icmp .le 12, 3) := by decide +kernel
theorem d_Md_writeRepeat_47 : decode q_mMd_writeRepeat.1 47 = .ok (.aload_n 0, 1) := by decide +kernel
theorem d_Md_writeRepeat_48 : decode q_mMd_writeRepeat.1 48 = .ok (.getfield 33, 3) := by decide +kernel
theorem d_Md_writeRepeat_51 : decode q_mMd_writeRepeat.1 51 = .ok (.iload_n 1, 1) := by decide +kernel
theorem d_Md_writeRepeat_52 : decode q_mMd_writeRepeat.1 52 = .ok (.iaload, 1) := by decide +kernel
theorem d_Md_writeRepeat_53 : decode q_mMd_writeRepeat.1 53 = .ok (.goto 4, 3) := by decide +kernel
theorem d_Md_writeRepeat_56 : decode q_mMd_writeRepeat.1 56 = .ok (.iconst 0, 1) := by decide +kernel
theorem d_Md_writeRepeat_57 : decode q_mMd_writeRepeat.1 57 = .ok (.istore 7, 2) := by decide +kernel
theorem d_Md_writeRepeat_59 : decode q_mMd_writeRepeat.1 59 = .ok (.iconst 0, 1) := by decide +kernel
theorem d_Md_writeRepeat_60 : decode q_mMd_writeRepeat.1 60 = .ok (.istore 8, 2) := by decide +kernel
theorem d_Md_writeRepeat_62 : decode q_mMd_writeRepeat.1 62 = .ok (.iload 8, 2) := by decide +kernel
theorem d_Md_writeRepeat_64 : decode q_mMd_writeRepeat.1 64 = .ok (.iload 7, 2) := by decide +kernel
theorem d_Md_writeRepeat_66 : decode q_mMd_writeRepeat.1 66 = .ok (.if_icmp .ge 23, 3) := by decide +kernel
theorem d_Md_writeRepeat_69 : decode q_mMd_writeRepeat.1 69 = .ok (.aload_n 0, 1) := by decide +kernel
theorem d_Md_writeRepeat_70 : decode q_mMd_writeRepeat.1 70 = .ok (.iload_n 3, 1) := by decide +kernel
theorem d_Md_writeRepeat_71 : decode q_mMd_writeRepeat.1 71 = .ok (.iload 6, 2) := by decide +kernel
theorem d_Md_writeRepeat_73 : decode q_mMd_writeRepeat.1 73 = .ok (.invokevirtual 187, 3) := by decide +kernel
theorem d_Md_writeRepeat_76 : decode q_mMd_writeRepeat.1 76 = .ok (.iload 6, 2) := by decide +kernel
theorem d_Md_writeRepeat_78 : decode q_mMd_writeRepeat.1 78 = .ok (.iload 4, 2) := by decide +kernel
theorem d_Md_writeRepeat_80 : decode q_mMd_writeRepeat.1 80 = .ok (.iadd, 1) := by decide +kernel
theorem d_Md_writeRepeat_81 : decode q_mMd_writeRepeat.1 81 = .ok (.istore 6, 2) := by decide +kernel
theorem d_Md_writeRepeat_83 : decode q_mMd_writeRepeat.1 83 = .ok (.iinc 8 1, 3) := by decide +kernel
theorem d_Md_writeRepeat_86 : decode q_mMd_writeRepeat.1 86 = .ok (.goto (-24), 3) := by decide +kernel
theorem d_Md_writeRepeat_89 : decode q_mMd_writeRepeat.1 89 = .ok (.iload 5, 2) := by decide +kernel
theorem d_Md_writeRepeat_91 : decode q_mMd_writeRepeat.1 91 = .ok (.iconst 2, 1) := by decide +kernel
theorem d_Md_writeRepeat_92 : decode q_mMd_writeRepeat.1 92 = .ok (.if_icmp .ne 23, 3) := by decide +kernel
theorem d_Md_writeRepeat_95 : decode q_mMd_writeRepeat.1 95 = .ok (.aload_n 0, 1) := by decide +kernel
theorem d_Md_writeRepeat_96 : decode q_mMd_writeRepeat.1 96 = .ok (.iload 6, 2) := by decide +kernel
theorem d_Md_writeRepeat_98 : decode q_mMd_writeRepeat.1 98 = .ok (.iload_n 2, 1) := by decide +kernel
theorem d_Md_writeRepeat_99 : decode q_mMd_writeRepeat.1 99 = .ok (.iload 6, 2) := by decide +kernel
theorem d_Md_writeRepeat_101 : decode q_mMd_writeRepeat.1 101 = .ok (.iconst 1, 1) := by decide +kernel
theorem d_Md_writeRepeat_102 : decode q_mMd_writeRepeat.1 102 = .ok (.iadd, 1) := by decide +kernel
theorem d_Md_writeRepeat_103 : decode q_mMd_writeRepeat.1 103 = .ok (.aload_n 0, 1) := by decide +kernel
theorem d_Md_writeRepeat_104 : decode q_mMd_writeRepeat.1 104 = .ok (.getfield 39, 3) := by decide +kernel
theorem d_Md_writeRepeat_107 : decode q_mMd_writeRepeat.1 107 = .ok (.iload_n 1, 1) := by decide +kernel
theorem d_Md_writeRepeat_108 : decode q_mMd_writeRepeat.1 108 = .ok (.baload, 1) := by decide +kernel
theorem d_Md_writeRepeat_109 : decode q_mMd_writeRepeat.1 109 = .ok (.invokevirtual 191, 3) := by decide +kernel
theorem d_Md_writeRepeat_112 : decode q_mMd_writeRepeat.1 112 = .ok (.goto 165, 3) := by decide +kernel
theorem d_Md_writeRepeat_115 : decode q_mMd_writeRepeat.1 115 = .ok (.iload 5, 2) := by decide +kernel
theorem d_Md_writeRepeat_117 : decode q_mMd_writeRepeat.1 117 = .ok (.iconst 1, 1) := by decide +kernel
theorem d_Md_writeRepeat_118 : decode q_mMd_writeRepeat.1 118 = .ok (.if_icmp .eq 9, 3) := by decide +kernel
theorem d_Md_writeRepeat_121 : decode q_mMd_writeRepeat.1 121 = .ok (.iload 5, 2) := by decide +kernel
theorem d_Md_writeRepeat_123 : decode q_mMd_writeRepeat.1 123 = .ok (.iconst 5, 1) := by decide +kernel
theorem d_Md_writeRepeat_124 : decode q_mMd_writeRepeat.1 124 = .ok (.if_icmp .ne 53, 3) := by decide +kernel
theorem d_Md_writeRepeat_127 : decode q_mMd_writeRepeat.1 127 = .ok (.aload_n 0, 1) := by decide +kernel
theorem d_Md_writeRepeat_128 : decode q_mMd_writeRepeat.1 128 = .ok (.iload 6, 2) := by decide +kernel
theorem d_Md_writeRepeat_130 : decode q_mMd_writeRepeat.1 130 = .ok (.iload 6, 2) := by decide +kernel
theorem d_Md_writeRepeat_132 : decode q_mMd_writeRepeat.1 132 = .ok (.iconst 1, 1) := by decide +kernel
theorem d_Md_writeRepeat_133 : decode q_mMd_writeRepeat.1 133 = .ok (.iadd, 1) := by decide +kernel
theorem d_Md_writeRepeat_134 : decode q_mMd_writeRepeat.1 134 = .ok (.iload 6, 2) := by decide +kernel
theorem d_Md_writeRepeat_136 : decode q_mMd_writeRepeat.1 136 = .ok (.iload 4, 2) := by decide +kernel
theorem d_Md_writeRepeat_138 : decode q_mMd_writeRepeat.1 138 = .ok (.iadd, 1) := by decide +kernel
theorem d_Md_writeRepeat_139 : decode q_mMd_writeRepeat.1 139 = .ok (.iconst 2, 1) := by decide +kernel
theorem d_Md_writeRepeat_140 : decode q_mMd_writeRepeat.1 140 = .ok (.iadd, 1) := by decide +kernel
theorem d_Md_writeRepeat_141 : decode q_mMd_writeRepeat.1 141 = .ok (.aload_n 0, 1) := by decide +kernel
theorem d_Md_writeRepeat_142 : decode q_mMd_writeRepeat.1 142 = .ok (.getfield 39, 3) := by decide +kernel
theorem d_Md_writeRepeat_145 : decode q_mMd_writeRepeat.1 145 = .ok (.iload_n 1, 1) := by decide +kernel
theorem d_Md_writeRepeat_146 : decode q_mMd_writeRepeat.1 146 = .ok (.baload, 1) := by decide +kernel
theorem d_Md_writeRepeat_147 : decode q_mMd_writeRepeat.1 147 = .ok (.invokevirtual 191, 3) := by decide +kernel
theorem d_Md_writeRepeat_150 : decode q_mMd_writeRepeat.1 150 = .ok (.aload_n 0, 1) := by decide +kernel
theorem d_Md_writeRepeat_151 : decode q_mMd_writeRepeat.1 151 = .ok (.iload_n 3, 1) := by decide +kernel
theorem d_Md_writeRepeat_152 : decode q_mMd_writeRepeat.1 152 = .ok (.iload 6, 2) := by decide +kernel
theorem d_Md_writeRepeat_154 : decode q_mMd_writeRepeat.1 154 = .ok (.iconst 1, 1) := by decide +kernel
theorem d_Md_writeRepeat_155 : decode q_mMd_writeRepeat.1 155 = .ok (.iadd, 1) := by decide +kernel
theorem d_Md_writeRepeat_156 : decode q_mMd_writeRepeat.1 156 = .ok (.invokevirtual 187, 3) := by decide +kernel
theorem d_Md_writeRepeat_159 : decode q_mMd_writeRepeat.1 159 = .ok (.aload_n 0, 1) := by decide +kernel
theorem d_Md_writeRepeat_160 : decode q_mMd_writeRepeat.1 160 = .ok (.iload 6, 2) := by decide +kernel
theorem d_Md_writeRepeat_162 : decode q_mMd_writeRepeat.1 162 = .ok (.iload 4, 2) := by decide +kernel
theorem d_Md_writeRepeat_164 : decode q_mMd_writeRepeat.1 164 = .ok (.iadd, 1) := by decide +kernel
theorem d_Md_writeRepeat_165 : decode q_mMd_writeRepeat.1 165 = .ok (.iconst 1, 1) := by decide +kernel
theorem d_Md_writeRepeat_166 : decode q_mMd_writeRepeat.1 166 = .ok (.iadd, 1) := by decide +kernel
theorem d_Md_writeRepeat_167 : decode q_mMd_writeRepeat.1 167 = .ok (.iconst 2, 1) := by decide +kernel
theorem d_Md_writeRepeat_168 : decode q_mMd_writeRepeat.1 168 = .ok (.iload 6, 2) := by decide +kernel
theorem d_Md_writeRepeat_170 : decode q_mMd_writeRepeat.1 170 = .ok (.iconst 0, 1) := by decide +kernel
theorem d_Md_writeRepeat_171 : decode q_mMd_writeRepeat.1 171 = .ok (.invokevirtual 180, 3) := by decide +kernel
theorem d_Md_writeRepeat_174 : decode q_mMd_writeRepeat.1 174 = .ok (.goto 103, 3) := by decide +kernel
theorem d_Md_writeRepeat_177 : decode q_mMd_writeRepeat.1 177 = .ok (.iload 5, 2) := by decide +kernel
theorem d_Md_writeRepeat_179 : decode q_mMd_writeRepeat.1 179 = .ok (.iconst 3, 1) := by decide +kernel
theorem d_Md_writeRepeat_180 : decode q_mMd_writeRepeat.1 180 = .ok (.if_icmp .eq 10, 3) := by decide +kernel
theorem d_Md_writeRepeat_183 : decode q_mMd_writeRepeat.1 183 = .ok (.iload 5, 2) := by decide +kernel
theorem d_Md_writeRepeat_185 : decode q_mMd_writeRepeat.1 185 = .ok (.bipush 6, 2) := by decide +kernel
theorem d_Md_writeRepeat_187 : decode q_mMd_writeRepeat.1 187 = .ok (.if_icmp .ne 90, 3) := by decide +kernel
theorem d_Md_writeRepeat_190 : decode q_mMd_writeRepeat.1 190 = .ok (.iload_n 2, 1) := by decide +kernel
theorem d_Md_writeRepeat_191 : decode q_mMd_writeRepeat.1 191 = .ok (.aload_n 0, 1) := by decide +kernel
theorem d_Md_writeRepeat_192 : decode q_mMd_writeRepeat.1 192 = .ok (.getfield 43, 3) := by decide +kernel
theorem d_Md_writeRepeat_195 : decode q_mMd_writeRepeat.1 195 = .ok (.iload_n 1, 1) := by decide +kernel
theorem d_Md_writeRepeat_196 : decode q_mMd_writeRepeat.1 196 = .ok (.iaload, 1) := by decide +kernel
theorem d_Md_writeRepeat_197 : decode q_mMd_writeRepeat.1 197 = .ok (.iadd, 1) := by decide +kernel
theorem d_Md_writeRepeat_198 : decode q_mMd_writeRepeat.1 198 = .ok (.istore 8, 2) := by decide +kernel
theorem d_Md_writeRepeat_200 : decode q_mMd_writeRepeat.1 200 = .ok (.iload 5, 2) := by decide +kernel
theorem d_Md_writeRepeat_202 : decode q_mMd_writeRepeat.1 202 = .ok (.iconst 3, 1) := by decide +kernel
theorem d_Md_writeRepeat_203 : decode q_mMd_writeRepeat.1 203 = .ok (.if_icmp .ne 7, 3) := by decide +kernel
theorem d_Md_writeRepeat_206 : decode q_mMd_writeRepeat.1 206 = .ok (.iconst 1, 1) := by decide +kernel
theorem d_Md_writeRepeat_207 : decode q_mMd_writeRepeat.1 207 = .ok (.goto 16, 3) := by decide +kernel
theorem d_Md_writeRepeat_210 : decode q_mMd_writeRepeat.1 210 = .ok (.aload_n 0, 1) := by decide +kernel
theorem d_Md_writeRepeat_211 : decode q_mMd_writeRepeat.1 211 = .ok (.getfield 36, 3) := by decide +kernel
theorem d_Md_writeRepeat_214 : decode q_mMd_writeRepeat.1 214 = .ok (.iload_n 1, 1) := by decide +kernel
theorem d_Md_writeRepeat_215 : decode q_mMd_writeRepeat.1 215 = .ok (.iaload, 1) := by decide +kernel
theorem d_Md_writeRepeat_216 : decode q_mMd_writeRepeat.1 216 = .ok (.aload_n 0, 1) := by decide +kernel
theorem d_Md_writeRepeat_217 : decode q_mMd_writeRepeat.1 217 = .ok (.getfield 33, 3) := by decide +kernel
theorem d_Md_writeRepeat_220 : decode q_mMd_writeRepeat.1 220 = .ok (.iload_n 1, 1) := by decide +kernel
theorem d_Md_writeRepeat_221 : decode q_mMd_writeRepeat.1 221 = .ok (.iaload, 1) := by decide +kernel
theorem d_Md_writeRepeat_222 : decode q_mMd_writeRepeat.1 222 = .ok (.isub, 1) := by decide +kernel
theorem d_Md_writeRepeat_223 : decode q_mMd_writeRepeat.1 223 = .ok (.istore 9, 2) := by decide +kernel
theorem d_Md_writeRepeat_225 : decode q_mMd_writeRepeat.1 225 = .ok (.iconst 0, 1) := by decide +kernel
theorem d_Md_writeRepeat_226 : decode q_mMd_writeRepeat.1 226 = .ok (.istore 10, 2) := by decide +kernel
theorem d_Md_writeRepeat_228 : decode q_mMd_writeRepeat.1 228 = .ok (.iload 10, 2) := by decide +kernel
theorem d_Md_writeRepeat_230 : decode q_mMd_writeRepeat.1 230 = .ok (.iload 9, 2) := by decide +kernel
theorem d_Md_writeRepeat_232 : decode q_mMd_writeRepeat.1 232 = .ok (.if_icmp .ge 45, 3) := by decide +kernel
theorem d_Md_writeRepeat_235 : decode q_mMd_writeRepeat.1 235 = .ok (.aload_n 0, 1) := by decide +kernel
theorem d_Md_writeRepeat_236 : decode q_mMd_writeRepeat.1 236 = .ok (.iload 6, 2) := by decide +kernel
theorem d_Md_writeRepeat_238 : decode q_mMd_writeRepeat.1 238 = .ok (.iload 6, 2) := by decide +kernel
theorem d_Md_writeRepeat_240 : decode q_mMd_writeRepeat.1 240 = .ok (.iconst 1, 1) := by decide +kernel
theorem d_Md_writeRepeat_241 : decode q_mMd_writeRepeat.1 241 = .ok (.iadd, 1) := by decide +kernel
theorem d_Md_writeRepeat_242 : decode q_mMd_writeRepeat.1 242 = .ok (.iload 8, 2) := by decide +kernel
theorem d_Md_writeRepeat_244 : decode q_mMd_writeRepeat.1 244 = .ok (.aload_n 0, 1) := by decide +kernel
theorem d_Md_writeRepeat_245 : decode q_mMd_writeRepeat.1 245 = .ok (.getfield 39, 3) := by decide +kernel
theorem d_Md_writeRepeat_248 : decode q_mMd_writeRepeat.1 248 = .ok (.iload_n 1, 1) := by decide +kernel
theorem d_Md_writeRepeat_249 : decode q_mMd_writeRepeat.1 249 = .ok (.baload, 1) := by decide +kernel
theorem d_Md_writeRepeat_250 : decode q_mMd_writeRepeat.1 250 = .ok (.invokevirtual 191, 3) := by decide +kernel
theorem d_Md_writeRepeat_253 : decode q_mMd_writeRepeat.1 253 = .ok (.aload_n 0, 1) := by decide +kernel
theorem d_Md_writeRepeat_254 : decode q_mMd_writeRepeat.1 254 = .ok (.iload_n 3, 1) := by decide +kernel
theorem d_Md_writeRepeat_255 : decode q_mMd_writeRepeat.1 255 = .ok (.iload 6, 2) := by decide +kernel
theorem d_Md_writeRepeat_257 : decode q_mMd_writeRepeat.1 257 = .ok (.iconst 1, 1) := by decide +kernel
theorem d_Md_writeRepeat_258 : decode q_mMd_writeRepeat.1 258 = .ok (.iadd, 1) := by decide +kernel
theorem d_Md_writeRepeat_259 : decode q_mMd_writeRepeat.1 259 = .ok (.invokevirtual 187, 3) := by decide +kernel
theorem d_Md_writeRepeat_262 : decode q_mMd_writeRepeat.1 262 = .ok (.iload 6, 2) := by decide +kernel
theorem d_Md_writeRepeat_264 : decode q_mMd_writeRepeat.1 264 = .ok (.iload 4, 2) := by decide +kernel
theorem d_Md_writeRepeat_266 : decode q_mMd_writeRepeat.1 266 = .ok (.iconst 1, 1) := by decide +kernel
theorem d_Md_writeRepeat_267 : decode q_mMd_writeRepeat.1 267 = .ok (.iadd, 1) := by decide +kernel
theorem d_Md_writeRepeat_268 : decode q_mMd_writeRepeat.1 268 = .ok (.iadd, 1) := by decide +kernel
theorem d_Md_writeRepeat_269 : decode q_mMd_writeRepeat.1 269 = .ok (.istore 6, 2) := by decide +kernel
theorem d_Md_writeRepeat_271 : decode q_mMd_writeRepeat.1 271 = .ok (.iinc 10 1, 3) := by decide +kernel
theorem d_Md_writeRepeat_274 : decode q_mMd_writeRepeat.1 274 = .ok (.goto (-46), 3) := by decide +kernel
theorem d_Md_writeRepeat_277 : decode q_mMd_writeRepeat.1 277 = .ok (.return_, 1) := by decide +kernel
theorem d_Md_split_0 : decode q_mMd_split.1 0 = .ok (.aload_n 0, 1) := by decide +kernel
theorem d_Md_split_1 : decode q_mMd_split.1 1 = .ok (.iload_n 1, 1) := by decide +kernel
theorem d_Md_split_2 : decode q_mMd_split.1 2 = .ok (.iconst 1, 1) := by decide +kernel
theorem d_Md_split_3 : decode q_mMd_split.1 3 = .ok (.iload 4, 2) := by decide +kernel
theorem d_Md_split_5 : decode q_mMd_split.1 5 = .ok (.ifCond .eq 7, 3) := by decide +kernel
theorem d_Md_split_8 : decode q_mMd_split.1 8 = .ok (.iload_n 3, 1) := by decide +kernel
theorem d_Md_split_9 : decode q_mMd_split.1 9 = .ok (.goto 4, 3) := by decide +kernel
theorem d_Md_split_12 : decode q_mMd_split.1 12 = .ok (.iload_n 2, 1) := by decide +kernel
theorem d_Md_split_13 : decode q_mMd_split.1 13 = .ok (.iload 4, 2) := by decide +kernel
theorem d_Md_split_15 : decode q_mMd_split.1 15 = .ok (.ifCond .eq 7, 3) := by decide +kernel
theorem d_Md_split_18 : decode q_mMd_split.1 18 = .ok (.iload_n 2, 1) := by decide +kernel
theorem d_Md_split_19 : decode q_mMd_split.1 19 = .ok (.goto 4, 3) := by decide +kernel
theorem d_Md_split_22 : decode q_mMd_split.1 22 = .ok (.iload_n 3, 1) := by decide +kernel
theorem d_Md_split_23 : decode q_mMd_split.1 23 = .ok (.invokevirtual 180, 3) := by decide +kernel
theorem d_Md_split_26 : decode q_mMd_split.1 26 = .ok (.return_, 1) := by decide +kernel
theorem d_Md_position_0 : decode q_mMd_position.1 0 = .ok (.aload_n 0, 1) := by decide +kernel
theorem d_Md_position_1 : decode q_mMd_position.1 1 = .ok (.iconst 0, 1) := by decide +kernel
theorem d_Md_position_2 : decode q_mMd_position.1 2 = .ok (.putfield 103, 3) := by decide +kernel
theorem d_Md_position_5 : decode q_mMd_position.1 5 = .ok (.aload_n 0, 1) := by decide +kernel
theorem d_Md_position_6 : decode q_mMd_position.1 6 = .ok (.getfield 13, 3) := by decide +kernel
theorem d_Md_position_9 : decode q_mMd_position.1 9 = .ok (.ireturn, 1) := by decide +kernel
theorem d_Md_clear_0 : decode q_mMd_clear.1 0 = .ok (.aload_n 0, 1) := by decide +kernel
theorem d_Md_clear_1 : decode q_mMd_clear.1 1 = .ok (.iconst 0, 1) := by decide +kernel
theorem d_Md_clear_2 : decode q_mMd_clear.1 2 = .ok (.putfield 103, 3) := by decide +kernel
theorem d_Md_clear_5 : decode q_mMd_clear.1 5 = .ok (.aload_n 0, 1) := by decide +kernel
theorem d_Md_clear_6 : decode q_mMd_clear.1 6 = .ok (.iconst 0, 1) := by decide +kernel
theorem d_Md_clear_7 : decode q_mMd_clear.1 7 = .ok (.putfield 106, 3) := by decide +kernel
theorem d_Md_clear_10 : decode q_mMd_clear.1 10 = .ok (.aload_n 0, 1) := by decide +kernel
theorem d_Md_clear_11 : decode q_mMd_clear.1 11 = .ok (.iconst 0, 1) := by decide +kernel
theorem d_Md_clear_12 : decode q_mMd_clear.1 12 = .ok (.putfield 109, 3) := by decide +kernel
theorem d_Md_clear_15 : decode q_mMd_clear.1 15 = .ok (.aload_n 0, 1) := by decide +kernel
theorem d_Md_clear_16 : decode q_mMd_clear.1 16 = .ok (.iconst (-1), 1) := by decide +kernel
theorem d_Md_clear_17 : decode q_mMd_clear.1 17 = .ok (.putfield 13, 3) := by decide +kernel
theorem d_Md_clear_20 : decode q_mMd_clear.1 20 = .ok (.aload_n 0, 1) := by decide +kernel
theorem d_Md_clear_21 : decode q_mMd_clear.1 21 = .ok (.iconst 0, 1) := by decide +kernel
theorem d_Md_clear_22 : decode q_mMd_clear.1 22 = .ok (.putfield 212, 3) := by decide +kernel
theorem d_Md_clear_25 : decode q_mMd_clear.1 25 = .ok (.return_, 1) := by decide +kernel
theorem d_Md_instruction_0 : decode q_mMd_instruction.1 0 = .ok (.aload_n 0, 1) := by decide +kernel
theorem d_Md_instruction_1 : decode q_mMd_instruction.1 1 = .ok (.iconst 0, 1) := by decide +kernel
theorem d_Md_instruction_2 : decode q_mMd_instruction.1 2 = .ok (.putfield 103, 3) := by decide +kernel
theorem d_Md_instruction_5 : decode q_mMd_instruction.1 5 = .ok (.iload_n 1, 1) := by decide +kernel
theorem d_Md_instruction_6 : decode q_mMd_instruction.1 6 = .ok (.ifCond .lt 20, 3) := by decide +kernel
theorem d_Md_instruction_9 : decode q_mMd_instruction.1 9 = .ok (.iload_n 1, 1) := by decide +kernel
theorem d_Md_instruction_10 : decode q_mMd_instruction.1 10 = .ok (.aload_n 0, 1) := by decide +kernel
theorem d_Md_instruction_11 : decode q_mMd_instruction.1 11 = .ok (.getfield 109, 3) := by decide +kernel
theorem d_Md_instruction_14 : decode q_mMd_instruction.1 14 = .ok (.if_icmp .ge 12, 3) := by decide +kernel
theorem d_Md_instruction_17 : decode q_mMd_instruction.1 17 = .ok (.iload_n 2, 1) := by decide +kernel
theorem d_Md_instruction_18 : decode q_mMd_instruction.1 18 = .ok (.ifCond .lt 8, 3) := by decide +kernel
theorem d_Md_instruction_21 : decode q_mMd_instruction.1 21 = .ok (.iload_n 2, 1) := by decide +kernel
theorem d_Md_instruction_22 : decode q_mMd_instruction.1 22 = .ok (.iconst 2, 1) := by decide +kernel
theorem d_Md_instruction_23 : decode q_mMd_instruction.1 23 = .ok (.if_icmp .le 5, 3) := by decide +kernel
theorem d_Md_instruction_26 : decode q_mMd_instruction.1 26 = .ok (.iconst (-1), 1) := by decide +kernel
theorem d_Md_instruction_27 : decode q_mMd_instruction.1 27 = .ok (.ireturn, 1) := by decide +kernel
theorem d_Md_instruction_28 : decode q_mMd_instruction.1 28 = .ok (.iload_n 2, 1) := by decide +kernel
theorem d_Md_instruction_29 : decode q_mMd_instruction.1 29 = .ok (.ifCond .ne 10, 3) := by decide +kernel
theorem d_Md_instruction_32 : decode q_mMd_instruction.1 32 = .ok (.aload_n 0, 1) := by decide +kernel
theorem d_Md_instruction_33 : decode q_mMd_instruction.1 33 = .ok (.getfield 58, 3) := by decide +kernel
theorem d_Md_instruction_36 : decode q_mMd_instruction.1 36 = .ok (.iload_n 1, 1) := by decide +kernel
theorem d_Md_instruction_37 : decode q_mMd_instruction.1 37 = .ok (.iaload, 1) := by decide +kernel
theorem d_Md_instruction_38 : decode q_mMd_instruction.1 38 = .ok (.ireturn, 1) := by decide +kernel
theorem d_Md_instruction_39 : decode q_mMd_instruction.1 39 = .ok (.iload_n 2, 1) := by decide +kernel
theorem d_Md_instruction_40 : decode q_mMd_instruction.1 40 = .ok (.iconst 2, 1) := by decide +kernel
theorem d_Md_instruction_41 : decode q_mMd_instruction.1 41 = .ok (.if_icmp .ne 12, 3) := by decide +kernel
theorem d_Md_instruction_44 : decode q_mMd_instruction.1 44 = .ok (.aload_n 0, 1) := by decide +kernel
theorem d_Md_instruction_45 : decode q_mMd_instruction.1 45 = .ok (.getfield 64, 3) := by decide +kernel
theorem d_Md_instruction_48 : decode q_mMd_instruction.1 48 = .ok (.iload_n 1, 1) := by decide +kernel
theorem d_Md_instruction_49 : decode q_mMd_instruction.1 49 = .ok (.iaload, 1) := by decide +kernel
theorem d_Md_instruction_50 : decode q_mMd_instruction.1 50 = .ok (.goto 31, 3) := by decide +kernel
theorem d_Md_instruction_53 : decode q_mMd_instruction.1 53 = .ok (.aload_n 0, 1) := by decide +kernel
theorem d_Md_instruction_54 : decode q_mMd_instruction.1 54 = .ok (.getfield 58, 3) := by decide +kernel
theorem d_Md_instruction_57 : decode q_mMd_instruction.1 57 = .ok (.iload_n 1, 1) := by decide +kernel
theorem d_Md_instruction_58 : decode q_mMd_instruction.1 58 = .ok (.iaload, 1) := by decide +kernel
theorem d_Md_instruction_59 : decode q_mMd_instruction.1 59 = .ok (.ifCond .ne 16, 3) := by decide +kernel
theorem d_Md_instruction_62 : decode q_mMd_instruction.1 62 = .ok (.aload_n 0, 1) := by decide +kernel
theorem d_Md_instruction_63 : decode q_mMd_instruction.1 63 = .ok (.aload_n 0, 1) := by decide +kernel
theorem d_Md_instruction_64 : decode q_mMd_instruction.1 64 = .ok (.getfield 61, 3) := by decide +kernel
theorem d_Md_instruction_67 : decode q_mMd_instruction.1 67 = .ok (.iload_n 1, 1) := by decide +kernel
theorem d_Md_instruction_68 : decode q_mMd_instruction.1 68 = .ok (.iaload, 1) := by decide +kernel
theorem d_Md_instruction_69 : decode q_mMd_instruction.1 69 = .ok (.invokevirtual 216, 3) := by decide +kernel
theorem d_Md_instruction_72 : decode q_mMd_instruction.1 72 = .ok (.goto 9, 3) := by decide +kernel
theorem d_Md_instruction_75 : decode q_mMd_instruction.1 75 = .ok (.aload_n 0, 1) := by decide +kernel
theorem d_Md_instruction_76 : decode q_mMd_instruction.1 76 = .ok (.getfield 61, 3) := by decide +kernel
theorem d_Md_instruction_79 : decode q_mMd_instruction.1 79 = .ok (.iload_n 1, 1) := by decide +kernel
theorem d_Md_instruction_80 : decode q_mMd_instruction.1 80 = .ok (.iaload, 1) := by decide +kernel
theorem d_Md_instruction_81 : decode q_mMd_instruction.1 81 = .ok (.ireturn, 1) := by decide +kernel
end
section
theorem d_Md_many_0 : decode q_mMd_many.1 0 = .ok (.iconst 0, 1) := by decide +kernel
theorem d_Md_many_1 : decode q_mMd_many.1 1 = .ok (.istore_n 2, 1) := by decide +kernel
theorem d_Md_many_2 : decode q_mMd_many.1 2 = .ok (.iconst 0, 1) := by decide +kernel
theorem d_Md_many_3 : decode q_mMd_many.1 3 = .ok (.istore_n 3, 1) := by decide +kernel
theorem d_Md_many_4 : decode q_mMd_many.1 4 = .ok (.iload_n 3, 1) := by decide +kernel
theorem d_Md_many_5 : decode q_mMd_many.1 5 = .ok (.sipush 256, 3) := by decide +kernel
theorem d_Md_many_8 : decode q_mMd_many.1 8 = .ok (.if_icmp .ge 26, 3) := by decide +kernel
theorem d_Md_many_11 : decode q_mMd_many.1 11 = .ok (.aload_n 0, 1) := by decide +kernel
theorem d_Md_many_12 : decode q_mMd_many.1 12 = .ok (.iload_n 1, 1) := by decide +kernel
theorem d_Md_many_13 : decode q_mMd_many.1 13 = .ok (.iload_n 3, 1) := by decide +kernel
theorem d_Md_many_14 : decode q_mMd_many.1 14 = .ok (.invokevirtual 122, 3) := by decide +kernel
theorem d_Md_many_17 : decode q_mMd_many.1 17 = .ok (.ifCond .eq 9, 3) := by decide +kernel
theorem d_Md_many_20 : decode q_mMd_many.1 20 = .ok (.iload_n 2, 1) := by decide +kernel
theorem d_Md_many_21 : decode q_mMd_many.1 21 = .ok (.iconst 1, 1) := by decide +kernel
theorem d_Md_many_22 : decode q_mMd_many.1 22 = .ok (.iadd, 1) := by decide +kernel
theorem d_Md_many_23 : decode q_mMd_many.1 23 = .ok (.goto 4, 3) := by decide +kernel
theorem d_Md_many_26 : decode q_mMd_many.1 26 = .ok (.iload_n 2, 1) := by decide +kernel
theorem d_Md_many_27 : decode q_mMd_many.1 27 = .ok (.istore_n 2, 1) := by decide +kernel
theorem d_Md_many_28 : decode q_mMd_many.1 28 = .ok (.iinc 3 1, 3) := by decide +kernel
theorem d_Md_many_31 : decode q_mMd_many.1 31 = .ok (.goto (-27), 3) := by decide +kernel
theorem d_Md_many_34 : decode q_mMd_many.1 34 = .ok (.iload_n 2, 1) := by decide +kernel
theorem d_Md_many_35 : decode q_mMd_many.1 35 = .ok (.ireturn, 1) := by decide +kernel
theorem d_Md_has_0 : decode q_mMd_has.1 0 = .ok (.aload_n 0, 1) := by decide +kernel
theorem d_Md_has_1 : decode q_mMd_has.1 1 = .ok (.getfield 55, 3) := by decide +kernel
theorem d_Md_has_4 : decode q_mMd_has.1 4 = .ok (.bipush 8, 2) := by decide +kernel
theorem d_Md_has_6 : decode q_mMd_has.1 6 = .ok (.iload_n 1, 1) := by decide +kernel
theorem d_Md_has_7 : decode q_mMd_has.1 7 = .ok (.imul, 1) := by decide +kernel
theorem d_Md_has_8 : decode q_mMd_has.1 8 = .ok (.iload_n 2, 1) := by decide +kernel
theorem d_Md_has_9 : decode q_mMd_has.1 9 = .ok (.bipush 32, 2) := by decide +kernel
theorem d_Md_has_11 : decode q_mMd_has.1 11 = .ok (.idiv, 1) := by decide +kernel
theorem d_Md_has_12 : decode q_mMd_has.1 12 = .ok (.iadd, 1) := by decide +kernel
theorem d_Md_has_13 : decode q_mMd_has.1 13 = .ok (.iaload, 1) := by decide +kernel
theorem d_Md_has_14 : decode q_mMd_has.1 14 = .ok (.iload_n 2, 1) := by decide +kernel
theorem d_Md_has_15 : decode q_mMd_has.1 15 = .ok (.bipush 32, 2) := by decide +kernel
theorem d_Md_has_17 : decode q_mMd_has.1 17 = .ok (.irem, 1) := by decide +kernel
theorem d_Md_has_18 : decode q_mMd_has.1 18 = .ok (.ishr, 1) := by decide +kernel
theorem d_Md_has_19 : decode q_mMd_has.1 19 = .ok (.iconst 1, 1) := by decide +kernel
theorem d_Md_has_20 : decode q_mMd_has.1 20 = .ok (.iand, 1) := by decide +kernel
theorem d_Md_has_21 : decode q_mMd_has.1 21 = .ok (.iconst 1, 1) := by decide +kernel
theorem d_Md_has_22 : decode q_mMd_has.1 22 = .ok (.if_icmp .ne 7, 3) := by decide +kernel
theorem d_Md_has_25 : decode q_mMd_has.1 25 = .ok (.iconst 1, 1) := by decide +kernel
theorem d_Md_has_26 : decode q_mMd_has.1 26 = .ok (.goto 4, 3) := by decide +kernel
theorem d_Md_has_29 : decode q_mMd_has.1 29 = .ok (.iconst 0, 1) := by decide +kernel
theorem d_Md_has_30 : decode q_mMd_has.1 30 = .ok (.ireturn, 1) := by decide +kernel
theorem d_Md_groups_0 : decode q_mMd_groups.1 0 = .ok (.aload_n 0, 1) := by decide +kernel
theorem d_Md_groups_1 : decode q_mMd_groups.1 1 = .ok (.iconst 0, 1) := by decide +kernel
theorem d_Md_groups_2 : decode q_mMd_groups.1 2 = .ok (.putfield 103, 3) := by decide +kernel
theorem d_Md_groups_5 : decode q_mMd_groups.1 5 = .ok (.aload_n 0, 1) := by decide +kernel
theorem d_Md_groups_6 : decode q_mMd_groups.1 6 = .ok (.getfield 109, 3) := by decide +kernel
theorem d_Md_groups_9 : decode q_mMd_groups.1 9 = .ok (.ifCond .le 10, 3) := by decide +kernel
theorem d_Md_groups_12 : decode q_mMd_groups.1 12 = .ok (.aload_n 0, 1) := by decide +kernel
theorem d_Md_groups_13 : decode q_mMd_groups.1 13 = .ok (.getfield 164, 3) := by decide +kernel
theorem d_Md_groups_16 : decode q_mMd_groups.1 16 = .ok (.goto 4, 3) := by decide +kernel
theorem d_Md_groups_19 : decode q_mMd_groups.1 19 = .ok (.iconst (-1), 1) := by decide +kernel
theorem d_Md_groups_20 : decode q_mMd_groups.1 20 = .ok (.ireturn, 1) := by decide +kernel
theorem d_Md_start_0 : decode q_mMd_start.1 0 = .ok (.aload_n 0, 1) := by decide +kernel
theorem d_Md_start_1 : decode q_mMd_start.1 1 = .ok (.iconst 0, 1) := by decide +kernel
theorem d_Md_start_2 : decode q_mMd_start.1 2 = .ok (.putfield 103, 3) := by decide +kernel
theorem d_Md_start_5 : decode q_mMd_start.1 5 = .ok (.aload_n 0, 1) := by decide +kernel
theorem d_Md_start_6 : decode q_mMd_start.1 6 = .ok (.getfield 109, 3) := by decide +kernel
theorem d_Md_start_9 : decode q_mMd_start.1 9 = .ok (.ifCond .ne 5, 3) := by decide +kernel
theorem d_Md_start_12 : decode q_mMd_start.1 12 = .ok (.iconst 0, 1) := by decide +kernel
theorem d_Md_start_13 : decode q_mMd_start.1 13 = .ok (.ireturn, 1) := by decide +kernel
theorem d_Md_start_14 : decode q_mMd_start.1 14 = .ok (.aload_n 0, 1) := by decide +kernel
theorem d_Md_start_15 : decode q_mMd_start.1 15 = .ok (.iconst 1, 1) := by decide +kernel
theorem d_Md_start_16 : decode q_mMd_start.1 16 = .ok (.putfield 212, 3) := by decide +kernel
theorem d_Md_start_19 : decode q_mMd_start.1 19 = .ok (.aload_n 0, 1) := by decide +kernel
theorem d_Md_start_20 : decode q_mMd_start.1 20 = .ok (.iload_n 1, 1) := by decide +kernel
theorem d_Md_start_21 : decode q_mMd_start.1 21 = .ok (.putfield 219, 3) := by decide +kernel
theorem d_Md_start_24 : decode q_mMd_start.1 24 = .ok (.aload_n 0, 1) := by decide +kernel
theorem d_Md_start_25 : decode q_mMd_start.1 25 = .ok (.iconst 0, 1) := by decide +kernel
theorem d_Md_start_26 : decode q_mMd_start.1 26 = .ok (.putfield 222, 3) := by decide +kernel
theorem d_Md_start_29 : decode q_mMd_start.1 29 = .ok (.aload_n 0, 1) := by decide +kernel
theorem d_Md_start_30 : decode q_mMd_start.1 30 = .ok (.iconst 0, 1) := by decide +kernel
theorem d_Md_start_31 : decode q_mMd_start.1 31 = .ok (.putfield 225, 3) := by decide +kernel
theorem d_Md_start_34 : decode q_mMd_start.1 34 = .ok (.iconst 1, 1) := by decide +kernel
theorem d_Md_start_35 : decode q_mMd_start.1 35 = .ok (.ireturn, 1) := by decide +kernel
theorem d_Md_feed_0 : decode q_mMd_feed.1 0 = .ok (.aload_n 0, 1) := by decide +kernel
theorem d_Md_feed_1 : decode q_mMd_feed.1 1 = .ok (.iconst 0, 1) := by decide +kernel
theorem d_Md_feed_2 : decode q_mMd_feed.1 2 = .ok (.putfield 103, 3) := by decide +kernel
theorem d_Md_feed_5 : decode q_mMd_feed.1 5 = .ok (.aload_n 0, 1) := by decide +kernel
theorem d_Md_feed_6 : decode q_mMd_feed.1 6 = .ok (.getfield 212, 3) := by decide +kernel
theorem d_Md_feed_9 : decode q_mMd_feed.1 9 = .ok (.ifCond .eq 20, 3) := by decide +kernel
theorem d_Md_feed_12 : decode q_mMd_feed.1 12 = .ok (.iload_n 1, 1) := by decide +kernel
theorem d_Md_feed_13 : decode q_mMd_feed.1 13 = .ok (.sipush 255, 3) := by decide +kernel
theorem d_Md_feed_16 : decode q_mMd_feed.1 16 = .ok (.if_icmp .gt 13, 3) := by decide +kernel
theorem d_Md_feed_19 : decode q_mMd_feed.1 19 = .ok (.aload_n 0, 1) := by decide +kernel
theorem d_Md_feed_20 : decode q_mMd_feed.1 20 = .ok (.getfield 222, 3) := by decide +kernel
theorem d_Md_feed_23 : decode q_mMd_feed.1 23 = .ok (.sipush 200, 3) := by decide +kernel
theorem d_Md_feed_26 : decode q_mMd_feed.1 26 = .ok (.if_icmp .ne 5, 3) := by decide +kernel
theorem d_Md_feed_29 : decode q_mMd_feed.1 29 = .ok (.iconst 0, 1) := by decide +kernel
theorem d_Md_feed_30 : decode q_mMd_feed.1 30 = .ok (.ireturn, 1) := by decide +kernel
theorem d_Md_feed_31 : decode q_mMd_feed.1 31 = .ok (.aload_n 0, 1) := by decide +kernel
theorem d_Md_feed_32 : decode q_mMd_feed.1 32 = .ok (.getfield 73, 3) := by decide +kernel
theorem d_Md_feed_35 : decode q_mMd_feed.1 35 = .ok (.aload_n 0, 1) := by decide +kernel
theorem d_Md_feed_36 : decode q_mMd_feed.1 36 = .ok (.getfield 222, 3) := by decide +kernel
theorem d_Md_feed_39 : decode q_mMd_feed.1 39 = .ok (.iload_n 1, 1) := by decide +kernel
theorem d_Md_feed_40 : decode q_mMd_feed.1 40 = .ok (.iastore, 1) := by decide +kernel
theorem d_Md_feed_41 : decode q_mMd_feed.1 41 = .ok (.aload_n 0, 1) := by decide +kernel
theorem d_Md_feed_42 : decode q_mMd_feed.1 42 = .ok (.dup, 1) := by decide +kernel
theorem d_Md_feed_43 : decode q_mMd_feed.1 43 = .ok (.getfield 222, 3) := by decide +kernel
theorem d_Md_feed_46 : decode q_mMd_feed.1 46 = .ok (.iconst 1, 1) := by decide +kernel
theorem d_Md_feed_47 : decode q_mMd_feed.1 47 = .ok (.iadd, 1) := by decide +kernel
theorem d_Md_feed_48 : decode q_mMd_feed.1 48 = .ok (.putfield 222, 3) := by decide +kernel
theorem d_Md_feed_51 : decode q_mMd_feed.1 51 = .ok (.aload_n 0, 1) := by decide +kernel
theorem d_Md_feed_52 : decode q_mMd_feed.1 52 = .ok (.iconst 0, 1) := by decide +kernel
theorem d_Md_feed_53 : decode q_mMd_feed.1 53 = .ok (.putfield 225, 3) := by decide +kernel
theorem d_Md_feed_56 : decode q_mMd_feed.1 56 = .ok (.iconst 1, 1) := by decide +kernel
theorem d_Md_feed_57 : decode q_mMd_feed.1 57 = .ok (.ireturn, 1) := by decide +kernel
theorem d_Md_matched_0 : decode q_mMd_matched.1 0 = .ok (.aload_n 0, 1) := by decide +kernel
theorem d_Md_matched_1 : decode q_mMd_matched.1 1 = .ok (.iconst 0, 1) := by decide +kernel
theorem d_Md_matched_2 : decode q_mMd_matched.1 2 = .ok (.putfield 103, 3) := by decide +kernel
theorem d_Md_matched_5 : decode q_mMd_matched.1 5 = .ok (.aload_n 0, 1) := by decide +kernel
theorem d_Md_matched_6 : decode q_mMd_matched.1 6 = .ok (.getfield 212, 3) := by decide +kernel
theorem d_Md_matched_9 : decode q_mMd_matched.1 9 = .ok (.ifCond .ne 5, 3) := by decide +kernel
theorem d_Md_matched_12 : decode q_mMd_matched.1 12 = .ok (.iconst 0, 1) := by decide +kernel
theorem d_Md_matched_13 : decode q_mMd_matched.1 13 = .ok (.ireturn, 1) := by decide +kernel
theorem d_Md_matched_14 : decode q_mMd_matched.1 14 = .ok (.aload_n 0, 1) := by decide +kernel
theorem d_Md_matched_15 : decode q_mMd_matched.1 15 = .ok (.invokevirtual 263, 3) := by decide +kernel
theorem d_Md_matched_18 : decode q_mMd_matched.1 18 = .ok (.aload_n 0, 1) := by decide +kernel
theorem d_Md_matched_19 : decode q_mMd_matched.1 19 = .ok (.getfield 246, 3) := by decide +kernel
theorem d_Md_matched_22 : decode q_mMd_matched.1 22 = .ok (.ireturn, 1) := by decide +kernel
theorem d_Md_work_0 : decode q_mMd_work.1 0 = .ok (.aload_n 0, 1) := by decide +kernel
theorem d_Md_work_1 : decode q_mMd_work.1 1 = .ok (.getfield 225, 3) := by decide +kernel
theorem d_Md_work_4 : decode q_mMd_work.1 4 = .ok (.ifCond .eq 4, 3) := by decide +kernel
theorem d_Md_work_7 : decode q_mMd_work.1 7 = .ok (.return_, 1) := by decide +kernel
theorem d_Md_work_8 : decode q_mMd_work.1 8 = .ok (.aload_n 0, 1) := by decide +kernel
theorem d_Md_work_9 : decode q_mMd_work.1 9 = .ok (.iconst 1, 1) := by decide +kernel
theorem d_Md_work_10 : decode q_mMd_work.1 10 = .ok (.putfield 225, 3) := by decide +kernel
theorem d_Md_work_13 : decode q_mMd_work.1 13 = .ok (.aload_n 0, 1) := by decide +kernel
theorem d_Md_work_14 : decode q_mMd_work.1 14 = .ok (.invokevirtual 243, 3) := by decide +kernel
theorem d_Md_work_17 : decode q_mMd_work.1 17 = .ok (.iconst 0, 1) := by decide +kernel
theorem d_Md_work_18 : decode q_mMd_work.1 18 = .ok (.istore_n 1, 1) := by decide +kernel
theorem d_Md_work_19 : decode q_mMd_work.1 19 = .ok (.iload_n 1, 1) := by decide +kernel
theorem d_Md_work_20 : decode q_mMd_work.1 20 = .ok (.bipush 14, 2) := by decide +kernel
theorem d_Md_work_22 : decode q_mMd_work.1 22 = .ok (.if_icmp .ge 16, 3) := by decide +kernel
theorem d_Md_work_25 : decode q_mMd_work.1 25 = .ok (.aload_n 0, 1) := by decide +kernel
theorem d_Md_work_26 : decode q_mMd_work.1 26 = .ok (.getfield 79, 3) := by decide +kernel
theorem d_Md_work_29 : decode q_mMd_work.1 29 = .ok (.iload_n 1, 1) := by decide +kernel
theorem d_Md_work_30 : decode q_mMd_work.1 30 = .ok (.iconst (-1), 1) := by decide +kernel
theorem d_Md_work_31 : decode q_mMd_work.1 31 = .ok (.iastore, 1) := by decide +kernel
theorem d_Md_work_32 : decode q_mMd_work.1 32 = .ok (.iinc 1 1, 3) := by decide +kernel
theorem d_Md_work_35 : decode q_mMd_work.1 35 = .ok (.goto (-16), 3) := by decide +kernel
theorem d_Md_work_38 : decode q_mMd_work.1 38 = .ok (.iconst 0, 1) := by decide +kernel
theorem d_Md_work_39 : decode q_mMd_work.1 39 = .ok (.istore_n 1, 1) := by decide +kernel
theorem d_Md_work_40 : decode q_mMd_work.1 40 = .ok (.iload_n 1, 1) := by decide +kernel
theorem d_Md_work_41 : decode q_mMd_work.1 41 = .ok (.aload_n 0, 1) := by decide +kernel
theorem d_Md_work_42 : decode q_mMd_work.1 42 = .ok (.getfield 222, 3) := by decide +kernel
theorem d_Md_work_45 : decode q_mMd_work.1 45 = .ok (.if_icmp .gt 18, 3) := by decide +kernel
theorem d_Md_work_48 : decode q_mMd_work.1 48 = .ok (.aload_n 0, 1) := by decide +kernel
theorem d_Md_work_49 : decode q_mMd_work.1 49 = .ok (.iconst 0, 1) := by decide +kernel
theorem d_Md_work_50 : decode q_mMd_work.1 50 = .ok (.iload_n 1, 1) := by decide +kernel
theorem d_Md_work_51 : decode q_mMd_work.1 51 = .ok (.invokevirtual 231, 3) := by decide +kernel
theorem d_Md_work_54 : decode q_mMd_work.1 54 = .ok (.ifCond .ne 9, 3) := by decide +kernel
theorem d_Md_work_57 : decode q_mMd_work.1 57 = .ok (.iinc 1 1, 3) := by decide +kernel
theorem d_Md_work_60 : decode q_mMd_work.1 60 = .ok (.goto (-20), 3) := by decide +kernel
theorem d_Md_work_63 : decode q_mMd_work.1 63 = .ok (.aload_n 0, 1) := by decide +kernel
theorem d_Md_work_64 : decode q_mMd_work.1 64 = .ok (.aload_n 0, 1) := by decide +kernel
theorem d_Md_work_65 : decode q_mMd_work.1 65 = .ok (.getfield 219, 3) := by decide +kernel
theorem d_Md_work_68 : decode q_mMd_work.1 68 = .ok (.ifCond .eq 19, 3) := by decide +kernel
theorem d_Md_work_71 : decode q_mMd_work.1 71 = .ok (.iload_n 1, 1) := by decide +kernel
theorem d_Md_work_72 : decode q_mMd_work.1 72 = .ok (.aload_n 0, 1) := by decide +kernel
theorem d_Md_work_73 : decode q_mMd_work.1 73 = .ok (.getfield 222, 3) := by decide +kernel
theorem d_Md_work_76 : decode q_mMd_work.1 76 = .ok (.if_icmp .gt 7, 3) := by decide +kernel
theorem d_Md_work_79 : decode q_mMd_work.1 79 = .ok (.iconst 1, 1) := by decide +kernel
theorem d_Md_work_80 : decode q_mMd_work.1 80 = .ok (.goto 16, 3) := by decide +kernel
theorem d_Md_work_83 : decode q_mMd_work.1 83 = .ok (.iconst 0, 1) := by decide +kernel
theorem d_Md_work_84 : decode q_mMd_work.1 84 = .ok (.goto 12, 3) := by decide +kernel
theorem d_Md_work_87 : decode q_mMd_work.1 87 = .ok (.iload_n 1, 1) := by decide +kernel
theorem d_Md_work_88 : decode q_mMd_work.1 88 = .ok (.ifCond .ne 7, 3) := by decide +kernel
theorem d_Md_work_91 : decode q_mMd_work.1 91 = .ok (.iconst 1, 1) := by decide +kernel
theorem d_Md_work_92 : decode q_mMd_work.1 92 = .ok (.goto 4, 3) := by decide +kernel
theorem d_Md_work_95 : decode q_mMd_work.1 95 = .ok (.iconst 0, 1) := by decide +kernel
theorem d_Md_work_96 : decode q_mMd_work.1 96 = .ok (.putfield 246, 3) := by decide +kernel
theorem d_Md_work_99 : decode q_mMd_work.1 99 = .ok (.iconst (-1), 1) := by decide +kernel
theorem d_Md_work_100 : decode q_mMd_work.1 100 = .ok (.istore_n 2, 1) := by decide +kernel
theorem d_Md_work_101 : decode q_mMd_work.1 101 = .ok (.iconst 0, 1) := by decide +kernel
theorem d_Md_work_102 : decode q_mMd_work.1 102 = .ok (.istore_n 3, 1) := by decide +kernel
theorem d_Md_work_103 : decode q_mMd_work.1 103 = .ok (.iload_n 3, 1) := by decide +kernel
theorem d_Md_work_104 : decode q_mMd_work.1 104 = .ok (.aload_n 0, 1) := by decide +kernel
theorem d_Md_work_105 : decode q_mMd_work.1 105 = .ok (.getfield 109, 3) := by decide +kernel
theorem d_Md_work_108 : decode q_mMd_work.1 108 = .ok (.if_icmp .ge 16, 3) := by decide +kernel
theorem d_Md_work_111 : decode q_mMd_work.1 111 = .ok (.aload_n 0, 1) := by decide +kernel
theorem d_Md_work_112 : decode q_mMd_work.1 112 = .ok (.getfield 85, 3) := by decide +kernel
theorem d_Md_work_115 : decode q_mMd_work.1 115 = .ok (.iload_n 3, 1) := by decide +kernel
theorem d_Md_work_116 : decode q_mMd_work.1 116 = .ok (.iconst 0, 1) := by decide +kernel
theorem d_Md_work_117 : decode q_mMd_work.1 117 = .ok (.bastore, 1) := by decide +kernel
theorem d_Md_work_118 : decode q_mMd_work.1 118 = .ok (.iinc 3 1, 3) := by decide +kernel
theorem d_Md_work_121 : decode q_mMd_work.1 121 = .ok (.goto (-18), 3) := by decide +kernel
theorem d_Md_work_124 : decode q_mMd_work.1 124 = .ok (.iconst 0, 1) := by decide +kernel
theorem d_Md_work_125 : decode q_mMd_work.1 125 = .ok (.istore_n 3, 1) := by decide +kernel
theorem d_Md_work_126 : decode q_mMd_work.1 126 = .ok (.iload_n 3, 1) := by decide +kernel
theorem d_Md_work_127 : decode q_mMd_work.1 127 = .ok (.aload_n 0, 1) := by decide +kernel
theorem d_Md_work_128 : decode q_mMd_work.1 128 = .ok (.getfield 222, 3) := by decide +kernel
theorem d_Md_work_131 : decode q_mMd_work.1 131 = .ok (.if_icmp .gt 141, 3) := by decide +kernel
theorem d_Md_work_134 : decode q_mMd_work.1 134 = .ok (.aload_n 0, 1) := by decide +kernel
theorem d_Md_work_135 : decode q_mMd_work.1 135 = .ok (.getfield 219, 3) := by decide +kernel
theorem d_Md_work_138 : decode q_mMd_work.1 138 = .ok (.ifCond .eq 23, 3) := by decide +kernel
theorem d_Md_work_141 : decode q_mMd_work.1 141 = .ok (.aload_n 0, 1) := by decide +kernel
theorem d_Md_work_142 : decode q_mMd_work.1 142 = .ok (.getfield 246, 3) := by decide +kernel
theorem d_Md_work_145 : decode q_mMd_work.1 145 = .ok (.ifCond .eq 8, 3) := by decide +kernel
theorem d_Md_work_148 : decode q_mMd_work.1 148 = .ok (.iload_n 3, 1) := by decide +kernel
theorem d_Md_work_149 : decode q_mMd_work.1 149 = .ok (.iload_n 1, 1) := by decide +kernel
theorem d_Md_work_150 : decode q_mMd_work.1 150 = .ok (.if_icmp .ge 7, 3) := by decide +kernel
theorem d_Md_work_153 : decode q_mMd_work.1 153 = .ok (.iconst 1, 1) := by decide +kernel
theorem d_Md_work_154 : decode q_mMd_work.1 154 = .ok (.goto 16, 3) := by decide +kernel
theorem d_Md_work_157 : decode q_mMd_work.1 157 = .ok (.iconst 0, 1) := by decide +kernel
theorem d_Md_work_158 : decode q_mMd_work.1 158 = .ok (.goto 12, 3) := by decide +kernel
theorem d_Md_work_161 : decode q_mMd_work.1 161 = .ok (.iload_n 3, 1) := by decide +kernel
theorem d_Md_work_162 : decode q_mMd_work.1 162 = .ok (.ifCond .ne 7, 3) := by decide +kernel
theorem d_Md_work_165 : decode q_mMd_work.1 165 = .ok (.iconst 1, 1) := by decide +kernel
theorem d_Md_work_166 : decode q_mMd_work.1 166 = .ok (.goto 4, 3) := by decide +kernel
theorem d_Md_work_169 : decode q_mMd_work.1 169 = .ok (.iconst 0, 1) := by decide +kernel
theorem d_Md_work_170 : decode q_mMd_work.1 170 = .ok (.istore 4, 2) := by decide +kernel
theorem d_Md_work_172 : decode q_mMd_work.1 172 = .ok (.iload 4, 2) := by decide +kernel
theorem d_Md_work_174 : decode q_mMd_work.1 174 = .ok (.ifCond .eq 12, 3) := by decide +kernel
theorem d_Md_work_177 : decode q_mMd_work.1 177 = .ok (.aload_n 0, 1) := by decide +kernel
theorem d_Md_work_178 : decode q_mMd_work.1 178 = .ok (.aload_n 0, 1) := by decide +kernel
theorem d_Md_work_179 : decode q_mMd_work.1 179 = .ok (.getfield 85, 3) := by decide +kernel
theorem d_Md_work_182 : decode q_mMd_work.1 182 = .ok (.iconst 0, 1) := by decide +kernel
theorem d_Md_work_183 : decode q_mMd_work.1 183 = .ok (.invokevirtual 249, 3) := by decide +kernel
theorem d_Md_work_186 : decode q_mMd_work.1 186 = .ok (.aload_n 0, 1) := by decide +kernel
theorem d_Md_work_187 : decode q_mMd_work.1 187 = .ok (.getfield 246, 3) := by decide +kernel
theorem d_Md_work_190 : decode q_mMd_work.1 190 = .ok (.ifCond .eq 23, 3) := by decide +kernel
theorem d_Md_work_193 : decode q_mMd_work.1 193 = .ok (.iload_n 3, 1) := by decide +kernel
theorem d_Md_work_194 : decode q_mMd_work.1 194 = .ok (.aload_n 0, 1) := by decide +kernel
theorem d_Md_work_195 : decode q_mMd_work.1 195 = .ok (.getfield 219, 3) := by decide +kernel
theorem d_Md_work_198 : decode q_mMd_work.1 198 = .ok (.ifCond .eq 7, 3) := by decide +kernel
theorem d_Md_work_201 : decode q_mMd_work.1 201 = .ok (.iload_n 1, 1) := by decide +kernel
theorem d_Md_work_202 : decode q_mMd_work.1 202 = .ok (.goto 4, 3) := by decide +kernel
theorem d_Md_work_205 : decode q_mMd_work.1 205 = .ok (.iconst 0, 1) := by decide +kernel
theorem d_Md_work_206 : decode q_mMd_work.1 206 = .ok (.if_icmp .ne 7, 3) := by decide +kernel
theorem d_Md_work_209 : decode q_mMd_work.1 209 = .ok (.iconst 0, 1) := by decide +kernel
theorem d_Md_work_210 : decode q_mMd_work.1 210 = .ok (.goto 4, 3) := by decide +kernel
theorem d_Md_work_213 : decode q_mMd_work.1 213 = .ok (.iload_n 2, 1) := by decide +kernel
theorem d_Md_work_214 : decode q_mMd_work.1 214 = .ok (.istore_n 2, 1) := by decide +kernel
theorem d_Md_work_215 : decode q_mMd_work.1 215 = .ok (.iload_n 2, 1) := by decide +kernel
theorem d_Md_work_216 : decode q_mMd_work.1 216 = .ok (.ifCond .lt 37, 3) := by decide +kernel
theorem d_Md_work_219 : decode q_mMd_work.1 219 = .ok (.aload_n 0, 1) := by decide +kernel
theorem d_Md_work_220 : decode q_mMd_work.1 220 = .ok (.iload_n 2, 1) := by decide +kernel
theorem d_Md_work_221 : decode q_mMd_work.1 221 = .ok (.iload_n 3, 1) := by decide +kernel
theorem d_Md_work_222 : decode q_mMd_work.1 222 = .ok (.invokevirtual 253, 3) := by decide +kernel
theorem d_Md_work_225 : decode q_mMd_work.1 225 = .ok (.istore 5, 2) := by decide +kernel
theorem d_Md_work_227 : decode q_mMd_work.1 227 = .ok (.aload_n 0, 1) := by decide +kernel
theorem d_Md_work_228 : decode q_mMd_work.1 228 = .ok (.iload 5, 2) := by decide +kernel
theorem d_Md_work_230 : decode q_mMd_work.1 230 = .ok (.iload_n 3, 1) := by decide +kernel
theorem d_Md_work_231 : decode q_mMd_work.1 231 = .ok (.invokevirtual 256, 3) := by decide +kernel
theorem d_Md_work_234 : decode q_mMd_work.1 234 = .ok (.aload_n 0, 1) := by decide +kernel
theorem d_Md_work_235 : decode q_mMd_work.1 235 = .ok (.getfield 58, 3) := by decide +kernel
theorem d_Md_work_238 : decode q_mMd_work.1 238 = .ok (.iload 5, 2) := by decide +kernel
theorem d_Md_work_240 : decode q_mMd_work.1 240 = .ok (.iaload, 1) := by decide +kernel
theorem d_Md_work_241 : decode q_mMd_work.1 241 = .ok (.ifCond .ne 10, 3) := by decide +kernel
theorem d_Md_work_244 : decode q_mMd_work.1 244 = .ok (.iload 5, 2) := by decide +kernel
theorem d_Md_work_246 : decode q_mMd_work.1 246 = .ok (.iconst 1, 1) := by decide +kernel
theorem d_Md_work_247 : decode q_mMd_work.1 247 = .ok (.iadd, 1) := by decide +kernel
theorem d_Md_work_248 : decode q_mMd_work.1 248 = .ok (.goto 4, 3) := by decide +kernel
theorem d_Md_work_251 : decode q_mMd_work.1 251 = .ok (.iconst (-1), 1) := by decide +kernel
theorem d_Md_work_252 : decode q_mMd_work.1 252 = .ok (.istore_n 2, 1) := by decide +kernel
theorem d_Md_work_253 : decode q_mMd_work.1 253 = .ok (.iload_n 3, 1) := by decide +kernel
theorem d_Md_work_254 : decode q_mMd_work.1 254 = .ok (.aload_n 0, 1) := by decide +kernel
theorem d_Md_work_255 : decode q_mMd_work.1 255 = .ok (.getfield 222, 3) := by decide +kernel
theorem d_Md_work_258 : decode q_mMd_work.1 258 = .ok (.if_icmp .ge 8, 3) := by decide +kernel
theorem d_Md_work_261 : decode q_mMd_work.1 261 = .ok (.aload_n 0, 1) := by decide +kernel
theorem d_Md_work_262 : decode q_mMd_work.1 262 = .ok (.iload_n 3, 1) := by decide +kernel
theorem d_Md_work_263 : decode q_mMd_work.1 263 = .ok (.invokevirtual 259, 3) := by decide +kernel
theorem d_Md_work_266 : decode q_mMd_work.1 266 = .ok (.iinc 3 1, 3) := by decide +kernel
theorem d_Md_work_269 : decode q_mMd_work.1 269 = .ok (.goto (-143), 3) := by decide +kernel
theorem d_Md_work_272 : decode q_mMd_work.1 272 = .ok (.iconst 0, 1) := by decide +kernel
theorem d_Md_work_273 : decode q_mMd_work.1 273 = .ok (.istore_n 3, 1) := by decide +kernel
theorem d_Md_work_274 : decode q_mMd_work.1 274 = .ok (.iload_n 3, 1) := by decide +kernel
theorem d_Md_work_275 : decode q_mMd_work.1 275 = .ok (.aload_n 0, 1) := by decide +kernel
theorem d_Md_work_276 : decode q_mMd_work.1 276 = .ok (.getfield 109, 3) := by decide +kernel
theorem d_Md_work_279 : decode q_mMd_work.1 279 = .ok (.if_icmp .ge 38, 3) := by decide +kernel
theorem d_Md_work_282 : decode q_mMd_work.1 282 = .ok (.aload_n 0, 1) := by decide +kernel
theorem d_Md_work_283 : decode q_mMd_work.1 283 = .ok (.getfield 82, 3) := by decide +kernel
theorem d_Md_work_286 : decode q_mMd_work.1 286 = .ok (.iload_n 3, 1) := by decide +kernel
theorem d_Md_work_287 : decode q_mMd_work.1 287 = .ok (.aload_n 0, 1) := by decide +kernel
theorem d_Md_work_288 : decode q_mMd_work.1 288 = .ok (.getfield 85, 3) := by decide +kernel
theorem d_Md_work_291 : decode q_mMd_work.1 291 = .ok (.iload_n 3, 1) := by decide +kernel
theorem d_Md_work_292 : decode q_mMd_work.1 292 = .ok (.baload, 1) := by decide +kernel
theorem d_Md_work_293 : decode q_mMd_work.1 293 = .ok (.ifCond .eq 16, 3) := by decide +kernel
theorem d_Md_work_296 : decode q_mMd_work.1 296 = .ok (.aload_n 0, 1) := by decide +kernel
theorem d_Md_work_297 : decode q_mMd_work.1 297 = .ok (.getfield 58, 3) := by decide +kernel
theorem d_Md_work_300 : decode q_mMd_work.1 300 = .ok (.iload_n 3, 1) := by decide +kernel
theorem d_Md_work_301 : decode q_mMd_work.1 301 = .ok (.iaload, 1) := by decide +kernel
theorem d_Md_work_302 : decode q_mMd_work.1 302 = .ok (.ifCond .ne 7, 3) := by decide +kernel
theorem d_Md_work_305 : decode q_mMd_work.1 305 = .ok (.iconst 1, 1) := by decide +kernel
theorem d_Md_work_306 : decode q_mMd_work.1 306 = .ok (.goto 4, 3) := by decide +kernel
theorem d_Md_work_309 : decode q_mMd_work.1 309 = .ok (.iconst 0, 1) := by decide +kernel
theorem d_Md_work_310 : decode q_mMd_work.1 310 = .ok (.bastore, 1) := by decide +kernel
theorem d_Md_work_311 : decode q_mMd_work.1 311 = .ok (.iinc 3 1, 3) := by decide +kernel
theorem d_Md_work_314 : decode q_mMd_work.1 314 = .ok (.goto (-40), 3) := by decide +kernel
theorem d_Md_work_317 : decode q_mMd_work.1 317 = .ok (.return_, 1) := by decide +kernel
theorem d_Md_fill_0 : decode q_mMd_fill.1 0 = .ok (.iconst 0, 1) := by decide +kernel
theorem d_Md_fill_1 : decode q_mMd_fill.1 1 = .ok (.istore_n 1, 1) := by decide +kernel
theorem d_Md_fill_2 : decode q_mMd_fill.1 2 = .ok (.iload_n 1, 1) := by decide +kernel
theorem d_Md_fill_3 : decode q_mMd_fill.1 3 = .ok (.sipush 1120, 3) := by decide +kernel
theorem d_Md_fill_6 : decode q_mMd_fill.1 6 = .ok (.if_icmp .ge 16, 3) := by decide +kernel
theorem d_Md_fill_9 : decode q_mMd_fill.1 9 = .ok (.aload_n 0, 1) := by decide +kernel
theorem d_Md_fill_10 : decode q_mMd_fill.1 10 = .ok (.getfield 76, 3) := by decide +kernel
theorem d_Md_fill_13 : decode q_mMd_fill.1 13 = .ok (.iload_n 1, 1) := by decide +kernel
theorem d_Md_fill_14 : decode q_mMd_fill.1 14 = .ok (.iconst 0, 1) := by decide +kernel
theorem d_Md_fill_15 : decode q_mMd_fill.1 15 = .ok (.iastore, 1) := by decide +kernel
theorem d_Md_fill_16 : decode q_mMd_fill.1 16 = .ok (.iinc 1 1, 3) := by decide +kernel
theorem d_Md_fill_19 : decode q_mMd_fill.1 19 = .ok (.goto (-17), 3) := by decide +kernel
theorem d_Md_fill_22 : decode q_mMd_fill.1 22 = .ok (.aload_n 0, 1) := by decide +kernel
theorem d_Md_fill_23 : decode q_mMd_fill.1 23 = .ok (.getfield 222, 3) := by decide +kernel
theorem d_Md_fill_26 : decode q_mMd_fill.1 26 = .ok (.istore_n 1, 1) := by decide +kernel
theorem d_Md_fill_27 : decode q_mMd_fill.1 27 = .ok (.iload_n 1, 1) := by decide +kernel
theorem d_Md_fill_28 : decode q_mMd_fill.1 28 = .ok (.ifCond .lt 111, 3) := by decide +kernel
theorem d_Md_fill_31 : decode q_mMd_fill.1 31 = .ok (.iconst 1, 1) := by decide +kernel
theorem d_Md_fill_32 : decode q_mMd_fill.1 32 = .ok (.istore_n 2, 1) := by decide +kernel
theorem d_Md_fill_33 : decode q_mMd_fill.1 33 = .ok (.iconst 0, 1) := by decide +kernel
theorem d_Md_fill_34 : decode q_mMd_fill.1 34 = .ok (.istore_n 3, 1) := by decide +kernel
theorem d_Md_fill_35 : decode q_mMd_fill.1 35 = .ok (.iload_n 3, 1) := by decide +kernel
theorem d_Md_fill_36 : decode q_mMd_fill.1 36 = .ok (.aload_n 0, 1) := by decide +kernel
theorem d_Md_fill_37 : decode q_mMd_fill.1 37 = .ok (.getfield 109, 3) := by decide +kernel
theorem d_Md_fill_40 : decode q_mMd_fill.1 40 = .ok (.if_icmp .gt 93, 3) := by decide +kernel
theorem d_Md_fill_43 : decode q_mMd_fill.1 43 = .ok (.iload_n 2, 1) := by decide +kernel
theorem d_Md_fill_44 : decode q_mMd_fill.1 44 = .ok (.ifCond .eq 89, 3) := by decide +kernel
theorem d_Md_fill_47 : decode q_mMd_fill.1 47 = .ok (.iconst 0, 1) := by decide +kernel
theorem d_Md_fill_48 : decode q_mMd_fill.1 48 = .ok (.istore_n 2, 1) := by decide +kernel
theorem d_Md_fill_49 : decode q_mMd_fill.1 49 = .ok (.aload_n 0, 1) := by decide +kernel
theorem d_Md_fill_50 : decode q_mMd_fill.1 50 = .ok (.getfield 109, 3) := by decide +kernel
theorem d_Md_fill_53 : decode q_mMd_fill.1 53 = .ok (.iconst 1, 1) := by decide +kernel
theorem d_Md_fill_54 : decode q_mMd_fill.1 54 = .ok (.isub, 1) := by decide +kernel
theorem d_Md_fill_55 : decode q_mMd_fill.1 55 = .ok (.istore 4, 2) := by decide +kernel
theorem d_Md_fill_57 : decode q_mMd_fill.1 57 = .ok (.iload 4, 2) := by decide +kernel
theorem d_Md_fill_59 : decode q_mMd_fill.1 59 = .ok (.ifCond .lt 68, 3) := by decide +kernel
theorem d_Md_fill_62 : decode q_mMd_fill.1 62 = .ok (.aload_n 0, 1) := by decide +kernel
theorem d_Md_fill_63 : decode q_mMd_fill.1 63 = .ok (.iload 4, 2) := by decide +kernel
theorem d_Md_fill_65 : decode q_mMd_fill.1 65 = .ok (.iload_n 1, 1) := by decide +kernel
theorem d_Md_fill_66 : decode q_mMd_fill.1 66 = .ok (.invokevirtual 231, 3) := by decide +kernel
theorem d_Md_fill_69 : decode q_mMd_fill.1 69 = .ok (.ifCond .ne 52, 3) := by decide +kernel
theorem d_Md_fill_72 : decode q_mMd_fill.1 72 = .ok (.aload_n 0, 1) := by decide +kernel
theorem d_Md_fill_73 : decode q_mMd_fill.1 73 = .ok (.iload 4, 2) := by decide +kernel
theorem d_Md_fill_75 : decode q_mMd_fill.1 75 = .ok (.iload_n 1, 1) := by decide +kernel
theorem d_Md_fill_76 : decode q_mMd_fill.1 76 = .ok (.invokevirtual 237, 3) := by decide +kernel
theorem d_Md_fill_79 : decode q_mMd_fill.1 79 = .ok (.ifCond .eq 42, 3) := by decide +kernel
theorem d_Md_fill_82 : decode q_mMd_fill.1 82 = .ok (.aload_n 0, 1) := by decide +kernel
theorem d_Md_fill_83 : decode q_mMd_fill.1 83 = .ok (.getfield 76, 3) := by decide +kernel
theorem d_Md_fill_86 : decode q_mMd_fill.1 86 = .ok (.bipush 7, 2) := by decide +kernel
theorem d_Md_fill_88 : decode q_mMd_fill.1 88 = .ok (.iload 4, 2) := by decide +kernel
theorem d_Md_fill_90 : decode q_mMd_fill.1 90 = .ok (.imul, 1) := by decide +kernel
theorem d_Md_fill_91 : decode q_mMd_fill.1 91 = .ok (.iload_n 1, 1) := by decide +kernel
theorem d_Md_fill_92 : decode q_mMd_fill.1 92 = .ok (.bipush 32, 2) := by decide +kernel
theorem d_Md_fill_94 : decode q_mMd_fill.1 94 = .ok (.idiv, 1) := by decide +kernel
theorem d_Md_fill_95 : decode q_mMd_fill.1 95 = .ok (.iadd, 1) := by decide +kernel
theorem d_Md_fill_96 : decode q_mMd_fill.1 96 = .ok (.aload_n 0, 1) := by decide +kernel
theorem d_Md_fill_97 : decode q_mMd_fill.1 97 = .ok (.getfield 76, 3) := by decide +kernel
theorem d_Md_fill_100 : decode q_mMd_fill.1 100 = .ok (.bipush 7, 2) := by decide +kernel
theorem d_Md_fill_102 : decode q_mMd_fill.1 102 = .ok (.iload 4, 2) := by decide +kernel
theorem d_Md_fill_104 : decode q_mMd_fill.1 104 = .ok (.imul, 1) := by decide +kernel
theorem d_Md_fill_105 : decode q_mMd_fill.1 105 = .ok (.iload_n 1, 1) := by decide +kernel
theorem d_Md_fill_106 : decode q_mMd_fill.1 106 = .ok (.bipush 32, 2) := by decide +kernel
theorem d_Md_fill_108 : decode q_mMd_fill.1 108 = .ok (.idiv, 1) := by decide +kernel
theorem d_Md_fill_109 : decode q_mMd_fill.1 109 = .ok (.iadd, 1) := by decide +kernel
theorem d_Md_fill_110 : decode q_mMd_fill.1 110 = .ok (.iaload, 1) := by decide +kernel
theorem d_Md_fill_111 : decode q_mMd_fill.1 111 = .ok (.iconst 1, 1) := by decide +kernel
theorem d_Md_fill_112 : decode q_mMd_fill.1 112 = .ok (.iload_n 1, 1) := by decide +kernel
theorem d_Md_fill_113 : decode q_mMd_fill.1 113 = .ok (.bipush 32, 2) := by decide +kernel
theorem d_Md_fill_115 : decode q_mMd_fill.1 115 = .ok (.irem, 1) := by decide +kernel
theorem d_Md_fill_116 : decode q_mMd_fill.1 116 = .ok (.ishl, 1) := by decide +kernel
theorem d_Md_fill_117 : decode q_mMd_fill.1 117 = .ok (.ior, 1) := by decide +kernel
theorem d_Md_fill_118 : decode q_mMd_fill.1 118 = .ok (.iastore, 1) := by decide +kernel
theorem d_Md_fill_119 : decode q_mMd_fill.1 119 = .ok (.iconst 1, 1) := by decide +kernel
theorem d_Md_fill_120 : decode q_mMd_fill.1 120 = .ok (.istore_n 2, 1) := by decide +kernel
theorem d_Md_fill_121 : decode q_mMd_fill.1 121 = .ok (.iinc 4 (-1), 3) := by decide +kernel
theorem d_Md_fill_124 : decode q_mMd_fill.1 124 = .ok (.goto (-67), 3) := by decide +kernel
theorem d_Md_fill_127 : decode q_mMd_fill.1 127 = .ok (.iinc 3 1, 3) := by decide +kernel
theorem d_Md_fill_130 : decode q_mMd_fill.1 130 = .ok (.goto (-95), 3) := by decide +kernel
theorem d_Md_fill_133 : decode q_mMd_fill.1 133 = .ok (.iinc 1 (-1), 3) := by decide +kernel
theorem d_Md_fill_136 : decode q_mMd_fill.1 136 = .ok (.goto (-109), 3) := by decide +kernel
theorem d_Md_fill_139 : decode q_mMd_fill.1 139 = .ok (.return_, 1) := by decide +kernel
theorem d_Md_reaches_0 : decode q_mMd_reaches.1 0 = .ok (.aload_n 0, 1) := by decide +kernel
theorem d_Md_reaches_1 : decode q_mMd_reaches.1 1 = .ok (.getfield 76, 3) := by decide +kernel
theorem d_Md_reaches_4 : decode q_mMd_reaches.1 4 = .ok (.bipush 7, 2) := by decide +kernel
theorem d_Md_reaches_6 : decode q_mMd_reaches.1 6 = .ok (.iload_n 1, 1) := by decide +kernel
theorem d_Md_reaches_7 : decode q_mMd_reaches.1 7 = .ok (.imul, 1) := by decide +kernel
theorem d_Md_reaches_8 : decode q_mMd_reaches.1 8 = .ok (.iload_n 2, 1) := by decide +kernel
theorem d_Md_reaches_9 : decode q_mMd_reaches.1 9 = .ok (.bipush 32, 2) := by decide +kernel
theorem d_Md_reaches_11 : decode q_mMd_reaches.1 11 = .ok (.idiv, 1) := by decide +kernel
theorem d_Md_reaches_12 : decode q_mMd_reaches.1 12 = .ok (.iadd, 1) := by decide +kernel
theorem d_Md_reaches_13 : decode q_mMd_reaches.1 13 = .ok (.iaload, 1) := by decide +kernel
theorem d_Md_reaches_14 : decode q_mMd_reaches.1 14 = .ok (.iload_n 2, 1) := by decide +kernel
theorem d_Md_reaches_15 : decode q_mMd_reaches.1 15 = .ok (.bipush 32, 2) := by decide +kernel
theorem d_Md_reaches_17 : decode q_mMd_reaches.1 17 = .ok (.irem, 1) := by decide +kernel
theorem d_Md_reaches_18 : decode q_mMd_reaches.1 18 = .ok (.ishr, 1) := by decide +kernel
theorem d_Md_reaches_19 : decode q_mMd_reaches.1 19 = .ok (.iconst 1, 1) := by decide +kernel
theorem d_Md_reaches_20 : decode q_mMd_reaches.1 20 = .ok (.iand, 1) := by decide +kernel
theorem d_Md_reaches_21 : decode q_mMd_reaches.1 21 = .ok (.iconst 1, 1) := by decide +kernel
theorem d_Md_reaches_22 : decode q_mMd_reaches.1 22 = .ok (.if_icmp .ne 7, 3) := by decide +kernel
theorem d_Md_reaches_25 : decode q_mMd_reaches.1 25 = .ok (.iconst 1, 1) := by decide +kernel
theorem d_Md_reaches_26 : decode q_mMd_reaches.1 26 = .ok (.goto 4, 3) := by decide +kernel
theorem d_Md_reaches_29 : decode q_mMd_reaches.1 29 = .ok (.iconst 0, 1) := by decide +kernel
theorem d_Md_reaches_30 : decode q_mMd_reaches.1 30 = .ok (.ireturn, 1) := by decide +kernel
theorem d_Md_may_0 : decode q_mMd_may.1 0 = .ok (.aload_n 0, 1) := by decide +kernel
theorem d_Md_may_1 : decode q_mMd_may.1 1 = .ok (.getfield 58, 3) := by decide +kernel
theorem d_Md_may_4 : decode q_mMd_may.1 4 = .ok (.iload_n 1, 1) := by decide +kernel
theorem d_Md_may_5 : decode q_mMd_may.1 5 = .ok (.iaload, 1) := by decide +kernel
theorem d_Md_may_6 : decode q_mMd_may.1 6 = .ok (.ifCond .ne 31, 3) := by decide +kernel
theorem d_Md_may_9 : decode q_mMd_may.1 9 = .ok (.aload_n 0, 1) := by decide +kernel
theorem d_Md_may_10 : decode q_mMd_may.1 10 = .ok (.iload_n 1, 1) := by decide +kernel
theorem d_Md_may_11 : decode q_mMd_may.1 11 = .ok (.iload_n 2, 1) := by decide +kernel
theorem d_Md_may_12 : decode q_mMd_may.1 12 = .ok (.invokevirtual 228, 3) := by decide +kernel
theorem d_Md_may_15 : decode q_mMd_may.1 15 = .ok (.ifCond .eq 20, 3) := by decide +kernel
theorem d_Md_may_18 : decode q_mMd_may.1 18 = .ok (.aload_n 0, 1) := by decide +kernel
theorem d_Md_may_19 : decode q_mMd_may.1 19 = .ok (.iload_n 1, 1) := by decide +kernel
theorem d_Md_may_20 : decode q_mMd_may.1 20 = .ok (.iconst 1, 1) := by decide +kernel
theorem d_Md_may_21 : decode q_mMd_may.1 21 = .ok (.iadd, 1) := by decide +kernel
theorem d_Md_may_22 : decode q_mMd_may.1 22 = .ok (.iload_n 2, 1) := by decide +kernel
theorem d_Md_may_23 : decode q_mMd_may.1 23 = .ok (.iconst 1, 1) := by decide +kernel
theorem d_Md_may_24 : decode q_mMd_may.1 24 = .ok (.iadd, 1) := by decide +kernel
theorem d_Md_may_25 : decode q_mMd_may.1 25 = .ok (.invokevirtual 231, 3) := by decide +kernel
theorem d_Md_may_28 : decode q_mMd_may.1 28 = .ok (.ifCond .eq 7, 3) := by decide +kernel
theorem d_Md_may_31 : decode q_mMd_may.1 31 = .ok (.iconst 1, 1) := by decide +kernel
theorem d_Md_may_32 : decode q_mMd_may.1 32 = .ok (.goto 4, 3) := by decide +kernel
theorem d_Md_may_35 : decode q_mMd_may.1 35 = .ok (.iconst 0, 1) := by decide +kernel
theorem d_Md_may_36 : decode q_mMd_may.1 36 = .ok (.ireturn, 1) := by decide +kernel
theorem d_Md_may_37 : decode q_mMd_may.1 37 = .ok (.aload_n 0, 1) := by decide +kernel
theorem d_Md_may_38 : decode q_mMd_may.1 38 = .ok (.getfield 58, 3) := by decide +kernel
theorem d_Md_may_41 : decode q_mMd_may.1 41 = .ok (.iload_n 1, 1) := by decide +kernel
theorem d_Md_may_42 : decode q_mMd_may.1 42 = .ok (.iaload, 1) := by decide +kernel
theorem d_Md_may_43 : decode q_mMd_may.1 43 = .ok (.iconst 1, 1) := by decide +kernel
theorem d_Md_may_44 : decode q_mMd_may.1 44 = .ok (.if_icmp .ne 37, 3) := by decide +kernel
theorem d_Md_may_47 : decode q_mMd_may.1 47 = .ok (.aload_n 0, 1) := by decide +kernel
theorem d_Md_may_48 : decode q_mMd_may.1 48 = .ok (.aload_n 0, 1) := by decide +kernel
theorem d_Md_may_49 : decode q_mMd_may.1 49 = .ok (.getfield 61, 3) := by decide +kernel
theorem d_Md_may_52 : decode q_mMd_may.1 52 = .ok (.iload_n 1, 1) := by decide +kernel
theorem d_Md_may_53 : decode q_mMd_may.1 53 = .ok (.iaload, 1) := by decide +kernel
theorem d_Md_may_54 : decode q_mMd_may.1 54 = .ok (.iload_n 2, 1) := by decide +kernel
theorem d_Md_may_55 : decode q_mMd_may.1 55 = .ok (.invokevirtual 231, 3) := by decide +kernel
theorem d_Md_may_58 : decode q_mMd_may.1 58 = .ok (.ifCond .ne 17, 3) := by decide +kernel
theorem d_Md_may_61 : decode q_mMd_may.1 61 = .ok (.aload_n 0, 1) := by decide +kernel
theorem d_Md_may_62 : decode q_mMd_may.1 62 = .ok (.aload_n 0, 1) := by decide +kernel
theorem d_Md_may_63 : decode q_mMd_may.1 63 = .ok (.getfield 64, 3) := by decide +kernel
theorem d_Md_may_66 : decode q_mMd_may.1 66 = .ok (.iload_n 1, 1) := by decide +kernel
theorem d_Md_may_67 : decode q_mMd_may.1 67 = .ok (.iaload, 1) := by decide +kernel
theorem d_Md_may_68 : decode q_mMd_may.1 68 = .ok (.iload_n 2, 1) := by decide +kernel
theorem d_Md_may_69 : decode q_mMd_may.1 69 = .ok (.invokevirtual 231, 3) := by decide +kernel
theorem d_Md_may_72 : decode q_mMd_may.1 72 = .ok (.ifCond .eq 7, 3) := by decide +kernel
theorem d_Md_may_75 : decode q_mMd_may.1 75 = .ok (.iconst 1, 1) := by decide +kernel
theorem d_Md_may_76 : decode q_mMd_may.1 76 = .ok (.goto 4, 3) := by decide +kernel
theorem d_Md_may_79 : decode q_mMd_may.1 79 = .ok (.iconst 0, 1) := by decide +kernel
theorem d_Md_may_80 : decode q_mMd_may.1 80 = .ok (.ireturn, 1) := by decide +kernel
theorem d_Md_may_81 : decode q_mMd_may.1 81 = .ok (.aload_n 0, 1) := by decide +kernel
theorem d_Md_may_82 : decode q_mMd_may.1 82 = .ok (.getfield 58, 3) := by decide +kernel
theorem d_Md_may_85 : decode q_mMd_may.1 85 = .ok (.iload_n 1, 1) := by decide +kernel
theorem d_Md_may_86 : decode q_mMd_may.1 86 = .ok (.iaload, 1) := by decide +kernel
theorem d_Md_may_87 : decode q_mMd_may.1 87 = .ok (.iconst 4, 1) := by decide +kernel
theorem d_Md_may_88 : decode q_mMd_may.1 88 = .ok (.if_icmp .ne 11, 3) := by decide +kernel
theorem d_Md_may_91 : decode q_mMd_may.1 91 = .ok (.aload_n 0, 1) := by decide +kernel
theorem d_Md_may_92 : decode q_mMd_may.1 92 = .ok (.iload_n 2, 1) := by decide +kernel
theorem d_Md_may_93 : decode q_mMd_may.1 93 = .ok (.invokevirtual 234, 3) := by decide +kernel
theorem d_Md_may_96 : decode q_mMd_may.1 96 = .ok (.goto 35, 3) := by decide +kernel
theorem d_Md_may_99 : decode q_mMd_may.1 99 = .ok (.aload_n 0, 1) := by decide +kernel
theorem d_Md_may_100 : decode q_mMd_may.1 100 = .ok (.getfield 58, 3) := by decide +kernel
theorem d_Md_may_103 : decode q_mMd_may.1 103 = .ok (.iload_n 1, 1) := by decide +kernel
theorem d_Md_may_104 : decode q_mMd_may.1 104 = .ok (.iaload, 1) := by decide +kernel
theorem d_Md_may_105 : decode q_mMd_may.1 105 = .ok (.iconst 2, 1) := by decide +kernel
theorem d_Md_may_106 : decode q_mMd_may.1 106 = .ok (.if_icmp .ne 17, 3) := by decide +kernel
theorem d_Md_may_109 : decode q_mMd_may.1 109 = .ok (.aload_n 0, 1) := by decide +kernel
theorem d_Md_may_110 : decode q_mMd_may.1 110 = .ok (.aload_n 0, 1) := by decide +kernel
theorem d_Md_may_111 : decode q_mMd_may.1 111 = .ok (.getfield 61, 3) := by decide +kernel
theorem d_Md_may_114 : decode q_mMd_may.1 114 = .ok (.iload_n 1, 1) := by decide +kernel
theorem d_Md_may_115 : decode q_mMd_may.1 115 = .ok (.iaload, 1) := by decide +kernel
theorem d_Md_may_116 : decode q_mMd_may.1 116 = .ok (.iload_n 2, 1) := by decide +kernel
theorem d_Md_may_117 : decode q_mMd_may.1 117 = .ok (.invokevirtual 231, 3) := by decide +kernel
theorem d_Md_may_120 : decode q_mMd_may.1 120 = .ok (.goto 11, 3) := by decide +kernel
theorem d_Md_may_123 : decode q_mMd_may.1 123 = .ok (.aload_n 0, 1) := by decide +kernel
theorem d_Md_may_124 : decode q_mMd_may.1 124 = .ok (.iload_n 1, 1) := by decide +kernel
theorem d_Md_may_125 : decode q_mMd_may.1 125 = .ok (.iconst 1, 1) := by decide +kernel
theorem d_Md_may_126 : decode q_mMd_may.1 126 = .ok (.iadd, 1) := by decide +kernel
theorem d_Md_may_127 : decode q_mMd_may.1 127 = .ok (.iload_n 2, 1) := by decide +kernel
theorem d_Md_may_128 : decode q_mMd_may.1 128 = .ok (.invokevirtual 231, 3) := by decide +kernel
theorem d_Md_may_131 : decode q_mMd_may.1 131 = .ok (.ireturn, 1) := by decide +kernel
theorem d_Md_takes_0 : decode q_mMd_takes.1 0 = .ok (.iload_n 2, 1) := by decide +kernel
theorem d_Md_takes_1 : decode q_mMd_takes.1 1 = .ok (.aload_n 0, 1) := by decide +kernel
theorem d_Md_takes_2 : decode q_mMd_takes.1 2 = .ok (.getfield 222, 3) := by decide +kernel
theorem d_Md_takes_5 : decode q_mMd_takes.1 5 = .ok (.if_icmp .ge 26, 3) := by decide +kernel
theorem d_Md_takes_8 : decode q_mMd_takes.1 8 = .ok (.aload_n 0, 1) := by decide +kernel
theorem d_Md_takes_9 : decode q_mMd_takes.1 9 = .ok (.aload_n 0, 1) := by decide +kernel
theorem d_Md_takes_10 : decode q_mMd_takes.1 10 = .ok (.getfield 61, 3) := by decide +kernel
theorem d_Md_takes_13 : decode q_mMd_takes.1 13 = .ok (.iload_n 1, 1) := by decide +kernel
theorem d_Md_takes_14 : decode q_mMd_takes.1 14 = .ok (.iaload, 1) := by decide +kernel
theorem d_Md_takes_15 : decode q_mMd_takes.1 15 = .ok (.aload_n 0, 1) := by decide +kernel
theorem d_Md_takes_16 : decode q_mMd_takes.1 16 = .ok (.getfield 73, 3) := by decide +kernel
theorem d_Md_takes_19 : decode q_mMd_takes.1 19 = .ok (.iload_n 2, 1) := by decide +kernel
theorem d_Md_takes_20 : decode q_mMd_takes.1 20 = .ok (.iaload, 1) := by decide +kernel
theorem d_Md_takes_21 : decode q_mMd_takes.1 21 = .ok (.invokevirtual 122, 3) := by decide +kernel
theorem d_Md_takes_24 : decode q_mMd_takes.1 24 = .ok (.ifCond .eq 7, 3) := by decide +kernel
theorem d_Md_takes_27 : decode q_mMd_takes.1 27 = .ok (.iconst 1, 1) := by decide +kernel
theorem d_Md_takes_28 : decode q_mMd_takes.1 28 = .ok (.goto 4, 3) := by decide +kernel
theorem d_Md_takes_31 : decode q_mMd_takes.1 31 = .ok (.iconst 0, 1) := by decide +kernel
theorem d_Md_takes_32 : decode q_mMd_takes.1 32 = .ok (.ireturn, 1) := by decide +kernel
theorem d_Md_isMatch_0 : decode q_mMd_isMatch.1 0 = .ok (.aload_n 0, 1) := by decide +kernel
theorem d_Md_isMatch_1 : decode q_mMd_isMatch.1 1 = .ok (.getfield 219, 3) := by decide +kernel
theorem d_Md_isMatch_4 : decode q_mMd_isMatch.1 4 = .ok (.ifCond .ne 11, 3) := by decide +kernel
theorem d_Md_isMatch_7 : decode q_mMd_isMatch.1 7 = .ok (.iload_n 1, 1) := by decide +kernel
theorem d_Md_isMatch_8 : decode q_mMd_isMatch.1 8 = .ok (.aload_n 0, 1) := by decide +kernel
theorem d_Md_isMatch_9 : decode q_mMd_isMatch.1 9 = .ok (.getfield 222, 3) := by decide +kernel
theorem d_Md_isMatch_12 : decode q_mMd_isMatch.1 12 = .ok (.if_icmp .ne 7, 3) := by decide +kernel
theorem d_Md_isMatch_15 : decode q_mMd_isMatch.1 15 = .ok (.iconst 1, 1) := by decide +kernel
theorem d_Md_isMatch_16 : decode q_mMd_isMatch.1 16 = .ok (.goto 4, 3) := by decide +kernel
theorem d_Md_isMatch_19 : decode q_mMd_isMatch.1 19 = .ok (.iconst 0, 1) := by decide +kernel
theorem d_Md_isMatch_20 : decode q_mMd_isMatch.1 20 = .ok (.ireturn, 1) := by decide +kernel
theorem d_Md_spread_0 : decode q_mMd_spread.1 0 = .ok (.aload_n 0, 1) := by decide +kernel
theorem d_Md_spread_1 : decode q_mMd_spread.1 1 = .ok (.iconst 1, 1) := by decide +kernel
theorem d_Md_spread_2 : decode q_mMd_spread.1 2 = .ok (.putfield 240, 3) := by decide +kernel
theorem d_Md_spread_5 : decode q_mMd_spread.1 5 = .ok (.aload_n 0, 1) := by decide +kernel
theorem d_Md_spread_6 : decode q_mMd_spread.1 6 = .ok (.getfield 91, 3) := by decide +kernel
theorem d_Md_spread_9 : decode q_mMd_spread.1 9 = .ok (.iconst 0, 1) := by decide +kernel
theorem d_Md_spread_10 : decode q_mMd_spread.1 10 = .ok (.iload_n 2, 1) := by decide +kernel
theorem d_Md_spread_11 : decode q_mMd_spread.1 11 = .ok (.iastore, 1) := by decide +kernel
theorem d_Md_spread_12 : decode q_mMd_spread.1 12 = .ok (.aload_n 0, 1) := by decide +kernel
theorem d_Md_spread_13 : decode q_mMd_spread.1 13 = .ok (.getfield 240, 3) := by decide +kernel
theorem d_Md_spread_16 : decode q_mMd_spread.1 16 = .ok (.ifCond .le 152, 3) := by decide +kernel
theorem d_Md_spread_19 : decode q_mMd_spread.1 19 = .ok (.aload_n 0, 1) := by decide +kernel
theorem d_Md_spread_20 : decode q_mMd_spread.1 20 = .ok (.dup, 1) := by decide +kernel
theorem d_Md_spread_21 : decode q_mMd_spread.1 21 = .ok (.getfield 240, 3) := by decide +kernel
theorem d_Md_spread_24 : decode q_mMd_spread.1 24 = .ok (.iconst 1, 1) := by decide +kernel
theorem d_Md_spread_25 : decode q_mMd_spread.1 25 = .ok (.isub, 1) := by decide +kernel
theorem d_Md_spread_26 : decode q_mMd_spread.1 26 = .ok (.putfield 240, 3) := by decide +kernel
theorem d_Md_spread_29 : decode q_mMd_spread.1 29 = .ok (.aload_n 0, 1) := by decide +kernel
theorem d_Md_spread_30 : decode q_mMd_spread.1 30 = .ok (.getfield 91, 3) := by decide +kernel
theorem d_Md_spread_33 : decode q_mMd_spread.1 33 = .ok (.aload_n 0, 1) := by decide +kernel
theorem d_Md_spread_34 : decode q_mMd_spread.1 34 = .ok (.getfield 240, 3) := by decide +kernel
theorem d_Md_spread_37 : decode q_mMd_spread.1 37 = .ok (.iaload, 1) := by decide +kernel
theorem d_Md_spread_38 : decode q_mMd_spread.1 38 = .ok (.istore_n 3, 1) := by decide +kernel
theorem d_Md_spread_39 : decode q_mMd_spread.1 39 = .ok (.aload_n 1, 1) := by decide +kernel
theorem d_Md_spread_40 : decode q_mMd_spread.1 40 = .ok (.iload_n 3, 1) := by decide +kernel
theorem d_Md_spread_41 : decode q_mMd_spread.1 41 = .ok (.baload, 1) := by decide +kernel
theorem d_Md_spread_42 : decode q_mMd_spread.1 42 = .ok (.ifCond .ne 123, 3) := by decide +kernel
theorem d_Md_spread_45 : decode q_mMd_spread.1 45 = .ok (.aload_n 1, 1) := by decide +kernel
theorem d_Md_spread_46 : decode q_mMd_spread.1 46 = .ok (.iload_n 3, 1) := by decide +kernel
theorem d_Md_spread_47 : decode q_mMd_spread.1 47 = .ok (.iconst 1, 1) := by decide +kernel
theorem d_Md_spread_48 : decode q_mMd_spread.1 48 = .ok (.bastore, 1) := by decide +kernel
theorem d_Md_spread_49 : decode q_mMd_spread.1 49 = .ok (.aload_n 0, 1) := by decide +kernel
theorem d_Md_spread_50 : decode q_mMd_spread.1 50 = .ok (.getfield 58, 3) := by decide +kernel
theorem d_Md_spread_53 : decode q_mMd_spread.1 53 = .ok (.iload_n 3, 1) := by decide +kernel
theorem d_Md_spread_54 : decode q_mMd_spread.1 54 = .ok (.iaload, 1) := by decide +kernel
theorem d_Md_spread_55 : decode q_mMd_spread.1 55 = .ok (.iconst 1, 1) := by decide +kernel
theorem d_Md_spread_56 : decode q_mMd_spread.1 56 = .ok (.if_icmp .ne 48, 3) := by decide +kernel
theorem d_Md_spread_59 : decode q_mMd_spread.1 59 = .ok (.aload_n 0, 1) := by decide +kernel
theorem d_Md_spread_60 : decode q_mMd_spread.1 60 = .ok (.getfield 91, 3) := by decide +kernel
theorem d_Md_spread_63 : decode q_mMd_spread.1 63 = .ok (.aload_n 0, 1) := by decide +kernel
theorem d_Md_spread_64 : decode q_mMd_spread.1 64 = .ok (.getfield 240, 3) := by decide +kernel
theorem d_Md_spread_67 : decode q_mMd_spread.1 67 = .ok (.aload_n 0, 1) := by decide +kernel
theorem d_Md_spread_68 : decode q_mMd_spread.1 68 = .ok (.getfield 64, 3) := by decide +kernel
theorem d_Md_spread_71 : decode q_mMd_spread.1 71 = .ok (.iload_n 3, 1) := by decide +kernel
theorem d_Md_spread_72 : decode q_mMd_spread.1 72 = .ok (.iaload, 1) := by decide +kernel
theorem d_Md_spread_73 : decode q_mMd_spread.1 73 = .ok (.iastore, 1) := by decide +kernel
theorem d_Md_spread_74 : decode q_mMd_spread.1 74 = .ok (.aload_n 0, 1) := by decide +kernel
theorem d_Md_spread_75 : decode q_mMd_spread.1 75 = .ok (.getfield 91, 3) := by decide +kernel
theorem d_Md_spread_78 : decode q_mMd_spread.1 78 = .ok (.aload_n 0, 1) := by decide +kernel
theorem d_Md_spread_79 : decode q_mMd_spread.1 79 = .ok (.getfield 240, 3) := by decide +kernel
theorem d_Md_spread_82 : decode q_mMd_spread.1 82 = .ok (.iconst 1, 1) := by decide +kernel
theorem d_Md_spread_83 : decode q_mMd_spread.1 83 = .ok (.iadd, 1) := by decide +kernel
theorem d_Md_spread_84 : decode q_mMd_spread.1 84 = .ok (.aload_n 0, 1) := by decide +kernel
theorem d_Md_spread_85 : decode q_mMd_spread.1 85 = .ok (.getfield 61, 3) := by decide +kernel
theorem d_Md_spread_88 : decode q_mMd_spread.1 88 = .ok (.iload_n 3, 1) := by decide +kernel
theorem d_Md_spread_89 : decode q_mMd_spread.1 89 = .ok (.iaload, 1) := by decide +kernel
theorem d_Md_spread_90 : decode q_mMd_spread.1 90 = .ok (.iastore, 1) := by decide +kernel
theorem d_Md_spread_91 : decode q_mMd_spread.1 91 = .ok (.aload_n 0, 1) := by decide +kernel
theorem d_Md_spread_92 : decode q_mMd_spread.1 92 = .ok (.dup, 1) := by decide +kernel
theorem d_Md_spread_93 : decode q_mMd_spread.1 93 = .ok (.getfield 240, 3) := by decide +kernel
theorem d_Md_spread_96 : decode q_mMd_spread.1 96 = .ok (.iconst 2, 1) := by decide +kernel
theorem d_Md_spread_97 : decode q_mMd_spread.1 97 = .ok (.iadd, 1) := by decide +kernel
theorem d_Md_spread_98 : decode q_mMd_spread.1 98 = .ok (.putfield 240, 3) := by decide +kernel
theorem d_Md_spread_101 : decode q_mMd_spread.1 101 = .ok (.goto 64, 3) := by decide +kernel
theorem d_Md_spread_104 : decode q_mMd_spread.1 104 = .ok (.aload_n 0, 1) := by decide +kernel
theorem d_Md_spread_105 : decode q_mMd_spread.1 105 = .ok (.getfield 58, 3) := by decide +kernel
theorem d_Md_spread_108 : decode q_mMd_spread.1 108 = .ok (.iload_n 3, 1) := by decide +kernel
theorem d_Md_spread_109 : decode q_mMd_spread.1 109 = .ok (.iaload, 1) := by decide +kernel
theorem d_Md_spread_110 : decode q_mMd_spread.1 110 = .ok (.iconst 2, 1) := by decide +kernel
theorem d_Md_spread_111 : decode q_mMd_spread.1 111 = .ok (.if_icmp .eq 13, 3) := by decide +kernel
theorem d_Md_spread_114 : decode q_mMd_spread.1 114 = .ok (.aload_n 0, 1) := by decide +kernel
theorem d_Md_spread_115 : decode q_mMd_spread.1 115 = .ok (.getfield 58, 3) := by decide +kernel
theorem d_Md_spread_118 : decode q_mMd_spread.1 118 = .ok (.iload_n 3, 1) := by decide +kernel
theorem d_Md_spread_119 : decode q_mMd_spread.1 119 = .ok (.iaload, 1) := by decide +kernel
theorem d_Md_spread_120 : decode q_mMd_spread.1 120 = .ok (.iconst 3, 1) := by decide +kernel
theorem d_Md_spread_121 : decode q_mMd_spread.1 121 = .ok (.if_icmp .ne 44, 3) := by decide +kernel
theorem d_Md_spread_124 : decode q_mMd_spread.1 124 = .ok (.aload_n 0, 1) := by decide +kernel
theorem d_Md_spread_125 : decode q_mMd_spread.1 125 = .ok (.getfield 91, 3) := by decide +kernel
theorem d_Md_spread_128 : decode q_mMd_spread.1 128 = .ok (.aload_n 0, 1) := by decide +kernel
theorem d_Md_spread_129 : decode q_mMd_spread.1 129 = .ok (.getfield 240, 3) := by decide +kernel
theorem d_Md_spread_132 : decode q_mMd_spread.1 132 = .ok (.aload_n 0, 1) := by decide +kernel
theorem d_Md_spread_133 : decode q_mMd_spread.1 133 = .ok (.getfield 58, 3) := by decide +kernel
theorem d_Md_spread_136 : decode q_mMd_spread.1 136 = .ok (.iload_n 3, 1) := by decide +kernel
theorem d_Md_spread_137 : decode q_mMd_spread.1 137 = .ok (.iaload, 1) := by decide +kernel
theorem d_Md_spread_138 : decode q_mMd_spread.1 138 = .ok (.iconst 2, 1) := by decide +kernel
theorem d_Md_spread_139 : decode q_mMd_spread.1 139 = .ok (.if_icmp .ne 12, 3) := by decide +kernel
theorem d_Md_spread_142 : decode q_mMd_spread.1 142 = .ok (.aload_n 0, 1) := by decide +kernel
theorem d_Md_spread_143 : decode q_mMd_spread.1 143 = .ok (.getfield 61, 3) := by decide +kernel
theorem d_Md_spread_146 : decode q_mMd_spread.1 146 = .ok (.iload_n 3, 1) := by decide +kernel
theorem d_Md_spread_147 : decode q_mMd_spread.1 147 = .ok (.iaload, 1) := by decide +kernel
theorem d_Md_spread_148 : decode q_mMd_spread.1 148 = .ok (.goto 6, 3) := by decide +kernel
theorem d_Md_spread_151 : decode q_mMd_spread.1 151 = .ok (.iload_n 3, 1) := by decide +kernel
theorem d_Md_spread_152 : decode q_mMd_spread.1 152 = .ok (.iconst 1, 1) := by decide +kernel
theorem d_Md_spread_153 : decode q_mMd_spread.1 153 = .ok (.iadd, 1) := by decide +kernel
theorem d_Md_spread_154 : decode q_mMd_spread.1 154 = .ok (.iastore, 1) := by decide +kernel
theorem d_Md_spread_155 : decode q_mMd_spread.1 155 = .ok (.aload_n 0, 1) := by decide +kernel
theorem d_Md_spread_156 : decode q_mMd_spread.1 156 = .ok (.dup, 1) := by decide +kernel
theorem d_Md_spread_157 : decode q_mMd_spread.1 157 = .ok (.getfield 240, 3) := by decide +kernel
theorem d_Md_spread_160 : decode q_mMd_spread.1 160 = .ok (.iconst 1, 1) := by decide +kernel
theorem d_Md_spread_161 : decode q_mMd_spread.1 161 = .ok (.iadd, 1) := by decide +kernel
theorem d_Md_spread_162 : decode q_mMd_spread.1 162 = .ok (.putfield 240, 3) := by decide +kernel
theorem d_Md_spread_165 : decode q_mMd_spread.1 165 = .ok (.goto (-153), 3) := by decide +kernel
theorem d_Md_spread_168 : decode q_mMd_spread.1 168 = .ok (.return_, 1) := by decide +kernel
end
section
theorem d_Md_choose_0 : decode q_mMd_choose.1 0 = .ok (.iconst 0, 1) := by decide +kernel
theorem d_Md_choose_1 : decode q_mMd_choose.1 1 = .ok (.istore_n 3, 1) := by decide +kernel
theorem d_Md_choose_2 : decode q_mMd_choose.1 2 = .ok (.iload_n 3, 1) := by decide +kernel
theorem d_Md_choose_3 : decode q_mMd_choose.1 3 = .ok (.aload_n 0, 1) := by decide +kernel
theorem d_Md_choose_4 : decode q_mMd_choose.1 4 = .ok (.getfield 109, 3) := by decide +kernel
theorem d_Md_choose_7 : decode q_mMd_choose.1 7 = .ok (.if_icmp .ge 16, 3) := by decide +kernel
theorem d_Md_choose_10 : decode q_mMd_choose.1 10 = .ok (.aload_n 0, 1) := by decide +kernel
theorem d_Md_choose_11 : decode q_mMd_choose.1 11 = .ok (.getfield 97, 3) := by decide +kernel
theorem d_Md_choose_14 : decode q_mMd_choose.1 14 = .ok (.iload_n 3, 1) := by decide +kernel
theorem d_Md_choose_15 : decode q_mMd_choose.1 15 = .ok (.iconst 0, 1) := by decide +kernel
theorem d_Md_choose_16 : decode q_mMd_choose.1 16 = .ok (.bastore, 1) := by decide +kernel
theorem d_Md_choose_17 : decode q_mMd_choose.1 17 = .ok (.iinc 3 1, 3) := by decide +kernel
theorem d_Md_choose_20 : decode q_mMd_choose.1 20 = .ok (.goto (-18), 3) := by decide +kernel
theorem d_Md_choose_23 : decode q_mMd_choose.1 23 = .ok (.aload_n 0, 1) := by decide +kernel
theorem d_Md_choose_24 : decode q_mMd_choose.1 24 = .ok (.iconst 1, 1) := by decide +kernel
theorem d_Md_choose_25 : decode q_mMd_choose.1 25 = .ok (.putfield 240, 3) := by decide +kernel
theorem d_Md_choose_28 : decode q_mMd_choose.1 28 = .ok (.aload_n 0, 1) := by decide +kernel
theorem d_Md_choose_29 : decode q_mMd_choose.1 29 = .ok (.getfield 91, 3) := by decide +kernel
theorem d_Md_choose_32 : decode q_mMd_choose.1 32 = .ok (.iconst 0, 1) := by decide +kernel
theorem d_Md_choose_33 : decode q_mMd_choose.1 33 = .ok (.iload_n 1, 1) := by decide +kernel
theorem d_Md_choose_34 : decode q_mMd_choose.1 34 = .ok (.iastore, 1) := by decide +kernel
theorem d_Md_choose_35 : decode q_mMd_choose.1 35 = .ok (.aload_n 0, 1) := by decide +kernel
theorem d_Md_choose_36 : decode q_mMd_choose.1 36 = .ok (.getfield 94, 3) := by decide +kernel
theorem d_Md_choose_39 : decode q_mMd_choose.1 39 = .ok (.iconst 0, 1) := by decide +kernel
theorem d_Md_choose_40 : decode q_mMd_choose.1 40 = .ok (.iconst (-1), 1) := by decide +kernel
theorem d_Md_choose_41 : decode q_mMd_choose.1 41 = .ok (.iastore, 1) := by decide +kernel
theorem d_Md_choose_42 : decode q_mMd_choose.1 42 = .ok (.aload_n 0, 1) := by decide +kernel
theorem d_Md_choose_43 : decode q_mMd_choose.1 43 = .ok (.getfield 240, 3) := by decide +kernel
theorem d_Md_choose_46 : decode q_mMd_choose.1 46 = .ok (.ifCond .le 272, 3) := by decide +kernel
theorem d_Md_choose_49 : decode q_mMd_choose.1 49 = .ok (.aload_n 0, 1) := by decide +kernel
theorem d_Md_choose_50 : decode q_mMd_choose.1 50 = .ok (.dup, 1) := by decide +kernel
theorem d_Md_choose_51 : decode q_mMd_choose.1 51 = .ok (.getfield 240, 3) := by decide +kernel
theorem d_Md_choose_54 : decode q_mMd_choose.1 54 = .ok (.iconst 1, 1) := by decide +kernel
theorem d_Md_choose_55 : decode q_mMd_choose.1 55 = .ok (.isub, 1) := by decide +kernel
theorem d_Md_choose_56 : decode q_mMd_choose.1 56 = .ok (.putfield 240, 3) := by decide +kernel
theorem d_Md_choose_59 : decode q_mMd_choose.1 59 = .ok (.aload_n 0, 1) := by decide +kernel
theorem d_Md_choose_60 : decode q_mMd_choose.1 60 = .ok (.getfield 91, 3) := by decide +kernel
theorem d_Md_choose_63 : decode q_mMd_choose.1 63 = .ok (.aload_n 0, 1) := by decide +kernel
theorem d_Md_choose_64 : decode q_mMd_choose.1 64 = .ok (.getfield 240, 3) := by decide +kernel
theorem d_Md_choose_67 : decode q_mMd_choose.1 67 = .ok (.iaload, 1) := by decide +kernel
theorem d_Md_choose_68 : decode q_mMd_choose.1 68 = .ok (.istore_n 3, 1) := by decide +kernel
theorem d_Md_choose_69 : decode q_mMd_choose.1 69 = .ok (.aload_n 0, 1) := by decide +kernel
theorem d_Md_choose_70 : decode q_mMd_choose.1 70 = .ok (.getfield 97, 3) := by decide +kernel
theorem d_Md_choose_73 : decode q_mMd_choose.1 73 = .ok (.iload_n 3, 1) := by decide +kernel
theorem d_Md_choose_74 : decode q_mMd_choose.1 74 = .ok (.baload, 1) := by decide +kernel
theorem d_Md_choose_75 : decode q_mMd_choose.1 75 = .ok (.ifCond .ne 240, 3) := by decide +kernel
theorem d_Md_choose_78 : decode q_mMd_choose.1 78 = .ok (.aload_n 0, 1) := by decide +kernel
theorem d_Md_choose_79 : decode q_mMd_choose.1 79 = .ok (.getfield 97, 3) := by decide +kernel
theorem d_Md_choose_82 : decode q_mMd_choose.1 82 = .ok (.iload_n 3, 1) := by decide +kernel
theorem d_Md_choose_83 : decode q_mMd_choose.1 83 = .ok (.iconst 1, 1) := by decide +kernel
theorem d_Md_choose_84 : decode q_mMd_choose.1 84 = .ok (.bastore, 1) := by decide +kernel
theorem d_Md_choose_85 : decode q_mMd_choose.1 85 = .ok (.aload_n 0, 1) := by decide +kernel
theorem d_Md_choose_86 : decode q_mMd_choose.1 86 = .ok (.getfield 100, 3) := by decide +kernel
theorem d_Md_choose_89 : decode q_mMd_choose.1 89 = .ok (.iload_n 3, 1) := by decide +kernel
theorem d_Md_choose_90 : decode q_mMd_choose.1 90 = .ok (.aload_n 0, 1) := by decide +kernel
theorem d_Md_choose_91 : decode q_mMd_choose.1 91 = .ok (.getfield 94, 3) := by decide +kernel
theorem d_Md_choose_94 : decode q_mMd_choose.1 94 = .ok (.aload_n 0, 1) := by decide +kernel
theorem d_Md_choose_95 : decode q_mMd_choose.1 95 = .ok (.getfield 240, 3) := by decide +kernel
theorem d_Md_choose_98 : decode q_mMd_choose.1 98 = .ok (.iaload, 1) := by decide +kernel
theorem d_Md_choose_99 : decode q_mMd_choose.1 99 = .ok (.iastore, 1) := by decide +kernel
theorem d_Md_choose_100 : decode q_mMd_choose.1 100 = .ok (.aload_n 0, 1) := by decide +kernel
theorem d_Md_choose_101 : decode q_mMd_choose.1 101 = .ok (.getfield 58, 3) := by decide +kernel
theorem d_Md_choose_104 : decode q_mMd_choose.1 104 = .ok (.iload_n 3, 1) := by decide +kernel
theorem d_Md_choose_105 : decode q_mMd_choose.1 105 = .ok (.iaload, 1) := by decide +kernel
theorem d_Md_choose_106 : decode q_mMd_choose.1 106 = .ok (.iconst 4, 1) := by decide +kernel
theorem d_Md_choose_107 : decode q_mMd_choose.1 107 = .ok (.if_icmp .ne 11, 3) := by decide +kernel
theorem d_Md_choose_110 : decode q_mMd_choose.1 110 = .ok (.aload_n 0, 1) := by decide +kernel
theorem d_Md_choose_111 : decode q_mMd_choose.1 111 = .ok (.iload_n 2, 1) := by decide +kernel
theorem d_Md_choose_112 : decode q_mMd_choose.1 112 = .ok (.invokevirtual 234, 3) := by decide +kernel
theorem d_Md_choose_115 : decode q_mMd_choose.1 115 = .ok (.ifCond .ne 21, 3) := by decide +kernel
theorem d_Md_choose_118 : decode q_mMd_choose.1 118 = .ok (.aload_n 0, 1) := by decide +kernel
theorem d_Md_choose_119 : decode q_mMd_choose.1 119 = .ok (.getfield 58, 3) := by decide +kernel
theorem d_Md_choose_122 : decode q_mMd_choose.1 122 = .ok (.iload_n 3, 1) := by decide +kernel
theorem d_Md_choose_123 : decode q_mMd_choose.1 123 = .ok (.iaload, 1) := by decide +kernel
theorem d_Md_choose_124 : decode q_mMd_choose.1 124 = .ok (.ifCond .ne 14, 3) := by decide +kernel
theorem d_Md_choose_127 : decode q_mMd_choose.1 127 = .ok (.aload_n 0, 1) := by decide +kernel
theorem d_Md_choose_128 : decode q_mMd_choose.1 128 = .ok (.iload_n 3, 1) := by decide +kernel
theorem d_Md_choose_129 : decode q_mMd_choose.1 129 = .ok (.iload_n 2, 1) := by decide +kernel
theorem d_Md_choose_130 : decode q_mMd_choose.1 130 = .ok (.invokevirtual 237, 3) := by decide +kernel
theorem d_Md_choose_133 : decode q_mMd_choose.1 133 = .ok (.ifCond .eq 5, 3) := by decide +kernel
theorem d_Md_choose_136 : decode q_mMd_choose.1 136 = .ok (.iload_n 3, 1) := by decide +kernel
theorem d_Md_choose_137 : decode q_mMd_choose.1 137 = .ok (.ireturn, 1) := by decide +kernel
theorem d_Md_choose_138 : decode q_mMd_choose.1 138 = .ok (.aload_n 0, 1) := by decide +kernel
theorem d_Md_choose_139 : decode q_mMd_choose.1 139 = .ok (.getfield 85, 3) := by decide +kernel
theorem d_Md_choose_142 : decode q_mMd_choose.1 142 = .ok (.iload_n 3, 1) := by decide +kernel
theorem d_Md_choose_143 : decode q_mMd_choose.1 143 = .ok (.aload_n 0, 1) := by decide +kernel
theorem d_Md_choose_144 : decode q_mMd_choose.1 144 = .ok (.getfield 85, 3) := by decide +kernel
theorem d_Md_choose_147 : decode q_mMd_choose.1 147 = .ok (.iload_n 3, 1) := by decide +kernel
theorem d_Md_choose_148 : decode q_mMd_choose.1 148 = .ok (.baload, 1) := by decide +kernel
theorem d_Md_choose_149 : decode q_mMd_choose.1 149 = .ok (.ifCond .ne 12, 3) := by decide +kernel
theorem d_Md_choose_152 : decode q_mMd_choose.1 152 = .ok (.aload_n 0, 1) := by decide +kernel
theorem d_Md_choose_153 : decode q_mMd_choose.1 153 = .ok (.getfield 58, 3) := by decide +kernel
theorem d_Md_choose_156 : decode q_mMd_choose.1 156 = .ok (.iload_n 3, 1) := by decide +kernel
theorem d_Md_choose_157 : decode q_mMd_choose.1 157 = .ok (.iaload, 1) := by decide +kernel
theorem d_Md_choose_158 : decode q_mMd_choose.1 158 = .ok (.ifCond .ne 7, 3) := by decide +kernel
theorem d_Md_choose_161 : decode q_mMd_choose.1 161 = .ok (.iconst 1, 1) := by decide +kernel
theorem d_Md_choose_162 : decode q_mMd_choose.1 162 = .ok (.goto 4, 3) := by decide +kernel
theorem d_Md_choose_165 : decode q_mMd_choose.1 165 = .ok (.iconst 0, 1) := by decide +kernel
theorem d_Md_choose_166 : decode q_mMd_choose.1 166 = .ok (.bastore, 1) := by decide +kernel
theorem d_Md_choose_167 : decode q_mMd_choose.1 167 = .ok (.aload_n 0, 1) := by decide +kernel
theorem d_Md_choose_168 : decode q_mMd_choose.1 168 = .ok (.getfield 58, 3) := by decide +kernel
theorem d_Md_choose_171 : decode q_mMd_choose.1 171 = .ok (.iload_n 3, 1) := by decide +kernel
theorem d_Md_choose_172 : decode q_mMd_choose.1 172 = .ok (.iaload, 1) := by decide +kernel
theorem d_Md_choose_173 : decode q_mMd_choose.1 173 = .ok (.iconst 1, 1) := by decide +kernel
theorem d_Md_choose_174 : decode q_mMd_choose.1 174 = .ok (.if_icmp .ne 70, 3) := by decide +kernel
theorem d_Md_choose_177 : decode q_mMd_choose.1 177 = .ok (.aload_n 0, 1) := by decide +kernel
theorem d_Md_choose_178 : decode q_mMd_choose.1 178 = .ok (.getfield 91, 3) := by decide +kernel
theorem d_Md_choose_181 : decode q_mMd_choose.1 181 = .ok (.aload_n 0, 1) := by decide +kernel
theorem d_Md_choose_182 : decode q_mMd_choose.1 182 = .ok (.getfield 240, 3) := by decide +kernel
theorem d_Md_choose_185 : decode q_mMd_choose.1 185 = .ok (.aload_n 0, 1) := by decide +kernel
theorem d_Md_choose_186 : decode q_mMd_choose.1 186 = .ok (.getfield 64, 3) := by decide +kernel
theorem d_Md_choose_189 : decode q_mMd_choose.1 189 = .ok (.iload_n 3, 1) := by decide +kernel
theorem d_Md_choose_190 : decode q_mMd_choose.1 190 = .ok (.iaload, 1) := by decide +kernel
theorem d_Md_choose_191 : decode q_mMd_choose.1 191 = .ok (.iastore, 1) := by decide +kernel
theorem d_Md_choose_192 : decode q_mMd_choose.1 192 = .ok (.aload_n 0, 1) := by decide +kernel
theorem d_Md_choose_193 : decode q_mMd_choose.1 193 = .ok (.getfield 94, 3) := by decide +kernel
theorem d_Md_choose_196 : decode q_mMd_choose.1 196 = .ok (.aload_n 0, 1) := by decide +kernel
theorem d_Md_choose_197 : decode q_mMd_choose.1 197 = .ok (.getfield 240, 3) := by decide +kernel
theorem d_Md_choose_200 : decode q_mMd_choose.1 200 = .ok (.iload_n 3, 1) := by decide +kernel
theorem d_Md_choose_201 : decode q_mMd_choose.1 201 = .ok (.iastore, 1) := by decide +kernel
theorem d_Md_choose_202 : decode q_mMd_choose.1 202 = .ok (.aload_n 0, 1) := by decide +kernel
theorem d_Md_choose_203 : decode q_mMd_choose.1 203 = .ok (.getfield 91, 3) := by decide +kernel
theorem d_Md_choose_206 : decode q_mMd_choose.1 206 = .ok (.aload_n 0, 1) := by decide +kernel
theorem d_Md_choose_207 : decode q_mMd_choose.1 207 = .ok (.getfield 240, 3) := by decide +kernel
theorem d_Md_choose_210 : decode q_mMd_choose.1 210 = .ok (.iconst 1, 1) := by decide +kernel
theorem d_Md_choose_211 : decode q_mMd_choose.1 211 = .ok (.iadd, 1) := by decide +kernel
theorem d_Md_choose_212 : decode q_mMd_choose.1 212 = .ok (.aload_n 0, 1) := by decide +kernel
theorem d_Md_choose_213 : decode q_mMd_choose.1 213 = .ok (.getfield 61, 3) := by decide +kernel
theorem d_Md_choose_216 : decode q_mMd_choose.1 216 = .ok (.iload_n 3, 1) := by decide +kernel
theorem d_Md_choose_217 : decode q_mMd_choose.1 217 = .ok (.iaload, 1) := by decide +kernel
theorem d_Md_choose_218 : decode q_mMd_choose.1 218 = .ok (.iastore, 1) := by decide +kernel
theorem d_Md_choose_219 : decode q_mMd_choose.1 219 = .ok (.aload_n 0, 1) := by decide +kernel
theorem d_Md_choose_220 : decode q_mMd_choose.1 220 = .ok (.getfield 94, 3) := by decide +kernel
theorem d_Md_choose_223 : decode q_mMd_choose.1 223 = .ok (.aload_n 0, 1) := by decide +kernel
theorem d_Md_choose_224 : decode q_mMd_choose.1 224 = .ok (.getfield 240, 3) := by decide +kernel
theorem d_Md_choose_227 : decode q_mMd_choose.1 227 = .ok (.iconst 1, 1) := by decide +kernel
theorem d_Md_choose_228 : decode q_mMd_choose.1 228 = .ok (.iadd, 1) := by decide +kernel
theorem d_Md_choose_229 : decode q_mMd_choose.1 229 = .ok (.iload_n 3, 1) := by decide +kernel
theorem d_Md_choose_230 : decode q_mMd_choose.1 230 = .ok (.iastore, 1) := by decide +kernel
theorem d_Md_choose_231 : decode q_mMd_choose.1 231 = .ok (.aload_n 0, 1) := by decide +kernel
theorem d_Md_choose_232 : decode q_mMd_choose.1 232 = .ok (.dup, 1) := by decide +kernel
theorem d_Md_choose_233 : decode q_mMd_choose.1 233 = .ok (.getfield 240, 3) := by decide +kernel
theorem d_Md_choose_236 : decode q_mMd_choose.1 236 = .ok (.iconst 2, 1) := by decide +kernel
theorem d_Md_choose_237 : decode q_mMd_choose.1 237 = .ok (.iadd, 1) := by decide +kernel
theorem d_Md_choose_238 : decode q_mMd_choose.1 238 = .ok (.putfield 240, 3) := by decide +kernel
theorem d_Md_choose_241 : decode q_mMd_choose.1 241 = .ok (.goto 74, 3) := by decide +kernel
theorem d_Md_choose_244 : decode q_mMd_choose.1 244 = .ok (.aload_n 0, 1) := by decide +kernel
theorem d_Md_choose_245 : decode q_mMd_choose.1 245 = .ok (.getfield 58, 3) := by decide +kernel
theorem d_Md_choose_248 : decode q_mMd_choose.1 248 = .ok (.iload_n 3, 1) := by decide +kernel
theorem d_Md_choose_249 : decode q_mMd_choose.1 249 = .ok (.iaload, 1) := by decide +kernel
theorem d_Md_choose_250 : decode q_mMd_choose.1 250 = .ok (.iconst 2, 1) := by decide +kernel
theorem d_Md_choose_251 : decode q_mMd_choose.1 251 = .ok (.if_icmp .eq 13, 3) := by decide +kernel
theorem d_Md_choose_254 : decode q_mMd_choose.1 254 = .ok (.aload_n 0, 1) := by decide +kernel
theorem d_Md_choose_255 : decode q_mMd_choose.1 255 = .ok (.getfield 58, 3) := by decide +kernel
theorem d_Md_choose_258 : decode q_mMd_choose.1 258 = .ok (.iload_n 3, 1) := by decide +kernel
theorem d_Md_choose_259 : decode q_mMd_choose.1 259 = .ok (.iaload, 1) := by decide +kernel
theorem d_Md_choose_260 : decode q_mMd_choose.1 260 = .ok (.iconst 3, 1) := by decide +kernel
theorem d_Md_choose_261 : decode q_mMd_choose.1 261 = .ok (.if_icmp .ne 54, 3) := by decide +kernel
theorem d_Md_choose_264 : decode q_mMd_choose.1 264 = .ok (.aload_n 0, 1) := by decide +kernel
theorem d_Md_choose_265 : decode q_mMd_choose.1 265 = .ok (.getfield 91, 3) := by decide +kernel
theorem d_Md_choose_268 : decode q_mMd_choose.1 268 = .ok (.aload_n 0, 1) := by decide +kernel
theorem d_Md_choose_269 : decode q_mMd_choose.1 269 = .ok (.getfield 240, 3) := by decide +kernel
theorem d_Md_choose_272 : decode q_mMd_choose.1 272 = .ok (.aload_n 0, 1) := by decide +kernel
theorem d_Md_choose_273 : decode q_mMd_choose.1 273 = .ok (.getfield 58, 3) := by decide +kernel
theorem d_Md_choose_276 : decode q_mMd_choose.1 276 = .ok (.iload_n 3, 1) := by decide +kernel
theorem d_Md_choose_277 : decode q_mMd_choose.1 277 = .ok (.iaload, 1) := by decide +kernel
theorem d_Md_choose_278 : decode q_mMd_choose.1 278 = .ok (.iconst 2, 1) := by decide +kernel
theorem d_Md_choose_279 : decode q_mMd_choose.1 279 = .ok (.if_icmp .ne 12, 3) := by decide +kernel
theorem d_Md_choose_282 : decode q_mMd_choose.1 282 = .ok (.aload_n 0, 1) := by decide +kernel
theorem d_Md_choose_283 : decode q_mMd_choose.1 283 = .ok (.getfield 61, 3) := by decide +kernel
theorem d_Md_choose_286 : decode q_mMd_choose.1 286 = .ok (.iload_n 3, 1) := by decide +kernel
theorem d_Md_choose_287 : decode q_mMd_choose.1 287 = .ok (.iaload, 1) := by decide +kernel
theorem d_Md_choose_288 : decode q_mMd_choose.1 288 = .ok (.goto 6, 3) := by decide +kernel
theorem d_Md_choose_291 : decode q_mMd_choose.1 291 = .ok (.iload_n 3, 1) := by decide +kernel
theorem d_Md_choose_292 : decode q_mMd_choose.1 292 = .ok (.iconst 1, 1) := by decide +kernel
theorem d_Md_choose_293 : decode q_mMd_choose.1 293 = .ok (.iadd, 1) := by decide +kernel
theorem d_Md_choose_294 : decode q_mMd_choose.1 294 = .ok (.iastore, 1) := by decide +kernel
theorem d_Md_choose_295 : decode q_mMd_choose.1 295 = .ok (.aload_n 0, 1) := by decide +kernel
theorem d_Md_choose_296 : decode q_mMd_choose.1 296 = .ok (.getfield 94, 3) := by decide +kernel
theorem d_Md_choose_299 : decode q_mMd_choose.1 299 = .ok (.aload_n 0, 1) := by decide +kernel
theorem d_Md_choose_300 : decode q_mMd_choose.1 300 = .ok (.getfield 240, 3) := by decide +kernel
theorem d_Md_choose_303 : decode q_mMd_choose.1 303 = .ok (.iload_n 3, 1) := by decide +kernel
theorem d_Md_choose_304 : decode q_mMd_choose.1 304 = .ok (.iastore, 1) := by decide +kernel
theorem d_Md_choose_305 : decode q_mMd_choose.1 305 = .ok (.aload_n 0, 1) := by decide +kernel
theorem d_Md_choose_306 : decode q_mMd_choose.1 306 = .ok (.dup, 1) := by decide +kernel
theorem d_Md_choose_307 : decode q_mMd_choose.1 307 = .ok (.getfield 240, 3) := by decide +kernel
theorem d_Md_choose_310 : decode q_mMd_choose.1 310 = .ok (.iconst 1, 1) := by decide +kernel
theorem d_Md_choose_311 : decode q_mMd_choose.1 311 = .ok (.iadd, 1) := by decide +kernel
theorem d_Md_choose_312 : decode q_mMd_choose.1 312 = .ok (.putfield 240, 3) := by decide +kernel
theorem d_Md_choose_315 : decode q_mMd_choose.1 315 = .ok (.goto (-273), 3) := by decide +kernel
theorem d_Md_choose_318 : decode q_mMd_choose.1 318 = .ok (.iconst (-1), 1) := by decide +kernel
theorem d_Md_choose_319 : decode q_mMd_choose.1 319 = .ok (.ireturn, 1) := by decide +kernel
theorem d_Md_setMarks_0 : decode q_mMd_setMarks.1 0 = .ok (.iconst 0, 1) := by decide +kernel
theorem d_Md_setMarks_1 : decode q_mMd_setMarks.1 1 = .ok (.istore_n 3, 1) := by decide +kernel
theorem d_Md_setMarks_2 : decode q_mMd_setMarks.1 2 = .ok (.iload_n 3, 1) := by decide +kernel
theorem d_Md_setMarks_3 : decode q_mMd_setMarks.1 3 = .ok (.aload_n 0, 1) := by decide +kernel
theorem d_Md_setMarks_4 : decode q_mMd_setMarks.1 4 = .ok (.getfield 109, 3) := by decide +kernel
theorem d_Md_setMarks_7 : decode q_mMd_setMarks.1 7 = .ok (.if_icmp .ge 16, 3) := by decide +kernel
theorem d_Md_setMarks_10 : decode q_mMd_setMarks.1 10 = .ok (.aload_n 0, 1) := by decide +kernel
theorem d_Md_setMarks_11 : decode q_mMd_setMarks.1 11 = .ok (.getfield 97, 3) := by decide +kernel
theorem d_Md_setMarks_14 : decode q_mMd_setMarks.1 14 = .ok (.iload_n 3, 1) := by decide +kernel
theorem d_Md_setMarks_15 : decode q_mMd_setMarks.1 15 = .ok (.iconst 0, 1) := by decide +kernel
theorem d_Md_setMarks_16 : decode q_mMd_setMarks.1 16 = .ok (.bastore, 1) := by decide +kernel
theorem d_Md_setMarks_17 : decode q_mMd_setMarks.1 17 = .ok (.iinc 3 1, 3) := by decide +kernel
theorem d_Md_setMarks_20 : decode q_mMd_setMarks.1 20 = .ok (.goto (-18), 3) := by decide +kernel
theorem d_Md_setMarks_23 : decode q_mMd_setMarks.1 23 = .ok (.iload_n 1, 1) := by decide +kernel
theorem d_Md_setMarks_24 : decode q_mMd_setMarks.1 24 = .ok (.istore_n 3, 1) := by decide +kernel
theorem d_Md_setMarks_25 : decode q_mMd_setMarks.1 25 = .ok (.iload_n 3, 1) := by decide +kernel
theorem d_Md_setMarks_26 : decode q_mMd_setMarks.1 26 = .ok (.ifCond .lt 35, 3) := by decide +kernel
theorem d_Md_setMarks_29 : decode q_mMd_setMarks.1 29 = .ok (.aload_n 0, 1) := by decide +kernel
theorem d_Md_setMarks_30 : decode q_mMd_setMarks.1 30 = .ok (.getfield 58, 3) := by decide +kernel
theorem d_Md_setMarks_33 : decode q_mMd_setMarks.1 33 = .ok (.iload_n 3, 1) := by decide +kernel
theorem d_Md_setMarks_34 : decode q_mMd_setMarks.1 34 = .ok (.iaload, 1) := by decide +kernel
theorem d_Md_setMarks_35 : decode q_mMd_setMarks.1 35 = .ok (.iconst 3, 1) := by decide +kernel
theorem d_Md_setMarks_36 : decode q_mMd_setMarks.1 36 = .ok (.if_icmp .ne 15, 3) := by decide +kernel
theorem d_Md_setMarks_39 : decode q_mMd_setMarks.1 39 = .ok (.aload_n 0, 1) := by decide +kernel
theorem d_Md_setMarks_40 : decode q_mMd_setMarks.1 40 = .ok (.getfield 79, 3) := by decide +kernel
theorem d_Md_setMarks_43 : decode q_mMd_setMarks.1 43 = .ok (.aload_n 0, 1) := by decide +kernel
theorem d_Md_setMarks_44 : decode q_mMd_setMarks.1 44 = .ok (.getfield 61, 3) := by decide +kernel
theorem d_Md_setMarks_47 : decode q_mMd_setMarks.1 47 = .ok (.iload_n 3, 1) := by decide +kernel
theorem d_Md_setMarks_48 : decode q_mMd_setMarks.1 48 = .ok (.iaload, 1) := by decide +kernel
theorem d_Md_setMarks_49 : decode q_mMd_setMarks.1 49 = .ok (.iload_n 2, 1) := by decide +kernel
theorem d_Md_setMarks_50 : decode q_mMd_setMarks.1 50 = .ok (.iastore, 1) := by decide +kernel
theorem d_Md_setMarks_51 : decode q_mMd_setMarks.1 51 = .ok (.aload_n 0, 1) := by decide +kernel
theorem d_Md_setMarks_52 : decode q_mMd_setMarks.1 52 = .ok (.getfield 100, 3) := by decide +kernel
theorem d_Md_setMarks_55 : decode q_mMd_setMarks.1 55 = .ok (.iload_n 3, 1) := by decide +kernel
theorem d_Md_setMarks_56 : decode q_mMd_setMarks.1 56 = .ok (.iaload, 1) := by decide +kernel
theorem d_Md_setMarks_57 : decode q_mMd_setMarks.1 57 = .ok (.istore_n 3, 1) := by decide +kernel
theorem d_Md_setMarks_58 : decode q_mMd_setMarks.1 58 = .ok (.goto (-33), 3) := by decide +kernel
theorem d_Md_setMarks_61 : decode q_mMd_setMarks.1 61 = .ok (.return_, 1) := by decide +kernel
theorem d_Md_step_0 : decode q_mMd_step.1 0 = .ok (.iconst 0, 1) := by decide +kernel
theorem d_Md_step_1 : decode q_mMd_step.1 1 = .ok (.istore_n 2, 1) := by decide +kernel
theorem d_Md_step_2 : decode q_mMd_step.1 2 = .ok (.iload_n 2, 1) := by decide +kernel
theorem d_Md_step_3 : decode q_mMd_step.1 3 = .ok (.aload_n 0, 1) := by decide +kernel
theorem d_Md_step_4 : decode q_mMd_step.1 4 = .ok (.getfield 109, 3) := by decide +kernel
theorem d_Md_step_7 : decode q_mMd_step.1 7 = .ok (.if_icmp .ge 16, 3) := by decide +kernel
theorem d_Md_step_10 : decode q_mMd_step.1 10 = .ok (.aload_n 0, 1) := by decide +kernel
theorem d_Md_step_11 : decode q_mMd_step.1 11 = .ok (.getfield 88, 3) := by decide +kernel
theorem d_Md_step_14 : decode q_mMd_step.1 14 = .ok (.iload_n 2, 1) := by decide +kernel
theorem d_Md_step_15 : decode q_mMd_step.1 15 = .ok (.iconst 0, 1) := by decide +kernel
theorem d_Md_step_16 : decode q_mMd_step.1 16 = .ok (.bastore, 1) := by decide +kernel
theorem d_Md_step_17 : decode q_mMd_step.1 17 = .ok (.iinc 2 1, 3) := by decide +kernel
theorem d_Md_step_20 : decode q_mMd_step.1 20 = .ok (.goto (-18), 3) := by decide +kernel
theorem d_Md_step_23 : decode q_mMd_step.1 23 = .ok (.iconst 0, 1) := by decide +kernel
theorem d_Md_step_24 : decode q_mMd_step.1 24 = .ok (.istore_n 2, 1) := by decide +kernel
theorem d_Md_step_25 : decode q_mMd_step.1 25 = .ok (.iload_n 2, 1) := by decide +kernel
theorem d_Md_step_26 : decode q_mMd_step.1 26 = .ok (.aload_n 0, 1) := by decide +kernel
theorem d_Md_step_27 : decode q_mMd_step.1 27 = .ok (.getfield 109, 3) := by decide +kernel
theorem d_Md_step_30 : decode q_mMd_step.1 30 = .ok (.if_icmp .ge 47, 3) := by decide +kernel
theorem d_Md_step_33 : decode q_mMd_step.1 33 = .ok (.aload_n 0, 1) := by decide +kernel
theorem d_Md_step_34 : decode q_mMd_step.1 34 = .ok (.getfield 85, 3) := by decide +kernel
theorem d_Md_step_37 : decode q_mMd_step.1 37 = .ok (.iload_n 2, 1) := by decide +kernel
theorem d_Md_step_38 : decode q_mMd_step.1 38 = .ok (.baload, 1) := by decide +kernel
theorem d_Md_step_39 : decode q_mMd_step.1 39 = .ok (.ifCond .eq 32, 3) := by decide +kernel
theorem d_Md_step_42 : decode q_mMd_step.1 42 = .ok (.aload_n 0, 1) := by decide +kernel
theorem d_Md_step_43 : decode q_mMd_step.1 43 = .ok (.getfield 58, 3) := by decide +kernel
theorem d_Md_step_46 : decode q_mMd_step.1 46 = .ok (.iload_n 2, 1) := by decide +kernel
theorem d_Md_step_47 : decode q_mMd_step.1 47 = .ok (.iaload, 1) := by decide +kernel
theorem d_Md_step_48 : decode q_mMd_step.1 48 = .ok (.ifCond .ne 23, 3) := by decide +kernel
theorem d_Md_step_51 : decode q_mMd_step.1 51 = .ok (.aload_n 0, 1) := by decide +kernel
theorem d_Md_step_52 : decode q_mMd_step.1 52 = .ok (.iload_n 2, 1) := by decide +kernel
theorem d_Md_step_53 : decode q_mMd_step.1 53 = .ok (.iload_n 1, 1) := by decide +kernel
theorem d_Md_step_54 : decode q_mMd_step.1 54 = .ok (.invokevirtual 228, 3) := by decide +kernel
theorem d_Md_step_57 : decode q_mMd_step.1 57 = .ok (.ifCond .eq 14, 3) := by decide +kernel
theorem d_Md_step_60 : decode q_mMd_step.1 60 = .ok (.aload_n 0, 1) := by decide +kernel
theorem d_Md_step_61 : decode q_mMd_step.1 61 = .ok (.aload_n 0, 1) := by decide +kernel
theorem d_Md_step_62 : decode q_mMd_step.1 62 = .ok (.getfield 88, 3) := by decide +kernel
theorem d_Md_step_65 : decode q_mMd_step.1 65 = .ok (.iload_n 2, 1) := by decide +kernel
theorem d_Md_step_66 : decode q_mMd_step.1 66 = .ok (.iconst 1, 1) := by decide +kernel
theorem d_Md_step_67 : decode q_mMd_step.1 67 = .ok (.iadd, 1) := by decide +kernel
theorem d_Md_step_68 : decode q_mMd_step.1 68 = .ok (.invokevirtual 249, 3) := by decide +kernel
theorem d_Md_step_71 : decode q_mMd_step.1 71 = .ok (.iinc 2 1, 3) := by decide +kernel
theorem d_Md_step_74 : decode q_mMd_step.1 74 = .ok (.goto (-49), 3) := by decide +kernel
theorem d_Md_step_77 : decode q_mMd_step.1 77 = .ok (.iconst 0, 1) := by decide +kernel
theorem d_Md_step_78 : decode q_mMd_step.1 78 = .ok (.istore_n 2, 1) := by decide +kernel
theorem d_Md_step_79 : decode q_mMd_step.1 79 = .ok (.iload_n 2, 1) := by decide +kernel
theorem d_Md_step_80 : decode q_mMd_step.1 80 = .ok (.aload_n 0, 1) := by decide +kernel
theorem d_Md_step_81 : decode q_mMd_step.1 81 = .ok (.getfield 109, 3) := by decide +kernel
theorem d_Md_step_84 : decode q_mMd_step.1 84 = .ok (.if_icmp .ge 21, 3) := by decide +kernel
theorem d_Md_step_87 : decode q_mMd_step.1 87 = .ok (.aload_n 0, 1) := by decide +kernel
theorem d_Md_step_88 : decode q_mMd_step.1 88 = .ok (.getfield 85, 3) := by decide +kernel
theorem d_Md_step_91 : decode q_mMd_step.1 91 = .ok (.iload_n 2, 1) := by decide +kernel
theorem d_Md_step_92 : decode q_mMd_step.1 92 = .ok (.aload_n 0, 1) := by decide +kernel
theorem d_Md_step_93 : decode q_mMd_step.1 93 = .ok (.getfield 88, 3) := by decide +kernel
theorem d_Md_step_96 : decode q_mMd_step.1 96 = .ok (.iload_n 2, 1) := by decide +kernel
theorem d_Md_step_97 : decode q_mMd_step.1 97 = .ok (.baload, 1) := by decide +kernel
theorem d_Md_step_98 : decode q_mMd_step.1 98 = .ok (.bastore, 1) := by decide +kernel
theorem d_Md_step_99 : decode q_mMd_step.1 99 = .ok (.iinc 2 1, 3) := by decide +kernel
theorem d_Md_step_102 : decode q_mMd_step.1 102 = .ok (.goto (-23), 3) := by decide +kernel
theorem d_Md_step_105 : decode q_mMd_step.1 105 = .ok (.return_, 1) := by decide +kernel
theorem d_Md_live_0 : decode q_mMd_live.1 0 = .ok (.aload_n 0, 1) := by decide +kernel
theorem d_Md_live_1 : decode q_mMd_live.1 1 = .ok (.iconst 0, 1) := by decide +kernel
theorem d_Md_live_2 : decode q_mMd_live.1 2 = .ok (.putfield 103, 3) := by decide +kernel
theorem d_Md_live_5 : decode q_mMd_live.1 5 = .ok (.iconst 0, 1) := by decide +kernel
theorem d_Md_live_6 : decode q_mMd_live.1 6 = .ok (.istore_n 1, 1) := by decide +kernel
theorem d_Md_live_7 : decode q_mMd_live.1 7 = .ok (.aload_n 0, 1) := by decide +kernel
theorem d_Md_live_8 : decode q_mMd_live.1 8 = .ok (.getfield 212, 3) := by decide +kernel
theorem d_Md_live_11 : decode q_mMd_live.1 11 = .ok (.ifCond .eq 40, 3) := by decide +kernel
theorem d_Md_live_14 : decode q_mMd_live.1 14 = .ok (.aload_n 0, 1) := by decide +kernel
theorem d_Md_live_15 : decode q_mMd_live.1 15 = .ok (.invokevirtual 263, 3) := by decide +kernel
theorem d_Md_live_18 : decode q_mMd_live.1 18 = .ok (.iconst 0, 1) := by decide +kernel
theorem d_Md_live_19 : decode q_mMd_live.1 19 = .ok (.istore_n 2, 1) := by decide +kernel
theorem d_Md_live_20 : decode q_mMd_live.1 20 = .ok (.iload_n 2, 1) := by decide +kernel
theorem d_Md_live_21 : decode q_mMd_live.1 21 = .ok (.aload_n 0, 1) := by decide +kernel
theorem d_Md_live_22 : decode q_mMd_live.1 22 = .ok (.getfield 109, 3) := by decide +kernel
theorem d_Md_live_25 : decode q_mMd_live.1 25 = .ok (.if_icmp .ge 26, 3) := by decide +kernel
theorem d_Md_live_28 : decode q_mMd_live.1 28 = .ok (.aload_n 0, 1) := by decide +kernel
theorem d_Md_live_29 : decode q_mMd_live.1 29 = .ok (.getfield 82, 3) := by decide +kernel
theorem d_Md_live_32 : decode q_mMd_live.1 32 = .ok (.iload_n 2, 1) := by decide +kernel
theorem d_Md_live_33 : decode q_mMd_live.1 33 = .ok (.baload, 1) := by decide +kernel
theorem d_Md_live_34 : decode q_mMd_live.1 34 = .ok (.ifCond .eq 9, 3) := by decide +kernel
theorem d_Md_live_37 : decode q_mMd_live.1 37 = .ok (.iload_n 1, 1) := by decide +kernel
theorem d_Md_live_38 : decode q_mMd_live.1 38 = .ok (.iconst 1, 1) := by decide +kernel
theorem d_Md_live_39 : decode q_mMd_live.1 39 = .ok (.iadd, 1) := by decide +kernel
theorem d_Md_live_40 : decode q_mMd_live.1 40 = .ok (.goto 4, 3) := by decide +kernel
theorem d_Md_live_43 : decode q_mMd_live.1 43 = .ok (.iload_n 1, 1) := by decide +kernel
theorem d_Md_live_44 : decode q_mMd_live.1 44 = .ok (.istore_n 1, 1) := by decide +kernel
theorem d_Md_live_45 : decode q_mMd_live.1 45 = .ok (.iinc 2 1, 3) := by decide +kernel
theorem d_Md_live_48 : decode q_mMd_live.1 48 = .ok (.goto (-28), 3) := by decide +kernel
theorem d_Md_live_51 : decode q_mMd_live.1 51 = .ok (.iload_n 1, 1) := by decide +kernel
theorem d_Md_live_52 : decode q_mMd_live.1 52 = .ok (.ireturn, 1) := by decide +kernel
theorem d_Md_isLive_0 : decode q_mMd_isLive.1 0 = .ok (.aload_n 0, 1) := by decide +kernel
theorem d_Md_isLive_1 : decode q_mMd_isLive.1 1 = .ok (.iconst 0, 1) := by decide +kernel
theorem d_Md_isLive_2 : decode q_mMd_isLive.1 2 = .ok (.putfield 103, 3) := by decide +kernel
theorem d_Md_isLive_5 : decode q_mMd_isLive.1 5 = .ok (.aload_n 0, 1) := by decide +kernel
theorem d_Md_isLive_6 : decode q_mMd_isLive.1 6 = .ok (.getfield 212, 3) := by decide +kernel
theorem d_Md_isLive_9 : decode q_mMd_isLive.1 9 = .ok (.ifCond .eq 15, 3) := by decide +kernel
theorem d_Md_isLive_12 : decode q_mMd_isLive.1 12 = .ok (.iload_n 1, 1) := by decide +kernel
theorem d_Md_isLive_13 : decode q_mMd_isLive.1 13 = .ok (.ifCond .lt 11, 3) := by decide +kernel
theorem d_Md_isLive_16 : decode q_mMd_isLive.1 16 = .ok (.iload_n 1, 1) := by decide +kernel
theorem d_Md_isLive_17 : decode q_mMd_isLive.1 17 = .ok (.aload_n 0, 1) := by decide +kernel
theorem d_Md_isLive_18 : decode q_mMd_isLive.1 18 = .ok (.getfield 109, 3) := by decide +kernel
theorem d_Md_isLive_21 : decode q_mMd_isLive.1 21 = .ok (.if_icmp .lt 5, 3) := by decide +kernel
theorem d_Md_isLive_24 : decode q_mMd_isLive.1 24 = .ok (.iconst 0, 1) := by decide +kernel
theorem d_Md_isLive_25 : decode q_mMd_isLive.1 25 = .ok (.ireturn, 1) := by decide +kernel
theorem d_Md_isLive_26 : decode q_mMd_isLive.1 26 = .ok (.aload_n 0, 1) := by decide +kernel
theorem d_Md_isLive_27 : decode q_mMd_isLive.1 27 = .ok (.invokevirtual 263, 3) := by decide +kernel
theorem d_Md_isLive_30 : decode q_mMd_isLive.1 30 = .ok (.aload_n 0, 1) := by decide +kernel
theorem d_Md_isLive_31 : decode q_mMd_isLive.1 31 = .ok (.getfield 82, 3) := by decide +kernel
theorem d_Md_isLive_34 : decode q_mMd_isLive.1 34 = .ok (.iload_n 1, 1) := by decide +kernel
theorem d_Md_isLive_35 : decode q_mMd_isLive.1 35 = .ok (.baload, 1) := by decide +kernel
theorem d_Md_isLive_36 : decode q_mMd_isLive.1 36 = .ok (.ireturn, 1) := by decide +kernel
theorem d_Md_mark_0 : decode q_mMd_mark.1 0 = .ok (.aload_n 0, 1) := by decide +kernel
theorem d_Md_mark_1 : decode q_mMd_mark.1 1 = .ok (.iconst 0, 1) := by decide +kernel
theorem d_Md_mark_2 : decode q_mMd_mark.1 2 = .ok (.putfield 103, 3) := by decide +kernel
theorem d_Md_mark_5 : decode q_mMd_mark.1 5 = .ok (.aload_n 0, 1) := by decide +kernel
theorem d_Md_mark_6 : decode q_mMd_mark.1 6 = .ok (.getfield 212, 3) := by decide +kernel
theorem d_Md_mark_9 : decode q_mMd_mark.1 9 = .ok (.ifCond .eq 19, 3) := by decide +kernel
theorem d_Md_mark_12 : decode q_mMd_mark.1 12 = .ok (.iload_n 1, 1) := by decide +kernel
theorem d_Md_mark_13 : decode q_mMd_mark.1 13 = .ok (.ifCond .lt 15, 3) := by decide +kernel
theorem d_Md_mark_16 : decode q_mMd_mark.1 16 = .ok (.iload_n 1, 1) := by decide +kernel
theorem d_Md_mark_17 : decode q_mMd_mark.1 17 = .ok (.iconst 2, 1) := by decide +kernel
theorem d_Md_mark_18 : decode q_mMd_mark.1 18 = .ok (.aload_n 0, 1) := by decide +kernel
theorem d_Md_mark_19 : decode q_mMd_mark.1 19 = .ok (.getfield 164, 3) := by decide +kernel
theorem d_Md_mark_22 : decode q_mMd_mark.1 22 = .ok (.imul, 1) := by decide +kernel
theorem d_Md_mark_23 : decode q_mMd_mark.1 23 = .ok (.iconst 1, 1) := by decide +kernel
theorem d_Md_mark_24 : decode q_mMd_mark.1 24 = .ok (.iadd, 1) := by decide +kernel
theorem d_Md_mark_25 : decode q_mMd_mark.1 25 = .ok (.if_icmp .le 5, 3) := by decide +kernel
theorem d_Md_mark_28 : decode q_mMd_mark.1 28 = .ok (.iconst (-1), 1) := by decide +kernel
theorem d_Md_mark_29 : decode q_mMd_mark.1 29 = .ok (.ireturn, 1) := by decide +kernel
theorem d_Md_mark_30 : decode q_mMd_mark.1 30 = .ok (.aload_n 0, 1) := by decide +kernel
theorem d_Md_mark_31 : decode q_mMd_mark.1 31 = .ok (.invokevirtual 263, 3) := by decide +kernel
theorem d_Md_mark_34 : decode q_mMd_mark.1 34 = .ok (.aload_n 0, 1) := by decide +kernel
theorem d_Md_mark_35 : decode q_mMd_mark.1 35 = .ok (.getfield 246, 3) := by decide +kernel
theorem d_Md_mark_38 : decode q_mMd_mark.1 38 = .ok (.ifCond .eq 12, 3) := by decide +kernel
theorem d_Md_mark_41 : decode q_mMd_mark.1 41 = .ok (.aload_n 0, 1) := by decide +kernel
theorem d_Md_mark_42 : decode q_mMd_mark.1 42 = .ok (.getfield 79, 3) := by decide +kernel
theorem d_Md_mark_45 : decode q_mMd_mark.1 45 = .ok (.iload_n 1, 1) := by decide +kernel
theorem d_Md_mark_46 : decode q_mMd_mark.1 46 = .ok (.iaload, 1) := by decide +kernel
theorem d_Md_mark_47 : decode q_mMd_mark.1 47 = .ok (.goto 4, 3) := by decide +kernel
theorem d_Md_mark_50 : decode q_mMd_mark.1 50 = .ok (.iconst (-1), 1) := by decide +kernel
theorem d_Md_mark_51 : decode q_mMd_mark.1 51 = .ok (.ireturn, 1) := by decide +kernel
theorem d_Md_fed_0 : decode q_mMd_fed.1 0 = .ok (.aload_n 0, 1) := by decide +kernel
theorem d_Md_fed_1 : decode q_mMd_fed.1 1 = .ok (.iconst 0, 1) := by decide +kernel
theorem d_Md_fed_2 : decode q_mMd_fed.1 2 = .ok (.putfield 103, 3) := by decide +kernel
theorem d_Md_fed_5 : decode q_mMd_fed.1 5 = .ok (.aload_n 0, 1) := by decide +kernel
theorem d_Md_fed_6 : decode q_mMd_fed.1 6 = .ok (.getfield 212, 3) := by decide +kernel
theorem d_Md_fed_9 : decode q_mMd_fed.1 9 = .ok (.ifCond .eq 10, 3) := by decide +kernel
theorem d_Md_fed_12 : decode q_mMd_fed.1 12 = .ok (.aload_n 0, 1) := by decide +kernel
theorem d_Md_fed_13 : decode q_mMd_fed.1 13 = .ok (.getfield 222, 3) := by decide +kernel
theorem d_Md_fed_16 : decode q_mMd_fed.1 16 = .ok (.goto 4, 3) := by decide +kernel
theorem d_Md_fed_19 : decode q_mMd_fed.1 19 = .ok (.iconst (-1), 1) := by decide +kernel
theorem d_Md_fed_20 : decode q_mMd_fed.1 20 = .ok (.ireturn, 1) := by decide +kernel
theorem d_Ar_fill_0 : decode q_mAr_fill.1 0 = .ok (.iconst 0, 1) := by decide +kernel
theorem d_Ar_fill_1 : decode q_mAr_fill.1 1 = .ok (.istore_n 2, 1) := by decide +kernel
theorem d_Ar_fill_2 : decode q_mAr_fill.1 2 = .ok (.aload_n 0, 1) := by decide +kernel
theorem d_Ar_fill_3 : decode q_mAr_fill.1 3 = .ok (.arraylength, 1) := by decide +kernel
theorem d_Ar_fill_4 : decode q_mAr_fill.1 4 = .ok (.istore_n 3, 1) := by decide +kernel
theorem d_Ar_fill_5 : decode q_mAr_fill.1 5 = .ok (.iload_n 2, 1) := by decide +kernel
theorem d_Ar_fill_6 : decode q_mAr_fill.1 6 = .ok (.iload_n 3, 1) := by decide +kernel
theorem d_Ar_fill_7 : decode q_mAr_fill.1 7 = .ok (.if_icmp .ge 13, 3) := by decide +kernel
theorem d_Ar_fill_10 : decode q_mAr_fill.1 10 = .ok (.aload_n 0, 1) := by decide +kernel
theorem d_Ar_fill_11 : decode q_mAr_fill.1 11 = .ok (.iload_n 2, 1) := by decide +kernel
theorem d_Ar_fill_12 : decode q_mAr_fill.1 12 = .ok (.iload_n 1, 1) := by decide +kernel
theorem d_Ar_fill_13 : decode q_mAr_fill.1 13 = .ok (.iastore, 1) := by decide +kernel
theorem d_Ar_fill_14 : decode q_mAr_fill.1 14 = .ok (.iinc 2 1, 3) := by decide +kernel
theorem d_Ar_fill_17 : decode q_mAr_fill.1 17 = .ok (.goto (-12), 3) := by decide +kernel
theorem d_Ar_fill_20 : decode q_mAr_fill.1 20 = .ok (.return_, 1) := by decide +kernel
theorem d_Ar_fill2_0 : decode q_mAr_fill2.1 0 = .ok (.iconst 0, 1) := by decide +kernel
theorem d_Ar_fill2_1 : decode q_mAr_fill2.1 1 = .ok (.istore_n 3, 1) := by decide +kernel
theorem d_Ar_fill2_2 : decode q_mAr_fill2.1 2 = .ok (.aload_n 0, 1) := by decide +kernel
theorem d_Ar_fill2_3 : decode q_mAr_fill2.1 3 = .ok (.arraylength, 1) := by decide +kernel
theorem d_Ar_fill2_4 : decode q_mAr_fill2.1 4 = .ok (.istore 4, 2) := by decide +kernel
theorem d_Ar_fill2_6 : decode q_mAr_fill2.1 6 = .ok (.iload_n 3, 1) := by decide +kernel
theorem d_Ar_fill2_7 : decode q_mAr_fill2.1 7 = .ok (.iload 4, 2) := by decide +kernel
theorem d_Ar_fill2_9 : decode q_mAr_fill2.1 9 = .ok (.if_icmp .ge 13, 3) := by decide +kernel
theorem d_Ar_fill2_12 : decode q_mAr_fill2.1 12 = .ok (.aload_n 0, 1) := by decide +kernel
theorem d_Ar_fill2_13 : decode q_mAr_fill2.1 13 = .ok (.iload_n 3, 1) := by decide +kernel
theorem d_Ar_fill2_14 : decode q_mAr_fill2.1 14 = .ok (.lload_n 1, 1) := by decide +kernel
theorem d_Ar_fill2_15 : decode q_mAr_fill2.1 15 = .ok (.lastore, 1) := by decide +kernel
theorem d_Ar_fill2_16 : decode q_mAr_fill2.1 16 = .ok (.iinc 3 1, 3) := by decide +kernel
theorem d_Ar_fill2_19 : decode q_mAr_fill2.1 19 = .ok (.goto (-13), 3) := by decide +kernel
theorem d_Ar_fill2_22 : decode q_mAr_fill2.1 22 = .ok (.return_, 1) := by decide +kernel
theorem d_Lo_bitCount_0 : decode q_mLo_bitCount.1 0 = .ok (.lload_n 0, 1) := by decide +kernel
theorem d_Lo_bitCount_1 : decode q_mLo_bitCount.1 1 = .ok (.lload_n 0, 1) := by decide +kernel
theorem d_Lo_bitCount_2 : decode q_mLo_bitCount.1 2 = .ok (.iconst 1, 1) := by decide +kernel
theorem d_Lo_bitCount_3 : decode q_mLo_bitCount.1 3 = .ok (.lushr, 1) := by decide +kernel
theorem d_Lo_bitCount_4 : decode q_mLo_bitCount.1 4 = .ok (.ldc2_w 314, 3) := by decide +kernel
theorem d_Lo_bitCount_7 : decode q_mLo_bitCount.1 7 = .ok (.land, 1) := by decide +kernel
theorem d_Lo_bitCount_8 : decode q_mLo_bitCount.1 8 = .ok (.lsub, 1) := by decide +kernel
theorem d_Lo_bitCount_9 : decode q_mLo_bitCount.1 9 = .ok (.lstore_n 0, 1) := by decide +kernel
theorem d_Lo_bitCount_10 : decode q_mLo_bitCount.1 10 = .ok (.lload_n 0, 1) := by decide +kernel
theorem d_Lo_bitCount_11 : decode q_mLo_bitCount.1 11 = .ok (.ldc2_w 316, 3) := by decide +kernel
theorem d_Lo_bitCount_14 : decode q_mLo_bitCount.1 14 = .ok (.land, 1) := by decide +kernel
theorem d_Lo_bitCount_15 : decode q_mLo_bitCount.1 15 = .ok (.lload_n 0, 1) := by decide +kernel
theorem d_Lo_bitCount_16 : decode q_mLo_bitCount.1 16 = .ok (.iconst 2, 1) := by decide +kernel
theorem d_Lo_bitCount_17 : decode q_mLo_bitCount.1 17 = .ok (.lushr, 1) := by decide +kernel
theorem d_Lo_bitCount_18 : decode q_mLo_bitCount.1 18 = .ok (.ldc2_w 316, 3) := by decide +kernel
theorem d_Lo_bitCount_21 : decode q_mLo_bitCount.1 21 = .ok (.land, 1) := by decide +kernel
theorem d_Lo_bitCount_22 : decode q_mLo_bitCount.1 22 = .ok (.ladd, 1) := by decide +kernel
theorem d_Lo_bitCount_23 : decode q_mLo_bitCount.1 23 = .ok (.lstore_n 0, 1) := by decide +kernel
theorem d_Lo_bitCount_24 : decode q_mLo_bitCount.1 24 = .ok (.lload_n 0, 1) := by decide +kernel
theorem d_Lo_bitCount_25 : decode q_mLo_bitCount.1 25 = .ok (.lload_n 0, 1) := by decide +kernel
theorem d_Lo_bitCount_26 : decode q_mLo_bitCount.1 26 = .ok (.iconst 4, 1) := by decide +kernel
theorem d_Lo_bitCount_27 : decode q_mLo_bitCount.1 27 = .ok (.lushr, 1) := by decide +kernel
theorem d_Lo_bitCount_28 : decode q_mLo_bitCount.1 28 = .ok (.ladd, 1) := by decide +kernel
theorem d_Lo_bitCount_29 : decode q_mLo_bitCount.1 29 = .ok (.ldc2_w 318, 3) := by decide +kernel
theorem d_Lo_bitCount_32 : decode q_mLo_bitCount.1 32 = .ok (.land, 1) := by decide +kernel
theorem d_Lo_bitCount_33 : decode q_mLo_bitCount.1 33 = .ok (.lstore_n 0, 1) := by decide +kernel
theorem d_Lo_bitCount_34 : decode q_mLo_bitCount.1 34 = .ok (.lload_n 0, 1) := by decide +kernel
theorem d_Lo_bitCount_35 : decode q_mLo_bitCount.1 35 = .ok (.lload_n 0, 1) := by decide +kernel
theorem d_Lo_bitCount_36 : decode q_mLo_bitCount.1 36 = .ok (.bipush 8, 2) := by decide +kernel
theorem d_Lo_bitCount_38 : decode q_mLo_bitCount.1 38 = .ok (.lushr, 1) := by decide +kernel
theorem d_Lo_bitCount_39 : decode q_mLo_bitCount.1 39 = .ok (.ladd, 1) := by decide +kernel
theorem d_Lo_bitCount_40 : decode q_mLo_bitCount.1 40 = .ok (.lstore_n 0, 1) := by decide +kernel
theorem d_Lo_bitCount_41 : decode q_mLo_bitCount.1 41 = .ok (.lload_n 0, 1) := by decide +kernel
theorem d_Lo_bitCount_42 : decode q_mLo_bitCount.1 42 = .ok (.lload_n 0, 1) := by decide +kernel
theorem d_Lo_bitCount_43 : decode q_mLo_bitCount.1 43 = .ok (.bipush 16, 2) := by decide +kernel
theorem d_Lo_bitCount_45 : decode q_mLo_bitCount.1 45 = .ok (.lushr, 1) := by decide +kernel
theorem d_Lo_bitCount_46 : decode q_mLo_bitCount.1 46 = .ok (.ladd, 1) := by decide +kernel
theorem d_Lo_bitCount_47 : decode q_mLo_bitCount.1 47 = .ok (.lstore_n 0, 1) := by decide +kernel
theorem d_Lo_bitCount_48 : decode q_mLo_bitCount.1 48 = .ok (.lload_n 0, 1) := by decide +kernel
theorem d_Lo_bitCount_49 : decode q_mLo_bitCount.1 49 = .ok (.lload_n 0, 1) := by decide +kernel
theorem d_Lo_bitCount_50 : decode q_mLo_bitCount.1 50 = .ok (.bipush 32, 2) := by decide +kernel
theorem d_Lo_bitCount_52 : decode q_mLo_bitCount.1 52 = .ok (.lushr, 1) := by decide +kernel
theorem d_Lo_bitCount_53 : decode q_mLo_bitCount.1 53 = .ok (.ladd, 1) := by decide +kernel
theorem d_Lo_bitCount_54 : decode q_mLo_bitCount.1 54 = .ok (.lstore_n 0, 1) := by decide +kernel
theorem d_Lo_bitCount_55 : decode q_mLo_bitCount.1 55 = .ok (.lload_n 0, 1) := by decide +kernel
theorem d_Lo_bitCount_56 : decode q_mLo_bitCount.1 56 = .ok (.l2i, 1) := by decide +kernel
theorem d_Lo_bitCount_57 : decode q_mLo_bitCount.1 57 = .ok (.bipush 127, 2) := by decide +kernel
theorem d_Lo_bitCount_59 : decode q_mLo_bitCount.1 59 = .ok (.iand, 1) := by decide +kernel
theorem d_Lo_bitCount_60 : decode q_mLo_bitCount.1 60 = .ok (.ireturn, 1) := by decide +kernel
end
section
/-! THE STORE: numbers, rows, longs, small numbers, and the rest of the heap; programs over it; rows that walk the small machine and such a program together -/
abbrev qT : Type := (Nat → Int32) × (Nat → Nat → Int32) × (Nat → Int64) × (Nat → Nat) × qH
abbrev qW (β : Type) : Type := qT → Option (β × qT)
def sU (T : qT) (f : Nat) (v : Int32) : qT := (upd T.1 f v, T.2)
def aU (T : qT) (f : Nat) (g : Nat → Int32) : qT := (T.1, va_up T.2.1 f g, T.2.2)
def lU (T : qT) (g : Nat → Int64) : qT := (T.1, T.2.1, g, T.2.2.2)
def nU (T : qT) (f v : Nat) : qT := (T.1, T.2.1, T.2.2.1, va_up T.2.2.2.1 f v, T.2.2.2.2)
def w_S {β : Type} (f : Nat) (K : Int32 → qW β) : qW β := fun T => K (T.1 f) T
def w_s {β : Type} (f : Nat) (v : Int32) (K : qW β) : qW β := fun T => K (sU T f v)
def w_z {β : Type} (f : Nat) (v : Int32) (K : qW β) : qW β := fun T => if narrow .boolean (.int v) = .int v ∧ fits .boolean (.int v) = true then K (sU T f v) else none
def w_A {β : Type} (f n : Nat) (i : Int32) (K : Int32 → qW β) : qW β := fun T => if i < 0 ∨ n ≤ i.toNatClampNeg then none else K (T.2.1 f i.toNatClampNeg) T
def w_a {β : Type} (f n : Nat) (i v : Int32) (K : qW β) : qW β := fun T => if i < 0 ∨ n ≤ i.toNatClampNeg then none else K (aU T f (upd (T.2.1 f) i.toNatClampNeg v))
def w_L {β : Type} (n : Nat) (i : Int32) (K : Int64 → qW β) : qW β := fun T => if i < 0 ∨ n ≤ i.toNatClampNeg then none else K (T.2.2.1 i.toNatClampNeg) T
def w_l {β : Type} (n : Nat) (i : Int32) (v : Int64) (K : qW β) : qW β := fun T => if i < 0 ∨ n ≤ i.toNatClampNeg then none else K (lU T (vp_updL T.2.2.1 i.toNatClampNeg v))
def w_N {β : Type} (f : Nat) (K : Nat → qW β) : qW β := fun T => K (T.2.2.2.1 f) T
def w_n {β : Type} (f v : Nat) (K : qW β) : qW β := fun T => K (nU T f v)
def w_if {β : Type} (c : Prop) [Decidable c] (A B : qW β) : qW β := fun T => if c then A T else B T
def w_nz {β : Type} (y : Int32) (K : qW β) : qW β := fun T => if y = 0 then none else K T
def w_C {α β : Type} (m : qW α) (K : α → qW β) : qW β := fun T => match m T with
  | some (a, T1) => K a T1
  | none => none
def w_no {β : Type} : qW β := fun _ => none
def w_pure {β : Type} (v : β) : qW β := fun T => some (v, T)
def w_ret (t : FieldType) (x : Int32) : qW Int32 := fun T => if narrow t (.int x) = .int x then some (x, T) else none
/-- a place in a method: its head and the values that live there -/
abbrev qJ : Type := Nat × List Value
def w_go {β : Type} (L : Nat) (vs : List Value) : qW (qJ ⊕ β) := fun T => some (.inl (L, vs), T)
def w_rt {β : Type} (v : β) : qW (qJ ⊕ β) := fun T => some (.inr v, T)
def w_ri (t : FieldType) (x : Int32) : qW (qJ ⊕ Int32) := fun T => if narrow t (.int x) = .int x then some (.inr x, T) else none
def w_run {β : Type} (b : qJ → qW (qJ ⊕ β)) : Nat → qJ → qW β
  | 0, _ => fun _ => none
  | n + 1, x => fun T => match b x T with
    | some (.inl x', T') => w_run b n x' T'
    | some (.inr v, T') => some (v, T')
    | none => none
def w_end {β : Type} (b : qJ → qW (qJ ⊕ β)) (n : Nat) (r : qJ ⊕ β) (T : qT) : Option (β × qT) := match r with
  | .inl x => w_run b n x T
  | .inr v => some (v, T)
theorem w_run_succ {β : Type} {b : qJ → qW (qJ ⊕ β)} {n : Nat} {x : qJ} {T : qT} {o : β × qT} (h : w_run b (n + 1) x T = some o) : ∃ r T1, b x T = some (r, T1) ∧ w_end b n r T1 = some o := by
  simp only [w_run] at h
  split at h
  · rename_i x' T' hb; exact ⟨_, _, hb, h⟩
  · rename_i v T' hb; exact ⟨_, _, hb, h⟩
  · cases h
theorem w_run_up {β : Type} {b : qJ → qW (qJ ⊕ β)} : ∀ (n : Nat) (x : qJ) (T : qT) (o : β × qT), w_run b n x T = some o → ∀ k, w_run b (n + k) x T = some o := by
  intro n
  induction n with
  | zero => intro x T o h; cases h
  | succ n ih =>
    intro x T o h k
    rw [show n + 1 + k = (n + k) + 1 by omega]
    simp only [w_run] at h ⊢
    split at h
    · rename_i x' T' hb; exact ih _ _ _ h k
    · exact h
    · cases h
theorem w_run_det {β : Type} {b : qJ → qW (qJ ⊕ β)} {n k : Nat} {x : qJ} {T : qT} {o o' : β × qT} (h : w_run b n x T = some o) (h' : w_run b k x T = some o') : o = o' := by
  have h1 := w_run_up n x T o h k
  have h2 := w_run_up k x T o' h' n
  rw [Nat.add_comm k n] at h2
  exact Option.some.inj (h1.symm.trans h2)
noncomputable def w_fix {β : Type} (b : qJ → qW (qJ ⊕ β)) (x : qJ) : qW β := fun T => @dite _ (∃ (o : β × qT), ∃ (n : Nat), w_run b n x T = some o) (Classical.propDecidable _) (fun h => some (Classical.choose h)) (fun _ => none)
theorem w_fix_iff {β : Type} {b : qJ → qW (qJ ⊕ β)} {x : qJ} {T : qT} {o : β × qT} : w_fix b x T = some o ↔ ∃ n, w_run b n x T = some o := by
  unfold w_fix
  constructor
  · intro h
    split at h
    · rename_i hx
      cases h
      exact Classical.choose_spec hx
    · cases h
  · intro h
    have hx : ∃ (o : β × qT), ∃ (n : Nat), w_run b n x T = some o := ⟨o, h⟩
    rw [dif_pos hx]
    obtain ⟨n, hn⟩ := Classical.choose_spec hx
    obtain ⟨k, hk⟩ := h
    rw [w_run_det hn hk]
/-- one turn of a loop -/
theorem w_fix_eq {β : Type} (b : qJ → qW (qJ ⊕ β)) (x : qJ) (T : qT) : w_fix b x T = match b x T with
    | some (.inl x', T') => w_fix b x' T'
    | some (.inr v, T') => some (v, T')
    | none => none := by
  apply Option.ext
  intro o
  rw [w_fix_iff]
  constructor
  · rintro ⟨n, hn⟩
    cases n with
    | zero => cases hn
    | succ n =>
      simp only [w_run] at hn
      split at hn
      · rename_i x' T' hb; exact w_fix_iff.mpr ⟨n, hn⟩
      · exact hn
      · cases hn
  · intro h
    split at h
    · rename_i x' T' hb
      obtain ⟨n, hn⟩ := w_fix_iff.mp h
      exact ⟨n + 1, by simp only [w_run, hb]; exact hn⟩
    · rename_i v T' hb
      exact ⟨1, by simp only [w_run, hb]; exact h⟩
    · cases h
/-- where the store's parts lie -/
def q_scl (lay : qT → qH) (a ci k f : Nat) : Prop := ∀ T, ∃ fs : List Value, (lay T).1 a = some (.inr (ci, fs)) ∧ fs[k]? = some (.int (T.1 f)) ∧ k < fs.length ∧ ∀ v : Int32, (q_up (lay T).1 a (.inr (ci, fs.set k (.int v))), (lay T).2) = lay (sU T f v)
def q_arr (lay : qT → qH) (a kd n f : Nat) : Prop := ∀ T, (lay T).1 a = some (.inl (kd, n, .inl (T.2.1 f))) ∧ ∀ g : Nat → Int32, (q_up (lay T).1 a (.inl (kd, n, .inl g)), (lay T).2) = lay (aU T f g)
def q_lng (lay : qT → qH) (a n : Nat) : Prop := ∀ T, (lay T).1 a = some (.inl (2, n, .inr (.inl T.2.2.1))) ∧ ∀ g : Nat → Int64, (q_up (lay T).1 a (.inl (2, n, .inr (.inl g))), (lay T).2) = lay (lU T g)
def q_ref (lay : qT → qH) (a ci k : Nat) (v : Value) : Prop := ∀ T, ∃ fs : List Value, (lay T).1 a = some (.inr (ci, fs)) ∧ fs[k]? = some v
def q_obj (lay : qT → qH) (a ci : Nat) : Prop := ∀ T, ∃ fs : List Value, (lay T).1 a = some (.inr (ci, fs))
section QY
variable {rc : qC} {M : qM} {pc : Nat} {lo : qL} {st : List Value} {lay : qT → qH} {β : Type} {T : qT} {o : β × qT} {X : Option qO} {a ci k f n idx md : Nat}
theorem s_get {ty : FieldType} {K : Int32 → qW β} (hd : decode M.1 pc = .ok (.getfield idx, 3)) (hp : M.2.2.2.2.1 idx = some (ci, k, ty, md)) (hF : q_scl lay a ci k f) (h : w_S f K T = some o) (kk : ∀ x, K x T = some o → q_out rc M (pc + 3, lo, .int x :: st, lay T) = X) : q_out rc M (pc, lo, .ref a :: st, lay T) = X := by
  obtain ⟨fs, h1, h2, -⟩ := hF T
  exact (o_getf hd hp h1 h2).trans (kk _ h)
theorem s_ref {ty : FieldType} {v : Value} (hd : decode M.1 pc = .ok (.getfield idx, 3)) (hp : M.2.2.2.2.1 idx = some (ci, k, ty, md)) (hF : q_ref lay a ci k v) (kk : q_out rc M (pc + 3, lo, v :: st, lay T) = X) : q_out rc M (pc, lo, .ref a :: st, lay T) = X := by
  obtain ⟨fs, h1, h2⟩ := hF T
  exact (o_getf hd hp h1 h2).trans kk
theorem s_put {v : Int32} {K : qW β} (hd : decode M.1 pc = .ok (.putfield idx, 3)) (hp : M.2.2.2.2.1 idx = some (ci, k, .int, 0)) (hF : q_scl lay a ci k f) (h : w_s f v K T = some o) (kk : ∀ T1, K T1 = some o → q_out rc M (pc + 3, lo, st, lay T1) = X) : q_out rc M (pc, lo, .int v :: .ref a :: st, lay T) = X := by
  obtain ⟨fs, h1, h2, h3, h4⟩ := hF T
  refine (o_putf hd hp h1 h3 rfl rfl (Or.inl rfl) rfl).trans ?_
  have := kk _ h
  rw [← h4 v] at this
  exact this
theorem s_putZ {v : Int32} {K : qW β} (hd : decode M.1 pc = .ok (.putfield idx, 3)) (hp : M.2.2.2.2.1 idx = some (ci, k, .boolean, 0)) (hF : q_scl lay a ci k f) (h : w_z f v K T = some o) (kk : ∀ T1, K T1 = some o → q_out rc M (pc + 3, lo, st, lay T1) = X) : q_out rc M (pc, lo, .int v :: .ref a :: st, lay T) = X := by
  obtain ⟨fs, h1, h2, h3, h4⟩ := hF T
  unfold w_z at h
  split at h
  · rename_i hv
    refine (o_putf hd hp h1 h3 hv.1 hv.2 (Or.inl rfl) rfl).trans ?_
    have := kk _ h
    rw [← h4 v] at this
    exact this
  · cases h
theorem s_iald {i : Int32} {K : Int32 → qW β} (hd : decode M.1 pc = .ok (.iaload, 1)) (hF : q_arr lay a 0 n f) (h : w_A f n i K T = some o) (kk : ∀ x, K x T = some o → q_out rc M (pc + 1, lo, .int x :: st, lay T) = X) : q_out rc M (pc, lo, .int i :: .ref a :: st, lay T) = X := by
  unfold w_A at h
  split at h
  · cases h
  · rename_i hi
    exact (o_iaload hd (hF T).1 hi).trans (kk _ h)
theorem s_cald {i : Int32} {K : Int32 → qW β} (hd : decode M.1 pc = .ok (.caload, 1)) (hF : q_arr lay a 1 n f) (h : w_A f n i K T = some o) (kk : ∀ x, K x T = some o → q_out rc M (pc + 1, lo, .int x :: st, lay T) = X) : q_out rc M (pc, lo, .int i :: .ref a :: st, lay T) = X := by
  unfold w_A at h
  split at h
  · cases h
  · rename_i hi
    exact (o_caload hd (hF T).1 hi).trans (kk _ h)
theorem s_zald {i : Int32} {K : Int32 → qW β} (hd : decode M.1 pc = .ok (.baload, 1)) (hF : q_arr lay a 3 n f) (h : w_A f n i K T = some o) (kk : ∀ x, K x T = some o → q_out rc M (pc + 1, lo, .int x :: st, lay T) = X) : q_out rc M (pc, lo, .int i :: .ref a :: st, lay T) = X := by
  unfold w_A at h
  split at h
  · cases h
  · rename_i hi
    exact (o_baload hd (hF T).1 hi).trans (kk _ h)
theorem s_iast {i v : Int32} {K : qW β} (hd : decode M.1 pc = .ok (.iastore, 1)) (hF : q_arr lay a 0 n f) (h : w_a f n i v K T = some o) (kk : ∀ T1, K T1 = some o → q_out rc M (pc + 1, lo, st, lay T1) = X) : q_out rc M (pc, lo, .int v :: .int i :: .ref a :: st, lay T) = X := by
  unfold w_a at h
  split at h
  · cases h
  · rename_i hi
    refine (o_iastore hd (hF T).1 hi rfl).trans ?_
    have := kk _ h
    rw [← (hF T).2] at this
    exact this
theorem s_cast {i v : Int32} {K : qW β} (hd : decode M.1 pc = .ok (.castore, 1)) (hF : q_arr lay a 1 n f) (h : w_a f n i (vp_nar .char v) K T = some o) (kk : ∀ T1, K T1 = some o → q_out rc M (pc + 1, lo, st, lay T1) = X) : q_out rc M (pc, lo, .int v :: .int i :: .ref a :: st, lay T) = X := by
  unfold w_a at h
  split at h
  · cases h
  · rename_i hi
    refine (o_castore hd (hF T).1 hi rfl).trans ?_
    have := kk _ h
    rw [← (hF T).2] at this
    exact this
theorem s_zast {i v : Int32} {K : qW β} (hd : decode M.1 pc = .ok (.bastore, 1)) (hF : q_arr lay a 3 n f) (h : w_a f n i (vp_nar .boolean v) K T = some o) (kk : ∀ T1, K T1 = some o → q_out rc M (pc + 1, lo, st, lay T1) = X) : q_out rc M (pc, lo, .int v :: .int i :: .ref a :: st, lay T) = X := by
  unfold w_a at h
  split at h
  · cases h
  · rename_i hi
    refine (o_bastore hd (hF T).1 hi rfl).trans ?_
    have := kk _ h
    rw [← (hF T).2] at this
    exact this
theorem s_lald {i : Int32} {K : Int64 → qW β} (hd : decode M.1 pc = .ok (.laload, 1)) (hF : q_lng lay a n) (h : w_L n i K T = some o) (kk : ∀ x, K x T = some o → q_out rc M (pc + 1, lo, .long x :: st, lay T) = X) : q_out rc M (pc, lo, .int i :: .ref a :: st, lay T) = X := by
  unfold w_L at h
  split at h
  · cases h
  · rename_i hi
    exact (o_laload hd (hF T).1 hi).trans (kk _ h)
theorem s_last {i : Int32} {v : Int64} {K : qW β} (hd : decode M.1 pc = .ok (.lastore, 1)) (hF : q_lng lay a n) (h : w_l n i v K T = some o) (kk : ∀ T1, K T1 = some o → q_out rc M (pc + 1, lo, st, lay T1) = X) : q_out rc M (pc, lo, .long v :: .int i :: .ref a :: st, lay T) = X := by
  unfold w_l at h
  split at h
  · cases h
  · rename_i hi
    refine (o_lastore hd (hF T).1 hi rfl).trans ?_
    have := kk _ h
    rw [← (hF T).2] at this
    exact this
theorem w_if_t {c : Prop} [Decidable c] {A B : qW β} (h : w_if c A B T = some o) (hc : c) : A T = some o := by unfold w_if at h; rwa [if_pos hc] at h
theorem w_if_f {c : Prop} [Decidable c] {A B : qW β} (h : w_if c A B T = some o) (hc : ¬ c) : B T = some o := by unfold w_if at h; rwa [if_neg hc] at h
theorem w_nz_of {y : Int32} {K : qW β} (h : w_nz y K T = some o) : ¬ y = 0 ∧ K T = some o := by
  unfold w_nz at h
  split at h
  · cases h
  · rename_i hy; exact ⟨hy, h⟩
theorem w_C_of {α : Type} {m : qW α} {K : α → qW β} (h : w_C m K T = some o) : ∃ v T1, m T = some (v, T1) ∧ K v T1 = some o := by
  unfold w_C at h
  split at h
  · rename_i v T1 hm; exact ⟨v, T1, hm, h⟩
  · cases h
theorem s_if_eq {x : Int32} {off : Int} {t : Nat} {A B : qW β} (hd : decode M.1 pc = .ok (.ifCond .eq off, 3)) (ht : (pc : Int) + off = (t : Int)) (h : w_if (x = 0) A B T = some o) (k1 : A T = some o → q_out rc M (t, lo, st, lay T) = X) (k2 : B T = some o → q_out rc M (pc + 3, lo, st, lay T) = X) : q_out rc M (pc, lo, .int x :: st, lay T) = X := by
  by_cases hc : x = 0
  · exact (o_if_eq_t hd ht hc).trans (k1 (w_if_t h hc))
  · exact (o_if_eq_f hd ht hc).trans (k2 (w_if_f h hc))
theorem s_icmp_eq {x y : Int32} {off : Int} {t : Nat} {A B : qW β} (hd : decode M.1 pc = .ok (.if_icmp .eq off, 3)) (ht : (pc : Int) + off = (t : Int)) (h : w_if (x = y) A B T = some o) (k1 : A T = some o → q_out rc M (t, lo, st, lay T) = X) (k2 : B T = some o → q_out rc M (pc + 3, lo, st, lay T) = X) : q_out rc M (pc, lo, .int y :: .int x :: st, lay T) = X := by
  by_cases hc : x = y
  · exact (o_icmp_eq_t hd ht hc).trans (k1 (w_if_t h hc))
  · exact (o_icmp_eq_f hd ht hc).trans (k2 (w_if_f h hc))
theorem s_if_ne {x : Int32} {off : Int} {t : Nat} {A B : qW β} (hd : decode M.1 pc = .ok (.ifCond .ne off, 3)) (ht : (pc : Int) + off = (t : Int)) (h : w_if (¬ x = 0) A B T = some o) (k1 : A T = some o → q_out rc M (t, lo, st, lay T) = X) (k2 : B T = some o → q_out rc M (pc + 3, lo, st, lay T) = X) : q_out rc M (pc, lo, .int x :: st, lay T) = X := by
  by_cases hc : ¬ x = 0
  · exact (o_if_ne_t hd ht hc).trans (k1 (w_if_t h hc))
  · exact (o_if_ne_f hd ht hc).trans (k2 (w_if_f h hc))
theorem s_icmp_ne {x y : Int32} {off : Int} {t : Nat} {A B : qW β} (hd : decode M.1 pc = .ok (.if_icmp .ne off, 3)) (ht : (pc : Int) + off = (t : Int)) (h : w_if (¬ x = y) A B T = some o) (k1 : A T = some o → q_out rc M (t, lo, st, lay T) = X) (k2 : B T = some o → q_out rc M (pc + 3, lo, st, lay T) = X) : q_out rc M (pc, lo, .int y :: .int x :: st, lay T) = X := by
  by_cases hc : ¬ x = y
  · exact (o_icmp_ne_t hd ht hc).trans (k1 (w_if_t h hc))
  · exact (o_icmp_ne_f hd ht hc).trans (k2 (w_if_f h hc))
theorem s_if_lt {x : Int32} {off : Int} {t : Nat} {A B : qW β} (hd : decode M.1 pc = .ok (.ifCond .lt off, 3)) (ht : (pc : Int) + off = (t : Int)) (h : w_if (x < 0) A B T = some o) (k1 : A T = some o → q_out rc M (t, lo, st, lay T) = X) (k2 : B T = some o → q_out rc M (pc + 3, lo, st, lay T) = X) : q_out rc M (pc, lo, .int x :: st, lay T) = X := by
  by_cases hc : x < 0
  · exact (o_if_lt_t hd ht hc).trans (k1 (w_if_t h hc))
  · exact (o_if_lt_f hd ht hc).trans (k2 (w_if_f h hc))
theorem s_icmp_lt {x y : Int32} {off : Int} {t : Nat} {A B : qW β} (hd : decode M.1 pc = .ok (.if_icmp .lt off, 3)) (ht : (pc : Int) + off = (t : Int)) (h : w_if (x < y) A B T = some o) (k1 : A T = some o → q_out rc M (t, lo, st, lay T) = X) (k2 : B T = some o → q_out rc M (pc + 3, lo, st, lay T) = X) : q_out rc M (pc, lo, .int y :: .int x :: st, lay T) = X := by
  by_cases hc : x < y
  · exact (o_icmp_lt_t hd ht hc).trans (k1 (w_if_t h hc))
  · exact (o_icmp_lt_f hd ht hc).trans (k2 (w_if_f h hc))
theorem s_if_ge {x : Int32} {off : Int} {t : Nat} {A B : qW β} (hd : decode M.1 pc = .ok (.ifCond .ge off, 3)) (ht : (pc : Int) + off = (t : Int)) (h : w_if (0 ≤ x) A B T = some o) (k1 : A T = some o → q_out rc M (t, lo, st, lay T) = X) (k2 : B T = some o → q_out rc M (pc + 3, lo, st, lay T) = X) : q_out rc M (pc, lo, .int x :: st, lay T) = X := by
  by_cases hc : 0 ≤ x
  · exact (o_if_ge_t hd ht hc).trans (k1 (w_if_t h hc))
  · exact (o_if_ge_f hd ht hc).trans (k2 (w_if_f h hc))
theorem s_icmp_ge {x y : Int32} {off : Int} {t : Nat} {A B : qW β} (hd : decode M.1 pc = .ok (.if_icmp .ge off, 3)) (ht : (pc : Int) + off = (t : Int)) (h : w_if (y ≤ x) A B T = some o) (k1 : A T = some o → q_out rc M (t, lo, st, lay T) = X) (k2 : B T = some o → q_out rc M (pc + 3, lo, st, lay T) = X) : q_out rc M (pc, lo, .int y :: .int x :: st, lay T) = X := by
  by_cases hc : y ≤ x
  · exact (o_icmp_ge_t hd ht hc).trans (k1 (w_if_t h hc))
  · exact (o_icmp_ge_f hd ht hc).trans (k2 (w_if_f h hc))
theorem s_if_gt {x : Int32} {off : Int} {t : Nat} {A B : qW β} (hd : decode M.1 pc = .ok (.ifCond .gt off, 3)) (ht : (pc : Int) + off = (t : Int)) (h : w_if (0 < x) A B T = some o) (k1 : A T = some o → q_out rc M (t, lo, st, lay T) = X) (k2 : B T = some o → q_out rc M (pc + 3, lo, st, lay T) = X) : q_out rc M (pc, lo, .int x :: st, lay T) = X := by
  by_cases hc : 0 < x
  · exact (o_if_gt_t hd ht hc).trans (k1 (w_if_t h hc))
  · exact (o_if_gt_f hd ht hc).trans (k2 (w_if_f h hc))
theorem s_icmp_gt {x y : Int32} {off : Int} {t : Nat} {A B : qW β} (hd : decode M.1 pc = .ok (.if_icmp .gt off, 3)) (ht : (pc : Int) + off = (t : Int)) (h : w_if (y < x) A B T = some o) (k1 : A T = some o → q_out rc M (t, lo, st, lay T) = X) (k2 : B T = some o → q_out rc M (pc + 3, lo, st, lay T) = X) : q_out rc M (pc, lo, .int y :: .int x :: st, lay T) = X := by
  by_cases hc : y < x
  · exact (o_icmp_gt_t hd ht hc).trans (k1 (w_if_t h hc))
  · exact (o_icmp_gt_f hd ht hc).trans (k2 (w_if_f h hc))
theorem s_if_le {x : Int32} {off : Int} {t : Nat} {A B : qW β} (hd : decode M.1 pc = .ok (.ifCond .le off, 3)) (ht : (pc : Int) + off = (t : Int)) (h : w_if (x ≤ 0) A B T = some o) (k1 : A T = some o → q_out rc M (t, lo, st, lay T) = X) (k2 : B T = some o → q_out rc M (pc + 3, lo, st, lay T) = X) : q_out rc M (pc, lo, .int x :: st, lay T) = X := by
  by_cases hc : x ≤ 0
  · exact (o_if_le_t hd ht hc).trans (k1 (w_if_t h hc))
  · exact (o_if_le_f hd ht hc).trans (k2 (w_if_f h hc))
theorem s_icmp_le {x y : Int32} {off : Int} {t : Nat} {A B : qW β} (hd : decode M.1 pc = .ok (.if_icmp .le off, 3)) (ht : (pc : Int) + off = (t : Int)) (h : w_if (x ≤ y) A B T = some o) (k1 : A T = some o → q_out rc M (t, lo, st, lay T) = X) (k2 : B T = some o → q_out rc M (pc + 3, lo, st, lay T) = X) : q_out rc M (pc, lo, .int y :: .int x :: st, lay T) = X := by
  by_cases hc : x ≤ y
  · exact (o_icmp_le_t hd ht hc).trans (k1 (w_if_t h hc))
  · exact (o_icmp_le_f hd ht hc).trans (k2 (w_if_f h hc))
theorem s_iret {x : Int32} {t : FieldType} {v : Int32} {T1 : qT} (hd : decode M.1 pc = .ok (.ireturn, 1)) (hr : M.2.2.1 = some t) (h : w_ret t x T = some (v, T1)) : q_out rc M (pc, lo, [.int x], lay T) = some (.inl (some (.int v)), lay T1) := by
  unfold w_ret at h
  split at h
  · rename_i hn; cases h; exact o_ireturn hd hr hn
  · cases h
theorem s_vret {v : Unit} {T1 : qT} (hd : decode M.1 pc = .ok (.return_, 1)) (hr : M.2.2.1 = none) (h : w_pure () T = some (v, T1)) : q_out rc M (pc, lo, [], lay T) = some (.inl none, lay T1) := by
  cases h; exact o_return hd hr
theorem s_iretJ {x : Int32} {t : FieldType} {r : qJ ⊕ Int32} {v : Int32} {b : qJ → qW (qJ ⊕ Int32)} {T1 T2 : qT} (hd : decode M.1 pc = .ok (.ireturn, 1)) (hr : M.2.2.1 = some t) (h : w_ri t x T = some (r, T1)) (hE : w_end b n r T1 = some (v, T2)) : q_out rc M (pc, lo, [.int x], lay T) = some (.inl (some (.int v)), lay T2) := by
  unfold w_ri at h
  split at h
  · rename_i hn; cases h; cases hE; exact o_ireturn hd hr hn
  · cases h
theorem s_vretJ {r : qJ ⊕ Unit} {v : Unit} {b : qJ → qW (qJ ⊕ Unit)} {T1 T2 : qT} (hd : decode M.1 pc = .ok (.return_, 1)) (hr : M.2.2.1 = none) (h : w_rt () T = some (r, T1)) (hE : w_end b n r T1 = some (v, T2)) : q_out rc M (pc, lo, [], lay T) = some (.inl none, lay T2) := by
  cases h; cases hE; exact o_return hd hr
end QY
theorem s_jump {β : Type} {b : qJ → qW (qJ ⊕ β)} {n L : Nat} {vs : List Value} {r : qJ ⊕ β} {T T1 : qT} {o : β × qT} (h : w_go L vs T = some (r, T1)) (hE : w_end b n r T1 = some o) : w_run b n (L, vs) T = some o := by
  cases h; exact hE
end
section
/-! printed by wip/tools/mk_lay.py: blocks of cells -/
def ov (o N : Nat) (c : Nat → qE) (h : Nat → Option qE) : Nat → Option qE := fun a => if o ≤ a ∧ a < o + N then some (c (a - o)) else h a
theorem ov_at {o N j : Nat} {c : Nat → qE} {h : Nat → Option qE} (hj : j < N) : ov o N c h (o + j) = some (c j) := by
  unfold ov
  rw [if_pos ⟨Nat.le_add_right _ _, by omega⟩, Nat.add_sub_cancel_left]
theorem ov_up {o N j : Nat} {c : Nat → qE} {h : Nat → Option qE} {e : qE} (hj : j < N) : q_up (ov o N c h) (o + j) e = ov o N (va_up c j e) h := by
  funext a
  unfold q_up ov va_up
  by_cases ha : a = o + j
  · subst ha
    rw [if_pos rfl, if_pos ⟨Nat.le_add_right _ _, by omega⟩, Nat.add_sub_cancel_left, if_pos rfl]
  · rw [if_neg ha]
    by_cases hb : o ≤ a ∧ a < o + N
    · rw [if_pos hb, if_pos hb, if_neg (by omega)]
    · rw [if_neg hb, if_neg hb]
theorem ov_out {o N a : Nat} {c : Nat → qE} {h : Nat → Option qE} (ha : ¬ (o ≤ a ∧ a < o + N)) : ov o N c h a = h a := by unfold ov; rw [if_neg ha]
theorem ov_upo {o N a : Nat} {c : Nat → qE} {h : Nat → Option qE} {e : qE} (ha : ¬ (o ≤ a ∧ a < o + N)) : q_up (ov o N c h) a e = ov o N c (q_up h a e) := by
  funext b
  unfold q_up ov
  by_cases hb : b = a
  · subst hb; rw [if_pos rfl, if_neg ha]; exact (if_pos rfl).symm
  · rw [if_neg hb]
    by_cases hc : o ≤ b ∧ b < o + N
    · rw [if_pos hc, if_pos hc]
    · rw [if_neg hc, if_neg hc]; exact (if_neg hb).symm
/-- a block with a store -/
def q_blk (o N : Nat) (c : qT → Nat → qE) (T : qT) : qH := (ov o N (c T) T.2.2.2.2.1, T.2.2.2.2.2)
theorem q_blk_put {o N j : Nat} {c : qT → Nat → qE} {T T' : qT} {e : qE} (hj : j < N) (h2 : T'.2.2.2.2 = T.2.2.2.2) (hc : va_up (c T) j e = c T') : (q_up (q_blk o N c T).1 (o + j) e, (q_blk o N c T).2) = q_blk o N c T' := by
  unfold q_blk
  rw [h2, ← hc]
  exact Prod.ext (ov_up hj) rfl
def fsM_0 (r : Nat) (T : qT) : List Value := [.int (T.1 0), .int (T.1 1), .ref (r + 1), .int (T.1 3), .int (T.1 4), .ref (r + 2), .ref (r + 3), .ref (r + 4), .ref (r + 5), .ref (r + 6), .ref (r + 7), .ref (r + 8), .ref (r + 9), .ref (r + 10), .int (T.1 14), .int (T.1 15), .ref (r + 11), .ref (r + 12), .ref (r + 13), .int (T.1 19), .int (T.1 20), .ref (r + 14), .int (T.1 22), .ref (r + 15), .ref (r + 16), .ref (r + 17), .int (T.1 26), .ref (r + 18), .ref (r + 19), .int (T.1 29), .int (T.1 30), .int (T.1 31), .ref (r + 20), .int (T.1 33), .int (T.1 34), .ref (r + 21), .ref (r + 22), .ref (r + 23), .ref (r + 24), .ref (r + 25), .int (T.1 40), .ref (r + 26), .ref (r + 27), .ref (r + 28), .ref (r + 29)]
def kdM : Nat → Nat := fun j => match j with
  | 1 => 1
  | 2 => 0
  | 3 => 0
  | 4 => 0
  | 5 => 0
  | 6 => 0
  | 7 => 0
  | 8 => 0
  | 9 => 3
  | 10 => 0
  | 11 => 0
  | 12 => 0
  | 13 => 0
  | 14 => 0
  | 15 => 0
  | 16 => 0
  | 17 => 0
  | 18 => 0
  | 19 => 0
  | 20 => 0
  | 21 => 0
  | 22 => 0
  | 23 => 3
  | 24 => 3
  | 25 => 3
  | 26 => 0
  | 27 => 0
  | 28 => 3
  | _ => 0
def nnM : Nat → Nat := fun j => match j with
  | 1 => 48
  | 2 => 220
  | 3 => 220
  | 4 => 220
  | 5 => 220
  | 6 => 220
  | 7 => 220
  | 8 => 220
  | 9 => 220
  | 10 => 220
  | 11 => 9
  | 12 => 9
  | 13 => 9
  | 14 => 400
  | 15 => 160
  | 16 => 160
  | 17 => 160
  | 18 => 800
  | 19 => 800
  | 20 => 200
  | 21 => 1120
  | 22 => 14
  | 23 => 160
  | 24 => 160
  | 25 => 160
  | 26 => 330
  | 27 => 330
  | 28 => 160
  | _ => 160
def cM (r : Nat) (T : qT) (j : Nat) : qE := match j with
  | 0 => .inr (8, fsM_0 r T)
  | j => .inl (kdM j, nnM j, .inl (T.2.1 j))
def layM (r : Nat) (T : qT) : qH := q_blk r 30 (cM r) T
theorem layM_put {r j : Nat} {T T' : qT} {e : qE} (hj : j < 30) (h2 : T'.2.2.2.2 = T.2.2.2.2) (hc : va_up (cM r T) j e = cM r T') : (q_up (layM r T).1 (r + j) e, (layM r T).2) = layM r T' := q_blk_put hj h2 hc
theorem obM_0 (r : Nat) : q_obj (layM r) (r + 0) 8 := fun T => ⟨fsM_0 r T, ov_at (by decide)⟩
theorem zM_Md_thrown (r : Nat) : q_scl (layM r) (r + 0) 8 0 0 := fun T => ⟨fsM_0 r T, ov_at (by decide), rfl, (Nat.le_of_ble_eq_true rfl), fun v => layM_put (by decide) rfl (by
    funext i
    unfold va_up
    by_cases hi : i = 0
    · subst hi; rw [if_pos rfl]; rfl
    · rw [if_neg hi]; unfold cM; split <;> first | rfl | exact absurd rfl hi)⟩
theorem zM_Md_size (r : Nat) : q_scl (layM r) (r + 0) 8 1 1 := fun T => ⟨fsM_0 r T, ov_at (by decide), rfl, (Nat.le_of_ble_eq_true rfl), fun v => layM_put (by decide) rfl (by
    funext i
    unfold va_up
    by_cases hi : i = 0
    · subst hi; rw [if_pos rfl]; rfl
    · rw [if_neg hi]; unfold cM; split <;> first | rfl | exact absurd rfl hi)⟩
theorem zM_Md_text (r : Nat) : q_ref (layM r) (r + 0) 8 2 (.ref (r + 1)) := fun T => ⟨fsM_0 r T, ov_at (by decide), rfl⟩
theorem zM_Md_error (r : Nat) : q_scl (layM r) (r + 0) 8 3 3 := fun T => ⟨fsM_0 r T, ov_at (by decide), rfl, (Nat.le_of_ble_eq_true rfl), fun v => layM_put (by decide) rfl (by
    funext i
    unfold va_up
    by_cases hi : i = 0
    · subst hi; rw [if_pos rfl]; rfl
    · rw [if_neg hi]; unfold cM; split <;> first | rfl | exact absurd rfl hi)⟩
theorem zM_Md_nodes (r : Nat) : q_scl (layM r) (r + 0) 8 4 4 := fun T => ⟨fsM_0 r T, ov_at (by decide), rfl, (Nat.le_of_ble_eq_true rfl), fun v => layM_put (by decide) rfl (by
    funext i
    unfold va_up
    by_cases hi : i = 0
    · subst hi; rw [if_pos rfl]; rfl
    · rw [if_neg hi]; unfold cM; split <;> first | rfl | exact absurd rfl hi)⟩
theorem zM_Md_kind (r : Nat) : q_ref (layM r) (r + 0) 8 5 (.ref (r + 2)) := fun T => ⟨fsM_0 r T, ov_at (by decide), rfl⟩
theorem zM_Md_first (r : Nat) : q_ref (layM r) (r + 0) 8 6 (.ref (r + 3)) := fun T => ⟨fsM_0 r T, ov_at (by decide), rfl⟩
theorem zM_Md_last (r : Nat) : q_ref (layM r) (r + 0) 8 7 (.ref (r + 4)) := fun T => ⟨fsM_0 r T, ov_at (by decide), rfl⟩
theorem zM_Md_next (r : Nat) : q_ref (layM r) (r + 0) 8 8 (.ref (r + 5)) := fun T => ⟨fsM_0 r T, ov_at (by decide), rfl⟩
theorem zM_Md_a (r : Nat) : q_ref (layM r) (r + 0) 8 9 (.ref (r + 6)) := fun T => ⟨fsM_0 r T, ov_at (by decide), rfl⟩
theorem zM_Md_least (r : Nat) : q_ref (layM r) (r + 0) 8 10 (.ref (r + 7)) := fun T => ⟨fsM_0 r T, ov_at (by decide), rfl⟩
theorem zM_Md_most (r : Nat) : q_ref (layM r) (r + 0) 8 11 (.ref (r + 8)) := fun T => ⟨fsM_0 r T, ov_at (by decide), rfl⟩
theorem zM_Md_lazy (r : Nat) : q_ref (layM r) (r + 0) 8 12 (.ref (r + 9)) := fun T => ⟨fsM_0 r T, ov_at (by decide), rfl⟩
theorem zM_Md_wide (r : Nat) : q_ref (layM r) (r + 0) 8 13 (.ref (r + 10)) := fun T => ⟨fsM_0 r T, ov_at (by decide), rfl⟩
theorem zM_Md_p (r : Nat) : q_scl (layM r) (r + 0) 8 14 14 := fun T => ⟨fsM_0 r T, ov_at (by decide), rfl, (Nat.le_of_ble_eq_true rfl), fun v => layM_put (by decide) rfl (by
    funext i
    unfold va_up
    by_cases hi : i = 0
    · subst hi; rw [if_pos rfl]; rfl
    · rw [if_neg hi]; unfold cM; split <;> first | rfl | exact absurd rfl hi)⟩
theorem zM_Md_depth (r : Nat) : q_scl (layM r) (r + 0) 8 15 15 := fun T => ⟨fsM_0 r T, ov_at (by decide), rfl, (Nat.le_of_ble_eq_true rfl), fun v => layM_put (by decide) rfl (by
    funext i
    unfold va_up
    by_cases hi : i = 0
    · subst hi; rw [if_pos rfl]; rfl
    · rw [if_neg hi]; unfold cM; split <;> first | rfl | exact absurd rfl hi)⟩
theorem zM_Md_openRepeat (r : Nat) : q_ref (layM r) (r + 0) 8 16 (.ref (r + 11)) := fun T => ⟨fsM_0 r T, ov_at (by decide), rfl⟩
theorem zM_Md_openChoice (r : Nat) : q_ref (layM r) (r + 0) 8 17 (.ref (r + 12)) := fun T => ⟨fsM_0 r T, ov_at (by decide), rfl⟩
theorem zM_Md_openRow (r : Nat) : q_ref (layM r) (r + 0) 8 18 (.ref (r + 13)) := fun T => ⟨fsM_0 r T, ov_at (by decide), rfl⟩
theorem zM_Md_numbers (r : Nat) : q_scl (layM r) (r + 0) 8 19 19 := fun T => ⟨fsM_0 r T, ov_at (by decide), rfl, (Nat.le_of_ble_eq_true rfl), fun v => layM_put (by decide) rfl (by
    funext i
    unfold va_up
    by_cases hi : i = 0
    · subst hi; rw [if_pos rfl]; rfl
    · rw [if_neg hi]; unfold cM; split <;> first | rfl | exact absurd rfl hi)⟩
theorem zM_Md_sets (r : Nat) : q_scl (layM r) (r + 0) 8 20 20 := fun T => ⟨fsM_0 r T, ov_at (by decide), rfl, (Nat.le_of_ble_eq_true rfl), fun v => layM_put (by decide) rfl (by
    funext i
    unfold va_up
    by_cases hi : i = 0
    · subst hi; rw [if_pos rfl]; rfl
    · rw [if_neg hi]; unfold cM; split <;> first | rfl | exact absurd rfl hi)⟩
theorem zM_Md_bits (r : Nat) : q_ref (layM r) (r + 0) 8 21 (.ref (r + 14)) := fun T => ⟨fsM_0 r T, ov_at (by decide), rfl⟩
theorem zM_Md_length (r : Nat) : q_scl (layM r) (r + 0) 8 22 22 := fun T => ⟨fsM_0 r T, ov_at (by decide), rfl, (Nat.le_of_ble_eq_true rfl), fun v => layM_put (by decide) rfl (by
    funext i
    unfold va_up
    by_cases hi : i = 0
    · subst hi; rw [if_pos rfl]; rfl
    · rw [if_neg hi]; unfold cM; split <;> first | rfl | exact absurd rfl hi)⟩
theorem zM_Md_code (r : Nat) : q_ref (layM r) (r + 0) 8 23 (.ref (r + 15)) := fun T => ⟨fsM_0 r T, ov_at (by decide), rfl⟩
theorem zM_Md_x (r : Nat) : q_ref (layM r) (r + 0) 8 24 (.ref (r + 16)) := fun T => ⟨fsM_0 r T, ov_at (by decide), rfl⟩
theorem zM_Md_y (r : Nat) : q_ref (layM r) (r + 0) 8 25 (.ref (r + 17)) := fun T => ⟨fsM_0 r T, ov_at (by decide), rfl⟩
theorem zM_Md_tasks (r : Nat) : q_scl (layM r) (r + 0) 8 26 26 := fun T => ⟨fsM_0 r T, ov_at (by decide), rfl, (Nat.le_of_ble_eq_true rfl), fun v => layM_put (by decide) rfl (by
    funext i
    unfold va_up
    by_cases hi : i = 0
    · subst hi; rw [if_pos rfl]; rfl
    · rw [if_neg hi]; unfold cM; split <;> first | rfl | exact absurd rfl hi)⟩
theorem zM_Md_taskNode (r : Nat) : q_ref (layM r) (r + 0) 8 27 (.ref (r + 18)) := fun T => ⟨fsM_0 r T, ov_at (by decide), rfl⟩
theorem zM_Md_taskAt (r : Nat) : q_ref (layM r) (r + 0) 8 28 (.ref (r + 19)) := fun T => ⟨fsM_0 r T, ov_at (by decide), rfl⟩
theorem zM_Md_begun (r : Nat) : q_scl (layM r) (r + 0) 8 29 29 := fun T => ⟨fsM_0 r T, ov_at (by decide), rfl, (Nat.le_of_ble_eq_true rfl), fun v => layM_put (by decide) rfl (by
    funext i
    unfold va_up
    by_cases hi : i = 0
    · subst hi; rw [if_pos rfl]; rfl
    · rw [if_neg hi]; unfold cM; split <;> first | rfl | exact absurd rfl hi)⟩
theorem zM_Md_search (r : Nat) : q_scl (layM r) (r + 0) 8 30 30 := fun T => ⟨fsM_0 r T, ov_at (by decide), rfl, (Nat.le_of_ble_eq_true rfl), fun v => layM_put (by decide) rfl (by
    funext i
    unfold va_up
    by_cases hi : i = 0
    · subst hi; rw [if_pos rfl]; rfl
    · rw [if_neg hi]; unfold cM; split <;> first | rfl | exact absurd rfl hi)⟩
theorem zM_Md_fed (r : Nat) : q_scl (layM r) (r + 0) 8 31 31 := fun T => ⟨fsM_0 r T, ov_at (by decide), rfl, (Nat.le_of_ble_eq_true rfl), fun v => layM_put (by decide) rfl (by
    funext i
    unfold va_up
    by_cases hi : i = 0
    · subst hi; rw [if_pos rfl]; rfl
    · rw [if_neg hi]; unfold cM; split <;> first | rfl | exact absurd rfl hi)⟩
theorem zM_Md_word (r : Nat) : q_ref (layM r) (r + 0) 8 32 (.ref (r + 20)) := fun T => ⟨fsM_0 r T, ov_at (by decide), rfl⟩
theorem zM_Md_known (r : Nat) : q_scl (layM r) (r + 0) 8 33 33 := fun T => ⟨fsM_0 r T, ov_at (by decide), rfl, (Nat.le_of_ble_eq_true rfl), fun v => layM_put (by decide) rfl (by
    funext i
    unfold va_up
    by_cases hi : i = 0
    · subst hi; rw [if_pos rfl]; rfl
    · rw [if_neg hi]; unfold cM; split <;> first | rfl | exact absurd rfl hi)⟩
theorem zM_Md_matched (r : Nat) : q_scl (layM r) (r + 0) 8 34 34 := fun T => ⟨fsM_0 r T, ov_at (by decide), rfl, (Nat.le_of_ble_eq_true rfl), fun v => layM_put (by decide) rfl (by
    funext i
    unfold va_up
    by_cases hi : i = 0
    · subst hi; rw [if_pos rfl]; rfl
    · rw [if_neg hi]; unfold cM; split <;> first | rfl | exact absurd rfl hi)⟩
theorem zM_Md_can (r : Nat) : q_ref (layM r) (r + 0) 8 35 (.ref (r + 21)) := fun T => ⟨fsM_0 r T, ov_at (by decide), rfl⟩
theorem zM_Md_marks (r : Nat) : q_ref (layM r) (r + 0) 8 36 (.ref (r + 22)) := fun T => ⟨fsM_0 r T, ov_at (by decide), rfl⟩
theorem zM_Md_live (r : Nat) : q_ref (layM r) (r + 0) 8 37 (.ref (r + 23)) := fun T => ⟨fsM_0 r T, ov_at (by decide), rfl⟩
theorem zM_Md_here (r : Nat) : q_ref (layM r) (r + 0) 8 38 (.ref (r + 24)) := fun T => ⟨fsM_0 r T, ov_at (by decide), rfl⟩
theorem zM_Md_there (r : Nat) : q_ref (layM r) (r + 0) 8 39 (.ref (r + 25)) := fun T => ⟨fsM_0 r T, ov_at (by decide), rfl⟩
theorem zM_Md_piled (r : Nat) : q_scl (layM r) (r + 0) 8 40 40 := fun T => ⟨fsM_0 r T, ov_at (by decide), rfl, (Nat.le_of_ble_eq_true rfl), fun v => layM_put (by decide) rfl (by
    funext i
    unfold va_up
    by_cases hi : i = 0
    · subst hi; rw [if_pos rfl]; rfl
    · rw [if_neg hi]; unfold cM; split <;> first | rfl | exact absurd rfl hi)⟩
theorem zM_Md_pile (r : Nat) : q_ref (layM r) (r + 0) 8 41 (.ref (r + 26)) := fun T => ⟨fsM_0 r T, ov_at (by decide), rfl⟩
theorem zM_Md_from (r : Nat) : q_ref (layM r) (r + 0) 8 42 (.ref (r + 27)) := fun T => ⟨fsM_0 r T, ov_at (by decide), rfl⟩
theorem zM_Md_seen (r : Nat) : q_ref (layM r) (r + 0) 8 43 (.ref (r + 28)) := fun T => ⟨fsM_0 r T, ov_at (by decide), rfl⟩
theorem zM_Md_parent (r : Nat) : q_ref (layM r) (r + 0) 8 44 (.ref (r + 29)) := fun T => ⟨fsM_0 r T, ov_at (by decide), rfl⟩
theorem rM_1 (r : Nat) : q_arr (layM r) (r + 1) 1 48 1 := fun T => ⟨ov_at (by decide), fun g => layM_put (by decide) rfl (by
    funext i
    unfold va_up
    by_cases hi : i = 1
    · subst hi; rw [if_pos rfl]; rfl
    · rw [if_neg hi]; unfold cM; split <;> first | rfl | (simp only [aU, va_up, if_neg hi]))⟩
theorem rM_2 (r : Nat) : q_arr (layM r) (r + 2) 0 220 2 := fun T => ⟨ov_at (by decide), fun g => layM_put (by decide) rfl (by
    funext i
    unfold va_up
    by_cases hi : i = 2
    · subst hi; rw [if_pos rfl]; rfl
    · rw [if_neg hi]; unfold cM; split <;> first | rfl | (simp only [aU, va_up, if_neg hi]))⟩
theorem rM_3 (r : Nat) : q_arr (layM r) (r + 3) 0 220 3 := fun T => ⟨ov_at (by decide), fun g => layM_put (by decide) rfl (by
    funext i
    unfold va_up
    by_cases hi : i = 3
    · subst hi; rw [if_pos rfl]; rfl
    · rw [if_neg hi]; unfold cM; split <;> first | rfl | (simp only [aU, va_up, if_neg hi]))⟩
theorem rM_4 (r : Nat) : q_arr (layM r) (r + 4) 0 220 4 := fun T => ⟨ov_at (by decide), fun g => layM_put (by decide) rfl (by
    funext i
    unfold va_up
    by_cases hi : i = 4
    · subst hi; rw [if_pos rfl]; rfl
    · rw [if_neg hi]; unfold cM; split <;> first | rfl | (simp only [aU, va_up, if_neg hi]))⟩
theorem rM_5 (r : Nat) : q_arr (layM r) (r + 5) 0 220 5 := fun T => ⟨ov_at (by decide), fun g => layM_put (by decide) rfl (by
    funext i
    unfold va_up
    by_cases hi : i = 5
    · subst hi; rw [if_pos rfl]; rfl
    · rw [if_neg hi]; unfold cM; split <;> first | rfl | (simp only [aU, va_up, if_neg hi]))⟩
theorem rM_6 (r : Nat) : q_arr (layM r) (r + 6) 0 220 6 := fun T => ⟨ov_at (by decide), fun g => layM_put (by decide) rfl (by
    funext i
    unfold va_up
    by_cases hi : i = 6
    · subst hi; rw [if_pos rfl]; rfl
    · rw [if_neg hi]; unfold cM; split <;> first | rfl | (simp only [aU, va_up, if_neg hi]))⟩
theorem rM_7 (r : Nat) : q_arr (layM r) (r + 7) 0 220 7 := fun T => ⟨ov_at (by decide), fun g => layM_put (by decide) rfl (by
    funext i
    unfold va_up
    by_cases hi : i = 7
    · subst hi; rw [if_pos rfl]; rfl
    · rw [if_neg hi]; unfold cM; split <;> first | rfl | (simp only [aU, va_up, if_neg hi]))⟩
theorem rM_8 (r : Nat) : q_arr (layM r) (r + 8) 0 220 8 := fun T => ⟨ov_at (by decide), fun g => layM_put (by decide) rfl (by
    funext i
    unfold va_up
    by_cases hi : i = 8
    · subst hi; rw [if_pos rfl]; rfl
    · rw [if_neg hi]; unfold cM; split <;> first | rfl | (simp only [aU, va_up, if_neg hi]))⟩
theorem rM_9 (r : Nat) : q_arr (layM r) (r + 9) 3 220 9 := fun T => ⟨ov_at (by decide), fun g => layM_put (by decide) rfl (by
    funext i
    unfold va_up
    by_cases hi : i = 9
    · subst hi; rw [if_pos rfl]; rfl
    · rw [if_neg hi]; unfold cM; split <;> first | rfl | (simp only [aU, va_up, if_neg hi]))⟩
theorem rM_10 (r : Nat) : q_arr (layM r) (r + 10) 0 220 10 := fun T => ⟨ov_at (by decide), fun g => layM_put (by decide) rfl (by
    funext i
    unfold va_up
    by_cases hi : i = 10
    · subst hi; rw [if_pos rfl]; rfl
    · rw [if_neg hi]; unfold cM; split <;> first | rfl | (simp only [aU, va_up, if_neg hi]))⟩
theorem rM_11 (r : Nat) : q_arr (layM r) (r + 11) 0 9 11 := fun T => ⟨ov_at (by decide), fun g => layM_put (by decide) rfl (by
    funext i
    unfold va_up
    by_cases hi : i = 11
    · subst hi; rw [if_pos rfl]; rfl
    · rw [if_neg hi]; unfold cM; split <;> first | rfl | (simp only [aU, va_up, if_neg hi]))⟩
theorem rM_12 (r : Nat) : q_arr (layM r) (r + 12) 0 9 12 := fun T => ⟨ov_at (by decide), fun g => layM_put (by decide) rfl (by
    funext i
    unfold va_up
    by_cases hi : i = 12
    · subst hi; rw [if_pos rfl]; rfl
    · rw [if_neg hi]; unfold cM; split <;> first | rfl | (simp only [aU, va_up, if_neg hi]))⟩
theorem rM_13 (r : Nat) : q_arr (layM r) (r + 13) 0 9 13 := fun T => ⟨ov_at (by decide), fun g => layM_put (by decide) rfl (by
    funext i
    unfold va_up
    by_cases hi : i = 13
    · subst hi; rw [if_pos rfl]; rfl
    · rw [if_neg hi]; unfold cM; split <;> first | rfl | (simp only [aU, va_up, if_neg hi]))⟩
theorem rM_14 (r : Nat) : q_arr (layM r) (r + 14) 0 400 14 := fun T => ⟨ov_at (by decide), fun g => layM_put (by decide) rfl (by
    funext i
    unfold va_up
    by_cases hi : i = 14
    · subst hi; rw [if_pos rfl]; rfl
    · rw [if_neg hi]; unfold cM; split <;> first | rfl | (simp only [aU, va_up, if_neg hi]))⟩
theorem rM_15 (r : Nat) : q_arr (layM r) (r + 15) 0 160 15 := fun T => ⟨ov_at (by decide), fun g => layM_put (by decide) rfl (by
    funext i
    unfold va_up
    by_cases hi : i = 15
    · subst hi; rw [if_pos rfl]; rfl
    · rw [if_neg hi]; unfold cM; split <;> first | rfl | (simp only [aU, va_up, if_neg hi]))⟩
theorem rM_16 (r : Nat) : q_arr (layM r) (r + 16) 0 160 16 := fun T => ⟨ov_at (by decide), fun g => layM_put (by decide) rfl (by
    funext i
    unfold va_up
    by_cases hi : i = 16
    · subst hi; rw [if_pos rfl]; rfl
    · rw [if_neg hi]; unfold cM; split <;> first | rfl | (simp only [aU, va_up, if_neg hi]))⟩
theorem rM_17 (r : Nat) : q_arr (layM r) (r + 17) 0 160 17 := fun T => ⟨ov_at (by decide), fun g => layM_put (by decide) rfl (by
    funext i
    unfold va_up
    by_cases hi : i = 17
    · subst hi; rw [if_pos rfl]; rfl
    · rw [if_neg hi]; unfold cM; split <;> first | rfl | (simp only [aU, va_up, if_neg hi]))⟩
theorem rM_18 (r : Nat) : q_arr (layM r) (r + 18) 0 800 18 := fun T => ⟨ov_at (by decide), fun g => layM_put (by decide) rfl (by
    funext i
    unfold va_up
    by_cases hi : i = 18
    · subst hi; rw [if_pos rfl]; rfl
    · rw [if_neg hi]; unfold cM; split <;> first | rfl | (simp only [aU, va_up, if_neg hi]))⟩
theorem rM_19 (r : Nat) : q_arr (layM r) (r + 19) 0 800 19 := fun T => ⟨ov_at (by decide), fun g => layM_put (by decide) rfl (by
    funext i
    unfold va_up
    by_cases hi : i = 19
    · subst hi; rw [if_pos rfl]; rfl
    · rw [if_neg hi]; unfold cM; split <;> first | rfl | (simp only [aU, va_up, if_neg hi]))⟩
theorem rM_20 (r : Nat) : q_arr (layM r) (r + 20) 0 200 20 := fun T => ⟨ov_at (by decide), fun g => layM_put (by decide) rfl (by
    funext i
    unfold va_up
    by_cases hi : i = 20
    · subst hi; rw [if_pos rfl]; rfl
    · rw [if_neg hi]; unfold cM; split <;> first | rfl | (simp only [aU, va_up, if_neg hi]))⟩
theorem rM_21 (r : Nat) : q_arr (layM r) (r + 21) 0 1120 21 := fun T => ⟨ov_at (by decide), fun g => layM_put (by decide) rfl (by
    funext i
    unfold va_up
    by_cases hi : i = 21
    · subst hi; rw [if_pos rfl]; rfl
    · rw [if_neg hi]; unfold cM; split <;> first | rfl | (simp only [aU, va_up, if_neg hi]))⟩
theorem rM_22 (r : Nat) : q_arr (layM r) (r + 22) 0 14 22 := fun T => ⟨ov_at (by decide), fun g => layM_put (by decide) rfl (by
    funext i
    unfold va_up
    by_cases hi : i = 22
    · subst hi; rw [if_pos rfl]; rfl
    · rw [if_neg hi]; unfold cM; split <;> first | rfl | (simp only [aU, va_up, if_neg hi]))⟩
theorem rM_23 (r : Nat) : q_arr (layM r) (r + 23) 3 160 23 := fun T => ⟨ov_at (by decide), fun g => layM_put (by decide) rfl (by
    funext i
    unfold va_up
    by_cases hi : i = 23
    · subst hi; rw [if_pos rfl]; rfl
    · rw [if_neg hi]; unfold cM; split <;> first | rfl | (simp only [aU, va_up, if_neg hi]))⟩
theorem rM_24 (r : Nat) : q_arr (layM r) (r + 24) 3 160 24 := fun T => ⟨ov_at (by decide), fun g => layM_put (by decide) rfl (by
    funext i
    unfold va_up
    by_cases hi : i = 24
    · subst hi; rw [if_pos rfl]; rfl
    · rw [if_neg hi]; unfold cM; split <;> first | rfl | (simp only [aU, va_up, if_neg hi]))⟩
theorem rM_25 (r : Nat) : q_arr (layM r) (r + 25) 3 160 25 := fun T => ⟨ov_at (by decide), fun g => layM_put (by decide) rfl (by
    funext i
    unfold va_up
    by_cases hi : i = 25
    · subst hi; rw [if_pos rfl]; rfl
    · rw [if_neg hi]; unfold cM; split <;> first | rfl | (simp only [aU, va_up, if_neg hi]))⟩
theorem rM_26 (r : Nat) : q_arr (layM r) (r + 26) 0 330 26 := fun T => ⟨ov_at (by decide), fun g => layM_put (by decide) rfl (by
    funext i
    unfold va_up
    by_cases hi : i = 26
    · subst hi; rw [if_pos rfl]; rfl
    · rw [if_neg hi]; unfold cM; split <;> first | rfl | (simp only [aU, va_up, if_neg hi]))⟩
theorem rM_27 (r : Nat) : q_arr (layM r) (r + 27) 0 330 27 := fun T => ⟨ov_at (by decide), fun g => layM_put (by decide) rfl (by
    funext i
    unfold va_up
    by_cases hi : i = 27
    · subst hi; rw [if_pos rfl]; rfl
    · rw [if_neg hi]; unfold cM; split <;> first | rfl | (simp only [aU, va_up, if_neg hi]))⟩
theorem rM_28 (r : Nat) : q_arr (layM r) (r + 28) 3 160 28 := fun T => ⟨ov_at (by decide), fun g => layM_put (by decide) rfl (by
    funext i
    unfold va_up
    by_cases hi : i = 28
    · subst hi; rw [if_pos rfl]; rfl
    · rw [if_neg hi]; unfold cM; split <;> first | rfl | (simp only [aU, va_up, if_neg hi]))⟩
theorem rM_29 (r : Nat) : q_arr (layM r) (r + 29) 0 160 29 := fun T => ⟨ov_at (by decide), fun g => layM_put (by decide) rfl (by
    funext i
    unfold va_up
    by_cases hi : i = 29
    · subst hi; rw [if_pos rfl]; rfl
    · rw [if_neg hi]; unfold cM; split <;> first | rfl | (simp only [aU, va_up, if_neg hi]))⟩
def fsC_0 (o : Nat) (T : qT) : List Value := [.ref (o + 1), .int (T.1 1), .int (T.1 2), .ref (o + 2), .ref (o + 4), .ref (o + 5), .ref (o + 9)]
def fsC_2 (o : Nat) (T : qT) : List Value := [.ref (o + 3), .int (T.1 41)]
def fsC_4 (o : Nat) (T : qT) : List Value := [.ref (o + 1), .ref (o + 2), .int (T.1 82), .int (T.1 83), .int (T.1 84), .int (T.1 85)]
def fsC_5 (o : Nat) (T : qT) : List Value := [.ref (o + 6), .ref (o + 7), .ref (o + 8), .int (T.1 103), .int (T.1 104)]
def fsC_9 (o : Nat) (T : qT) : List Value := [.ref (o + 5), .ref (o + 2), .ref (o + 10 + 3 * T.2.2.2.1 0), .ref (o + 10 + 3 * T.2.2.2.1 1), .ref (o + 16), .ref (o + 17), .ref (o + 18), .int (T.1 187), .ref (o + 19), .ref (o + 20), .int (T.1 190), .int (T.1 191), .int (T.1 192), .int (T.1 193), .int (T.1 194)]
def fsC_10 (o : Nat) (T : qT) : List Value := [.ref (o + 11), .ref (o + 12), .int (T.1 202)]
def fsC_13 (o : Nat) (T : qT) : List Value := [.ref (o + 14), .ref (o + 15), .int (T.1 262)]
def kdC : Nat → Nat := fun j => match j with
  | 1 => 1
  | 6 => 0
  | 7 => 0
  | 8 => 0
  | 11 => 0
  | 12 => 0
  | 14 => 0
  | 15 => 0
  | 16 => 0
  | 17 => 0
  | 18 => 0
  | 19 => 0
  | _ => 0
def nnC : Nat → Nat := fun j => match j with
  | 1 => 48
  | 6 => 160
  | 7 => 160
  | 8 => 160
  | 11 => 160
  | 12 => 2240
  | 14 => 160
  | 15 => 2240
  | 16 => 160
  | 17 => 321
  | 18 => 321
  | 19 => 14
  | _ => 14
def cC (o : Nat) (T : qT) (j : Nat) : qE := match j with
  | 0 => .inr (0, fsC_0 o T)
  | 2 => .inr (1, fsC_2 o T)
  | 4 => .inr (2, fsC_4 o T)
  | 5 => .inr (3, fsC_5 o T)
  | 9 => .inr (6, fsC_9 o T)
  | 10 => .inr (7, fsC_10 o T)
  | 13 => .inr (7, fsC_13 o T)
  | 3 => .inl (2, 192, .inr (.inl T.2.2.1))
  | j => .inl (kdC j, nnC j, .inl (T.2.1 j))
def layC (o : Nat) (T : qT) : qH := q_blk o 21 (cC o) T
theorem layC_put {o j : Nat} {T T' : qT} {e : qE} (hj : j < 21) (h2 : T'.2.2.2.2 = T.2.2.2.2) (hc : va_up (cC o T) j e = cC o T') : (q_up (layC o T).1 (o + j) e, (layC o T).2) = layC o T' := q_blk_put hj h2 hc
theorem obC_0 (o : Nat) : q_obj (layC o) (o + 0) 0 := fun T => ⟨fsC_0 o T, ov_at (by decide)⟩
theorem zC_PW_text (o : Nat) : q_ref (layC o) (o + 0) 0 0 (.ref (o + 1)) := fun T => ⟨fsC_0 o T, ov_at (by decide), rfl⟩
theorem zC_PW_length (o : Nat) : q_scl (layC o) (o + 0) 0 1 1 := fun T => ⟨fsC_0 o T, ov_at (by decide), rfl, (Nat.le_of_ble_eq_true rfl), fun v => layC_put (by decide) rfl (by
    funext i
    unfold va_up
    by_cases hi : i = 0
    · subst hi; rw [if_pos rfl]; rfl
    · rw [if_neg hi]; unfold cC; split <;> first | rfl | exact absurd rfl hi)⟩
theorem zC_PW_errorAt (o : Nat) : q_scl (layC o) (o + 0) 0 2 2 := fun T => ⟨fsC_0 o T, ov_at (by decide), rfl, (Nat.le_of_ble_eq_true rfl), fun v => layC_put (by decide) rfl (by
    funext i
    unfold va_up
    by_cases hi : i = 0
    · subst hi; rw [if_pos rfl]; rfl
    · rw [if_neg hi]; unfold cC; split <;> first | rfl | exact absurd rfl hi)⟩
theorem zC_PW_sets (o : Nat) : q_ref (layC o) (o + 0) 0 3 (.ref (o + 2)) := fun T => ⟨fsC_0 o T, ov_at (by decide), rfl⟩
theorem zC_PW_parser (o : Nat) : q_ref (layC o) (o + 0) 0 4 (.ref (o + 4)) := fun T => ⟨fsC_0 o T, ov_at (by decide), rfl⟩
theorem zC_PW_program (o : Nat) : q_ref (layC o) (o + 0) 0 5 (.ref (o + 5)) := fun T => ⟨fsC_0 o T, ov_at (by decide), rfl⟩
theorem zC_PW_walk (o : Nat) : q_ref (layC o) (o + 0) 0 6 (.ref (o + 9)) := fun T => ⟨fsC_0 o T, ov_at (by decide), rfl⟩
theorem obC_2 (o : Nat) : q_obj (layC o) (o + 2) 1 := fun T => ⟨fsC_2 o T, ov_at (by decide)⟩
theorem zC_Cs_bits (o : Nat) : q_ref (layC o) (o + 2) 1 0 (.ref (o + 3)) := fun T => ⟨fsC_2 o T, ov_at (by decide), rfl⟩
theorem zC_Cs_used (o : Nat) : q_scl (layC o) (o + 2) 1 1 41 := fun T => ⟨fsC_2 o T, ov_at (by decide), rfl, (Nat.le_of_ble_eq_true rfl), fun v => layC_put (by decide) rfl (by
    funext i
    unfold va_up
    by_cases hi : i = 2
    · subst hi; rw [if_pos rfl]; rfl
    · rw [if_neg hi]; unfold cC; split <;> first | rfl | exact absurd rfl hi)⟩
theorem obC_4 (o : Nat) : q_obj (layC o) (o + 4) 2 := fun T => ⟨fsC_4 o T, ov_at (by decide)⟩
theorem zC_Pa_text (o : Nat) : q_ref (layC o) (o + 4) 2 0 (.ref (o + 1)) := fun T => ⟨fsC_4 o T, ov_at (by decide), rfl⟩
theorem zC_Pa_sets (o : Nat) : q_ref (layC o) (o + 4) 2 1 (.ref (o + 2)) := fun T => ⟨fsC_4 o T, ov_at (by decide), rfl⟩
theorem zC_Pa_length (o : Nat) : q_scl (layC o) (o + 4) 2 2 82 := fun T => ⟨fsC_4 o T, ov_at (by decide), rfl, (Nat.le_of_ble_eq_true rfl), fun v => layC_put (by decide) rfl (by
    funext i
    unfold va_up
    by_cases hi : i = 4
    · subst hi; rw [if_pos rfl]; rfl
    · rw [if_neg hi]; unfold cC; split <;> first | rfl | exact absurd rfl hi)⟩
theorem zC_Pa_at (o : Nat) : q_scl (layC o) (o + 4) 2 3 83 := fun T => ⟨fsC_4 o T, ov_at (by decide), rfl, (Nat.le_of_ble_eq_true rfl), fun v => layC_put (by decide) rfl (by
    funext i
    unfold va_up
    by_cases hi : i = 4
    · subst hi; rw [if_pos rfl]; rfl
    · rw [if_neg hi]; unfold cC; split <;> first | rfl | exact absurd rfl hi)⟩
theorem zC_Pa_groups (o : Nat) : q_scl (layC o) (o + 4) 2 4 84 := fun T => ⟨fsC_4 o T, ov_at (by decide), rfl, (Nat.le_of_ble_eq_true rfl), fun v => layC_put (by decide) rfl (by
    funext i
    unfold va_up
    by_cases hi : i = 4
    · subst hi; rw [if_pos rfl]; rfl
    · rw [if_neg hi]; unfold cC; split <;> first | rfl | exact absurd rfl hi)⟩
theorem zC_Pa_error (o : Nat) : q_scl (layC o) (o + 4) 2 5 85 := fun T => ⟨fsC_4 o T, ov_at (by decide), rfl, (Nat.le_of_ble_eq_true rfl), fun v => layC_put (by decide) rfl (by
    funext i
    unfold va_up
    by_cases hi : i = 4
    · subst hi; rw [if_pos rfl]; rfl
    · rw [if_neg hi]; unfold cC; split <;> first | rfl | exact absurd rfl hi)⟩
theorem obC_5 (o : Nat) : q_obj (layC o) (o + 5) 3 := fun T => ⟨fsC_5 o T, ov_at (by decide)⟩
theorem zC_Pr_kinds (o : Nat) : q_ref (layC o) (o + 5) 3 0 (.ref (o + 6)) := fun T => ⟨fsC_5 o T, ov_at (by decide), rfl⟩
theorem zC_Pr_xs (o : Nat) : q_ref (layC o) (o + 5) 3 1 (.ref (o + 7)) := fun T => ⟨fsC_5 o T, ov_at (by decide), rfl⟩
theorem zC_Pr_ys (o : Nat) : q_ref (layC o) (o + 5) 3 2 (.ref (o + 8)) := fun T => ⟨fsC_5 o T, ov_at (by decide), rfl⟩
theorem zC_Pr_size (o : Nat) : q_scl (layC o) (o + 5) 3 3 103 := fun T => ⟨fsC_5 o T, ov_at (by decide), rfl, (Nat.le_of_ble_eq_true rfl), fun v => layC_put (by decide) rfl (by
    funext i
    unfold va_up
    by_cases hi : i = 5
    · subst hi; rw [if_pos rfl]; rfl
    · rw [if_neg hi]; unfold cC; split <;> first | rfl | exact absurd rfl hi)⟩
theorem zC_Pr_numbered (o : Nat) : q_scl (layC o) (o + 5) 3 4 104 := fun T => ⟨fsC_5 o T, ov_at (by decide), rfl, (Nat.le_of_ble_eq_true rfl), fun v => layC_put (by decide) rfl (by
    funext i
    unfold va_up
    by_cases hi : i = 5
    · subst hi; rw [if_pos rfl]; rfl
    · rw [if_neg hi]; unfold cC; split <;> first | rfl | exact absurd rfl hi)⟩
theorem obC_9 (o : Nat) : q_obj (layC o) (o + 9) 6 := fun T => ⟨fsC_9 o T, ov_at (by decide)⟩
theorem zC_Wk_program (o : Nat) : q_ref (layC o) (o + 9) 6 0 (.ref (o + 5)) := fun T => ⟨fsC_9 o T, ov_at (by decide), rfl⟩
theorem zC_Wk_sets (o : Nat) : q_ref (layC o) (o + 9) 6 1 (.ref (o + 2)) := fun T => ⟨fsC_9 o T, ov_at (by decide), rfl⟩
theorem zC_Wk_cameAt (o : Nat) : q_ref (layC o) (o + 9) 6 4 (.ref (o + 16)) := fun T => ⟨fsC_9 o T, ov_at (by decide), rfl⟩
theorem zC_Wk_stack (o : Nat) : q_ref (layC o) (o + 9) 6 5 (.ref (o + 17)) := fun T => ⟨fsC_9 o T, ov_at (by decide), rfl⟩
theorem zC_Wk_oldMarks (o : Nat) : q_ref (layC o) (o + 9) 6 6 (.ref (o + 18)) := fun T => ⟨fsC_9 o T, ov_at (by decide), rfl⟩
theorem zC_Wk_height (o : Nat) : q_scl (layC o) (o + 9) 6 7 187 := fun T => ⟨fsC_9 o T, ov_at (by decide), rfl, (Nat.le_of_ble_eq_true rfl), fun v => layC_put (by decide) rfl (by
    funext i
    unfold va_up
    by_cases hi : i = 9
    · subst hi; rw [if_pos rfl]; rfl
    · rw [if_neg hi]; unfold cC; split <;> first | rfl | exact absurd rfl hi)⟩
theorem zC_Wk_marks (o : Nat) : q_ref (layC o) (o + 9) 6 8 (.ref (o + 19)) := fun T => ⟨fsC_9 o T, ov_at (by decide), rfl⟩
theorem zC_Wk_foundMarks (o : Nat) : q_ref (layC o) (o + 9) 6 9 (.ref (o + 20)) := fun T => ⟨fsC_9 o T, ov_at (by decide), rfl⟩
theorem zC_Wk_begun (o : Nat) : q_scl (layC o) (o + 9) 6 10 190 := fun T => ⟨fsC_9 o T, ov_at (by decide), rfl, (Nat.le_of_ble_eq_true rfl), fun v => layC_put (by decide) rfl (by
    funext i
    unfold va_up
    by_cases hi : i = 9
    · subst hi; rw [if_pos rfl]; rfl
    · rw [if_neg hi]; unfold cC; split <;> first | rfl | exact absurd rfl hi)⟩
theorem zC_Wk_searching (o : Nat) : q_scl (layC o) (o + 9) 6 11 191 := fun T => ⟨fsC_9 o T, ov_at (by decide), rfl, (Nat.le_of_ble_eq_true rfl), fun v => layC_put (by decide) rfl (by
    funext i
    unfold va_up
    by_cases hi : i = 9
    · subst hi; rw [if_pos rfl]; rfl
    · rw [if_neg hi]; unfold cC; split <;> first | rfl | exact absurd rfl hi)⟩
theorem zC_Wk_found (o : Nat) : q_scl (layC o) (o + 9) 6 12 192 := fun T => ⟨fsC_9 o T, ov_at (by decide), rfl, (Nat.le_of_ble_eq_true rfl), fun v => layC_put (by decide) rfl (by
    funext i
    unfold va_up
    by_cases hi : i = 9
    · subst hi; rw [if_pos rfl]; rfl
    · rw [if_neg hi]; unfold cC; split <;> first | rfl | exact absurd rfl hi)⟩
theorem zC_Wk_cut (o : Nat) : q_scl (layC o) (o + 9) 6 13 193 := fun T => ⟨fsC_9 o T, ov_at (by decide), rfl, (Nat.le_of_ble_eq_true rfl), fun v => layC_put (by decide) rfl (by
    funext i
    unfold va_up
    by_cases hi : i = 9
    · subst hi; rw [if_pos rfl]; rfl
    · rw [if_neg hi]; unfold cC; split <;> first | rfl | exact absurd rfl hi)⟩
theorem zC_Wk_place (o : Nat) : q_scl (layC o) (o + 9) 6 14 194 := fun T => ⟨fsC_9 o T, ov_at (by decide), rfl, (Nat.le_of_ble_eq_true rfl), fun v => layC_put (by decide) rfl (by
    funext i
    unfold va_up
    by_cases hi : i = 9
    · subst hi; rw [if_pos rfl]; rfl
    · rw [if_neg hi]; unfold cC; split <;> first | rfl | exact absurd rfl hi)⟩
theorem obC_10 (o : Nat) : q_obj (layC o) (o + 10) 7 := fun T => ⟨fsC_10 o T, ov_at (by decide)⟩
theorem zC_Wy10_takes (o : Nat) : q_ref (layC o) (o + 10) 7 0 (.ref (o + 11)) := fun T => ⟨fsC_10 o T, ov_at (by decide), rfl⟩
theorem zC_Wy10_marks (o : Nat) : q_ref (layC o) (o + 10) 7 1 (.ref (o + 12)) := fun T => ⟨fsC_10 o T, ov_at (by decide), rfl⟩
theorem zC_Wy10_count (o : Nat) : q_scl (layC o) (o + 10) 7 2 202 := fun T => ⟨fsC_10 o T, ov_at (by decide), rfl, (Nat.le_of_ble_eq_true rfl), fun v => layC_put (by decide) rfl (by
    funext i
    unfold va_up
    by_cases hi : i = 10
    · subst hi; rw [if_pos rfl]; rfl
    · rw [if_neg hi]; unfold cC; split <;> first | rfl | exact absurd rfl hi)⟩
theorem obC_13 (o : Nat) : q_obj (layC o) (o + 13) 7 := fun T => ⟨fsC_13 o T, ov_at (by decide)⟩
theorem zC_Wy13_takes (o : Nat) : q_ref (layC o) (o + 13) 7 0 (.ref (o + 14)) := fun T => ⟨fsC_13 o T, ov_at (by decide), rfl⟩
theorem zC_Wy13_marks (o : Nat) : q_ref (layC o) (o + 13) 7 1 (.ref (o + 15)) := fun T => ⟨fsC_13 o T, ov_at (by decide), rfl⟩
theorem zC_Wy13_count (o : Nat) : q_scl (layC o) (o + 13) 7 2 262 := fun T => ⟨fsC_13 o T, ov_at (by decide), rfl, (Nat.le_of_ble_eq_true rfl), fun v => layC_put (by decide) rfl (by
    funext i
    unfold va_up
    by_cases hi : i = 13
    · subst hi; rw [if_pos rfl]; rfl
    · rw [if_neg hi]; unfold cC; split <;> first | rfl | exact absurd rfl hi)⟩
theorem rC_1 (o : Nat) : q_arr (layC o) (o + 1) 1 48 1 := fun T => ⟨ov_at (by decide), fun g => layC_put (by decide) rfl (by
    funext i
    unfold va_up
    by_cases hi : i = 1
    · subst hi; rw [if_pos rfl]; rfl
    · rw [if_neg hi]; unfold cC; split <;> first | rfl | (simp only [aU, va_up, if_neg hi]))⟩
theorem rC_6 (o : Nat) : q_arr (layC o) (o + 6) 0 160 6 := fun T => ⟨ov_at (by decide), fun g => layC_put (by decide) rfl (by
    funext i
    unfold va_up
    by_cases hi : i = 6
    · subst hi; rw [if_pos rfl]; rfl
    · rw [if_neg hi]; unfold cC; split <;> first | rfl | (simp only [aU, va_up, if_neg hi]))⟩
theorem rC_7 (o : Nat) : q_arr (layC o) (o + 7) 0 160 7 := fun T => ⟨ov_at (by decide), fun g => layC_put (by decide) rfl (by
    funext i
    unfold va_up
    by_cases hi : i = 7
    · subst hi; rw [if_pos rfl]; rfl
    · rw [if_neg hi]; unfold cC; split <;> first | rfl | (simp only [aU, va_up, if_neg hi]))⟩
theorem rC_8 (o : Nat) : q_arr (layC o) (o + 8) 0 160 8 := fun T => ⟨ov_at (by decide), fun g => layC_put (by decide) rfl (by
    funext i
    unfold va_up
    by_cases hi : i = 8
    · subst hi; rw [if_pos rfl]; rfl
    · rw [if_neg hi]; unfold cC; split <;> first | rfl | (simp only [aU, va_up, if_neg hi]))⟩
theorem rC_11 (o : Nat) : q_arr (layC o) (o + 11) 0 160 11 := fun T => ⟨ov_at (by decide), fun g => layC_put (by decide) rfl (by
    funext i
    unfold va_up
    by_cases hi : i = 11
    · subst hi; rw [if_pos rfl]; rfl
    · rw [if_neg hi]; unfold cC; split <;> first | rfl | (simp only [aU, va_up, if_neg hi]))⟩
theorem rC_12 (o : Nat) : q_arr (layC o) (o + 12) 0 2240 12 := fun T => ⟨ov_at (by decide), fun g => layC_put (by decide) rfl (by
    funext i
    unfold va_up
    by_cases hi : i = 12
    · subst hi; rw [if_pos rfl]; rfl
    · rw [if_neg hi]; unfold cC; split <;> first | rfl | (simp only [aU, va_up, if_neg hi]))⟩
theorem rC_14 (o : Nat) : q_arr (layC o) (o + 14) 0 160 14 := fun T => ⟨ov_at (by decide), fun g => layC_put (by decide) rfl (by
    funext i
    unfold va_up
    by_cases hi : i = 14
    · subst hi; rw [if_pos rfl]; rfl
    · rw [if_neg hi]; unfold cC; split <;> first | rfl | (simp only [aU, va_up, if_neg hi]))⟩
theorem rC_15 (o : Nat) : q_arr (layC o) (o + 15) 0 2240 15 := fun T => ⟨ov_at (by decide), fun g => layC_put (by decide) rfl (by
    funext i
    unfold va_up
    by_cases hi : i = 15
    · subst hi; rw [if_pos rfl]; rfl
    · rw [if_neg hi]; unfold cC; split <;> first | rfl | (simp only [aU, va_up, if_neg hi]))⟩
theorem rC_16 (o : Nat) : q_arr (layC o) (o + 16) 0 160 16 := fun T => ⟨ov_at (by decide), fun g => layC_put (by decide) rfl (by
    funext i
    unfold va_up
    by_cases hi : i = 16
    · subst hi; rw [if_pos rfl]; rfl
    · rw [if_neg hi]; unfold cC; split <;> first | rfl | (simp only [aU, va_up, if_neg hi]))⟩
theorem rC_17 (o : Nat) : q_arr (layC o) (o + 17) 0 321 17 := fun T => ⟨ov_at (by decide), fun g => layC_put (by decide) rfl (by
    funext i
    unfold va_up
    by_cases hi : i = 17
    · subst hi; rw [if_pos rfl]; rfl
    · rw [if_neg hi]; unfold cC; split <;> first | rfl | (simp only [aU, va_up, if_neg hi]))⟩
theorem rC_18 (o : Nat) : q_arr (layC o) (o + 18) 0 321 18 := fun T => ⟨ov_at (by decide), fun g => layC_put (by decide) rfl (by
    funext i
    unfold va_up
    by_cases hi : i = 18
    · subst hi; rw [if_pos rfl]; rfl
    · rw [if_neg hi]; unfold cC; split <;> first | rfl | (simp only [aU, va_up, if_neg hi]))⟩
theorem rC_19 (o : Nat) : q_arr (layC o) (o + 19) 0 14 19 := fun T => ⟨ov_at (by decide), fun g => layC_put (by decide) rfl (by
    funext i
    unfold va_up
    by_cases hi : i = 19
    · subst hi; rw [if_pos rfl]; rfl
    · rw [if_neg hi]; unfold cC; split <;> first | rfl | (simp only [aU, va_up, if_neg hi]))⟩
theorem rC_20 (o : Nat) : q_arr (layC o) (o + 20) 0 14 20 := fun T => ⟨ov_at (by decide), fun g => layC_put (by decide) rfl (by
    funext i
    unfold va_up
    by_cases hi : i = 20
    · subst hi; rw [if_pos rfl]; rfl
    · rw [if_neg hi]; unfold cC; split <;> first | rfl | (simp only [aU, va_up, if_neg hi]))⟩
theorem rC_3 (o : Nat) : q_lng (layC o) (o + 3) 192 := fun T => ⟨ov_at (by decide), fun g => layC_put (by decide) rfl (by
    funext i
    unfold va_up
    by_cases hi : i = 3
    · subst hi; rw [if_pos rfl]; rfl
    · rw [if_neg hi]; unfold cC; split <;> first | rfl | exact absurd rfl hi)⟩
end
