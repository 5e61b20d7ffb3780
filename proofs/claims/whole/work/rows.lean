section
-- ===== PART A: goes FIRST, ahead of the names: the tables' words, and 'selects' of the private methods out of them =====
/-- a private method of a class that the tables say can be made, by its rows of tables_1 -/
def lw_okq (q : MethodName × Nat) : Prop := (q.1.cls ≠ "java/lang/invoke/MethodHandle" ∧ q.1.cls ≠ "java/lang/invoke/VarHandle") ∧ Cond.instantiable q.1.cls q.2 ∈ tables_1 ∧ Cond.privateMethod q.1 ∈ tables_1 ∧ Cond.instanceMethod q.1 ∈ tables_1
theorem lw_p0 : lw_okq (⟨"PatternWalk$CharSets", "isOpen", "(I)Z"⟩, 2) := ⟨⟨by decide +kernel, by decide +kernel⟩, List.mem_of_getElem? (i := 27) (by decide +kernel), List.mem_of_getElem? (i := 235) (by decide +kernel), List.mem_of_getElem? (i := 236) (by decide +kernel)⟩
theorem lw_p1 : lw_okq (⟨"PatternWalk$Walk", "followFromStart", "()V"⟩, 15) := ⟨⟨by decide +kernel, by decide +kernel⟩, List.mem_of_getElem? (i := 94) (by decide +kernel), List.mem_of_getElem? (i := 264) (by decide +kernel), List.mem_of_getElem? (i := 265) (by decide +kernel)⟩
theorem lw_p2 : lw_okq (⟨"PatternWalk$Walk", "follow", "(I)V"⟩, 15) := ⟨⟨by decide +kernel, by decide +kernel⟩, List.mem_of_getElem? (i := 94) (by decide +kernel), List.mem_of_getElem? (i := 268) (by decide +kernel), List.mem_of_getElem? (i := 269) (by decide +kernel)⟩
theorem lw_p3 : lw_okq (⟨"PatternWalk$Walk", "push", "(II)V"⟩, 15) := ⟨⟨by decide +kernel, by decide +kernel⟩, List.mem_of_getElem? (i := 94) (by decide +kernel), List.mem_of_getElem? (i := 272) (by decide +kernel), List.mem_of_getElem? (i := 273) (by decide +kernel)⟩
theorem lw_p4 : lw_okq (⟨"PatternWalk$Walk", "visit", "(I)V"⟩, 15) := ⟨⟨by decide +kernel, by decide +kernel⟩, List.mem_of_getElem? (i := 94) (by decide +kernel), List.mem_of_getElem? (i := 276) (by decide +kernel), List.mem_of_getElem? (i := 277) (by decide +kernel)⟩
theorem lw_p5 : lw_okq (⟨"PatternWalk$Walk", "passMark", "(I)V"⟩, 15) := ⟨⟨by decide +kernel, by decide +kernel⟩, List.mem_of_getElem? (i := 94) (by decide +kernel), List.mem_of_getElem? (i := 288) (by decide +kernel), List.mem_of_getElem? (i := 289) (by decide +kernel)⟩
theorem lw_p6 : lw_okq (⟨"PatternWalk$Walk", "keepMatch", "()V"⟩, 15) := ⟨⟨by decide +kernel, by decide +kernel⟩, List.mem_of_getElem? (i := 94) (by decide +kernel), List.mem_of_getElem? (i := 292) (by decide +kernel), List.mem_of_getElem? (i := 293) (by decide +kernel)⟩
theorem lw_p7 : lw_okq (⟨"PatternWalk$Walk", "setMark", "(II)V"⟩, 15) := ⟨⟨by decide +kernel, by decide +kernel⟩, List.mem_of_getElem? (i := 94) (by decide +kernel), List.mem_of_getElem? (i := 296) (by decide +kernel), List.mem_of_getElem? (i := 297) (by decide +kernel)⟩
theorem lw_p8 : lw_okq (⟨"java/lang/Throwable", "fillInStackTrace", "(I)Ljava/lang/Throwable;"⟩, 6) := ⟨⟨by decide +kernel, by decide +kernel⟩, List.mem_of_getElem? (i := 394) (by decide +kernel), List.mem_of_getElem? (i := 392) (by decide +kernel), List.mem_of_getElem? (i := 393) (by decide +kernel)⟩
theorem lw_p9 : lw_okq (⟨"PatternWalk$Parser", "readChoice", "(I)LPatternWalk$Row;"⟩, 6) := ⟨⟨by decide +kernel, by decide +kernel⟩, List.mem_of_getElem? (i := 42) (by decide +kernel), List.mem_of_getElem? (i := 438) (by decide +kernel), List.mem_of_getElem? (i := 439) (by decide +kernel)⟩
theorem lw_p10 : lw_okq (⟨"PatternWalk$Parser", "peek", "()I"⟩, 6) := ⟨⟨by decide +kernel, by decide +kernel⟩, List.mem_of_getElem? (i := 42) (by decide +kernel), List.mem_of_getElem? (i := 465) (by decide +kernel), List.mem_of_getElem? (i := 466) (by decide +kernel)⟩
theorem lw_p11 : lw_okq (⟨"PatternWalk$Parser", "readRepeat", "(I)LPatternWalk$Repeat;"⟩, 6) := ⟨⟨by decide +kernel, by decide +kernel⟩, List.mem_of_getElem? (i := 42) (by decide +kernel), List.mem_of_getElem? (i := 469) (by decide +kernel), List.mem_of_getElem? (i := 470) (by decide +kernel)⟩
theorem lw_p12 : lw_okq (⟨"PatternWalk$Parser", "readGroup", "(LPatternWalk$Repeat;I)V"⟩, 6) := ⟨⟨by decide +kernel, by decide +kernel⟩, List.mem_of_getElem? (i := 42) (by decide +kernel), List.mem_of_getElem? (i := 530) (by decide +kernel), List.mem_of_getElem? (i := 531) (by decide +kernel)⟩
theorem lw_p13 : lw_okq (⟨"PatternWalk$Parser", "fail", "()V"⟩, 6) := ⟨⟨by decide +kernel, by decide +kernel⟩, List.mem_of_getElem? (i := 42) (by decide +kernel), List.mem_of_getElem? (i := 534) (by decide +kernel), List.mem_of_getElem? (i := 535) (by decide +kernel)⟩
theorem lw_p14 : lw_okq (⟨"PatternWalk$Parser", "expect", "(I)V"⟩, 6) := ⟨⟨by decide +kernel, by decide +kernel⟩, List.mem_of_getElem? (i := 42) (by decide +kernel), List.mem_of_getElem? (i := 538) (by decide +kernel), List.mem_of_getElem? (i := 539) (by decide +kernel)⟩
theorem lw_p15 : lw_okq (⟨"PatternWalk$Parser", "readCharacters", "(I)V"⟩, 6) := ⟨⟨by decide +kernel, by decide +kernel⟩, List.mem_of_getElem? (i := 42) (by decide +kernel), List.mem_of_getElem? (i := 551) (by decide +kernel), List.mem_of_getElem? (i := 552) (by decide +kernel)⟩
def lw_privs_1 : List (MethodName × Nat) := [(⟨"PatternWalk$CharSets", "isOpen", "(I)Z"⟩, 2), (⟨"PatternWalk$Walk", "followFromStart", "()V"⟩, 15), (⟨"PatternWalk$Walk", "follow", "(I)V"⟩, 15), (⟨"PatternWalk$Walk", "push", "(II)V"⟩, 15), (⟨"PatternWalk$Walk", "visit", "(I)V"⟩, 15), (⟨"PatternWalk$Walk", "passMark", "(I)V"⟩, 15), (⟨"PatternWalk$Walk", "keepMatch", "()V"⟩, 15), (⟨"PatternWalk$Walk", "setMark", "(II)V"⟩, 15), (⟨"java/lang/Throwable", "fillInStackTrace", "(I)Ljava/lang/Throwable;"⟩, 6), (⟨"PatternWalk$Parser", "readChoice", "(I)LPatternWalk$Row;"⟩, 6), (⟨"PatternWalk$Parser", "peek", "()I"⟩, 6), (⟨"PatternWalk$Parser", "readRepeat", "(I)LPatternWalk$Repeat;"⟩, 6), (⟨"PatternWalk$Parser", "readGroup", "(LPatternWalk$Repeat;I)V"⟩, 6), (⟨"PatternWalk$Parser", "fail", "()V"⟩, 6), (⟨"PatternWalk$Parser", "expect", "(I)V"⟩, 6), (⟨"PatternWalk$Parser", "readCharacters", "(I)V"⟩, 6)]
theorem lw_r1 : ∀ q ∈ lw_privs_1, lw_okq q := List.forall_mem_cons.mpr ⟨lw_p0, List.forall_mem_cons.mpr ⟨lw_p1, List.forall_mem_cons.mpr ⟨lw_p2, List.forall_mem_cons.mpr ⟨lw_p3, List.forall_mem_cons.mpr ⟨lw_p4, List.forall_mem_cons.mpr ⟨lw_p5, List.forall_mem_cons.mpr ⟨lw_p6, List.forall_mem_cons.mpr ⟨lw_p7, List.forall_mem_cons.mpr ⟨lw_p8, List.forall_mem_cons.mpr ⟨lw_p9, List.forall_mem_cons.mpr ⟨lw_p10, List.forall_mem_cons.mpr ⟨lw_p11, List.forall_mem_cons.mpr ⟨lw_p12, List.forall_mem_cons.mpr ⟨lw_p13, List.forall_mem_cons.mpr ⟨lw_p14, List.forall_mem_cons.mpr ⟨lw_p15, fun _ h => absurd h List.not_mem_nil⟩⟩⟩⟩⟩⟩⟩⟩⟩⟩⟩⟩⟩⟩⟩⟩
theorem lw_p16 : lw_okq (⟨"PatternWalk$Parser", "readSet", "(I)V"⟩, 6) := ⟨⟨by decide +kernel, by decide +kernel⟩, List.mem_of_getElem? (i := 42) (by decide +kernel), List.mem_of_getElem? (i := 555) (by decide +kernel), List.mem_of_getElem? (i := 556) (by decide +kernel)⟩
theorem lw_p17 : lw_okq (⟨"PatternWalk$Parser", "readItem", "(I)V"⟩, 6) := ⟨⟨by decide +kernel, by decide +kernel⟩, List.mem_of_getElem? (i := 42) (by decide +kernel), List.mem_of_getElem? (i := 559) (by decide +kernel), List.mem_of_getElem? (i := 560) (by decide +kernel)⟩
theorem lw_p18 : lw_okq (⟨"PatternWalk$Parser", "readEscaped", "(I)V"⟩, 6) := ⟨⟨by decide +kernel, by decide +kernel⟩, List.mem_of_getElem? (i := 42) (by decide +kernel), List.mem_of_getElem? (i := 563) (by decide +kernel), List.mem_of_getElem? (i := 564) (by decide +kernel)⟩
theorem lw_p19 : lw_okq (⟨"PatternWalk$Parser", "readCount", "(LPatternWalk$Repeat;)V"⟩, 6) := ⟨⟨by decide +kernel, by decide +kernel⟩, List.mem_of_getElem? (i := 42) (by decide +kernel), List.mem_of_getElem? (i := 585) (by decide +kernel), List.mem_of_getElem? (i := 586) (by decide +kernel)⟩
theorem lw_p20 : lw_okq (⟨"PatternWalk$Parser", "readBraces", "(LPatternWalk$Repeat;)V"⟩, 6) := ⟨⟨by decide +kernel, by decide +kernel⟩, List.mem_of_getElem? (i := 42) (by decide +kernel), List.mem_of_getElem? (i := 589) (by decide +kernel), List.mem_of_getElem? (i := 590) (by decide +kernel)⟩
theorem lw_p21 : lw_okq (⟨"PatternWalk$Parser", "readMost", "(LPatternWalk$Repeat;)V"⟩, 6) := ⟨⟨by decide +kernel, by decide +kernel⟩, List.mem_of_getElem? (i := 42) (by decide +kernel), List.mem_of_getElem? (i := 596) (by decide +kernel), List.mem_of_getElem? (i := 597) (by decide +kernel)⟩
theorem lw_p22 : lw_okq (⟨"PatternWalk$Program", "add", "(III)V"⟩, 5) := ⟨⟨by decide +kernel, by decide +kernel⟩, List.mem_of_getElem? (i := 69) (by decide +kernel), List.mem_of_getElem? (i := 631) (by decide +kernel), List.mem_of_getElem? (i := 632) (by decide +kernel)⟩
theorem lw_p23 : lw_okq (⟨"PatternWalk$Program", "writeChoice", "(LPatternWalk$Row;I)V"⟩, 5) := ⟨⟨by decide +kernel, by decide +kernel⟩, List.mem_of_getElem? (i := 69) (by decide +kernel), List.mem_of_getElem? (i := 635) (by decide +kernel), List.mem_of_getElem? (i := 636) (by decide +kernel)⟩
theorem lw_p24 : lw_okq (⟨"PatternWalk$Program", "writeRepeat", "(LPatternWalk$Repeat;I)V"⟩, 5) := ⟨⟨by decide +kernel, by decide +kernel⟩, List.mem_of_getElem? (i := 69) (by decide +kernel), List.mem_of_getElem? (i := 640) (by decide +kernel), List.mem_of_getElem? (i := 641) (by decide +kernel)⟩
theorem lw_p25 : lw_okq (⟨"PatternWalk$Program", "writeAtom", "(LPatternWalk$Repeat;I)V"⟩, 5) := ⟨⟨by decide +kernel, by decide +kernel⟩, List.mem_of_getElem? (i := 69) (by decide +kernel), List.mem_of_getElem? (i := 644) (by decide +kernel), List.mem_of_getElem? (i := 645) (by decide +kernel)⟩
theorem lw_p26 : lw_okq (⟨"PatternWalk$Program", "addSplit", "(IIZ)V"⟩, 5) := ⟨⟨by decide +kernel, by decide +kernel⟩, List.mem_of_getElem? (i := 69) (by decide +kernel), List.mem_of_getElem? (i := 648) (by decide +kernel), List.mem_of_getElem? (i := 649) (by decide +kernel)⟩
theorem lw_p27 : lw_okq (⟨"PatternWalkModel", "read", "()Z"⟩, 45) := ⟨⟨by decide +kernel, by decide +kernel⟩, List.mem_of_getElem? (i := 652) (by decide +kernel), List.mem_of_getElem? (i := 807) (by decide +kernel), List.mem_of_getElem? (i := 808) (by decide +kernel)⟩
theorem lw_p28 : lw_okq (⟨"PatternWalkModel", "node", "(II)I"⟩, 45) := ⟨⟨by decide +kernel, by decide +kernel⟩, List.mem_of_getElem? (i := 652) (by decide +kernel), List.mem_of_getElem? (i := 811) (by decide +kernel), List.mem_of_getElem? (i := 812) (by decide +kernel)⟩
theorem lw_p29 : lw_okq (⟨"PatternWalkModel", "here", "(I)C"⟩, 45) := ⟨⟨by decide +kernel, by decide +kernel⟩, List.mem_of_getElem? (i := 652) (by decide +kernel), List.mem_of_getElem? (i := 815) (by decide +kernel), List.mem_of_getElem? (i := 816) (by decide +kernel)⟩
theorem lw_p30 : lw_okq (⟨"PatternWalkModel", "open", "(I)Z"⟩, 45) := ⟨⟨by decide +kernel, by decide +kernel⟩, List.mem_of_getElem? (i := 652) (by decide +kernel), List.mem_of_getElem? (i := 819) (by decide +kernel), List.mem_of_getElem? (i := 820) (by decide +kernel)⟩
theorem lw_p31 : lw_okq (⟨"PatternWalkModel", "readCount", "(I)Z"⟩, 45) := ⟨⟨by decide +kernel, by decide +kernel⟩, List.mem_of_getElem? (i := 652) (by decide +kernel), List.mem_of_getElem? (i := 823) (by decide +kernel), List.mem_of_getElem? (i := 824) (by decide +kernel)⟩
def lw_privs_2 : List (MethodName × Nat) := [(⟨"PatternWalk$Parser", "readSet", "(I)V"⟩, 6), (⟨"PatternWalk$Parser", "readItem", "(I)V"⟩, 6), (⟨"PatternWalk$Parser", "readEscaped", "(I)V"⟩, 6), (⟨"PatternWalk$Parser", "readCount", "(LPatternWalk$Repeat;)V"⟩, 6), (⟨"PatternWalk$Parser", "readBraces", "(LPatternWalk$Repeat;)V"⟩, 6), (⟨"PatternWalk$Parser", "readMost", "(LPatternWalk$Repeat;)V"⟩, 6), (⟨"PatternWalk$Program", "add", "(III)V"⟩, 5), (⟨"PatternWalk$Program", "writeChoice", "(LPatternWalk$Row;I)V"⟩, 5), (⟨"PatternWalk$Program", "writeRepeat", "(LPatternWalk$Repeat;I)V"⟩, 5), (⟨"PatternWalk$Program", "writeAtom", "(LPatternWalk$Repeat;I)V"⟩, 5), (⟨"PatternWalk$Program", "addSplit", "(IIZ)V"⟩, 5), (⟨"PatternWalkModel", "read", "()Z"⟩, 45), (⟨"PatternWalkModel", "node", "(II)I"⟩, 45), (⟨"PatternWalkModel", "here", "(I)C"⟩, 45), (⟨"PatternWalkModel", "open", "(I)Z"⟩, 45), (⟨"PatternWalkModel", "readCount", "(I)Z"⟩, 45)]
theorem lw_r2 : ∀ q ∈ lw_privs_2, lw_okq q := List.forall_mem_cons.mpr ⟨lw_p16, List.forall_mem_cons.mpr ⟨lw_p17, List.forall_mem_cons.mpr ⟨lw_p18, List.forall_mem_cons.mpr ⟨lw_p19, List.forall_mem_cons.mpr ⟨lw_p20, List.forall_mem_cons.mpr ⟨lw_p21, List.forall_mem_cons.mpr ⟨lw_p22, List.forall_mem_cons.mpr ⟨lw_p23, List.forall_mem_cons.mpr ⟨lw_p24, List.forall_mem_cons.mpr ⟨lw_p25, List.forall_mem_cons.mpr ⟨lw_p26, List.forall_mem_cons.mpr ⟨lw_p27, List.forall_mem_cons.mpr ⟨lw_p28, List.forall_mem_cons.mpr ⟨lw_p29, List.forall_mem_cons.mpr ⟨lw_p30, List.forall_mem_cons.mpr ⟨lw_p31, fun _ h => absurd h List.not_mem_nil⟩⟩⟩⟩⟩⟩⟩⟩⟩⟩⟩⟩⟩⟩⟩⟩
theorem lw_p32 : lw_okq (⟨"PatternWalkModel", "readBraces", "(I)Z"⟩, 45) := ⟨⟨by decide +kernel, by decide +kernel⟩, List.mem_of_getElem? (i := 652) (by decide +kernel), List.mem_of_getElem? (i := 827) (by decide +kernel), List.mem_of_getElem? (i := 828) (by decide +kernel)⟩
theorem lw_p33 : lw_okq (⟨"PatternWalkModel", "readSign", "(I)Z"⟩, 45) := ⟨⟨by decide +kernel, by decide +kernel⟩, List.mem_of_getElem? (i := 652) (by decide +kernel), List.mem_of_getElem? (i := 834) (by decide +kernel), List.mem_of_getElem? (i := 835) (by decide +kernel)⟩
theorem lw_p34 : lw_okq (⟨"PatternWalkModel", "newSet", "()I"⟩, 45) := ⟨⟨by decide +kernel, by decide +kernel⟩, List.mem_of_getElem? (i := 652) (by decide +kernel), List.mem_of_getElem? (i := 841) (by decide +kernel), List.mem_of_getElem? (i := 842) (by decide +kernel)⟩
theorem lw_p35 : lw_okq (⟨"PatternWalkModel", "readSet", "(I)Z"⟩, 45) := ⟨⟨by decide +kernel, by decide +kernel⟩, List.mem_of_getElem? (i := 652) (by decide +kernel), List.mem_of_getElem? (i := 845) (by decide +kernel), List.mem_of_getElem? (i := 846) (by decide +kernel)⟩
theorem lw_p36 : lw_okq (⟨"PatternWalkModel", "includeSpecial", "(IC)V"⟩, 45) := ⟨⟨by decide +kernel, by decide +kernel⟩, List.mem_of_getElem? (i := 652) (by decide +kernel), List.mem_of_getElem? (i := 849) (by decide +kernel), List.mem_of_getElem? (i := 850) (by decide +kernel)⟩
theorem lw_p37 : lw_okq (⟨"PatternWalkModel", "include", "(III)V"⟩, 45) := ⟨⟨by decide +kernel, by decide +kernel⟩, List.mem_of_getElem? (i := 652) (by decide +kernel), List.mem_of_getElem? (i := 853) (by decide +kernel), List.mem_of_getElem? (i := 854) (by decide +kernel)⟩
theorem lw_p38 : lw_okq (⟨"PatternWalkModel", "widthOf", "(I)I"⟩, 45) := ⟨⟨by decide +kernel, by decide +kernel⟩, List.mem_of_getElem? (i := 652) (by decide +kernel), List.mem_of_getElem? (i := 860) (by decide +kernel), List.mem_of_getElem? (i := 861) (by decide +kernel)⟩
theorem lw_p39 : lw_okq (⟨"PatternWalkModel", "put", "(IIII)V"⟩, 45) := ⟨⟨by decide +kernel, by decide +kernel⟩, List.mem_of_getElem? (i := 652) (by decide +kernel), List.mem_of_getElem? (i := 866) (by decide +kernel), List.mem_of_getElem? (i := 867) (by decide +kernel)⟩
theorem lw_p40 : lw_okq (⟨"PatternWalkModel", "later", "(II)V"⟩, 45) := ⟨⟨by decide +kernel, by decide +kernel⟩, List.mem_of_getElem? (i := 652) (by decide +kernel), List.mem_of_getElem? (i := 870) (by decide +kernel), List.mem_of_getElem? (i := 871) (by decide +kernel)⟩
theorem lw_p41 : lw_okq (⟨"PatternWalkModel", "writeNode", "(II)V"⟩, 45) := ⟨⟨by decide +kernel, by decide +kernel⟩, List.mem_of_getElem? (i := 652) (by decide +kernel), List.mem_of_getElem? (i := 874) (by decide +kernel), List.mem_of_getElem? (i := 875) (by decide +kernel)⟩
theorem lw_p42 : lw_okq (⟨"PatternWalkModel", "writeChoice", "(II)V"⟩, 45) := ⟨⟨by decide +kernel, by decide +kernel⟩, List.mem_of_getElem? (i := 652) (by decide +kernel), List.mem_of_getElem? (i := 878) (by decide +kernel), List.mem_of_getElem? (i := 879) (by decide +kernel)⟩
theorem lw_p43 : lw_okq (⟨"PatternWalkModel", "writeRepeat", "(II)V"⟩, 45) := ⟨⟨by decide +kernel, by decide +kernel⟩, List.mem_of_getElem? (i := 652) (by decide +kernel), List.mem_of_getElem? (i := 882) (by decide +kernel), List.mem_of_getElem? (i := 883) (by decide +kernel)⟩
theorem lw_p44 : lw_okq (⟨"PatternWalkModel", "split", "(IIIZ)V"⟩, 45) := ⟨⟨by decide +kernel, by decide +kernel⟩, List.mem_of_getElem? (i := 652) (by decide +kernel), List.mem_of_getElem? (i := 886) (by decide +kernel), List.mem_of_getElem? (i := 887) (by decide +kernel)⟩
theorem lw_p45 : lw_okq (⟨"PatternWalkModel", "many", "(I)I"⟩, 45) := ⟨⟨by decide +kernel, by decide +kernel⟩, List.mem_of_getElem? (i := 652) (by decide +kernel), List.mem_of_getElem? (i := 902) (by decide +kernel), List.mem_of_getElem? (i := 903) (by decide +kernel)⟩
theorem lw_p46 : lw_okq (⟨"PatternWalkModel", "has", "(II)Z"⟩, 45) := ⟨⟨by decide +kernel, by decide +kernel⟩, List.mem_of_getElem? (i := 652) (by decide +kernel), List.mem_of_getElem? (i := 906) (by decide +kernel), List.mem_of_getElem? (i := 907) (by decide +kernel)⟩
theorem lw_p47 : lw_okq (⟨"PatternWalkModel", "work", "()V"⟩, 45) := ⟨⟨by decide +kernel, by decide +kernel⟩, List.mem_of_getElem? (i := 652) (by decide +kernel), List.mem_of_getElem? (i := 926) (by decide +kernel), List.mem_of_getElem? (i := 927) (by decide +kernel)⟩
def lw_privs_3 : List (MethodName × Nat) := [(⟨"PatternWalkModel", "readBraces", "(I)Z"⟩, 45), (⟨"PatternWalkModel", "readSign", "(I)Z"⟩, 45), (⟨"PatternWalkModel", "newSet", "()I"⟩, 45), (⟨"PatternWalkModel", "readSet", "(I)Z"⟩, 45), (⟨"PatternWalkModel", "includeSpecial", "(IC)V"⟩, 45), (⟨"PatternWalkModel", "include", "(III)V"⟩, 45), (⟨"PatternWalkModel", "widthOf", "(I)I"⟩, 45), (⟨"PatternWalkModel", "put", "(IIII)V"⟩, 45), (⟨"PatternWalkModel", "later", "(II)V"⟩, 45), (⟨"PatternWalkModel", "writeNode", "(II)V"⟩, 45), (⟨"PatternWalkModel", "writeChoice", "(II)V"⟩, 45), (⟨"PatternWalkModel", "writeRepeat", "(II)V"⟩, 45), (⟨"PatternWalkModel", "split", "(IIIZ)V"⟩, 45), (⟨"PatternWalkModel", "many", "(I)I"⟩, 45), (⟨"PatternWalkModel", "has", "(II)Z"⟩, 45), (⟨"PatternWalkModel", "work", "()V"⟩, 45)]
theorem lw_r3 : ∀ q ∈ lw_privs_3, lw_okq q := List.forall_mem_cons.mpr ⟨lw_p32, List.forall_mem_cons.mpr ⟨lw_p33, List.forall_mem_cons.mpr ⟨lw_p34, List.forall_mem_cons.mpr ⟨lw_p35, List.forall_mem_cons.mpr ⟨lw_p36, List.forall_mem_cons.mpr ⟨lw_p37, List.forall_mem_cons.mpr ⟨lw_p38, List.forall_mem_cons.mpr ⟨lw_p39, List.forall_mem_cons.mpr ⟨lw_p40, List.forall_mem_cons.mpr ⟨lw_p41, List.forall_mem_cons.mpr ⟨lw_p42, List.forall_mem_cons.mpr ⟨lw_p43, List.forall_mem_cons.mpr ⟨lw_p44, List.forall_mem_cons.mpr ⟨lw_p45, List.forall_mem_cons.mpr ⟨lw_p46, List.forall_mem_cons.mpr ⟨lw_p47, fun _ h => absurd h List.not_mem_nil⟩⟩⟩⟩⟩⟩⟩⟩⟩⟩⟩⟩⟩⟩⟩⟩
theorem lw_p48 : lw_okq (⟨"PatternWalkModel", "fill", "()V"⟩, 45) := ⟨⟨by decide +kernel, by decide +kernel⟩, List.mem_of_getElem? (i := 652) (by decide +kernel), List.mem_of_getElem? (i := 930) (by decide +kernel), List.mem_of_getElem? (i := 931) (by decide +kernel)⟩
theorem lw_p49 : lw_okq (⟨"PatternWalkModel", "reaches", "(II)Z"⟩, 45) := ⟨⟨by decide +kernel, by decide +kernel⟩, List.mem_of_getElem? (i := 652) (by decide +kernel), List.mem_of_getElem? (i := 934) (by decide +kernel), List.mem_of_getElem? (i := 935) (by decide +kernel)⟩
theorem lw_p50 : lw_okq (⟨"PatternWalkModel", "may", "(II)Z"⟩, 45) := ⟨⟨by decide +kernel, by decide +kernel⟩, List.mem_of_getElem? (i := 652) (by decide +kernel), List.mem_of_getElem? (i := 938) (by decide +kernel), List.mem_of_getElem? (i := 939) (by decide +kernel)⟩
theorem lw_p51 : lw_okq (⟨"PatternWalkModel", "takes", "(II)Z"⟩, 45) := ⟨⟨by decide +kernel, by decide +kernel⟩, List.mem_of_getElem? (i := 652) (by decide +kernel), List.mem_of_getElem? (i := 942) (by decide +kernel), List.mem_of_getElem? (i := 943) (by decide +kernel)⟩
theorem lw_p52 : lw_okq (⟨"PatternWalkModel", "isMatch", "(I)Z"⟩, 45) := ⟨⟨by decide +kernel, by decide +kernel⟩, List.mem_of_getElem? (i := 652) (by decide +kernel), List.mem_of_getElem? (i := 946) (by decide +kernel), List.mem_of_getElem? (i := 947) (by decide +kernel)⟩
theorem lw_p53 : lw_okq (⟨"PatternWalkModel", "spread", "([ZI)V"⟩, 45) := ⟨⟨by decide +kernel, by decide +kernel⟩, List.mem_of_getElem? (i := 652) (by decide +kernel), List.mem_of_getElem? (i := 950) (by decide +kernel), List.mem_of_getElem? (i := 951) (by decide +kernel)⟩
theorem lw_p54 : lw_okq (⟨"PatternWalkModel", "choose", "(II)I"⟩, 45) := ⟨⟨by decide +kernel, by decide +kernel⟩, List.mem_of_getElem? (i := 652) (by decide +kernel), List.mem_of_getElem? (i := 954) (by decide +kernel), List.mem_of_getElem? (i := 955) (by decide +kernel)⟩
theorem lw_p55 : lw_okq (⟨"PatternWalkModel", "setMarks", "(II)V"⟩, 45) := ⟨⟨by decide +kernel, by decide +kernel⟩, List.mem_of_getElem? (i := 652) (by decide +kernel), List.mem_of_getElem? (i := 958) (by decide +kernel), List.mem_of_getElem? (i := 959) (by decide +kernel)⟩
theorem lw_p56 : lw_okq (⟨"PatternWalkModel", "step", "(I)V"⟩, 45) := ⟨⟨by decide +kernel, by decide +kernel⟩, List.mem_of_getElem? (i := 652) (by decide +kernel), List.mem_of_getElem? (i := 962) (by decide +kernel), List.mem_of_getElem? (i := 963) (by decide +kernel)⟩
def lw_privs_4 : List (MethodName × Nat) := [(⟨"PatternWalkModel", "fill", "()V"⟩, 45), (⟨"PatternWalkModel", "reaches", "(II)Z"⟩, 45), (⟨"PatternWalkModel", "may", "(II)Z"⟩, 45), (⟨"PatternWalkModel", "takes", "(II)Z"⟩, 45), (⟨"PatternWalkModel", "isMatch", "(I)Z"⟩, 45), (⟨"PatternWalkModel", "spread", "([ZI)V"⟩, 45), (⟨"PatternWalkModel", "choose", "(II)I"⟩, 45), (⟨"PatternWalkModel", "setMarks", "(II)V"⟩, 45), (⟨"PatternWalkModel", "step", "(I)V"⟩, 45)]
theorem lw_r4 : ∀ q ∈ lw_privs_4, lw_okq q := List.forall_mem_cons.mpr ⟨lw_p48, List.forall_mem_cons.mpr ⟨lw_p49, List.forall_mem_cons.mpr ⟨lw_p50, List.forall_mem_cons.mpr ⟨lw_p51, List.forall_mem_cons.mpr ⟨lw_p52, List.forall_mem_cons.mpr ⟨lw_p53, List.forall_mem_cons.mpr ⟨lw_p54, List.forall_mem_cons.mpr ⟨lw_p55, List.forall_mem_cons.mpr ⟨lw_p56, fun _ h => absurd h List.not_mem_nil⟩⟩⟩⟩⟩⟩⟩⟩⟩
def lw_privs : List (MethodName × Nat) := lw_privs_1 ++ (lw_privs_2 ++ (lw_privs_3 ++ (lw_privs_4)))
def lw_tbl : List Cond := k2_sels lw_privs ++ tables_1
theorem lw_privs_ok : ∀ q ∈ lw_privs, lw_okq q := by
  show ∀ q ∈ lw_privs_1 ++ (lw_privs_2 ++ (lw_privs_3 ++ (lw_privs_4))), lw_okq q
  exact List.forall_mem_append.mpr ⟨lw_r1, List.forall_mem_append.mpr ⟨lw_r2, List.forall_mem_append.mpr ⟨lw_r3, lw_r4⟩⟩⟩
/-- the tables' words that stay true from call to call -/
def q_Ts : List Cond := lw_tbl.filter goodWord
theorem q_in (i : Nat) {w : Cond} (h : lw_tbl[i]? = some w) (hg : goodWord w = true) : w ∈ q_Ts := List.mem_filter.mpr ⟨List.mem_of_getElem? h, hg⟩
theorem q_Ts_good : GoodIn q_Ts q_Ts := fun w hw => ⟨hw, good_of_word (List.mem_filter.mp hw).2⟩
theorem q_Ts_tbl : ∀ w ∈ q_Ts, w ∈ lw_tbl := fun w hw => (List.mem_filter.mp hw).1
end
section
/-! THE SMALL MACHINE: an interpreter of the bytecode over an abstract heap (cells by address, next address, cells made, slots made). What it answers, the machine does (part 12). -/
abbrev qE : Type := (Nat × vp_A) ⊕ (Nat × List Value)
abbrev qH : Type := (Nat → Option qE) × Nat × Nat × Nat
abbrev qL : Type := List (Option Value)
abbrev qS : Type := Nat × qL × List Value × qH
abbrev qO : Type := (Option Value ⊕ Nat) × qH
abbrev qN : Type := Option (qS ⊕ qO)
/-- kinds of arrays, by number -/
def q_kill (lo : qL) : Nat → qL
  | 0 => lo
  | j + 1 => match lo.getD j none with
    | some v => if v.category = 2 then lo.set j none else lo
    | none => lo
def q_st1 (lo : qL) (i : Nat) (v : Value) : qL := (q_kill lo i).set i (some v)
def q_st2 (lo : qL) (i : Nat) (v : Value) : qL := ((q_kill lo i).set i (some v)).set (i + 1) none
def q_up (h : Nat → Option qE) (a : Nat) (e : qE) : Nat → Option qE := fun b => if b = a then some e else h b
def q_go (pc : Nat) (lo : qL) (st : List Value) (σ : qH) : qN := some (.inl (pc, lo, st, σ))
def q_tg (pc : Nat) (off : Int) : Nat := ((pc : Int) + off).toNat
def q_br (P : Prop) [Decidable P] (pc : Nat) (off : Int) (lo : qL) (st : List Value) (σ : qH) : qN :=
  if (pc : Int) + off = (q_tg pc off : Int) then some (.inl (if P then q_tg pc off else pc + 3, lo, st, σ)) else none
def q_push (v : Value) (n pc : Nat) (lo : qL) (st : List Value) (σ : qH) : qN := q_go (pc + n) lo (v :: st) σ
def q_iload (i n pc : Nat) (lo : qL) (st : List Value) (σ : qH) : qN := match lo.getD i none with
  | some (.int x) => q_go (pc + n) lo (.int x :: st) σ
  | _ => none
def q_lload (i n pc : Nat) (lo : qL) (st : List Value) (σ : qH) : qN := match lo.getD i none with
  | some (.long x) => q_go (pc + n) lo (.long x :: st) σ
  | _ => none
def q_aload (i n pc : Nat) (lo : qL) (st : List Value) (σ : qH) : qN := match lo.getD i none with
  | some (.ref x) => q_go (pc + n) lo (.ref x :: st) σ
  | some .null => q_go (pc + n) lo (.null :: st) σ
  | _ => none
def q_istore (i n pc : Nat) (lo : qL) (st : List Value) (σ : qH) : qN := match st with
  | .int x :: r => if i < lo.length then q_go (pc + n) (q_st1 lo i (.int x)) r σ else none
  | _ => none
def q_lstore (i n pc : Nat) (lo : qL) (st : List Value) (σ : qH) : qN := match st with
  | .long x :: r => if i + 1 < lo.length then q_go (pc + n) (q_st2 lo i (.long x)) r σ else none
  | _ => none
def q_astore (i n pc : Nat) (lo : qL) (st : List Value) (σ : qH) : qN := match st with
  | .ref x :: r => if i < lo.length then q_go (pc + n) (q_st1 lo i (.ref x)) r σ else none
  | .null :: r => if i < lo.length then q_go (pc + n) (q_st1 lo i .null) r σ else none
  | _ => none
def q_iinc (i : Nat) (k : Int) (n pc : Nat) (lo : qL) (st : List Value) (σ : qH) : qN := match lo.getD i none with
  | some (.int x) => if i < lo.length then q_go (pc + n) (q_st1 lo i (.int (x + Int32.ofInt k))) st σ else none
  | _ => none
def q_i1 (f : Int32 → Value) (pc : Nat) (lo : qL) (st : List Value) (σ : qH) : qN := match st with
  | .int x :: r => q_go (pc + 1) lo (f x :: r) σ
  | _ => none
def q_l1 (f : Int64 → Value) (pc : Nat) (lo : qL) (st : List Value) (σ : qH) : qN := match st with
  | .long x :: r => q_go (pc + 1) lo (f x :: r) σ
  | _ => none
def q_i2 (f : Int32 → Int32 → Int32) (pc : Nat) (lo : qL) (st : List Value) (σ : qH) : qN := match st with
  | .int y :: .int x :: r => q_go (pc + 1) lo (.int (f x y) :: r) σ
  | _ => none
def q_d2 (f : Int32 → Int32 → Int32) (pc : Nat) (lo : qL) (st : List Value) (σ : qH) : qN := match st with
  | .int y :: .int x :: r => if y = 0 then none else q_go (pc + 1) lo (.int (f x y) :: r) σ
  | _ => none
def q_l2 (f : Int64 → Int64 → Value) (pc : Nat) (lo : qL) (st : List Value) (σ : qH) : qN := match st with
  | .long y :: .long x :: r => q_go (pc + 1) lo (f x y :: r) σ
  | _ => none
def q_ls (f : Int64 → Int32 → Int64) (pc : Nat) (lo : qL) (st : List Value) (σ : qH) : qN := match st with
  | .int y :: .long x :: r => q_go (pc + 1) lo (.long (f x y) :: r) σ
  | _ => none
def q_dup (pc : Nat) (lo : qL) (st : List Value) (σ : qH) : qN := match st with
  | a :: r => if a.category = 1 then q_go (pc + 1) lo (a :: a :: r) σ else none
  | _ => none
def q_pop (pc : Nat) (lo : qL) (st : List Value) (σ : qH) : qN := match st with
  | a :: r => if a.category = 1 then q_go (pc + 1) lo r σ else none
  | _ => none
def q_pop2 (pc : Nat) (lo : qL) (st : List Value) (σ : qH) : qN := match st with
  | .long _ :: r => q_go (pc + 1) lo r σ
  | _ => none
def q_dupx1 (pc : Nat) (lo : qL) (st : List Value) (σ : qH) : qN := match st with
  | a :: b :: r => if a.category = 1 ∧ b.category = 1 then q_go (pc + 1) lo (a :: b :: a :: r) σ else none
  | _ => none
def q_dupx2 (pc : Nat) (lo : qL) (st : List Value) (σ : qH) : qN := match st with
  | a :: b :: d :: r => if a.category = 1 ∧ b.category = 1 ∧ d.category = 1 then q_go (pc + 1) lo (a :: b :: d :: a :: r) σ else none
  | _ => none
def q_dup2 (pc : Nat) (lo : qL) (st : List Value) (σ : qH) : qN := match st with
  | .long a :: r => q_go (pc + 1) lo (.long a :: .long a :: r) σ
  | a :: b :: r => if a.category = 1 ∧ b.category = 1 then q_go (pc + 1) lo (a :: b :: a :: b :: r) σ else none
  | _ => none
def q_dup2x1 (pc : Nat) (lo : qL) (st : List Value) (σ : qH) : qN := match st with
  | .long a :: b :: r => if b.category = 1 then q_go (pc + 1) lo (.long a :: b :: .long a :: r) σ else none
  | _ => none
def q_if (cd : ClassFile.Cond) (off : Int) (pc : Nat) (lo : qL) (st : List Value) (σ : qH) : qN := match st with
  | .int x :: r => match cd with
    | .eq => q_br (x = 0) pc off lo r σ
    | .ne => q_br (¬ x = 0) pc off lo r σ
    | .lt => q_br (x < 0) pc off lo r σ
    | .ge => q_br (0 ≤ x) pc off lo r σ
    | .gt => q_br (0 < x) pc off lo r σ
    | .le => q_br (x ≤ 0) pc off lo r σ
  | _ => none
def q_icmp (cd : ClassFile.Cond) (off : Int) (pc : Nat) (lo : qL) (st : List Value) (σ : qH) : qN := match st with
  | .int y :: .int x :: r => match cd with
    | .eq => q_br (x = y) pc off lo r σ
    | .ne => q_br (¬ x = y) pc off lo r σ
    | .lt => q_br (x < y) pc off lo r σ
    | .ge => q_br (y ≤ x) pc off lo r σ
    | .gt => q_br (y < x) pc off lo r σ
    | .le => q_br (x ≤ y) pc off lo r σ
  | _ => none
def q_ifnull (off : Int) (pc : Nat) (lo : qL) (st : List Value) (σ : qH) : qN := match st with
  | .null :: r => if (pc : Int) + off = (q_tg pc off : Int) then q_go (q_tg pc off) lo r σ else none
  | .ref _ :: r => q_go (pc + 3) lo r σ
  | _ => none
def q_ifnonnull (off : Int) (pc : Nat) (lo : qL) (st : List Value) (σ : qH) : qN := match st with
  | .ref _ :: r => if (pc : Int) + off = (q_tg pc off : Int) then q_go (q_tg pc off) lo r σ else none
  | .null :: r => q_go (pc + 3) lo r σ
  | _ => none
def q_goto (off : Int) (pc : Nat) (lo : qL) (st : List Value) (σ : qH) : qN :=
  if (pc : Int) + off = (q_tg pc off : Int) then q_go (q_tg pc off) lo st σ else none
def q_lookup (dflt : Int) (ps : Array (Int × Int)) (pc : Nat) (lo : qL) (st : List Value) (σ : qH) : qN := match st with
  | .int x :: r => if (ps.toList.zip (ps.toList.drop 1)).all (fun (a, next) => a.1 < next.1) = true ∧ (pc : Int) + Op.lookupswitch.offset ps.toList dflt x.toInt = (q_tg pc (Op.lookupswitch.offset ps.toList dflt x.toInt) : Int)
      then q_go (q_tg pc (Op.lookupswitch.offset ps.toList dflt x.toInt)) lo r σ else none
  | _ => none
def q_toff (dflt low high : Int) (offs : Array Int) (x : Int) : Option Int := if x < low ∨ high < x then some dflt else offs[(x - low).toNat]?
def q_table (dflt low high : Int) (offs : Array Int) (pc : Nat) (lo : qL) (st : List Value) (σ : qH) : qN := match st with
  | .int x :: r => match q_toff dflt low high offs x.toInt with
    | some off => if (pc : Int) + off = (q_tg pc off : Int) then q_go (q_tg pc off) lo r σ else none
    | none => none
  | _ => none
def q_getf (f : Option (Nat × Nat × FieldType × Nat)) (pc : Nat) (lo : qL) (st : List Value) (σ : qH) : qN := match f, st with
  | some (ci, k, _, _), .ref a :: r => match σ.1 a with
    | some (.inr (cj, fs)) => if cj = ci then (match fs[k]? with
      | some v => q_go (pc + 3) lo (v :: r) σ
      | none => none) else none
    | _ => none
  | _, _ => none
def q_putf (f : Option (Nat × Nat × FieldType × Nat)) (ini : Bool) (pc : Nat) (lo : qL) (st : List Value) (σ : qH) : qN := match f, st with
  | some (ci, k, ty, fin), v :: .ref a :: r => match σ.1 a with
    | some (.inr (cj, fs)) => if cj = ci ∧ k < fs.length ∧ narrow ty v = v ∧ fits ty v = true ∧ (fin = 0 ∨ (fin = 1 ∧ ini = true)) then q_go (pc + 3) lo r (q_up σ.1 a (.inr (ci, fs.set k v)), σ.2) else none
    | _ => none
  | _, _ => none
def q_iald (kd pc : Nat) (lo : qL) (st : List Value) (σ : qH) : qN := match st with
  | .int i :: .ref a :: r => match σ.1 a with
    | some (.inl (k, n, .inl f)) => if k = kd ∧ ¬ (i < 0 ∨ n ≤ i.toNatClampNeg) then q_go (pc + 1) lo (.int (f i.toNatClampNeg) :: r) σ else none
    | _ => none
  | _ => none
def q_lald (pc : Nat) (lo : qL) (st : List Value) (σ : qH) : qN := match st with
  | .int i :: .ref a :: r => match σ.1 a with
    | some (.inl (k, n, .inr (.inl f))) => if k = 2 ∧ ¬ (i < 0 ∨ n ≤ i.toNatClampNeg) then q_go (pc + 1) lo (.long (f i.toNatClampNeg) :: r) σ else none
    | _ => none
  | _ => none
def q_iast (kd : Nat) (nr : Int32 → Int32) (pc : Nat) (lo : qL) (st : List Value) (σ : qH) : qN := match st with
  | .int x :: .int i :: .ref a :: r => match σ.1 a with
    | some (.inl (k, n, .inl f)) => if k = kd ∧ ¬ (i < 0 ∨ n ≤ i.toNatClampNeg) then q_go (pc + 1) lo r (q_up σ.1 a (.inl (k, n, .inl (upd f i.toNatClampNeg (nr x)))), σ.2) else none
    | _ => none
  | _ => none
def q_last (pc : Nat) (lo : qL) (st : List Value) (σ : qH) : qN := match st with
  | .long x :: .int i :: .ref a :: r => match σ.1 a with
    | some (.inl (k, n, .inr (.inl f))) => if k = 2 ∧ ¬ (i < 0 ∨ n ≤ i.toNatClampNeg) then q_go (pc + 1) lo r (q_up σ.1 a (.inl (k, n, .inr (.inl (vp_updL f i.toNatClampNeg x)))), σ.2) else none
    | _ => none
  | _ => none
def q_alen (pc : Nat) (lo : qL) (st : List Value) (σ : qH) : qN := match st with
  | .ref a :: r => match σ.1 a with
    | some (.inl (k, n, _)) => if k < 4 then q_go (pc + 1) lo (.int (Int32.ofNat n) :: r) σ else none
    | _ => none
  | _ => none

def q_new (kd by_ : Nat) (mk : Nat → vp_A) (pc : Nat) (lo : qL) (st : List Value) (σ : qH) : qN := match st with
  | .int n :: r => if n < 0 ∨ 536870912 < n.toNatClampNeg * by_ then none else
      q_go (pc + 2) lo (.ref σ.2.1 :: r) (q_up σ.1 σ.2.1 (.inl (kd, mk n.toNatClampNeg)), σ.2.1 + 1, σ.2.2.1 + 1, σ.2.2.2 + n.toNatClampNeg)
  | _ => none
def q_newA (t : ClassFile.ArrayType) (pc : Nat) (lo : qL) (st : List Value) (σ : qH) : qN := match t with
  | .int => q_new 0 4 (fun n => (n, .inl fun _ => 0)) pc lo st σ
  | .char => q_new 1 2 (fun n => (n, .inl fun _ => 0)) pc lo st σ
  | .long => q_new 2 8 (fun n => (n, .inr (.inl fun _ => 0))) pc lo st σ
  | .boolean => q_new 3 1 (fun n => (n, .inl fun _ => 0)) pc lo st σ
  | _ => none
/-- what a class's number says of 'new': its number and its fields as they are at first; or an exception's number -/
def q_newC (c : Option ((Nat × List Value) ⊕ Nat)) (pc : Nat) (lo : qL) (st : List Value) (σ : qH) : qN := match c with
  | some (.inl (ci, fs)) => q_go (pc + 3) lo (.ref σ.2.1 :: st) (q_up σ.1 σ.2.1 (.inr (ci, fs)), σ.2.1 + 1, σ.2.2.1 + 1, σ.2.2.2 + fs.length)
  | some (.inr x) => some (.inr (.inr x, (σ.1, σ.2.1 + 1, σ.2.2.1 + 1, σ.2.2.2 + 6)))
  | none => none
abbrev qC : Type := Nat → List Value → qH → Option qO
def q_sum (st : List Value) : Nat := (st.map fun v => v.category).sum
def q_back (pc : Nat) (lo : qL) (r : List Value) (o : Option qO) : qN := match o with
  | some (.inl v, σ') => q_go (pc + 3) lo (v.toList ++ r) σ'
  | _ => none
/-- calls by their kind: 0 Object(), 1 on an object whose class is ci, 2 static, 3 a constructor, 4 Math.max, 5 Math.min -/
def q_call (rc : qC) (k : Option (Nat × Nat × Nat × Nat)) (pc : Nat) (lo : qL) (st : List Value) (σ : qH) : qN := match k with
  | some (0, _, _, _) => match st with
    | .ref _ :: r => if q_sum r ≤ 8 then q_go (pc + 3) lo r σ else none
    | _ => none
  | some (1, z, n, ci) => match st.drop n with
    | .ref b :: r => match σ.1 b with
      | some (.inr (cj, _)) => if cj = ci ∧ q_sum r ≤ 8 then q_back pc lo r (rc z (.ref b :: (st.take n).reverse) σ) else none
      | _ => none
    | _ => none
  | some (2, z, n, _) => if n ≤ st.length ∧ q_sum (st.drop n) ≤ 8 then q_back pc lo (st.drop n) (rc z (st.take n).reverse σ) else none
  | some (3, z, n, _) => match st.drop n with
    | .ref b :: r => if q_sum r ≤ 8 then q_back pc lo r (rc z (.ref b :: (st.take n).reverse) σ) else none
    | _ => none
  | some (4, _, _, _) => match st with
    | .int y :: .int x :: r => if q_sum r ≤ 8 then q_go (pc + 3) lo (.int (if x < y then y else x) :: r) σ else none
    | _ => none
  | some (5, _, _, _) => match st with
    | .int y :: .int x :: r => if q_sum r ≤ 8 then q_go (pc + 3) lo (.int (if y < x then y else x) :: r) σ else none
    | _ => none
  | _ => none
def q_ireturn (ty : Option FieldType) (st : List Value) (σ : qH) : qN := match ty, st with
  | some t, [.int x] => if narrow t (.int x) = .int x then some (.inr (.inl (some (.int x)), σ)) else none
  | _, _ => none
def q_lreturn (ty : Option FieldType) (st : List Value) (σ : qH) : qN := match ty, st with
  | some .long, [.long x] => some (.inr (.inl (some (.long x)), σ))
  | _, _ => none
def q_isRefT : Option FieldType → Bool
  | some (.object _) => true
  | some (.array _) => true
  | _ => false
def q_areturn (ty : Option FieldType) (st : List Value) (σ : qH) : qN := if q_isRefT ty = true then (match st with
  | [.ref a] => some (.inr (.inl (some (.ref a)), σ))
  | [.null] => some (.inr (.inl (some .null), σ))
  | _ => none) else none
def q_vreturn (ty : Option FieldType) (st : List Value) (σ : qH) : qN := match ty, st with
  | none, [] => some (.inr (.inl none, σ))
  | _, _ => none
/-- how long an instruction is -/
def q_len : ClassFile.Instr → Nat
  | .aload _ => 2 | .astore _ => 2 | .iload _ => 2 | .istore _ => 2 | .lload _ => 2 | .lstore _ => 2
  | .bipush _ => 2 | .sipush _ => 3 | .ldc _ => 2 | .ldc2_w _ => 3 | .iinc _ _ => 3
  | .getfield _ => 3 | .putfield _ => 3 | .goto _ => 3 | .if_icmp _ _ => 3 | .ifCond _ _ => 3 | .if_acmp _ _ => 3 | .ifnull _ => 3 | .ifnonnull _ => 3
  | .invokespecial _ => 3 | .invokestatic _ => 3 | .invokevirtual _ => 3 | .new _ => 3 | .newarray _ => 2
  | _ => 1
def q_isSw : ClassFile.Instr → Bool
  | .lookupswitch _ _ => true
  | .tableswitch _ _ _ _ => true
  | _ => false

/-- a class's constant pool as the machine needs it: fields, classes, methods, ints, longs -/
abbrev qP : Type := (Nat → Option (Nat × Nat × FieldType × Nat)) × (Nat → Option ((Nat × List Value) ⊕ Nat)) × (Nat → Option (Nat × Nat × Nat × Nat)) × (Nat → Option Int32) × (Nat → Option Int64)
def q_ex (rc : qC) (P : qP) (ini : Bool) (rt : Option FieldType) (i : ClassFile.Instr) (pc : Nat) (lo : qL) (st : List Value) (σ : qH) : qN := match i with
  | .aconst_null => q_push .null 1 pc lo st σ
  | .aload i => q_aload i 2 pc lo st σ
  | .aload_n i => q_aload i.val 1 pc lo st σ
  | .areturn => q_areturn rt st σ
  | .arraylength => q_alen pc lo st σ
  | .astore i => q_astore i 2 pc lo st σ
  | .astore_n i => q_astore i.val 1 pc lo st σ
  | .baload => q_iald 3 pc lo st σ
  | .bastore => q_iast 3 (vp_nar .boolean) pc lo st σ
  | .bipush n => q_push (.int (Int8.ofInt n).toInt32) 2 pc lo st σ
  | .caload => q_iald 1 pc lo st σ
  | .castore => q_iast 1 (vp_nar .char) pc lo st σ
  | .dup => q_dup pc lo st σ
  | .dup_x1 => q_dupx1 pc lo st σ
  | .dup_x2 => q_dupx2 pc lo st σ
  | .dup2 => q_dup2 pc lo st σ
  | .dup2_x1 => q_dup2x1 pc lo st σ
  | .getfield k => q_getf (P.1 k) pc lo st σ
  | .goto off => q_goto off pc lo st σ
  | .i2c => q_i1 (fun x => .int (x.toUInt32 % 65536).toInt32) pc lo st σ
  | .i2l => q_i1 (fun x => .long x.toInt64) pc lo st σ
  | .iadd => q_i2 (fun x y => x + y) pc lo st σ
  | .iaload => q_iald 0 pc lo st σ
  | .iand => q_i2 (fun x y => x &&& y) pc lo st σ
  | .iastore => q_iast 0 (fun x => x) pc lo st σ
  | .iconst n => q_push (.int (Int32.ofInt n)) 1 pc lo st σ
  | .idiv => q_d2 (fun x y => x / y) pc lo st σ
  | .if_icmp cd off => q_icmp cd off pc lo st σ
  | .ifCond cd off => q_if cd off pc lo st σ
  | .ifnonnull off => q_ifnonnull off pc lo st σ
  | .ifnull off => q_ifnull off pc lo st σ
  | .iinc i k => q_iinc i k 3 pc lo st σ
  | .iload i => q_iload i 2 pc lo st σ
  | .iload_n i => q_iload i.val 1 pc lo st σ
  | .imul => q_i2 (fun x y => x * y) pc lo st σ
  | .ineg => q_i1 (fun x => .int (-x)) pc lo st σ
  | .invokespecial k => (match P.2.2.1 k with
    | some (0, z) => q_call rc (some (0, z)) pc lo st σ
    | some (3, z) => q_call rc (some (3, z)) pc lo st σ
    | _ => none)
  | .invokestatic k => (match P.2.2.1 k with
    | some (2, z) => q_call rc (some (2, z)) pc lo st σ
    | some (4, z) => q_call rc (some (4, z)) pc lo st σ
    | some (5, z) => q_call rc (some (5, z)) pc lo st σ
    | _ => none)
  | .invokevirtual k => (match P.2.2.1 k with
    | some (1, z) => q_call rc (some (1, z)) pc lo st σ
    | _ => none)
  | .ior => q_i2 (fun x y => x ||| y) pc lo st σ
  | .irem => q_d2 (fun x y => x - x / y * y) pc lo st σ
  | .ireturn => q_ireturn rt st σ
  | .ishl => q_i2 (fun x y => x <<< (y &&& 31)) pc lo st σ
  | .ishr => q_i2 (fun x y => x >>> (y &&& 31)) pc lo st σ
  | .istore i => q_istore i 2 pc lo st σ
  | .istore_n i => q_istore i.val 1 pc lo st σ
  | .isub => q_i2 (fun x y => x - y) pc lo st σ
  | .iushr => q_i2 (fun x y => (x.toUInt32 >>> (y.toUInt32 &&& Int32.toUInt32 31)).toInt32) pc lo st σ
  | .ixor => q_i2 (fun x y => x ^^^ y) pc lo st σ
  | .l2i => q_l1 (fun x => .int x.toInt32) pc lo st σ
  | .ladd => q_l2 (fun x y => .long (x + y)) pc lo st σ
  | .laload => q_lald pc lo st σ
  | .land => q_l2 (fun x y => .long (x &&& y)) pc lo st σ
  | .lastore => q_last pc lo st σ
  | .lcmp => q_l2 (fun x y => .int (lg_cmp x y)) pc lo st σ
  | .lconst n => q_push (.long (Int64.ofNat (n : Nat))) 1 pc lo st σ
  | .ldc k => (match P.2.2.2.1 k with
    | some v => q_push (.int v) 2 pc lo st σ
    | none => none)
  | .ldc2_w k => (match P.2.2.2.2 k with
    | some v => q_push (.long v) 3 pc lo st σ
    | none => none)
  | .lload i => q_lload i 2 pc lo st σ
  | .lload_n i => q_lload i.val 1 pc lo st σ
  | .lmul => q_l2 (fun x y => .long (x * y)) pc lo st σ
  | .lookupswitch d ps => q_lookup d ps pc lo st σ
  | .lor => q_l2 (fun x y => .long (x ||| y)) pc lo st σ
  | .lreturn => q_lreturn rt st σ
  | .lshl => q_ls (fun x y => x <<< (y.toInt64 &&& 63)) pc lo st σ
  | .lshr => q_ls (fun x y => x >>> (y.toInt64 &&& 63)) pc lo st σ
  | .lstore i => q_lstore i 2 pc lo st σ
  | .lstore_n i => q_lstore i.val 1 pc lo st σ
  | .lsub => q_l2 (fun x y => .long (x - y)) pc lo st σ
  | .lushr => q_ls (fun x y => (x.toUInt64 >>> (y.toInt64.toUInt64 &&& Int64.toUInt64 63)).toInt64) pc lo st σ
  | .lxor => q_l2 (fun x y => .long (x ^^^ y)) pc lo st σ
  | .new k => q_newC (P.2.1 k) pc lo st σ
  | .newarray t => q_newA t pc lo st σ
  | .pop => q_pop pc lo st σ
  | .pop2 => q_pop2 pc lo st σ
  | .putfield k => q_putf (P.1 k) ini pc lo st σ
  | .return_ => q_vreturn rt st σ
  | .sipush n => q_push (.int (Int16.ofInt n).toInt32) 3 pc lo st σ
  | .tableswitch d a b os => q_table d a b os pc lo st σ
  | _ => none
/-- a method as the machine needs it: code, locals, answer, whether it is a constructor, its class's pool -/
abbrev qM : Type := ByteArray × Nat × Option FieldType × Bool × qP
def q_ins (cc : ByteArray) (pc : Nat) : Option ClassFile.Instr := match decode cc pc with
  | .ok (i, n) => if n = q_len i ∨ q_isSw i = true then some i else none
  | _ => none
def q_step (rc : qC) (M : qM) (x : qS) : qN := match q_ins M.1 x.1 with
  | some i => q_ex rc M.2.2.2.2 M.2.2.2.1 M.2.2.1 i x.1 x.2.1 x.2.2.1 x.2.2.2
  | none => none
def q_run (rc : qC) (M : qM) : Nat → qS → Option qO
  | 0, _ => none
  | n + 1, x => match q_step rc M x with
    | some (.inl x') => q_run rc M n x'
    | some (.inr o) => some o
    | none => none
theorem q_run_up {rc : qC} {M : qM} : ∀ (n : Nat) (x : qS) (o : qO), q_run rc M n x = some o → ∀ k, q_run rc M (n + k) x = some o := by
  intro n
  induction n with
  | zero => intro x o h; cases h
  | succ n ih =>
    intro x o h k
    rw [show n + 1 + k = (n + k) + 1 by omega]
    simp only [q_run] at h ⊢
    cases hs : q_step rc M x with
    | none => rw [hs] at h; cases h
    | some r =>
      rw [hs] at h
      cases r with
      | inl x' => exact ih x' o h k
      | inr o' => exact h
theorem q_run_det {rc : qC} {M : qM} {n k : Nat} {x : qS} {o o' : qO} (h : q_run rc M n x = some o) (h' : q_run rc M k x = some o') : o = o' := by
  have h1 := q_run_up n x o h k
  have h2 := q_run_up k x o' h' n
  rw [Nat.add_comm k n] at h2
  exact Option.some.inj (h1.symm.trans h2)
/-- what a run comes to, however long it is -/
noncomputable def q_out (rc : qC) (M : qM) (x : qS) : Option qO := @dite _ (∃ (o : qO), ∃ (n : Nat), q_run rc M n x = some o) (Classical.propDecidable _) (fun h => some (Classical.choose h)) (fun _ => none)
theorem q_out_iff {rc : qC} {M : qM} {x : qS} {o : qO} : q_out rc M x = some o ↔ ∃ n, q_run rc M n x = some o := by
  unfold q_out
  constructor
  · intro h
    split at h
    · rename_i hx
      cases h
      exact Classical.choose_spec hx
    · cases h
  · intro h
    have hx : ∃ (o : qO), ∃ (n : Nat), q_run rc M n x = some o := ⟨o, h⟩
    rw [dif_pos hx]
    obtain ⟨n, hn⟩ := Classical.choose_spec hx
    obtain ⟨k, hk⟩ := h
    rw [q_run_det hn hk]
theorem q_out_go {rc : qC} {M : qM} {x x' : qS} (h : q_step rc M x = some (.inl x')) : q_out rc M x = q_out rc M x' := by
  apply Option.ext
  intro o
  rw [q_out_iff, q_out_iff]
  constructor
  · rintro ⟨n, hn⟩
    cases n with
    | zero => cases hn
    | succ n => exact ⟨n, by simpa only [q_run, h] using hn⟩
  · rintro ⟨n, hn⟩
    exact ⟨n + 1, by simpa only [q_run, h] using hn⟩
theorem q_out_end {rc : qC} {M : qM} {x : qS} {o : qO} (h : q_step rc M x = some (.inr o)) : q_out rc M x = some o :=
  q_out_iff.mpr ⟨1, by simp only [q_run, h]⟩
theorem q_step_of {rc : qC} {M : qM} {pc : Nat} {i : ClassFile.Instr} {n : Nat} {lo : qL} {st : List Value} {σ : qH} (hd : decode M.1 pc = .ok (i, n)) (hn : n = q_len i ∨ q_isSw i = true) : q_step rc M (pc, lo, st, σ) = q_ex rc M.2.2.2.2 M.2.2.2.1 M.2.2.1 i pc lo st σ := by
  simp only [q_step, q_ins, hd, if_pos hn]
/-- arguments as locals -/
def q_args : List Value → qL
  | [] => []
  | v :: vs => if v.category = 2 then some v :: none :: q_args vs else some v :: q_args vs
def q_entry (n : Nat) (as : List Value) : qL := q_args as ++ List.replicate (n - (q_args as).length) none
/-- a call, d calls deep at most -/
noncomputable def q_ev (Mt : Nat → Option qM) : Nat → qC
  | 0 => fun _ _ _ => none
  | d + 1 => fun y as σ => match Mt y with
    | some M => if (q_args as).length ≤ M.2.1 then q_out (q_ev Mt d) M (0, q_entry M.2.1 as, [], σ) else none
    | none => none
end
section
/-! THE SMALL MACHINE IS TRUE, 1: locals, cells, the goal -/
theorem q_getD_set {α : Type} (l : List (Option α)) (i j : Nat) (x : Option α) (hi : i < l.length) : (l.set i x).getD j none = if j = i then x else l.getD j none := by
  rw [List.getD_eq_getElem?_getD, List.getD_eq_getElem?_getD, List.getElem?_set]
  by_cases h : i = j
  · subst h; simp [hi]
  · have h2 : ¬ j = i := fun z => h z.symm
    simp [h, h2]
theorem q_getD_lt {α : Type} {l : List (Option α)} {i : Nat} {x : α} (h : l.getD i none = some x) : i < l.length := by
  rcases Nat.lt_or_ge i l.length with q | q
  · exact q
  · rw [List.getD_eq_getElem?_getD, List.getElem?_eq_none q] at h; cases h
theorem q_kill_len (lo : qL) (i : Nat) : (q_kill lo i).length = lo.length := by
  cases i with
  | zero => rfl
  | succ j =>
    simp only [q_kill]
    cases lo.getD j none with
    | none => rfl
    | some v =>
      dsimp only
      split
      · simp
      · rfl
theorem q_kill_get {lo : qL} {i j : Nat} {u : Value} (h : (q_kill lo i).getD j none = some u) : lo.getD j none = some u ∧ ¬ (j + 1 = i ∧ u.category = 2) := by
  cases i with
  | zero => exact ⟨h, fun z => by omega⟩
  | succ k =>
    simp only [q_kill] at h
    cases hk : lo.getD k none with
    | none =>
      rw [hk] at h
      refine ⟨h, fun z => ?_⟩
      have : j = k := by omega
      subst this
      rw [hk] at h; cases h
    | some v =>
      rw [hk] at h
      dsimp only at h
      by_cases hv : v.category = 2
      · rw [if_pos hv, q_getD_set _ _ _ _ (q_getD_lt hk)] at h
        by_cases hj : j = k
        · rw [if_pos hj] at h; cases h
        · rw [if_neg hj] at h
          exact ⟨h, fun z => hj (by omega)⟩
      · rw [if_neg hv] at h
        refine ⟨h, fun z => ?_⟩
        have : j = k := by omega
        subst this
        rw [hk] at h
        cases h
        exact hv z.2
theorem q_st1_len (lo : qL) (i : Nat) (v : Value) : (q_st1 lo i v).length = lo.length := by simp [q_st1, q_kill_len]
theorem q_st2_len (lo : qL) (i : Nat) (v : Value) : (q_st2 lo i v).length = lo.length := by simp [q_st2, q_kill_len]
def q_lv (lo : qL) : List (Nat × Value) := (List.range lo.length).filterMap (fun i => (lo.getD i none).map (fun v => (i, v)))
theorem q_lv_mem {lo : qL} {i : Nat} {v : Value} : (i, v) ∈ q_lv lo ↔ lo.getD i none = some v := by
  unfold q_lv
  rw [List.mem_filterMap]
  constructor
  · rintro ⟨j, -, hj⟩
    cases h : lo.getD j none with
    | none => rw [h] at hj; cases hj
    | some u =>
      rw [h] at hj
      cases hj
      exact h
  · intro h
    exact ⟨i, List.mem_range.mpr (q_getD_lt h), by rw [h]; rfl⟩
def q_rel (lo : qL) (ls : Array Slot) : Prop := ls.size = lo.length ∧ lv_wf ls ∧ ∀ (i : Nat) (v : Value), lo.getD i none = some v → ls[i]? = some (.val v)
theorem q_rel.has {lo : qL} {ls : Array Slot} (h : q_rel lo ls) : lv_has ls lo.length (q_lv lo) := ⟨h.1, h.2.1, fun q hq => h.2.2 q.1 q.2 (q_lv_mem.mp hq)⟩
theorem q_rel.st1 {lo : qL} {ls' : Array Slot} {i : Nat} {v : Value} (hi : i < lo.length) (h : lv_has ls' lo.length ((i, v) :: (q_lv lo).filter (fun q => !(q.1 == i) && !(q.1 + 1 == i && q.2.category == 2)))) : q_rel (q_st1 lo i v) ls' := by
  refine ⟨by rw [q_st1_len]; exact h.1, h.2.1, fun j u hj => ?_⟩
  unfold q_st1 at hj
  rw [q_getD_set _ _ _ _ (by rw [q_kill_len]; exact hi)] at hj
  by_cases e : j = i
  · rw [if_pos e] at hj
    cases hj
    subst e
    exact h.2.2 (j, v) List.mem_cons_self
  · rw [if_neg e] at hj
    obtain ⟨h1, h2⟩ := q_kill_get hj
    refine h.2.2 (j, u) (List.mem_cons_of_mem _ (List.mem_filter.mpr ⟨q_lv_mem.mpr h1, ?_⟩))
    simp only [Bool.and_eq_true, Bool.not_eq_true', beq_eq_false_iff_ne, ne_eq, Bool.and_eq_false_iff]
    refine ⟨e, ?_⟩
    by_cases e1 : j + 1 = i
    · exact Or.inr (fun z => h2 ⟨e1, z⟩)
    · exact Or.inl e1
theorem q_rel.st2 {lo : qL} {ls' : Array Slot} {i : Nat} {v : Value} (hi : i + 1 < lo.length) (h : lv_has ls' lo.length ((i, v) :: (q_lv lo).filter (fun q => !(q.1 == i) && (!(q.1 == i + 1) && !(q.1 + 1 == i && q.2.category == 2))))) : q_rel (q_st2 lo i v) ls' := by
  refine ⟨by rw [q_st2_len]; exact h.1, h.2.1, fun j u hj => ?_⟩
  unfold q_st2 at hj
  rw [q_getD_set _ _ _ _ (by rw [List.length_set, q_kill_len]; exact hi)] at hj
  by_cases e0 : j = i + 1
  · rw [if_pos e0] at hj; cases hj
  · rw [if_neg e0, q_getD_set _ _ _ _ (by rw [q_kill_len]; omega)] at hj
    by_cases e : j = i
    · rw [if_pos e] at hj
      cases hj
      subst e
      exact h.2.2 (j, v) List.mem_cons_self
    · rw [if_neg e] at hj
      obtain ⟨h1, h2⟩ := q_kill_get hj
      refine h.2.2 (j, u) (List.mem_cons_of_mem _ (List.mem_filter.mpr ⟨q_lv_mem.mpr h1, ?_⟩))
      simp only [Bool.and_eq_true, Bool.not_eq_true', beq_eq_false_iff_ne, ne_eq, Bool.and_eq_false_iff]
      refine ⟨e, e0, ?_⟩
      by_cases e1 : j + 1 = i
      · exact Or.inr (fun z => h2 ⟨e1, z⟩)
      · exact Or.inl e1
theorem q_args_len (as : List Value) : (q_args as).length = (lg_sl as).length := by
  induction as with
  | nil => rfl
  | cons v vs ih =>
    have e : lg_sl (v :: vs) = (if v.category = 2 then [Slot.val v, .second] else [.val v]) ++ lg_sl vs := by simp [lg_sl]
    rw [e]
    unfold q_args
    split <;> simp [ih] <;> omega
theorem q_args_at : ∀ (as : List Value) (k i : Nat) (v : Value), (q_args as).getD i none = some v → (k + i, v) ∈ lv_args k as := by
  intro as
  induction as with
  | nil => intro k i v h; simp [q_args] at h
  | cons u us ih =>
    intro k i v h
    unfold q_args at h
    unfold lv_args
    by_cases hc : u.category = 2
    · rw [if_pos hc] at h ⊢
      match i, h with
      | 0, h => simp at h; subst h; simp
      | 1, h => simp at h
      | i + 2, h =>
        have := ih (k + 2) i v (by simpa using h)
        rw [show k + (i + 2) = k + 2 + i by omega]
        exact List.mem_cons_of_mem _ this
    · rw [if_neg hc] at h ⊢
      match i, h with
      | 0, h => simp at h; subst h; simp
      | i + 1, h =>
        have := ih (k + 1) i v (by simpa using h)
        rw [show k + (i + 1) = k + 1 + i by omega]
        exact List.mem_cons_of_mem _ this
theorem q_entry_len {n : Nat} {as : List Value} (h : (q_args as).length ≤ n) : (q_entry n as).length = n := by
  unfold q_entry; rw [List.length_append, List.length_replicate]; omega
theorem q_rel_entry {n : Nat} {as : List Value} (h : (q_args as).length ≤ n) : q_rel (q_entry n as) ((lg_sl as ++ List.replicate (n - (lg_sl as).length) Slot.unset).toArray) := by
  have hl := lv_entry as (n := n) (by rw [← q_args_len]; exact h)
  refine ⟨by rw [q_entry_len h]; exact hl.1, hl.2.1, fun i v hi => ?_⟩
  have h2 : (q_args as).getD i none = some v := by
    unfold q_entry at hi
    rw [List.getD_eq_getElem?_getD] at hi ⊢
    by_cases hlt : i < (q_args as).length
    · rw [List.getElem?_append_left hlt] at hi; exact hi
    · rw [List.getElem?_append_right (by omega)] at hi
      rw [List.getElem?_replicate] at hi
      split at hi <;> cases hi
  have := q_args_at as 0 i v h2
  rw [Nat.zero_add] at this
  exact hl.2.2 (i, v) this
def q_conv (ac : Nat → ClassId) : qE → va_E
  | .inl (k, x) => .inl (ac k, x)
  | .inr o => .inr o
def q_hold (D : va_G) (cl : List vw_C) (ac : Nat → ClassId) (B0 : Nat) (σ : qH) (H : Heap) : Prop :=
  H.size = σ.2.1 ∧ ∀ (a : Nat) (e : qE), σ.1 a = some e → B0 ≤ a ∧ va_at D cl (a, q_conv ac e) H
def q_tys (ac : Nat → ClassId) : List (ClassId × FieldType) := [(ac 0, .int), (ac 1, .char), (ac 2, .long), (ac 3, .boolean)]
def q_Cx (p : Program) (s : State) (m : MethodId) (args : Array Value) (c : Code) (D : va_G) (cl : List vw_C) (ac : Nat → ClassId) (B0 : Nat) (own : String) (cc : ByteArray) (nL : Nat) (Ts Ns : List Cond) : Prop :=
  p.tables.exec = Jvm.exec ∧ c.code = cc ∧ c.maxLocals = nL ∧ s.vm.findClass own = some m.cls ∧ (∀ w ∈ Ts, w.before args s = true) ∧ (∀ w ∈ Ns, va_Nw w s) ∧ va_K D cl (q_tys ac) s ∧ B0 ≤ s.heap.size
theorem q_P1 {D : va_G} {cl : List vw_C} {q : Nat × va_E} {H : Heap} (h : va_at D cl q H) : va_P D cl [q] H := by
  intro k x hk
  cases k with
  | zero => cases hk; exact h
  | succ k => cases hk
theorem q_hold.put {D : va_G} {cl : List vw_C} {ac : Nat → ClassId} {B0 : Nat} {σ : qH} {H H1 : Heap} {a : Nat} {e : qE} (h : q_hold D cl ac B0 σ H) (z : H1.size = H.size) (oq : ∀ q : Nat, q ≠ a → H1[q]? = H[q]?) (hB : B0 ≤ a) (he : va_at D cl (a, q_conv ac e) H1) : q_hold D cl ac B0 (q_up σ.1 a e, σ.2) H1 := by
  refine ⟨z.trans h.1, fun b x hx => ?_⟩
  unfold q_up at hx
  dsimp only at hx
  by_cases hb : b = a
  · rw [if_pos hb] at hx
    cases hx
    subst hb
    exact ⟨hB, he⟩
  · rw [if_neg hb] at hx
    obtain ⟨h1, h2⟩ := h.2 b x hx
    exact ⟨h1, h2.kept (oq b hb)⟩
theorem q_hold.new {D : va_G} {cl : List vw_C} {ac : Nat → ClassId} {B0 : Nat} {σ : qH} {H H1 : Heap} {e : qE} {k w : Nat} (h : q_hold D cl ac B0 σ H) (z : H1.size = H.size + 1) (oq : ∀ q : Nat, q < H.size → H1[q]? = H[q]?) (hB : B0 ≤ H.size) (he : va_at D cl (H.size, q_conv ac e) H1) : q_hold D cl ac B0 (q_up σ.1 σ.2.1 e, σ.2.1 + 1, k, w) H1 := by
  refine ⟨by rw [z, h.1], fun b x hx => ?_⟩
  unfold q_up at hx
  dsimp only at hx
  by_cases hb : b = σ.2.1
  · rw [if_pos hb] at hx
    cases hx
    rw [hb, ← h.1]
    exact ⟨hB, he⟩
  · rw [if_neg hb] at hx
    obtain ⟨h1, h2⟩ := h.2 b x hx
    exact ⟨h1, h2.kept (oq b h2.lt)⟩
end
section
/-! THE SMALL MACHINE IS TRUE, 2: a step -/
/-- the goal at a state of the small machine -/
def q_G (p : Program) (l : Launch) (e : Env) (R : Room) (s : State) (m : MethodId) (args : Array Value) (below : List Frame) (meth : Method) (c : Code) (D : va_G) (cl : List vw_C) (ac : Nat → ClassId) (B0 nL k0 w0 : Nat) (Q : State → Prop) (x : qS) : Prop :=
  ∀ (H : Heap) (locs : List Loc) (ls : Array Slot), q_rel x.2.1 ls → x.2.1.length = nL → q_hold D cl ac B0 x.2.2.2 H → va_S (fun q : Nat => B0 ≤ q) s.heap H locs → k0 ≤ x.2.2.2.2.2.1 → w0 ≤ x.2.2.2.2.2.2 →
    W p l e R s m args below meth c H locs (x.2.2.2.2.2.1 - k0) (x.2.2.2.2.2.2 - w0) Q (F0 m x.1 ls x.2.2.1)
/-- what is known of a field's number in a pool -/
def q_fok (cl : List vw_C) (Ts Ns : List Cond) (own : String) (idx : Nat) (f : Nat × Nat × FieldType × Nat) : Prop :=
  ∃ (C : String) (T : u_T) (N : Nat) (ty0 : Nat → FieldType), cl[f.1]? = some (C, T, N) ∧ f.2.1 < N ∧ (∀ w ∈ u_ws C T N, w ∈ Ts) ∧ (∀ k, k < N → parseFieldDescriptor (T k).2.2.1 = some (ty0 k)) ∧ (∀ a, a < N → ∀ b, b < N → a ≠ b → (T a).2.1 ≠ (T b).2.1) ∧ parseFieldDescriptor (T f.2.1).2.2.1 = some f.2.2.1 ∧
    (f.2.2.2 = 0 → (T f.2.1).2.2.2 = false) ∧ (f.2.2.2 = 1 → (T f.2.1).2.2.2 = true ∧ (T f.2.1).1 = own ∧ Cond.fieldLink own idx (T f.2.1).1 (T f.2.1).2.1 (T f.2.1).2.2.1 ∈ Ts) ∧
    (Cond.fieldLink own idx (T f.2.1).1 (T f.2.1).2.1 (T f.2.1).2.2.1 ∈ Ts ∨ ∃ host : String, Cond.fieldLinkNest own idx (T f.2.1).1 (T f.2.1).2.1 (T f.2.1).2.2.1 host ∈ Ns)
/-- of a class's number, at 'new' -/
def q_nok (cl : List vw_C) (Ts : List Cond) (own : String) (idx : Nat) (n : Nat × List Value) : Prop :=
  ∃ (C : String) (T : u_T) (N : Nat) (ty0 : Nat → FieldType), cl[n.1]? = some (C, T, N) ∧ n.2.length = N ∧ (∀ w ∈ u_ws C T N, w ∈ Ts) ∧ (∀ k, k < N → parseFieldDescriptor (T k).2.2.1 = some (ty0 k)) ∧ (∀ j, j < N → defaultValue (ty0 j) = vp_V n.2 j) ∧
    Cond.classLink own idx C ∈ Ts ∧ Cond.instantiable C N ∈ Ts ∧ Cond.initialized C ∈ Ts
section QS
variable {p : Program} {l : Launch} {e : Env} {R : Room} {s : State} {m : MethodId} {args : Array Value} {below : List Frame} {meth : Method} {c : Code} {D : va_G} {cl : List vw_C} {ac : Nat → ClassId} {B0 nL k0 w0 : Nat} {Q : State → Prop} {own : String} {cc : ByteArray} {Ts Ns : List Cond} {pc : Nat} {lo : qL} {st : List Value} {σ : qH} {x' : qS}
theorem q_ok_push {v : Value} {n : Nat} (hk : ∀ (H : Heap) (locs : List Loc) (ls : Array Slot) (k w : Nat), W p l e R s m args below meth c H locs k w Q (F0 m (pc + n) ls (v :: st)) → W p l e R s m args below meth c H locs k w Q (F0 m pc ls st))
    (h : q_push v n pc lo st σ = some (.inl x')) (kk : q_G p l e R s m args below meth c D cl ac B0 nL k0 w0 Q x') : q_G p l e R s m args below meth c D cl ac B0 nL k0 w0 Q (pc, lo, st, σ) := by
  cases h
  exact fun H locs ls h1 h2 h3 h4 h5 h6 => hk _ _ _ _ _ (kk H locs ls h1 h2 h3 h4 h5 h6)
theorem q_ok_iload {i n : Nat} (hk : ∀ (x : Int32) (H : Heap) (locs : List Loc) (ls : Array Slot) (k w : Nat), ls[i]? = some (.val (.int x)) → W p l e R s m args below meth c H locs k w Q (F0 m (pc + n) ls (.int x :: st)) → W p l e R s m args below meth c H locs k w Q (F0 m pc ls st))
    (h : q_iload i n pc lo st σ = some (.inl x')) (kk : q_G p l e R s m args below meth c D cl ac B0 nL k0 w0 Q x') : q_G p l e R s m args below meth c D cl ac B0 nL k0 w0 Q (pc, lo, st, σ) := by
  unfold q_iload at h
  split at h
  · rename_i x hx
    cases h
    exact fun H locs ls h1 h2 h3 h4 h5 h6 => hk x _ _ _ _ _ (h1.2.2 i _ hx) (kk H locs ls h1 h2 h3 h4 h5 h6)
  · cases h
theorem q_ok_lload {i n : Nat} (hk : ∀ (x : Int64) (H : Heap) (locs : List Loc) (ls : Array Slot) (k w : Nat), ls[i]? = some (.val (.long x)) → W p l e R s m args below meth c H locs k w Q (F0 m (pc + n) ls (.long x :: st)) → W p l e R s m args below meth c H locs k w Q (F0 m pc ls st))
    (h : q_lload i n pc lo st σ = some (.inl x')) (kk : q_G p l e R s m args below meth c D cl ac B0 nL k0 w0 Q x') : q_G p l e R s m args below meth c D cl ac B0 nL k0 w0 Q (pc, lo, st, σ) := by
  unfold q_lload at h
  split at h
  · rename_i x hx
    cases h
    exact fun H locs ls h1 h2 h3 h4 h5 h6 => hk x _ _ _ _ _ (h1.2.2 i _ hx) (kk H locs ls h1 h2 h3 h4 h5 h6)
  · cases h
theorem q_ok_aload {i n : Nat} (hk : ∀ (x : Nat) (H : Heap) (locs : List Loc) (ls : Array Slot) (k w : Nat), ls[i]? = some (.val (.ref x)) → W p l e R s m args below meth c H locs k w Q (F0 m (pc + n) ls (.ref x :: st)) → W p l e R s m args below meth c H locs k w Q (F0 m pc ls st))
    (hN : ∀ (H : Heap) (locs : List Loc) (ls : Array Slot) (k w : Nat), ls[i]? = some (.val .null) → W p l e R s m args below meth c H locs k w Q (F0 m (pc + n) ls (.null :: st)) → W p l e R s m args below meth c H locs k w Q (F0 m pc ls st))
    (h : q_aload i n pc lo st σ = some (.inl x')) (kk : q_G p l e R s m args below meth c D cl ac B0 nL k0 w0 Q x') : q_G p l e R s m args below meth c D cl ac B0 nL k0 w0 Q (pc, lo, st, σ) := by
  unfold q_aload at h
  split at h
  · rename_i x hx
    cases h
    exact fun H locs ls h1 h2 h3 h4 h5 h6 => hk x _ _ _ _ _ (h1.2.2 i _ hx) (kk H locs ls h1 h2 h3 h4 h5 h6)
  · rename_i hx
    cases h
    exact fun H locs ls h1 h2 h3 h4 h5 h6 => hN _ _ _ _ _ (h1.2.2 i _ hx) (kk H locs ls h1 h2 h3 h4 h5 h6)
  · cases h
theorem q_ok_istore {i n : Nat} (hk : ∀ (x : Int32) (r : List Value) (H : Heap) (locs : List Loc) (ls : Array Slot) (k w : Nat) (lv : List (Nat × Value)), lv_has ls nL lv → i < nL → (∀ ls' : Array Slot, lv_has ls' nL ((i, Value.int x) :: lv.filter (fun q => !(q.1 == i) && !(q.1 + 1 == i && q.2.category == 2))) → W p l e R s m args below meth c H locs k w Q (F0 m (pc + n) ls' r)) → W p l e R s m args below meth c H locs k w Q (F0 m pc ls (.int x :: r)))
    (h : q_istore i n pc lo st σ = some (.inl x')) (kk : q_G p l e R s m args below meth c D cl ac B0 nL k0 w0 Q x') : q_G p l e R s m args below meth c D cl ac B0 nL k0 w0 Q (pc, lo, st, σ) := by
  unfold q_istore at h
  split at h
  · rename_i x r
    split at h
    · rename_i hi
      cases h
      intro H locs ls h1 h2 h3 h4 h5 h6
      dsimp only at h1 h2
      subst h2
      exact hk x r _ _ _ _ _ (q_lv lo) h1.has hi fun ls' hl => kk H locs ls' (q_rel.st1 hi hl) (q_st1_len _ _ _) h3 h4 h5 h6
    · cases h
  · cases h
theorem q_ok_lstore {i n : Nat} (hk : ∀ (x : Int64) (r : List Value) (H : Heap) (locs : List Loc) (ls : Array Slot) (k w : Nat) (lv : List (Nat × Value)), lv_has ls nL lv → i + 1 < nL → (∀ ls' : Array Slot, lv_has ls' nL ((i, Value.long x) :: lv.filter (fun q => !(q.1 == i) && (!(q.1 == i + 1) && !(q.1 + 1 == i && q.2.category == 2)))) → W p l e R s m args below meth c H locs k w Q (F0 m (pc + n) ls' r)) → W p l e R s m args below meth c H locs k w Q (F0 m pc ls (.long x :: r)))
    (h : q_lstore i n pc lo st σ = some (.inl x')) (kk : q_G p l e R s m args below meth c D cl ac B0 nL k0 w0 Q x') : q_G p l e R s m args below meth c D cl ac B0 nL k0 w0 Q (pc, lo, st, σ) := by
  unfold q_lstore at h
  split at h
  · rename_i x r
    split at h
    · rename_i hi
      cases h
      intro H locs ls h1 h2 h3 h4 h5 h6
      dsimp only at h1 h2
      subst h2
      exact hk x r _ _ _ _ _ (q_lv lo) h1.has hi fun ls' hl => kk H locs ls' (q_rel.st2 hi hl) (q_st2_len _ _ _) h3 h4 h5 h6
    · cases h
  · cases h
theorem q_ok_astore {i n : Nat} (hk : ∀ (x : Nat) (r : List Value) (H : Heap) (locs : List Loc) (ls : Array Slot) (k w : Nat) (lv : List (Nat × Value)), lv_has ls nL lv → i < nL → (∀ ls' : Array Slot, lv_has ls' nL ((i, Value.ref x) :: lv.filter (fun q => !(q.1 == i) && !(q.1 + 1 == i && q.2.category == 2))) → W p l e R s m args below meth c H locs k w Q (F0 m (pc + n) ls' r)) → W p l e R s m args below meth c H locs k w Q (F0 m pc ls (.ref x :: r)))
    (hN : ∀ (r : List Value) (H : Heap) (locs : List Loc) (ls : Array Slot) (k w : Nat) (lv : List (Nat × Value)), lv_has ls nL lv → i < nL → (∀ ls' : Array Slot, lv_has ls' nL ((i, Value.null) :: lv.filter (fun q => !(q.1 == i) && !(q.1 + 1 == i && q.2.category == 2))) → W p l e R s m args below meth c H locs k w Q (F0 m (pc + n) ls' r)) → W p l e R s m args below meth c H locs k w Q (F0 m pc ls (.null :: r)))
    (h : q_astore i n pc lo st σ = some (.inl x')) (kk : q_G p l e R s m args below meth c D cl ac B0 nL k0 w0 Q x') : q_G p l e R s m args below meth c D cl ac B0 nL k0 w0 Q (pc, lo, st, σ) := by
  unfold q_astore at h
  split at h
  · rename_i x r
    split at h
    · rename_i hi
      cases h
      intro H locs ls h1 h2 h3 h4 h5 h6
      dsimp only at h1 h2
      subst h2
      exact hk x r _ _ _ _ _ (q_lv lo) h1.has hi fun ls' hl => kk H locs ls' (q_rel.st1 hi hl) (q_st1_len _ _ _) h3 h4 h5 h6
    · cases h
  · rename_i r
    split at h
    · rename_i hi
      cases h
      intro H locs ls h1 h2 h3 h4 h5 h6
      dsimp only at h1 h2
      subst h2
      exact hN r _ _ _ _ _ (q_lv lo) h1.has hi fun ls' hl => kk H locs ls' (q_rel.st1 hi hl) (q_st1_len _ _ _) h3 h4 h5 h6
    · cases h
  · cases h
theorem q_ok_iinc {i : Nat} {k : Int} (hx : p.tables.exec = Jvm.exec) (hb : c.code = cc) (hd : decode cc pc = .ok (.iinc i k, 3))
    (h : q_iinc i k 3 pc lo st σ = some (.inl x')) (kk : q_G p l e R s m args below meth c D cl ac B0 nL k0 w0 Q x') : q_G p l e R s m args below meth c D cl ac B0 nL k0 w0 Q (pc, lo, st, σ) := by
  unfold q_iinc at h
  split at h
  · rename_i x hx0
    split at h
    · rename_i hi
      cases h
      intro H locs ls h1 h2 h3 h4 h5 h6
      dsimp only at h1 h2
      subst h2
      obtain ⟨j, hj⟩ := List.getElem?_of_mem (q_lv_mem.mpr hx0)
      exact lv_iinc hx hb hd h1.has hj rfl hi rfl fun ls' hl => kk H locs ls' (q_rel.st1 hi hl) (q_st1_len _ _ _) h3 h4 h5 h6
    · cases h
  · cases h
theorem q_ok_i1 {f : Int32 → Value} (hk : ∀ (x : Int32) (r : List Value) (H : Heap) (locs : List Loc) (ls : Array Slot) (k w : Nat), W p l e R s m args below meth c H locs k w Q (F0 m (pc + 1) ls (f x :: r)) → W p l e R s m args below meth c H locs k w Q (F0 m pc ls (.int x :: r)))
    (h : q_i1 f pc lo st σ = some (.inl x')) (kk : q_G p l e R s m args below meth c D cl ac B0 nL k0 w0 Q x') : q_G p l e R s m args below meth c D cl ac B0 nL k0 w0 Q (pc, lo, st, σ) := by
  unfold q_i1 at h
  split at h
  · cases h
    exact fun H locs ls h1 h2 h3 h4 h5 h6 => hk _ _ _ _ _ _ _ (kk H locs ls h1 h2 h3 h4 h5 h6)
  · cases h
theorem q_ok_l1 {f : Int64 → Value} (hk : ∀ (x : Int64) (r : List Value) (H : Heap) (locs : List Loc) (ls : Array Slot) (k w : Nat), W p l e R s m args below meth c H locs k w Q (F0 m (pc + 1) ls (f x :: r)) → W p l e R s m args below meth c H locs k w Q (F0 m pc ls (.long x :: r)))
    (h : q_l1 f pc lo st σ = some (.inl x')) (kk : q_G p l e R s m args below meth c D cl ac B0 nL k0 w0 Q x') : q_G p l e R s m args below meth c D cl ac B0 nL k0 w0 Q (pc, lo, st, σ) := by
  unfold q_l1 at h
  split at h
  · cases h
    exact fun H locs ls h1 h2 h3 h4 h5 h6 => hk _ _ _ _ _ _ _ (kk H locs ls h1 h2 h3 h4 h5 h6)
  · cases h
theorem q_ok_i2 {f : Int32 → Int32 → Int32} (hk : ∀ (x y : Int32) (r : List Value) (H : Heap) (locs : List Loc) (ls : Array Slot) (k w : Nat), W p l e R s m args below meth c H locs k w Q (F0 m (pc + 1) ls (.int (f x y) :: r)) → W p l e R s m args below meth c H locs k w Q (F0 m pc ls (.int y :: .int x :: r)))
    (h : q_i2 f pc lo st σ = some (.inl x')) (kk : q_G p l e R s m args below meth c D cl ac B0 nL k0 w0 Q x') : q_G p l e R s m args below meth c D cl ac B0 nL k0 w0 Q (pc, lo, st, σ) := by
  unfold q_i2 at h
  split at h
  · cases h
    exact fun H locs ls h1 h2 h3 h4 h5 h6 => hk _ _ _ _ _ _ _ _ (kk H locs ls h1 h2 h3 h4 h5 h6)
  · cases h
theorem q_ok_d2 {f : Int32 → Int32 → Int32} (hk : ∀ (x y : Int32) (r : List Value) (H : Heap) (locs : List Loc) (ls : Array Slot) (k w : Nat), ¬ y = 0 → W p l e R s m args below meth c H locs k w Q (F0 m (pc + 1) ls (.int (f x y) :: r)) → W p l e R s m args below meth c H locs k w Q (F0 m pc ls (.int y :: .int x :: r)))
    (h : q_d2 f pc lo st σ = some (.inl x')) (kk : q_G p l e R s m args below meth c D cl ac B0 nL k0 w0 Q x') : q_G p l e R s m args below meth c D cl ac B0 nL k0 w0 Q (pc, lo, st, σ) := by
  unfold q_d2 at h
  split at h
  · split at h
    · cases h
    · rename_i hy
      cases h
      exact fun H locs ls h1 h2 h3 h4 h5 h6 => hk _ _ _ _ _ _ _ _ hy (kk H locs ls h1 h2 h3 h4 h5 h6)
  · cases h
theorem q_ok_l2 {f : Int64 → Int64 → Value} (hk : ∀ (x y : Int64) (r : List Value) (H : Heap) (locs : List Loc) (ls : Array Slot) (k w : Nat), W p l e R s m args below meth c H locs k w Q (F0 m (pc + 1) ls (f x y :: r)) → W p l e R s m args below meth c H locs k w Q (F0 m pc ls (.long y :: .long x :: r)))
    (h : q_l2 f pc lo st σ = some (.inl x')) (kk : q_G p l e R s m args below meth c D cl ac B0 nL k0 w0 Q x') : q_G p l e R s m args below meth c D cl ac B0 nL k0 w0 Q (pc, lo, st, σ) := by
  unfold q_l2 at h
  split at h
  · cases h
    exact fun H locs ls h1 h2 h3 h4 h5 h6 => hk _ _ _ _ _ _ _ _ (kk H locs ls h1 h2 h3 h4 h5 h6)
  · cases h
theorem q_ok_ls {f : Int64 → Int32 → Int64} (hk : ∀ (x : Int64) (y : Int32) (r : List Value) (H : Heap) (locs : List Loc) (ls : Array Slot) (k w : Nat), W p l e R s m args below meth c H locs k w Q (F0 m (pc + 1) ls (.long (f x y) :: r)) → W p l e R s m args below meth c H locs k w Q (F0 m pc ls (.int y :: .long x :: r)))
    (h : q_ls f pc lo st σ = some (.inl x')) (kk : q_G p l e R s m args below meth c D cl ac B0 nL k0 w0 Q x') : q_G p l e R s m args below meth c D cl ac B0 nL k0 w0 Q (pc, lo, st, σ) := by
  unfold q_ls at h
  split at h
  · cases h
    exact fun H locs ls h1 h2 h3 h4 h5 h6 => hk _ _ _ _ _ _ _ _ (kk H locs ls h1 h2 h3 h4 h5 h6)
  · cases h
theorem q_ok_br {P : Prop} [Decidable P] {off : Int} {r : List Value} (hk : ∀ (H : Heap) (locs : List Loc) (ls : Array Slot) (k w : Nat) (tgt : Nat), (pc : Int) + off = (tgt : Int) → (P → W p l e R s m args below meth c H locs k w Q (F0 m tgt ls r)) → (¬ P → W p l e R s m args below meth c H locs k w Q (F0 m (pc + 3) ls r)) → W p l e R s m args below meth c H locs k w Q (F0 m pc ls st))
    (h : q_br P pc off lo r σ = some (.inl x')) (kk : q_G p l e R s m args below meth c D cl ac B0 nL k0 w0 Q x') : q_G p l e R s m args below meth c D cl ac B0 nL k0 w0 Q (pc, lo, st, σ) := by
  unfold q_br at h
  split at h
  · rename_i ht
    cases h
    intro H locs ls h1 h2 h3 h4 h5 h6
    refine hk H locs ls _ _ _ ht (fun hP => ?_) (fun hP => ?_)
    · have := kk H locs ls h1 h2 h3 h4 h5 h6
      simp only [if_pos hP] at this
      exact this
    · have := kk H locs ls h1 h2 h3 h4 h5 h6
      simp only [if_neg hP] at this
      exact this
  · cases h
end QS
end
section
/-! THE SMALL MACHINE IS TRUE, 3: stack, branches, cells -/
section QT
variable {p : Program} {l : Launch} {e : Env} {R : Room} {s : State} {m : MethodId} {args : Array Value} {below : List Frame} {meth : Method} {c : Code} {D : va_G} {cl : List vw_C} {ac : Nat → ClassId} {B0 nL k0 w0 : Nat} {Q : State → Prop} {own : String} {cc : ByteArray} {Ts Ns : List Cond} {pc : Nat} {lo : qL} {st : List Value} {σ : qH} {x' : qS}
theorem q_ok_dup (hx : p.tables.exec = Jvm.exec) (hb : c.code = cc) (hd : decode cc pc = .ok (.dup, 1)) (h : q_dup pc lo st σ = some (.inl x')) (kk : q_G p l e R s m args below meth c D cl ac B0 nL k0 w0 Q x') : q_G p l e R s m args below meth c D cl ac B0 nL k0 w0 Q (pc, lo, st, σ) := by
  unfold q_dup at h
  split at h
  · split at h
    · rename_i hc
      cases h
      exact fun H locs ls h1 h2 h3 h4 h5 h6 => lv_dup hx hb hd hc (kk H locs ls h1 h2 h3 h4 h5 h6)
    · cases h
  · cases h
theorem q_ok_pop (hx : p.tables.exec = Jvm.exec) (hb : c.code = cc) (hd : decode cc pc = .ok (.pop, 1)) (h : q_pop pc lo st σ = some (.inl x')) (kk : q_G p l e R s m args below meth c D cl ac B0 nL k0 w0 Q x') : q_G p l e R s m args below meth c D cl ac B0 nL k0 w0 Q (pc, lo, st, σ) := by
  unfold q_pop at h
  split at h
  · split at h
    · rename_i hc
      cases h
      exact fun H locs ls h1 h2 h3 h4 h5 h6 => lv_pop hx hb hd hc (kk H locs ls h1 h2 h3 h4 h5 h6)
    · cases h
  · cases h
theorem q_ok_pop2 (hx : p.tables.exec = Jvm.exec) (hb : c.code = cc) (hd : decode cc pc = .ok (.pop2, 1)) (h : q_pop2 pc lo st σ = some (.inl x')) (kk : q_G p l e R s m args below meth c D cl ac B0 nL k0 w0 Q x') : q_G p l e R s m args below meth c D cl ac B0 nL k0 w0 Q (pc, lo, st, σ) := by
  unfold q_pop2 at h
  split at h
  · cases h
    exact fun H locs ls h1 h2 h3 h4 h5 h6 => lv_pop2_2 hx hb hd rfl (kk H locs ls h1 h2 h3 h4 h5 h6)
  · cases h
theorem q_ok_dupx1 (hx : p.tables.exec = Jvm.exec) (hb : c.code = cc) (hd : decode cc pc = .ok (.dup_x1, 1)) (h : q_dupx1 pc lo st σ = some (.inl x')) (kk : q_G p l e R s m args below meth c D cl ac B0 nL k0 w0 Q x') : q_G p l e R s m args below meth c D cl ac B0 nL k0 w0 Q (pc, lo, st, σ) := by
  unfold q_dupx1 at h
  split at h
  · split at h
    · rename_i hc
      cases h
      exact fun H locs ls h1 h2 h3 h4 h5 h6 => lv_dup_x1 hx hb hd hc.1 hc.2 (kk H locs ls h1 h2 h3 h4 h5 h6)
    · cases h
  · cases h
theorem q_ok_dupx2 (hx : p.tables.exec = Jvm.exec) (hb : c.code = cc) (hd : decode cc pc = .ok (.dup_x2, 1)) (h : q_dupx2 pc lo st σ = some (.inl x')) (kk : q_G p l e R s m args below meth c D cl ac B0 nL k0 w0 Q x') : q_G p l e R s m args below meth c D cl ac B0 nL k0 w0 Q (pc, lo, st, σ) := by
  unfold q_dupx2 at h
  split at h
  · split at h
    · rename_i hc
      cases h
      exact fun H locs ls h1 h2 h3 h4 h5 h6 => lv_dup_x2 hx hb hd hc.1 hc.2.1 hc.2.2 (kk H locs ls h1 h2 h3 h4 h5 h6)
    · cases h
  · cases h
theorem q_ok_dup2 (hx : p.tables.exec = Jvm.exec) (hb : c.code = cc) (hd : decode cc pc = .ok (.dup2, 1)) (h : q_dup2 pc lo st σ = some (.inl x')) (kk : q_G p l e R s m args below meth c D cl ac B0 nL k0 w0 Q x') : q_G p l e R s m args below meth c D cl ac B0 nL k0 w0 Q (pc, lo, st, σ) := by
  unfold q_dup2 at h
  split at h
  · cases h
    exact fun H locs ls h1 h2 h3 h4 h5 h6 => lv_dup2_2 hx hb hd rfl (kk H locs ls h1 h2 h3 h4 h5 h6)
  · split at h
    · rename_i hc
      cases h
      exact fun H locs ls h1 h2 h3 h4 h5 h6 => lv_dup2_11 hx hb hd hc.1 hc.2 (kk H locs ls h1 h2 h3 h4 h5 h6)
    · cases h
  · cases h
theorem q_ok_dup2x1 (hx : p.tables.exec = Jvm.exec) (hb : c.code = cc) (hd : decode cc pc = .ok (.dup2_x1, 1)) (h : q_dup2x1 pc lo st σ = some (.inl x')) (kk : q_G p l e R s m args below meth c D cl ac B0 nL k0 w0 Q x') : q_G p l e R s m args below meth c D cl ac B0 nL k0 w0 Q (pc, lo, st, σ) := by
  unfold q_dup2x1 at h
  split at h
  · split at h
    · rename_i hc
      cases h
      exact fun H locs ls h1 h2 h3 h4 h5 h6 => lv_dup2_x1_2 hx hb hd rfl hc (kk H locs ls h1 h2 h3 h4 h5 h6)
    · cases h
  · cases h
theorem q_ok_if {cd : ClassFile.Cond} {off : Int} (hx : p.tables.exec = Jvm.exec) (hb : c.code = cc) (hd : decode cc pc = .ok (.ifCond cd off, 3)) (h : q_if cd off pc lo st σ = some (.inl x')) (kk : q_G p l e R s m args below meth c D cl ac B0 nL k0 w0 Q x') : q_G p l e R s m args below meth c D cl ac B0 nL k0 w0 Q (pc, lo, st, σ) := by
  unfold q_if at h
  split at h
  · cases cd
    · exact q_ok_br (fun H locs ls k w tgt ht a b => lv_if_eq hx hb hd ht a b) h kk
    · exact q_ok_br (fun H locs ls k w tgt ht a b => lv_if_ne hx hb hd ht a (fun z => b (fun y => y z))) h kk
    · exact q_ok_br (fun H locs ls k w tgt ht a b => lv_if_lt hx hb hd ht a b) h kk
    · exact q_ok_br (fun H locs ls k w tgt ht a b => lv_if_ge hx hb hd ht a b) h kk
    · exact q_ok_br (fun H locs ls k w tgt ht a b => lv_if_gt hx hb hd ht a b) h kk
    · exact q_ok_br (fun H locs ls k w tgt ht a b => lv_if_le hx hb hd ht a b) h kk
  · cases h
theorem q_ok_icmp {cd : ClassFile.Cond} {off : Int} (hx : p.tables.exec = Jvm.exec) (hb : c.code = cc) (hd : decode cc pc = .ok (.if_icmp cd off, 3)) (h : q_icmp cd off pc lo st σ = some (.inl x')) (kk : q_G p l e R s m args below meth c D cl ac B0 nL k0 w0 Q x') : q_G p l e R s m args below meth c D cl ac B0 nL k0 w0 Q (pc, lo, st, σ) := by
  unfold q_icmp at h
  split at h
  · cases cd
    · exact q_ok_br (fun H locs ls k w tgt ht a b => lv_icmp_eq hx hb hd ht a b) h kk
    · exact q_ok_br (fun H locs ls k w tgt ht a b => lv_icmp_ne hx hb hd ht a (fun z => b (fun y => y z))) h kk
    · exact q_ok_br (fun H locs ls k w tgt ht a b => lv_icmp_lt hx hb hd ht a b) h kk
    · exact q_ok_br (fun H locs ls k w tgt ht a b => lv_icmp_ge hx hb hd ht a b) h kk
    · exact q_ok_br (fun H locs ls k w tgt ht a b => lv_icmp_gt hx hb hd ht a b) h kk
    · exact q_ok_br (fun H locs ls k w tgt ht a b => lv_icmp_le hx hb hd ht a b) h kk
  · cases h
theorem q_ok_ifnull {off : Int} (hx : p.tables.exec = Jvm.exec) (hb : c.code = cc) (hd : decode cc pc = .ok (.ifnull off, 3)) (h : q_ifnull off pc lo st σ = some (.inl x')) (kk : q_G p l e R s m args below meth c D cl ac B0 nL k0 w0 Q x') : q_G p l e R s m args below meth c D cl ac B0 nL k0 w0 Q (pc, lo, st, σ) := by
  unfold q_ifnull at h
  split at h
  · split at h
    · rename_i ht
      cases h
      exact fun H locs ls h1 h2 h3 h4 h5 h6 => lv_ifnullN hx hb hd ht (kk H locs ls h1 h2 h3 h4 h5 h6)
    · cases h
  · cases h
    exact fun H locs ls h1 h2 h3 h4 h5 h6 => lv_ifnull hx hb hd (kk H locs ls h1 h2 h3 h4 h5 h6)
  · cases h
theorem q_ok_ifnonnull {off : Int} (hx : p.tables.exec = Jvm.exec) (hb : c.code = cc) (hd : decode cc pc = .ok (.ifnonnull off, 3)) (h : q_ifnonnull off pc lo st σ = some (.inl x')) (kk : q_G p l e R s m args below meth c D cl ac B0 nL k0 w0 Q x') : q_G p l e R s m args below meth c D cl ac B0 nL k0 w0 Q (pc, lo, st, σ) := by
  unfold q_ifnonnull at h
  split at h
  · split at h
    · rename_i ht
      cases h
      exact fun H locs ls h1 h2 h3 h4 h5 h6 => lv_ifnonnull hx hb hd ht (kk H locs ls h1 h2 h3 h4 h5 h6)
    · cases h
  · cases h
    exact fun H locs ls h1 h2 h3 h4 h5 h6 => lv_ifnonnullN hx hb hd (kk H locs ls h1 h2 h3 h4 h5 h6)
  · cases h
theorem q_ok_goto {off : Int} (hx : p.tables.exec = Jvm.exec) (hb : c.code = cc) (hd : decode cc pc = .ok (.goto off, 3)) (h : q_goto off pc lo st σ = some (.inl x')) (kk : q_G p l e R s m args below meth c D cl ac B0 nL k0 w0 Q x') : q_G p l e R s m args below meth c D cl ac B0 nL k0 w0 Q (pc, lo, st, σ) := by
  unfold q_goto at h
  split at h
  · rename_i ht
    cases h
    exact fun H locs ls h1 h2 h3 h4 h5 h6 => lv_goto hx hb hd ht (kk H locs ls h1 h2 h3 h4 h5 h6)
  · cases h
theorem q_ok_lookup {dflt : Int} {ps : Array (Int × Int)} {len : Nat} (hx : p.tables.exec = Jvm.exec) (hb : c.code = cc) (hd : decode cc pc = .ok (.lookupswitch dflt ps, len)) (h : q_lookup dflt ps pc lo st σ = some (.inl x')) (kk : q_G p l e R s m args below meth c D cl ac B0 nL k0 w0 Q x') : q_G p l e R s m args below meth c D cl ac B0 nL k0 w0 Q (pc, lo, st, σ) := by
  unfold q_lookup at h
  split at h
  · split at h
    · rename_i ht
      cases h
      exact fun H locs ls h1 h2 h3 h4 h5 h6 => lv_lookup hx hb hd ht.1 rfl ht.2 (kk H locs ls h1 h2 h3 h4 h5 h6)
    · cases h
  · cases h
theorem q_ok_table {dflt low high : Int} {offs : Array Int} {len : Nat} (hx : p.tables.exec = Jvm.exec) (hb : c.code = cc) (hd : decode cc pc = .ok (.tableswitch dflt low high offs, len)) (h : q_table dflt low high offs pc lo st σ = some (.inl x')) (kk : q_G p l e R s m args below meth c D cl ac B0 nL k0 w0 Q x') : q_G p l e R s m args below meth c D cl ac B0 nL k0 w0 Q (pc, lo, st, σ) := by
  unfold q_table at h
  split at h
  · rename_i x r
    split at h
    · rename_i off ho
      split at h
      · rename_i ht
        cases h
        unfold q_toff at ho
        split at ho
        · rename_i hz
          cases ho
          exact fun H locs ls h1 h2 h3 h4 h5 h6 => lv_tableOut hx hb hd hz ht (kk H locs ls h1 h2 h3 h4 h5 h6)
        · rename_i hz
          exact fun H locs ls h1 h2 h3 h4 h5 h6 => lv_tableIn hx hb hd (fun z => hz (Or.inl z)) (fun z => hz (Or.inr z)) ho ht (kk H locs ls h1 h2 h3 h4 h5 h6)
      · cases h
    · cases h
  · cases h
theorem q_ok_getf {f : Option (Nat × Nat × FieldType × Nat)} {idx : Nat} (Cx : q_Cx p s m args c D cl ac B0 own cc nL Ts Ns) (hf : ∀ x, f = some x → q_fok cl Ts Ns own idx x) (hd : decode cc pc = .ok (.getfield idx, 3)) (h : q_getf f pc lo st σ = some (.inl x')) (kk : q_G p l e R s m args below meth c D cl ac B0 nL k0 w0 Q x') : q_G p l e R s m args below meth c D cl ac B0 nL k0 w0 Q (pc, lo, st, σ) := by
  obtain ⟨hx, hb, hml, hown, hts, hns, hK, hB⟩ := Cx
  unfold q_getf at h
  split at h
  · rename_i ci k ty fin a r
    split at h
    · rename_i cj fs ha
      split at h
      · rename_i hc
        subst hc
        split at h
        · rename_i v hv
          cases h
          obtain ⟨C, T, N, ty0, g1, g2, g3, g4, g5, g6, g7, g8, g9⟩ := hf _ rfl
          intro H locs ls h1 h2 h3 h4 h5 h6
          have hP := q_P1 (h3.2 a _ ha).2
          rcases g9 with g9 | ⟨host, g9⟩
          · exact va_get hx hb hts g3 hown hK hP 0 rfl g1 k g2 (hts _ g9) (fun _ z => z) hv hd (kk H locs ls h1 h2 h3 h4 h5 h6)
          · exact va_getN hx hb hts g3 hown hK hP 0 rfl g1 k g2 (va_Nw.use rfl (hns _ g9)) (fun _ z => z) hv hd (kk H locs ls h1 h2 h3 h4 h5 h6)
        · cases h
      · cases h
    · cases h
  · cases h
theorem q_ok_putf {f : Option (Nat × Nat × FieldType × Nat)} {idx : Nat} {ini : Bool} (Cx : q_Cx p s m args c D cl ac B0 own cc nL Ts Ns) (hi : ini = true → meth.name = "<init>") (hf : ∀ x, f = some x → q_fok cl Ts Ns own idx x) (hd : decode cc pc = .ok (.putfield idx, 3)) (h : q_putf f ini pc lo st σ = some (.inl x')) (kk : q_G p l e R s m args below meth c D cl ac B0 nL k0 w0 Q x') : q_G p l e R s m args below meth c D cl ac B0 nL k0 w0 Q (pc, lo, st, σ) := by
  obtain ⟨hx, hb, hml, hown, hts, hns, hK, hB⟩ := Cx
  unfold q_putf at h
  split at h
  · rename_i ci k ty fin v a r
    split at h
    · rename_i cj fs ha
      split at h
      · rename_i hc
        obtain ⟨hc, hkl, hn, hfit, hfin⟩ := hc
        subst hc
        cases h
        obtain ⟨C, T, N, ty0, g1, g2, g3, g4, g5, g6, g7, g8, g9⟩ := hf _ rfl
        dsimp only at g1 g2 g6 g7 g8 g9
        intro H locs ls h1 h2 h3 h4 h5 h6
        obtain ⟨hBa, hat⟩ := h3.2 a _ ha
        have hap := va_apart (own := own) hts g3 ty0 g4 g5 hK g1
        obtain ⟨r0, hr0, cell, q1, q2, q3, q4⟩ := hat
        have hr : r0 = (C, T, N) := Option.some.inj (hr0.symm.trans g1)
        subst hr
        obtain ⟨hS, hfc, kC, hkC, hkind⟩ := hK.1 cj _ g1
        obtain ⟨cf, kf, fi, f, hi9, hsl⟩ := hS k g2
        have hst := (u_facts hfc hkC (u_lays hts g3 g2) hi9).1
        have fin9 : ∀ (H' : Heap), H'[a]? = some (cell.setSlot f.slot v) → H'.size = H.size → (∀ q, q ≠ a → H'[q]? = H[q]?) → W p l e R s m args below meth c H' (locs ++ [⟨a, f.slot⟩]) (σ.2.2.1 - k0) (σ.2.2.2 - w0) Q (F0 m (pc + 3) ls r) := by
          intro H' e1 e2 e3
          refine kk H' _ ls h1 h2 (h3.put e2 e3 hBa ?_) (h4.put e2 e3 hBa) h5 h6
          rw [hsl] at e1
          exact ⟨_, g1, t_OB.to (V := updV (vp_V fs) k v) ⟨_, e1, q2, q3, t_set q4 hap g2 v⟩ (fun j _ => vp_updV_set hkl v j)⟩
        rcases hfin with hz | ⟨hz, hini⟩
        · have hlay := hts _ (g3 _ (u_in_lay g2))
          unfold u_lay at hlay
          rw [if_neg (by rw [g7 hz]; decide)] at hlay
          have h6' := u_store hfc hkC hkind hlay hi9 g6 hn hfit
          rcases g9 with g9 | ⟨host, g9⟩
          · exact W.putK hx hb (f := f) ⟨hown, hts _ g9, ⟨_, _, _, hi9⟩, hst⟩ (by rw [q2]; exact h6') q1 q3 (by rw [hsl]; exact k2_hasslot (q4 k g2)) rfl rfl hd fin9
          · exact va_WputK hx hb hown (va_Nw.use rfl (hns _ g9)) hi9 hst (by rw [q2]; exact h6') q1 q3 (by rw [hsl]; exact k2_hasslot (q4 k g2)) rfl rfl hd fin9
        · obtain ⟨g81, g82, g83⟩ := g8 hz
          have hlay := hts _ (g3 _ (u_in_lay g2))
          unfold u_lay at hlay
          rw [if_pos g81] at hlay
          have hcf : m.cls = cf := by
            obtain ⟨_, _, c', _, _, _, -, -, hf', -, -, -, hown2, -⟩ := Cond.laysFinal_spec hlay
            have e1 : c' = cf := by have := hi9.symm.trans hf'; simp at this; exact this.1.symm
            rw [g82] at hown2
            rw [← e1]; exact Option.some.inj (hown.symm.trans hown2)
          have h6' := u_fits hfc hkC hkind (Or.inr hlay) hi9 g6 hn hfit
          exact W.putFinK hx hb hown (hts _ g83) hi9 hst hcf (hi hini) (by rw [q2]; exact h6') q1 q3 (by rw [hsl]; exact k2_hasslot (q4 k g2)) rfl rfl hd fin9
      · cases h
    · cases h
  · cases h
theorem q_ok_iald (Cx : q_Cx p s m args c D cl ac B0 own cc nL Ts Ns) (hd : decode cc pc = .ok (.iaload, 1)) (h : q_iald 0 pc lo st σ = some (.inl x')) (kk : q_G p l e R s m args below meth c D cl ac B0 nL k0 w0 Q x') : q_G p l e R s m args below meth c D cl ac B0 nL k0 w0 Q (pc, lo, st, σ) := by
  obtain ⟨hx, hb, hml, hown, hts, hns, hK, hB⟩ := Cx
  unfold q_iald at h
  split at h
  · rename_i i a r
    split at h
    · rename_i kd n f ha
      split at h
      · rename_i hc
        obtain ⟨hc, hin⟩ := hc
        subst hc
        cases h
        intro H locs ls h1 h2 h3 h4 h5 h6
        exact va_iald hx hb hK (q_P1 (h3.2 a _ ha).2) 0 0 rfl rfl hin hd (kk H locs ls h1 h2 h3 h4 h5 h6)
      · cases h
    · cases h
  · cases h
theorem q_ok_cald (Cx : q_Cx p s m args c D cl ac B0 own cc nL Ts Ns) (hd : decode cc pc = .ok (.caload, 1)) (h : q_iald 1 pc lo st σ = some (.inl x')) (kk : q_G p l e R s m args below meth c D cl ac B0 nL k0 w0 Q x') : q_G p l e R s m args below meth c D cl ac B0 nL k0 w0 Q (pc, lo, st, σ) := by
  obtain ⟨hx, hb, hml, hown, hts, hns, hK, hB⟩ := Cx
  unfold q_iald at h
  split at h
  · rename_i i a r
    split at h
    · rename_i kd n f ha
      split at h
      · rename_i hc
        obtain ⟨hc, hin⟩ := hc
        subst hc
        cases h
        intro H locs ls h1 h2 h3 h4 h5 h6
        exact va_cald hx hb hK (q_P1 (h3.2 a _ ha).2) 0 1 rfl rfl hin hd (kk H locs ls h1 h2 h3 h4 h5 h6)
      · cases h
    · cases h
  · cases h
theorem q_ok_zald (Cx : q_Cx p s m args c D cl ac B0 own cc nL Ts Ns) (hd : decode cc pc = .ok (.baload, 1)) (h : q_iald 3 pc lo st σ = some (.inl x')) (kk : q_G p l e R s m args below meth c D cl ac B0 nL k0 w0 Q x') : q_G p l e R s m args below meth c D cl ac B0 nL k0 w0 Q (pc, lo, st, σ) := by
  obtain ⟨hx, hb, hml, hown, hts, hns, hK, hB⟩ := Cx
  unfold q_iald at h
  split at h
  · rename_i i a r
    split at h
    · rename_i kd n f ha
      split at h
      · rename_i hc
        obtain ⟨hc, hin⟩ := hc
        subst hc
        cases h
        intro H locs ls h1 h2 h3 h4 h5 h6
        exact va_zald hx hb hK (q_P1 (h3.2 a _ ha).2) 0 3 rfl rfl hin hd (kk H locs ls h1 h2 h3 h4 h5 h6)
      · cases h
    · cases h
  · cases h
theorem q_ok_lald (Cx : q_Cx p s m args c D cl ac B0 own cc nL Ts Ns) (hd : decode cc pc = .ok (.laload, 1)) (h : q_lald pc lo st σ = some (.inl x')) (kk : q_G p l e R s m args below meth c D cl ac B0 nL k0 w0 Q x') : q_G p l e R s m args below meth c D cl ac B0 nL k0 w0 Q (pc, lo, st, σ) := by
  obtain ⟨hx, hb, hml, hown, hts, hns, hK, hB⟩ := Cx
  unfold q_lald at h
  split at h
  · rename_i i a r
    split at h
    · rename_i kd n f ha
      split at h
      · rename_i hc
        obtain ⟨hc, hin⟩ := hc
        subst hc
        cases h
        intro H locs ls h1 h2 h3 h4 h5 h6
        exact va_lald hx hb hK (q_P1 (h3.2 a _ ha).2) 0 2 rfl rfl hin hd (kk H locs ls h1 h2 h3 h4 h5 h6)
      · cases h
    · cases h
  · cases h
theorem q_ok_iast (Cx : q_Cx p s m args c D cl ac B0 own cc nL Ts Ns) (hd : decode cc pc = .ok (.iastore, 1)) (h : q_iast 0 (fun x => x) pc lo st σ = some (.inl x')) (kk : q_G p l e R s m args below meth c D cl ac B0 nL k0 w0 Q x') : q_G p l e R s m args below meth c D cl ac B0 nL k0 w0 Q (pc, lo, st, σ) := by
  obtain ⟨hx, hb, hml, hown, hts, hns, hK, hB⟩ := Cx
  unfold q_iast at h
  split at h
  · rename_i x i a r
    split at h
    · rename_i kd n f ha
      split at h
      · rename_i hc
        obtain ⟨hc, hin⟩ := hc
        subst hc
        cases h
        intro H locs ls h1 h2 h3 h4 h5 h6
        obtain ⟨hBa, hat⟩ := h3.2 a _ ha
        refine W.iast hx hb hat ((hK.2 0 _ rfl).1 n (fun j => .int (f j))) (fun q => by cases q) (by show ¬ (i < 0 ∨ (arrV _ _ _).slots.size ≤ _); rw [arrV_size]; exact hin) rfl rfl hd fun H1 e z oq => ?_
        refine kk H1 _ ls h1 h2 (h3.put z oq hBa ?_) (h4.put z oq hBa) h5 h6
        show H1[a]? = some (vp_cell _ _)
        rw [e]
        rw [vp_cell_i, vp_cell_i, arrV_store]
        congr 2
        funext q
        by_cases hq : q = i.toNatClampNeg
        · subst hq
          simp [updV, upd]
        · simp [updV, upd, hq]
      · cases h
    · cases h
  · cases h
theorem q_ok_cast (Cx : q_Cx p s m args c D cl ac B0 own cc nL Ts Ns) (hd : decode cc pc = .ok (.castore, 1)) (h : q_iast 1 (vp_nar .char) pc lo st σ = some (.inl x')) (kk : q_G p l e R s m args below meth c D cl ac B0 nL k0 w0 Q x') : q_G p l e R s m args below meth c D cl ac B0 nL k0 w0 Q (pc, lo, st, σ) := by
  obtain ⟨hx, hb, hml, hown, hts, hns, hK, hB⟩ := Cx
  unfold q_iast at h
  split at h
  · rename_i x i a r
    split at h
    · rename_i kd n f ha
      split at h
      · rename_i hc
        obtain ⟨hc, hin⟩ := hc
        subst hc
        cases h
        intro H locs ls h1 h2 h3 h4 h5 h6
        obtain ⟨hBa, hat⟩ := h3.2 a _ ha
        refine W.cast hx hb hat ((hK.2 1 _ rfl).1 n (fun j => .int (f j))) (fun q => by cases q) (by show ¬ (i < 0 ∨ (arrV _ _ _).slots.size ≤ _); rw [arrV_size]; exact hin) rfl rfl hd fun H1 e z oq => ?_
        refine kk H1 _ ls h1 h2 (h3.put z oq hBa ?_) (h4.put z oq hBa) h5 h6
        show H1[a]? = some (vp_cell _ _)
        rw [e]
        rw [vp_cell_i, vp_cell_i, arrV_store]
        congr 2
        funext q
        by_cases hq : q = i.toNatClampNeg
        · subst hq
          simp [updV, upd, vp_nar]
          try rfl
        · simp [updV, upd, hq]
      · cases h
    · cases h
  · cases h
theorem q_ok_zast (Cx : q_Cx p s m args c D cl ac B0 own cc nL Ts Ns) (hd : decode cc pc = .ok (.bastore, 1)) (h : q_iast 3 (vp_nar .boolean) pc lo st σ = some (.inl x')) (kk : q_G p l e R s m args below meth c D cl ac B0 nL k0 w0 Q x') : q_G p l e R s m args below meth c D cl ac B0 nL k0 w0 Q (pc, lo, st, σ) := by
  obtain ⟨hx, hb, hml, hown, hts, hns, hK, hB⟩ := Cx
  unfold q_iast at h
  split at h
  · rename_i x i a r
    split at h
    · rename_i kd n f ha
      split at h
      · rename_i hc
        obtain ⟨hc, hin⟩ := hc
        subst hc
        cases h
        intro H locs ls h1 h2 h3 h4 h5 h6
        obtain ⟨hBa, hat⟩ := h3.2 a _ ha
        refine W.zast hx hb hat ((hK.2 3 _ rfl).1 n (fun j => .int (f j))) (fun q => by cases q) (by show ¬ (i < 0 ∨ (arrV _ _ _).slots.size ≤ _); rw [arrV_size]; exact hin) rfl rfl hd fun H1 e z oq => ?_
        refine kk H1 _ ls h1 h2 (h3.put z oq hBa ?_) (h4.put z oq hBa) h5 h6
        show H1[a]? = some (vp_cell _ _)
        rw [e]
        rw [vp_cell_i, vp_cell_i, arrV_store]
        congr 2
        funext q
        by_cases hq : q = i.toNatClampNeg
        · subst hq
          simp [updV, upd, vp_nar]
          try rfl
        · simp [updV, upd, hq]
      · cases h
    · cases h
  · cases h
theorem q_ok_last (Cx : q_Cx p s m args c D cl ac B0 own cc nL Ts Ns) (hd : decode cc pc = .ok (.lastore, 1)) (h : q_last pc lo st σ = some (.inl x')) (kk : q_G p l e R s m args below meth c D cl ac B0 nL k0 w0 Q x') : q_G p l e R s m args below meth c D cl ac B0 nL k0 w0 Q (pc, lo, st, σ) := by
  obtain ⟨hx, hb, hml, hown, hts, hns, hK, hB⟩ := Cx
  unfold q_last at h
  split at h
  · rename_i x i a r
    split at h
    · rename_i kd n f ha
      split at h
      · rename_i hc
        obtain ⟨hc, hin⟩ := hc
        subst hc
        cases h
        intro H locs ls h1 h2 h3 h4 h5 h6
        obtain ⟨hBa, hat⟩ := h3.2 a _ ha
        refine W.last hx hb hat ((hK.2 2 _ rfl).1 n (fun j => .long (f j))) (fun q => by cases q) (by show ¬ (i < 0 ∨ (arrV _ _ _).slots.size ≤ _); rw [arrV_size]; exact hin) rfl rfl hd fun H1 e z oq => ?_
        refine kk H1 _ ls h1 h2 (h3.put z oq hBa ?_) (h4.put z oq hBa) h5 h6
        show H1[a]? = some (vp_cell _ _)
        rw [e]
        rw [vp_cell_l, vp_cell_l, arrV_store]
        congr 2
        funext q
        by_cases hq : q = i.toNatClampNeg
        · subst hq
          simp [updV, vp_updL]
        · simp [updV, vp_updL, hq]
      · cases h
    · cases h
  · cases h
theorem q_ok_alen (Cx : q_Cx p s m args c D cl ac B0 own cc nL Ts Ns) (hd : decode cc pc = .ok (.arraylength, 1)) (h : q_alen pc lo st σ = some (.inl x')) (kk : q_G p l e R s m args below meth c D cl ac B0 nL k0 w0 Q x') : q_G p l e R s m args below meth c D cl ac B0 nL k0 w0 Q (pc, lo, st, σ) := by
  obtain ⟨hx, hb, hml, hown, hts, hns, hK, hB⟩ := Cx
  unfold q_alen at h
  split at h
  · rename_i a r
    split at h
    · rename_i kd n z ha
      split at h
      · rename_i hk
        cases h
        intro H locs ls h1 h2 h3 h4 h5 h6
        have hP := q_P1 (h3.2 a _ ha).2
        match kd, hk with
        | 0, _ => exact va_alen hx hb hK hP 0 0 rfl (ty := .int) rfl rfl hd (kk H locs ls h1 h2 h3 h4 h5 h6)
        | 1, _ => exact va_alen hx hb hK hP 0 1 rfl (ty := .char) rfl rfl hd (kk H locs ls h1 h2 h3 h4 h5 h6)
        | 2, _ => exact va_alen hx hb hK hP 0 2 rfl (ty := .long) rfl rfl hd (kk H locs ls h1 h2 h3 h4 h5 h6)
        | 3, _ => exact va_alen hx hb hK hP 0 3 rfl (ty := .boolean) rfl rfl hd (kk H locs ls h1 h2 h3 h4 h5 h6)
      · cases h
    · cases h
  · cases h
/-- a new array: kd its kind -/
theorem q_ok_new {t : ClassFile.ArrayType} {kd by_ : Nat} {mk : Nat → vp_A} {ty : FieldType} (Cx : q_Cx p s m args c D cl ac B0 own cc nL Ts Ns) (hty : newarray.typeOf t = ty) (hkd : (q_tys ac)[kd]? = some (ac kd, ty)) (hra : va_RA s (ac kd) ty → s.vm.findClass ("[" ++ ty.toString) = some (ac kd)) (hby : componentBytes ty = by_) (hmk : ∀ (n : Nat) (cA : ClassId), vp_cell cA (mk n) = arrV cA n (fun _ => defaultValue ty)) (harr : Cond.arrayClass ty ∈ Ts)
    (hRc : x'.2.2.2.2.2.1 - k0 ≤ R.cells) (hRs : x'.2.2.2.2.2.2 - w0 ≤ R.slots) (hd : decode cc pc = .ok (.newarray t, 2)) (h : q_new kd by_ mk pc lo st σ = some (.inl x')) (kk : q_G p l e R s m args below meth c D cl ac B0 nL k0 w0 Q x') : q_G p l e R s m args below meth c D cl ac B0 nL k0 w0 Q (pc, lo, st, σ) := by
  obtain ⟨hx, hb, hml, hown, hts, hns, hK, hB⟩ := Cx
  subst hty
  unfold q_new at h
  split at h
  · rename_i n r
    split at h
    · cases h
    · rename_i hc
      cases h
      intro H locs ls h1 h2 h3 h4 h5 h6
      dsimp only at hRc hRs h5 h6
      have hn : ¬ n < 0 := fun z => hc (Or.inl z)
      have hbt : n.toNatClampNeg * by_ ≤ 536870912 := Nat.not_lt.mp fun z => hc (Or.inr z)
      show W p l e R s m args below meth c H locs (σ.2.2.1 - k0) (σ.2.2.2 - w0) Q (F0 m pc ls (.int n :: r))
      refine va_newaK hx hb (hts _ harr) rfl hd rfl hn rfl (by rw [hby]; exact hbt) (by omega) (by omega) rfl fun H1 cA e1 z1 o1 hAr hNm => ?_
      have hcA : cA = ac kd := Option.some.inj (hNm.symm.trans (hra (hK.2 kd _ hkd).2))
      subst hcA
      have := kk H1 locs ls h1 h2 (h3.new z1 o1 (Nat.le_trans hB h4.1) (by show H1[H.size]? = some (vp_cell _ _); rw [hmk]; exact e1)) ⟨Nat.le_trans h4.1 (by omega), fun x g1 g2 => (o1 x (Nat.lt_of_lt_of_le g1 h4.1)).trans (h4.2.1 x g1 g2), h4.2.2⟩ (by dsimp only; omega) (by dsimp only; omega)
      dsimp only at this
      rw [← h3.1] at this
      rw [show σ.2.2.1 - k0 + 1 = σ.2.2.1 + 1 - k0 by omega, show σ.2.2.2 - w0 + n.toNatClampNeg = σ.2.2.2 + n.toNatClampNeg - w0 by omega]
      exact this
  · cases h
theorem q_ok_newA {t : ClassFile.ArrayType} (Cx : q_Cx p s m args c D cl ac B0 own cc nL Ts Ns) (hta : Cond.arrayClass .int ∈ Ts ∧ Cond.arrayClass .char ∈ Ts ∧ Cond.arrayClass .long ∈ Ts ∧ Cond.arrayClass .boolean ∈ Ts)
    (hRc : x'.2.2.2.2.2.1 - k0 ≤ R.cells) (hRs : x'.2.2.2.2.2.2 - w0 ≤ R.slots) (hd : decode cc pc = .ok (.newarray t, 2)) (h : q_newA t pc lo st σ = some (.inl x')) (kk : q_G p l e R s m args below meth c D cl ac B0 nL k0 w0 Q x') : q_G p l e R s m args below meth c D cl ac B0 nL k0 w0 Q (pc, lo, st, σ) := by
  cases t with
  | int => exact q_ok_new (ty := .int) (kd := 0) (by_ := 4) (mk := fun n => (n, .inl fun _ => 0)) Cx rfl rfl (fun z => z) rfl (fun _ _ => rfl) hta.1 hRc hRs hd h kk
  | char => exact q_ok_new (ty := .char) (kd := 1) (by_ := 2) (mk := fun n => (n, .inl fun _ => 0)) Cx rfl rfl (fun z => z) rfl (fun _ _ => rfl) hta.2.1 hRc hRs hd h kk
  | long => exact q_ok_new (ty := .long) (kd := 2) (by_ := 8) (mk := fun n => (n, .inr (.inl fun _ => 0))) Cx rfl rfl (fun z => z) rfl (fun _ _ => rfl) hta.2.2.1 hRc hRs hd h kk
  | boolean => exact q_ok_new (ty := .boolean) (kd := 3) (by_ := 1) (mk := fun n => (n, .inl fun _ => 0)) Cx rfl rfl (fun z => z) rfl (fun _ _ => rfl) hta.2.2.2 hRc hRs hd h kk
  | _ => cases h
theorem q_ok_newC {cn : Option ((Nat × List Value) ⊕ Nat)} {idx : Nat} (Cx : q_Cx p s m args c D cl ac B0 own cc nL Ts Ns) (hf : ∀ n, cn = some (.inl n) → q_nok cl Ts own idx n)
    (hRc : x'.2.2.2.2.2.1 - k0 ≤ R.cells) (hRs : x'.2.2.2.2.2.2 - w0 ≤ R.slots) (hd : decode cc pc = .ok (.new idx, 3)) (h : q_newC cn pc lo st σ = some (.inl x')) (kk : q_G p l e R s m args below meth c D cl ac B0 nL k0 w0 Q x') : q_G p l e R s m args below meth c D cl ac B0 nL k0 w0 Q (pc, lo, st, σ) := by
  obtain ⟨hx, hb, hml, hown, hts, hns, hK, hB⟩ := Cx
  unfold q_newC at h
  split at h
  · rename_i ci fs
    cases h
    obtain ⟨C, T, N, ty0, g1, g2, g3, g4, g5, g6, g7, g8⟩ := hf _ rfl
    dsimp only at g1 g2 g5
    intro H locs ls h1 h2 h3 h4 h5 h6
    dsimp only at hRc hRs h5 h6
    subst g2
    have hKn := hK.1 ci _ g1
    show W p l e R s m args below meth c H locs (σ.2.2.1 - k0) (σ.2.2.2 - w0) Q (F0 m pc ls st)
    refine W.newcK hx hb hown (hts _ g6) (hts _ g7) (hts _ g8) rfl hd (by omega) (by omega) hKn.2.1 rfl fun H1 kC hkC e1 z1 o1 => ?_
    have := kk H1 locs ls h1 h2 (h3.new z1 o1 (Nat.le_trans hB h4.1) ⟨_, g1, (u_born ty0 hts g3 hKn hkC e1 g4).to g5⟩) ⟨Nat.le_trans h4.1 (by omega), fun x y1 y2 => (o1 x (Nat.lt_of_lt_of_le y1 h4.1)).trans (h4.2.1 x y1 y2), h4.2.2⟩ (by dsimp only; omega) (by dsimp only; omega)
    dsimp only at this
    rw [← h3.1] at this
    rw [show σ.2.2.1 - k0 + 1 = σ.2.2.1 + 1 - k0 by omega, show σ.2.2.2 - w0 + fs.length = σ.2.2.2 + fs.length - w0 by omega]
    exact this
  · cases h
  · cases h
end QT
end
section
/-! THE SMALL MACHINE IS TRUE, 4: calls -/
def q_isN : Cond → Bool
  | .fieldLinkNest _ _ _ _ _ _ => true
  | .methodLinkNest _ _ _ _ => true
  | _ => false
theorem q_isN_on {w : Cond} (h : q_isN w = true) : w.onTables = true := by
  cases w <;> first | rfl | cases h
theorem q_isN_warm {w : Cond} (h : q_isN w = true) {s U : State} (hW : s.WarmedH U.vm) (hZ : va_Nw w s) : va_Nw w U := by
  cases w <;> first | exact va_Nw.warmF hW hZ | exact va_Nw.warmM hW hZ | cases h
def q_Pre (D : va_G) (cl : List vw_C) (ac : Nat → ClassId) (B0 : Nat) (Ns : List Cond) (σ : qH) : State → Prop := fun U => q_hold D cl ac B0 σ U.heap ∧ va_K D cl (q_tys ac) U ∧ (∀ w ∈ Ns, va_Nw w U) ∧ B0 ≤ U.heap.size
def q_Post (D : va_G) (cl : List vw_C) (ac : Nat → ClassId) (B0 : Nat) (v : Option Value) (σ' : qH) : Array Value → State → Outcome → State → Prop := fun _ st oc t => oc = .returned v ∧ q_hold D cl ac B0 σ' t.heap ∧ va_F (fun q : Nat => B0 ≤ q) st t
def q_rm (d k w : Nat) : Room := { frames := d, cells := k, slots := w, locals := 64 * d }
def q_Met (l : Launch) (D : va_G) (cl : List vw_C) (ac : Nat → ClassId) (B0 : Nat) (Ts Ns : List Cond) (yn : Nat → MethodName) (Mt : Nat → Option qM) (d z : Nat) (as : List Value) (σ : qH) (v : Option Value) (σ' : qH) : Prop :=
  ∀ M : qM, Mt z = some M → Met l (yn z) (Cond.code (yn z) M.1 M.2.1 M.2.2.1 :: Ts) (q_rm d (σ'.2.2.1 - σ.2.2.1) (σ'.2.2.2 - σ.2.2.2)) (va_Pc as (q_Pre D cl ac B0 Ns σ)) (q_Post D cl ac B0 v σ') (σ'.2.2.1 - σ.2.2.1) (σ'.2.2.2 - σ.2.2.2) (fun q : Nat => B0 ≤ q)
/-- a table of callees is true, d calls deep -/
def q_Snd (l : Launch) (D : va_G) (cl : List vw_C) (ac : Nat → ClassId) (B0 : Nat) (Ts Ns : List Cond) (yn : Nat → MethodName) (Mt : Nat → Option qM) (d : Nat) (rc : qC) : Prop :=
  ∀ (z : Nat) (as : List Value) (σ : qH) (v : Option Value) (σ' : qH), rc z as σ = some (.inl v, σ') → q_Met l D cl ac B0 Ts Ns yn Mt d z as σ v σ' ∧ σ.2.2.1 ≤ σ'.2.2.1 ∧ σ.2.2.2 ≤ σ'.2.2.2
/-- what the words say of a callee z of n parameters -/
def q_zok (Ts : List Cond) (yn : Nat → MethodName) (Mt : Nat → Option qM) (z n : Nat) (M : qM) : Prop :=
  Mt z = some M ∧ Cond.code (yn z) M.1 M.2.1 M.2.2.1 ∈ Ts ∧ Cond.initialized (yn z).cls ∈ Ts ∧ ((yn z).cls ≠ "java/lang/invoke/MethodHandle" ∧ (yn z).cls ≠ "java/lang/invoke/VarHandle" ∧ (parseMethodDescriptor (yn z).desc).map (fun d => d.parameters.length) = some n) ∧ M.2.1 ≤ 40
def q_lok (Ts Ns : List Cond) (own : String) (idx : Nat) (y : MethodName) : Prop := Cond.methodLink own idx y ∈ Ts ∨ ∃ host : String, Cond.methodLinkNest own idx y host ∈ Ns
def q_mok (cl : List vw_C) (Ts Ns : List Cond) (yn : Nat → MethodName) (Mt : Nat → Option qM) (own : String) (idx : Nat) : Nat × Nat × Nat × Nat → Prop
  | (0, _, _, _) => Cond.methodLink own idx objectInit ∈ Ts ∧ Cond.instanceMethod objectInit ∈ Ts ∧ Cond.code objectInit ⟨#[0xb1]⟩ 1 none ∈ Ts
  | (1, z, n, ci) => (∃ M, q_zok Ts yn Mt z n M) ∧ q_lok Ts Ns own idx (yn z) ∧ Cond.instanceMethod (yn z) ∈ Ts ∧ Cond.selects (yn z).cls (yn z) (yn z) ∈ Ts ∧ ∃ (T : u_T) (N : Nat), cl[ci]? = some ((yn z).cls, T, N)
  | (2, z, n, _) => (∃ M, q_zok Ts yn Mt z n M) ∧ q_lok Ts Ns own idx (yn z) ∧ Cond.static (yn z) ∈ Ts
  | (3, z, n, _) => (∃ M, q_zok Ts yn Mt z n M ∧ M.2.2.1 = none) ∧ q_lok Ts Ns own idx (yn z) ∧ Cond.instanceMethod (yn z) ∈ Ts ∧ (yn z).name = "<init>"
  | (4, _, _, _) => Cond.methodLink own idx Lib.Math.max.name ∈ Ts ∧ Cond.static Lib.Math.max.name ∈ Ts ∧ Cond.initialized "java/lang/Math" ∈ Ts ∧ Cond.code Lib.Math.max.name Lib.Math.max.code 2 (some .int) ∈ Ts
  | (5, _, _, _) => Cond.methodLink own idx Lib.Math.min.name ∈ Ts ∧ Cond.static Lib.Math.min.name ∈ Ts ∧ Cond.initialized "java/lang/Math" ∈ Ts ∧ Cond.code Lib.Math.min.name Lib.Math.min.code 2 (some .int) ∈ Ts
  | _ => False
section QC
variable {p : Program} {l : Launch} {e : Env} {R : Room} {s : State} {m : MethodId} {args : Array Value} {below : List Frame} {meth : Method} {c : Code} {D : va_G} {cl : List vw_C} {ac : Nat → ClassId} {B0 nL k0 w0 : Nat} {Q : State → Prop} {own : String} {cc : ByteArray} {Ts Ns : List Cond} {pc : Nat} {lo : qL} {st : List Value} {σ : qH} {x' : qS}
variable {yn : Nat → MethodName} {Mt : Nat → Option qM} {d : Nat} {rc : qC}
theorem q_blind {as : List Value} {σ1 : qH} (hN : ∀ w ∈ Ns, q_isN w = true) : FrameBlind (va_Pc as (q_Pre D cl ac B0 Ns σ1)) := by
  intro a U g mk h
  obtain ⟨h0, h1, h2, h3, h4⟩ := h
  exact ⟨h0, h1, va_K.moved (u := U) (U := U.calling g mk a) (Vm.Alike.refl U.vm) h2, fun w hw => va_Nw.same (u := U) (U := U.calling g mk a) (q_isN_on (hN w hw)) rfl (h3 w hw), h4⟩
theorem q_pre {as : List Value} {H : Heap} {locs : List Loc} (hN : ∀ w ∈ Ns, q_isN w = true) (hns : ∀ w ∈ Ns, va_Nw w s) (hK : va_K D cl (q_tys ac) s) (hh : q_hold D cl ac B0 σ H) (hB : B0 ≤ s.heap.size) (hS : va_S (fun q : Nat => B0 ≤ q) s.heap H locs) :
    ∀ U : State, U.heap = H → s.WarmedH U.vm → va_Pc as (q_Pre D cl ac B0 Ns σ) as.toArray U :=
  fun U hU hW => ⟨rfl, by rw [hU]; exact hh, va_K.moved hW.alike hK, fun w hw => q_isN_warm (hN w hw) hW (hns w hw), by rw [hU]; exact Nat.le_trans hB hS.1⟩
theorem q_ran {H : Heap} {locs : List Loc} {ls : Array Slot} {cells slots mc ms : Nat} {st0 rest : List Value} {a : Array Value} {v : Option Value} {σ' : qH}
    (hr : va_Run p l e R s m args below meth c H locs cells slots mc ms (F0 m pc ls st0) rest (q_Post D cl ac B0 v σ' a) (fun q : Nat => B0 ≤ q)) (hS : va_S (fun q : Nat => B0 ≤ q) s.heap H locs)
    (kk : ∀ (H1 : Heap) (locs1 : List Loc), q_hold D cl ac B0 σ' H1 → va_S (fun q : Nat => B0 ≤ q) s.heap H1 locs1 → W p l e R s m args below meth c H1 locs1 (cells + mc) (slots + ms) Q (F0 m (pc + 3) ls (v.toList ++ rest))) : W p l e R s m args below meth c H locs cells slots Q (F0 m pc ls st0) := by
  intro T hT X
  obtain ⟨v', st₀, t, T', L, h0, X', hL, e1, e2, ⟨hv, hh, hz, hk⟩, stp⟩ := hr T hT X
  cases hv
  rw [h0] at hz hk
  obtain ⟨t2, a1, b1⟩ := kk T'.heap (locs ++ L) (by rw [e1]; exact hh)
    ⟨Nat.le_trans hS.1 (by rw [e1]; exact hz), fun q h1 h2 => by rw [e1, hk q (Nat.lt_of_lt_of_le h1 hS.1) h2]; exact hS.2.1 q h1 h2, fun q hq => by
      rcases List.mem_append.mp hq with h | h
      · exact hS.2.2 q h
      · exact hL q h⟩ T' rfl X'
  exact ⟨t2, stp t2 a1, b1⟩
theorem q_goodC {z n : Nat} {M : qM} (hT : GoodIn Ts Ts) (hz : q_zok Ts yn Mt z n M) : GoodIn Ts (Cond.code (yn z) M.1 M.2.1 M.2.2.1 :: Ts) := by
  intro w hw
  rcases List.mem_cons.mp hw with rfl | h
  · exact hT _ hz.2.1
  · exact hT w h
theorem q_room {d0 k w n : Nat} (hRf : d0 + 1 ≤ R.frames) (hRl : 64 * (d0 + 1) ≤ R.locals) (hn : n ≤ 40) : (q_rm d0 k w).frames + 1 ≤ R.frames ∧ 8 + (n + 11) + (q_rm d0 k w).locals ≤ R.locals := by
  refine ⟨hRf, ?_⟩
  show 8 + (n + 11) + 64 * d0 ≤ _
  omega
theorem q_take {n : Nat} {b : Value} {r : List Value} (h : st.drop n = b :: r) : st = (st.take n).reverse.reverse ++ b :: r ∧ (st.take n).reverse.length = n := by
  have hl : n < st.length := by
    rcases Nat.lt_or_ge n st.length with q | q
    · exact q
    · rw [List.drop_eq_nil_of_le q] at h; cases h
  refine ⟨by rw [List.reverse_reverse, ← h, List.take_append_drop], ?_⟩
  rw [List.length_reverse, List.length_take]; omega
theorem q_ok_callV {idx z n ci : Nat} (Cx : q_Cx p s m args c D cl ac B0 own cc nL Ts Ns) (hT : GoodIn Ts Ts) (hN : ∀ w ∈ Ns, q_isN w = true) (hrc : q_Snd l D cl ac B0 Ts Ns yn Mt d rc) (hm : q_mok cl Ts Ns yn Mt own idx (1, z, n, ci)) (hRf : d + 1 ≤ R.frames) (hRl : 64 * (d + 1) ≤ R.locals)
    (hRc : x'.2.2.2.2.2.1 - k0 ≤ R.cells) (hRs : x'.2.2.2.2.2.2 - w0 ≤ R.slots) (hd : decode cc pc = .ok (.invokevirtual idx, 3)) (h : q_call rc (some (1, z, n, ci)) pc lo st σ = some (.inl x')) (kk : q_G p l e R s m args below meth c D cl ac B0 nL k0 w0 Q x') : q_G p l e R s m args below meth c D cl ac B0 nL k0 w0 Q (pc, lo, st, σ) := by
  obtain ⟨hx, hb, hml, hown, hts, hns, hK, hB⟩ := Cx
  obtain ⟨⟨M, hz⟩, hlk, hins, hsel, T, N, hcl⟩ := hm
  have hG := q_goodC hT hz
  obtain ⟨hz1, hz2, hz3, hz4, hz5⟩ := hz
  simp only [q_call] at h
  split at h
  · rename_i b r hst
    split at h
    · rename_i cj fs hb0
      split at h
      · rename_i hc
        obtain ⟨hc, hsum⟩ := hc
        subst hc
        unfold q_back at h
        split at h
        · rename_i v σ' hr
          cases h
          obtain ⟨hM, hk1, hw1⟩ := hrc _ _ _ _ _ hr
          have hM := hM M hz1
          intro H locs ls h1 h2 h3 h4 h5 h6
          dsimp only at hRc hRs h1 h2 h3 h5 h6
          obtain ⟨hst2, hlen⟩ := q_take hst
          have hP := q_P1 (h3.2 b _ hb0).2
          have hmid : ∀ (H1 : Heap) (locs1 : List Loc), q_hold D cl ac B0 σ' H1 → va_S (fun q : Nat => B0 ≤ q) s.heap H1 locs1 → W p l e R s m args below meth c H1 locs1 (σ.2.2.1 - k0 + (σ'.2.2.1 - σ.2.2.1)) (σ.2.2.2 - w0 + (σ'.2.2.2 - σ.2.2.2)) Q (F0 m (pc + 3) ls (v.toList ++ r)) := by
            intro H1 locs1 g1 g2
            have := kk H1 locs1 ls h1 h2 g1 g2 (by dsimp only; omega) (by dsimp only; omega)
            dsimp only at this
            rw [show σ.2.2.1 - k0 + (σ'.2.2.1 - σ.2.2.1) = σ'.2.2.1 - k0 by omega, show σ.2.2.2 - w0 + (σ'.2.2.2 - σ.2.2.2) = σ'.2.2.2 - w0 by omega]
            exact this
          have hroom : σ.2.2.1 - k0 + (σ'.2.2.1 - σ.2.2.1) ≤ R.cells ∧ σ.2.2.2 - w0 + (σ'.2.2.2 - σ.2.2.2) ≤ R.slots := ⟨by omega, by omega⟩
          have hp : PreV s H (yn z).cls b (va_Pc (Value.ref b :: (st.take n).reverse) (q_Pre D cl ac B0 Ns σ)) (st.take n).reverse := ⟨q_blind hN, va_recv hK hP (ci := cj) (q0 := 0) hcl rfl, q_pre hN hns hK h3 hB h4⟩
          have hlo : ls.size = nL := h1.1.trans h2
          have hlk2 : (Cond.selects (yn z).cls (yn z) (yn z)).before args s = true := hts _ hsel
          rcases hlk with hlk | ⟨host, hlk⟩
          · refine q_ran (va_runV (C := (yn z).cls) (n := n) (As := (st.take n).reverse) (rest := r) ⟨hx, hb, hml, hown, hts⟩ hM ⟨callB_of n hts hG rfl rfl rfl (hts _ hz3) (hts _ hlk) hz4 (q_room hRf hRl hz5), hts _ hins, hlk2⟩ hp rfl hlen hlo hst2 (lv_room hsum) hd hroom) h4 hmid
          · refine q_ran (va_runVN (C := (yn z).cls) (n := n) (As := (st.take n).reverse) (rest := r) ⟨hx, hb, hml, hown, hts⟩ hM ⟨va_cnB n hts hG rfl rfl rfl (hns _ hlk) (hts _ hz3) hz4 (q_room hRf hRl hz5), hts _ hins, hlk2⟩ hp rfl hlen hlo hst2 (lv_room hsum) hd hroom) h4 hmid
        · cases h
      · cases h
    · cases h
  · cases h
theorem q_ok_callI {idx z n ci : Nat} (Cx : q_Cx p s m args c D cl ac B0 own cc nL Ts Ns) (hT : GoodIn Ts Ts) (hN : ∀ w ∈ Ns, q_isN w = true) (hrc : q_Snd l D cl ac B0 Ts Ns yn Mt d rc) (hm : q_mok cl Ts Ns yn Mt own idx (3, z, n, ci)) (hRf : d + 1 ≤ R.frames) (hRl : 64 * (d + 1) ≤ R.locals)
    (hRc : x'.2.2.2.2.2.1 - k0 ≤ R.cells) (hRs : x'.2.2.2.2.2.2 - w0 ≤ R.slots) (hd : decode cc pc = .ok (.invokespecial idx, 3)) (h : q_call rc (some (3, z, n, ci)) pc lo st σ = some (.inl x')) (kk : q_G p l e R s m args below meth c D cl ac B0 nL k0 w0 Q x') : q_G p l e R s m args below meth c D cl ac B0 nL k0 w0 Q (pc, lo, st, σ) := by
  obtain ⟨hx, hb, hml, hown, hts, hns, hK, hB⟩ := Cx
  obtain ⟨⟨M, hz, hret⟩, hlk, hins, hini⟩ := hm
  have hG := q_goodC hT hz
  obtain ⟨hz1, hz2, hz3, hz4, hz5⟩ := hz
  simp only [q_call] at h
  split at h
  · rename_i b r hst
    split at h
    · rename_i hsum
      unfold q_back at h
      split at h
      · rename_i v σ' hr
        cases h
        obtain ⟨hM, hk1, hw1⟩ := hrc _ _ _ _ _ hr
        have hM := hM M hz1
        rw [hret] at hM hG
        intro H locs ls h1 h2 h3 h4 h5 h6
        dsimp only at hRc hRs h1 h2 h3 h5 h6
        obtain ⟨hst2, hlen⟩ := q_take hst
        have hmid : ∀ (H1 : Heap) (locs1 : List Loc), q_hold D cl ac B0 σ' H1 → va_S (fun q : Nat => B0 ≤ q) s.heap H1 locs1 → W p l e R s m args below meth c H1 locs1 (σ.2.2.1 - k0 + (σ'.2.2.1 - σ.2.2.1)) (σ.2.2.2 - w0 + (σ'.2.2.2 - σ.2.2.2)) Q (F0 m (pc + 3) ls (v.toList ++ r)) := by
          intro H1 locs1 g1 g2
          have := kk H1 locs1 ls h1 h2 g1 g2 (by dsimp only; omega) (by dsimp only; omega)
          dsimp only at this
          rw [show σ.2.2.1 - k0 + (σ'.2.2.1 - σ.2.2.1) = σ'.2.2.1 - k0 by omega, show σ.2.2.2 - w0 + (σ'.2.2.2 - σ.2.2.2) = σ'.2.2.2 - w0 by omega]
          exact this
        have hroom : σ.2.2.1 - k0 + (σ'.2.2.1 - σ.2.2.1) ≤ R.cells ∧ σ.2.2.2 - w0 + (σ'.2.2.2 - σ.2.2.2) ≤ R.slots := ⟨by omega, by omega⟩
        have hp : PreS s H (va_Pc (Value.ref b :: (st.take n).reverse) (q_Pre D cl ac B0 Ns σ)) (Value.ref b :: (st.take n).reverse) := ⟨q_blind hN, q_pre hN hns hK h3 hB h4⟩
        have hlo : ls.size = nL := h1.1.trans h2
        rcases hlk with hlk | ⟨host, hlk⟩
        · refine q_ran (va_runI (n := n) (As := (st.take n).reverse) (rest := r) ⟨hx, hb, hml, hown, hts⟩ hM ⟨callB_of n hts hG rfl rfl rfl (hts _ hz3) (hts _ hlk) hz4 (q_room hRf hRl hz5), hini, hts _ hins⟩ hp rfl hlen hlo hst2 (lv_room hsum) hd hroom) h4 hmid
        · refine q_ran (va_runIN (n := n) (As := (st.take n).reverse) (rest := r) ⟨hx, hb, hml, hown, hts⟩ hM ⟨va_cnB n hts hG rfl rfl rfl (hns _ hlk) (hts _ hz3) hz4 (q_room hRf hRl hz5), hini, hts _ hins⟩ hp rfl hlen hlo hst2 (lv_room hsum) hd hroom) h4 hmid
      · cases h
    · cases h
  · cases h
theorem q_ok_callS {idx z n ci : Nat} (Cx : q_Cx p s m args c D cl ac B0 own cc nL Ts Ns) (hT : GoodIn Ts Ts) (hN : ∀ w ∈ Ns, q_isN w = true) (hrc : q_Snd l D cl ac B0 Ts Ns yn Mt d rc) (hm : q_mok cl Ts Ns yn Mt own idx (2, z, n, ci)) (hRf : d + 1 ≤ R.frames) (hRl : 64 * (d + 1) ≤ R.locals)
    (hRc : x'.2.2.2.2.2.1 - k0 ≤ R.cells) (hRs : x'.2.2.2.2.2.2 - w0 ≤ R.slots) (hd : decode cc pc = .ok (.invokestatic idx, 3)) (h : q_call rc (some (2, z, n, ci)) pc lo st σ = some (.inl x')) (kk : q_G p l e R s m args below meth c D cl ac B0 nL k0 w0 Q x') : q_G p l e R s m args below meth c D cl ac B0 nL k0 w0 Q (pc, lo, st, σ) := by
  obtain ⟨hx, hb, hml, hown, hts, hns, hK, hB⟩ := Cx
  obtain ⟨⟨M, hz⟩, hlk, hstt⟩ := hm
  have hG := q_goodC hT hz
  obtain ⟨hz1, hz2, hz3, hz4, hz5⟩ := hz
  simp only [q_call] at h
  split at h
  · rename_i hc
    obtain ⟨hn, hsum⟩ := hc
    unfold q_back at h
    split at h
    · rename_i v σ' hr
      cases h
      obtain ⟨hM, hk1, hw1⟩ := hrc _ _ _ _ _ hr
      have hM := hM M hz1
      intro H locs ls h1 h2 h3 h4 h5 h6
      dsimp only at hRc hRs h1 h2 h3 h5 h6
      have hst2 : st = (st.take n).reverse.reverse ++ st.drop n := by rw [List.reverse_reverse, List.take_append_drop]
      have hlen : (st.take n).reverse.length = n := by rw [List.length_reverse, List.length_take]; omega
      have hmid : ∀ (H1 : Heap) (locs1 : List Loc), q_hold D cl ac B0 σ' H1 → va_S (fun q : Nat => B0 ≤ q) s.heap H1 locs1 → W p l e R s m args below meth c H1 locs1 (σ.2.2.1 - k0 + (σ'.2.2.1 - σ.2.2.1)) (σ.2.2.2 - w0 + (σ'.2.2.2 - σ.2.2.2)) Q (F0 m (pc + 3) ls (v.toList ++ st.drop n)) := by
        intro H1 locs1 g1 g2
        have := kk H1 locs1 ls h1 h2 g1 g2 (by dsimp only; omega) (by dsimp only; omega)
        dsimp only at this
        rw [show σ.2.2.1 - k0 + (σ'.2.2.1 - σ.2.2.1) = σ'.2.2.1 - k0 by omega, show σ.2.2.2 - w0 + (σ'.2.2.2 - σ.2.2.2) = σ'.2.2.2 - w0 by omega]
        exact this
      have hroom : σ.2.2.1 - k0 + (σ'.2.2.1 - σ.2.2.1) ≤ R.cells ∧ σ.2.2.2 - w0 + (σ'.2.2.2 - σ.2.2.2) ≤ R.slots := ⟨by omega, by omega⟩
      have hp : PreS s H (va_Pc ((st.take n).reverse) (q_Pre D cl ac B0 Ns σ)) ((st.take n).reverse) := ⟨q_blind hN, q_pre hN hns hK h3 hB h4⟩
      have hlo : ls.size = nL := h1.1.trans h2
      rcases hlk with hlk | ⟨host, hlk⟩
      · refine q_ran (va_runS (n := n) (As := (st.take n).reverse) (rest := st.drop n) ⟨hx, hb, hml, hown, hts⟩ hM ⟨callB_of n hts hG rfl rfl rfl (hts _ hz3) (hts _ hlk) hz4 (q_room hRf hRl hz5), hts _ hstt⟩ hp rfl hlen hlo hst2 (lv_room hsum) hd hroom) h4 hmid
      · refine q_ran (va_runSN (n := n) (As := (st.take n).reverse) (rest := st.drop n) ⟨hx, hb, hml, hown, hts⟩ hM ⟨va_cnB n hts hG rfl rfl rfl (hns _ hlk) (hts _ hz3) hz4 (q_room hRf hRl hz5), hts _ hstt, trivial⟩ hp rfl hlen hlo hst2 (lv_room hsum) hd hroom) h4 hmid
    · cases h
  · cases h
theorem q_ok_callO {idx : Nat} {z : Nat × Nat × Nat} (Cx : q_Cx p s m args c D cl ac B0 own cc nL Ts Ns) (hm : q_mok cl Ts Ns yn Mt own idx (0, z)) (hRf : d + 1 ≤ R.frames) (hRl : 64 * (d + 1) ≤ R.locals) (hd : decode cc pc = .ok (.invokespecial idx, 3)) (h : q_call rc (some (0, z)) pc lo st σ = some (.inl x')) (kk : q_G p l e R s m args below meth c D cl ac B0 nL k0 w0 Q x') : q_G p l e R s m args below meth c D cl ac B0 nL k0 w0 Q (pc, lo, st, σ) := by
  obtain ⟨hx, hb, hml, hown, hts, hns, hK, hB⟩ := Cx
  obtain ⟨m1, m2, m3⟩ := hm
  simp only [q_call] at h
  split at h
  · rename_i a r
    split at h
    · rename_i hsum
      cases h
      intro H locs ls h1 h2 h3 h4 h5 h6
      refine W.eq (g2 := F0 m pc ls (.ref a :: r)) rfl (W.objInit hx hb hown (hts _ m1) (hts _ m2) (hts _ m3) rfl (by rw [hml]; exact h1.1.trans h2) rfl hd (by omega) ?_ (kk H locs ls h1 h2 h3 h4 h5 h6))
      have : q_sum r ≤ 8 := hsum
      unfold q_sum at this
      show 2 * 0 + _ + 12 ≤ _
      omega
    · cases h
  · cases h
theorem q_ok_callM {idx : Nat} {z : Nat × Nat × Nat} (Cx : q_Cx p s m args c D cl ac B0 own cc nL Ts Ns) (hm : q_mok cl Ts Ns yn Mt own idx (4, z)) (hRf : d + 1 ≤ R.frames) (hRl : 64 * (d + 1) ≤ R.locals) (hRc : x'.2.2.2.2.2.1 - k0 ≤ R.cells) (hRs : x'.2.2.2.2.2.2 - w0 ≤ R.slots) (hd : decode cc pc = .ok (.invokestatic idx, 3)) (h : q_call rc (some (4, z)) pc lo st σ = some (.inl x')) (kk : q_G p l e R s m args below meth c D cl ac B0 nL k0 w0 Q x') : q_G p l e R s m args below meth c D cl ac B0 nL k0 w0 Q (pc, lo, st, σ) := by
  obtain ⟨hx, hb, hml, hown, hts, hns, hK, hB⟩ := Cx
  obtain ⟨m1, m2, m3, m4⟩ := hm
  simp only [q_call] at h
  split at h
  · rename_i y x r
    split at h
    · rename_i hsum
      cases h
      intro H locs ls h1 h2 h3 h4 h5 h6
      have : q_sum r ≤ 8 := hsum
      unfold q_sum at this
      exact va_mmax hx hb (by rw [hml]; exact (h1.1.trans h2).symm) hown (hts _ m1) (hts _ m2) (hts _ m3) (hts _ m4) (by omega) (by omega) hRc hRs hd (kk H locs ls h1 h2 h3 h4 h5 h6)
    · cases h
  · cases h
theorem q_ok_callN {idx : Nat} {z : Nat × Nat × Nat} (Cx : q_Cx p s m args c D cl ac B0 own cc nL Ts Ns) (hm : q_mok cl Ts Ns yn Mt own idx (5, z)) (hRf : d + 1 ≤ R.frames) (hRl : 64 * (d + 1) ≤ R.locals) (hRc : x'.2.2.2.2.2.1 - k0 ≤ R.cells) (hRs : x'.2.2.2.2.2.2 - w0 ≤ R.slots) (hd : decode cc pc = .ok (.invokestatic idx, 3)) (h : q_call rc (some (5, z)) pc lo st σ = some (.inl x')) (kk : q_G p l e R s m args below meth c D cl ac B0 nL k0 w0 Q x') : q_G p l e R s m args below meth c D cl ac B0 nL k0 w0 Q (pc, lo, st, σ) := by
  obtain ⟨hx, hb, hml, hown, hts, hns, hK, hB⟩ := Cx
  obtain ⟨m1, m2, m3, m4⟩ := hm
  simp only [q_call] at h
  split at h
  · rename_i y x r
    split at h
    · rename_i hsum
      cases h
      intro H locs ls h1 h2 h3 h4 h5 h6
      have : q_sum r ≤ 8 := hsum
      unfold q_sum at this
      exact va_mmin hx hb (by rw [hml]; exact (h1.1.trans h2).symm) hown (hts _ m1) (hts _ m2) (hts _ m3) (hts _ m4) (by omega) (by omega) hRc hRs hd (kk H locs ls h1 h2 h3 h4 h5 h6)
    · cases h
  · cases h
end QC
end
section
/-! THE SMALL MACHINE IS TRUE, 5: every instruction -/
/-- a step that goes on, and makes no less -/
def q_inl (σ : qH) (r : qN) : Prop := ∀ z, r = some z → ∃ x : qS, z = .inl x ∧ σ.2.2.1 ≤ x.2.2.2.2.2.1 ∧ σ.2.2.2 ≤ x.2.2.2.2.2.2
theorem q_inl_none {σ : qH} : q_inl σ none := fun _ h => by cases h
theorem q_inl_go {σ σ' : qH} {pc : Nat} {lo : qL} {st : List Value} (h1 : σ.2.2.1 ≤ σ'.2.2.1) (h2 : σ.2.2.2 ≤ σ'.2.2.2) : q_inl σ (q_go pc lo st σ') := fun z h => by cases h; exact ⟨_, rfl, h1, h2⟩
theorem q_inl_br {σ : qH} {P : Prop} [Decidable P] {pc : Nat} {off : Int} {lo : qL} {st : List Value} : q_inl σ (q_br P pc off lo st σ) := by
  unfold q_br
  split
  · exact fun z h => by cases h; exact ⟨_, rfl, Nat.le_refl _, Nat.le_refl _⟩
  · exact q_inl_none
section QI
variable {pc : Nat} {lo : qL} {st : List Value} {σ : qH}
theorem q_push_in {v : Value} {n : Nat} : q_inl σ (q_push v n pc lo st σ) := by
  unfold q_push
  (repeat' split) <;> first | exact q_inl_none | exact q_inl_go (Nat.le_refl _) (Nat.le_refl _) | exact q_inl_br
theorem q_iload_in {i n : Nat} : q_inl σ (q_iload i n pc lo st σ) := by
  unfold q_iload
  (repeat' split) <;> first | exact q_inl_none | exact q_inl_go (Nat.le_refl _) (Nat.le_refl _) | exact q_inl_br
theorem q_lload_in {i n : Nat} : q_inl σ (q_lload i n pc lo st σ) := by
  unfold q_lload
  (repeat' split) <;> first | exact q_inl_none | exact q_inl_go (Nat.le_refl _) (Nat.le_refl _) | exact q_inl_br
theorem q_aload_in {i n : Nat} : q_inl σ (q_aload i n pc lo st σ) := by
  unfold q_aload
  (repeat' split) <;> first | exact q_inl_none | exact q_inl_go (Nat.le_refl _) (Nat.le_refl _) | exact q_inl_br
theorem q_istore_in {i n : Nat} : q_inl σ (q_istore i n pc lo st σ) := by
  unfold q_istore
  (repeat' split) <;> first | exact q_inl_none | exact q_inl_go (Nat.le_refl _) (Nat.le_refl _) | exact q_inl_br
theorem q_lstore_in {i n : Nat} : q_inl σ (q_lstore i n pc lo st σ) := by
  unfold q_lstore
  (repeat' split) <;> first | exact q_inl_none | exact q_inl_go (Nat.le_refl _) (Nat.le_refl _) | exact q_inl_br
theorem q_astore_in {i n : Nat} : q_inl σ (q_astore i n pc lo st σ) := by
  unfold q_astore
  (repeat' split) <;> first | exact q_inl_none | exact q_inl_go (Nat.le_refl _) (Nat.le_refl _) | exact q_inl_br
theorem q_iinc_in {i : Nat} {k : Int} {n : Nat} : q_inl σ (q_iinc i k n pc lo st σ) := by
  unfold q_iinc
  (repeat' split) <;> first | exact q_inl_none | exact q_inl_go (Nat.le_refl _) (Nat.le_refl _) | exact q_inl_br
theorem q_i1_in {f : Int32 → Value} : q_inl σ (q_i1 f pc lo st σ) := by
  unfold q_i1
  (repeat' split) <;> first | exact q_inl_none | exact q_inl_go (Nat.le_refl _) (Nat.le_refl _) | exact q_inl_br
theorem q_l1_in {f : Int64 → Value} : q_inl σ (q_l1 f pc lo st σ) := by
  unfold q_l1
  (repeat' split) <;> first | exact q_inl_none | exact q_inl_go (Nat.le_refl _) (Nat.le_refl _) | exact q_inl_br
theorem q_i2_in {f : Int32 → Int32 → Int32} : q_inl σ (q_i2 f pc lo st σ) := by
  unfold q_i2
  (repeat' split) <;> first | exact q_inl_none | exact q_inl_go (Nat.le_refl _) (Nat.le_refl _) | exact q_inl_br
theorem q_d2_in {f : Int32 → Int32 → Int32} : q_inl σ (q_d2 f pc lo st σ) := by
  unfold q_d2
  (repeat' split) <;> first | exact q_inl_none | exact q_inl_go (Nat.le_refl _) (Nat.le_refl _) | exact q_inl_br
theorem q_l2_in {f : Int64 → Int64 → Value} : q_inl σ (q_l2 f pc lo st σ) := by
  unfold q_l2
  (repeat' split) <;> first | exact q_inl_none | exact q_inl_go (Nat.le_refl _) (Nat.le_refl _) | exact q_inl_br
theorem q_ls_in {f : Int64 → Int32 → Int64} : q_inl σ (q_ls f pc lo st σ) := by
  unfold q_ls
  (repeat' split) <;> first | exact q_inl_none | exact q_inl_go (Nat.le_refl _) (Nat.le_refl _) | exact q_inl_br
theorem q_dup_in  : q_inl σ (q_dup pc lo st σ) := by
  unfold q_dup
  (repeat' split) <;> first | exact q_inl_none | exact q_inl_go (Nat.le_refl _) (Nat.le_refl _) | exact q_inl_br
theorem q_pop_in  : q_inl σ (q_pop pc lo st σ) := by
  unfold q_pop
  (repeat' split) <;> first | exact q_inl_none | exact q_inl_go (Nat.le_refl _) (Nat.le_refl _) | exact q_inl_br
theorem q_pop2_in  : q_inl σ (q_pop2 pc lo st σ) := by
  unfold q_pop2
  (repeat' split) <;> first | exact q_inl_none | exact q_inl_go (Nat.le_refl _) (Nat.le_refl _) | exact q_inl_br
theorem q_dupx1_in  : q_inl σ (q_dupx1 pc lo st σ) := by
  unfold q_dupx1
  (repeat' split) <;> first | exact q_inl_none | exact q_inl_go (Nat.le_refl _) (Nat.le_refl _) | exact q_inl_br
theorem q_dupx2_in  : q_inl σ (q_dupx2 pc lo st σ) := by
  unfold q_dupx2
  (repeat' split) <;> first | exact q_inl_none | exact q_inl_go (Nat.le_refl _) (Nat.le_refl _) | exact q_inl_br
theorem q_dup2_in  : q_inl σ (q_dup2 pc lo st σ) := by
  unfold q_dup2
  (repeat' split) <;> first | exact q_inl_none | exact q_inl_go (Nat.le_refl _) (Nat.le_refl _) | exact q_inl_br
theorem q_dup2x1_in  : q_inl σ (q_dup2x1 pc lo st σ) := by
  unfold q_dup2x1
  (repeat' split) <;> first | exact q_inl_none | exact q_inl_go (Nat.le_refl _) (Nat.le_refl _) | exact q_inl_br
theorem q_if_in {cd : ClassFile.Cond} {off : Int} : q_inl σ (q_if cd off pc lo st σ) := by
  unfold q_if
  (repeat' split) <;> first | exact q_inl_none | exact q_inl_go (Nat.le_refl _) (Nat.le_refl _) | exact q_inl_br
theorem q_icmp_in {cd : ClassFile.Cond} {off : Int} : q_inl σ (q_icmp cd off pc lo st σ) := by
  unfold q_icmp
  (repeat' split) <;> first | exact q_inl_none | exact q_inl_go (Nat.le_refl _) (Nat.le_refl _) | exact q_inl_br
theorem q_ifnull_in {off : Int} : q_inl σ (q_ifnull off pc lo st σ) := by
  unfold q_ifnull
  (repeat' split) <;> first | exact q_inl_none | exact q_inl_go (Nat.le_refl _) (Nat.le_refl _) | exact q_inl_br
theorem q_ifnonnull_in {off : Int} : q_inl σ (q_ifnonnull off pc lo st σ) := by
  unfold q_ifnonnull
  (repeat' split) <;> first | exact q_inl_none | exact q_inl_go (Nat.le_refl _) (Nat.le_refl _) | exact q_inl_br
theorem q_goto_in {off : Int} : q_inl σ (q_goto off pc lo st σ) := by
  unfold q_goto
  (repeat' split) <;> first | exact q_inl_none | exact q_inl_go (Nat.le_refl _) (Nat.le_refl _) | exact q_inl_br
theorem q_lookup_in {dflt : Int} {ps : Array (Int × Int)} : q_inl σ (q_lookup dflt ps pc lo st σ) := by
  unfold q_lookup
  (repeat' split) <;> first | exact q_inl_none | exact q_inl_go (Nat.le_refl _) (Nat.le_refl _) | exact q_inl_br
theorem q_table_in {dflt a b : Int} {offs : Array Int} : q_inl σ (q_table dflt a b offs pc lo st σ) := by
  unfold q_table
  (repeat' split) <;> first | exact q_inl_none | exact q_inl_go (Nat.le_refl _) (Nat.le_refl _) | exact q_inl_br
theorem q_getf_in {f : Option (Nat × Nat × FieldType × Nat)} : q_inl σ (q_getf f pc lo st σ) := by
  unfold q_getf
  (repeat' split) <;> first | exact q_inl_none | exact q_inl_go (Nat.le_refl _) (Nat.le_refl _) | exact q_inl_br
theorem q_putf_in {f : Option (Nat × Nat × FieldType × Nat)} {ini : Bool} : q_inl σ (q_putf f ini pc lo st σ) := by
  unfold q_putf
  (repeat' split) <;> first | exact q_inl_none | exact q_inl_go (Nat.le_refl _) (Nat.le_refl _) | exact q_inl_br
theorem q_iald_in {kd : Nat} : q_inl σ (q_iald kd pc lo st σ) := by
  unfold q_iald
  (repeat' split) <;> first | exact q_inl_none | exact q_inl_go (Nat.le_refl _) (Nat.le_refl _) | exact q_inl_br
theorem q_lald_in  : q_inl σ (q_lald pc lo st σ) := by
  unfold q_lald
  (repeat' split) <;> first | exact q_inl_none | exact q_inl_go (Nat.le_refl _) (Nat.le_refl _) | exact q_inl_br
theorem q_iast_in {kd : Nat} {nr : Int32 → Int32} : q_inl σ (q_iast kd nr pc lo st σ) := by
  unfold q_iast
  (repeat' split) <;> first | exact q_inl_none | exact q_inl_go (Nat.le_refl _) (Nat.le_refl _) | exact q_inl_br
theorem q_last_in  : q_inl σ (q_last pc lo st σ) := by
  unfold q_last
  (repeat' split) <;> first | exact q_inl_none | exact q_inl_go (Nat.le_refl _) (Nat.le_refl _) | exact q_inl_br
theorem q_alen_in  : q_inl σ (q_alen pc lo st σ) := by
  unfold q_alen
  (repeat' split) <;> first | exact q_inl_none | exact q_inl_go (Nat.le_refl _) (Nat.le_refl _) | exact q_inl_br
theorem q_new_in {kd b : Nat} {mk : Nat → vp_A} : q_inl σ (q_new kd b mk pc lo st σ) := by
  unfold q_new
  (repeat' split) <;> first | exact q_inl_none | exact q_inl_go (Nat.le_add_right _ _) (Nat.le_add_right _ _)
theorem q_newA_in {t : ClassFile.ArrayType} : q_inl σ (q_newA t pc lo st σ) := by
  unfold q_newA
  split <;> first | exact q_new_in | exact q_inl_none
theorem q_back_in {r : List Value} {oo : Option qO} (h : ∀ v σ', oo = some (.inl v, σ') → σ.2.2.1 ≤ σ'.2.2.1 ∧ σ.2.2.2 ≤ σ'.2.2.2) : q_inl σ (q_back pc lo r oo) := by
  unfold q_back
  split
  · exact q_inl_go (h _ _ rfl).1 (h _ _ rfl).2
  · exact q_inl_none
/-- a table of callees makes no less -/
def q_Mono (rc : qC) : Prop := ∀ z as σ v σ', rc z as σ = some (.inl v, σ') → σ.2.2.1 ≤ σ'.2.2.1 ∧ σ.2.2.2 ≤ σ'.2.2.2
theorem q_call_in {rc : qC} (hr : q_Mono rc) {k : Option (Nat × Nat × Nat × Nat)} : q_inl σ (q_call rc k pc lo st σ) := by
  unfold q_call
  (repeat' split) <;> first | exact q_inl_none | exact q_inl_go (Nat.le_refl _) (Nat.le_refl _) | exact q_back_in (fun v σ' h => hr _ _ _ _ _ h)
end QI
def q_isRet : ClassFile.Instr → Bool
  | .areturn => true
  | .ireturn => true
  | .lreturn => true
  | .return_ => true
  | _ => false
/-- an instruction goes on, or it is a return or a throw -/
theorem q_ex_in {rc : qC} {P : qP} {ini : Bool} {rt : Option FieldType} {i : ClassFile.Instr} {pc : Nat} {lo : qL} {st : List Value} {σ : qH} (hr : q_Mono rc) {z : qS ⊕ qO} (h : q_ex rc P ini rt i pc lo st σ = some z) : (∃ x : qS, z = .inl x ∧ σ.2.2.1 ≤ x.2.2.2.2.2.1 ∧ σ.2.2.2 ≤ x.2.2.2.2.2.2) ∨ (q_isRet i = true ∧ ∃ v, z = .inr (.inl v, σ)) ∨ (∃ x k, i = .new k ∧ P.2.1 k = some (.inr x) ∧ z = .inr (.inr x, (σ.1, σ.2.1 + 1, σ.2.2.1 + 1, σ.2.2.2 + 6))) := by
  cases i with
  | aconst_null => exact Or.inl (q_push_in z h)
  | aload i => exact Or.inl (q_aload_in z h)
  | aload_n i => exact Or.inl (q_aload_in z h)
  | areturn =>
    simp only [q_ex, q_areturn] at h
    (repeat' split at h) <;> first | (cases h; exact Or.inr (Or.inl ⟨rfl, _, rfl⟩)) | cases h
  | arraylength => exact Or.inl (q_alen_in z h)
  | astore i => exact Or.inl (q_astore_in z h)
  | astore_n i => exact Or.inl (q_astore_in z h)
  | baload => exact Or.inl (q_iald_in z h)
  | bastore => exact Or.inl (q_iast_in z h)
  | bipush n => exact Or.inl (q_push_in z h)
  | caload => exact Or.inl (q_iald_in z h)
  | castore => exact Or.inl (q_iast_in z h)
  | dup => exact Or.inl (q_dup_in z h)
  | dup_x1 => exact Or.inl (q_dupx1_in z h)
  | dup_x2 => exact Or.inl (q_dupx2_in z h)
  | dup2 => exact Or.inl (q_dup2_in z h)
  | dup2_x1 => exact Or.inl (q_dup2x1_in z h)
  | getfield k => exact Or.inl (q_getf_in z h)
  | goto off => exact Or.inl (q_goto_in z h)
  | i2c => exact Or.inl (q_i1_in z h)
  | i2l => exact Or.inl (q_i1_in z h)
  | iadd => exact Or.inl (q_i2_in z h)
  | iaload => exact Or.inl (q_iald_in z h)
  | iand => exact Or.inl (q_i2_in z h)
  | iastore => exact Or.inl (q_iast_in z h)
  | iconst n => exact Or.inl (q_push_in z h)
  | idiv => exact Or.inl (q_d2_in z h)
  | if_icmp cd off => exact Or.inl (q_icmp_in z h)
  | ifCond cd off => exact Or.inl (q_if_in z h)
  | ifnonnull off => exact Or.inl (q_ifnonnull_in z h)
  | ifnull off => exact Or.inl (q_ifnull_in z h)
  | iinc i k => exact Or.inl (q_iinc_in z h)
  | iload i => exact Or.inl (q_iload_in z h)
  | iload_n i => exact Or.inl (q_iload_in z h)
  | imul => exact Or.inl (q_i2_in z h)
  | ineg => exact Or.inl (q_i1_in z h)
  | invokespecial k =>
    simp only [q_ex] at h
    split at h <;> first | exact Or.inl (q_call_in hr z h) | cases h
  | invokestatic k =>
    simp only [q_ex] at h
    split at h <;> first | exact Or.inl (q_call_in hr z h) | cases h
  | invokevirtual k =>
    simp only [q_ex] at h
    split at h <;> first | exact Or.inl (q_call_in hr z h) | cases h
  | ior => exact Or.inl (q_i2_in z h)
  | irem => exact Or.inl (q_d2_in z h)
  | ireturn =>
    simp only [q_ex, q_ireturn] at h
    (repeat' split at h) <;> first | (cases h; exact Or.inr (Or.inl ⟨rfl, _, rfl⟩)) | cases h
  | ishl => exact Or.inl (q_i2_in z h)
  | ishr => exact Or.inl (q_i2_in z h)
  | istore i => exact Or.inl (q_istore_in z h)
  | istore_n i => exact Or.inl (q_istore_in z h)
  | isub => exact Or.inl (q_i2_in z h)
  | iushr => exact Or.inl (q_i2_in z h)
  | ixor => exact Or.inl (q_i2_in z h)
  | l2i => exact Or.inl (q_l1_in z h)
  | ladd => exact Or.inl (q_l2_in z h)
  | laload => exact Or.inl (q_lald_in z h)
  | land => exact Or.inl (q_l2_in z h)
  | lastore => exact Or.inl (q_last_in z h)
  | lcmp => exact Or.inl (q_l2_in z h)
  | lconst n => exact Or.inl (q_push_in z h)
  | ldc k =>
    simp only [q_ex] at h
    split at h <;> first | exact Or.inl (q_push_in z h) | cases h
  | ldc2_w k =>
    simp only [q_ex] at h
    split at h <;> first | exact Or.inl (q_push_in z h) | cases h
  | lload i => exact Or.inl (q_lload_in z h)
  | lload_n i => exact Or.inl (q_lload_in z h)
  | lmul => exact Or.inl (q_l2_in z h)
  | lookupswitch d ps => exact Or.inl (q_lookup_in z h)
  | lor => exact Or.inl (q_l2_in z h)
  | lreturn =>
    simp only [q_ex, q_lreturn] at h
    (repeat' split at h) <;> first | (cases h; exact Or.inr (Or.inl ⟨rfl, _, rfl⟩)) | cases h
  | lshl => exact Or.inl (q_ls_in z h)
  | lshr => exact Or.inl (q_ls_in z h)
  | lstore i => exact Or.inl (q_lstore_in z h)
  | lstore_n i => exact Or.inl (q_lstore_in z h)
  | lsub => exact Or.inl (q_l2_in z h)
  | lushr => exact Or.inl (q_ls_in z h)
  | lxor => exact Or.inl (q_l2_in z h)
  | new k =>
    simp only [q_ex, q_newC] at h
    split at h
    · cases h; exact Or.inl ⟨_, rfl, Nat.le_add_right _ _, Nat.le_add_right _ _⟩
    · rename_i x hx; cases h; exact Or.inr (Or.inr ⟨x, k, rfl, hx, rfl⟩)
    · cases h
  | newarray t => exact Or.inl (q_newA_in z h)
  | pop => exact Or.inl (q_pop_in z h)
  | pop2 => exact Or.inl (q_pop2_in z h)
  | putfield k => exact Or.inl (q_putf_in z h)
  | return_ =>
    simp only [q_ex, q_vreturn] at h
    (repeat' split at h) <;> first | (cases h; exact Or.inr (Or.inl ⟨rfl, _, rfl⟩)) | cases h
  | sipush n => exact Or.inl (q_push_in z h)
  | tableswitch d a b os => exact Or.inl (q_table_in z h)
  | _ => cases h
end
section
/-! THE SMALL MACHINE IS TRUE, 6: a step, whole -/
def q_pok (cl : List vw_C) (Ts Ns : List Cond) (yn : Nat → MethodName) (Mt : Nat → Option qM) (own : String) (P : qP) : Prop :=
  (∀ k f, P.1 k = some f → q_fok cl Ts Ns own k f) ∧ (∀ k n, P.2.1 k = some (.inl n) → q_nok cl Ts own k n) ∧ (∀ k x, P.2.2.1 k = some x → q_mok cl Ts Ns yn Mt own k x) ∧ (∀ k v, P.2.2.2.1 k = some v → Cond.constant own k v ∈ Ts) ∧ (∀ k v, P.2.2.2.2 k = some v → Cond.constantLong own k v ∈ Ts)
section QX
variable {p : Program} {l : Launch} {e : Env} {R : Room} {s : State} {m : MethodId} {args : Array Value} {below : List Frame} {meth : Method} {c : Code} {D : va_G} {cl : List vw_C} {ac : Nat → ClassId} {B0 nL k0 w0 : Nat} {Q : State → Prop} {own : String} {cc : ByteArray} {Ts Ns : List Cond} {pc : Nat} {lo : qL} {st : List Value} {σ : qH} {x' : qS}
variable {yn : Nat → MethodName} {Mt : Nat → Option qM} {d : Nat} {rc : qC}
set_option maxHeartbeats 4000000 in
theorem q_ok_ex {P : qP} {ini : Bool} {rt : Option FieldType} {i : ClassFile.Instr} {n : Nat} (Cx : q_Cx p s m args c D cl ac B0 own cc nL Ts Ns) (hi : ini = true → meth.name = "<init>") (hT : GoodIn Ts Ts) (hN : ∀ w ∈ Ns, q_isN w = true) (hrc : q_Snd l D cl ac B0 Ts Ns yn Mt d rc) (hP : q_pok cl Ts Ns yn Mt own P) (hta : Cond.arrayClass .int ∈ Ts ∧ Cond.arrayClass .char ∈ Ts ∧ Cond.arrayClass .long ∈ Ts ∧ Cond.arrayClass .boolean ∈ Ts) (hRf : d + 1 ≤ R.frames) (hRl : 64 * (d + 1) ≤ R.locals)
    (hRc : x'.2.2.2.2.2.1 - k0 ≤ R.cells) (hRs : x'.2.2.2.2.2.2 - w0 ≤ R.slots) (hd : decode cc pc = .ok (i, n)) (hn : n = q_len i ∨ q_isSw i = true) (h : q_ex rc P ini rt i pc lo st σ = some (.inl x')) (kk : q_G p l e R s m args below meth c D cl ac B0 nL k0 w0 Q x') : q_G p l e R s m args below meth c D cl ac B0 nL k0 w0 Q (pc, lo, st, σ) := by
  have hx := Cx.1
  have hb := Cx.2.1
  have hown := Cx.2.2.2.1
  have hts := Cx.2.2.2.2.1
  cases i with
  | aconst_null =>
    rcases hn with hn | hn
    · subst hn
      exact q_ok_push (fun H locs ls k w z => lv_null hx hb hd z) h kk
    · cases hn
  | aload i =>
    rcases hn with hn | hn
    · subst hn
      exact q_ok_aload (fun x H locs ls k w hl z => lv_aload hx hb hd hl z) (fun H locs ls k w hl z => lv_aloadN hx hb hd hl z) h kk
    · cases hn
  | aload_n i =>
    rcases hn with hn | hn
    · subst hn
      exact q_ok_aload (fun x H locs ls k w hl z => lv_aload_n hx hb hd rfl hl z) (fun H locs ls k w hl z => lv_aload_nN hx hb hd rfl hl z) h kk
    · cases hn
  | areturn =>
    simp only [q_ex, q_areturn] at h
    (repeat' split at h) <;> cases h
  | arraylength =>
    rcases hn with hn | hn
    · subst hn
      exact q_ok_alen Cx hd h kk
    · cases hn
  | astore i =>
    rcases hn with hn | hn
    · subst hn
      exact q_ok_astore (fun x r H locs ls k w lv hl hj z => lv_astore hx hb hd hl hj rfl z) (fun r H locs ls k w lv hl hj z => lv_astoreN hx hb hd hl hj rfl z) h kk
    · cases hn
  | astore_n i =>
    rcases hn with hn | hn
    · subst hn
      exact q_ok_astore (fun x r H locs ls k w lv hl hj z => lv_astore_n hx hb hd rfl hl hj rfl z) (fun r H locs ls k w lv hl hj z => lv_astore_nN hx hb hd rfl hl hj rfl z) h kk
    · cases hn
  | baload =>
    rcases hn with hn | hn
    · subst hn
      exact q_ok_zald Cx hd h kk
    · cases hn
  | bastore =>
    rcases hn with hn | hn
    · subst hn
      exact q_ok_zast Cx hd h kk
    · cases hn
  | bipush n =>
    rcases hn with hn | hn
    · subst hn
      exact q_ok_push (fun H locs ls k w z => lv_bipush hx hb hd rfl z) h kk
    · cases hn
  | caload =>
    rcases hn with hn | hn
    · subst hn
      exact q_ok_cald Cx hd h kk
    · cases hn
  | castore =>
    rcases hn with hn | hn
    · subst hn
      exact q_ok_cast Cx hd h kk
    · cases hn
  | dup =>
    rcases hn with hn | hn
    · subst hn
      exact q_ok_dup hx hb hd h kk
    · cases hn
  | dup_x1 =>
    rcases hn with hn | hn
    · subst hn
      exact q_ok_dupx1 hx hb hd h kk
    · cases hn
  | dup_x2 =>
    rcases hn with hn | hn
    · subst hn
      exact q_ok_dupx2 hx hb hd h kk
    · cases hn
  | dup2 =>
    rcases hn with hn | hn
    · subst hn
      exact q_ok_dup2 hx hb hd h kk
    · cases hn
  | dup2_x1 =>
    rcases hn with hn | hn
    · subst hn
      exact q_ok_dup2x1 hx hb hd h kk
    · cases hn
  | getfield k =>
    rcases hn with hn | hn
    · subst hn
      exact q_ok_getf Cx (fun x e9 => hP.1 _ x e9) hd h kk
    · cases hn
  | goto off =>
    rcases hn with hn | hn
    · subst hn
      exact q_ok_goto hx hb hd h kk
    · cases hn
  | i2c =>
    rcases hn with hn | hn
    · subst hn
      exact q_ok_i1 (fun x r H locs ls k w z => lv_i2c hx hb hd rfl z) h kk
    · cases hn
  | i2l =>
    rcases hn with hn | hn
    · subst hn
      exact q_ok_i1 (fun x r H locs ls k w z => lv_i2l hx hb hd rfl z) h kk
    · cases hn
  | iadd =>
    rcases hn with hn | hn
    · subst hn
      exact q_ok_i2 (fun x y r H locs ls k w z => lv_iadd hx hb hd z) h kk
    · cases hn
  | iaload =>
    rcases hn with hn | hn
    · subst hn
      exact q_ok_iald Cx hd h kk
    · cases hn
  | iand =>
    rcases hn with hn | hn
    · subst hn
      exact q_ok_i2 (fun x y r H locs ls k w z => lv_iand hx hb hd z) h kk
    · cases hn
  | iastore =>
    rcases hn with hn | hn
    · subst hn
      exact q_ok_iast Cx hd h kk
    · cases hn
  | iconst n =>
    rcases hn with hn | hn
    · subst hn
      exact q_ok_push (fun H locs ls k w z => lv_iconst hx hb hd rfl z) h kk
    · cases hn
  | idiv =>
    rcases hn with hn | hn
    · subst hn
      exact q_ok_d2 (fun x y r H locs ls k w hy z => lv_idiv hx hb hd hy z) h kk
    · cases hn
  | if_icmp cd off =>
    rcases hn with hn | hn
    · subst hn
      exact q_ok_icmp hx hb hd h kk
    · cases hn
  | ifCond cd off =>
    rcases hn with hn | hn
    · subst hn
      exact q_ok_if hx hb hd h kk
    · cases hn
  | ifnonnull off =>
    rcases hn with hn | hn
    · subst hn
      exact q_ok_ifnonnull hx hb hd h kk
    · cases hn
  | ifnull off =>
    rcases hn with hn | hn
    · subst hn
      exact q_ok_ifnull hx hb hd h kk
    · cases hn
  | iinc i k =>
    rcases hn with hn | hn
    · subst hn
      exact q_ok_iinc hx hb hd h kk
    · cases hn
  | iload i =>
    rcases hn with hn | hn
    · subst hn
      exact q_ok_iload (fun x H locs ls k w hl z => lv_iload hx hb hd hl z) h kk
    · cases hn
  | iload_n i =>
    rcases hn with hn | hn
    · subst hn
      exact q_ok_iload (fun x H locs ls k w hl z => lv_iload_n hx hb hd rfl hl z) h kk
    · cases hn
  | imul =>
    rcases hn with hn | hn
    · subst hn
      exact q_ok_i2 (fun x y r H locs ls k w z => lv_imul hx hb hd z) h kk
    · cases hn
  | ineg =>
    rcases hn with hn | hn
    · subst hn
      exact q_ok_i1 (fun x r H locs ls k w z => lv_ineg hx hb hd z) h kk
    · cases hn
  | invokespecial k =>
    rcases hn with hn | hn
    · subst hn
      simp only [q_ex] at h
      split at h
      · rename_i z hv
        exact q_ok_callO Cx (hP.2.2.1 _ _ hv) hRf hRl hd h kk
      · rename_i z hv
        obtain ⟨z1, z2, z3⟩ := z
        exact q_ok_callI Cx hT hN hrc (hP.2.2.1 _ _ hv) hRf hRl hRc hRs hd h kk
      · cases h
    · cases hn
  | invokestatic k =>
    rcases hn with hn | hn
    · subst hn
      simp only [q_ex] at h
      split at h
      · rename_i z hv
        obtain ⟨z1, z2, z3⟩ := z
        exact q_ok_callS Cx hT hN hrc (hP.2.2.1 _ _ hv) hRf hRl hRc hRs hd h kk
      · rename_i z hv
        exact q_ok_callM Cx (hP.2.2.1 _ _ hv) hRf hRl hRc hRs hd h kk
      · rename_i z hv
        exact q_ok_callN Cx (hP.2.2.1 _ _ hv) hRf hRl hRc hRs hd h kk
      · cases h
    · cases hn
  | invokevirtual k =>
    rcases hn with hn | hn
    · subst hn
      simp only [q_ex] at h
      split at h
      · rename_i z hv
        obtain ⟨z1, z2, z3⟩ := z
        exact q_ok_callV Cx hT hN hrc (hP.2.2.1 _ _ hv) hRf hRl hRc hRs hd h kk
      · cases h
    · cases hn
  | ior =>
    rcases hn with hn | hn
    · subst hn
      exact q_ok_i2 (fun x y r H locs ls k w z => lv_ior hx hb hd z) h kk
    · cases hn
  | irem =>
    rcases hn with hn | hn
    · subst hn
      exact q_ok_d2 (fun x y r H locs ls k w hy z => lv_irem hx hb hd hy z) h kk
    · cases hn
  | ireturn =>
    simp only [q_ex, q_ireturn] at h
    (repeat' split at h) <;> cases h
  | ishl =>
    rcases hn with hn | hn
    · subst hn
      exact q_ok_i2 (fun x y r H locs ls k w z => lv_ishl hx hb hd z) h kk
    · cases hn
  | ishr =>
    rcases hn with hn | hn
    · subst hn
      exact q_ok_i2 (fun x y r H locs ls k w z => lv_ishr hx hb hd z) h kk
    · cases hn
  | istore i =>
    rcases hn with hn | hn
    · subst hn
      exact q_ok_istore (fun x r H locs ls k w lv hl hj z => lv_istore hx hb hd hl hj rfl z) h kk
    · cases hn
  | istore_n i =>
    rcases hn with hn | hn
    · subst hn
      exact q_ok_istore (fun x r H locs ls k w lv hl hj z => lv_istore_n hx hb hd rfl hl hj rfl z) h kk
    · cases hn
  | isub =>
    rcases hn with hn | hn
    · subst hn
      exact q_ok_i2 (fun x y r H locs ls k w z => lv_isub hx hb hd z) h kk
    · cases hn
  | iushr =>
    rcases hn with hn | hn
    · subst hn
      exact q_ok_i2 (fun x y r H locs ls k w z => lv_iushr hx hb hd rfl z) h kk
    · cases hn
  | ixor =>
    rcases hn with hn | hn
    · subst hn
      exact q_ok_i2 (fun x y r H locs ls k w z => lv_ixor hx hb hd z) h kk
    · cases hn
  | l2i =>
    rcases hn with hn | hn
    · subst hn
      exact q_ok_l1 (fun x r H locs ls k w z => lv_l2i hx hb hd rfl z) h kk
    · cases hn
  | ladd =>
    rcases hn with hn | hn
    · subst hn
      exact q_ok_l2 (fun x y r H locs ls k w z => lv_ladd hx hb hd z) h kk
    · cases hn
  | laload =>
    rcases hn with hn | hn
    · subst hn
      exact q_ok_lald Cx hd h kk
    · cases hn
  | land =>
    rcases hn with hn | hn
    · subst hn
      exact q_ok_l2 (fun x y r H locs ls k w z => lv_land hx hb hd z) h kk
    · cases hn
  | lastore =>
    rcases hn with hn | hn
    · subst hn
      exact q_ok_last Cx hd h kk
    · cases hn
  | lcmp =>
    rcases hn with hn | hn
    · subst hn
      exact q_ok_l2 (fun x y r H locs ls k w z => W.lcmp hx hb hd z) h kk
    · cases hn
  | lconst n =>
    rcases hn with hn | hn
    · subst hn
      exact q_ok_push (fun H locs ls k w z => lv_lconst hx hb hd rfl z) h kk
    · cases hn
  | ldc k =>
    rcases hn with hn | hn
    · subst hn
      simp only [q_ex] at h
      split at h
      · rename_i v hv
        exact q_ok_push (fun H locs ls k w z => lv_ldc hx hb hown (hts _ (hP.2.2.2.1 _ v hv)) hd z) h kk
      · cases h
    · cases hn
  | ldc2_w k =>
    rcases hn with hn | hn
    · subst hn
      simp only [q_ex] at h
      split at h
      · rename_i v hv
        exact q_ok_push (fun H locs ls k w z => lv_ldc2 hx hb hown (hts _ (hP.2.2.2.2 _ v hv)) hd z) h kk
      · cases h
    · cases hn
  | lload i =>
    rcases hn with hn | hn
    · subst hn
      exact q_ok_lload (fun x H locs ls k w hl z => lv_lload hx hb hd hl z) h kk
    · cases hn
  | lload_n i =>
    rcases hn with hn | hn
    · subst hn
      exact q_ok_lload (fun x H locs ls k w hl z => lv_lload_n hx hb hd rfl hl z) h kk
    · cases hn
  | lmul =>
    rcases hn with hn | hn
    · subst hn
      exact q_ok_l2 (fun x y r H locs ls k w z => lv_lmul hx hb hd z) h kk
    · cases hn
  | lookupswitch d ps =>
    exact q_ok_lookup hx hb hd h kk
  | lor =>
    rcases hn with hn | hn
    · subst hn
      exact q_ok_l2 (fun x y r H locs ls k w z => lv_lor hx hb hd z) h kk
    · cases hn
  | lreturn =>
    simp only [q_ex, q_lreturn] at h
    (repeat' split at h) <;> cases h
  | lshl =>
    rcases hn with hn | hn
    · subst hn
      exact q_ok_ls (fun x y r H locs ls k w z => lv_lshl hx hb hd rfl z) h kk
    · cases hn
  | lshr =>
    rcases hn with hn | hn
    · subst hn
      exact q_ok_ls (fun x y r H locs ls k w z => lv_lshr hx hb hd rfl z) h kk
    · cases hn
  | lstore i =>
    rcases hn with hn | hn
    · subst hn
      exact q_ok_lstore (fun x r H locs ls k w lv hl hj z => lv_lstore hx hb hd hl hj rfl z) h kk
    · cases hn
  | lstore_n i =>
    rcases hn with hn | hn
    · subst hn
      exact q_ok_lstore (fun x r H locs ls k w lv hl hj z => lv_lstore_n hx hb hd rfl hl hj rfl z) h kk
    · cases hn
  | lsub =>
    rcases hn with hn | hn
    · subst hn
      exact q_ok_l2 (fun x y r H locs ls k w z => lv_lsub hx hb hd z) h kk
    · cases hn
  | lushr =>
    rcases hn with hn | hn
    · subst hn
      exact q_ok_ls (fun x y r H locs ls k w z => lv_lushr hx hb hd rfl z) h kk
    · cases hn
  | lxor =>
    rcases hn with hn | hn
    · subst hn
      exact q_ok_l2 (fun x y r H locs ls k w z => lv_lxor hx hb hd z) h kk
    · cases hn
  | new k =>
    rcases hn with hn | hn
    · subst hn
      exact q_ok_newC Cx (fun n e9 => hP.2.1 _ n e9) hRc hRs hd h kk
    · cases hn
  | newarray t =>
    rcases hn with hn | hn
    · subst hn
      exact q_ok_newA Cx hta hRc hRs hd h kk
    · cases hn
  | pop =>
    rcases hn with hn | hn
    · subst hn
      exact q_ok_pop hx hb hd h kk
    · cases hn
  | pop2 =>
    rcases hn with hn | hn
    · subst hn
      exact q_ok_pop2 hx hb hd h kk
    · cases hn
  | putfield k =>
    rcases hn with hn | hn
    · subst hn
      exact q_ok_putf Cx hi (fun x e9 => hP.1 _ x e9) hd h kk
    · cases hn
  | return_ =>
    simp only [q_ex, q_vreturn] at h
    (repeat' split at h) <;> cases h
  | sipush n =>
    rcases hn with hn | hn
    · subst hn
      exact q_ok_push (fun H locs ls k w z => lv_sipush hx hb hd rfl z) h kk
    · cases hn
  | tableswitch d a b os =>
    exact q_ok_table hx hb hd h kk
  | _ => cases h
end QX
end
section
/-! THE SMALL MACHINE IS TRUE, 7: a method, and all of them -/
theorem q_run_mono {rc : qC} {M : qM} (hr : q_Mono rc) : ∀ (n : Nat) (x : qS) (o : qO), q_run rc M n x = some o → x.2.2.2.2.2.1 ≤ o.2.2.2.1 ∧ x.2.2.2.2.2.2 ≤ o.2.2.2.2 := by
  intro n
  induction n with
  | zero => intro x o h; cases h
  | succ n ih =>
    intro x o h
    simp only [q_run] at h
    cases hs : q_step rc M x with
    | none => rw [hs] at h; cases h
    | some r =>
      rw [hs] at h
      unfold q_step at hs
      split at hs
      · rename_i i hi
        rcases q_ex_in hr hs with ⟨x1, rfl, g1, g2⟩ | ⟨-, v, rfl⟩ | ⟨x1, k, -, -, rfl⟩
        · obtain ⟨f1, f2⟩ := ih _ _ h
          exact ⟨Nat.le_trans g1 f1, Nat.le_trans g2 f2⟩
        · cases h; exact ⟨Nat.le_refl _, Nat.le_refl _⟩
        · cases h; exact ⟨Nat.le_add_right _ _, Nat.le_add_right _ _⟩
      · cases hs
section QE
variable {p : Program} {l : Launch} {e : Env} {R : Room} {s : State} {m : MethodId} {args : Array Value} {below : List Frame} {meth : Method} {c : Code} {D : va_G} {cl : List vw_C} {ac : Nat → ClassId} {B0 nL k0 w0 : Nat} {own : String} {cc : ByteArray} {Ts Ns : List Cond} {pc : Nat} {lo : qL} {st : List Value} {σ : qH} {x' : qS}
variable {yn : Nat → MethodName} {Mt : Nat → Option qM} {d : Nat} {rc : qC}
theorem q_ok_end {P : qP} {ini : Bool} {rt : Option FieldType} {i : ClassFile.Instr} {n : Nat} {v : Option Value} {σ' : qH} (Cx : q_Cx p s m args c D cl ac B0 own cc nL Ts Ns) (hmo : q_Mono rc) (hr : meth.sig.returnType = rt) (hlocks : meth.locks = false) (hd : decode cc pc = .ok (i, n)) (hn : n = q_len i ∨ q_isSw i = true) (h : q_ex rc P ini rt i pc lo st σ = some (.inr (.inl v, σ'))) : q_G p l e R s m args below meth c D cl ac B0 nL k0 w0 (MQ below (q_Post D cl ac B0 v σ') args s (σ'.2.2.1 - k0) (σ'.2.2.2 - w0) (fun q : Nat => B0 ≤ q)) (pc, lo, st, σ) := by
  have hx := Cx.1
  have hb := Cx.2.1
  have hw : ∀ (H : Heap) (locs : List Loc), q_hold D cl ac B0 σ H → va_S (fun q : Nat => B0 ≤ q) s.heap H locs → ∀ t : State, t.heap = H → s.WarmedH t.vm → ∀ v1 : Option Value, q_Post D cl ac B0 v1 σ args s (.returned v1) t := fun H locs h3 h4 t ht _ v1 => ⟨rfl, by rw [ht]; exact h3, h4.F ht⟩
  cases i with
  | ireturn =>
    rcases hn with hn | hn
    · subst hn
      simp only [q_ex, q_ireturn] at h
      split at h
      · split at h
        · rename_i ty x hnr
          cases h
          exact fun H locs ls h1 h2 h3 h4 h5 h6 => W.zret hx hb hr hnr (fun t ht hW => hw H locs h3 h4 t ht hW _) h4.2.2 hd hlocks
        · cases h
      · cases h
    · cases hn
  | lreturn =>
    rcases hn with hn | hn
    · subst hn
      simp only [q_ex, q_lreturn] at h
      split at h
      · cases h
        exact fun H locs ls h1 h2 h3 h4 h5 h6 => W.lret hx hb hr (fun t ht hW => hw H locs h3 h4 t ht hW _) h4.2.2 hd hlocks
      · cases h
    · cases hn
  | return_ =>
    rcases hn with hn | hn
    · subst hn
      simp only [q_ex, q_vreturn] at h
      split at h
      · cases h
        exact fun H locs ls h1 h2 h3 h4 h5 h6 => W.vret hx hb hr (fun t ht hW => hw H locs h3 h4 t ht hW _) h4.2.2 hd hlocks
      · cases h
    · cases hn
  | areturn =>
    rcases hn with hn | hn
    · subst hn
      simp only [q_ex, q_areturn] at h
      split at h
      · rename_i hrt
        have hrt2 : ∃ rt0, rt = some rt0 ∧ ((∃ n, rt0 = .object n) ∨ ∃ t, rt0 = .array t) := by
          cases rt with
          | none => cases hrt
          | some t => cases t <;> first | exact ⟨_, rfl, Or.inl ⟨_, rfl⟩⟩ | exact ⟨_, rfl, Or.inr ⟨_, rfl⟩⟩ | cases hrt
        obtain ⟨rt0, hrt0, hrt1⟩ := hrt2
        subst hrt0
        split at h
        · cases h
          exact fun H locs ls h1 h2 h3 h4 h5 h6 => W.aret hx hb hr hrt1 (Or.inr ⟨_, rfl⟩) (fun t ht hW => hw H locs h3 h4 t ht hW _) h4.2.2 hd hlocks
        · cases h
          exact fun H locs ls h1 h2 h3 h4 h5 h6 => W.aret hx hb hr hrt1 (Or.inl rfl) (fun t ht hW => hw H locs h3 h4 t ht hW _) h4.2.2 hd hlocks
        · cases h
      · cases h
    · cases hn
  | _ =>
    rcases q_ex_in hmo h with ⟨x1, g1, -⟩ | ⟨g1, -⟩ | ⟨x1, k, -, -, g1⟩
    · cases g1
    · cases g1
    · cases g1
theorem q_ok_run {M : qM} {v : Option Value} {σ' : qH} (Cx : q_Cx p s m args c D cl ac B0 own M.1 nL Ts Ns) (hi : M.2.2.2.1 = true → meth.name = "<init>") (hr : meth.sig.returnType = M.2.2.1) (hlocks : meth.locks = false) (hT : GoodIn Ts Ts) (hN : ∀ w ∈ Ns, q_isN w = true) (hrc : q_Snd l D cl ac B0 Ts Ns yn Mt d rc) (hP : q_pok cl Ts Ns yn Mt own M.2.2.2.2) (hta : Cond.arrayClass .int ∈ Ts ∧ Cond.arrayClass .char ∈ Ts ∧ Cond.arrayClass .long ∈ Ts ∧ Cond.arrayClass .boolean ∈ Ts) (hRf : d + 1 ≤ R.frames) (hRl : 64 * (d + 1) ≤ R.locals)
    (hRc : σ'.2.2.1 - k0 ≤ R.cells) (hRs : σ'.2.2.2 - w0 ≤ R.slots) : ∀ (n : Nat) (x : qS), q_run rc M n x = some (.inl v, σ') → q_G p l e R s m args below meth c D cl ac B0 nL k0 w0 (MQ below (q_Post D cl ac B0 v σ') args s (σ'.2.2.1 - k0) (σ'.2.2.2 - w0) (fun q : Nat => B0 ≤ q)) x := by
  have hmo : q_Mono rc := fun z as σ v σ' h => (hrc z as σ v σ' h).2
  intro n
  induction n with
  | zero => intro x h; cases h
  | succ n ih =>
    intro x h
    obtain ⟨pc, lo, st, σ⟩ := x
    simp only [q_run] at h
    cases hs : q_step rc M (pc, lo, st, σ) with
    | none => rw [hs] at h; cases h
    | some r =>
      rw [hs] at h
      unfold q_step at hs
      dsimp only at hs
      split at hs
      · rename_i i hins
        unfold q_ins at hins
        split at hins
        · rename_i i' n' hdec
          split at hins
          · rename_i hn
            cases hins
            cases r with
            | inl x1 =>
              have hm1 := q_run_mono hmo _ _ _ h
              dsimp only at hm1
              exact q_ok_ex Cx hi hT hN hrc hP hta hRf hRl (by omega) (by omega) hdec hn hs (ih x1 h)
            | inr o1 =>
              cases h
              exact q_ok_end Cx hmo hr hlocks hdec hn hs
          · cases hins
        · cases hins
      · cases hs
end QE
def q_Mok (cl : List vw_C) (Ts Ns : List Cond) (yn : Nat → MethodName) (Mt : Nat → Option qM) : Prop := ∀ z M, Mt z = some M → plainFor (yn z) = true ∧ (M.2.2.2.1 = true → (yn z).name = "<init>") ∧ q_pok cl Ts Ns yn Mt (yn z).cls M.2.2.2.2
theorem q_ev_ok {l : Launch} {D : va_G} {cl : List vw_C} {ac : Nat → ClassId} {B0 : Nat} {Ts Ns : List Cond} {yn : Nat → MethodName} {Mt : Nat → Option qM} (hT : GoodIn Ts Ts) (hN : ∀ w ∈ Ns, q_isN w = true) (hM : q_Mok cl Ts Ns yn Mt) (hta : Cond.arrayClass .int ∈ Ts ∧ Cond.arrayClass .char ∈ Ts ∧ Cond.arrayClass .long ∈ Ts ∧ Cond.arrayClass .boolean ∈ Ts) : ∀ d, q_Snd l D cl ac B0 Ts Ns yn Mt d (q_ev Mt d) := by
  intro d
  induction d with
  | zero => intro z as σ v σ' h; cases h
  | succ d ih =>
    intro z as σ v σ' h
    have hmo : q_Mono (q_ev Mt d) := fun z as σ v σ' h => (ih z as σ v σ' h).2
    simp only [q_ev] at h
    split at h
    · rename_i M hMz
      split at h
      · rename_i hlen
        obtain ⟨n, hrun⟩ := q_out_iff.mp h
        obtain ⟨hk, hw⟩ := q_run_mono hmo _ _ _ hrun
        refine ⟨?_, hk, hw⟩
        intro M' hM'
        cases hMz.symm.trans hM'
        obtain ⟨m1, m2, m3⟩ := hM z M hMz
        refine va_MetF (cc := M.1) (maxL := M.2.1) (ret := M.2.2.1) m1 rfl ?_
        intro p e s m args below meth c s₁ B hml hv
        obtain ⟨rfl, hh, hK, hns, hB⟩ := hv
        have hts := atoms_spec (ws := Cond.code (yn z) M.1 M.2.1 M.2.2.1 :: Ts) B.pre
        have hown : s.vm.findClass (yn z).cls = some m.cls := findClass_of_methodNamed B.named
        have hin : meth.name = (yn z).name := (name_of_methodNamed B.named B.method).1
        have Cx : q_Cx p s m as.toArray c D cl ac B0 (yn z).cls M.1 M.2.1 Ts Ns := ⟨B.exec, B.bytes, hml, hown, fun w hw => hts w (List.mem_cons_of_mem _ hw), hns, hK, hB⟩
        have := q_ok_run (l := l) (e := e) (R := (headSpec (Cond.code (yn z) M.1 M.2.1 M.2.2.1 :: Ts) (q_rm (d + 1) (σ'.2.2.1 - σ.2.2.1) (σ'.2.2.2 - σ.2.2.2))).room) (below := below) (k0 := σ.2.2.1) (w0 := σ.2.2.2) Cx (fun hz => hin.trans (m2 hz)) B.returns B.notSynchronized hT hN ih m3 hta (Nat.le_refl _) (Nat.le_refl _) (Nat.le_refl _) (Nat.le_refl _) n _ hrun
        have := this s.heap [] _ (q_rel_entry hlen) (q_entry_len hlen) hh va_S.rf (Nat.le_refl _) (Nat.le_refl _)
        dsimp only at this
        rw [Nat.sub_self, Nat.sub_self] at this
        rw [lg_entry_eq]
        exact this
      · cases h
    · cases h
end
