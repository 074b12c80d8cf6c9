section
-- ===== PART A: goes FIRST, ahead of the names: the tables' words, and 'selects' of the private methods out of them =====
/-- a private method of a class that the tables say can be made, by its rows of tables_1 -/
def lw_okq (q : MethodName × Nat) : Prop := (q.1.cls ≠ "java/lang/invoke/MethodHandle" ∧ q.1.cls ≠ "java/lang/invoke/VarHandle") ∧ Cond.instantiable q.1.cls q.2 ∈ tables_1 ∧ Cond.privateMethod q.1 ∈ tables_1 ∧ Cond.instanceMethod q.1 ∈ tables_1
theorem lw_p0 : lw_okq (⟨"FoldedHeaps$Reader", "takeLine", "(LFoldedHeaps$Tape;)Z"⟩, 5) := ⟨⟨by decide +kernel, by decide +kernel⟩, List.mem_of_getElem? (i := 56) (by decide +kernel), List.mem_of_getElem? (i := 399) (by decide +kernel), List.mem_of_getElem? (i := 400) (by decide +kernel)⟩
theorem lw_p1 : lw_okq (⟨"FoldedHeaps$Reader", "takeNode", "(LFoldedHeaps$Tape;Z)Z"⟩, 5) := ⟨⟨by decide +kernel, by decide +kernel⟩, List.mem_of_getElem? (i := 56) (by decide +kernel), List.mem_of_getElem? (i := 456) (by decide +kernel), List.mem_of_getElem? (i := 457) (by decide +kernel)⟩
theorem lw_p2 : lw_okq (⟨"FoldedHeaps$Reader", "refuse", "(LFoldedHeaps$Tape;I)Z"⟩, 5) := ⟨⟨by decide +kernel, by decide +kernel⟩, List.mem_of_getElem? (i := 56) (by decide +kernel), List.mem_of_getElem? (i := 464) (by decide +kernel), List.mem_of_getElem? (i := 465) (by decide +kernel)⟩
theorem lw_p3 : lw_okq (⟨"FoldedHeaps$Reader", "takeSign", "(LFoldedHeaps$Tape;C)Z"⟩, 5) := ⟨⟨by decide +kernel, by decide +kernel⟩, List.mem_of_getElem? (i := 56) (by decide +kernel), List.mem_of_getElem? (i := 473) (by decide +kernel), List.mem_of_getElem? (i := 474) (by decide +kernel)⟩
theorem lw_p4 : lw_okq (⟨"FoldedHeaps$Reader", "refuseToken", "(LFoldedHeaps$Tape;)Z"⟩, 5) := ⟨⟨by decide +kernel, by decide +kernel⟩, List.mem_of_getElem? (i := 56) (by decide +kernel), List.mem_of_getElem? (i := 481) (by decide +kernel), List.mem_of_getElem? (i := 482) (by decide +kernel)⟩
theorem lw_p5 : lw_okq (⟨"FoldedHeaps$Reader", "takeAt", "(LFoldedHeaps$Tape;)Z"⟩, 5) := ⟨⟨by decide +kernel, by decide +kernel⟩, List.mem_of_getElem? (i := 56) (by decide +kernel), List.mem_of_getElem? (i := 487) (by decide +kernel), List.mem_of_getElem? (i := 488) (by decide +kernel)⟩
theorem lw_p6 : lw_okq (⟨"FoldedHeaps$Reader", "takeVariable", "(LFoldedHeaps$Tape;)I"⟩, 5) := ⟨⟨by decide +kernel, by decide +kernel⟩, List.mem_of_getElem? (i := 56) (by decide +kernel), List.mem_of_getElem? (i := 491) (by decide +kernel), List.mem_of_getElem? (i := 492) (by decide +kernel)⟩
theorem lw_p7 : lw_okq (⟨"FoldedHeaps$Reader", "takeNodeNumber", "(LFoldedHeaps$Tape;)I"⟩, 5) := ⟨⟨by decide +kernel, by decide +kernel⟩, List.mem_of_getElem? (i := 56) (by decide +kernel), List.mem_of_getElem? (i := 499) (by decide +kernel), List.mem_of_getElem? (i := 500) (by decide +kernel)⟩
theorem lw_p8 : lw_okq (⟨"FoldedHeaps$Reader", "takeNext", "(LFoldedHeaps$Tape;)Z"⟩, 5) := ⟨⟨by decide +kernel, by decide +kernel⟩, List.mem_of_getElem? (i := 56) (by decide +kernel), List.mem_of_getElem? (i := 515) (by decide +kernel), List.mem_of_getElem? (i := 516) (by decide +kernel)⟩
theorem lw_p9 : lw_okq (⟨"FoldedHeaps$Reader", "takeAsk", "(LFoldedHeaps$Tape;)Z"⟩, 5) := ⟨⟨by decide +kernel, by decide +kernel⟩, List.mem_of_getElem? (i := 56) (by decide +kernel), List.mem_of_getElem? (i := 520) (by decide +kernel), List.mem_of_getElem? (i := 521) (by decide +kernel)⟩
theorem lw_p10 : lw_okq (⟨"FoldedHeaps$Reader", "tellLetter", "(LFoldedHeaps$Tape;LFoldedHeaps$Formula;)Z"⟩, 5) := ⟨⟨by decide +kernel, by decide +kernel⟩, List.mem_of_getElem? (i := 56) (by decide +kernel), List.mem_of_getElem? (i := 530) (by decide +kernel), List.mem_of_getElem? (i := 531) (by decide +kernel)⟩
theorem lw_p11 : lw_okq (⟨"FoldedHeaps$Reader", "takeItem", "(LFoldedHeaps$Tape;LFoldedHeaps$Formula;)Z"⟩, 5) := ⟨⟨by decide +kernel, by decide +kernel⟩, List.mem_of_getElem? (i := 56) (by decide +kernel), List.mem_of_getElem? (i := 542) (by decide +kernel), List.mem_of_getElem? (i := 543) (by decide +kernel)⟩
theorem lw_p12 : lw_okq (⟨"FoldedHeaps$Reader", "takeLetter", "(LFoldedHeaps$Tape;LFoldedHeaps$Formula;)I"⟩, 5) := ⟨⟨by decide +kernel, by decide +kernel⟩, List.mem_of_getElem? (i := 56) (by decide +kernel), List.mem_of_getElem? (i := 565) (by decide +kernel), List.mem_of_getElem? (i := 566) (by decide +kernel)⟩
theorem lw_p13 : lw_okq (⟨"FoldedHeaps$Shape", "cellsThatAre", "([II)I"⟩, 6) := ⟨⟨by decide +kernel, by decide +kernel⟩, List.mem_of_getElem? (i := 68) (by decide +kernel), List.mem_of_getElem? (i := 591) (by decide +kernel), List.mem_of_getElem? (i := 592) (by decide +kernel)⟩
theorem lw_p14 : lw_okq (⟨"FoldedHeaps$Shape", "reaching", "(II)I"⟩, 6) := ⟨⟨by decide +kernel, by decide +kernel⟩, List.mem_of_getElem? (i := 68) (by decide +kernel), List.mem_of_getElem? (i := 625) (by decide +kernel), List.mem_of_getElem? (i := 626) (by decide +kernel)⟩
theorem lw_p15 : lw_okq (⟨"FoldedHeaps$Formula", "worthFrom", "(LFoldedHeaps$Shape;I)I"⟩, 11) := ⟨⟨by decide +kernel, by decide +kernel⟩, List.mem_of_getElem? (i := 132) (by decide +kernel), List.mem_of_getElem? (i := 657) (by decide +kernel), List.mem_of_getElem? (i := 658) (by decide +kernel)⟩
def lw_privs_1 : List (MethodName × Nat) := [(⟨"FoldedHeaps$Reader", "takeLine", "(LFoldedHeaps$Tape;)Z"⟩, 5), (⟨"FoldedHeaps$Reader", "takeNode", "(LFoldedHeaps$Tape;Z)Z"⟩, 5), (⟨"FoldedHeaps$Reader", "refuse", "(LFoldedHeaps$Tape;I)Z"⟩, 5), (⟨"FoldedHeaps$Reader", "takeSign", "(LFoldedHeaps$Tape;C)Z"⟩, 5), (⟨"FoldedHeaps$Reader", "refuseToken", "(LFoldedHeaps$Tape;)Z"⟩, 5), (⟨"FoldedHeaps$Reader", "takeAt", "(LFoldedHeaps$Tape;)Z"⟩, 5), (⟨"FoldedHeaps$Reader", "takeVariable", "(LFoldedHeaps$Tape;)I"⟩, 5), (⟨"FoldedHeaps$Reader", "takeNodeNumber", "(LFoldedHeaps$Tape;)I"⟩, 5), (⟨"FoldedHeaps$Reader", "takeNext", "(LFoldedHeaps$Tape;)Z"⟩, 5), (⟨"FoldedHeaps$Reader", "takeAsk", "(LFoldedHeaps$Tape;)Z"⟩, 5), (⟨"FoldedHeaps$Reader", "tellLetter", "(LFoldedHeaps$Tape;LFoldedHeaps$Formula;)Z"⟩, 5), (⟨"FoldedHeaps$Reader", "takeItem", "(LFoldedHeaps$Tape;LFoldedHeaps$Formula;)Z"⟩, 5), (⟨"FoldedHeaps$Reader", "takeLetter", "(LFoldedHeaps$Tape;LFoldedHeaps$Formula;)I"⟩, 5), (⟨"FoldedHeaps$Shape", "cellsThatAre", "([II)I"⟩, 6), (⟨"FoldedHeaps$Shape", "reaching", "(II)I"⟩, 6), (⟨"FoldedHeaps$Formula", "worthFrom", "(LFoldedHeaps$Shape;I)I"⟩, 11)]
theorem lw_r1 : ∀ q ∈ lw_privs_1, lw_okq q := List.forall_mem_cons.mpr ⟨lw_p0, List.forall_mem_cons.mpr ⟨lw_p1, List.forall_mem_cons.mpr ⟨lw_p2, List.forall_mem_cons.mpr ⟨lw_p3, List.forall_mem_cons.mpr ⟨lw_p4, List.forall_mem_cons.mpr ⟨lw_p5, List.forall_mem_cons.mpr ⟨lw_p6, List.forall_mem_cons.mpr ⟨lw_p7, List.forall_mem_cons.mpr ⟨lw_p8, List.forall_mem_cons.mpr ⟨lw_p9, List.forall_mem_cons.mpr ⟨lw_p10, List.forall_mem_cons.mpr ⟨lw_p11, List.forall_mem_cons.mpr ⟨lw_p12, List.forall_mem_cons.mpr ⟨lw_p13, List.forall_mem_cons.mpr ⟨lw_p14, List.forall_mem_cons.mpr ⟨lw_p15, fun _ h => absurd h List.not_mem_nil⟩⟩⟩⟩⟩⟩⟩⟩⟩⟩⟩⟩⟩⟩⟩⟩
theorem lw_p16 : lw_okq (⟨"FoldedHeaps$Formula", "worthOfItems", "(LFoldedHeaps$Shape;)I"⟩, 11) := ⟨⟨by decide +kernel, by decide +kernel⟩, List.mem_of_getElem? (i := 132) (by decide +kernel), List.mem_of_getElem? (i := 661) (by decide +kernel), List.mem_of_getElem? (i := 662) (by decide +kernel)⟩
theorem lw_p17 : lw_okq (⟨"FoldedHeaps$Formula", "truthOf", "(LFoldedHeaps$Shape;III)I"⟩, 11) := ⟨⟨by decide +kernel, by decide +kernel⟩, List.mem_of_getElem? (i := 132) (by decide +kernel), List.mem_of_getElem? (i := 666) (by decide +kernel), List.mem_of_getElem? (i := 667) (by decide +kernel)⟩
theorem lw_p18 : lw_okq (⟨"FoldedHeaps$Deeds", "follow", "(LFoldedHeaps$Shape;II)V"⟩, 1) := ⟨⟨by decide +kernel, by decide +kernel⟩, List.mem_of_getElem? (i := 220) (by decide +kernel), List.mem_of_getElem? (i := 734) (by decide +kernel), List.mem_of_getElem? (i := 735) (by decide +kernel)⟩
theorem lw_p19 : lw_okq (⟨"FoldedHeaps$Folding", "joinGroup", "(LFoldedHeaps$Shape;ZI)V"⟩, 2) := ⟨⟨by decide +kernel, by decide +kernel⟩, List.mem_of_getElem? (i := 230) (by decide +kernel), List.mem_of_getElem? (i := 757) (by decide +kernel), List.mem_of_getElem? (i := 758) (by decide +kernel)⟩
theorem lw_p20 : lw_okq (⟨"FoldedHeaps$Folding", "mergeNexts", "(LFoldedHeaps$Shape;)V"⟩, 2) := ⟨⟨by decide +kernel, by decide +kernel⟩, List.mem_of_getElem? (i := 230) (by decide +kernel), List.mem_of_getElem? (i := 765) (by decide +kernel), List.mem_of_getElem? (i := 766) (by decide +kernel)⟩
theorem lw_p21 : lw_okq (⟨"FoldedHeaps$Sharpening", "drawFromAts", "()V"⟩, 3) := ⟨⟨by decide +kernel, by decide +kernel⟩, List.mem_of_getElem? (i := 245) (by decide +kernel), List.mem_of_getElem? (i := 782) (by decide +kernel), List.mem_of_getElem? (i := 783) (by decide +kernel)⟩
theorem lw_p22 : lw_okq (⟨"FoldedHeaps$Sharpening", "makeSingle", "(I)V"⟩, 3) := ⟨⟨by decide +kernel, by decide +kernel⟩, List.mem_of_getElem? (i := 245) (by decide +kernel), List.mem_of_getElem? (i := 786) (by decide +kernel), List.mem_of_getElem? (i := 787) (by decide +kernel)⟩
theorem lw_p23 : lw_okq (⟨"FoldedHeaps$Sharpening", "clearOthers", "([II)V"⟩, 3) := ⟨⟨by decide +kernel, by decide +kernel⟩, List.mem_of_getElem? (i := 245) (by decide +kernel), List.mem_of_getElem? (i := 790) (by decide +kernel), List.mem_of_getElem? (i := 791) (by decide +kernel)⟩
theorem lw_p24 : lw_okq (⟨"FoldedHeaps$Sharpening", "drawFromNexts", "()V"⟩, 3) := ⟨⟨by decide +kernel, by decide +kernel⟩, List.mem_of_getElem? (i := 245) (by decide +kernel), List.mem_of_getElem? (i := 794) (by decide +kernel), List.mem_of_getElem? (i := 795) (by decide +kernel)⟩
theorem lw_p25 : lw_okq (⟨"FoldedHeaps$Splitting", "goThrough", "(LFoldedHeaps$Shape;II)V"⟩, 4) := ⟨⟨by decide +kernel, by decide +kernel⟩, List.mem_of_getElem? (i := 263) (by decide +kernel), List.mem_of_getElem? (i := 806) (by decide +kernel), List.mem_of_getElem? (i := 807) (by decide +kernel)⟩
theorem lw_p26 : lw_okq (⟨"FoldedHeaps$Splitting", "meet", "(IZ)V"⟩, 4) := ⟨⟨by decide +kernel, by decide +kernel⟩, List.mem_of_getElem? (i := 263) (by decide +kernel), List.mem_of_getElem? (i := 811) (by decide +kernel), List.mem_of_getElem? (i := 812) (by decide +kernel)⟩
theorem lw_p27 : lw_okq (⟨"FoldedHeaps$Cover", "tellFrom", "(LFoldedHeaps$Shape;LFoldedHeaps$Shape;II)Z"⟩, 2) := ⟨⟨by decide +kernel, by decide +kernel⟩, List.mem_of_getElem? (i := 282) (by decide +kernel), List.mem_of_getElem? (i := 857) (by decide +kernel), List.mem_of_getElem? (i := 858) (by decide +kernel)⟩
theorem lw_p28 : lw_okq (⟨"FoldedHeaps$Cover", "fits", "(LFoldedHeaps$Shape;LFoldedHeaps$Shape;II)Z"⟩, 2) := ⟨⟨by decide +kernel, by decide +kernel⟩, List.mem_of_getElem? (i := 282) (by decide +kernel), List.mem_of_getElem? (i := 861) (by decide +kernel), List.mem_of_getElem? (i := 862) (by decide +kernel)⟩
theorem lw_p29 : lw_okq (⟨"FoldedHeaps", "imagesKept", "()I"⟩, 14) := ⟨⟨by decide +kernel, by decide +kernel⟩, List.mem_of_getElem? (i := 22) (by decide +kernel), List.mem_of_getElem? (i := 910) (by decide +kernel), List.mem_of_getElem? (i := 911) (by decide +kernel)⟩
theorem lw_p30 : lw_okq (⟨"FoldedHeapsModel", "readsOn", "()V"⟩, 29) := ⟨⟨by decide +kernel, by decide +kernel⟩, List.mem_of_getElem? (i := 918) (by decide +kernel), List.mem_of_getElem? (i := 1028) (by decide +kernel), List.mem_of_getElem? (i := 1029) (by decide +kernel)⟩
theorem lw_p31 : lw_okq (⟨"FoldedHeapsModel", "byteAt", "(I)I"⟩, 29) := ⟨⟨by decide +kernel, by decide +kernel⟩, List.mem_of_getElem? (i := 918) (by decide +kernel), List.mem_of_getElem? (i := 1032) (by decide +kernel), List.mem_of_getElem? (i := 1033) (by decide +kernel)⟩
def lw_privs_2 : List (MethodName × Nat) := [(⟨"FoldedHeaps$Formula", "worthOfItems", "(LFoldedHeaps$Shape;)I"⟩, 11), (⟨"FoldedHeaps$Formula", "truthOf", "(LFoldedHeaps$Shape;III)I"⟩, 11), (⟨"FoldedHeaps$Deeds", "follow", "(LFoldedHeaps$Shape;II)V"⟩, 1), (⟨"FoldedHeaps$Folding", "joinGroup", "(LFoldedHeaps$Shape;ZI)V"⟩, 2), (⟨"FoldedHeaps$Folding", "mergeNexts", "(LFoldedHeaps$Shape;)V"⟩, 2), (⟨"FoldedHeaps$Sharpening", "drawFromAts", "()V"⟩, 3), (⟨"FoldedHeaps$Sharpening", "makeSingle", "(I)V"⟩, 3), (⟨"FoldedHeaps$Sharpening", "clearOthers", "([II)V"⟩, 3), (⟨"FoldedHeaps$Sharpening", "drawFromNexts", "()V"⟩, 3), (⟨"FoldedHeaps$Splitting", "goThrough", "(LFoldedHeaps$Shape;II)V"⟩, 4), (⟨"FoldedHeaps$Splitting", "meet", "(IZ)V"⟩, 4), (⟨"FoldedHeaps$Cover", "tellFrom", "(LFoldedHeaps$Shape;LFoldedHeaps$Shape;II)Z"⟩, 2), (⟨"FoldedHeaps$Cover", "fits", "(LFoldedHeaps$Shape;LFoldedHeaps$Shape;II)Z"⟩, 2), (⟨"FoldedHeaps", "imagesKept", "()I"⟩, 14), (⟨"FoldedHeapsModel", "readsOn", "()V"⟩, 29), (⟨"FoldedHeapsModel", "byteAt", "(I)I"⟩, 29)]
theorem lw_r2 : ∀ q ∈ lw_privs_2, lw_okq q := List.forall_mem_cons.mpr ⟨lw_p16, List.forall_mem_cons.mpr ⟨lw_p17, List.forall_mem_cons.mpr ⟨lw_p18, List.forall_mem_cons.mpr ⟨lw_p19, List.forall_mem_cons.mpr ⟨lw_p20, List.forall_mem_cons.mpr ⟨lw_p21, List.forall_mem_cons.mpr ⟨lw_p22, List.forall_mem_cons.mpr ⟨lw_p23, List.forall_mem_cons.mpr ⟨lw_p24, List.forall_mem_cons.mpr ⟨lw_p25, List.forall_mem_cons.mpr ⟨lw_p26, List.forall_mem_cons.mpr ⟨lw_p27, List.forall_mem_cons.mpr ⟨lw_p28, List.forall_mem_cons.mpr ⟨lw_p29, List.forall_mem_cons.mpr ⟨lw_p30, List.forall_mem_cons.mpr ⟨lw_p31, fun _ h => absurd h List.not_mem_nil⟩⟩⟩⟩⟩⟩⟩⟩⟩⟩⟩⟩⟩⟩⟩⟩
theorem lw_p32 : lw_okq (⟨"FoldedHeapsModel", "fails", "(I)V"⟩, 29) := ⟨⟨by decide +kernel, by decide +kernel⟩, List.mem_of_getElem? (i := 918) (by decide +kernel), List.mem_of_getElem? (i := 1040) (by decide +kernel), List.mem_of_getElem? (i := 1041) (by decide +kernel)⟩
theorem lw_p33 : lw_okq (⟨"FoldedHeapsModel", "readLine", "()V"⟩, 29) := ⟨⟨by decide +kernel, by decide +kernel⟩, List.mem_of_getElem? (i := 918) (by decide +kernel), List.mem_of_getElem? (i := 1044) (by decide +kernel), List.mem_of_getElem? (i := 1045) (by decide +kernel)⟩
theorem lw_p34 : lw_okq (⟨"FoldedHeapsModel", "nameHere", "()I"⟩, 29) := ⟨⟨by decide +kernel, by decide +kernel⟩, List.mem_of_getElem? (i := 918) (by decide +kernel), List.mem_of_getElem? (i := 1048) (by decide +kernel), List.mem_of_getElem? (i := 1049) (by decide +kernel)⟩
theorem lw_p35 : lw_okq (⟨"FoldedHeapsModel", "readNode", "(I)V"⟩, 29) := ⟨⟨by decide +kernel, by decide +kernel⟩, List.mem_of_getElem? (i := 918) (by decide +kernel), List.mem_of_getElem? (i := 1052) (by decide +kernel), List.mem_of_getElem? (i := 1053) (by decide +kernel)⟩
theorem lw_p36 : lw_okq (⟨"FoldedHeapsModel", "readTold", "(Z)V"⟩, 29) := ⟨⟨by decide +kernel, by decide +kernel⟩, List.mem_of_getElem? (i := 918) (by decide +kernel), List.mem_of_getElem? (i := 1056) (by decide +kernel), List.mem_of_getElem? (i := 1057) (by decide +kernel)⟩
theorem lw_p37 : lw_okq (⟨"FoldedHeapsModel", "variableRead", "()I"⟩, 29) := ⟨⟨by decide +kernel, by decide +kernel⟩, List.mem_of_getElem? (i := 918) (by decide +kernel), List.mem_of_getElem? (i := 1060) (by decide +kernel), List.mem_of_getElem? (i := 1061) (by decide +kernel)⟩
theorem lw_p38 : lw_okq (⟨"FoldedHeapsModel", "letterRead", "(I)I"⟩, 29) := ⟨⟨by decide +kernel, by decide +kernel⟩, List.mem_of_getElem? (i := 918) (by decide +kernel), List.mem_of_getElem? (i := 1064) (by decide +kernel), List.mem_of_getElem? (i := 1065) (by decide +kernel)⟩
theorem lw_p39 : lw_okq (⟨"FoldedHeapsModel", "nodeRead", "()I"⟩, 29) := ⟨⟨by decide +kernel, by decide +kernel⟩, List.mem_of_getElem? (i := 918) (by decide +kernel), List.mem_of_getElem? (i := 1069) (by decide +kernel), List.mem_of_getElem? (i := 1070) (by decide +kernel)⟩
theorem lw_p40 : lw_okq (⟨"FoldedHeapsModel", "truthRead", "()I"⟩, 29) := ⟨⟨by decide +kernel, by decide +kernel⟩, List.mem_of_getElem? (i := 918) (by decide +kernel), List.mem_of_getElem? (i := 1073) (by decide +kernel), List.mem_of_getElem? (i := 1074) (by decide +kernel)⟩
theorem lw_p41 : lw_okq (⟨"FoldedHeapsModel", "readAsk", "()V"⟩, 29) := ⟨⟨by decide +kernel, by decide +kernel⟩, List.mem_of_getElem? (i := 918) (by decide +kernel), List.mem_of_getElem? (i := 1077) (by decide +kernel), List.mem_of_getElem? (i := 1078) (by decide +kernel)⟩
theorem lw_p42 : lw_okq (⟨"FoldedHeapsModel", "readLetters", "(I)V"⟩, 29) := ⟨⟨by decide +kernel, by decide +kernel⟩, List.mem_of_getElem? (i := 918) (by decide +kernel), List.mem_of_getElem? (i := 1081) (by decide +kernel), List.mem_of_getElem? (i := 1082) (by decide +kernel)⟩
theorem lw_p43 : lw_okq (⟨"FoldedHeapsModel", "readItem", "(II)I"⟩, 29) := ⟨⟨by decide +kernel, by decide +kernel⟩, List.mem_of_getElem? (i := 918) (by decide +kernel), List.mem_of_getElem? (i := 1085) (by decide +kernel), List.mem_of_getElem? (i := 1086) (by decide +kernel)⟩
theorem lw_p44 : lw_okq (⟨"FoldedHeapsModel", "toldRead", "(I)I"⟩, 29) := ⟨⟨by decide +kernel, by decide +kernel⟩, List.mem_of_getElem? (i := 918) (by decide +kernel), List.mem_of_getElem? (i := 1091) (by decide +kernel), List.mem_of_getElem? (i := 1092) (by decide +kernel)⟩
theorem lw_p45 : lw_okq (⟨"FoldedHeapsModel", "copies", "(II)V"⟩, 29) := ⟨⟨by decide +kernel, by decide +kernel⟩, List.mem_of_getElem? (i := 918) (by decide +kernel), List.mem_of_getElem? (i := 1096) (by decide +kernel), List.mem_of_getElem? (i := 1097) (by decide +kernel)⟩
theorem lw_p46 : lw_okq (⟨"FoldedHeapsModel", "nodes", "()I"⟩, 29) := ⟨⟨by decide +kernel, by decide +kernel⟩, List.mem_of_getElem? (i := 918) (by decide +kernel), List.mem_of_getElem? (i := 1108) (by decide +kernel), List.mem_of_getElem? (i := 1109) (by decide +kernel)⟩
theorem lw_p47 : lw_okq (⟨"FoldedHeapsModel", "manyOf", "(III)I"⟩, 29) := ⟨⟨by decide +kernel, by decide +kernel⟩, List.mem_of_getElem? (i := 918) (by decide +kernel), List.mem_of_getElem? (i := 1112) (by decide +kernel), List.mem_of_getElem? (i := 1113) (by decide +kernel)⟩
def lw_privs_3 : List (MethodName × Nat) := [(⟨"FoldedHeapsModel", "fails", "(I)V"⟩, 29), (⟨"FoldedHeapsModel", "readLine", "()V"⟩, 29), (⟨"FoldedHeapsModel", "nameHere", "()I"⟩, 29), (⟨"FoldedHeapsModel", "readNode", "(I)V"⟩, 29), (⟨"FoldedHeapsModel", "readTold", "(Z)V"⟩, 29), (⟨"FoldedHeapsModel", "variableRead", "()I"⟩, 29), (⟨"FoldedHeapsModel", "letterRead", "(I)I"⟩, 29), (⟨"FoldedHeapsModel", "nodeRead", "()I"⟩, 29), (⟨"FoldedHeapsModel", "truthRead", "()I"⟩, 29), (⟨"FoldedHeapsModel", "readAsk", "()V"⟩, 29), (⟨"FoldedHeapsModel", "readLetters", "(I)V"⟩, 29), (⟨"FoldedHeapsModel", "readItem", "(II)I"⟩, 29), (⟨"FoldedHeapsModel", "toldRead", "(I)I"⟩, 29), (⟨"FoldedHeapsModel", "copies", "(II)V"⟩, 29), (⟨"FoldedHeapsModel", "nodes", "()I"⟩, 29), (⟨"FoldedHeapsModel", "manyOf", "(III)I"⟩, 29)]
theorem lw_r3 : ∀ q ∈ lw_privs_3, lw_okq q := List.forall_mem_cons.mpr ⟨lw_p32, List.forall_mem_cons.mpr ⟨lw_p33, List.forall_mem_cons.mpr ⟨lw_p34, List.forall_mem_cons.mpr ⟨lw_p35, List.forall_mem_cons.mpr ⟨lw_p36, List.forall_mem_cons.mpr ⟨lw_p37, List.forall_mem_cons.mpr ⟨lw_p38, List.forall_mem_cons.mpr ⟨lw_p39, List.forall_mem_cons.mpr ⟨lw_p40, List.forall_mem_cons.mpr ⟨lw_p41, List.forall_mem_cons.mpr ⟨lw_p42, List.forall_mem_cons.mpr ⟨lw_p43, List.forall_mem_cons.mpr ⟨lw_p44, List.forall_mem_cons.mpr ⟨lw_p45, List.forall_mem_cons.mpr ⟨lw_p46, List.forall_mem_cons.mpr ⟨lw_p47, fun _ h => absurd h List.not_mem_nil⟩⟩⟩⟩⟩⟩⟩⟩⟩⟩⟩⟩⟩⟩⟩⟩
theorem lw_p48 : lw_okq (⟨"FoldedHeapsModel", "isHeap", "()Z"⟩, 29) := ⟨⟨by decide +kernel, by decide +kernel⟩, List.mem_of_getElem? (i := 918) (by decide +kernel), List.mem_of_getElem? (i := 1116) (by decide +kernel), List.mem_of_getElem? (i := 1117) (by decide +kernel)⟩
theorem lw_p49 : lw_okq (⟨"FoldedHeapsModel", "isNode", "(I)Z"⟩, 29) := ⟨⟨by decide +kernel, by decide +kernel⟩, List.mem_of_getElem? (i := 918) (by decide +kernel), List.mem_of_getElem? (i := 1124) (by decide +kernel), List.mem_of_getElem? (i := 1125) (by decide +kernel)⟩
theorem lw_p50 : lw_okq (⟨"FoldedHeapsModel", "routesAll", "()V"⟩, 29) := ⟨⟨by decide +kernel, by decide +kernel⟩, List.mem_of_getElem? (i := 918) (by decide +kernel), List.mem_of_getElem? (i := 1129) (by decide +kernel), List.mem_of_getElem? (i := 1130) (by decide +kernel)⟩
theorem lw_p51 : lw_okq (⟨"FoldedHeapsModel", "atOf", "(II)I"⟩, 29) := ⟨⟨by decide +kernel, by decide +kernel⟩, List.mem_of_getElem? (i := 918) (by decide +kernel), List.mem_of_getElem? (i := 1139) (by decide +kernel), List.mem_of_getElem? (i := 1140) (by decide +kernel)⟩
theorem lw_p52 : lw_okq (⟨"FoldedHeapsModel", "reachOf", "(II)I"⟩, 29) := ⟨⟨by decide +kernel, by decide +kernel⟩, List.mem_of_getElem? (i := 918) (by decide +kernel), List.mem_of_getElem? (i := 1143) (by decide +kernel), List.mem_of_getElem? (i := 1144) (by decide +kernel)⟩
theorem lw_p53 : lw_okq (⟨"FoldedHeapsModel", "sameOf", "(II)I"⟩, 29) := ⟨⟨by decide +kernel, by decide +kernel⟩, List.mem_of_getElem? (i := 918) (by decide +kernel), List.mem_of_getElem? (i := 1147) (by decide +kernel), List.mem_of_getElem? (i := 1148) (by decide +kernel)⟩
theorem lw_p54 : lw_okq (⟨"FoldedHeapsModel", "nextOf", "(II)I"⟩, 29) := ⟨⟨by decide +kernel, by decide +kernel⟩, List.mem_of_getElem? (i := 918) (by decide +kernel), List.mem_of_getElem? (i := 1155) (by decide +kernel), List.mem_of_getElem? (i := 1156) (by decide +kernel)⟩
theorem lw_p55 : lw_okq (⟨"FoldedHeapsModel", "heldOf", "(I)I"⟩, 29) := ⟨⟨by decide +kernel, by decide +kernel⟩, List.mem_of_getElem? (i := 918) (by decide +kernel), List.mem_of_getElem? (i := 1166) (by decide +kernel), List.mem_of_getElem? (i := 1167) (by decide +kernel)⟩
theorem lw_p56 : lw_okq (⟨"FoldedHeapsModel", "isFormula", "(I)Z"⟩, 29) := ⟨⟨by decide +kernel, by decide +kernel⟩, List.mem_of_getElem? (i := 918) (by decide +kernel), List.mem_of_getElem? (i := 1174) (by decide +kernel), List.mem_of_getElem? (i := 1175) (by decide +kernel)⟩
theorem lw_p57 : lw_okq (⟨"FoldedHeapsModel", "itemsOf", "(I)I"⟩, 29) := ⟨⟨by decide +kernel, by decide +kernel⟩, List.mem_of_getElem? (i := 918) (by decide +kernel), List.mem_of_getElem? (i := 1178) (by decide +kernel), List.mem_of_getElem? (i := 1179) (by decide +kernel)⟩
theorem lw_p58 : lw_okq (⟨"FoldedHeapsModel", "told", "(I)I"⟩, 29) := ⟨⟨by decide +kernel, by decide +kernel⟩, List.mem_of_getElem? (i := 918) (by decide +kernel), List.mem_of_getElem? (i := 1182) (by decide +kernel), List.mem_of_getElem? (i := 1183) (by decide +kernel)⟩
theorem lw_p59 : lw_okq (⟨"FoldedHeapsModel", "begins", "(II)I"⟩, 29) := ⟨⟨by decide +kernel, by decide +kernel⟩, List.mem_of_getElem? (i := 918) (by decide +kernel), List.mem_of_getElem? (i := 1186) (by decide +kernel), List.mem_of_getElem? (i := 1187) (by decide +kernel)⟩
theorem lw_p60 : lw_okq (⟨"FoldedHeapsModel", "secondOf", "(I)I"⟩, 29) := ⟨⟨by decide +kernel, by decide +kernel⟩, List.mem_of_getElem? (i := 918) (by decide +kernel), List.mem_of_getElem? (i := 1190) (by decide +kernel), List.mem_of_getElem? (i := 1191) (by decide +kernel)⟩
theorem lw_p61 : lw_okq (⟨"FoldedHeapsModel", "thirdOf", "(I)I"⟩, 29) := ⟨⟨by decide +kernel, by decide +kernel⟩, List.mem_of_getElem? (i := 918) (by decide +kernel), List.mem_of_getElem? (i := 1194) (by decide +kernel), List.mem_of_getElem? (i := 1195) (by decide +kernel)⟩
theorem lw_p62 : lw_okq (⟨"FoldedHeapsModel", "joined", "(IIII)I"⟩, 29) := ⟨⟨by decide +kernel, by decide +kernel⟩, List.mem_of_getElem? (i := 918) (by decide +kernel), List.mem_of_getElem? (i := 1198) (by decide +kernel), List.mem_of_getElem? (i := 1199) (by decide +kernel)⟩
theorem lw_p63 : lw_okq (⟨"FoldedHeapsModel", "comes", "(I)V"⟩, 29) := ⟨⟨by decide +kernel, by decide +kernel⟩, List.mem_of_getElem? (i := 918) (by decide +kernel), List.mem_of_getElem? (i := 1213) (by decide +kernel), List.mem_of_getElem? (i := 1214) (by decide +kernel)⟩
def lw_privs_4 : List (MethodName × Nat) := [(⟨"FoldedHeapsModel", "isHeap", "()Z"⟩, 29), (⟨"FoldedHeapsModel", "isNode", "(I)Z"⟩, 29), (⟨"FoldedHeapsModel", "routesAll", "()V"⟩, 29), (⟨"FoldedHeapsModel", "atOf", "(II)I"⟩, 29), (⟨"FoldedHeapsModel", "reachOf", "(II)I"⟩, 29), (⟨"FoldedHeapsModel", "sameOf", "(II)I"⟩, 29), (⟨"FoldedHeapsModel", "nextOf", "(II)I"⟩, 29), (⟨"FoldedHeapsModel", "heldOf", "(I)I"⟩, 29), (⟨"FoldedHeapsModel", "isFormula", "(I)Z"⟩, 29), (⟨"FoldedHeapsModel", "itemsOf", "(I)I"⟩, 29), (⟨"FoldedHeapsModel", "told", "(I)I"⟩, 29), (⟨"FoldedHeapsModel", "begins", "(II)I"⟩, 29), (⟨"FoldedHeapsModel", "secondOf", "(I)I"⟩, 29), (⟨"FoldedHeapsModel", "thirdOf", "(I)I"⟩, 29), (⟨"FoldedHeapsModel", "joined", "(IIII)I"⟩, 29), (⟨"FoldedHeapsModel", "comes", "(I)V"⟩, 29)]
theorem lw_r4 : ∀ q ∈ lw_privs_4, lw_okq q := List.forall_mem_cons.mpr ⟨lw_p48, List.forall_mem_cons.mpr ⟨lw_p49, List.forall_mem_cons.mpr ⟨lw_p50, List.forall_mem_cons.mpr ⟨lw_p51, List.forall_mem_cons.mpr ⟨lw_p52, List.forall_mem_cons.mpr ⟨lw_p53, List.forall_mem_cons.mpr ⟨lw_p54, List.forall_mem_cons.mpr ⟨lw_p55, List.forall_mem_cons.mpr ⟨lw_p56, List.forall_mem_cons.mpr ⟨lw_p57, List.forall_mem_cons.mpr ⟨lw_p58, List.forall_mem_cons.mpr ⟨lw_p59, List.forall_mem_cons.mpr ⟨lw_p60, List.forall_mem_cons.mpr ⟨lw_p61, List.forall_mem_cons.mpr ⟨lw_p62, List.forall_mem_cons.mpr ⟨lw_p63, fun _ h => absurd h List.not_mem_nil⟩⟩⟩⟩⟩⟩⟩⟩⟩⟩⟩⟩⟩⟩⟩⟩
theorem lw_p64 : lw_okq (⟨"FoldedHeapsModel", "movesDown", "(II)V"⟩, 29) := ⟨⟨by decide +kernel, by decide +kernel⟩, List.mem_of_getElem? (i := 918) (by decide +kernel), List.mem_of_getElem? (i := 1221) (by decide +kernel), List.mem_of_getElem? (i := 1222) (by decide +kernel)⟩
theorem lw_p65 : lw_okq (⟨"FoldedHeapsModel", "becomes", "(ZII)I"⟩, 29) := ⟨⟨by decide +kernel, by decide +kernel⟩, List.mem_of_getElem? (i := 918) (by decide +kernel), List.mem_of_getElem? (i := 1229) (by decide +kernel), List.mem_of_getElem? (i := 1230) (by decide +kernel)⟩
theorem lw_p66 : lw_okq (⟨"FoldedHeapsModel", "does", "(III)I"⟩, 29) := ⟨⟨by decide +kernel, by decide +kernel⟩, List.mem_of_getElem? (i := 918) (by decide +kernel), List.mem_of_getElem? (i := 1245) (by decide +kernel), List.mem_of_getElem? (i := 1246) (by decide +kernel)⟩
theorem lw_p67 : lw_okq (⟨"FoldedHeapsModel", "isAtAlone", "(II)V"⟩, 29) := ⟨⟨by decide +kernel, by decide +kernel⟩, List.mem_of_getElem? (i := 918) (by decide +kernel), List.mem_of_getElem? (i := 1250) (by decide +kernel), List.mem_of_getElem? (i := 1251) (by decide +kernel)⟩
theorem lw_p68 : lw_okq (⟨"FoldedHeapsModel", "becomesNext", "(II)V"⟩, 29) := ⟨⟨by decide +kernel, by decide +kernel⟩, List.mem_of_getElem? (i := 918) (by decide +kernel), List.mem_of_getElem? (i := 1254) (by decide +kernel), List.mem_of_getElem? (i := 1255) (by decide +kernel)⟩
theorem lw_p69 : lw_okq (⟨"FoldedHeapsModel", "leads", "(IIZ)V"⟩, 29) := ⟨⟨by decide +kernel, by decide +kernel⟩, List.mem_of_getElem? (i := 918) (by decide +kernel), List.mem_of_getElem? (i := 1258) (by decide +kernel), List.mem_of_getElem? (i := 1259) (by decide +kernel)⟩
theorem lw_p70 : lw_okq (⟨"FoldedHeapsModel", "grouped", "(I)I"⟩, 29) := ⟨⟨by decide +kernel, by decide +kernel⟩, List.mem_of_getElem? (i := 918) (by decide +kernel), List.mem_of_getElem? (i := 1266) (by decide +kernel), List.mem_of_getElem? (i := 1267) (by decide +kernel)⟩
theorem lw_p71 : lw_okq (⟨"FoldedHeapsModel", "isAlike", "(III)Z"⟩, 29) := ⟨⟨by decide +kernel, by decide +kernel⟩, List.mem_of_getElem? (i := 918) (by decide +kernel), List.mem_of_getElem? (i := 1270) (by decide +kernel), List.mem_of_getElem? (i := 1271) (by decide +kernel)⟩
theorem lw_p72 : lw_okq (⟨"FoldedHeapsModel", "isSharper", "()Z"⟩, 29) := ⟨⟨by decide +kernel, by decide +kernel⟩, List.mem_of_getElem? (i := 918) (by decide +kernel), List.mem_of_getElem? (i := 1278) (by decide +kernel), List.mem_of_getElem? (i := 1279) (by decide +kernel)⟩
theorem lw_p73 : lw_okq (⟨"FoldedHeapsModel", "isAlone", "(II)Z"⟩, 29) := ⟨⟨by decide +kernel, by decide +kernel⟩, List.mem_of_getElem? (i := 918) (by decide +kernel), List.mem_of_getElem? (i := 1282) (by decide +kernel), List.mem_of_getElem? (i := 1283) (by decide +kernel)⟩
theorem lw_p74 : lw_okq (⟨"FoldedHeapsModel", "wayOf", "(II)I"⟩, 29) := ⟨⟨by decide +kernel, by decide +kernel⟩, List.mem_of_getElem? (i := 918) (by decide +kernel), List.mem_of_getElem? (i := 1290) (by decide +kernel), List.mem_of_getElem? (i := 1291) (by decide +kernel)⟩
theorem lw_p75 : lw_okq (⟨"FoldedHeapsModel", "twins", "(II)V"⟩, 29) := ⟨⟨by decide +kernel, by decide +kernel⟩, List.mem_of_getElem? (i := 918) (by decide +kernel), List.mem_of_getElem? (i := 1298) (by decide +kernel), List.mem_of_getElem? (i := 1299) (by decide +kernel)⟩
theorem lw_p76 : lw_okq (⟨"FoldedHeapsModel", "isCovering", "(II)Z"⟩, 29) := ⟨⟨by decide +kernel, by decide +kernel⟩, List.mem_of_getElem? (i := 918) (by decide +kernel), List.mem_of_getElem? (i := 1320) (by decide +kernel), List.mem_of_getElem? (i := 1321) (by decide +kernel)⟩
theorem lw_p77 : lw_okq (⟨"FoldedHeapsModel", "isFitting", "(III)Z"⟩, 29) := ⟨⟨by decide +kernel, by decide +kernel⟩, List.mem_of_getElem? (i := 918) (by decide +kernel), List.mem_of_getElem? (i := 1324) (by decide +kernel), List.mem_of_getElem? (i := 1325) (by decide +kernel)⟩
theorem lw_p78 : lw_okq (⟨"FoldedHeapsModel", "isLike", "(II)Z"⟩, 29) := ⟨⟨by decide +kernel, by decide +kernel⟩, List.mem_of_getElem? (i := 918) (by decide +kernel), List.mem_of_getElem? (i := 1328) (by decide +kernel), List.mem_of_getElem? (i := 1329) (by decide +kernel)⟩
theorem lw_p79 : lw_okq (⟨"FoldedHeapsModel", "isOnto", "(II)Z"⟩, 29) := ⟨⟨by decide +kernel, by decide +kernel⟩, List.mem_of_getElem? (i := 918) (by decide +kernel), List.mem_of_getElem? (i := 1332) (by decide +kernel), List.mem_of_getElem? (i := 1333) (by decide +kernel)⟩
def lw_privs_5 : List (MethodName × Nat) := [(⟨"FoldedHeapsModel", "movesDown", "(II)V"⟩, 29), (⟨"FoldedHeapsModel", "becomes", "(ZII)I"⟩, 29), (⟨"FoldedHeapsModel", "does", "(III)I"⟩, 29), (⟨"FoldedHeapsModel", "isAtAlone", "(II)V"⟩, 29), (⟨"FoldedHeapsModel", "becomesNext", "(II)V"⟩, 29), (⟨"FoldedHeapsModel", "leads", "(IIZ)V"⟩, 29), (⟨"FoldedHeapsModel", "grouped", "(I)I"⟩, 29), (⟨"FoldedHeapsModel", "isAlike", "(III)Z"⟩, 29), (⟨"FoldedHeapsModel", "isSharper", "()Z"⟩, 29), (⟨"FoldedHeapsModel", "isAlone", "(II)Z"⟩, 29), (⟨"FoldedHeapsModel", "wayOf", "(II)I"⟩, 29), (⟨"FoldedHeapsModel", "twins", "(II)V"⟩, 29), (⟨"FoldedHeapsModel", "isCovering", "(II)Z"⟩, 29), (⟨"FoldedHeapsModel", "isFitting", "(III)Z"⟩, 29), (⟨"FoldedHeapsModel", "isLike", "(II)Z"⟩, 29), (⟨"FoldedHeapsModel", "isOnto", "(II)Z"⟩, 29)]
theorem lw_r5 : ∀ q ∈ lw_privs_5, lw_okq q := List.forall_mem_cons.mpr ⟨lw_p64, List.forall_mem_cons.mpr ⟨lw_p65, List.forall_mem_cons.mpr ⟨lw_p66, List.forall_mem_cons.mpr ⟨lw_p67, List.forall_mem_cons.mpr ⟨lw_p68, List.forall_mem_cons.mpr ⟨lw_p69, List.forall_mem_cons.mpr ⟨lw_p70, List.forall_mem_cons.mpr ⟨lw_p71, List.forall_mem_cons.mpr ⟨lw_p72, List.forall_mem_cons.mpr ⟨lw_p73, List.forall_mem_cons.mpr ⟨lw_p74, List.forall_mem_cons.mpr ⟨lw_p75, List.forall_mem_cons.mpr ⟨lw_p76, List.forall_mem_cons.mpr ⟨lw_p77, List.forall_mem_cons.mpr ⟨lw_p78, List.forall_mem_cons.mpr ⟨lw_p79, fun _ h => absurd h List.not_mem_nil⟩⟩⟩⟩⟩⟩⟩⟩⟩⟩⟩⟩⟩⟩⟩⟩
def lw_privs : List (MethodName × Nat) := lw_privs_1 ++ (lw_privs_2 ++ (lw_privs_3 ++ (lw_privs_4 ++ (lw_privs_5))))
def lw_tbl : List Cond := k2_sels lw_privs ++ tables_1
theorem lw_privs_ok : ∀ q ∈ lw_privs, lw_okq q := by
  show ∀ q ∈ lw_privs_1 ++ (lw_privs_2 ++ (lw_privs_3 ++ (lw_privs_4 ++ (lw_privs_5)))), lw_okq q
  exact List.forall_mem_append.mpr ⟨lw_r1, List.forall_mem_append.mpr ⟨lw_r2, List.forall_mem_append.mpr ⟨lw_r3, List.forall_mem_append.mpr ⟨lw_r4, lw_r5⟩⟩⟩⟩
end
section
def va_AOA (ty : FieldType) (U : State) : Prop := (Cond.arrayOver (.array ty)).before #[] U = true
theorem va_AOA.use {ty : FieldType} {A : Array Value} {U : State} (h : va_AOA ty U) : (Cond.arrayOver (.array ty)).before A U = true := h
/-! ===== BEGIN words of one list among another's, by their places ===== -/
theorem goodIn_r {big : List Cond} (ws : List Cond) (ps : List Nat) (hp : ws = ps.filterMap (fun i => big[i]?)) (h : ws.all goodWord = true) : GoodIn big ws := by
  intro w hw
  have h1 := List.all_eq_true.mp h w hw
  rw [hp] at hw
  obtain ⟨i, -, hi⟩ := List.mem_filterMap.mp hw
  have hm : w ∈ big := by first | exact List.mem_of_getElem? hi | exact List.getElem?_mem hi
  exact ⟨hm, good_of_word h1⟩
theorem goodIn_app {big a b : List Cond} (ha : GoodIn big a) (hb : GoodIn big b) : GoodIn big (a ++ b) := fun w h => (List.mem_append.mp h).elim (ha w) (hb w)
theorem goodIn_ca {big a b : List Cond} {c : Cond} (ha : GoodIn big (c :: a)) (hb : GoodIn big b) : GoodIn big (c :: (a ++ b)) := fun w h => (List.mem_cons.mp h).elim (fun e => ha w (List.mem_cons.mpr (Or.inl e))) (fun h => (List.mem_append.mp h).elim (fun h => ha w (List.mem_cons.mpr (Or.inr h))) (hb w))
theorem goodIn_sub {big ws : List Cond} (hm : ∀ w ∈ ws, w ∈ big) (h : ws.all goodWord = true) : GoodIn big ws := fun w hw => ⟨hm w hw, good_of_word (List.all_eq_true.mp h w hw)⟩
/-! ===== END ===== -/

/-! ===== BEGIN new T[n][m]: the outer array a place, the inner ones among the pooled ===== -/
/-- f, but v at every address of l -/
def vr_up {α : Type} (f : Nat → α) (l : List Nat) (v : α) : Nat → α := fun a => if a ∈ l then v else f a
theorem vr_up_in {α : Type} {f : Nat → α} {l : List Nat} {v : α} {a : Nat} (h : a ∈ l) : vr_up f l v a = v := if_pos h
theorem vr_up_ne {α : Type} {f : Nat → α} {l : List Nat} {v : α} {a : Nat} (h : a ∉ l) : vr_up f l v a = f a := if_neg h
theorem vr_rows {L l : List Nat} {f : Nat → va_E} {e : va_E} (h : ∀ a, a ∈ l → a ∉ L) : va_pl L f ++ l.map (fun a => (a, e)) = va_pl (L ++ l) (vr_up f l e) := by
  unfold va_pl
  rw [List.map_append]
  congr 1
  · apply List.map_congr_left
    intro a ha
    rw [vr_up_ne (fun q => h a q ha)]
  · apply List.map_congr_left
    intro a ha
    rw [vr_up_in ha]
theorem vr_lay {X rows : va_W} {x : Nat × va_E} {pl : va_W} {D : va_G} {cl : List vw_C} {H : Heap} (hP : va_P D cl (((X ++ pl) ++ [x]) ++ rows) H) : va_P D cl ((X ++ [x]) ++ (pl ++ rows)) H := by
  rw [List.append_assoc (X ++ pl)] at hP
  have h := va_P.swap hP
  rw [← List.append_assoc X] at h
  have h2 := va_P.swap h
  rw [List.append_assoc (X ++ [x])] at h2
  exact h2
theorem vr_layD {X rows : va_W} {x : Nat × va_E} {pl : va_W} {A : Nat → Prop} (hD : va_D A (((X ++ pl) ++ [x]) ++ rows)) : va_D A ((X ++ [x]) ++ (pl ++ rows)) := by
  rw [List.append_assoc (X ++ pl)] at hD
  have h := va_D.swap hD
  rw [← List.append_assoc X] at h
  have h2 := va_D.swap h
  rw [List.append_assoc (X ++ [x])] at h2
  exact h2
theorem vr_outer (c : ClassId) (N h0 : Nat) : ∀ i : Nat, Jvm.Free.Multi.outerC c N h0 i = arrV c N (fun j => va_rf (if j < i then some (h0 + 1 + j) else none))
  | 0 => by
    show ({ cls := c, slots := Array.replicate N .null, vm := .none } : Cell) = _
    rw [arrV_new]
    refine congrArg (arrV c N) (funext fun j => ?_)
    simp [va_rf]
  | i + 1 => by
    show (Jvm.Free.Multi.outerC c N h0 i).setSlot i (.ref (h0 + 1 + i)) = _
    rw [vr_outer c N h0 i, arrV_store]
    refine congrArg (arrV c N) (funext fun j => ?_)
    by_cases e : j = i
    · subst e
      simp [updV, va_rf]
    · by_cases h : j < i
      · simp [updV, e, h, Nat.lt_succ_of_lt h]
      · simp [updV, e, h, show ¬ j < i + 1 by omega]
section VGM
variable {p : Program} {l : Launch} {e : Env} {R : Room} {s : State} {m : MethodId} {args : Array Value} {below : List Frame} {meth : Method} {c : Code} {H : Heap} {locs : List Loc} {cells slots : Nat} {Q : State → Prop}
variable {cc : ByteArray} {pc : Nat} {ls : Array Slot} {rest : List Value} {D : va_G} {cl : List vw_C} {A : Nat → Prop} {a : Nat} {tys : List (ClassId × FieldType)} {ws : va_W} {H0 : Heap}
theorem va_mna {X : va_W} {L : List Nat} {f : Nat → va_E} {cc : ByteArray} (hexec : p.tables.exec = Jvm.exec) (hb : c.code = cc) {own : String} {index : Nat} {ty : FieldType} {cy : ClassId} (hown : s.vm.findClass own = some m.cls) (hclink : (Cond.classLink own index ("[" ++ (FieldType.array ty).toString)).before args s = true) (hover : va_AOA ty s) (harr : (Cond.arrayClass ty).before args s = true) (hcy : s.vm.findClass (FieldType.array ty).toString = some cy)
    (hK : va_K D cl tys s) (hP : va_P D cl (X ++ va_pl L f) H) (hD : va_D A (X ++ va_pl L f)) (hS : va_S A H0 H locs) (hA : ∀ q, H0.size ≤ q → A q) {n k : Int32} {N' K' : Nat} {z : vp_A} (hn : ¬ n < 0) (hk : ¬ k < 0) (hN : n.toNatClampNeg = N') (hM : k.toNatClampNeg = K')
    (hb1 : N' * 4 ≤ 536870912) (hb2 : K' * componentBytes ty ≤ 536870912) (hb3 : K' ≤ 536870912) (hdf : fits ty (defaultValue ty) = true) (hdd : (defaultValue ty).isDefault = true) (hcells : cells + (1 + N') ≤ R.cells) (hslots : slots + (N' + N' * K') ≤ R.slots) (hz : ∀ c : ClassId, Jvm.Free.Multi.innerC c K' (defaultValue ty) = vp_cell c z) (hdg : decode cc pc = .ok (.multianewarray index 2, 4))
    (kk : ∀ (q : Nat) (r : Nat → Nat) (cA : ClassId) (H1 : Heap), (∀ i j : Nat, i < N' → j < N' → r i = r j → i = j) → (∀ i : Nat, i < N' → r i ∉ L) → va_K D cl (tys ++ [(cA, .array ty)]) s →
      va_P D cl ((X ++ [(q, .inl (cA, N', .inr (.inr (.inr (.inr (fun i => if i < N' then some (r i) else none))))))]) ++ va_pl (L ++ (List.range N').map r) (vr_up f ((List.range N').map r) (.inl (cy, z)))) H1 → va_D A ((X ++ [(q, .inl (cA, N', .inr (.inr (.inr (.inr (fun i => if i < N' then some (r i) else none))))))]) ++ va_pl (L ++ (List.range N').map r) (vr_up f ((List.range N').map r) (.inl (cy, z)))) → va_S A H0 H1 locs →
      W p l e R s m args below meth c H1 locs (cells + 1 + N') (slots + N' + N' * K') Q (F0 m (pc + 4) ls (.ref q :: rest))) : W p l e R s m args below meth c H locs cells slots Q (F0 m pc ls (.int k :: .int n :: rest)) := by
  subst hN
  subst hM
  intro T hT Xs
  obtain ⟨vm₁, cA, comp, -, fA, fC, hO, -, X', step⟩ := Xs.multianewarray2F hexec hown hclink (va_AOA.use hover) harr (g := F0 m pc ls (.int k :: .int n :: rest)) rfl (by rw [hb]; exact hdg) rfl hn hk hb1 hb2 hb3 hdf hdd hcells hslots
  have ec : some cy = some comp := hcy.symm.trans fC
  cases ec
  generalize hF : Jvm.Free.Multi.fill (T.setVm vm₁) cA cy n.toNatClampNeg k.toNatClampNeg (defaultValue ty) n.toNatClampNeg = F at X' step
  have hTh : (T.setVm vm₁).heap = H := hT
  obtain ⟨f1, f2, -, -⟩ := Jvm.Free.Multi.fill_facts (T.setVm vm₁) cA cy n.toNatClampNeg k.toNatClampNeg (defaultValue ty) n.toNatClampNeg
  rw [hF, hTh] at f1 f2
  have hold : ∀ x : Nat, x < H.size → F.heap[x]? = H[x]? := fun x hx => by
    have := Jvm.Free.Multi.fill_old (T.setVm vm₁) cA cy n.toNatClampNeg k.toNatClampNeg (defaultValue ty) (a := x) (by rw [hTh]; exact hx) n.toNatClampNeg
    rw [hF, hTh] at this
    exact this
  have hrow : ∀ j : Nat, j < n.toNatClampNeg → F.heap[H.size + 1 + j]? = some (vp_cell cy z) := fun j hj => by
    have := Jvm.Free.Multi.fill_inner (T.setVm vm₁) cA cy n.toNatClampNeg k.toNatClampNeg (defaultValue ty) n.toNatClampNeg j hj
    rw [hF, hTh, hz] at this
    exact this
  have hout : Jvm.Free.Multi.outerC cA n.toNatClampNeg H.size n.toNatClampNeg = vp_cell cA (n.toNatClampNeg, .inr (.inr (.inr (.inr (fun i => if i < n.toNatClampNeg then some (H.size + 1 + i) else none))))) := by
    rw [vp_cell_q]
    exact vr_outer cA n.toNatClampNeg H.size n.toNatClampNeg
  rw [hout] at f2
  have hlt : ∀ a, a ∈ L → a < H.size := fun a ha => by
    obtain ⟨k9, hk9⟩ := va_pl_get (X := X) (f := f) ha
    exact (hP k9 _ hk9).lt
  have hnl : ∀ i : Nat, i < n.toNatClampNeg → H.size + 1 + i ∉ L := fun i _ h => by
    have := hlt _ h
    omega
  have hnm : ∀ a, a ∈ (List.range n.toNatClampNeg).map (fun i => H.size + 1 + i) → a ∉ L := fun a ha h => by
    obtain ⟨i, -, rfl⟩ := List.mem_map.mp ha
    have := hlt _ h
    omega
  have hP0 : va_P D cl (X ++ va_pl L f) F.heap := hP.kept (fun k9 x hx => hold x.1 ((hP k9 x hx).lt))
  have hP1 : va_P D cl ((X ++ va_pl L f) ++ [(H.size, .inl (cA, n.toNatClampNeg, .inr (.inr (.inr (.inr (fun i => if i < n.toNatClampNeg then some (H.size + 1 + i) else none))))))]) F.heap := hP0.app (fun k9 x hx => by
    have h0 : k9 < 1 := (List.getElem?_eq_some_iff.mp hx).1
    rw [show k9 = 0 by omega] at hx
    cases hx
    exact f2)
  have hP2 : va_P D cl (((X ++ va_pl L f) ++ [(H.size, .inl (cA, n.toNatClampNeg, .inr (.inr (.inr (.inr (fun i => if i < n.toNatClampNeg then some (H.size + 1 + i) else none))))))]) ++ ((List.range n.toNatClampNeg).map (fun i => H.size + 1 + i)).map (fun a => (a, .inl (cy, z)))) F.heap := hP1.app (fun k9 x hx => by
    obtain ⟨a, ha, rfl⟩ := List.mem_map.mp (List.mem_of_getElem? hx)
    obtain ⟨i, hi, rfl⟩ := List.mem_map.mp ha
    exact hrow i (List.mem_range.mp hi))
  have hD2 : va_D A (((X ++ va_pl L f) ++ [(H.size, .inl (cA, n.toNatClampNeg, .inr (.inr (.inr (.inr (fun i => if i < n.toNatClampNeg then some (H.size + 1 + i) else none))))))]) ++ ((List.range n.toNatClampNeg).map (fun i => H.size + 1 + i)).map (fun a => (a, .inl (cy, z)))) := by
    have hD1 := hD.push (e := .inl (cA, n.toNatClampNeg, .inr (.inr (.inr (.inr (fun i => if i < n.toNatClampNeg then some (H.size + 1 + i) else none)))))) hP rfl (hA _ hS.1)
    generalize hW1 : (X ++ va_pl L f) ++ [(H.size, .inl (cA, n.toNatClampNeg, .inr (.inr (.inr (.inr (fun i => if i < n.toNatClampNeg then some (H.size + 1 + i) else none))))))] = W1 at hD1 hP1 ⊢
    have hle : ∀ (k9 : Nat) (x : Nat × va_E), W1[k9]? = some x → x.1 ≤ H.size := fun k9 x hx => by
      rw [← hW1] at hx
      by_cases hl : k9 < (X ++ va_pl L f).length
      · rw [List.getElem?_append_left hl] at hx
        exact Nat.le_of_lt ((hP k9 x hx).lt)
      · rw [List.getElem?_append_right (by omega)] at hx
        have h0 : k9 - (X ++ va_pl L f).length < 1 := (List.getElem?_eq_some_iff.mp hx).1
        rw [show k9 - (X ++ va_pl L f).length = 0 by omega] at hx
        cases hx
        exact Nat.le_refl _
    have hr : ∀ (k9 : Nat) (x : Nat × va_E), (((List.range n.toNatClampNeg).map (fun i => H.size + 1 + i)).map (fun a => ((a, .inl (cy, z)) : Nat × va_E)))[k9]? = some x → x.1 = H.size + 1 + k9 := fun k9 x hx => by
      rw [List.getElem?_map, List.getElem?_map] at hx
      by_cases h9 : k9 < n.toNatClampNeg
      · rw [List.getElem?_range h9] at hx
        cases hx
        rfl
      · have hn0 : (List.range n.toNatClampNeg)[k9]? = none := List.getElem?_eq_none (by rw [List.length_range]; omega)
        rw [hn0] at hx
        cases hx
    refine ⟨fun i j x y hi hj hxy => ?_, fun k9 x hx => ?_⟩
    · by_cases h1 : i < W1.length <;> by_cases h2 : j < W1.length
      · rw [List.getElem?_append_left h1] at hi
        rw [List.getElem?_append_left h2] at hj
        exact hD1.1 i j x y hi hj hxy
      · rw [List.getElem?_append_left h1] at hi
        rw [List.getElem?_append_right (by omega)] at hj
        have := hle _ _ hi
        have := hr _ _ hj
        omega
      · rw [List.getElem?_append_right (by omega)] at hi
        rw [List.getElem?_append_left h2] at hj
        have := hle _ _ hj
        have := hr _ _ hi
        omega
      · rw [List.getElem?_append_right (by omega)] at hi hj
        have := hr _ _ hi
        have := hr _ _ hj
        omega
    · by_cases h1 : k9 < W1.length
      · rw [List.getElem?_append_left h1] at hx
        exact hD1.2 k9 x hx
      · rw [List.getElem?_append_right (by omega)] at hx
        have := hr _ _ hx
        exact hA _ (by have := hS.1; omega)
  have hAr : ArrOfT s cA (.array ty) := fun N9 z9 => by
    obtain ⟨-, k9, hk9, cm9, hkk9⟩ := (hO 0 0 0).1
    exact ⟨(fun q hq => by cases hq), k9, hk9, cm9, hkk9⟩
  have hK2 : va_K D cl (tys ++ [(cA, .array ty)]) s := ⟨hK.1, fun k9 x hx => by
    by_cases hl : k9 < tys.length
    · rw [List.getElem?_append_left hl] at hx
      exact hK.2 k9 x hx
    · rw [List.getElem?_append_right (by omega)] at hx
      have h0 : k9 - tys.length < 1 := (List.getElem?_eq_some_iff.mp hx).1
      rw [show k9 - tys.length = 0 by omega] at hx
      cases hx
      exact ⟨hAr, fA⟩⟩
  obtain ⟨t, a1, b1⟩ := kk H.size (fun i => H.size + 1 + i) cA F.heap (fun i j _ _ h => by have h9 : H.size + 1 + i = H.size + 1 + j := h; omega) hnl hK2 (by rw [← vr_rows hnm]; exact vr_lay hP2) (by rw [← vr_rows hnm]; exact vr_layD hD2) ⟨by rw [f1]; have := hS.1; omega, fun x h1 h2 => (hold x (Nat.lt_of_lt_of_le h1 hS.1)).trans (hS.2.1 x h1 h2), hS.2.2⟩ F rfl X'
  refine ⟨t, step t ?_, b1⟩
  have e : T.heap.size = H.size := by rw [hT]
  rw [e]
  exact a1
end VGM
/-! ===== END ===== -/

/-! ===== BEGIN printed: names, fields, word lists, decode rows ===== -/
def RX0 : String := "FoldedHeaps$Cover"
def TX0 : u_T := fun k => match k with
  | 0 => ("FoldedHeaps$Cover", "toldTo", "[I", true)
  | _ => ("FoldedHeaps$Cover", "having", "[I", true)
def tyX0 : Nat → FieldType := fun k => match k with
  | 0 => .array .int
  | _ => .array .int
abbrev wsX00 : List Cond := u_ws RX0 TX0 2
theorem nmX0 : ∀ a, a < 2 → ∀ b, b < 2 → a ≠ b → (TX0 a).2.1 ≠ (TX0 b).2.1 := by decide +kernel
theorem tyX0_ok : ∀ k, k < 2 → parseFieldDescriptor (TX0 k).2.2.1 = some (tyX0 k) := by decide +kernel
abbrev cX0_init : ByteArray := prog_2_method_1_code
def yX0_init : MethodName := ⟨RX0, "<init>", "()V"⟩
abbrev cX0_holds : ByteArray := prog_2_method_2_code
def yX0_holds : MethodName := ⟨RX0, "holds", "(LFoldedHeaps$Shape;LFoldedHeaps$Shape;)Z"⟩
abbrev cX0_tellFrom : ByteArray := prog_2_method_3_code
def yX0_tellFrom : MethodName := ⟨RX0, "tellFrom", "(LFoldedHeaps$Shape;LFoldedHeaps$Shape;II)Z"⟩
abbrev cX0_fits : ByteArray := prog_2_method_4_code
def yX0_fits : MethodName := ⟨RX0, "fits", "(LFoldedHeaps$Shape;LFoldedHeaps$Shape;II)Z"⟩
abbrev cX0_allows : ByteArray := prog_2_method_5_code
def yX0_allows : MethodName := ⟨RX0, "allows", "(II)Z"⟩
def RX1 : String := "FoldedHeaps$Deeds"
def TX1 : u_T := fun k => match k with
  | _ => ("FoldedHeaps$Deeds", "row", "[I", true)
def tyX1 : Nat → FieldType := fun k => match k with
  | _ => .array .int
abbrev wsX10 : List Cond := u_ws RX1 TX1 1
theorem nmX1 : ∀ a, a < 1 → ∀ b, b < 1 → a ≠ b → (TX1 a).2.1 ≠ (TX1 b).2.1 := by decide +kernel
theorem tyX1_ok : ∀ k, k < 1 → parseFieldDescriptor (TX1 k).2.2.1 = some (tyX1 k) := by decide +kernel
abbrev cX1_init : ByteArray := prog_3_method_1_code
def yX1_init : MethodName := ⟨RX1, "<init>", "()V"⟩
abbrev cX1_perform : ByteArray := prog_3_method_2_code
def yX1_perform : MethodName := ⟨RX1, "perform", "(LFoldedHeaps$Shape;III)I"⟩
abbrev cX1_looksAtOther : ByteArray := prog_3_method_3_code
def yX1_looksAtOther : MethodName := ⟨RX1, "looksAtOther", "(I)Z"⟩
abbrev cX1_answerAhead : ByteArray := prog_3_method_4_code
def yX1_answerAhead : MethodName := ⟨RX1, "answerAhead", "(LFoldedHeaps$Shape;III)I"⟩
abbrev cX1_follow : ByteArray := prog_3_method_5_code
def yX1_follow : MethodName := ⟨RX1, "follow", "(LFoldedHeaps$Shape;II)V"⟩
abbrev cX1_cut : ByteArray := prog_3_method_6_code
def yX1_cut : MethodName := ⟨RX1, "cut", "(LFoldedHeaps$Shape;I)V"⟩
abbrev cX1_link : ByteArray := prog_3_method_7_code
def yX1_link : MethodName := ⟨RX1, "link", "(LFoldedHeaps$Shape;II)V"⟩
def RX2 : String := "FoldedHeaps$Folding"
def TX2 : u_T := fun k => match k with
  | 0 => ("FoldedHeaps$Folding", "folded", "LFoldedHeaps$Shape;", true)
  | _ => ("FoldedHeaps$Folding", "group", "[I", true)
def tyX2 : Nat → FieldType := fun k => match k with
  | 0 => .object "FoldedHeaps$Shape"
  | _ => .array .int
abbrev wsX20 : List Cond := u_ws RX2 TX2 2
theorem nmX2 : ∀ a, a < 2 → ∀ b, b < 2 → a ≠ b → (TX2 a).2.1 ≠ (TX2 b).2.1 := by decide +kernel
theorem tyX2_ok : ∀ k, k < 2 → parseFieldDescriptor (TX2 k).2.2.1 = some (tyX2 k) := by decide +kernel
abbrev cX2_init : ByteArray := prog_4_method_1_code
def yX2_init : MethodName := ⟨RX2, "<init>", "()V"⟩
abbrev cX2_apply : ByteArray := prog_4_method_2_code
def yX2_apply : MethodName := ⟨RX2, "apply", "(LFoldedHeaps$Shape;Z)V"⟩
abbrev cX2_joinGroup : ByteArray := prog_4_method_3_code
def yX2_joinGroup : MethodName := ⟨RX2, "joinGroup", "(LFoldedHeaps$Shape;ZI)V"⟩
abbrev cX2_alike : ByteArray := prog_4_method_4_code
def yX2_alike : MethodName := ⟨RX2, "alike", "([[III)Z"⟩
abbrev cX2_mergeNexts : ByteArray := prog_4_method_5_code
def yX2_mergeNexts : MethodName := ⟨RX2, "mergeNexts", "(LFoldedHeaps$Shape;)V"⟩
def RX3 : String := "FoldedHeaps$Formula"
def TX3 : u_T := fun k => match k with
  | 0 => ("FoldedHeaps$Formula", "letters", "I", false)
  | 1 => ("FoldedHeaps$Formula", "letter", "[I", true)
  | 2 => ("FoldedHeaps$Formula", "hasAll", "[Z", true)
  | 3 => ("FoldedHeaps$Formula", "items", "I", false)
  | 4 => ("FoldedHeaps$Formula", "kind", "[I", true)
  | 5 => ("FoldedHeaps$Formula", "first", "[I", true)
  | 6 => ("FoldedHeaps$Formula", "second", "[I", true)
  | 7 => ("FoldedHeaps$Formula", "height", "I", false)
  | 8 => ("FoldedHeaps$Formula", "highest", "I", false)
  | 9 => ("FoldedHeaps$Formula", "standsFor", "[I", true)
  | _ => ("FoldedHeaps$Formula", "heap", "[I", true)
def tyX3 : Nat → FieldType := fun k => match k with
  | 0 => .int
  | 1 => .array .int
  | 2 => .array .boolean
  | 3 => .int
  | 4 => .array .int
  | 5 => .array .int
  | 6 => .array .int
  | 7 => .int
  | 8 => .int
  | 9 => .array .int
  | _ => .array .int
abbrev wsX30 : List Cond := u_ws RX3 TX3 11
theorem nmX3 : ∀ a, a < 11 → ∀ b, b < 11 → a ≠ b → (TX3 a).2.1 ≠ (TX3 b).2.1 := by decide +kernel
theorem tyX3_ok : ∀ k, k < 11 → parseFieldDescriptor (TX3 k).2.2.1 = some (tyX3 k) := by decide +kernel
abbrev cX3_init : ByteArray := prog_5_method_1_code
def yX3_init : MethodName := ⟨RX3, "<init>", "()V"⟩
abbrev cX3_clear : ByteArray := prog_5_method_2_code
def yX3_clear : MethodName := ⟨RX3, "clear", "()V"⟩
abbrev cX3_placeOf : ByteArray := prog_5_method_3_code
def yX3_placeOf : MethodName := ⟨RX3, "placeOf", "(I)I"⟩
abbrev cX3_putLetter : ByteArray := prog_5_method_4_code
def yX3_putLetter : MethodName := ⟨RX3, "putLetter", "(IZ)V"⟩
abbrev cX3_allBits : ByteArray := prog_5_method_5_code
def yX3_allBits : MethodName := ⟨RX3, "allBits", "()I"⟩
abbrev cX3_isFull : ByteArray := prog_5_method_6_code
def yX3_isFull : MethodName := ⟨RX3, "isFull", "()Z"⟩
abbrev cX3_hasEnoughFor : ByteArray := prog_5_method_7_code
def yX3_hasEnoughFor : MethodName := ⟨RX3, "hasEnoughFor", "(I)Z"⟩
abbrev cX3_putItem : ByteArray := prog_5_method_8_code
def yX3_putItem : MethodName := ⟨RX3, "putItem", "(III)V"⟩
abbrev cX3_taken : ByteArray := prog_5_method_9_code
def yX3_taken : MethodName := ⟨RX3, "taken", "(I)I"⟩
abbrev cX3_worth : ByteArray := prog_5_method_10_code
def yX3_worth : MethodName := ⟨RX3, "worth", "(LFoldedHeaps$Shape;)I"⟩
abbrev cX3_worthFrom : ByteArray := prog_5_method_11_code
def yX3_worthFrom : MethodName := ⟨RX3, "worthFrom", "(LFoldedHeaps$Shape;I)I"⟩
abbrev cX3_worthOfItems : ByteArray := prog_5_method_12_code
def yX3_worthOfItems : MethodName := ⟨RX3, "worthOfItems", "(LFoldedHeaps$Shape;)I"⟩
abbrev cX3_truthOf : ByteArray := prog_5_method_13_code
def yX3_truthOf : MethodName := ⟨RX3, "truthOf", "(LFoldedHeaps$Shape;III)I"⟩
def RX4 : String := "FoldedHeaps$Reader"
def TX4 : u_T := fun k => match k with
  | 0 => ("FoldedHeaps$Reader", "draft", "LFoldedHeaps$Told;", false)
  | 1 => ("FoldedHeaps$Reader", "furthestNode", "I", false)
  | 2 => ("FoldedHeaps$Reader", "fault", "I", false)
  | 3 => ("FoldedHeaps$Reader", "place", "I", false)
  | _ => ("FoldedHeaps$Reader", "lines", "I", false)
def tyX4 : Nat → FieldType := fun k => match k with
  | 0 => .object "FoldedHeaps$Told"
  | 1 => .int
  | 2 => .int
  | 3 => .int
  | _ => .int
abbrev wsX40 : List Cond := u_ws RX4 TX4 5
theorem nmX4 : ∀ a, a < 5 → ∀ b, b < 5 → a ≠ b → (TX4 a).2.1 ≠ (TX4 b).2.1 := by decide +kernel
theorem tyX4_ok : ∀ k, k < 5 → parseFieldDescriptor (TX4 k).2.2.1 = some (tyX4 k) := by decide +kernel
abbrev cX4_init : ByteArray := prog_6_method_1_code
def yX4_init : MethodName := ⟨RX4, "<init>", "()V"⟩
abbrev cX4_takes : ByteArray := prog_6_method_2_code
def yX4_takes : MethodName := ⟨RX4, "takes", "(LFoldedHeaps$Tape;)Z"⟩
abbrev cX4_refuse : ByteArray := prog_6_method_3_code
def yX4_refuse : MethodName := ⟨RX4, "refuse", "(LFoldedHeaps$Tape;I)Z"⟩
abbrev cX4_refuseToken : ByteArray := prog_6_method_4_code
def yX4_refuseToken : MethodName := ⟨RX4, "refuseToken", "(LFoldedHeaps$Tape;)Z"⟩
abbrev cX4_takeLine : ByteArray := prog_6_method_5_code
def yX4_takeLine : MethodName := ⟨RX4, "takeLine", "(LFoldedHeaps$Tape;)Z"⟩
abbrev cX4_takeNode : ByteArray := prog_6_method_6_code
def yX4_takeNode : MethodName := ⟨RX4, "takeNode", "(LFoldedHeaps$Tape;Z)Z"⟩
abbrev cX4_takeAt : ByteArray := prog_6_method_7_code
def yX4_takeAt : MethodName := ⟨RX4, "takeAt", "(LFoldedHeaps$Tape;)Z"⟩
abbrev cX4_takeNext : ByteArray := prog_6_method_8_code
def yX4_takeNext : MethodName := ⟨RX4, "takeNext", "(LFoldedHeaps$Tape;)Z"⟩
abbrev cX4_takeAsk : ByteArray := prog_6_method_9_code
def yX4_takeAsk : MethodName := ⟨RX4, "takeAsk", "(LFoldedHeaps$Tape;)Z"⟩
abbrev cX4_tellLetter : ByteArray := prog_6_method_10_code
def yX4_tellLetter : MethodName := ⟨RX4, "tellLetter", "(LFoldedHeaps$Tape;LFoldedHeaps$Formula;)Z"⟩
abbrev cX4_takeItem : ByteArray := prog_6_method_11_code
def yX4_takeItem : MethodName := ⟨RX4, "takeItem", "(LFoldedHeaps$Tape;LFoldedHeaps$Formula;)Z"⟩
abbrev cX4_itemKind : ByteArray := prog_6_method_12_code
def yX4_itemKind : MethodName := ⟨RX4, "itemKind", "(LFoldedHeaps$Tape;)I"⟩
abbrev cX4_takeVariable : ByteArray := prog_6_method_13_code
def yX4_takeVariable : MethodName := ⟨RX4, "takeVariable", "(LFoldedHeaps$Tape;)I"⟩
abbrev cX4_takeLetter : ByteArray := prog_6_method_14_code
def yX4_takeLetter : MethodName := ⟨RX4, "takeLetter", "(LFoldedHeaps$Tape;LFoldedHeaps$Formula;)I"⟩
abbrev cX4_takeNodeNumber : ByteArray := prog_6_method_15_code
def yX4_takeNodeNumber : MethodName := ⟨RX4, "takeNodeNumber", "(LFoldedHeaps$Tape;)I"⟩
abbrev cX4_takeTruth : ByteArray := prog_6_method_16_code
def yX4_takeTruth : MethodName := ⟨RX4, "takeTruth", "(LFoldedHeaps$Tape;)I"⟩
abbrev cX4_takeSign : ByteArray := prog_6_method_17_code
def yX4_takeSign : MethodName := ⟨RX4, "takeSign", "(LFoldedHeaps$Tape;C)Z"⟩
def RX5 : String := "FoldedHeaps$Shape"
def TX5 : u_T := fun k => match k with
  | 0 => ("FoldedHeaps$Shape", "size", "I", false)
  | 1 => ("FoldedHeaps$Shape", "many", "[Z", true)
  | 2 => ("FoldedHeaps$Shape", "at", "[[I", true)
  | 3 => ("FoldedHeaps$Shape", "next", "[[I", true)
  | 4 => ("FoldedHeaps$Shape", "way", "[[I", true)
  | _ => ("FoldedHeaps$Shape", "reach", "[[I", true)
def tyX5 : Nat → FieldType := fun k => match k with
  | 0 => .int
  | 1 => .array .boolean
  | 2 => .array (.array .int)
  | 3 => .array (.array .int)
  | 4 => .array (.array .int)
  | _ => .array (.array .int)
abbrev wsX50 : List Cond := u_ws RX5 TX5 6
theorem nmX5 : ∀ a, a < 6 → ∀ b, b < 6 → a ≠ b → (TX5 a).2.1 ≠ (TX5 b).2.1 := by decide +kernel
theorem tyX5_ok : ∀ k, k < 6 → parseFieldDescriptor (TX5 k).2.2.1 = some (tyX5 k) := by decide +kernel
abbrev cX5_init : ByteArray := prog_7_method_1_code
def yX5_init : MethodName := ⟨RX5, "<init>", "()V"⟩
abbrev cX5_has : ByteArray := prog_7_method_2_code
def yX5_has : MethodName := ⟨RX5, "has", "(I)Z"⟩
abbrev cX5_isFull : ByteArray := prog_7_method_3_code
def yX5_isFull : MethodName := ⟨RX5, "isFull", "()Z"⟩
abbrev cX5_clear : ByteArray := prog_7_method_4_code
def yX5_clear : MethodName := ⟨RX5, "clear", "()V"⟩
abbrev cX5_copy : ByteArray := prog_7_method_5_code
def yX5_copy : MethodName := ⟨RX5, "copy", "(LFoldedHeaps$Shape;)V"⟩
abbrev cX5_append : ByteArray := prog_7_method_6_code
def yX5_append : MethodName := ⟨RX5, "append", "(Z)V"⟩
abbrev cX5_drop : ByteArray := prog_7_method_7_code
def yX5_drop : MethodName := ⟨RX5, "drop", "(I)V"⟩
abbrev cX5_closeGap : ByteArray := prog_7_method_8_code
def yX5_closeGap : MethodName := ⟨RX5, "closeGap", "([II)V"⟩
abbrev cX5_sameness : ByteArray := prog_7_method_9_code
def yX5_sameness : MethodName := ⟨RX5, "sameness", "(II)I"⟩
abbrev cX5_holding : ByteArray := prog_7_method_10_code
def yX5_holding : MethodName := ⟨RX5, "holding", "(I)I"⟩
abbrev cX5_manys : ByteArray := prog_7_method_11_code
def yX5_manys : MethodName := ⟨RX5, "manys", "()I"⟩
abbrev cX5_atsThatAre : ByteArray := prog_7_method_12_code
def yX5_atsThatAre : MethodName := ⟨RX5, "atsThatAre", "(I)I"⟩
abbrev cX5_nextsThatAre : ByteArray := prog_7_method_13_code
def yX5_nextsThatAre : MethodName := ⟨RX5, "nextsThatAre", "(I)I"⟩
abbrev cX5_cellsThatAre : ByteArray := prog_7_method_14_code
def yX5_cellsThatAre : MethodName := ⟨RX5, "cellsThatAre", "([II)I"⟩
abbrev cX5_isHeap : ByteArray := prog_7_method_15_code
def yX5_isHeap : MethodName := ⟨RX5, "isHeap", "()Z"⟩
abbrev cX5_trace : ByteArray := prog_7_method_16_code
def yX5_trace : MethodName := ⟨RX5, "trace", "()V"⟩
abbrev cX5_reaching : ByteArray := prog_7_method_17_code
def yX5_reaching : MethodName := ⟨RX5, "reaching", "(II)I"⟩
def RX6 : String := "FoldedHeaps$Sharpening"
def TX6 : u_T := fun k => match k with
  | 0 => ("FoldedHeaps$Sharpening", "sharp", "LFoldedHeaps$Shape;", true)
  | 1 => ("FoldedHeaps$Sharpening", "changes", "I", false)
  | _ => ("FoldedHeaps$Sharpening", "impossible", "Z", false)
def tyX6 : Nat → FieldType := fun k => match k with
  | 0 => .object "FoldedHeaps$Shape"
  | 1 => .int
  | _ => .boolean
abbrev wsX60 : List Cond := u_ws RX6 TX6 3
theorem nmX6 : ∀ a, a < 3 → ∀ b, b < 3 → a ≠ b → (TX6 a).2.1 ≠ (TX6 b).2.1 := by decide +kernel
theorem tyX6_ok : ∀ k, k < 3 → parseFieldDescriptor (TX6 k).2.2.1 = some (tyX6 k) := by decide +kernel
abbrev cX6_init : ByteArray := prog_8_method_1_code
def yX6_init : MethodName := ⟨RX6, "<init>", "()V"⟩
abbrev cX6_apply : ByteArray := prog_8_method_2_code
def yX6_apply : MethodName := ⟨RX6, "apply", "(LFoldedHeaps$Shape;)I"⟩
abbrev cX6_drawFromAts : ByteArray := prog_8_method_3_code
def yX6_drawFromAts : MethodName := ⟨RX6, "drawFromAts", "()V"⟩
abbrev cX6_drawFromNexts : ByteArray := prog_8_method_4_code
def yX6_drawFromNexts : MethodName := ⟨RX6, "drawFromNexts", "()V"⟩
abbrev cX6_makeSingle : ByteArray := prog_8_method_5_code
def yX6_makeSingle : MethodName := ⟨RX6, "makeSingle", "(I)V"⟩
abbrev cX6_clearOthers : ByteArray := prog_8_method_6_code
def yX6_clearOthers : MethodName := ⟨RX6, "clearOthers", "([II)V"⟩
def RX7 : String := "FoldedHeaps$Sheet"
def TX7 : u_T := fun k => match k with
  | 0 => ("FoldedHeaps$Sheet", "isLaid", "Z", false)
  | 1 => ("FoldedHeaps$Sheet", "lane", "I", false)
  | 2 => ("FoldedHeaps$Sheet", "size", "I", false)
  | _ => ("FoldedHeaps$Sheet", "cells", "[I", true)
def tyX7 : Nat → FieldType := fun k => match k with
  | 0 => .boolean
  | 1 => .int
  | 2 => .int
  | _ => .array .int
abbrev wsX70 : List Cond := u_ws RX7 TX7 4
theorem nmX7 : ∀ a, a < 4 → ∀ b, b < 4 → a ≠ b → (TX7 a).2.1 ≠ (TX7 b).2.1 := by decide +kernel
theorem tyX7_ok : ∀ k, k < 4 → parseFieldDescriptor (TX7 k).2.2.1 = some (tyX7 k) := by decide +kernel
abbrev cX7_init : ByteArray := prog_9_method_1_code
def yX7_init : MethodName := ⟨RX7, "<init>", "()V"⟩
abbrev cX7_renew : ByteArray := prog_9_method_2_code
def yX7_renew : MethodName := ⟨RX7, "renew", "(II)V"⟩
abbrev cX7_findTaken : ByteArray := prog_9_method_3_code
def yX7_findTaken : MethodName := ⟨RX7, "findTaken", "(III)I"⟩
abbrev cX7_put : ByteArray := prog_9_method_4_code
def yX7_put : MethodName := ⟨RX7, "put", "(II)V"⟩
def RX8 : String := "FoldedHeaps$Splitting"
def TX8 : u_T := fun k => match k with
  | 0 => ("FoldedHeaps$Splitting", "wayNode", "I", false)
  | 1 => ("FoldedHeaps$Splitting", "wayBeside", "Z", false)
  | 2 => ("FoldedHeaps$Splitting", "met", "I", false)
  | _ => ("FoldedHeaps$Splitting", "sought", "I", false)
def tyX8 : Nat → FieldType := fun k => match k with
  | 0 => .int
  | 1 => .boolean
  | 2 => .int
  | _ => .int
abbrev wsX80 : List Cond := u_ws RX8 TX8 4
theorem nmX8 : ∀ a, a < 4 → ∀ b, b < 4 → a ≠ b → (TX8 a).2.1 ≠ (TX8 b).2.1 := by decide +kernel
theorem tyX8_ok : ∀ k, k < 4 → parseFieldDescriptor (TX8 k).2.2.1 = some (tyX8 k) := by decide +kernel
abbrev cX8_init : ByteArray := prog_10_method_1_code
def yX8_init : MethodName := ⟨RX8, "<init>", "()V"⟩
abbrev cX8_number : ByteArray := prog_10_method_2_code
def yX8_number : MethodName := ⟨RX8, "number", "(LFoldedHeaps$Shape;I)I"⟩
abbrev cX8_apply : ByteArray := prog_10_method_3_code
def yX8_apply : MethodName := ⟨RX8, "apply", "(LFoldedHeaps$Shape;II)I"⟩
abbrev cX8_goThrough : ByteArray := prog_10_method_4_code
def yX8_goThrough : MethodName := ⟨RX8, "goThrough", "(LFoldedHeaps$Shape;II)V"⟩
abbrev cX8_meet : ByteArray := prog_10_method_5_code
def yX8_meet : MethodName := ⟨RX8, "meet", "(IZ)V"⟩
abbrev cX8_appendOthersOf : ByteArray := prog_10_method_6_code
def yX8_appendOthersOf : MethodName := ⟨RX8, "appendOthersOf", "(LFoldedHeaps$Shape;I)V"⟩
def RX9 : String := "FoldedHeaps$Tape"
def TX9 : u_T := fun k => match k with
  | 0 => ("FoldedHeaps$Tape", "bytes", "[B", true)
  | 1 => ("FoldedHeaps$Tape", "length", "I", false)
  | 2 => ("FoldedHeaps$Tape", "token", "I", false)
  | 3 => ("FoldedHeaps$Tape", "start", "I", false)
  | _ => ("FoldedHeaps$Tape", "stop", "I", false)
def tyX9 : Nat → FieldType := fun k => match k with
  | 0 => .array .byte
  | 1 => .int
  | 2 => .int
  | 3 => .int
  | _ => .int
abbrev wsX90 : List Cond := u_ws RX9 TX9 5
theorem nmX9 : ∀ a, a < 5 → ∀ b, b < 5 → a ≠ b → (TX9 a).2.1 ≠ (TX9 b).2.1 := by decide +kernel
theorem tyX9_ok : ∀ k, k < 5 → parseFieldDescriptor (TX9 k).2.2.1 = some (tyX9 k) := by decide +kernel
abbrev cX9_init : ByteArray := prog_11_method_1_code
def yX9_init : MethodName := ⟨RX9, "<init>", "()V"⟩
abbrev cX9_put : ByteArray := prog_11_method_2_code
def yX9_put : MethodName := ⟨RX9, "put", "(B)Z"⟩
abbrev cX9_rewind : ByteArray := prog_11_method_3_code
def yX9_rewind : MethodName := ⟨RX9, "rewind", "()V"⟩
abbrev cX9_advance : ByteArray := prog_11_method_4_code
def yX9_advance : MethodName := ⟨RX9, "advance", "()V"⟩
abbrev cX9_isSign : ByteArray := prog_11_method_5_code
def yX9_isSign : MethodName := ⟨RX9, "isSign", "(C)Z"⟩
abbrev cX9_isName : ByteArray := prog_11_method_6_code
def yX9_isName : MethodName := ⟨RX9, "isName", "(Ljava/lang/String;)Z"⟩
abbrev cX9_oneOfThree : ByteArray := prog_11_method_7_code
def yX9_oneOfThree : MethodName := ⟨RX9, "oneOfThree", "(C)I"⟩
abbrev cX9_number : ByteArray := prog_11_method_8_code
def yX9_number : MethodName := ⟨RX9, "number", "()I"⟩
def RX10 : String := "FoldedHeaps$Told"
def TX10 : u_T := fun k => match k with
  | 0 => ("FoldedHeaps$Told", "shape", "LFoldedHeaps$Shape;", true)
  | 1 => ("FoldedHeaps$Told", "formula", "[LFoldedHeaps$Formula;", true)
  | _ => ("FoldedHeaps$Told", "formulas", "I", false)
def tyX10 : Nat → FieldType := fun k => match k with
  | 0 => .object "FoldedHeaps$Shape"
  | 1 => .array (.object "FoldedHeaps$Formula")
  | _ => .int
abbrev wsX100 : List Cond := u_ws RX10 TX10 3
theorem nmX10 : ∀ a, a < 3 → ∀ b, b < 3 → a ≠ b → (TX10 a).2.1 ≠ (TX10 b).2.1 := by decide +kernel
theorem tyX10_ok : ∀ k, k < 3 → parseFieldDescriptor (TX10 k).2.2.1 = some (tyX10 k) := by decide +kernel
abbrev cX10_init : ByteArray := prog_12_method_1_code
def yX10_init : MethodName := ⟨RX10, "<init>", "()V"⟩
abbrev cX10_clear : ByteArray := prog_12_method_2_code
def yX10_clear : MethodName := ⟨RX10, "clear", "()V"⟩
abbrev cX10_itemsOfAll : ByteArray := prog_12_method_3_code
def yX10_itemsOfAll : MethodName := ⟨RX10, "itemsOfAll", "()I"⟩
def RX11 : String := "FoldedHeaps"
def TX11 : u_T := fun k => match k with
  | 0 => ("FoldedHeaps", "tape", "LFoldedHeaps$Tape;", true)
  | 1 => ("FoldedHeaps", "reader", "LFoldedHeaps$Reader;", true)
  | 2 => ("FoldedHeaps", "told", "LFoldedHeaps$Told;", false)
  | 3 => ("FoldedHeaps", "textFault", "I", false)
  | 4 => ("FoldedHeaps", "images", "[LFoldedHeaps$Shape;", true)
  | 5 => ("FoldedHeaps", "kept", "[Z", true)
  | 6 => ("FoldedHeaps", "sheets", "[LFoldedHeaps$Sheet;", true)
  | 7 => ("FoldedHeaps", "readFault", "I", false)
  | 8 => ("FoldedHeaps", "before", "LFoldedHeaps$Shape;", true)
  | 9 => ("FoldedHeaps", "deeds", "LFoldedHeaps$Deeds;", true)
  | 10 => ("FoldedHeaps", "folding", "LFoldedHeaps$Folding;", true)
  | 11 => ("FoldedHeaps", "sharpening", "LFoldedHeaps$Sharpening;", true)
  | 12 => ("FoldedHeaps", "splitting", "LFoldedHeaps$Splitting;", true)
  | _ => ("FoldedHeaps", "cover", "LFoldedHeaps$Cover;", true)
def tyX11 : Nat → FieldType := fun k => match k with
  | 0 => .object "FoldedHeaps$Tape"
  | 1 => .object "FoldedHeaps$Reader"
  | 2 => .object "FoldedHeaps$Told"
  | 3 => .int
  | 4 => .array (.object "FoldedHeaps$Shape")
  | 5 => .array .boolean
  | 6 => .array (.object "FoldedHeaps$Sheet")
  | 7 => .int
  | 8 => .object "FoldedHeaps$Shape"
  | 9 => .object "FoldedHeaps$Deeds"
  | 10 => .object "FoldedHeaps$Folding"
  | 11 => .object "FoldedHeaps$Sharpening"
  | 12 => .object "FoldedHeaps$Splitting"
  | _ => .object "FoldedHeaps$Cover"
abbrev wsX110 : List Cond := u_ws RX11 TX11 14
theorem nmX11 : ∀ a, a < 14 → ∀ b, b < 14 → a ≠ b → (TX11 a).2.1 ≠ (TX11 b).2.1 := by decide +kernel
theorem tyX11_ok : ∀ k, k < 14 → parseFieldDescriptor (TX11 k).2.2.1 = some (tyX11 k) := by decide +kernel
abbrev cX11_init : ByteArray := prog_1_method_1_code
def yX11_init : MethodName := ⟨RX11, "<init>", "()V"⟩
abbrev cX11_feed : ByteArray := prog_1_method_2_code
def yX11_feed : MethodName := ⟨RX11, "feed", "(I)I"⟩
abbrev cX11_end : ByteArray := prog_1_method_3_code
def yX11_end : MethodName := ⟨RX11, "end", "(I)I"⟩
abbrev cX11_text : ByteArray := prog_1_method_4_code
def yX11_text : MethodName := ⟨RX11, "text", "()I"⟩
abbrev cX11_fault : ByteArray := prog_1_method_5_code
def yX11_fault : MethodName := ⟨RX11, "fault", "()I"⟩
abbrev cX11_rule : ByteArray := prog_1_method_6_code
def yX11_rule : MethodName := ⟨RX11, "rule", "(I)I"⟩
abbrev cX11_node : ByteArray := prog_1_method_7_code
def yX11_node : MethodName := ⟨RX11, "node", "(II)I"⟩
abbrev cX11_pair : ByteArray := prog_1_method_8_code
def yX11_pair : MethodName := ⟨RX11, "pair", "(III)I"⟩
abbrev cX11_held : ByteArray := prog_1_method_9_code
def yX11_held : MethodName := ⟨RX11, "held", "(I)I"⟩
abbrev cX11_ask : ByteArray := prog_1_method_10_code
def yX11_ask : MethodName := ⟨RX11, "ask", "(I)I"⟩
abbrev cX11_formula : ByteArray := prog_1_method_11_code
def yX11_formula : MethodName := ⟨RX11, "formula", "(II)I"⟩
abbrev cX11_add : ByteArray := prog_1_method_12_code
def yX11_add : MethodName := ⟨RX11, "add", "(I)I"⟩
abbrev cX11_lose : ByteArray := prog_1_method_13_code
def yX11_lose : MethodName := ⟨RX11, "lose", "(I)I"⟩
abbrev cX11_many : ByteArray := prog_1_method_14_code
def yX11_many : MethodName := ⟨RX11, "many", "(II)I"⟩
abbrev cX11_place : ByteArray := prog_1_method_15_code
def yX11_place : MethodName := ⟨RX11, "place", "(III)I"⟩
abbrev cX11_lead : ByteArray := prog_1_method_16_code
def yX11_lead : MethodName := ⟨RX11, "lead", "(III)I"⟩
abbrev cX11_deed : ByteArray := prog_1_method_17_code
def yX11_deed : MethodName := ⟨RX11, "deed", "(III)I"⟩
abbrev cX11_fold : ByteArray := prog_1_method_18_code
def yX11_fold : MethodName := ⟨RX11, "fold", "(I)I"⟩
abbrev cX11_sharpen : ByteArray := prog_1_method_19_code
def yX11_sharpen : MethodName := ⟨RX11, "sharpen", "()I"⟩
abbrev cX11_ways : ByteArray := prog_1_method_20_code
def yX11_ways : MethodName := ⟨RX11, "ways", "(I)I"⟩
abbrev cX11_split : ByteArray := prog_1_method_21_code
def yX11_split : MethodName := ⟨RX11, "split", "(II)I"⟩
abbrev cX11_run : ByteArray := prog_1_method_22_code
def yX11_run : MethodName := ⟨RX11, "run", "(II)I"⟩
abbrev cX11_keep : ByteArray := prog_1_method_23_code
def yX11_keep : MethodName := ⟨RX11, "keep", "(I)I"⟩
abbrev cX11_back : ByteArray := prog_1_method_24_code
def yX11_back : MethodName := ⟨RX11, "back", "(I)I"⟩
abbrev cX11_covers : ByteArray := prog_1_method_25_code
def yX11_covers : MethodName := ⟨RX11, "covers", "(II)I"⟩
abbrev cX11_sheet : ByteArray := prog_1_method_26_code
def yX11_sheet : MethodName := ⟨RX11, "sheet", "(III)I"⟩
abbrev cX11_lay : ByteArray := prog_1_method_27_code
def yX11_lay : MethodName := ⟨RX11, "lay", "(III)I"⟩
abbrev cX11_read : ByteArray := prog_1_method_28_code
def yX11_read : MethodName := ⟨RX11, "read", "(IIII)I"⟩
abbrev cX11_torn : ByteArray := prog_1_method_29_code
def yX11_torn : MethodName := ⟨RX11, "torn", "()I"⟩
abbrev cX11_count : ByteArray := prog_1_method_30_code
def yX11_count : MethodName := ⟨RX11, "count", "(I)I"⟩
abbrev cX11_imagesKept : ByteArray := prog_1_method_31_code
def yX11_imagesKept : MethodName := ⟨RX11, "imagesKept", "()I"⟩
abbrev cX11_isVariable : ByteArray := prog_1_method_32_code
def yX11_isVariable : MethodName := ⟨RX11, "isVariable", "(I)Z"⟩
abbrev cX11_isTruth : ByteArray := prog_1_method_33_code
def yX11_isTruth : MethodName := ⟨RX11, "isTruth", "(I)Z"⟩
abbrev cX11_isSwitch : ByteArray := prog_1_method_34_code
def yX11_isSwitch : MethodName := ⟨RX11, "isSwitch", "(I)Z"⟩
abbrev cX11_isImage : ByteArray := prog_1_method_35_code
def yX11_isImage : MethodName := ⟨RX11, "isImage", "(I)Z"⟩
abbrev cX11_isSheet : ByteArray := prog_1_method_36_code
def yX11_isSheet : MethodName := ⟨RX11, "isSheet", "(I)Z"⟩
abbrev cX11_isLane : ByteArray := prog_1_method_37_code
def yX11_isLane : MethodName := ⟨RX11, "isLane", "(I)Z"⟩
def RX12 : String := "FoldedHeapsModel"
def TX12 : u_T := fun k => match k with
  | 0 => ("FoldedHeapsModel", "state", "[I", true)
  | 1 => ("FoldedHeapsModel", "forms", "[I", true)
  | 2 => ("FoldedHeapsModel", "formMany", "I", false)
  | 3 => ("FoldedHeapsModel", "formsRead", "[I", true)
  | 4 => ("FoldedHeapsModel", "formsReadMany", "I", false)
  | 5 => ("FoldedHeapsModel", "tape", "[I", true)
  | 6 => ("FoldedHeapsModel", "taped", "I", false)
  | 7 => ("FoldedHeapsModel", "fault", "I", false)
  | 8 => ("FoldedHeapsModel", "broken", "I", false)
  | 9 => ("FoldedHeapsModel", "brokenAt", "I", false)
  | 10 => ("FoldedHeapsModel", "spot", "I", false)
  | 11 => ("FoldedHeapsModel", "here", "I", false)
  | 12 => ("FoldedHeapsModel", "token", "I", false)
  | 13 => ("FoldedHeapsModel", "value", "I", false)
  | 14 => ("FoldedHeapsModel", "greatest", "I", false)
  | 15 => ("FoldedHeapsModel", "ends", "[I", true)
  | 16 => ("FoldedHeapsModel", "letters", "[I", true)
  | 17 => ("FoldedHeapsModel", "routes", "[I", true)
  | 18 => ("FoldedHeapsModel", "stands", "[I", true)
  | 19 => ("FoldedHeapsModel", "heap", "[I", true)
  | 20 => ("FoldedHeapsModel", "groups", "[I", true)
  | 21 => ("FoldedHeapsModel", "reaches", "[I", true)
  | 22 => ("FoldedHeapsModel", "isClash", "Z", false)
  | 23 => ("FoldedHeapsModel", "isKept", "[Z", true)
  | 24 => ("FoldedHeapsModel", "map", "[I", true)
  | 25 => ("FoldedHeapsModel", "lanes", "[I", true)
  | 26 => ("FoldedHeapsModel", "lengths", "[I", true)
  | 27 => ("FoldedHeapsModel", "cells", "[I", true)
  | _ => ("FoldedHeapsModel", "torn", "I", false)
def tyX12 : Nat → FieldType := fun k => match k with
  | 0 => .array .int
  | 1 => .array .int
  | 2 => .int
  | 3 => .array .int
  | 4 => .int
  | 5 => .array .int
  | 6 => .int
  | 7 => .int
  | 8 => .int
  | 9 => .int
  | 10 => .int
  | 11 => .int
  | 12 => .int
  | 13 => .int
  | 14 => .int
  | 15 => .array .int
  | 16 => .array .int
  | 17 => .array .int
  | 18 => .array .int
  | 19 => .array .int
  | 20 => .array .int
  | 21 => .array .int
  | 22 => .boolean
  | 23 => .array .boolean
  | 24 => .array .int
  | 25 => .array .int
  | 26 => .array .int
  | 27 => .array .int
  | _ => .int
abbrev wsX120 : List Cond := u_ws RX12 TX12 29
theorem nmX12 : ∀ a, a < 29 → ∀ b, b < 29 → a ≠ b → (TX12 a).2.1 ≠ (TX12 b).2.1 := by decide +kernel
theorem tyX12_ok : ∀ k, k < 29 → parseFieldDescriptor (TX12 k).2.2.1 = some (tyX12 k) := by decide +kernel
abbrev cX12_init : ByteArray := prog_14_method_1_code
def yX12_init : MethodName := ⟨RX12, "<init>", "()V"⟩
abbrev cX12_in : ByteArray := prog_14_method_3_code
def yX12_in : MethodName := ⟨RX12, "in", "(JJJ)Z"⟩
abbrev cX12_feed : ByteArray := prog_14_method_4_code
def yX12_feed : MethodName := ⟨RX12, "feed", "(I)I"⟩
abbrev cX12_end : ByteArray := prog_14_method_5_code
def yX12_end : MethodName := ⟨RX12, "end", "(I)I"⟩
abbrev cX12_byteAt : ByteArray := prog_14_method_6_code
def yX12_byteAt : MethodName := ⟨RX12, "byteAt", "(I)I"⟩
abbrev cX12_fails : ByteArray := prog_14_method_7_code
def yX12_fails : MethodName := ⟨RX12, "fails", "(I)V"⟩
abbrev cX12_nameHere : ByteArray := prog_14_method_8_code
def yX12_nameHere : MethodName := ⟨RX12, "nameHere", "()I"⟩
abbrev cX12_readsOn : ByteArray := prog_14_method_9_code
def yX12_readsOn : MethodName := ⟨RX12, "readsOn", "()V"⟩
abbrev cX12_letterRead : ByteArray := prog_14_method_10_code
def yX12_letterRead : MethodName := ⟨RX12, "letterRead", "(I)I"⟩
abbrev cX12_variableRead : ByteArray := prog_14_method_11_code
def yX12_variableRead : MethodName := ⟨RX12, "variableRead", "()I"⟩
abbrev cX12_nodeRead : ByteArray := prog_14_method_12_code
def yX12_nodeRead : MethodName := ⟨RX12, "nodeRead", "()I"⟩
abbrev cX12_truthRead : ByteArray := prog_14_method_13_code
def yX12_truthRead : MethodName := ⟨RX12, "truthRead", "()I"⟩
abbrev cX12_readNode : ByteArray := prog_14_method_14_code
def yX12_readNode : MethodName := ⟨RX12, "readNode", "(I)V"⟩
abbrev cX12_readTold : ByteArray := prog_14_method_15_code
def yX12_readTold : MethodName := ⟨RX12, "readTold", "(Z)V"⟩
abbrev cX12_readLetters : ByteArray := prog_14_method_16_code
def yX12_readLetters : MethodName := ⟨RX12, "readLetters", "(I)V"⟩
abbrev cX12_toldRead : ByteArray := prog_14_method_17_code
def yX12_toldRead : MethodName := ⟨RX12, "toldRead", "(I)I"⟩
abbrev cX12_readItem : ByteArray := prog_14_method_18_code
def yX12_readItem : MethodName := ⟨RX12, "readItem", "(II)I"⟩
abbrev cX12_readAsk : ByteArray := prog_14_method_19_code
def yX12_readAsk : MethodName := ⟨RX12, "readAsk", "()V"⟩
abbrev cX12_readLine : ByteArray := prog_14_method_20_code
def yX12_readLine : MethodName := ⟨RX12, "readLine", "()V"⟩
abbrev cX12_text : ByteArray := prog_14_method_21_code
def yX12_text : MethodName := ⟨RX12, "text", "()I"⟩
abbrev cX12_fault : ByteArray := prog_14_method_22_code
def yX12_fault : MethodName := ⟨RX12, "fault", "()I"⟩
abbrev cX12_copies : ByteArray := prog_14_method_23_code
def yX12_copies : MethodName := ⟨RX12, "copies", "(II)V"⟩
abbrev cX12_nodes : ByteArray := prog_14_method_24_code
def yX12_nodes : MethodName := ⟨RX12, "nodes", "()I"⟩
abbrev cX12_and : ByteArray := prog_14_method_25_code
def yX12_and : MethodName := ⟨RX12, "and", "(II)I"⟩
abbrev cX12_or : ByteArray := prog_14_method_26_code
def yX12_or : MethodName := ⟨RX12, "or", "(II)I"⟩
abbrev cX12_atOf : ByteArray := prog_14_method_27_code
def yX12_atOf : MethodName := ⟨RX12, "atOf", "(II)I"⟩
abbrev cX12_nextOf : ByteArray := prog_14_method_28_code
def yX12_nextOf : MethodName := ⟨RX12, "nextOf", "(II)I"⟩
abbrev cX12_sameOf : ByteArray := prog_14_method_29_code
def yX12_sameOf : MethodName := ⟨RX12, "sameOf", "(II)I"⟩
abbrev cX12_routesAll : ByteArray := prog_14_method_30_code
def yX12_routesAll : MethodName := ⟨RX12, "routesAll", "()V"⟩
abbrev cX12_reachOf : ByteArray := prog_14_method_31_code
def yX12_reachOf : MethodName := ⟨RX12, "reachOf", "(II)I"⟩
abbrev cX12_heldOf : ByteArray := prog_14_method_32_code
def yX12_heldOf : MethodName := ⟨RX12, "heldOf", "(I)I"⟩
abbrev cX12_manyOf : ByteArray := prog_14_method_33_code
def yX12_manyOf : MethodName := ⟨RX12, "manyOf", "(III)I"⟩
abbrev cX12_isHeap : ByteArray := prog_14_method_34_code
def yX12_isHeap : MethodName := ⟨RX12, "isHeap", "()Z"⟩
abbrev cX12_rule : ByteArray := prog_14_method_35_code
def yX12_rule : MethodName := ⟨RX12, "rule", "(I)I"⟩
abbrev cX12_isNode : ByteArray := prog_14_method_36_code
def yX12_isNode : MethodName := ⟨RX12, "isNode", "(I)Z"⟩
abbrev cX12_isVariable : ByteArray := prog_14_method_37_code
def yX12_isVariable : MethodName := ⟨RX12, "isVariable", "(I)Z"⟩
abbrev cX12_isFormula : ByteArray := prog_14_method_38_code
def yX12_isFormula : MethodName := ⟨RX12, "isFormula", "(I)Z"⟩
abbrev cX12_isFlag : ByteArray := prog_14_method_39_code
def yX12_isFlag : MethodName := ⟨RX12, "isFlag", "(I)Z"⟩
abbrev cX12_node : ByteArray := prog_14_method_40_code
def yX12_node : MethodName := ⟨RX12, "node", "(II)I"⟩
abbrev cX12_pair : ByteArray := prog_14_method_41_code
def yX12_pair : MethodName := ⟨RX12, "pair", "(III)I"⟩
abbrev cX12_held : ByteArray := prog_14_method_42_code
def yX12_held : MethodName := ⟨RX12, "held", "(I)I"⟩
abbrev cX12_told : ByteArray := prog_14_method_43_code
def yX12_told : MethodName := ⟨RX12, "told", "(I)I"⟩
abbrev cX12_itemsOf : ByteArray := prog_14_method_44_code
def yX12_itemsOf : MethodName := ⟨RX12, "itemsOf", "(I)I"⟩
abbrev cX12_joined : ByteArray := prog_14_method_45_code
def yX12_joined : MethodName := ⟨RX12, "joined", "(IIII)I"⟩
abbrev cX12_begins : ByteArray := prog_14_method_46_code
def yX12_begins : MethodName := ⟨RX12, "begins", "(II)I"⟩
abbrev cX12_thirdOf : ByteArray := prog_14_method_47_code
def yX12_thirdOf : MethodName := ⟨RX12, "thirdOf", "(I)I"⟩
abbrev cX12_secondOf : ByteArray := prog_14_method_48_code
def yX12_secondOf : MethodName := ⟨RX12, "secondOf", "(I)I"⟩
abbrev cX12_ask : ByteArray := prog_14_method_49_code
def yX12_ask : MethodName := ⟨RX12, "ask", "(I)I"⟩
abbrev cX12_formula : ByteArray := prog_14_method_50_code
def yX12_formula : MethodName := ⟨RX12, "formula", "(II)I"⟩
abbrev cX12_comes : ByteArray := prog_14_method_51_code
def yX12_comes : MethodName := ⟨RX12, "comes", "(I)V"⟩
abbrev cX12_add : ByteArray := prog_14_method_52_code
def yX12_add : MethodName := ⟨RX12, "add", "(I)I"⟩
abbrev cX12_movesDown : ByteArray := prog_14_method_53_code
def yX12_movesDown : MethodName := ⟨RX12, "movesDown", "(II)V"⟩
abbrev cX12_lose : ByteArray := prog_14_method_54_code
def yX12_lose : MethodName := ⟨RX12, "lose", "(I)I"⟩
abbrev cX12_becomes : ByteArray := prog_14_method_55_code
def yX12_becomes : MethodName := ⟨RX12, "becomes", "(ZII)I"⟩
abbrev cX12_many : ByteArray := prog_14_method_56_code
def yX12_many : MethodName := ⟨RX12, "many", "(II)I"⟩
abbrev cX12_place : ByteArray := prog_14_method_57_code
def yX12_place : MethodName := ⟨RX12, "place", "(III)I"⟩
abbrev cX12_lead : ByteArray := prog_14_method_58_code
def yX12_lead : MethodName := ⟨RX12, "lead", "(III)I"⟩
abbrev cX12_leads : ByteArray := prog_14_method_59_code
def yX12_leads : MethodName := ⟨RX12, "leads", "(IIZ)V"⟩
abbrev cX12_becomesNext : ByteArray := prog_14_method_60_code
def yX12_becomesNext : MethodName := ⟨RX12, "becomesNext", "(II)V"⟩
abbrev cX12_isAtAlone : ByteArray := prog_14_method_61_code
def yX12_isAtAlone : MethodName := ⟨RX12, "isAtAlone", "(II)V"⟩
abbrev cX12_does : ByteArray := prog_14_method_62_code
def yX12_does : MethodName := ⟨RX12, "does", "(III)I"⟩
abbrev cX12_deed : ByteArray := prog_14_method_63_code
def yX12_deed : MethodName := ⟨RX12, "deed", "(III)I"⟩
abbrev cX12_isAlike : ByteArray := prog_14_method_64_code
def yX12_isAlike : MethodName := ⟨RX12, "isAlike", "(III)Z"⟩
abbrev cX12_grouped : ByteArray := prog_14_method_65_code
def yX12_grouped : MethodName := ⟨RX12, "grouped", "(I)I"⟩
abbrev cX12_fold : ByteArray := prog_14_method_66_code
def yX12_fold : MethodName := ⟨RX12, "fold", "(I)I"⟩
abbrev cX12_isAlone : ByteArray := prog_14_method_67_code
def yX12_isAlone : MethodName := ⟨RX12, "isAlone", "(II)Z"⟩
abbrev cX12_isSharper : ByteArray := prog_14_method_68_code
def yX12_isSharper : MethodName := ⟨RX12, "isSharper", "()Z"⟩
abbrev cX12_sharpen : ByteArray := prog_14_method_69_code
def yX12_sharpen : MethodName := ⟨RX12, "sharpen", "()I"⟩
abbrev cX12_wayOf : ByteArray := prog_14_method_70_code
def yX12_wayOf : MethodName := ⟨RX12, "wayOf", "(II)I"⟩
abbrev cX12_ways : ByteArray := prog_14_method_71_code
def yX12_ways : MethodName := ⟨RX12, "ways", "(I)I"⟩
abbrev cX12_twins : ByteArray := prog_14_method_72_code
def yX12_twins : MethodName := ⟨RX12, "twins", "(II)V"⟩
abbrev cX12_split : ByteArray := prog_14_method_73_code
def yX12_split : MethodName := ⟨RX12, "split", "(II)I"⟩
abbrev cX12_run : ByteArray := prog_14_method_74_code
def yX12_run : MethodName := ⟨RX12, "run", "(II)I"⟩
abbrev cX12_keep : ByteArray := prog_14_method_75_code
def yX12_keep : MethodName := ⟨RX12, "keep", "(I)I"⟩
abbrev cX12_back : ByteArray := prog_14_method_76_code
def yX12_back : MethodName := ⟨RX12, "back", "(I)I"⟩
abbrev cX12_isLike : ByteArray := prog_14_method_77_code
def yX12_isLike : MethodName := ⟨RX12, "isLike", "(II)Z"⟩
abbrev cX12_isFitting : ByteArray := prog_14_method_78_code
def yX12_isFitting : MethodName := ⟨RX12, "isFitting", "(III)Z"⟩
abbrev cX12_isOnto : ByteArray := prog_14_method_79_code
def yX12_isOnto : MethodName := ⟨RX12, "isOnto", "(II)Z"⟩
abbrev cX12_isCovering : ByteArray := prog_14_method_80_code
def yX12_isCovering : MethodName := ⟨RX12, "isCovering", "(II)Z"⟩
abbrev cX12_covers : ByteArray := prog_14_method_81_code
def yX12_covers : MethodName := ⟨RX12, "covers", "(II)I"⟩
abbrev cX12_sheet : ByteArray := prog_14_method_82_code
def yX12_sheet : MethodName := ⟨RX12, "sheet", "(III)I"⟩
abbrev cX12_lay : ByteArray := prog_14_method_83_code
def yX12_lay : MethodName := ⟨RX12, "lay", "(III)I"⟩
abbrev cX12_read : ByteArray := prog_14_method_84_code
def yX12_read : MethodName := ⟨RX12, "read", "(IIII)I"⟩
abbrev cX12_torn : ByteArray := prog_14_method_85_code
def yX12_torn : MethodName := ⟨RX12, "torn", "()I"⟩
abbrev cX12_count : ByteArray := prog_14_method_86_code
def yX12_count : MethodName := ⟨RX12, "count", "(I)I"⟩
def RJx145de : String := "java/io/Serializable"
def TJx145de : u_T := fun k => match k with
  | _ => ("", "", "", false)
def tyJx145de : Nat → FieldType := fun k => match k with
  | _ => .int
abbrev wsJx145de0 : List Cond := u_ws RJx145de TJx145de 0
theorem nmJx145de : ∀ a, a < 0 → ∀ b, b < 0 → a ≠ b → (TJx145de a).2.1 ≠ (TJx145de b).2.1 := by decide +kernel
theorem tyJx145de_ok : ∀ k, k < 0 → parseFieldDescriptor (TJx145de k).2.2.1 = some (tyJx145de k) := by decide +kernel
def RJx9f9b0 : String := "java/lang/CharSequence"
def TJx9f9b0 : u_T := fun k => match k with
  | _ => ("", "", "", false)
def tyJx9f9b0 : Nat → FieldType := fun k => match k with
  | _ => .int
abbrev wsJx9f9b00 : List Cond := u_ws RJx9f9b0 TJx9f9b0 0
theorem nmJx9f9b0 : ∀ a, a < 0 → ∀ b, b < 0 → a ≠ b → (TJx9f9b0 a).2.1 ≠ (TJx9f9b0 b).2.1 := by decide +kernel
theorem tyJx9f9b0_ok : ∀ k, k < 0 → parseFieldDescriptor (TJx9f9b0 k).2.2.1 = some (tyJx9f9b0 k) := by decide +kernel
def RJxb160c : String := "java/lang/Comparable"
def TJxb160c : u_T := fun k => match k with
  | _ => ("", "", "", false)
def tyJxb160c : Nat → FieldType := fun k => match k with
  | _ => .int
abbrev wsJxb160c0 : List Cond := u_ws RJxb160c TJxb160c 0
theorem nmJxb160c : ∀ a, a < 0 → ∀ b, b < 0 → a ≠ b → (TJxb160c a).2.1 ≠ (TJxb160c b).2.1 := by decide +kernel
theorem tyJxb160c_ok : ∀ k, k < 0 → parseFieldDescriptor (TJxb160c k).2.2.1 = some (tyJxb160c k) := by decide +kernel
def RJ9 : String := "java/lang/Math"
def TJ9 : u_T := fun k => match k with
  | _ => ("", "", "", false)
def tyJ9 : Nat → FieldType := fun k => match k with
  | _ => .int
abbrev wsJ90 : List Cond := u_ws RJ9 TJ9 0
theorem nmJ9 : ∀ a, a < 0 → ∀ b, b < 0 → a ≠ b → (TJ9 a).2.1 ≠ (TJ9 b).2.1 := by decide +kernel
theorem tyJ9_ok : ∀ k, k < 0 → parseFieldDescriptor (TJ9 k).2.2.1 = some (tyJ9 k) := by decide +kernel
abbrev cJ9_max_7cf53 : ByteArray := prog_15_method_65_code
def yJ9_max_7cf53 : MethodName := ⟨RJ9, "max", "(II)I"⟩
abbrev cJ9_min_7cf53 : ByteArray := prog_15_method_69_code
def yJ9_min_7cf53 : MethodName := ⟨RJ9, "min", "(II)I"⟩
def RJ0 : String := "java/lang/String"
def TJ0 : u_T := fun k => match k with
  | _ => ("", "", "", false)
def tyJ0 : Nat → FieldType := fun k => match k with
  | _ => .int
abbrev wsJ00 : List Cond := u_ws RJ0 TJ0 0
theorem nmJ0 : ∀ a, a < 0 → ∀ b, b < 0 → a ≠ b → (TJ0 a).2.1 ≠ (TJ0 b).2.1 := by decide +kernel
theorem tyJ0_ok : ∀ k, k < 0 → parseFieldDescriptor (TJ0 k).2.2.1 = some (tyJ0 k) := by decide +kernel
abbrev cJ0_length_8abf5 : ByteArray := prog_16_method_54_code
def yJ0_length_8abf5 : MethodName := ⟨RJ0, "length", "()I"⟩
abbrev cJ0_charAt_5068e : ByteArray := prog_16_method_56_code
def yJ0_charAt_5068e : MethodName := ⟨RJ0, "charAt", "(I)C"⟩
abbrev cJ0_coder_7d493 : ByteArray := prog_16_method_152_code
def yJ0_coder_7d493 : MethodName := ⟨RJ0, "coder", "()B"⟩
abbrev cJ0_isLatin1_aae02 : ByteArray := prog_16_method_154_code
def yJ0_isLatin1_aae02 : MethodName := ⟨RJ0, "isLatin1", "()Z"⟩
abbrev cJ0_checkIndex_df160 : ByteArray := prog_16_method_155_code
def yJ0_checkIndex_df160 : MethodName := ⟨RJ0, "checkIndex", "(II)V"⟩
def RJ1 : String := "java/lang/StringLatin1"
def TJ1 : u_T := fun k => match k with
  | _ => ("", "", "", false)
def tyJ1 : Nat → FieldType := fun k => match k with
  | _ => .int
abbrev wsJ10 : List Cond := u_ws RJ1 TJ1 0
theorem nmJ1 : ∀ a, a < 0 → ∀ b, b < 0 → a ≠ b → (TJ1 a).2.1 ≠ (TJ1 b).2.1 := by decide +kernel
theorem tyJ1_ok : ∀ k, k < 0 → parseFieldDescriptor (TJ1 k).2.2.1 = some (tyJ1 k) := by decide +kernel
abbrev cJ1_charAt_3b067 : ByteArray := prog_17_method_2_code
def yJ1_charAt_3b067 : MethodName := ⟨RJ1, "charAt", "([BI)C"⟩
def RJ2 : String := "java/lang/StringUTF16"
def TJ2 : u_T := fun k => match k with
  | _ => ("", "", "", false)
def tyJ2 : Nat → FieldType := fun k => match k with
  | _ => .int
abbrev wsJ20 : List Cond := u_ws RJ2 TJ2 0
theorem nmJ2 : ∀ a, a < 0 → ∀ b, b < 0 → a ≠ b → (TJ2 a).2.1 ≠ (TJ2 b).2.1 := by decide +kernel
theorem tyJ2_ok : ∀ k, k < 0 → parseFieldDescriptor (TJ2 k).2.2.1 = some (tyJ2 k) := by decide +kernel
abbrev cJ2_getChar_3b067 : ByteArray := prog_18_method_5_code
def yJ2_getChar_3b067 : MethodName := ⟨RJ2, "getChar", "([BI)C"⟩
abbrev cJ2_length_9d52b : ByteArray := prog_18_method_6_code
def yJ2_length_9d52b : MethodName := ⟨RJ2, "length", "([B)I"⟩
abbrev cJ2_charAt_3b067 : ByteArray := prog_18_method_83_code
def yJ2_charAt_3b067 : MethodName := ⟨RJ2, "charAt", "([BI)C"⟩
abbrev cJ2_checkIndex_2214a : ByteArray := prog_18_method_91_code
def yJ2_checkIndex_2214a : MethodName := ⟨RJ2, "checkIndex", "(I[B)V"⟩
def RJ10 : String := "java/lang/System"
def TJ10 : u_T := fun k => match k with
  | _ => ("", "", "", false)
def tyJ10 : Nat → FieldType := fun k => match k with
  | _ => .int
abbrev wsJ100 : List Cond := u_ws RJ10 TJ10 0
theorem nmJ10 : ∀ a, a < 0 → ∀ b, b < 0 → a ≠ b → (TJ10 a).2.1 ≠ (TJ10 b).2.1 := by decide +kernel
theorem tyJ10_ok : ∀ k, k < 0 → parseFieldDescriptor (TJ10 k).2.2.1 = some (tyJ10 k) := by decide +kernel
def RJxfd54e : String := "java/lang/constant/Constable"
def TJxfd54e : u_T := fun k => match k with
  | _ => ("", "", "", false)
def tyJxfd54e : Nat → FieldType := fun k => match k with
  | _ => .int
abbrev wsJxfd54e0 : List Cond := u_ws RJxfd54e TJxfd54e 0
theorem nmJxfd54e : ∀ a, a < 0 → ∀ b, b < 0 → a ≠ b → (TJxfd54e a).2.1 ≠ (TJxfd54e b).2.1 := by decide +kernel
theorem tyJxfd54e_ok : ∀ k, k < 0 → parseFieldDescriptor (TJxfd54e k).2.2.1 = some (tyJxfd54e k) := by decide +kernel
def RJx3cf43 : String := "java/lang/constant/ConstantDesc"
def TJx3cf43 : u_T := fun k => match k with
  | _ => ("", "", "", false)
def tyJx3cf43 : Nat → FieldType := fun k => match k with
  | _ => .int
abbrev wsJx3cf430 : List Cond := u_ws RJx3cf43 TJx3cf43 0
theorem nmJx3cf43 : ∀ a, a < 0 → ∀ b, b < 0 → a ≠ b → (TJx3cf43 a).2.1 ≠ (TJx3cf43 b).2.1 := by decide +kernel
theorem tyJx3cf43_ok : ∀ k, k < 0 → parseFieldDescriptor (TJx3cf43 k).2.2.1 = some (tyJx3cf43 k) := by decide +kernel
def RJ7 : String := "java/util/Arrays"
def TJ7 : u_T := fun k => match k with
  | _ => ("", "", "", false)
def tyJ7 : Nat → FieldType := fun k => match k with
  | _ => .int
abbrev wsJ70 : List Cond := u_ws RJ7 TJ7 0
theorem nmJ7 : ∀ a, a < 0 → ∀ b, b < 0 → a ≠ b → (TJ7 a).2.1 ≠ (TJ7 b).2.1 := by decide +kernel
theorem tyJ7_ok : ∀ k, k < 0 → parseFieldDescriptor (TJ7 k).2.2.1 = some (tyJ7 k) := by decide +kernel
abbrev cJ7_fill_53178 : ByteArray := prog_20_method_103_code
def yJ7_fill_53178 : MethodName := ⟨RJ7, "fill", "([II)V"⟩
def RJ3 : String := "jdk/internal/util/Preconditions"
def TJ3 : u_T := fun k => match k with
  | _ => ("", "", "", false)
def tyJ3 : Nat → FieldType := fun k => match k with
  | _ => .int
abbrev wsJ30 : List Cond := u_ws RJ3 TJ3 0
theorem nmJ3 : ∀ a, a < 0 → ∀ b, b < 0 → a ≠ b → (TJ3 a).2.1 ≠ (TJ3 b).2.1 := by decide +kernel
theorem tyJ3_ok : ∀ k, k < 0 → parseFieldDescriptor (TJ3 k).2.2.1 = some (tyJ3 k) := by decide +kernel
abbrev cJ3_checkIndex_8e157 : ByteArray := prog_21_method_11_code
def yJ3_checkIndex_8e157 : MethodName := ⟨RJ3, "checkIndex", "(IILjava/util/function/BiFunction;)I"⟩
def RL : String := "FoldedHeapsLaw"
abbrev cL_law : ByteArray := code
def yL_law : MethodName := ⟨RL, "law", "([I)Z"⟩
abbrev vwCl : List vw_C := [(RX0, TX0, 2), (RX1, TX1, 1), (RX2, TX2, 2), (RX3, TX3, 11), (RX4, TX4, 5), (RX5, TX5, 6), (RX6, TX6, 3), (RX7, TX7, 4), (RX8, TX8, 4), (RX9, TX9, 5), (RX10, TX10, 3), (RX11, TX11, 14), (RX12, TX12, 29)]
end
section
/-- the words that every method is given -/
def TB : List Cond := lw_tbl.filter goodWord
theorem TB_mem {w : Cond} (h : w ∈ lw_tbl) (hg : goodWord w = true) : w ∈ TB := List.mem_filter.mpr ⟨h, hg⟩
theorem TB_at {w : Cond} (i : Nat) (h : lw_tbl[i]? = some w) (hg : goodWord w = true) : w ∈ TB := TB_mem (List.mem_of_getElem? h) hg
theorem TB_good {w : Cond} (h : w ∈ TB) : (w.onTables && w.keeps) = true ∨ ∃ ty, w = .arrayClass ty := good_of_word (List.mem_filter.mp h).2
/-- a method: its name, its bytes, its locals, its return type -/
abbrev Md : Type := MethodName × ByteArray × Nat × Option FieldType
def wsOf (M : Md) : List Cond := .code M.1 M.2.1 M.2.2.1 M.2.2.2 :: TB
/-- the memory: the kind of each cell, the ints of each, the references of each, the first free address -/
abbrev mM : Type := (Nat → Nat × Nat) × (Nat → Nat → Int32) × (Nat → Nat → Option Nat) × Nat
def kd (μ : mM) (a : Nat) : Nat × Nat := μ.1 a
def iv (μ : mM) (a k : Nat) : Int32 := μ.2.1 a k
def rv (μ : mM) (a k : Nat) : Option Nat := μ.2.2.1 a k
def sz (μ : mM) : Nat := μ.2.2.2
def wi (μ : mM) (a k : Nat) (v : Int32) : mM := (μ.1, fun x j => if x = a ∧ j = k then v else μ.2.1 x j, μ.2.2)
def wr (μ : mM) (a k : Nat) (v : Option Nat) : mM := (μ.1, μ.2.1, fun x j => if x = a ∧ j = k then v else μ.2.2.1 x j, μ.2.2.2)
def al (μ : mM) (q : Nat × Nat) : mM := (fun x => if x = μ.2.2.2 then q else μ.1 x, fun x j => if x = μ.2.2.2 then 0 else μ.2.1 x j, fun x j => if x = μ.2.2.2 then none else μ.2.2.1 x j, μ.2.2.2 + 1)
theorem kd_wi (μ : mM) (a k : Nat) (v : Int32) (x : Nat) : kd (wi μ a k v) x = kd μ x := rfl
theorem rv_wi (μ : mM) (a k : Nat) (v : Int32) (x j : Nat) : rv (wi μ a k v) x j = rv μ x j := rfl
theorem sz_wi (μ : mM) (a k : Nat) (v : Int32) : sz (wi μ a k v) = sz μ := rfl
theorem iv_wi (μ : mM) (a k : Nat) (v : Int32) (x j : Nat) : iv (wi μ a k v) x j = if x = a ∧ j = k then v else iv μ x j := rfl
theorem kd_wr (μ : mM) (a k : Nat) (v : Option Nat) (x : Nat) : kd (wr μ a k v) x = kd μ x := rfl
theorem iv_wr (μ : mM) (a k : Nat) (v : Option Nat) (x j : Nat) : iv (wr μ a k v) x j = iv μ x j := rfl
theorem sz_wr (μ : mM) (a k : Nat) (v : Option Nat) : sz (wr μ a k v) = sz μ := rfl
theorem rv_wr (μ : mM) (a k : Nat) (v : Option Nat) (x j : Nat) : rv (wr μ a k v) x j = if x = a ∧ j = k then v else rv μ x j := rfl
def fty (c : Nat) : Nat → FieldType := match c with
  | 0 => tyX0
  | 1 => tyX1
  | 2 => tyX2
  | 3 => tyX3
  | 4 => tyX4
  | 5 => tyX5
  | 6 => tyX6
  | 7 => tyX7
  | 8 => tyX8
  | 9 => tyX9
  | 10 => tyX10
  | 11 => tyX11
  | _ => tyX12
def fnN (c : Nat) : Nat := [2, 1, 2, 11, 5, 6, 3, 4, 4, 5, 3, 14, 29].getD c 0
def isRf (t : FieldType) : Bool := match t with
  | .object _ => true
  | .array _ => true
  | _ => false
def fvl (μ : mM) (a c k : Nat) : Value := if isRf (fty c k) = true then va_rf (rv μ a k) else .int (iv μ a k)
def flds (μ : mM) (a c : Nat) : List Value := (List.range (fnN c)).map (fvl μ a c)
def toE (cA : Nat → ClassId) (μ : mM) (a : Nat) : va_E :=
  if (kd μ a).1 = 0 then .inr ((kd μ a).2, flds μ a (kd μ a).2)
  else if (kd μ a).1 < 4 then .inl (cA ((kd μ a).1 - 1), (kd μ a).2, .inl (iv μ a))
  else .inl (cA ((kd μ a).1 - 1), (kd μ a).2, .inr (.inr (.inr (.inr (rv μ a)))))
def tysOf (cA : Nat → ClassId) : List (ClassId × FieldType) := [(cA 0, .int), (cA 1, .byte), (cA 2, .boolean), (cA 3, .array .int), (cA 4, .object RX5), (cA 5, .object RX3), (cA 6, .object RX7)]
def nestW : List Cond := [.methodLinkNest RX11 9 yX9_init RX11, .methodLinkNest RX11 18 yX4_init RX11, .methodLinkNest RX10 11 yX5_init RX11, .methodLinkNest RX10 24 yX3_init RX11, .methodLinkNest RX11 46 yX5_init RX11, .methodLinkNest RX11 53 yX1_init RX11, .methodLinkNest RX11 60 yX2_init RX11, .methodLinkNest RX2 11 yX5_init RX11, .methodLinkNest RX11 67 yX6_init RX11, .methodLinkNest RX6 11 yX5_init RX11, .methodLinkNest RX11 74 yX8_init RX11, .methodLinkNest RX11 81 yX0_init RX11, .methodLinkNest RX11 86 yX7_init RX11, .methodLinkNest RX1 15 yX11_isVariable RX11]

def strI : List Nat := [62, 72, 74, 198, 79, 84, 132, 134, 178, 180, 182, 184, 186]
def strT : List String := ["node", "many", "at", "maybe", "next", "ask", "all", "some", "reach", "same", "not", "and", "or"]
def strN : List Nat := [4, 4, 2, 5, 4, 3, 3, 4, 5, 4, 3, 3, 2]
def strB : List (List Int32) := [[110, 111, 100, 101], [109, 97, 110, 121], [97, 116], [109, 97, 121, 98, 101], [110, 101, 120, 116], [97, 115, 107], [97, 108, 108], [115, 111, 109, 101], [114, 101, 97, 99, 104], [115, 97, 109, 101], [110, 111, 116], [97, 110, 100], [111, 114]]
/-- what all methods of a run share: the launch, where our cells begin, the classes, the array classes, where the Strings and their bytes lie -/
abbrev cX : Type := Launch × Nat × va_G × (Nat → ClassId) × (Nat → Nat) × (Nat → Nat)
def fA (X : cX) : Nat → Prop := fun q => X.2.1 ≤ q
def En (X : cX) (U : State) : Prop := X.2.1 ≤ U.heap.size ∧ va_K X.2.2.1 vwCl (tysOf X.2.2.2.1) U ∧ (∀ w ∈ nestW, va_Nw w U) ∧ (va_AO RX5 U ∧ va_AO RX3 U ∧ va_AO RX7 U ∧ va_AOA .int U) ∧ (∀ i, i < 13 → vk_R RX4 (strI.getD i 0) (strT.getD i "") (X.2.2.2.2.1 i) U) ∧ vk_S 13 strN strB X.2.2.2.2.1 X.2.2.2.2.2 (fA X) U U.heap ∧ va_Z "java/lang/String" "COMPACT_STRINGS" "Z" (.int 1) (fA X) U U.heap
theorem va_AOA.moved {ty : FieldType} {u U : State} (hvm : u.vm.Alike U.vm) (h : va_AOA ty u) : va_AOA ty U := by
  unfold va_AOA Cond.before Cond.holds at h ⊢
  simp only [Cond.value] at h ⊢
  have e1 : U.vm.findClass (FieldType.array ty).toString = u.vm.findClass (FieldType.array ty).toString := by rw [hvm.findClass]
  have e2 : U.vm.findClass ("[" ++ (FieldType.array ty).toString) = u.vm.findClass ("[" ++ (FieldType.array ty).toString) := by rw [hvm.findClass]
  cases hc : u.vm.findClass (FieldType.array ty).toString with
  | none => rw [hc] at h; simp at h
  | some comp =>
    rw [hc, Option.bind_some] at h
    rw [e1, hc, Option.bind_some]
    have hi : (U.vm.classes.findIdx? fun (x : Class) => match x.kind with | .array component _ => component == comp | _ => false) = (u.vm.classes.findIdx? fun (x : Class) => match x.kind with | .array component _ => component == comp | _ => false) := by
      have hb : U.vm.bare = u.vm.bare := by first | exact hvm.bare_eq | exact hvm.bare_eq.symm
      have h0 := va_idx_bare U.vm comp
      rw [hb] at h0
      exact h0.symm.trans (va_idx_bare u.vm comp)
    cases hf : (u.vm.classes.findIdx? fun (x : Class) => match x.kind with | .array component _ => component == comp | _ => false) with
    | none =>
      exfalso
      have h9 := (congrArg (fun o : Option Nat => (o.bind (fun c => (u.vm.classes[c]?).map fun (k : Class) => match k.kind with | .array _ ty' => decide (ty' = FieldType.array ty) && decide (u.vm.findClass ("[" ++ (FieldType.array ty).toString) = some c) | _ => false) == some true)) hf).symm.trans h
      simp at h9
    | some c =>
      have h9 := (congrArg (fun o : Option Nat => (o.bind (fun c => (u.vm.classes[c]?).map fun (k : Class) => match k.kind with | .array _ ty' => decide (ty' = FieldType.array ty) && decide (u.vm.findClass ("[" ++ (FieldType.array ty).toString) = some c) | _ => false) == some true)) hf).symm.trans h
      refine (congrArg (fun o : Option Nat => (o.bind (fun c => (U.vm.classes[c]?).map fun (k : Class) => match k.kind with | .array _ ty' => decide (ty' = FieldType.array ty) && decide (U.vm.findClass ("[" ++ (FieldType.array ty).toString) = some c) | _ => false) == some true)) (hi.trans hf)).trans ?_
      cases hk : u.vm.classes[c]? with
      | none => simp [hk] at h9
      | some k =>
        obtain ⟨k', hk', he⟩ := hvm.2.2 _ _ hk
        have hkk : k'.kind = k.kind := by rw [he]
        simp only [Option.bind_some, hk, hk', Option.map_some, hkk, e2] at h9 ⊢
        exact h9
theorem En_step {X : cX} {s U : State} {H : Heap} {locs : List Loc} (h : En X s) (hS : va_S (fA X) s.heap H locs) (hU : U.heap = H) (hW : s.WarmedH U.vm) : En X U := by
  obtain ⟨h0, h1, h2, ⟨h3, h4, h5, h6⟩, h7, h8, h9⟩ := h
  have ha := hW.alike
  refine ⟨Nat.le_trans h0 (by rw [hU]; exact hS.1), va_K.moved ha h1, fun w hw => ?_, ⟨h3.moved ha, h4.moved ha, h5.moved ha, h6.moved ha⟩, fun i hi => (h7 i hi).warm hW, by rw [hU]; exact (h8.kept hS.2.1).moved ha, by rw [hU]; exact (h9.kept hS.2.1).moved ha⟩
  have h := h2 w hw
  simp only [nestW, List.mem_cons, List.not_mem_nil, or_false] at hw
  rcases hw with rfl | rfl | rfl | rfl | rfl | rfl | rfl | rfl | rfl | rfl | rfl | rfl | rfl | rfl <;> exact va_Nw.warmM hW h
theorem En_blind {X : cX} {U V : State} (hv : V.vm = U.vm) (hh : V.heap = U.heap) (h : En X U) : En X V := by
  obtain ⟨h0, h1, h2, ⟨h3, h4, h5, h6⟩, h7, h8, h9⟩ := h
  have ha : U.vm.Alike V.vm := by rw [hv]; exact Vm.Alike.refl _
  refine ⟨by rw [hh]; exact h0, va_K.moved ha h1, fun w hw => ?_, ⟨h3.moved ha, h4.moved ha, h5.moved ha, h6.moved ha⟩, fun i hi => (h7 i hi).same hv, by rw [hh]; exact h8.moved ha, by rw [hh]; exact h9.moved ha⟩
  have h := h2 w hw
  simp only [nestW, List.mem_cons, List.not_mem_nil, or_false] at hw
  rcases hw with rfl | rfl | rfl | rfl | rfl | rfl | rfl | rfl | rfl | rfl | rfl | rfl | rfl | rfl <;> exact va_Nw.same rfl hv.symm h
/-- a cell of ours -/
def inX (X : cX) (μ : mM) (a : Nat) : Prop := X.2.1 ≤ a ∧ a < sz μ
def Rp (X : cX) (μ : mM) (H : Heap) : Prop := H.size = sz μ ∧ X.2.1 ≤ sz μ ∧ (∀ a, ¬ inX X μ a → kd μ a = (9, 0)) ∧ (∀ a, (kd μ a).2 < 2 ^ 31) ∧ ∀ a, inX X μ a → va_at X.2.2.1 vwCl (a, toE X.2.2.2.1 μ a) H
def Pst (X : cX) (K : Option Value → mM → Prop) : Array Value → State → Outcome → State → Prop := fun _ st o t => ∃ (r : Option Value) (μ : mM), o = .returned r ∧ K r μ ∧ Rp X μ t.heap ∧ va_F (fA X) st t
def Cx (X : cX) (M : Md) (p : Program) (s : State) (m : MethodId) (args : Array Value) (meth : Method) (c : Code) : Prop := p.tables.exec = Jvm.exec ∧ c.code = M.2.1 ∧ meth.sig.returnType = M.2.2.2 ∧ meth.locks = false ∧ c.maxLocals = M.2.2.1 ∧ s.vm.findClass M.1.cls = some m.cls ∧ meth.name = M.1.name ∧ (∀ w ∈ TB, w.before args s = true) ∧ En X s
/-- the frame of method M at pc, with the locals L, the stack S and the memory μ comes to its end with K -/
def G (X : cX) (R : Room) (M : Md) (pc : Nat) (L : List (Nat × Value)) (S : List Value) (μ : mM) (cs sl : Nat) (K : Option Value → mM → Prop) : Prop :=
  ∀ (p : Program) (e : Env) (s : State) (m : MethodId) (args : Array Value) (below : List Frame) (meth : Method) (c : Code) (ls : Array Slot) (H : Heap) (locs : List Loc), Cx X M p s m args meth c → lv_has ls M.2.2.1 L → Rp X μ H → va_S (fA X) s.heap H locs →
    W p X.1 e R s m args below meth c H locs cs sl (MQ below (Pst X K) args s R.cells R.slots (fA X)) (F0 m pc ls S)
/-- a call of method M with the arguments as and the memory μ comes back with K -/
def Ct (X : cX) (R : Room) (M : Md) (as : List Value) (μ : mM) (K : Option Value → mM → Prop) : Prop := Met X.1 M.1 (wsOf M) R (va_Pc as (fun U => Rp X μ U.heap ∧ En X U)) (Pst X K) R.cells R.slots (fA X)
theorem Ct_of {X : cX} {R : Room} {M : Md} {as : List Value} {μ : mM} {K : Option Value → mM → Prop} (hy : plainName M.1.cls = true) (hlen : (lg_sl as).length ≤ M.2.2.1) (h : G X R M 0 (lv_args 0 as) [] μ 0 0 K) : Ct X R M as μ K := by
  refine Met.ofW (cc := M.2.1) (maxL := M.2.2.1) (ret := M.2.2.2) hy rfl ?_
  intro p e s m args below meth c s₁ B hml hv
  obtain ⟨rfl, hR, hE⟩ := hv
  have hl := lv_entry as (n := M.2.2.1) hlen
  rw [lg_entry_eq]
  exact h p e s m _ below meth c _ s.heap [] ⟨B.exec, B.bytes, B.returns, B.notSynchronized, hml, findClass_of_methodNamed B.named, (name_of_methodNamed B.named B.method).1, fun w hw => atoms_spec (ws := wsOf M) B.pre w (List.mem_cons_of_mem _ hw), hE⟩ hl hR va_S.rf
section GR
variable {X : cX} {R : Room} {M : Md} {pc : Nat} {L : List (Nat × Value)} {S : List Value} {μ : mM} {cs sl : Nat} {K : Option Value → mM → Prop}
/-- fewer locals, by their places -/
theorem G_sub {L' : List (Nat × Value)} (ks : List Nat) (hl : lv_pick L ks = L') (h : G X R M pc L' S μ cs sl K) : G X R M pc L S μ cs sl K :=
  fun p e s m args below meth c ls H locs hC hL hP hS => h p e s m args below meth c ls H locs hC (lv_sub hL ks hl) hP hS
theorem G_eq {pc' : Nat} (e : pc = pc') (h : G X R M pc' L S μ cs sl K) : G X R M pc L S μ cs sl K := e ▸ h

theorem G_iconst {n : Int} {v : Int32} (hd : decode M.2.1 pc = .ok (.iconst n, 1)) (hv : Int32.ofInt n = v) (h : G X R M (pc + 1) L (.int v :: S) μ cs sl K) : G X R M pc L S μ cs sl K :=
  fun p e s m args below meth c ls H locs hC hL hP hS => lv_iconst hC.1 hC.2.1 hd hv (h p e s m args below meth c ls H locs hC hL hP hS)
theorem G_bipush {n : Int} {v : Int32} (hd : decode M.2.1 pc = .ok (.bipush n, 2)) (hv : (Int8.ofInt n).toInt32 = v) (h : G X R M (pc + 2) L (.int v :: S) μ cs sl K) : G X R M pc L S μ cs sl K :=
  fun p e s m args below meth c ls H locs hC hL hP hS => lv_bipush hC.1 hC.2.1 hd hv (h p e s m args below meth c ls H locs hC hL hP hS)
theorem G_sipush {n : Int} {v : Int32} (hd : decode M.2.1 pc = .ok (.sipush n, 3)) (hv : (Int16.ofInt n).toInt32 = v) (h : G X R M (pc + 3) L (.int v :: S) μ cs sl K) : G X R M pc L S μ cs sl K :=
  fun p e s m args below meth c ls H locs hC hL hP hS => lv_sipush hC.1 hC.2.1 hd hv (h p e s m args below meth c ls H locs hC hL hP hS)
theorem G_lconst {n : Fin 2} {v : Int64} (hd : decode M.2.1 pc = .ok (.lconst n, 1)) (hv : Int64.ofNat (n : Nat) = v) (h : G X R M (pc + 1) L (.long v :: S) μ cs sl K) : G X R M pc L S μ cs sl K :=
  fun p e s m args below meth c ls H locs hC hL hP hS => lv_lconst hC.1 hC.2.1 hd hv (h p e s m args below meth c ls H locs hC hL hP hS)
theorem G_iload_n {k : Fin 4} {i : Nat} {x : Int32} (hd : decode M.2.1 pc = .ok (.iload_n k, 1)) (hi : (k : Nat) = i) (j : Nat) (hj : L[j]? = some (i, .int x)) (h : G X R M (pc + 1) L (.int x :: S) μ cs sl K) : G X R M pc L S μ cs sl K :=
  fun p e s m args below meth c ls H locs hC hL hP hS => lv_iload_n hC.1 hC.2.1 hd hi (lv_at hL j hj) (h p e s m args below meth c ls H locs hC hL hP hS)
theorem G_iload {i : Nat} {x : Int32} (hd : decode M.2.1 pc = .ok (.iload i, 2)) (j : Nat) (hj : L[j]? = some (i, .int x)) (h : G X R M (pc + 2) L (.int x :: S) μ cs sl K) : G X R M pc L S μ cs sl K :=
  fun p e s m args below meth c ls H locs hC hL hP hS => lv_iload hC.1 hC.2.1 hd (lv_at hL j hj) (h p e s m args below meth c ls H locs hC hL hP hS)
theorem G_lload_n {k : Fin 4} {i : Nat} {x : Int64} (hd : decode M.2.1 pc = .ok (.lload_n k, 1)) (hi : (k : Nat) = i) (j : Nat) (hj : L[j]? = some (i, .long x)) (h : G X R M (pc + 1) L (.long x :: S) μ cs sl K) : G X R M pc L S μ cs sl K :=
  fun p e s m args below meth c ls H locs hC hL hP hS => lv_lload_n hC.1 hC.2.1 hd hi (lv_at hL j hj) (h p e s m args below meth c ls H locs hC hL hP hS)
theorem G_lload {i : Nat} {x : Int64} (hd : decode M.2.1 pc = .ok (.lload i, 2)) (j : Nat) (hj : L[j]? = some (i, .long x)) (h : G X R M (pc + 2) L (.long x :: S) μ cs sl K) : G X R M pc L S μ cs sl K :=
  fun p e s m args below meth c ls H locs hC hL hP hS => lv_lload hC.1 hC.2.1 hd (lv_at hL j hj) (h p e s m args below meth c ls H locs hC hL hP hS)
theorem G_aload_n {k : Fin 4} {i : Nat} {x : Nat} (hd : decode M.2.1 pc = .ok (.aload_n k, 1)) (hi : (k : Nat) = i) (j : Nat) (hj : L[j]? = some (i, .ref x)) (h : G X R M (pc + 1) L (.ref x :: S) μ cs sl K) : G X R M pc L S μ cs sl K :=
  fun p e s m args below meth c ls H locs hC hL hP hS => lv_aload_n hC.1 hC.2.1 hd hi (lv_at hL j hj) (h p e s m args below meth c ls H locs hC hL hP hS)
theorem G_aload {i : Nat} {x : Nat} (hd : decode M.2.1 pc = .ok (.aload i, 2)) (j : Nat) (hj : L[j]? = some (i, .ref x)) (h : G X R M (pc + 2) L (.ref x :: S) μ cs sl K) : G X R M pc L S μ cs sl K :=
  fun p e s m args below meth c ls H locs hC hL hP hS => lv_aload hC.1 hC.2.1 hd (lv_at hL j hj) (h p e s m args below meth c ls H locs hC hL hP hS)
theorem G_istore_n {k : Fin 4} {i : Nat} {x : Int32} {L' : List (Nat × Value)} (hd : decode M.2.1 pc = .ok (.istore_n k, 1)) (hi : (k : Nat) = i) (hn : i < M.2.2.1) (hl : (i, Value.int x) :: L.filter (fun q => !(q.1 == i) && !(q.1 + 1 == i && q.2.category == 2)) = L') (h : G X R M (pc + 1) L' S μ cs sl K) : G X R M pc L (.int x :: S) μ cs sl K :=
  fun p e s m args below meth c ls H locs hC hL hP hS => lv_istore_n hC.1 hC.2.1 hd hi hL hn hl (fun ls' hL' => h p e s m args below meth c ls' H locs hC hL' hP hS)
theorem G_istore {i : Nat} {x : Int32} {L' : List (Nat × Value)} (hd : decode M.2.1 pc = .ok (.istore i, 2))  (hn : i < M.2.2.1) (hl : (i, Value.int x) :: L.filter (fun q => !(q.1 == i) && !(q.1 + 1 == i && q.2.category == 2)) = L') (h : G X R M (pc + 2) L' S μ cs sl K) : G X R M pc L (.int x :: S) μ cs sl K :=
  fun p e s m args below meth c ls H locs hC hL hP hS => lv_istore hC.1 hC.2.1 hd  hL hn hl (fun ls' hL' => h p e s m args below meth c ls' H locs hC hL' hP hS)
theorem G_astore_n {k : Fin 4} {i : Nat} {x : Nat} {L' : List (Nat × Value)} (hd : decode M.2.1 pc = .ok (.astore_n k, 1)) (hi : (k : Nat) = i) (hn : i < M.2.2.1) (hl : (i, Value.ref x) :: L.filter (fun q => !(q.1 == i) && !(q.1 + 1 == i && q.2.category == 2)) = L') (h : G X R M (pc + 1) L' S μ cs sl K) : G X R M pc L (.ref x :: S) μ cs sl K :=
  fun p e s m args below meth c ls H locs hC hL hP hS => lv_astore_n hC.1 hC.2.1 hd hi hL hn hl (fun ls' hL' => h p e s m args below meth c ls' H locs hC hL' hP hS)
theorem G_astore {i : Nat} {x : Nat} {L' : List (Nat × Value)} (hd : decode M.2.1 pc = .ok (.astore i, 2))  (hn : i < M.2.2.1) (hl : (i, Value.ref x) :: L.filter (fun q => !(q.1 == i) && !(q.1 + 1 == i && q.2.category == 2)) = L') (h : G X R M (pc + 2) L' S μ cs sl K) : G X R M pc L (.ref x :: S) μ cs sl K :=
  fun p e s m args below meth c ls H locs hC hL hP hS => lv_astore hC.1 hC.2.1 hd  hL hn hl (fun ls' hL' => h p e s m args below meth c ls' H locs hC hL' hP hS)
theorem G_lstore_n {k : Fin 4} {i : Nat} {x : Int64} {L' : List (Nat × Value)} (hd : decode M.2.1 pc = .ok (.lstore_n k, 1)) (hi : (k : Nat) = i) (hn : i + 1 < M.2.2.1) (hl : (i, Value.long x) :: L.filter (fun q => !(q.1 == i) && (!(q.1 == i + 1) && !(q.1 + 1 == i && q.2.category == 2))) = L') (h : G X R M (pc + 1) L' S μ cs sl K) : G X R M pc L (.long x :: S) μ cs sl K :=
  fun p e s m args below meth c ls H locs hC hL hP hS => lv_lstore_n hC.1 hC.2.1 hd hi hL hn hl (fun ls' hL' => h p e s m args below meth c ls' H locs hC hL' hP hS)
theorem G_lstore {i : Nat} {x : Int64} {L' : List (Nat × Value)} (hd : decode M.2.1 pc = .ok (.lstore i, 2))  (hn : i + 1 < M.2.2.1) (hl : (i, Value.long x) :: L.filter (fun q => !(q.1 == i) && (!(q.1 == i + 1) && !(q.1 + 1 == i && q.2.category == 2))) = L') (h : G X R M (pc + 2) L' S μ cs sl K) : G X R M pc L (.long x :: S) μ cs sl K :=
  fun p e s m args below meth c ls H locs hC hL hP hS => lv_lstore hC.1 hC.2.1 hd  hL hn hl (fun ls' hL' => h p e s m args below meth c ls' H locs hC hL' hP hS)
theorem G_iinc {i : Nat} {n : Int} {x v : Int32} {L' : List (Nat × Value)} (hd : decode M.2.1 pc = .ok (.iinc i n, 3)) (j : Nat) (hj : L[j]? = some (i, .int x)) (hv : x + Int32.ofInt n = v) (hn : i < M.2.2.1) (hl : (i, Value.int v) :: L.filter (fun q => !(q.1 == i) && !(q.1 + 1 == i && q.2.category == 2)) = L') (h : G X R M (pc + 3) L' S μ cs sl K) : G X R M pc L S μ cs sl K :=
  fun p e s m args below meth c ls H locs hC hL hP hS => lv_iinc hC.1 hC.2.1 hd hL hj hv hn hl (fun ls' hL' => h p e s m args below meth c ls' H locs hC hL' hP hS)
theorem G_iadd {x y : Int32} (hd : decode M.2.1 pc = .ok (.iadd, 1))  (h : G X R M (pc + 1) L (.int (x + y) :: S) μ cs sl K) : G X R M pc L (.int y :: .int x :: S) μ cs sl K :=
  fun p e s m args below meth c ls H locs hC hL hP hS => lv_iadd hC.1 hC.2.1 hd  (h p e s m args below meth c ls H locs hC hL hP hS)
theorem G_isub {x y : Int32} (hd : decode M.2.1 pc = .ok (.isub, 1))  (h : G X R M (pc + 1) L (.int (x - y) :: S) μ cs sl K) : G X R M pc L (.int y :: .int x :: S) μ cs sl K :=
  fun p e s m args below meth c ls H locs hC hL hP hS => lv_isub hC.1 hC.2.1 hd  (h p e s m args below meth c ls H locs hC hL hP hS)
theorem G_imul {x y : Int32} (hd : decode M.2.1 pc = .ok (.imul, 1))  (h : G X R M (pc + 1) L (.int (x * y) :: S) μ cs sl K) : G X R M pc L (.int y :: .int x :: S) μ cs sl K :=
  fun p e s m args below meth c ls H locs hC hL hP hS => lv_imul hC.1 hC.2.1 hd  (h p e s m args below meth c ls H locs hC hL hP hS)
theorem G_iand {x y : Int32} (hd : decode M.2.1 pc = .ok (.iand, 1))  (h : G X R M (pc + 1) L (.int (x &&& y) :: S) μ cs sl K) : G X R M pc L (.int y :: .int x :: S) μ cs sl K :=
  fun p e s m args below meth c ls H locs hC hL hP hS => lv_iand hC.1 hC.2.1 hd  (h p e s m args below meth c ls H locs hC hL hP hS)
theorem G_ior {x y : Int32} (hd : decode M.2.1 pc = .ok (.ior, 1))  (h : G X R M (pc + 1) L (.int (x ||| y) :: S) μ cs sl K) : G X R M pc L (.int y :: .int x :: S) μ cs sl K :=
  fun p e s m args below meth c ls H locs hC hL hP hS => lv_ior hC.1 hC.2.1 hd  (h p e s m args below meth c ls H locs hC hL hP hS)
theorem G_ishl {x y : Int32} (hd : decode M.2.1 pc = .ok (.ishl, 1))  (h : G X R M (pc + 1) L (.int (x <<< (y &&& 31)) :: S) μ cs sl K) : G X R M pc L (.int y :: .int x :: S) μ cs sl K :=
  fun p e s m args below meth c ls H locs hC hL hP hS => lv_ishl hC.1 hC.2.1 hd  (h p e s m args below meth c ls H locs hC hL hP hS)
theorem G_ishr {x y : Int32} (hd : decode M.2.1 pc = .ok (.ishr, 1))  (h : G X R M (pc + 1) L (.int (x >>> (y &&& 31)) :: S) μ cs sl K) : G X R M pc L (.int y :: .int x :: S) μ cs sl K :=
  fun p e s m args below meth c ls H locs hC hL hP hS => lv_ishr hC.1 hC.2.1 hd  (h p e s m args below meth c ls H locs hC hL hP hS)
theorem G_idiv {x y : Int32} (hd : decode M.2.1 pc = .ok (.idiv, 1)) (hne : ¬ y = 0) (h : G X R M (pc + 1) L (.int (x / y) :: S) μ cs sl K) : G X R M pc L (.int y :: .int x :: S) μ cs sl K :=
  fun p e s m args below meth c ls H locs hC hL hP hS => lv_idiv hC.1 hC.2.1 hd hne (h p e s m args below meth c ls H locs hC hL hP hS)
theorem G_irem {x y : Int32} (hd : decode M.2.1 pc = .ok (.irem, 1)) (hne : ¬ y = 0) (h : G X R M (pc + 1) L (.int (x - x / y * y) :: S) μ cs sl K) : G X R M pc L (.int y :: .int x :: S) μ cs sl K :=
  fun p e s m args below meth c ls H locs hC hL hP hS => lv_irem hC.1 hC.2.1 hd hne (h p e s m args below meth c ls H locs hC hL hP hS)
theorem G_iushr {x y v : Int32} (hd : decode M.2.1 pc = .ok (.iushr, 1)) (hv : (x.toUInt32 >>> (y.toUInt32 &&& Int32.toUInt32 31)).toInt32 = v) (h : G X R M (pc + 1) L (.int v :: S) μ cs sl K) : G X R M pc L (.int y :: .int x :: S) μ cs sl K :=
  fun p e s m args below meth c ls H locs hC hL hP hS => lv_iushr hC.1 hC.2.1 hd hv (h p e s m args below meth c ls H locs hC hL hP hS)
theorem G_ladd {x y : Int64} (hd : decode M.2.1 pc = .ok (.ladd, 1))  (h : G X R M (pc + 1) L (.long (x + y) :: S) μ cs sl K) : G X R M pc L (.long y :: .long x :: S) μ cs sl K :=
  fun p e s m args below meth c ls H locs hC hL hP hS => lv_ladd hC.1 hC.2.1 hd  (h p e s m args below meth c ls H locs hC hL hP hS)
theorem G_lcmp {x y : Int64} (hd : decode M.2.1 pc = .ok (.lcmp, 1))  (h : G X R M (pc + 1) L (.int (lg_cmp x y) :: S) μ cs sl K) : G X R M pc L (.long y :: .long x :: S) μ cs sl K :=
  fun p e s m args below meth c ls H locs hC hL hP hS => W.lcmp hC.1 hC.2.1 hd  (h p e s m args below meth c ls H locs hC hL hP hS)
theorem G_i2l {x : Int32} {v : Int64} (hd : decode M.2.1 pc = .ok (.i2l, 1)) (hv : x.toInt64 = v) (h : G X R M (pc + 1) L (.long v :: S) μ cs sl K) : G X R M pc L (.int x :: S) μ cs sl K :=
  fun p e s m args below meth c ls H locs hC hL hP hS => lv_i2l hC.1 hC.2.1 hd hv (h p e s m args below meth c ls H locs hC hL hP hS)
theorem G_l2i {x : Int64} {v : Int32} (hd : decode M.2.1 pc = .ok (.l2i, 1)) (hv : x.toInt32 = v) (h : G X R M (pc + 1) L (.int v :: S) μ cs sl K) : G X R M pc L (.long x :: S) μ cs sl K :=
  fun p e s m args below meth c ls H locs hC hL hP hS => lv_l2i hC.1 hC.2.1 hd hv (h p e s m args below meth c ls H locs hC hL hP hS)
theorem G_i2b {x v : Int32} (hd : decode M.2.1 pc = .ok (.i2b, 1)) (hv : x.toInt8.toInt32 = v) (h : G X R M (pc + 1) L (.int v :: S) μ cs sl K) : G X R M pc L (.int x :: S) μ cs sl K :=
  fun p e s m args below meth c ls H locs hC hL hP hS => lv_i2b hC.1 hC.2.1 hd hv (h p e s m args below meth c ls H locs hC hL hP hS)
theorem G_i2s {x v : Int32} (hd : decode M.2.1 pc = .ok (.i2s, 1)) (hv : x.toInt16.toInt32 = v) (h : G X R M (pc + 1) L (.int v :: S) μ cs sl K) : G X R M pc L (.int x :: S) μ cs sl K :=
  fun p e s m args below meth c ls H locs hC hL hP hS => lv_i2s hC.1 hC.2.1 hd hv (h p e s m args below meth c ls H locs hC hL hP hS)
theorem G_i2c {x v : Int32} (hd : decode M.2.1 pc = .ok (.i2c, 1)) (hv : (x.toUInt32 % 65536).toInt32 = v) (h : G X R M (pc + 1) L (.int v :: S) μ cs sl K) : G X R M pc L (.int x :: S) μ cs sl K :=
  fun p e s m args below meth c ls H locs hC hL hP hS => lv_i2c hC.1 hC.2.1 hd hv (h p e s m args below meth c ls H locs hC hL hP hS)
theorem G_dup {va : Value} (hd : decode M.2.1 pc = .ok (.dup, 1)) (hc : va.category = 1) (h : G X R M (pc + 1) L (va :: va :: S) μ cs sl K) : G X R M pc L (va :: S) μ cs sl K :=
  fun p e s m args below meth c ls H locs hC hL hP hS => lv_dup hC.1 hC.2.1 hd hc (h p e s m args below meth c ls H locs hC hL hP hS)
theorem G_pop {va : Value} (hd : decode M.2.1 pc = .ok (.pop, 1)) (hc : va.category = 1) (h : G X R M (pc + 1) L S μ cs sl K) : G X R M pc L (va :: S) μ cs sl K :=
  fun p e s m args below meth c ls H locs hC hL hP hS => lv_pop hC.1 hC.2.1 hd hc (h p e s m args below meth c ls H locs hC hL hP hS)
theorem G_dup2_11 {va vb : Value} (hd : decode M.2.1 pc = .ok (.dup2, 1)) (hc : va.category = 1) (hc2 : vb.category = 1) (h : G X R M (pc + 1) L (va :: vb :: va :: vb :: S) μ cs sl K) : G X R M pc L (va :: vb :: S) μ cs sl K :=
  fun p e s m args below meth c ls H locs hC hL hP hS => lv_dup2_11 hC.1 hC.2.1 hd hc hc2 (h p e s m args below meth c ls H locs hC hL hP hS)
theorem G_if_eq {x : Int32} {off : Int} {tgt : Nat} (hd : decode M.2.1 pc = .ok (.ifCond .eq off, 3)) (ht : (pc : Int) + off = (tgt : Int)) (kt : x = 0 → G X R M tgt L S μ cs sl K) (kf : ¬ x = 0 → G X R M (pc + 3) L S μ cs sl K) : G X R M pc L (.int x :: S) μ cs sl K :=
  fun p e s m args below meth c ls H locs hC hL hP hS => lv_if_eq hC.1 hC.2.1 hd ht (fun q => kt q p e s m args below meth c ls H locs hC hL hP hS) (fun q => kf q p e s m args below meth c ls H locs hC hL hP hS)
theorem G_icmp_eq {x y : Int32} {off : Int} {tgt : Nat} (hd : decode M.2.1 pc = .ok (.if_icmp .eq off, 3)) (ht : (pc : Int) + off = (tgt : Int)) (kt : x = y → G X R M tgt L S μ cs sl K) (kf : ¬ x = y → G X R M (pc + 3) L S μ cs sl K) : G X R M pc L (.int y :: .int x :: S) μ cs sl K :=
  fun p e s m args below meth c ls H locs hC hL hP hS => lv_icmp_eq hC.1 hC.2.1 hd ht (fun q => kt q p e s m args below meth c ls H locs hC hL hP hS) (fun q => kf q p e s m args below meth c ls H locs hC hL hP hS)
theorem G_if_ne {x : Int32} {off : Int} {tgt : Nat} (hd : decode M.2.1 pc = .ok (.ifCond .ne off, 3)) (ht : (pc : Int) + off = (tgt : Int)) (kt : ¬ x = 0 → G X R M tgt L S μ cs sl K) (kf : x = 0 → G X R M (pc + 3) L S μ cs sl K) : G X R M pc L (.int x :: S) μ cs sl K :=
  fun p e s m args below meth c ls H locs hC hL hP hS => lv_if_ne hC.1 hC.2.1 hd ht (fun q => kt q p e s m args below meth c ls H locs hC hL hP hS) (fun q => kf q p e s m args below meth c ls H locs hC hL hP hS)
theorem G_icmp_ne {x y : Int32} {off : Int} {tgt : Nat} (hd : decode M.2.1 pc = .ok (.if_icmp .ne off, 3)) (ht : (pc : Int) + off = (tgt : Int)) (kt : ¬ x = y → G X R M tgt L S μ cs sl K) (kf : x = y → G X R M (pc + 3) L S μ cs sl K) : G X R M pc L (.int y :: .int x :: S) μ cs sl K :=
  fun p e s m args below meth c ls H locs hC hL hP hS => lv_icmp_ne hC.1 hC.2.1 hd ht (fun q => kt q p e s m args below meth c ls H locs hC hL hP hS) (fun q => kf q p e s m args below meth c ls H locs hC hL hP hS)
theorem G_if_lt {x : Int32} {off : Int} {tgt : Nat} (hd : decode M.2.1 pc = .ok (.ifCond .lt off, 3)) (ht : (pc : Int) + off = (tgt : Int)) (kt : x < 0 → G X R M tgt L S μ cs sl K) (kf : ¬ x < 0 → G X R M (pc + 3) L S μ cs sl K) : G X R M pc L (.int x :: S) μ cs sl K :=
  fun p e s m args below meth c ls H locs hC hL hP hS => lv_if_lt hC.1 hC.2.1 hd ht (fun q => kt q p e s m args below meth c ls H locs hC hL hP hS) (fun q => kf q p e s m args below meth c ls H locs hC hL hP hS)
theorem G_icmp_lt {x y : Int32} {off : Int} {tgt : Nat} (hd : decode M.2.1 pc = .ok (.if_icmp .lt off, 3)) (ht : (pc : Int) + off = (tgt : Int)) (kt : x < y → G X R M tgt L S μ cs sl K) (kf : ¬ x < y → G X R M (pc + 3) L S μ cs sl K) : G X R M pc L (.int y :: .int x :: S) μ cs sl K :=
  fun p e s m args below meth c ls H locs hC hL hP hS => lv_icmp_lt hC.1 hC.2.1 hd ht (fun q => kt q p e s m args below meth c ls H locs hC hL hP hS) (fun q => kf q p e s m args below meth c ls H locs hC hL hP hS)
theorem G_if_ge {x : Int32} {off : Int} {tgt : Nat} (hd : decode M.2.1 pc = .ok (.ifCond .ge off, 3)) (ht : (pc : Int) + off = (tgt : Int)) (kt : 0 ≤ x → G X R M tgt L S μ cs sl K) (kf : ¬ 0 ≤ x → G X R M (pc + 3) L S μ cs sl K) : G X R M pc L (.int x :: S) μ cs sl K :=
  fun p e s m args below meth c ls H locs hC hL hP hS => lv_if_ge hC.1 hC.2.1 hd ht (fun q => kt q p e s m args below meth c ls H locs hC hL hP hS) (fun q => kf q p e s m args below meth c ls H locs hC hL hP hS)
theorem G_icmp_ge {x y : Int32} {off : Int} {tgt : Nat} (hd : decode M.2.1 pc = .ok (.if_icmp .ge off, 3)) (ht : (pc : Int) + off = (tgt : Int)) (kt : y ≤ x → G X R M tgt L S μ cs sl K) (kf : ¬ y ≤ x → G X R M (pc + 3) L S μ cs sl K) : G X R M pc L (.int y :: .int x :: S) μ cs sl K :=
  fun p e s m args below meth c ls H locs hC hL hP hS => lv_icmp_ge hC.1 hC.2.1 hd ht (fun q => kt q p e s m args below meth c ls H locs hC hL hP hS) (fun q => kf q p e s m args below meth c ls H locs hC hL hP hS)
theorem G_if_gt {x : Int32} {off : Int} {tgt : Nat} (hd : decode M.2.1 pc = .ok (.ifCond .gt off, 3)) (ht : (pc : Int) + off = (tgt : Int)) (kt : 0 < x → G X R M tgt L S μ cs sl K) (kf : ¬ 0 < x → G X R M (pc + 3) L S μ cs sl K) : G X R M pc L (.int x :: S) μ cs sl K :=
  fun p e s m args below meth c ls H locs hC hL hP hS => lv_if_gt hC.1 hC.2.1 hd ht (fun q => kt q p e s m args below meth c ls H locs hC hL hP hS) (fun q => kf q p e s m args below meth c ls H locs hC hL hP hS)
theorem G_icmp_gt {x y : Int32} {off : Int} {tgt : Nat} (hd : decode M.2.1 pc = .ok (.if_icmp .gt off, 3)) (ht : (pc : Int) + off = (tgt : Int)) (kt : y < x → G X R M tgt L S μ cs sl K) (kf : ¬ y < x → G X R M (pc + 3) L S μ cs sl K) : G X R M pc L (.int y :: .int x :: S) μ cs sl K :=
  fun p e s m args below meth c ls H locs hC hL hP hS => lv_icmp_gt hC.1 hC.2.1 hd ht (fun q => kt q p e s m args below meth c ls H locs hC hL hP hS) (fun q => kf q p e s m args below meth c ls H locs hC hL hP hS)
theorem G_if_le {x : Int32} {off : Int} {tgt : Nat} (hd : decode M.2.1 pc = .ok (.ifCond .le off, 3)) (ht : (pc : Int) + off = (tgt : Int)) (kt : x ≤ 0 → G X R M tgt L S μ cs sl K) (kf : ¬ x ≤ 0 → G X R M (pc + 3) L S μ cs sl K) : G X R M pc L (.int x :: S) μ cs sl K :=
  fun p e s m args below meth c ls H locs hC hL hP hS => lv_if_le hC.1 hC.2.1 hd ht (fun q => kt q p e s m args below meth c ls H locs hC hL hP hS) (fun q => kf q p e s m args below meth c ls H locs hC hL hP hS)
theorem G_icmp_le {x y : Int32} {off : Int} {tgt : Nat} (hd : decode M.2.1 pc = .ok (.if_icmp .le off, 3)) (ht : (pc : Int) + off = (tgt : Int)) (kt : x ≤ y → G X R M tgt L S μ cs sl K) (kf : ¬ x ≤ y → G X R M (pc + 3) L S μ cs sl K) : G X R M pc L (.int y :: .int x :: S) μ cs sl K :=
  fun p e s m args below meth c ls H locs hC hL hP hS => lv_icmp_le hC.1 hC.2.1 hd ht (fun q => kt q p e s m args below meth c ls H locs hC hL hP hS) (fun q => kf q p e s m args below meth c ls H locs hC hL hP hS)
theorem G_goto {off : Int} {tgt : Nat} (hd : decode M.2.1 pc = .ok (.goto off, 3)) (ht : (pc : Int) + off = (tgt : Int)) (h : G X R M tgt L S μ cs sl K) : G X R M pc L S μ cs sl K :=
  fun p e s m args below meth c ls H locs hC hL hP hS => lv_goto hC.1 hC.2.1 hd ht (h p e s m args below meth c ls H locs hC hL hP hS)
theorem G_tableOut {dflt lo hi : Int} {offs : Array Int} {len : Nat} {x : Int32} {tgt : Nat} (hd : decode M.2.1 pc = .ok (.tableswitch dflt lo hi offs, len)) (hx : x.toInt < lo ∨ hi < x.toInt) (ht : (pc : Int) + dflt = (tgt : Int)) (h : G X R M tgt L S μ cs sl K) : G X R M pc L (.int x :: S) μ cs sl K :=
  fun p e s m args below meth c ls H locs hC hL hP hS => lv_tableOut hC.1 hC.2.1 hd hx ht (h p e s m args below meth c ls H locs hC hL hP hS)
theorem G_tableIn {dflt lo hi : Int} {offs : Array Int} {len : Nat} {x : Int32} {off : Int} {tgt : Nat} (hd : decode M.2.1 pc = .ok (.tableswitch dflt lo hi offs, len)) (h1 : ¬ x.toInt < lo) (h2 : ¬ hi < x.toInt) (ho : offs[(x.toInt - lo).toNat]? = some off) (ht : (pc : Int) + off = (tgt : Int)) (h : G X R M tgt L S μ cs sl K) : G X R M pc L (.int x :: S) μ cs sl K :=
  fun p e s m args below meth c ls H locs hC hL hP hS => lv_tableIn hC.1 hC.2.1 hd h1 h2 ho ht (h p e s m args below meth c ls H locs hC hL hP hS)
theorem G_ldc {index : Nat} {v : Int32} (hw : Cond.constant M.1.cls index v ∈ TB) (hd : decode M.2.1 pc = .ok (.ldc index, 2)) (h : G X R M (pc + 2) L (.int v :: S) μ cs sl K) : G X R M pc L S μ cs sl K :=
  fun p e s m args below meth c ls H locs hC hL hP hS => lv_ldc hC.1 hC.2.1 hC.2.2.2.2.2.1 (hC.2.2.2.2.2.2.2.1 _ hw) hd (h p e s m args below meth c ls H locs hC hL hP hS)
theorem G_ldcw {index : Nat} {v : Int32} (hw : Cond.constant M.1.cls index v ∈ TB) (hd : decode M.2.1 pc = .ok (.ldc_w index, 3)) (h : G X R M (pc + 3) L (.int v :: S) μ cs sl K) : G X R M pc L S μ cs sl K :=
  fun p e s m args below meth c ls H locs hC hL hP hS => lv_ldcw hC.1 hC.2.1 hC.2.2.2.2.2.1 (hC.2.2.2.2.2.2.2.1 _ hw) hd (h p e s m args below meth c ls H locs hC hL hP hS)
theorem G_ldc2 {index : Nat} {v : Int64} (hw : Cond.constantLong M.1.cls index v ∈ TB) (hd : decode M.2.1 pc = .ok (.ldc2_w index, 3)) (h : G X R M (pc + 3) L (.long v :: S) μ cs sl K) : G X R M pc L S μ cs sl K :=
  fun p e s m args below meth c ls H locs hC hL hP hS => lv_ldc2 hC.1 hC.2.1 hC.2.2.2.2.2.1 (hC.2.2.2.2.2.2.2.1 _ hw) hd (h p e s m args below meth c ls H locs hC hL hP hS)
theorem G_ldcS {index : Nat} (i : Nat) (hi : i < 13) (hM : M.1.cls = RX4) (he : strI.getD i 0 = index) (hd : decode M.2.1 pc = .ok (.ldc index, 2)) (h : G X R M (pc + 2) L (.ref (X.2.2.2.2.1 i) :: S) μ cs sl K) : G X R M pc L S μ cs sl K :=
  fun p e s m args below meth c ls H locs hC hL hP hS => by
    have hZ := hC.2.2.2.2.2.2.2.2.2.2.2.2.1 i hi
    rw [he] at hZ
    exact va_ldcS hC.1 hC.2.1 (own := RX4) (by rw [← hM]; exact hC.2.2.2.2.2.1) hZ hd (h p e s m args below meth c ls H locs hC hL hP hS)
end GR
end
section
def cT (ci : Nat) : vw_C := vwCl.getD ci (RX0, TX0, 2)
def cOK (ci : Nat) : Prop := vwCl[ci]? = some (cT ci) ∧ fnN ci = (cT ci).2.2 ∧ (∀ w ∈ u_ws (cT ci).1 (cT ci).2.1 (cT ci).2.2, w ∈ TB) ∧ (∀ k, k < (cT ci).2.2 → parseFieldDescriptor ((cT ci).2.1 k).2.2.1 = some (fty ci k)) ∧ (∀ a, a < (cT ci).2.2 → ∀ b, b < (cT ci).2.2 → a ≠ b → ((cT ci).2.1 a).2.1 ≠ ((cT ci).2.1 b).2.1)
theorem TB_all {ws : List Cond} (h : ws.all (fun w => decide (w ∈ lw_tbl) && goodWord w) = true) : ∀ w ∈ ws, w ∈ TB := by
  intro w hw
  have h1 := List.all_eq_true.mp h w hw
  simp only [Bool.and_eq_true, decide_eq_true_eq] at h1
  exact TB_mem h1.1 h1.2
set_option maxRecDepth 100000 in
theorem cok0 : cOK 0 := ⟨rfl, rfl, TB_all (by decide +kernel), tyX0_ok, nmX0⟩
set_option maxRecDepth 100000 in
theorem cok1 : cOK 1 := ⟨rfl, rfl, TB_all (by decide +kernel), tyX1_ok, nmX1⟩
set_option maxRecDepth 100000 in
theorem cok2 : cOK 2 := ⟨rfl, rfl, TB_all (by decide +kernel), tyX2_ok, nmX2⟩
set_option maxRecDepth 100000 in
theorem cok3 : cOK 3 := ⟨rfl, rfl, TB_all (by decide +kernel), tyX3_ok, nmX3⟩
set_option maxRecDepth 100000 in
theorem cok4 : cOK 4 := ⟨rfl, rfl, TB_all (by decide +kernel), tyX4_ok, nmX4⟩
set_option maxRecDepth 100000 in
theorem cok5 : cOK 5 := ⟨rfl, rfl, TB_all (by decide +kernel), tyX5_ok, nmX5⟩
set_option maxRecDepth 100000 in
theorem cok6 : cOK 6 := ⟨rfl, rfl, TB_all (by decide +kernel), tyX6_ok, nmX6⟩
set_option maxRecDepth 100000 in
theorem cok7 : cOK 7 := ⟨rfl, rfl, TB_all (by decide +kernel), tyX7_ok, nmX7⟩
set_option maxRecDepth 100000 in
theorem cok8 : cOK 8 := ⟨rfl, rfl, TB_all (by decide +kernel), tyX8_ok, nmX8⟩
set_option maxRecDepth 100000 in
theorem cok9 : cOK 9 := ⟨rfl, rfl, TB_all (by decide +kernel), tyX9_ok, nmX9⟩
set_option maxRecDepth 100000 in
theorem cok10 : cOK 10 := ⟨rfl, rfl, TB_all (by decide +kernel), tyX10_ok, nmX10⟩
set_option maxRecDepth 100000 in
theorem cok11 : cOK 11 := ⟨rfl, rfl, TB_all (by decide +kernel), tyX11_ok, nmX11⟩
set_option maxRecDepth 100000 in
theorem cok12 : cOK 12 := ⟨rfl, rfl, TB_all (by decide +kernel), tyX12_ok, nmX12⟩
theorem lw_in {X : cX} {μ : mM} {H : Heap} {a : Nat} (hP : Rp X μ H) (h : (kd μ a).1 ≠ 9) : inX X μ a := by
  by_cases hi : inX X μ a
  · exact hi
  · exact absurd (by rw [hP.2.2.1 a hi]) h
theorem toE_obj {cA : Nat → ClassId} {μ : mM} {a ci : Nat} (h : kd μ a = (0, ci)) : toE cA μ a = .inr (ci, flds μ a ci) := by
  unfold toE
  rw [h]
  rfl
theorem toE_arr {cA : Nat → ClassId} {μ : mM} {a t n : Nat} (h : kd μ a = (t, n)) (h1 : t ≠ 0) (h2 : t < 4) : toE cA μ a = .inl (cA (t - 1), n, .inl (iv μ a)) := by
  unfold toE
  rw [h]
  simp only [if_neg h1, if_pos h2]
theorem toE_ref {cA : Nat → ClassId} {μ : mM} {a t n : Nat} (h : kd μ a = (t, n)) (h2 : ¬ t < 4) : toE cA μ a = .inl (cA (t - 1), n, .inr (.inr (.inr (.inr (rv μ a))))) := by
  unfold toE
  rw [h]
  have h1 : t ≠ 0 := by omega
  simp only [if_neg h1, if_neg h2]
theorem at_obj {X : cX} {μ : mM} {H : Heap} {a ci : Nat} (hP : Rp X μ H) (h : kd μ a = (0, ci)) : va_P X.2.2.1 vwCl [(a, .inr (ci, flds μ a ci))] H := by
  have h1 := hP.2.2.2.2 a (lw_in hP (by rw [h]; exact (by decide : (0 : Nat) ≠ 9)))
  rw [toE_obj h] at h1
  intro k q hk
  cases k with
  | zero => cases hk; exact h1
  | succ k => cases hk
theorem at_arr {X : cX} {μ : mM} {H : Heap} {a t n : Nat} (hP : Rp X μ H) (h : kd μ a = (t, n)) (h1 : t ≠ 0) (h2 : t < 4) : va_P X.2.2.1 vwCl [(a, .inl (X.2.2.2.1 (t - 1), n, .inl (iv μ a)))] H := by
  have h3 := hP.2.2.2.2 a (lw_in hP (by rw [h]; show t ≠ 9; omega))
  rw [toE_arr h h1 h2] at h3
  intro k q hk
  cases k with
  | zero => cases hk; exact h3
  | succ k => cases hk
theorem at_ref {X : cX} {μ : mM} {H : Heap} {a t n : Nat} (hP : Rp X μ H) (h : kd μ a = (t, n)) (h2 : ¬ t < 4) (h9 : t ≠ 9) : va_P X.2.2.1 vwCl [(a, .inl (X.2.2.2.1 (t - 1), n, .inr (.inr (.inr (.inr (rv μ a))))))] H := by
  have h3 := hP.2.2.2.2 a (lw_in hP (by rw [h]; exact h9))
  rw [toE_ref h h2] at h3
  intro k q hk
  cases k with
  | zero => cases hk; exact h3
  | succ k => cases hk
theorem flds_len (μ : mM) (a c : Nat) : (flds μ a c).length = fnN c := by simp [flds]
theorem flds_at (μ : mM) (a c k : Nat) (hk : k < fnN c) : (flds μ a c)[k]? = some (fvl μ a c k) := by
  simp [flds, hk]
theorem flds_wi (μ : mM) (a c k : Nat) (v : Int32) (hr : isRf (fty c k) = false) : flds (wi μ a k v) a c = (flds μ a c).set k (.int v) := by
  apply List.ext_getElem?
  intro j
  by_cases hj : j < fnN c
  · rw [flds_at _ _ _ _ hj, List.getElem?_set]
    by_cases hjk : k = j
    · subst hjk
      simp [flds_len, hj, fvl, hr, iv_wi]
    · rw [if_neg hjk, flds_at _ _ _ _ hj]
      simp [fvl, rv_wi, iv_wi, Ne.symm hjk]
  · rw [List.getElem?_eq_none (by rw [flds_len]; omega), List.getElem?_eq_none (by rw [List.length_set, flds_len]; omega)]
theorem flds_wr (μ : mM) (a c k : Nat) (v : Option Nat) (hr : isRf (fty c k) = true) : flds (wr μ a k v) a c = (flds μ a c).set k (va_rf v) := by
  apply List.ext_getElem?
  intro j
  by_cases hj : j < fnN c
  · rw [flds_at _ _ _ _ hj, List.getElem?_set]
    by_cases hjk : k = j
    · subst hjk
      simp [flds_len, hj, fvl, hr, rv_wr]
    · rw [if_neg hjk, flds_at _ _ _ _ hj]
      simp [fvl, rv_wr, iv_wr, Ne.symm hjk]
  · rw [List.getElem?_eq_none (by rw [flds_len]; omega), List.getElem?_eq_none (by rw [List.length_set, flds_len]; omega)]
theorem toE_wi_ne {cA : Nat → ClassId} {μ : mM} {a k : Nat} {v : Int32} {x : Nat} (h : x ≠ a) : toE cA (wi μ a k v) x = toE cA μ x := by
  have e : iv (wi μ a k v) x = iv μ x := funext fun j => by rw [iv_wi, if_neg (fun q => h q.1)]
  have e2 : rv (wi μ a k v) x = rv μ x := rfl
  have e3 : ∀ c, flds (wi μ a k v) x c = flds μ x c := fun c => by unfold flds; apply List.map_congr_left; intro j _; unfold fvl; rw [e, e2]
  unfold toE
  rw [kd_wi, e, e2, e3]
theorem toE_wr_ne {cA : Nat → ClassId} {μ : mM} {a k : Nat} {v : Option Nat} {x : Nat} (h : x ≠ a) : toE cA (wr μ a k v) x = toE cA μ x := by
  have e : rv (wr μ a k v) x = rv μ x := funext fun j => by rw [rv_wr, if_neg (fun q => h q.1)]
  have e2 : iv (wr μ a k v) x = iv μ x := rfl
  have e3 : ∀ c, flds (wr μ a k v) x c = flds μ x c := fun c => by unfold flds; apply List.map_congr_left; intro j _; unfold fvl; rw [e, e2]
  unfold toE
  rw [kd_wr, e, e2, e3]
/-- one cell has changed -/
theorem Rp_set {X : cX} {μ μ' : mM} {H H1 : Heap} {a : Nat} (hP : Rp X μ H) (hk : ∀ x, kd μ' x = kd μ x) (hz : sz μ' = sz μ) (hs : H1.size = H.size) (ho : ∀ q : Nat, q ≠ a → H1[q]? = H[q]?) (hne : ∀ x, x ≠ a → toE X.2.2.2.1 μ' x = toE X.2.2.2.1 μ x) (ha : va_at X.2.2.1 vwCl (a, toE X.2.2.2.1 μ' a) H1) : Rp X μ' H1 := by
  refine ⟨by rw [hs, hz]; exact hP.1, by rw [hz]; exact hP.2.1, fun x hx => ?_, fun x => by rw [hk]; exact hP.2.2.2.1 x, fun x hx => ?_⟩
  · rw [hk]
    exact hP.2.2.1 x (fun q => hx ⟨q.1, by rw [hz]; exact q.2⟩)
  · by_cases hxa : x = a
    · subst hxa; exact ha
    · rw [hne x hxa]
      exact (hP.2.2.2.2 x ⟨hx.1, by rw [← hz]; exact hx.2⟩).kept (ho x hxa)
theorem S_put {X : cX} {μ : mM} {H0 H H1 : Heap} {locs : List Loc} {a k : Nat} (hP : Rp X μ H) (h9 : (kd μ a).1 ≠ 9) (hS : va_S (fA X) H0 H locs) (hs : H1.size = H.size) (ho : ∀ q : Nat, q ≠ a → H1[q]? = H[q]?) : va_S (fA X) H0 H1 (locs ++ [⟨a, k⟩]) := hS.put hs ho (lw_in hP h9).1
theorem vp_of_nI {n j : Nat} (h : j < n) (hn : n < 2 ^ 31) : vp_in (nI j) n := vp_in_nI h hn
section GM
variable {X : cX} {R : Room} {M : Md} {pc : Nat} {L : List (Nat × Value)} {S : List Value} {μ : mM} {cs sl : Nat} {K : Option Value → mM → Prop}
abbrev flW (own : String) (index ci k : Nat) : Cond := .fieldLink own index ((cT ci).2.1 k).1 ((cT ci).2.1 k).2.1 ((cT ci).2.1 k).2.2.1
theorem G_getV {index a : Nat} (ci k : Nat) (hq : kd μ a = (0, ci)) (hci : cOK ci) (hk : k < fnN ci) (hw : flW M.1.cls index ci k ∈ TB) (hd : decode M.2.1 pc = .ok (.getfield index, 3)) (h : G X R M (pc + 3) L (fvl μ a ci k :: S) μ cs sl K) : G X R M pc L (.ref a :: S) μ cs sl K := by
  intro p e s m args below meth c ls H locs hC hL hP hS
  have h1 := hC.2.2.2.2.2.2.2.1
  exact va_get (own := M.1.cls) (ref := ((cT ci).2.1 k).1) (C := (cT ci).1) (T := (cT ci).2.1) (N := (cT ci).2.2) hC.1 hC.2.1 h1 hci.2.2.1 hC.2.2.2.2.2.1 hC.2.2.2.2.2.2.2.2.2.1 (at_obj hP hq) 0 rfl hci.1 k (by rw [← hci.2.1]; exact hk) (h1 _ hw) (fun _ h9 => h9) (flds_at μ a ci k hk) hd (h p e s m args below meth c ls H locs hC hL hP hS)
theorem G_getI {index a : Nat} (ci k : Nat) (hq : kd μ a = (0, ci)) (hci : cOK ci) (hk : k < fnN ci) (hr : isRf (fty ci k) = false) (hw : flW M.1.cls index ci k ∈ TB) (hd : decode M.2.1 pc = .ok (.getfield index, 3)) (h : G X R M (pc + 3) L (.int (iv μ a k) :: S) μ cs sl K) : G X R M pc L (.ref a :: S) μ cs sl K :=
  G_getV ci k hq hci hk hw hd (by unfold fvl; rw [if_neg (by rw [hr]; decide)]; exact h)
theorem G_getR {index a r : Nat} (ci k : Nat) (hq : kd μ a = (0, ci)) (hv : rv μ a k = some r) (hci : cOK ci) (hk : k < fnN ci) (hr : isRf (fty ci k) = true) (hw : flW M.1.cls index ci k ∈ TB) (hd : decode M.2.1 pc = .ok (.getfield index, 3)) (h : G X R M (pc + 3) L (.ref r :: S) μ cs sl K) : G X R M pc L (.ref a :: S) μ cs sl K :=
  G_getV ci k hq hci hk hw hd (by unfold fvl; rw [if_pos hr, hv]; exact h)
theorem put_core {index a : Nat} {v : Value} {μ' : mM} (ci k : Nat) (hq : kd μ a = (0, ci)) (hci : cOK ci) (hk : k < fnN ci) (hfi : ((cT ci).2.1 k).2.2.2 = false ∨ (M.1.name = "<init>" ∧ ((cT ci).2.1 k).1 = M.1.cls)) (hn : narrow (fty ci k) v = v) (hf : fits (fty ci k) v = true) (hw : flW M.1.cls index ci k ∈ TB) (hkd : ∀ x, kd μ' x = kd μ x) (hz : sz μ' = sz μ) (hne : ∀ x, x ≠ a → toE X.2.2.2.1 μ' x = toE X.2.2.2.1 μ x) (ha : flds μ' a ci = (flds μ a ci).set k v) (hd : decode M.2.1 pc = .ok (.putfield index, 3)) (h : G X R M (pc + 3) L S μ' cs sl K) : G X R M pc L (v :: .ref a :: S) μ cs sl K := by
  intro p e s m args below meth c ls H locs hC hL hP hS
  have hts := hC.2.2.2.2.2.2.2.1
  have hK := hC.2.2.2.2.2.2.2.2.2.1
  have hown := hC.2.2.2.2.2.1
  have hk' : k < (cT ci).2.2 := by rw [← hci.2.1]; exact hk
  have hap := va_apart (own := M.1.cls) hts hci.2.2.1 (fty ci) hci.2.2.2.1 hci.2.2.2.2 hK hci.1
  obtain ⟨r, h1, cell, q1, q2, q3, q4⟩ := at_obj hP hq 0 _ rfl
  have hr : r = cT ci := Option.some.inj (h1.symm.trans hci.1)
  subst hr
  obtain ⟨hSl, hfc, kC, hkC, hkind⟩ := hK.1 ci _ hci.1
  obtain ⟨cf, kf, fi, f, hi, hsl⟩ := hSl k hk'
  have hlay := hts _ (hci.2.2.1 _ (u_in_lay hk'))
  have hst := (u_facts hfc hkC (u_lays hts hci.2.2.1 hk') hi).1
  have hin9 : (kd μ a).1 ≠ 9 := by rw [hq]; exact (by decide : (0 : Nat) ≠ 9)
  have fin : ∀ H' : Heap, H'[a]? = some (cell.setSlot f.slot v) → H'.size = H.size → (∀ q, q ≠ a → H'[q]? = H[q]?) → W p X.1 e R s m args below meth c H' (locs ++ [⟨a, f.slot⟩]) cs sl (MQ below (Pst X K) args s R.cells R.slots (fA X)) (F0 m (pc + 3) ls S) := by
    intro H' e1 e2 e3
    rw [hsl] at e1
    refine h p e s m args below meth c ls H' _ hC hL (Rp_set hP hkd hz e2 e3 hne ?_) (S_put hP hin9 hS e2 e3)
    rw [toE_obj (by rw [hkd]; exact hq), ha]
    exact ⟨_, hci.1, t_OB.to (V := updV (vp_V (flds μ a ci)) k v) ⟨_, e1, q2, q3, t_set q4 hap hk' v⟩ (fun j _ => vp_updV_set (by rw [flds_len]; exact hk) v j)⟩
  rcases hfi with hfi | ⟨hin, hdecl⟩
  · unfold u_lay at hlay
    rw [if_neg (by rw [hfi]; decide)] at hlay
    have h6 := u_store hfc hkC hkind hlay hi (hci.2.2.2.1 k hk') hn hf
    exact W.putK hC.1 hC.2.1 (f := f) ⟨hown, hts _ hw, ⟨_, _, _, hi⟩, hst⟩ (by rw [q2]; exact h6) q1 q3 (by rw [hsl]; exact k2_hasslot (q4 k hk')) rfl rfl hd fin
  · have hlay2 : (Cond.lays (cT ci).1 ((cT ci).2.1 k).1 ((cT ci).2.1 k).2.1 ((cT ci).2.1 k).2.2.1).before args s = true ∨ (Cond.laysFinal (cT ci).1 ((cT ci).2.1 k).1 ((cT ci).2.1 k).2.1 ((cT ci).2.1 k).2.2.1).before args s = true := u_lays hts hci.2.2.1 hk'
    have h6 := u_fits hfc hkC hkind hlay2 hi (hci.2.2.2.1 k hk') hn hf
    by_cases hff : ((cT ci).2.1 k).2.2.2 = true
    · unfold u_lay at hlay
      rw [if_pos hff] at hlay
      have hcf : m.cls = cf := by
        obtain ⟨_, _, c', _, _, _, -, -, hf', -, -, -, hown2, -⟩ := Cond.laysFinal_spec hlay
        have e1 : c' = cf := by have := hi.symm.trans hf'; simp at this; exact this.1.symm
        rw [hdecl] at hown2
        rw [← e1]; exact Option.some.inj (hown.symm.trans hown2)
      exact W.putFinK hC.1 hC.2.1 hown (hts _ hw) hi hst hcf (hC.2.2.2.2.2.2.1.trans hin) (by rw [q2]; exact h6) q1 q3 (by rw [hsl]; exact k2_hasslot (q4 k hk')) rfl rfl hd fin
    · unfold u_lay at hlay
      rw [if_neg hff] at hlay
      have h6 := u_store hfc hkC hkind hlay hi (hci.2.2.2.1 k hk') hn hf
      exact W.putK hC.1 hC.2.1 (f := f) ⟨hown, hts _ hw, ⟨_, _, _, hi⟩, hst⟩ (by rw [q2]; exact h6) q1 q3 (by rw [hsl]; exact k2_hasslot (q4 k hk')) rfl rfl hd fin
theorem G_putI {index a : Nat} {v : Int32} (ci k : Nat) (hq : kd μ a = (0, ci)) (hn : narrow (fty ci k) (.int v) = .int v) (hf : fits (fty ci k) (.int v) = true) (hci : cOK ci) (hk : k < fnN ci) (hr : isRf (fty ci k) = false) (hfi : ((cT ci).2.1 k).2.2.2 = false ∨ (M.1.name = "<init>" ∧ ((cT ci).2.1 k).1 = M.1.cls)) (hw : flW M.1.cls index ci k ∈ TB) (hd : decode M.2.1 pc = .ok (.putfield index, 3)) (h : G X R M (pc + 3) L S (wi μ a k v) cs sl K) : G X R M pc L (.int v :: .ref a :: S) μ cs sl K :=
  put_core (μ' := wi μ a k v) ci k hq hci hk hfi hn hf hw (fun _ => rfl) rfl (fun _ hx => toE_wi_ne hx) (flds_wi μ a ci k v hr) hd h
theorem fits_rf {t : FieldType} (h : isRf t = true) (r : Nat) : narrow t (.ref r) = .ref r ∧ fits t (.ref r) = true := by
  cases t <;> first | exact ⟨rfl, rfl⟩ | cases h
theorem G_putR {index a r : Nat} (ci k : Nat) (hq : kd μ a = (0, ci)) (hci : cOK ci) (hk : k < fnN ci) (hr : isRf (fty ci k) = true) (hfi : ((cT ci).2.1 k).2.2.2 = false ∨ (M.1.name = "<init>" ∧ ((cT ci).2.1 k).1 = M.1.cls)) (hw : flW M.1.cls index ci k ∈ TB) (hd : decode M.2.1 pc = .ok (.putfield index, 3)) (h : G X R M (pc + 3) L S (wr μ a k (some r)) cs sl K) : G X R M pc L (.ref r :: .ref a :: S) μ cs sl K :=
  put_core (μ' := wr μ a k (some r)) ci k hq hci hk hfi (fits_rf hr r).1 (fits_rf hr r).2 hw (fun _ => rfl) rfl (fun _ hx => toE_wr_ne hx) (flds_wr μ a ci k (some r) hr) hd h

theorem G_iald {a n : Nat} {i : Int32} (j : Nat) (hq : kd μ a = (1, n)) (hi : i = nI j) (hj : j < n) (hd : decode M.2.1 pc = .ok (.iaload, 1)) (h : G X R M (pc + 1) L (.int (iv μ a j) :: S) μ cs sl K) : G X R M pc L (.int i :: .ref a :: S) μ cs sl K := by
  intro p e s m args below meth c ls H locs hC hL hP hS
  have hn : n < 2 ^ 31 := by have := hP.2.2.2.1 a; rw [hq] at this; exact this
  subst hi
  refine va_iald hC.1 hC.2.1 hC.2.2.2.2.2.2.2.2.2.1 (at_arr hP hq (by decide) (by decide)) 0 0 rfl rfl (vp_in_nI hj hn) hd ?_
  rw [nI_clamp (by omega)]
  exact h p e s m args below meth c ls H locs hC hL hP hS
theorem G_bald {a n : Nat} {i : Int32} (j : Nat) (hq : kd μ a = (2, n)) (hi : i = nI j) (hj : j < n) (hd : decode M.2.1 pc = .ok (.baload, 1)) (h : G X R M (pc + 1) L (.int (iv μ a j) :: S) μ cs sl K) : G X R M pc L (.int i :: .ref a :: S) μ cs sl K := by
  intro p e s m args below meth c ls H locs hC hL hP hS
  have hn : n < 2 ^ 31 := by have := hP.2.2.2.1 a; rw [hq] at this; exact this
  subst hi
  refine va_bald hC.1 hC.2.1 hC.2.2.2.2.2.2.2.2.2.1 (at_arr hP hq (by decide) (by decide)) 0 1 rfl rfl (vp_in_nI hj hn) hd ?_
  rw [nI_clamp (by omega)]
  exact h p e s m args below meth c ls H locs hC hL hP hS
theorem G_zald {a n : Nat} {i : Int32} (j : Nat) (hq : kd μ a = (3, n)) (hi : i = nI j) (hj : j < n) (hd : decode M.2.1 pc = .ok (.baload, 1)) (h : G X R M (pc + 1) L (.int (iv μ a j) :: S) μ cs sl K) : G X R M pc L (.int i :: .ref a :: S) μ cs sl K := by
  intro p e s m args below meth c ls H locs hC hL hP hS
  have hn : n < 2 ^ 31 := by have := hP.2.2.2.1 a; rw [hq] at this; exact this
  subst hi
  refine va_zald hC.1 hC.2.1 hC.2.2.2.2.2.2.2.2.2.1 (at_arr hP hq (by decide) (by decide)) 0 2 rfl rfl (vp_in_nI hj hn) hd ?_
  rw [nI_clamp (by omega)]
  exact h p e s m args below meth c ls H locs hC hL hP hS
theorem G_iast {a n : Nat} {i : Int32} {x : Int32} (j : Nat) (hq : kd μ a = (1, n)) (hi : i = nI j) (hj : j < n)  (hd : decode M.2.1 pc = .ok (.iastore, 1)) (h : G X R M (pc + 1) L S (wi μ a j x) cs sl K) : G X R M pc L (.int x :: .int i :: .ref a :: S) μ cs sl K := by
  intro p e s m args below meth c ls H locs hC hL hP hS
  have hn : n < 2 ^ 31 := by have := hP.2.2.2.1 a; rw [hq] at this; exact this
  subst hi
  have hK := hC.2.2.2.2.2.2.2.2.2.1
  have hin := vp_in_nI hj hn
  refine W.iast hC.1 hC.2.1 (at_arr hP hq (by decide) (by decide) 0 _ rfl) ((hK.2 0 _ rfl).1 n (fun j => .int (iv μ a j))) (fun q => by cases q) (by show ¬ (nI j < 0 ∨ (arrV _ _ _).slots.size ≤ _); rw [arrV_size]; exact hin) rfl rfl hd fun H1 e1 z oq => ?_
  refine h p e s m args below meth c ls H1 _ hC hL (Rp_set hP (fun _ => rfl) rfl z oq (fun _ hx => toE_wi_ne hx) ?_) (S_put hP (by rw [hq]; exact (by decide : (1 : Nat) ≠ 9)) hS z oq)
  rw [toE_arr (μ := wi μ a j x) hq (by decide) (by decide)]
  show H1[a]? = some (vp_cell _ _)
  rw [e1, nI_clamp (by omega)]
  rw [vp_cell_i, vp_cell_i, arrV_store]
  congr 2
  funext q
  by_cases hq2 : q = j
  · subst hq2
    simp [updV, iv_wi]
  · simp [updV, iv_wi, hq2]
theorem G_bast {a n : Nat} {i : Int32} {x v : Int32} (j : Nat) (hq : kd μ a = (2, n)) (hi : i = nI j) (hj : j < n) (hv : vp_nar .byte x = v) (hd : decode M.2.1 pc = .ok (.bastore, 1)) (h : G X R M (pc + 1) L S (wi μ a j v) cs sl K) : G X R M pc L (.int x :: .int i :: .ref a :: S) μ cs sl K := by
  intro p e s m args below meth c ls H locs hC hL hP hS
  have hn : n < 2 ^ 31 := by have := hP.2.2.2.1 a; rw [hq] at this; exact this
  subst hi
  have hK := hC.2.2.2.2.2.2.2.2.2.1
  have hin := vp_in_nI hj hn
  refine W.bast hC.1 hC.2.1 (at_arr hP hq (by decide) (by decide) 0 _ rfl) ((hK.2 1 _ rfl).1 n (fun j => .int (iv μ a j))) (fun q => by cases q) (by show ¬ (nI j < 0 ∨ (arrV _ _ _).slots.size ≤ _); rw [arrV_size]; exact hin) rfl rfl hd fun H1 e1 z oq => ?_
  refine h p e s m args below meth c ls H1 _ hC hL (Rp_set hP (fun _ => rfl) rfl z oq (fun _ hx => toE_wi_ne hx) ?_) (S_put hP (by rw [hq]; exact (by decide : (2 : Nat) ≠ 9)) hS z oq)
  rw [toE_arr (μ := wi μ a j v) hq (by decide) (by decide)]
  show H1[a]? = some (vp_cell _ _)
  rw [e1, nI_clamp (by omega)]
  rw [vp_cell_i, vp_cell_i, arrV_store]
  congr 2
  funext q
  by_cases hq2 : q = j
  · subst hq2
    simp [updV, iv_wi, ← hv, vp_nar]; try rfl
  · simp [updV, iv_wi, hq2]
theorem G_zast {a n : Nat} {i : Int32} {x v : Int32} (j : Nat) (hq : kd μ a = (3, n)) (hi : i = nI j) (hj : j < n) (hv : vp_nar .boolean x = v) (hd : decode M.2.1 pc = .ok (.bastore, 1)) (h : G X R M (pc + 1) L S (wi μ a j v) cs sl K) : G X R M pc L (.int x :: .int i :: .ref a :: S) μ cs sl K := by
  intro p e s m args below meth c ls H locs hC hL hP hS
  have hn : n < 2 ^ 31 := by have := hP.2.2.2.1 a; rw [hq] at this; exact this
  subst hi
  have hK := hC.2.2.2.2.2.2.2.2.2.1
  have hin := vp_in_nI hj hn
  refine W.zast hC.1 hC.2.1 (at_arr hP hq (by decide) (by decide) 0 _ rfl) ((hK.2 2 _ rfl).1 n (fun j => .int (iv μ a j))) (fun q => by cases q) (by show ¬ (nI j < 0 ∨ (arrV _ _ _).slots.size ≤ _); rw [arrV_size]; exact hin) rfl rfl hd fun H1 e1 z oq => ?_
  refine h p e s m args below meth c ls H1 _ hC hL (Rp_set hP (fun _ => rfl) rfl z oq (fun _ hx => toE_wi_ne hx) ?_) (S_put hP (by rw [hq]; exact (by decide : (3 : Nat) ≠ 9)) hS z oq)
  rw [toE_arr (μ := wi μ a j v) hq (by decide) (by decide)]
  show H1[a]? = some (vp_cell _ _)
  rw [e1, nI_clamp (by omega)]
  rw [vp_cell_i, vp_cell_i, arrV_store]
  congr 2
  funext q
  by_cases hq2 : q = j
  · subst hq2
    simp [updV, iv_wi, ← hv, vp_nar]; try rfl
  · simp [updV, iv_wi, hq2]
theorem G_aaldA {a n r : Nat} {i : Int32} (j : Nat) (hq : kd μ a = (4, n)) (hi : i = nI j) (hj : j < n) (hv : rv μ a j = some r) (hd : decode M.2.1 pc = .ok (.aaload, 1)) (h : G X R M (pc + 1) L (.ref r :: S) μ cs sl K) : G X R M pc L (.int i :: .ref a :: S) μ cs sl K := by
  intro p e s m args below meth c ls H locs hC hL hP hS
  have hn : n < 2 ^ 31 := by have := hP.2.2.2.1 a; rw [hq] at this; exact this
  subst hi
  have hK := hC.2.2.2.2.2.2.2.2.2.1
  have hin := vp_in_nI hj hn
  refine W.aald (v := .ref r) hC.1 hC.2.1 (at_ref hP hq (by decide) (by decide) 0 _ rfl) ((hK.2 3 _ rfl).1 n (fun j => va_rf (rv μ a j))) rfl (fun q => by cases q) (by show ¬ (nI j < 0 ∨ (arrV _ _ _).slots.size ≤ _); rw [arrV_size]; exact hin) (by show (arrV _ _ _).slots[_]? = _; rw [nI_clamp (by omega), arrV_read _ _ hj, hv]; rfl) rfl rfl hd (h p e s m args below meth c ls H locs hC hL hP hS)
theorem G_aaldS {a n r : Nat} {i : Int32} (j : Nat) (hq : kd μ a = (5, n)) (hi : i = nI j) (hj : j < n) (hv : rv μ a j = some r) (hd : decode M.2.1 pc = .ok (.aaload, 1)) (h : G X R M (pc + 1) L (.ref r :: S) μ cs sl K) : G X R M pc L (.int i :: .ref a :: S) μ cs sl K := by
  intro p e s m args below meth c ls H locs hC hL hP hS
  have hn : n < 2 ^ 31 := by have := hP.2.2.2.1 a; rw [hq] at this; exact this
  subst hi
  have hK := hC.2.2.2.2.2.2.2.2.2.1
  have hin := vp_in_nI hj hn
  refine W.aald (v := .ref r) hC.1 hC.2.1 (at_ref hP hq (by decide) (by decide) 0 _ rfl) ((hK.2 4 _ rfl).1 n (fun j => va_rf (rv μ a j))) rfl (fun q => by cases q) (by show ¬ (nI j < 0 ∨ (arrV _ _ _).slots.size ≤ _); rw [arrV_size]; exact hin) (by show (arrV _ _ _).slots[_]? = _; rw [nI_clamp (by omega), arrV_read _ _ hj, hv]; rfl) rfl rfl hd (h p e s m args below meth c ls H locs hC hL hP hS)
theorem G_aaldF {a n r : Nat} {i : Int32} (j : Nat) (hq : kd μ a = (6, n)) (hi : i = nI j) (hj : j < n) (hv : rv μ a j = some r) (hd : decode M.2.1 pc = .ok (.aaload, 1)) (h : G X R M (pc + 1) L (.ref r :: S) μ cs sl K) : G X R M pc L (.int i :: .ref a :: S) μ cs sl K := by
  intro p e s m args below meth c ls H locs hC hL hP hS
  have hn : n < 2 ^ 31 := by have := hP.2.2.2.1 a; rw [hq] at this; exact this
  subst hi
  have hK := hC.2.2.2.2.2.2.2.2.2.1
  have hin := vp_in_nI hj hn
  refine W.aald (v := .ref r) hC.1 hC.2.1 (at_ref hP hq (by decide) (by decide) 0 _ rfl) ((hK.2 5 _ rfl).1 n (fun j => va_rf (rv μ a j))) rfl (fun q => by cases q) (by show ¬ (nI j < 0 ∨ (arrV _ _ _).slots.size ≤ _); rw [arrV_size]; exact hin) (by show (arrV _ _ _).slots[_]? = _; rw [nI_clamp (by omega), arrV_read _ _ hj, hv]; rfl) rfl rfl hd (h p e s m args below meth c ls H locs hC hL hP hS)
theorem G_aaldT {a n r : Nat} {i : Int32} (j : Nat) (hq : kd μ a = (7, n)) (hi : i = nI j) (hj : j < n) (hv : rv μ a j = some r) (hd : decode M.2.1 pc = .ok (.aaload, 1)) (h : G X R M (pc + 1) L (.ref r :: S) μ cs sl K) : G X R M pc L (.int i :: .ref a :: S) μ cs sl K := by
  intro p e s m args below meth c ls H locs hC hL hP hS
  have hn : n < 2 ^ 31 := by have := hP.2.2.2.1 a; rw [hq] at this; exact this
  subst hi
  have hK := hC.2.2.2.2.2.2.2.2.2.1
  have hin := vp_in_nI hj hn
  refine W.aald (v := .ref r) hC.1 hC.2.1 (at_ref hP hq (by decide) (by decide) 0 _ rfl) ((hK.2 6 _ rfl).1 n (fun j => va_rf (rv μ a j))) rfl (fun q => by cases q) (by show ¬ (nI j < 0 ∨ (arrV _ _ _).slots.size ≤ _); rw [arrV_size]; exact hin) (by show (arrV _ _ _).slots[_]? = _; rw [nI_clamp (by omega), arrV_read _ _ hj, hv]; rfl) rfl rfl hd (h p e s m args below meth c ls H locs hC hL hP hS)
end GM
end
section
/-- the room of a method that makes nothing: so many frames below it -/
abbrev Rm (d : Nat) : Room := { frames := d, cells := 0, slots := 0, locals := 64 * d }
def okV (M' : Md) : Prop := Cond.code M'.1 M'.2.1 M'.2.2.1 M'.2.2.2 ∈ TB ∧ Cond.instanceMethod M'.1 ∈ TB ∧ Cond.selects M'.1.cls M'.1 M'.1 ∈ TB ∧ Cond.initialized M'.1.cls ∈ TB ∧ (M'.1.cls ≠ "java/lang/invoke/MethodHandle" ∧ M'.1.cls ≠ "java/lang/invoke/VarHandle")
def okS (M' : Md) : Prop := Cond.code M'.1 M'.2.1 M'.2.2.1 M'.2.2.2 ∈ TB ∧ Cond.static M'.1 ∈ TB ∧ Cond.initialized M'.1.cls ∈ TB ∧ (M'.1.cls ≠ "java/lang/invoke/MethodHandle" ∧ M'.1.cls ≠ "java/lang/invoke/VarHandle")
def okI (M' : Md) : Prop := Cond.code M'.1 M'.2.1 M'.2.2.1 none ∈ TB ∧ Cond.instanceMethod M'.1 ∈ TB ∧ Cond.initialized M'.1.cls ∈ TB ∧ (M'.1.cls ≠ "java/lang/invoke/MethodHandle" ∧ M'.1.cls ≠ "java/lang/invoke/VarHandle") ∧ M'.1.name = "<init>" ∧ M'.2.2.2 = none
theorem TBg {w : Cond} (h : w ∈ TB) : w ∈ TB ∧ ((w.onTables && w.keeps) = true ∨ ∃ ty, w = .arrayClass ty) := ⟨h, TB_good h⟩
theorem good_ws {M' : Md} (h : Cond.code M'.1 M'.2.1 M'.2.2.1 M'.2.2.2 ∈ TB) : GoodIn TB (wsOf M') := fun w hw => by
  rcases List.mem_cons.mp hw with rfl | hw
  · exact TBg h
  · exact TBg hw
/-- the callee's room is in the caller's -/
def ru (R R' : Room) (n cs sl : Nat) : Prop := R'.frames + 1 ≤ R.frames ∧ 8 + (n + 11) + R'.locals ≤ R.locals ∧ cs + R'.cells ≤ R.cells ∧ sl + R'.slots ≤ R.slots
theorem ru_Rm {d n : Nat} (h : n ≤ 45) : ru (Rm (d + 1)) (Rm d) n 0 0 := ⟨Nat.le_refl _, by show 8 + (n + 11) + 64 * d ≤ 64 * (d + 1); omega, Nat.le_refl _, Nat.le_refl _⟩
def rb (R : Room) (cs sl : Nat) : Prop := 1 ≤ R.frames ∧ 64 ≤ R.locals ∧ cs ≤ R.cells ∧ sl ≤ R.slots
theorem rb_Rm {d : Nat} : rb (Rm (d + 1)) 0 0 := ⟨by show 1 ≤ d + 1; omega, by show 64 ≤ 64 * (d + 1); omega, Nat.le_refl _, Nat.le_refl _⟩
section GC
variable {X : cX} {R : Room} {M : Md} {pc : Nat} {L : List (Nat × Value)} {S : List Value} {μ : mM} {cs sl : Nat} {K : Option Value → mM → Prop}
theorem G_stk {S' : List Value} (e : S = S') (h : G X R M pc L S' μ cs sl K) : G X R M pc L S μ cs sl K := e ▸ h
theorem G_iret {v : Int32} (hM : M.2.2.2 = some .int) (hc : cs = R.cells) (hs : sl = R.slots) (hd : decode M.2.1 pc = .ok (.ireturn, 1)) (hK : K (some (.int v)) μ) : G X R M pc L [.int v] μ cs sl K := by
  subst hc
  subst hs
  intro p e s m args below meth c ls H locs hC hL hP hS
  exact W.iret hC.1 hC.2.1 (hC.2.2.1.trans hM) (fun t ht hW => ⟨_, μ, rfl, hK, by rw [ht]; exact hP, hS.F ht⟩) hS.2.2 hd (hlocks := hC.2.2.2.1)
theorem G_zret {v : Int32} {ty : FieldType} (hM : M.2.2.2 = some ty) (hn : narrow ty (.int v) = .int v) (hc : cs = R.cells) (hs : sl = R.slots) (hd : decode M.2.1 pc = .ok (.ireturn, 1)) (hK : K (some (.int v)) μ) : G X R M pc L [.int v] μ cs sl K := by
  subst hc
  subst hs
  intro p e s m args below meth c ls H locs hC hL hP hS
  exact W.zret hC.1 hC.2.1 (hC.2.2.1.trans hM) hn (fun t ht hW => ⟨_, μ, rfl, hK, by rw [ht]; exact hP, hS.F ht⟩) hS.2.2 hd (hlocks := hC.2.2.2.1)
theorem G_vret (hM : M.2.2.2 = none) (hc : cs = R.cells) (hs : sl = R.slots) (hd : decode M.2.1 pc = .ok (.return_, 1)) (hK : K none μ) : G X R M pc L [] μ cs sl K := by
  subst hc
  subst hs
  intro p e s m args below meth c ls H locs hC hL hP hS
  exact W.vret hC.1 hC.2.1 (hC.2.2.1.trans hM) (fun t ht hW => ⟨_, μ, rfl, hK, by rw [ht]; exact hP, hS.F ht⟩) hS.2.2 hd (hlocks := hC.2.2.2.1)
theorem run_back {p : Program} {e : Env} {s : State} {m : MethodId} {args : Array Value} {below : List Frame} {meth : Method} {c : Code} {ls : Array Slot} {H : Heap} {locs : List Loc} {st0 : List Value} {mc ms : Nat} {a : Array Value}
    (hr : va_Run p X.1 e R s m args below meth c H locs cs sl mc ms (F0 m pc ls st0) S (Pst X (fun r μ' => G X R M (pc + 3) L (r.toList ++ S) μ' (cs + mc) (sl + ms) K) a) (fA X)) (hC : Cx X M p s m args meth c) (hL : lv_has ls M.2.2.1 L) (hS : va_S (fA X) s.heap H locs) :
    W p X.1 e R s m args below meth c H locs cs sl (MQ below (Pst X K) args s R.cells R.slots (fA X)) (F0 m pc ls st0) := by
  intro T hT X0
  obtain ⟨v, st₀, t, T', L', h0, X', hL', e1, e2, ⟨r, μ', hv, hK', hP', hz, hk⟩, st⟩ := hr T hT X0
  cases hv
  rw [h0] at hz hk
  obtain ⟨t2, a1, b1⟩ := hK' p e s m args below meth c ls T'.heap (locs ++ L') hC hL (by rw [e1]; exact hP')
    ⟨Nat.le_trans hS.1 (by rw [e1]; exact hz), fun q h1 h2 => by rw [e1, hk q (Nat.lt_of_lt_of_le h1 hS.1) h2]; exact hS.2.1 q h1 h2, fun q hq => by
      rcases List.mem_append.mp hq with h | h
      · exact hS.2.2 q h
      · exact hL' q h⟩ T' rfl X'
  exact ⟨t2, st t2 a1, b1⟩
theorem blind {as : List Value} : FrameBlind (va_Pc as (fun U => Rp X μ U.heap ∧ En X U)) := fun a U g mk q => ⟨q.1, q.2.1, En_blind (U := U) (V := U.calling g mk a) rfl rfl q.2.2⟩
theorem G_callV {index : Nat} {M' : Md} {R' : Room} {b : Nat} (As : List Value) (ci : Nat) (hq : kd μ b = (0, ci)) (hci : cOK ci) (hcn : (cT ci).1 = M'.1.cls) (ho : okV M') (hl : Cond.methodLink M.1.cls index M'.1 ∈ TB) (hn : (parseMethodDescriptor M'.1.desc).map (fun d => d.parameters.length) = some As.length) (hR : ru R R' M'.2.2.1 cs sl) (hSt : (S.map fun v => v.category).sum ≤ 8) (hd : decode M.2.1 pc = .ok (.invokevirtual index, 3))
    (h : Ct X R' M' (.ref b :: As) μ (fun r μ' => G X R M (pc + 3) L (r.toList ++ S) μ' (cs + R'.cells) (sl + R'.slots) K)) : G X R M pc L (As.reverse ++ .ref b :: S) μ cs sl K := by
  intro p e s m args below meth c ls H locs hC hL hP hS
  have hts := hC.2.2.2.2.2.2.2.1
  have hE := hC.2.2.2.2.2.2.2.2
  have hG : GoodIn TB (wsV M.1.cls index M'.1.cls M'.1 (wsOf M')) := fun w hw => by
    simp only [wsV, List.cons_append, List.nil_append, List.mem_cons] at hw
    rcases hw with rfl | rfl | rfl | rfl | hw
    · exact TBg hl
    · exact TBg ho.2.1
    · exact TBg ho.2.2.1
    · exact TBg ho.2.2.2.1
    · exact good_ws ho.1 w hw
  have cw := cwV (R := R) (rm := R') (ret := M'.2.2.2) (bytes := M'.2.1) (maxL := M'.2.2.1) As.length hts hG rfl rfl rfl ⟨rfl, ho.2.2.2.2.1, ho.2.2.2.2.2, hn⟩ ⟨hR.1, hR.2.1⟩
  have hrun := va_runV (As := As) (rest := S) (b := b) (nL := M.2.2.1) (g := F0 m pc ls (As.reverse ++ .ref b :: S)) (e := e) (below := below) (meth := meth) (H := H) (locs := locs) (cells := cs) (slots := sl) ⟨hC.1, hC.2.1, hC.2.2.2.2.1, hC.2.2.2.2.2.1, hts⟩ h cw ⟨blind, (by rw [← hcn]; exact va_recv hE.2.1 (at_obj hP hq) hci.1 (q0 := 0) rfl), fun U hU hW => ⟨rfl, by rw [hU]; exact hP, En_step hE hS hU hW⟩⟩ rfl rfl hL.1 rfl (lv_room hSt) hd ⟨hR.2.2.1, hR.2.2.2⟩
  exact run_back hrun hC hL hS
theorem G_callS {index : Nat} {M' : Md} {R' : Room} (As : List Value) (ho : okS M') (hl : Cond.methodLink M.1.cls index M'.1 ∈ TB) (hn : (parseMethodDescriptor M'.1.desc).map (fun d => d.parameters.length) = some As.length) (hR : ru R R' M'.2.2.1 cs sl) (hSt : (S.map fun v => v.category).sum ≤ 8) (hd : decode M.2.1 pc = .ok (.invokestatic index, 3))
    (h : Ct X R' M' As μ (fun r μ' => G X R M (pc + 3) L (r.toList ++ S) μ' (cs + R'.cells) (sl + R'.slots) K)) : G X R M pc L (As.reverse ++ S) μ cs sl K := by
  intro p e s m args below meth c ls H locs hC hL hP hS
  have hts := hC.2.2.2.2.2.2.2.1
  have hE := hC.2.2.2.2.2.2.2.2
  have hG : GoodIn TB (va_wsS M.1.cls index M'.1 (wsOf M')) := fun w hw => by
    simp only [va_wsS, List.cons_append, List.nil_append, List.mem_cons] at hw
    rcases hw with rfl | rfl | rfl | hw
    · exact TBg hl
    · exact TBg ho.2.1
    · exact TBg ho.2.2.1
    · exact good_ws ho.1 w hw
  have cw := va_cwS (R := R) (rm := R') (ret := M'.2.2.2) (bytes := M'.2.1) (maxL := M'.2.2.1) As.length hts hG rfl rfl rfl ⟨ho.2.2.2.1, ho.2.2.2.2, hn⟩ ⟨hR.1, hR.2.1⟩
  have hrun := va_runS (As := As) (rest := S) (nL := M.2.2.1) (g := F0 m pc ls (As.reverse ++ S)) (e := e) (below := below) (meth := meth) (H := H) (locs := locs) (cells := cs) (slots := sl) ⟨hC.1, hC.2.1, hC.2.2.2.2.1, hC.2.2.2.2.2.1, hts⟩ h cw ⟨blind, fun U hU hW => ⟨rfl, by rw [hU]; exact hP, En_step hE hS hU hW⟩⟩ rfl rfl hL.1 rfl (lv_room hSt) hd ⟨hR.2.2.1, hR.2.2.2⟩
  exact run_back hrun hC hL hS
theorem G_callSN {index : Nat} {host : String} {M' : Md} {R' : Room} (As : List Value) (ho : okS M') (hl : Cond.methodLinkNest M.1.cls index M'.1 host ∈ nestW) (hn : (parseMethodDescriptor M'.1.desc).map (fun d => d.parameters.length) = some As.length) (hR : ru R R' M'.2.2.1 cs sl) (hSt : (S.map fun v => v.category).sum ≤ 8) (hd : decode M.2.1 pc = .ok (.invokestatic index, 3))
    (h : Ct X R' M' As μ (fun r μ' => G X R M (pc + 3) L (r.toList ++ S) μ' (cs + R'.cells) (sl + R'.slots) K)) : G X R M pc L (As.reverse ++ S) μ cs sl K := by
  intro p e s m args below meth c ls H locs hC hL hP hS
  have hts := hC.2.2.2.2.2.2.2.1
  have hE := hC.2.2.2.2.2.2.2.2
  have cw := va_cnB (R := R) (rm := R') (ret := M'.2.2.2) (bytes := M'.2.1) (maxL := M'.2.2.1) As.length hts (good_ws ho.1) rfl rfl rfl (hE.2.2.1 _ hl) (hts _ ho.2.2.1) ⟨ho.2.2.2.1, ho.2.2.2.2, hn⟩ ⟨hR.1, hR.2.1⟩
  have hrun := va_runSN (As := As) (rest := S) (nL := M.2.2.1) (g := F0 m pc ls (As.reverse ++ S)) (e := e) (below := below) (meth := meth) (H := H) (locs := locs) (cells := cs) (slots := sl) ⟨hC.1, hC.2.1, hC.2.2.2.2.1, hC.2.2.2.2.2.1, hts⟩ h ⟨cw, hts _ ho.2.1, trivial⟩ ⟨blind, fun U hU hW => ⟨rfl, by rw [hU]; exact hP, En_step hE hS hU hW⟩⟩ rfl rfl hL.1 rfl (lv_room hSt) hd ⟨hR.2.2.1, hR.2.2.2⟩
  exact run_back hrun hC hL hS
theorem G_callI {index : Nat} {M' : Md} {R' : Room} {b : Nat} (As : List Value) (ho : okI M') (hl : Cond.methodLink M.1.cls index M'.1 ∈ TB) (hn : (parseMethodDescriptor M'.1.desc).map (fun d => d.parameters.length) = some As.length) (hR : ru R R' M'.2.2.1 cs sl) (hSt : (S.map fun v => v.category).sum ≤ 8) (hd : decode M.2.1 pc = .ok (.invokespecial index, 3))
    (h : Ct X R' M' (.ref b :: As) μ (fun r μ' => G X R M (pc + 3) L (r.toList ++ S) μ' (cs + R'.cells) (sl + R'.slots) K)) : G X R M pc L (As.reverse ++ .ref b :: S) μ cs sl K := by
  intro p e s m args below meth c ls H locs hC hL hP hS
  have hts := hC.2.2.2.2.2.2.2.1
  have hE := hC.2.2.2.2.2.2.2.2
  have hcd : Cond.code M'.1 M'.2.1 M'.2.2.1 M'.2.2.2 ∈ TB := by rw [ho.2.2.2.2.2]; exact ho.1
  have cw := cwI (R := R) (rm := R') (bytes := M'.2.1) (maxL := M'.2.2.1) As.length hts (good_ws hcd) (by unfold wsOf; rw [ho.2.2.2.2.2]) rfl rfl (hts _ ho.2.2.1) (hts _ hl) (hts _ ho.2.1) ho.2.2.2.2.1 ⟨ho.2.2.2.1.1, ho.2.2.2.1.2, hn⟩ ⟨hR.1, hR.2.1⟩
  have hrun := va_runI (As := As) (rest := S) (b := b) (nL := M.2.2.1) (g := F0 m pc ls (As.reverse ++ .ref b :: S)) (e := e) (below := below) (meth := meth) (H := H) (locs := locs) (cells := cs) (slots := sl) ⟨hC.1, hC.2.1, hC.2.2.2.2.1, hC.2.2.2.2.2.1, hts⟩ h cw ⟨blind, fun U hU hW => ⟨rfl, by rw [hU]; exact hP, En_step hE hS hU hW⟩⟩ rfl rfl hL.1 rfl (lv_room hSt) hd ⟨hR.2.2.1, hR.2.2.2⟩
  exact run_back hrun hC hL hS
theorem G_callIN {index : Nat} {host : String} {M' : Md} {R' : Room} {b : Nat} (As : List Value) (ho : okI M') (hl : Cond.methodLinkNest M.1.cls index M'.1 host ∈ nestW) (hn : (parseMethodDescriptor M'.1.desc).map (fun d => d.parameters.length) = some As.length) (hR : ru R R' M'.2.2.1 cs sl) (hSt : (S.map fun v => v.category).sum ≤ 8) (hd : decode M.2.1 pc = .ok (.invokespecial index, 3))
    (h : Ct X R' M' (.ref b :: As) μ (fun r μ' => G X R M (pc + 3) L (r.toList ++ S) μ' (cs + R'.cells) (sl + R'.slots) K)) : G X R M pc L (As.reverse ++ .ref b :: S) μ cs sl K := by
  intro p e s m args below meth c ls H locs hC hL hP hS
  have hts := hC.2.2.2.2.2.2.2.1
  have hE := hC.2.2.2.2.2.2.2.2
  have hcd : Cond.code M'.1 M'.2.1 M'.2.2.1 M'.2.2.2 ∈ TB := by rw [ho.2.2.2.2.2]; exact ho.1
  have cw := va_cnB (R := R) (rm := R') (ret := none) (bytes := M'.2.1) (maxL := M'.2.2.1) As.length hts (good_ws hcd) (by unfold wsOf; rw [ho.2.2.2.2.2]) rfl rfl (hE.2.2.1 _ hl) (hts _ ho.2.2.1) ⟨ho.2.2.2.1.1, ho.2.2.2.1.2, hn⟩ ⟨hR.1, hR.2.1⟩
  have hrun := va_runIN (As := As) (rest := S) (b := b) (nL := M.2.2.1) (g := F0 m pc ls (As.reverse ++ .ref b :: S)) (e := e) (below := below) (meth := meth) (H := H) (locs := locs) (cells := cs) (slots := sl) ⟨hC.1, hC.2.1, hC.2.2.2.2.1, hC.2.2.2.2.2.1, hts⟩ h ⟨cw, ho.2.2.2.2.1, hts _ ho.2.1⟩ ⟨blind, fun U hU hW => ⟨rfl, by rw [hU]; exact hP, En_step hE hS hU hW⟩⟩ rfl rfl hL.1 rfl (lv_room hSt) hd ⟨hR.2.2.1, hR.2.2.2⟩
  exact run_back hrun hC hL hS

def mxW : List Cond := [.static Lib.Math.max.name, .initialized "java/lang/Math", .code Lib.Math.max.name Lib.Math.max.code 2 (some .int), .static Lib.Math.min.name, .code Lib.Math.min.name Lib.Math.min.code 2 (some .int), .native arraycopyName, .static arraycopyName, .initialized "java/lang/System", .instanceMethod Lib.objectInit, .code Lib.objectInit ⟨#[0xb1]⟩ 1 none]
set_option maxRecDepth 100000 in
theorem mxW_in : ∀ w ∈ mxW, w ∈ TB := TB_all (by decide +kernel)
theorem G_max {index : Nat} {x y : Int32} (hl : Cond.methodLink M.1.cls index Lib.Math.max.name ∈ TB) (hR : rb R cs sl) (hSt : (S.map fun v => v.category).sum ≤ 8) (hd : decode M.2.1 pc = .ok (.invokestatic index, 3)) (h : G X R M (pc + 3) L (.int (if x < y then y else x) :: S) μ cs sl K) : G X R M pc L (.int y :: .int x :: S) μ cs sl K := by
  intro p e s m args below meth c ls H locs hC hL hP hS
  have hts := hC.2.2.2.2.2.2.2.1
  exact va_mmax hC.1 hC.2.1 (hC.2.2.2.2.1.trans hL.1.symm) hC.2.2.2.2.2.1 (hts _ hl) (hts _ (mxW_in _ (List.mem_of_getElem? (i := 0) rfl))) (hts _ (mxW_in _ (List.mem_of_getElem? (i := 1) rfl))) (hts _ (mxW_in _ (List.mem_of_getElem? (i := 2) rfl))) hR.1 (by have := hR.2.1; omega) hR.2.2.1 hR.2.2.2 hd (h p e s m args below meth c ls H locs hC hL hP hS)
theorem G_min {index : Nat} {x y : Int32} (hl : Cond.methodLink M.1.cls index Lib.Math.min.name ∈ TB) (hR : rb R cs sl) (hSt : (S.map fun v => v.category).sum ≤ 8) (hd : decode M.2.1 pc = .ok (.invokestatic index, 3)) (h : G X R M (pc + 3) L (.int (if y < x then y else x) :: S) μ cs sl K) : G X R M pc L (.int y :: .int x :: S) μ cs sl K := by
  intro p e s m args below meth c ls H locs hC hL hP hS
  have hts := hC.2.2.2.2.2.2.2.1
  exact va_mmin hC.1 hC.2.1 (hC.2.2.2.2.1.trans hL.1.symm) hC.2.2.2.2.2.1 (hts _ hl) (hts _ (mxW_in _ (List.mem_of_getElem? (i := 3) rfl))) (hts _ (mxW_in _ (List.mem_of_getElem? (i := 1) rfl))) (hts _ (mxW_in _ (List.mem_of_getElem? (i := 4) rfl))) hR.1 (by have := hR.2.1; omega) hR.2.2.1 hR.2.2.2 hd (h p e s m args below meth c ls H locs hC hL hP hS)
theorem G_objInit {index a : Nat} (hl : Cond.methodLink M.1.cls index Lib.objectInit ∈ TB) (hR : rb R cs sl) (hSt : (S.map fun v => v.category).sum ≤ 8) (hd : decode M.2.1 pc = .ok (.invokespecial index, 3)) (h : G X R M (pc + 3) L S μ cs sl K) : G X R M pc L (.ref a :: S) μ cs sl K := by
  intro p e s m args below meth c ls H locs hC hL hP hS
  have hts := hC.2.2.2.2.2.2.2.1
  refine W.objInit hC.1 hC.2.1 hC.2.2.2.2.2.1 (hts _ hl) (hts _ (mxW_in _ (List.mem_of_getElem? (i := 8) rfl))) (hts _ (mxW_in _ (List.mem_of_getElem? (i := 9) rfl))) rfl (hL.1.trans hC.2.2.2.2.1.symm) rfl hd hR.1 ?_ (h p e s m args below meth c ls H locs hC hL hP hS)
  have h1 := lv_room (m := m) (pc := pc) (ls := ls) (rest := .ref a :: S) hSt
  have := hR.2.1
  omega
theorem G_alen {a t n : Nat} (hq : kd μ a = (t, n)) (h0 : t ≠ 0) (h8 : t < 8) (hd : decode M.2.1 pc = .ok (.arraylength, 1)) (h : G X R M (pc + 1) L (.int (nI n) :: S) μ cs sl K) : G X R M pc L (.ref a :: S) μ cs sl K := by
  intro p e s m args below meth c ls H locs hC hL hP hS
  have hK := hC.2.2.2.2.2.2.2.2.2.1
  have ht : ∃ ty, (tysOf X.2.2.2.1)[t - 1]? = some (X.2.2.2.1 (t - 1), ty) := by
    rcases (by omega : t = 1 ∨ t = 2 ∨ t = 3 ∨ t = 4 ∨ t = 5 ∨ t = 6 ∨ t = 7) with rfl | rfl | rfl | rfl | rfl | rfl | rfl <;> exact ⟨_, rfl⟩
  obtain ⟨ty, ht⟩ := ht
  by_cases h4 : t < 4
  · exact va_alen (v := nI n) hC.1 hC.2.1 hK (at_arr hP hq h0 h4) 0 (t - 1) rfl ht rfl hd (h p e s m args below meth c ls H locs hC hL hP hS)
  · exact va_alen (v := nI n) hC.1 hC.2.1 hK (at_ref hP hq h4 (by omega)) 0 (t - 1) rfl ht rfl hd (h p e s m args below meth c ls H locs hC hL hP hS)
/-- n ints of a0 from sp on come to a from dp on -/
def cpI (μ : mM) (a0 sp a dp n : Nat) : mM := (μ.1, fun x j => if x = a ∧ dp ≤ j ∧ j < dp + n then μ.2.1 a0 (sp + (j - dp)) else μ.2.1 x j, μ.2.2)
theorem kd_cpI (μ : mM) (a0 sp a dp n x : Nat) : kd (cpI μ a0 sp a dp n) x = kd μ x := rfl
theorem rv_cpI (μ : mM) (a0 sp a dp n x j : Nat) : rv (cpI μ a0 sp a dp n) x j = rv μ x j := rfl
theorem sz_cpI (μ : mM) (a0 sp a dp n : Nat) : sz (cpI μ a0 sp a dp n) = sz μ := rfl
theorem iv_cpI (μ : mM) (a0 sp a dp n x j : Nat) : iv (cpI μ a0 sp a dp n) x j = if x = a ∧ dp ≤ j ∧ j < dp + n then iv μ a0 (sp + (j - dp)) else iv μ x j := rfl
theorem toE_cpI_ne {cA : Nat → ClassId} {μ : mM} {a0 sp a dp n : Nat} {x : Nat} (h : x ≠ a) : toE cA (cpI μ a0 sp a dp n) x = toE cA μ x := by
  have e : iv (cpI μ a0 sp a dp n) x = iv μ x := funext fun j => by rw [iv_cpI, if_neg (fun q => h q.1)]
  have e2 : rv (cpI μ a0 sp a dp n) x = rv μ x := rfl
  have e3 : ∀ c, flds (cpI μ a0 sp a dp n) x c = flds μ x c := fun c => by unfold flds; apply List.map_congr_left; intro j _; unfold fvl; rw [e, e2]
  unfold toE
  rw [kd_cpI, e, e2, e3]
theorem G_copy {index a0 a n0 n1 sp dp n : Nat} {isp idp iN : Int32} (hq0 : kd μ a0 = (1, n0)) (hq1 : kd μ a = (1, n1)) (hsp : isp = nI sp) (hdp : idp = nI dp) (hn : iN = nI n) (h4 : sp + n ≤ n0) (h5 : dp + n ≤ n1) (hl : Cond.methodLink M.1.cls index arraycopyName ∈ TB) (hR : rb R cs sl) (hSt : (S.map fun v => v.category).sum ≤ 8) (hd : decode M.2.1 pc = .ok (.invokestatic index, 3)) (h : G X R M (pc + 3) L S (cpI μ a0 sp a dp n) cs sl K) : G X R M pc L (.int iN :: .int idp :: .ref a :: .int isp :: .ref a0 :: S) μ cs sl K := by
  intro p e s m args below meth c ls H locs hC hL hP hS
  have hts := hC.2.2.2.2.2.2.2.1
  have hK := hC.2.2.2.2.2.2.2.2.2.1
  have hm0 : n0 < 2 ^ 31 := by have := hP.2.2.2.1 a0; rw [hq0] at this; exact this
  have hm1 : n1 < 2 ^ 31 := by have := hP.2.2.2.1 a; rw [hq1] at this; exact this
  subst hsp; subst hdp; subst hn
  intro T hT X0
  have hc0 : H[a0]? = some (vp_cell (X.2.2.2.1 0) (n0, .inl (iv μ a0))) := at_arr hP hq0 (by decide) (by decide) 0 _ rfl
  have hc1 : H[a]? = some (vp_cell (X.2.2.2.1 0) (n1, .inl (iv μ a))) := at_arr hP hq1 (by decide) (by decide) 0 _ rfl
  obtain ⟨-, k0, hk0, cm0, hkk0⟩ := (hK.2 0 _ rfl).1 n0 (fun j => .int (iv μ a0 j))
  obtain ⟨-, k1, hk1, cm1, hkk1⟩ := (hK.2 0 _ rfl).1 n1 (fun j => .int (iv μ a j))
  have csp : (nI sp).toNatClampNeg = sp := nI_clamp (by omega)
  have cdp : (nI dp).toNatClampNeg = dp := nI_clamp (by omega)
  have cn : (nI n).toNatClampNeg = n := nI_clamp (by omega)
  have tsp : (nI sp).toInt = sp := nI_toInt (by omega)
  have tdp : (nI dp).toInt = dp := nI_toInt (by omega)
  have tn : (nI n).toInt = n := nI_toInt (by omega)
  have hro : (nativeFrameWords "java/lang/System" "arraycopy" 5 + 11) ≤ 40 := by decide +kernel
  obtain ⟨vm', X', step⟩ := X0.arraycopy hC.1 hC.2.2.2.2.2.1 (hts _ hl) (hts _ (mxW_in _ (List.mem_of_getElem? (i := 5) rfl))) (hts _ (mxW_in _ (List.mem_of_getElem? (i := 6) rfl))) (hts _ (mxW_in _ (List.mem_of_getElem? (i := 7) rfl))) (src := a0) (dst := a) (cs := vp_cell (X.2.2.2.1 0) (n0, .inl (iv μ a0))) (cd := vp_cell (X.2.2.2.1 0) (n1, .inl (iv μ a))) (srcPos := nI sp) (destPos := nI dp) (n := nI n) (by rw [hT]; exact hc0) (by rw [hT]; exact hc1)
    (fun _ h => by cases h) (fun _ h => by cases h) (fun h => by cases h) (fun h => by cases h) hk0 hk1 hkk0 hkk1 (by simp [refKind]) (nI_pos (by omega)) (nI_pos (by omega)) (nI_pos (by omega))
    (by rw [tsp, tn]; show ¬ _ > ((arrV (X.2.2.2.1 0) n0 (fun j => .int (iv μ a0 j))).slots.size : Int); rw [arrV_size]; omega)
    (by rw [tdp, tn]; show ¬ _ > ((arrV (X.2.2.2.1 0) n1 (fun j => .int (iv μ a j))).slots.size : Int); rw [arrV_size]; omega)
    (fun vm₁ _ i hi => by
      have e : (vp_cell (X.2.2.2.1 0) (n0, .inl (iv μ a0))).slots.getD ((nI sp).toNatClampNeg + i) .null = .int (iv μ a0 (sp + i)) := by
        show (arrV (X.2.2.2.1 0) n0 (fun j => .int (iv μ a0 j))).slots.getD _ _ = _
        rw [cn] at hi
        rw [csp, Array.getD_eq_getD_getElem?, arrV_read _ _ (by omega)]
        rfl
      refine ⟨?_, ?_⟩
      · rw [e]; rfl
      · rw [e]; exact trivial)
    (g := F0 m pc ls (.int (nI n) :: .int (nI dp) :: .ref a :: .int (nI sp) :: .ref a0 :: S)) rfl (by rw [hC.2.2.2.2.1]; exact hL.1) (rest := S) rfl (by rw [hC.2.1]; exact hd) hR.1 (by have := hR.2.1; show 2 * 0 + _ + _ ≤ _; omega)
  have e1 : copied (vp_cell (X.2.2.2.1 0) (n0, .inl (iv μ a0))) (vp_cell (X.2.2.2.1 0) (n1, .inl (iv μ a))) (nI sp) (nI dp) (nI n) = vp_cell (X.2.2.2.1 0) (n1, .inl (va_cpy (iv μ a0) (iv μ a) (nI sp).toNatClampNeg (nI dp).toNatClampNeg (nI n).toNatClampNeg)) := va_copied (fun z => .int z) (X.2.2.2.1 0) (X.2.2.2.1 0) (iv μ a0) (iv μ a) (by rw [csp, cn]; exact h4)
  rw [e1] at X' step
  rw [csp, cdp, cn] at X' step
  have hla : a < H.size := (Array.getElem?_eq_some_iff.mp hc1).1
  generalize hnc : vp_cell (X.2.2.2.1 0) (n1, .inl (va_cpy (iv μ a0) (iv μ a) sp dp n)) = nc at X' step
  have hheap : ((T.setVm vm').setCell a nc).heap = H.setIfInBounds a nc := by rw [← hT]; rfl
  have oq : ∀ q : Nat, q ≠ a → (H.setIfInBounds a nc)[q]? = H[q]? := fun q hq => by simp [Array.getElem?_setIfInBounds, Ne.symm hq]
  have hs1 : (H.setIfInBounds a nc).size = H.size := by simp
  have hin9 : inX X μ a := lw_in hP (by rw [hq1]; exact (by decide : (1 : Nat) ≠ 9))
  have hR1 : Rp X (cpI μ a0 sp a dp n) (H.setIfInBounds a nc) := by
    refine Rp_set hP (fun _ => rfl) rfl hs1 oq (fun _ hx => toE_cpI_ne hx) ?_
    rw [toE_arr (μ := cpI μ a0 sp a dp n) hq1 (by decide) (by decide)]
    show (H.setIfInBounds a nc)[a]? = some (vp_cell _ _)
    rw [Array.getElem?_setIfInBounds, if_pos rfl, if_pos hla, ← hnc]
    have e9 : iv (cpI μ a0 sp a dp n) a = va_cpy (iv μ a0) (iv μ a) sp dp n := funext fun j => by
      rw [iv_cpI]
      unfold va_cpy
      by_cases hj : dp ≤ j ∧ j < dp + n
      · rw [if_pos ⟨rfl, hj⟩, if_pos hj]
      · rw [if_neg (fun q => hj q.2), if_neg hj]
    rw [e9]
  obtain ⟨t, a1, b1⟩ := h p e s m args below meth c ls _ _ hC hL hR1 ⟨by rw [hs1]; exact hS.1, fun q g1 g2 => by
      rw [oq q (fun e => g2 (by rw [e]; exact hin9.1))]
      exact hS.2.1 q g1 g2, fun q hq => by
      rcases List.mem_append.mp hq with h | h
      · exact hS.2.2 q h
      · obtain ⟨z, -, hz⟩ := List.mem_map.mp h
        rw [← hz]
        exact hin9.1⟩ _ hheap X'
  exact ⟨t, step t a1, b1⟩
end GC
end
section
theorem TB_p {w : Cond} (i : Nat) (h : (k2_sels lw_privs)[i]? = some w) (hg : goodWord w = true) : w ∈ TB := TB_mem (List.mem_append_left _ (List.mem_of_getElem? h)) hg
theorem TB_t1 {w : Cond} (i : Nat) (h : tables_1_1[i]? = some w) (hg : goodWord w = true) : w ∈ TB := TB_mem (List.mem_append_right _ (List.mem_append_left _ (List.mem_of_getElem? h))) hg
theorem TB_t2 {w : Cond} (i : Nat) (h : tables_1_2[i]? = some w) (hg : goodWord w = true) : w ∈ TB := TB_mem (List.mem_append_right _ (List.mem_append_right _ (List.mem_append_left _ (List.mem_of_getElem? h)))) hg
theorem TB_t3 {w : Cond} (i : Nat) (h : tables_1_3[i]? = some w) (hg : goodWord w = true) : w ∈ TB := TB_mem (List.mem_append_right _ (List.mem_append_right _ (List.mem_append_right _ (List.mem_append_left _ (List.mem_of_getElem? h))))) hg
theorem TB_t4 {w : Cond} (i : Nat) (h : tables_1_4[i]? = some w) (hg : goodWord w = true) : w ∈ TB := TB_mem (List.mem_append_right _ (List.mem_append_right _ (List.mem_append_right _ (List.mem_append_right _ (List.mem_append_left _ (List.mem_of_getElem? h)))))) hg
theorem TB_t5 {w : Cond} (i : Nat) (h : tables_1_5[i]? = some w) (hg : goodWord w = true) : w ∈ TB := TB_mem (List.mem_append_right _ (List.mem_append_right _ (List.mem_append_right _ (List.mem_append_right _ (List.mem_append_right _ (List.mem_append_left _ (List.mem_of_getElem? h))))))) hg
theorem TB_t6 {w : Cond} (i : Nat) (h : tables_1_6[i]? = some w) (hg : goodWord w = true) : w ∈ TB := TB_mem (List.mem_append_right _ (List.mem_append_right _ (List.mem_append_right _ (List.mem_append_right _ (List.mem_append_right _ (List.mem_append_right _ (List.mem_of_getElem? h))))))) hg
set_option maxRecDepth 100000 in
theorem fl_X9_9 : flW RX9 9 9 0 ∈ TB := TB_t1 35 rfl (by decide +kernel)
set_option maxRecDepth 100000 in
theorem fl_X9_15 : flW RX9 15 9 1 ∈ TB := TB_t1 36 rfl (by decide +kernel)
set_option maxRecDepth 100000 in
theorem fl_X11_91 : flW RX11 91 9 1 ∈ TB := TB_t1 37 rfl (by decide +kernel)
set_option maxRecDepth 100000 in
theorem fl_X4_39 : flW RX4 39 9 2 ∈ TB := TB_t1 38 rfl (by decide +kernel)
set_option maxRecDepth 100000 in
theorem fl_X9_28 : flW RX9 28 9 2 ∈ TB := TB_t1 39 rfl (by decide +kernel)
set_option maxRecDepth 100000 in
theorem fl_X4_59 : flW RX4 59 9 3 ∈ TB := TB_t1 40 rfl (by decide +kernel)
set_option maxRecDepth 100000 in
theorem fl_X9_25 : flW RX9 25 9 3 ∈ TB := TB_t1 41 rfl (by decide +kernel)
set_option maxRecDepth 100000 in
theorem fl_X9_19 : flW RX9 19 9 4 ∈ TB := TB_t1 42 rfl (by decide +kernel)
set_option maxRecDepth 100000 in
theorem fl_X5_29 : flW RX5 29 5 0 ∈ TB := TB_t1 75 rfl (by decide +kernel)
set_option maxRecDepth 100000 in
theorem fl_X0_24 : flW RX0 24 5 0 ∈ TB := TB_t1 76 rfl (by decide +kernel)
set_option maxRecDepth 100000 in
theorem fl_X2_28 : flW RX2 28 5 0 ∈ TB := TB_t1 77 rfl (by decide +kernel)
set_option maxRecDepth 100000 in
theorem fl_X4_50 : flW RX4 50 5 0 ∈ TB := TB_t1 78 rfl (by decide +kernel)
set_option maxRecDepth 100000 in
theorem fl_X1_59 : flW RX1 59 5 0 ∈ TB := TB_t1 79 rfl (by decide +kernel)
set_option maxRecDepth 100000 in
theorem fl_X6_36 : flW RX6 36 5 0 ∈ TB := TB_t1 80 rfl (by decide +kernel)
set_option maxRecDepth 100000 in
theorem fl_X8_54 : flW RX8 54 5 0 ∈ TB := TB_t1 81 rfl (by decide +kernel)
set_option maxRecDepth 100000 in
theorem fl_X11_117 : flW RX11 117 5 0 ∈ TB := TB_t1 82 rfl (by decide +kernel)
set_option maxRecDepth 100000 in
theorem fl_X3_69 : flW RX3 69 5 0 ∈ TB := TB_t1 83 rfl (by decide +kernel)
set_option maxRecDepth 100000 in
theorem fl_X5_9 : flW RX5 9 5 1 ∈ TB := TB_t1 84 rfl (by decide +kernel)
set_option maxRecDepth 100000 in
theorem fl_X2_54 : flW RX2 54 5 1 ∈ TB := TB_t1 85 rfl (by decide +kernel)
set_option maxRecDepth 100000 in
theorem fl_X8_50 : flW RX8 50 5 1 ∈ TB := TB_t1 86 rfl (by decide +kernel)
set_option maxRecDepth 100000 in
theorem fl_X0_37 : flW RX0 37 5 1 ∈ TB := TB_t1 87 rfl (by decide +kernel)
set_option maxRecDepth 100000 in
theorem fl_X6_54 : flW RX6 54 5 1 ∈ TB := TB_t1 88 rfl (by decide +kernel)
set_option maxRecDepth 100000 in
theorem fl_X11_142 : flW RX11 142 5 1 ∈ TB := TB_t1 89 rfl (by decide +kernel)
set_option maxRecDepth 100000 in
theorem fl_X3_94 : flW RX3 94 5 1 ∈ TB := TB_t1 90 rfl (by decide +kernel)
set_option maxRecDepth 100000 in
theorem fl_X5_17 : flW RX5 17 5 2 ∈ TB := TB_t1 91 rfl (by decide +kernel)
set_option maxRecDepth 100000 in
theorem fl_X1_32 : flW RX1 32 5 2 ∈ TB := TB_t1 92 rfl (by decide +kernel)
set_option maxRecDepth 100000 in
theorem fl_X2_43 : flW RX2 43 5 2 ∈ TB := TB_t1 93 rfl (by decide +kernel)
set_option maxRecDepth 100000 in
theorem fl_X6_39 : flW RX6 39 5 2 ∈ TB := TB_t1 94 rfl (by decide +kernel)
set_option maxRecDepth 100000 in
theorem fl_X8_36 : flW RX8 36 5 2 ∈ TB := TB_t1 95 rfl (by decide +kernel)
set_option maxRecDepth 100000 in
theorem fl_X0_41 : flW RX0 41 5 2 ∈ TB := TB_t1 96 rfl (by decide +kernel)
set_option maxRecDepth 100000 in
theorem fl_X4_114 : flW RX4 114 5 2 ∈ TB := TB_t1 97 rfl (by decide +kernel)
set_option maxRecDepth 100000 in
theorem fl_X11_145 : flW RX11 145 5 2 ∈ TB := TB_t1 98 rfl (by decide +kernel)
set_option maxRecDepth 100000 in
theorem fl_X3_81 : flW RX3 81 5 2 ∈ TB := TB_t1 99 rfl (by decide +kernel)
set_option maxRecDepth 100000 in
theorem fl_X5_20 : flW RX5 20 5 3 ∈ TB := TB_t1 100 rfl (by decide +kernel)
set_option maxRecDepth 100000 in
theorem fl_X6_51 : flW RX6 51 5 3 ∈ TB := TB_t1 101 rfl (by decide +kernel)
set_option maxRecDepth 100000 in
theorem fl_X0_49 : flW RX0 49 5 3 ∈ TB := TB_t1 102 rfl (by decide +kernel)
set_option maxRecDepth 100000 in
theorem fl_X2_62 : flW RX2 62 5 3 ∈ TB := TB_t1 103 rfl (by decide +kernel)
set_option maxRecDepth 100000 in
theorem fl_X1_71 : flW RX1 71 5 3 ∈ TB := TB_t1 104 rfl (by decide +kernel)
set_option maxRecDepth 100000 in
theorem fl_X8_68 : flW RX8 68 5 3 ∈ TB := TB_t1 105 rfl (by decide +kernel)
set_option maxRecDepth 100000 in
theorem fl_X4_120 : flW RX4 120 5 3 ∈ TB := TB_t1 106 rfl (by decide +kernel)
set_option maxRecDepth 100000 in
theorem fl_X11_155 : flW RX11 155 5 3 ∈ TB := TB_t1 107 rfl (by decide +kernel)
set_option maxRecDepth 100000 in
theorem fl_X3_88 : flW RX3 88 5 3 ∈ TB := TB_t1 108 rfl (by decide +kernel)
set_option maxRecDepth 100000 in
theorem fl_X5_23 : flW RX5 23 5 4 ∈ TB := TB_t1 109 rfl (by decide +kernel)
set_option maxRecDepth 100000 in
theorem fl_X11_158 : flW RX11 158 5 4 ∈ TB := TB_t1 110 rfl (by decide +kernel)
set_option maxRecDepth 100000 in
theorem fl_X5_26 : flW RX5 26 5 5 ∈ TB := TB_t1 111 rfl (by decide +kernel)
set_option maxRecDepth 100000 in
theorem fl_X2_51 : flW RX2 51 5 5 ∈ TB := TB_t1 112 rfl (by decide +kernel)
set_option maxRecDepth 100000 in
theorem fl_X11_152 : flW RX11 152 5 5 ∈ TB := TB_t1 113 rfl (by decide +kernel)
set_option maxRecDepth 100000 in
theorem fl_X3_85 : flW RX3 85 5 5 ∈ TB := TB_t1 114 rfl (by decide +kernel)
set_option maxRecDepth 100000 in
theorem fl_X3_34 : flW RX3 34 3 0 ∈ TB := TB_t1 137 rfl (by decide +kernel)
set_option maxRecDepth 100000 in
theorem fl_X11_181 : flW RX11 181 3 0 ∈ TB := TB_t1 138 rfl (by decide +kernel)
set_option maxRecDepth 100000 in
theorem fl_X3_9 : flW RX3 9 3 1 ∈ TB := TB_t1 139 rfl (by decide +kernel)
set_option maxRecDepth 100000 in
theorem fl_X3_15 : flW RX3 15 3 2 ∈ TB := TB_t1 140 rfl (by decide +kernel)
set_option maxRecDepth 100000 in
theorem fl_X3_38 : flW RX3 38 3 3 ∈ TB := TB_t1 141 rfl (by decide +kernel)
set_option maxRecDepth 100000 in
theorem fl_X10_32 : flW RX10 32 3 3 ∈ TB := TB_t1 142 rfl (by decide +kernel)
set_option maxRecDepth 100000 in
theorem fl_X11_187 : flW RX11 187 3 3 ∈ TB := TB_t1 143 rfl (by decide +kernel)
set_option maxRecDepth 100000 in
theorem fl_X3_19 : flW RX3 19 3 4 ∈ TB := TB_t1 144 rfl (by decide +kernel)
set_option maxRecDepth 100000 in
theorem fl_X3_22 : flW RX3 22 3 5 ∈ TB := TB_t1 145 rfl (by decide +kernel)
set_option maxRecDepth 100000 in
theorem fl_X3_25 : flW RX3 25 3 6 ∈ TB := TB_t1 146 rfl (by decide +kernel)
set_option maxRecDepth 100000 in
theorem fl_X3_41 : flW RX3 41 3 7 ∈ TB := TB_t1 147 rfl (by decide +kernel)
set_option maxRecDepth 100000 in
theorem fl_X4_147 : flW RX4 147 3 7 ∈ TB := TB_t1 148 rfl (by decide +kernel)
set_option maxRecDepth 100000 in
theorem fl_X3_44 : flW RX3 44 3 8 ∈ TB := TB_t1 149 rfl (by decide +kernel)
set_option maxRecDepth 100000 in
theorem fl_X11_190 : flW RX11 190 3 8 ∈ TB := TB_t1 150 rfl (by decide +kernel)
set_option maxRecDepth 100000 in
theorem fl_X3_28 : flW RX3 28 3 9 ∈ TB := TB_t1 151 rfl (by decide +kernel)
set_option maxRecDepth 100000 in
theorem fl_X3_31 : flW RX3 31 3 10 ∈ TB := TB_t1 152 rfl (by decide +kernel)
set_option maxRecDepth 100000 in
theorem fl_X10_12 : flW RX10 12 10 0 ∈ TB := TB_t1 176 rfl (by decide +kernel)
set_option maxRecDepth 100000 in
theorem fl_X4_46 : flW RX4 46 10 0 ∈ TB := TB_t1 177 rfl (by decide +kernel)
set_option maxRecDepth 100000 in
theorem fl_X11_114 : flW RX11 114 10 0 ∈ TB := TB_t1 178 rfl (by decide +kernel)
set_option maxRecDepth 100000 in
theorem fl_X10_20 : flW RX10 20 10 1 ∈ TB := TB_t1 179 rfl (by decide +kernel)
set_option maxRecDepth 100000 in
theorem fl_X4_125 : flW RX4 125 10 1 ∈ TB := TB_t1 180 rfl (by decide +kernel)
set_option maxRecDepth 100000 in
theorem fl_X11_171 : flW RX11 171 10 1 ∈ TB := TB_t1 181 rfl (by decide +kernel)
set_option maxRecDepth 100000 in
theorem fl_X10_28 : flW RX10 28 10 2 ∈ TB := TB_t1 182 rfl (by decide +kernel)
set_option maxRecDepth 100000 in
theorem fl_X11_120 : flW RX11 120 10 2 ∈ TB := TB_t1 183 rfl (by decide +kernel)
set_option maxRecDepth 100000 in
theorem fl_X4_122 : flW RX4 122 10 2 ∈ TB := TB_t1 184 rfl (by decide +kernel)
set_option maxRecDepth 100000 in
theorem fl_X4_12 : flW RX4 12 4 0 ∈ TB := TB_t1 192 rfl (by decide +kernel)
set_option maxRecDepth 100000 in
theorem fl_X11_108 : flW RX11 108 4 0 ∈ TB := TB_t1 193 rfl (by decide +kernel)
set_option maxRecDepth 100000 in
theorem fl_X4_21 : flW RX4 21 4 1 ∈ TB := TB_t1 194 rfl (by decide +kernel)
set_option maxRecDepth 100000 in
theorem fl_X4_25 : flW RX4 25 4 2 ∈ TB := TB_t1 195 rfl (by decide +kernel)
set_option maxRecDepth 100000 in
theorem fl_X11_99 : flW RX11 99 4 2 ∈ TB := TB_t1 196 rfl (by decide +kernel)
set_option maxRecDepth 100000 in
theorem fl_X4_28 : flW RX4 28 4 3 ∈ TB := TB_t1 197 rfl (by decide +kernel)
set_option maxRecDepth 100000 in
theorem fl_X11_105 : flW RX11 105 4 3 ∈ TB := TB_t1 198 rfl (by decide +kernel)
set_option maxRecDepth 100000 in
theorem fl_X4_36 : flW RX4 36 4 4 ∈ TB := TB_t1 199 rfl (by decide +kernel)
set_option maxRecDepth 100000 in
theorem fl_X11_111 : flW RX11 111 4 4 ∈ TB := TB_t1 200 rfl (by decide +kernel)
set_option maxRecDepth 100000 in
theorem fl_X1_9 : flW RX1 9 1 0 ∈ TB := TB_t1 225 rfl (by decide +kernel)
set_option maxRecDepth 100000 in
theorem fl_X2_12 : flW RX2 12 2 0 ∈ TB := TB_t1 237 rfl (by decide +kernel)
set_option maxRecDepth 100000 in
theorem fl_X2_18 : flW RX2 18 2 1 ∈ TB := TB_t1 238 rfl (by decide +kernel)
set_option maxRecDepth 100000 in
theorem fl_X6_12 : flW RX6 12 6 0 ∈ TB := TB_t2 12 rfl (by decide +kernel)
set_option maxRecDepth 100000 in
theorem fl_X6_22 : flW RX6 22 6 1 ∈ TB := TB_t2 13 rfl (by decide +kernel)
set_option maxRecDepth 100000 in
theorem fl_X6_26 : flW RX6 26 6 2 ∈ TB := TB_t2 14 rfl (by decide +kernel)
set_option maxRecDepth 100000 in
theorem fl_X8_29 : flW RX8 29 8 0 ∈ TB := TB_t2 28 rfl (by decide +kernel)
set_option maxRecDepth 100000 in
theorem fl_X8_19 : flW RX8 19 8 1 ∈ TB := TB_t2 29 rfl (by decide +kernel)
set_option maxRecDepth 100000 in
theorem fl_X8_15 : flW RX8 15 8 2 ∈ TB := TB_t2 30 rfl (by decide +kernel)
set_option maxRecDepth 100000 in
theorem fl_X8_57 : flW RX8 57 8 3 ∈ TB := TB_t2 31 rfl (by decide +kernel)
set_option maxRecDepth 100000 in
theorem fl_X0_9 : flW RX0 9 0 0 ∈ TB := TB_t2 47 rfl (by decide +kernel)
set_option maxRecDepth 100000 in
theorem fl_X0_15 : flW RX0 15 0 1 ∈ TB := TB_t2 48 rfl (by decide +kernel)
set_option maxRecDepth 100000 in
theorem fl_X7_15 : flW RX7 15 7 0 ∈ TB := TB_t2 59 rfl (by decide +kernel)
set_option maxRecDepth 100000 in
theorem fl_X11_268 : flW RX11 268 7 0 ∈ TB := TB_t2 60 rfl (by decide +kernel)
set_option maxRecDepth 100000 in
theorem fl_X7_19 : flW RX7 19 7 1 ∈ TB := TB_t2 61 rfl (by decide +kernel)
set_option maxRecDepth 100000 in
theorem fl_X11_249 : flW RX11 249 7 1 ∈ TB := TB_t2 62 rfl (by decide +kernel)
set_option maxRecDepth 100000 in
theorem fl_X7_32 : flW RX7 32 7 2 ∈ TB := TB_t2 63 rfl (by decide +kernel)
set_option maxRecDepth 100000 in
theorem fl_X11_272 : flW RX11 272 7 2 ∈ TB := TB_t2 64 rfl (by decide +kernel)
set_option maxRecDepth 100000 in
theorem fl_X7_9 : flW RX7 9 7 3 ∈ TB := TB_t2 65 rfl (by decide +kernel)
set_option maxRecDepth 100000 in
theorem fl_X11_258 : flW RX11 258 7 3 ∈ TB := TB_t2 66 rfl (by decide +kernel)
set_option maxRecDepth 100000 in
theorem fl_X11_10 : flW RX11 10 11 0 ∈ TB := TB_t2 76 rfl (by decide +kernel)
set_option maxRecDepth 100000 in
theorem fl_X11_19 : flW RX11 19 11 1 ∈ TB := TB_t2 77 rfl (by decide +kernel)
set_option maxRecDepth 100000 in
theorem fl_X11_26 : flW RX11 26 11 2 ∈ TB := TB_t2 78 rfl (by decide +kernel)
set_option maxRecDepth 100000 in
theorem fl_X11_102 : flW RX11 102 11 3 ∈ TB := TB_t2 79 rfl (by decide +kernel)
set_option maxRecDepth 100000 in
theorem fl_X11_32 : flW RX11 32 11 4 ∈ TB := TB_t2 80 rfl (by decide +kernel)
set_option maxRecDepth 100000 in
theorem fl_X11_36 : flW RX11 36 11 5 ∈ TB := TB_t2 81 rfl (by decide +kernel)
set_option maxRecDepth 100000 in
theorem fl_X11_42 : flW RX11 42 11 6 ∈ TB := TB_t2 82 rfl (by decide +kernel)
set_option maxRecDepth 100000 in
theorem fl_X11_262 : flW RX11 262 11 7 ∈ TB := TB_t2 83 rfl (by decide +kernel)
set_option maxRecDepth 100000 in
theorem fl_X11_47 : flW RX11 47 11 8 ∈ TB := TB_t2 84 rfl (by decide +kernel)
set_option maxRecDepth 100000 in
theorem fl_X11_54 : flW RX11 54 11 9 ∈ TB := TB_t2 85 rfl (by decide +kernel)
set_option maxRecDepth 100000 in
theorem fl_X11_61 : flW RX11 61 11 10 ∈ TB := TB_t2 86 rfl (by decide +kernel)
set_option maxRecDepth 100000 in
theorem fl_X11_68 : flW RX11 68 11 11 ∈ TB := TB_t2 87 rfl (by decide +kernel)
set_option maxRecDepth 100000 in
theorem fl_X11_75 : flW RX11 75 11 12 ∈ TB := TB_t2 88 rfl (by decide +kernel)
set_option maxRecDepth 100000 in
theorem fl_X11_82 : flW RX11 82 11 13 ∈ TB := TB_t2 89 rfl (by decide +kernel)
set_option maxRecDepth 100000 in
theorem fl_X12_7 : flW RX12 7 12 0 ∈ TB := TB_t4 203 rfl (by decide +kernel)
set_option maxRecDepth 100000 in
theorem fl_X12_13 : flW RX12 13 12 1 ∈ TB := TB_t4 204 rfl (by decide +kernel)
set_option maxRecDepth 100000 in
theorem fl_X12_166 : flW RX12 166 12 2 ∈ TB := TB_t4 205 rfl (by decide +kernel)
set_option maxRecDepth 100000 in
theorem fl_X12_16 : flW RX12 16 12 3 ∈ TB := TB_t4 206 rfl (by decide +kernel)
set_option maxRecDepth 100000 in
theorem fl_X12_136 : flW RX12 136 12 4 ∈ TB := TB_t4 207 rfl (by decide +kernel)
set_option maxRecDepth 100000 in
theorem fl_X12_19 : flW RX12 19 12 5 ∈ TB := TB_t4 208 rfl (by decide +kernel)
set_option maxRecDepth 100000 in
theorem fl_X12_65 : flW RX12 65 12 6 ∈ TB := TB_t4 209 rfl (by decide +kernel)
set_option maxRecDepth 100000 in
theorem fl_X12_159 : flW RX12 159 12 7 ∈ TB := TB_t4 210 rfl (by decide +kernel)
set_option maxRecDepth 100000 in
theorem fl_X12_69 : flW RX12 69 12 8 ∈ TB := TB_t4 211 rfl (by decide +kernel)
set_option maxRecDepth 100000 in
theorem fl_X12_75 : flW RX12 75 12 9 ∈ TB := TB_t4 212 rfl (by decide +kernel)
set_option maxRecDepth 100000 in
theorem fl_X12_81 : flW RX12 81 12 10 ∈ TB := TB_t4 213 rfl (by decide +kernel)
set_option maxRecDepth 100000 in
theorem fl_X12_72 : flW RX12 72 12 11 ∈ TB := TB_t4 214 rfl (by decide +kernel)
set_option maxRecDepth 100000 in
theorem fl_X12_78 : flW RX12 78 12 12 ∈ TB := TB_t4 215 rfl (by decide +kernel)
set_option maxRecDepth 100000 in
theorem fl_X12_88 : flW RX12 88 12 13 ∈ TB := TB_t4 216 rfl (by decide +kernel)
set_option maxRecDepth 100000 in
theorem fl_X12_111 : flW RX12 111 12 14 ∈ TB := TB_t4 217 rfl (by decide +kernel)
set_option maxRecDepth 100000 in
theorem fl_X12_22 : flW RX12 22 12 15 ∈ TB := TB_t4 218 rfl (by decide +kernel)
set_option maxRecDepth 100000 in
theorem fl_X12_25 : flW RX12 25 12 16 ∈ TB := TB_t4 219 rfl (by decide +kernel)
set_option maxRecDepth 100000 in
theorem fl_X12_28 : flW RX12 28 12 17 ∈ TB := TB_t4 220 rfl (by decide +kernel)
set_option maxRecDepth 100000 in
theorem fl_X12_31 : flW RX12 31 12 18 ∈ TB := TB_t4 221 rfl (by decide +kernel)
set_option maxRecDepth 100000 in
theorem fl_X12_34 : flW RX12 34 12 19 ∈ TB := TB_t4 222 rfl (by decide +kernel)
set_option maxRecDepth 100000 in
theorem fl_X12_37 : flW RX12 37 12 20 ∈ TB := TB_t4 223 rfl (by decide +kernel)
set_option maxRecDepth 100000 in
theorem fl_X12_40 : flW RX12 40 12 21 ∈ TB := TB_t4 224 rfl (by decide +kernel)
set_option maxRecDepth 100000 in
theorem fl_X12_270 : flW RX12 270 12 22 ∈ TB := TB_t4 225 rfl (by decide +kernel)
set_option maxRecDepth 100000 in
theorem fl_X12_43 : flW RX12 43 12 23 ∈ TB := TB_t4 226 rfl (by decide +kernel)
set_option maxRecDepth 100000 in
theorem fl_X12_47 : flW RX12 47 12 24 ∈ TB := TB_t4 227 rfl (by decide +kernel)
set_option maxRecDepth 100000 in
theorem fl_X12_50 : flW RX12 50 12 25 ∈ TB := TB_t4 228 rfl (by decide +kernel)
set_option maxRecDepth 100000 in
theorem fl_X12_53 : flW RX12 53 12 26 ∈ TB := TB_t4 229 rfl (by decide +kernel)
set_option maxRecDepth 100000 in
theorem fl_X12_56 : flW RX12 56 12 27 ∈ TB := TB_t4 230 rfl (by decide +kernel)
set_option maxRecDepth 100000 in
theorem fl_X12_304 : flW RX12 304 12 28 ∈ TB := TB_t4 231 rfl (by decide +kernel)
set_option maxRecDepth 100000 in
theorem ml_L_9 : Cond.methodLink RL 9 yX11_init ∈ TB := TB_t1 23 rfl (by decide +kernel)
set_option maxRecDepth 100000 in
theorem ml_X11_1 : Cond.methodLink RX11 1 Lib.objectInit ∈ TB := TB_t1 26 rfl (by decide +kernel)
set_option maxRecDepth 100000 in
theorem ml_X9_3 : Cond.methodLink RX9 3 Lib.objectInit ∈ TB := TB_t1 34 rfl (by decide +kernel)
set_option maxRecDepth 100000 in
theorem ml_X4_3 : Cond.methodLink RX4 3 Lib.objectInit ∈ TB := TB_t1 60 rfl (by decide +kernel)
set_option maxRecDepth 100000 in
theorem ml_X4_11 : Cond.methodLink RX4 11 yX10_init ∈ TB := TB_t1 63 rfl (by decide +kernel)
set_option maxRecDepth 100000 in
theorem ml_X10_3 : Cond.methodLink RX10 3 Lib.objectInit ∈ TB := TB_t1 66 rfl (by decide +kernel)
set_option maxRecDepth 100000 in
theorem ml_X5_3 : Cond.methodLink RX5 3 Lib.objectInit ∈ TB := TB_t1 72 rfl (by decide +kernel)
set_option maxRecDepth 100000 in
theorem ml_X3_3 : Cond.methodLink RX3 3 Lib.objectInit ∈ TB := TB_t1 136 rfl (by decide +kernel)
set_option maxRecDepth 100000 in
theorem ml_X11_25 : Cond.methodLink RX11 25 yX10_init ∈ TB := TB_t1 213 rfl (by decide +kernel)
set_option maxRecDepth 100000 in
theorem ml_X1_3 : Cond.methodLink RX1 3 Lib.objectInit ∈ TB := TB_t1 224 rfl (by decide +kernel)
set_option maxRecDepth 100000 in
theorem ml_X2_3 : Cond.methodLink RX2 3 Lib.objectInit ∈ TB := TB_t1 234 rfl (by decide +kernel)
set_option maxRecDepth 100000 in
theorem ml_X6_3 : Cond.methodLink RX6 3 Lib.objectInit ∈ TB := TB_t2 9 rfl (by decide +kernel)
set_option maxRecDepth 100000 in
theorem ml_X8_3 : Cond.methodLink RX8 3 Lib.objectInit ∈ TB := TB_t2 27 rfl (by decide +kernel)
set_option maxRecDepth 100000 in
theorem ml_X0_3 : Cond.methodLink RX0 3 Lib.objectInit ∈ TB := TB_t2 46 rfl (by decide +kernel)
set_option maxRecDepth 100000 in
theorem ml_X7_3 : Cond.methodLink RX7 3 Lib.objectInit ∈ TB := TB_t2 58 rfl (by decide +kernel)
set_option maxRecDepth 100000 in
theorem ml_L_13 : Cond.methodLink RL 13 yX11_feed ∈ TB := TB_t2 119 rfl (by decide +kernel)
set_option maxRecDepth 100000 in
theorem ml_X11_87 : Cond.methodLink RX11 87 yX9_put ∈ TB := TB_t2 123 rfl (by decide +kernel)
set_option maxRecDepth 100000 in
theorem ml_L_18 : Cond.methodLink RL 18 yX11_end ∈ TB := TB_t2 127 rfl (by decide +kernel)
set_option maxRecDepth 100000 in
theorem ml_L_22 : Cond.methodLink RL 22 yX11_text ∈ TB := TB_t2 131 rfl (by decide +kernel)
set_option maxRecDepth 100000 in
theorem ml_X11_95 : Cond.methodLink RX11 95 yX4_takes ∈ TB := TB_t2 135 rfl (by decide +kernel)
set_option maxRecDepth 100000 in
theorem ml_X4_18 : Cond.methodLink RX4 18 yX10_clear ∈ TB := TB_t2 139 rfl (by decide +kernel)
set_option maxRecDepth 100000 in
theorem ml_X10_25 : Cond.methodLink RX10 25 yX5_clear ∈ TB := TB_t2 143 rfl (by decide +kernel)
set_option maxRecDepth 100000 in
theorem ml_X5_33 : Cond.methodLink RX5 33 yJ7_fill_53178 ∈ TB := TB_t2 147 rfl (by decide +kernel)
set_option maxRecDepth 100000 in
theorem ml_X4_31 : Cond.methodLink RX4 31 yX9_rewind ∈ TB := TB_t2 150 rfl (by decide +kernel)
set_option maxRecDepth 100000 in
theorem ml_X9_22 : Cond.methodLink RX9 22 yX9_advance ∈ TB := TB_t2 154 rfl (by decide +kernel)
set_option maxRecDepth 100000 in
theorem ml_X4_42 : Cond.methodLink RX4 42 yX4_takeLine ∈ TB := TB_t2 158 rfl (by decide +kernel)
set_option maxRecDepth 100000 in
theorem ml_X4_64 : Cond.methodLink RX4 64 yX9_isName ∈ TB := TB_t2 163 rfl (by decide +kernel)
set_option maxRecDepth 100000 in
theorem ml_X9_31 : Cond.methodLink RX9 31 yJ0_length_8abf5 ∈ TB := TB_t2 167 rfl (by decide +kernel)
set_option maxRecDepth 100000 in
theorem ml_J0_335 : Cond.methodLink RJ0 335 yJ0_coder_7d493 ∈ TB := TB_t2 171 rfl (by decide +kernel)
set_option maxRecDepth 100000 in
theorem ml_X9_36 : Cond.methodLink RX9 36 yJ0_charAt_5068e ∈ TB := TB_t2 177 rfl (by decide +kernel)
set_option maxRecDepth 100000 in
theorem ml_J0_492 : Cond.methodLink RJ0 492 yJ0_isLatin1_aae02 ∈ TB := TB_t2 181 rfl (by decide +kernel)
set_option maxRecDepth 100000 in
theorem ml_J0_495 : Cond.methodLink RJ0 495 yJ1_charAt_3b067 ∈ TB := TB_t2 185 rfl (by decide +kernel)
set_option maxRecDepth 100000 in
theorem ml_J1_9 : Cond.methodLink RJ1 9 yJ0_checkIndex_df160 ∈ TB := TB_t2 188 rfl (by decide +kernel)
set_option maxRecDepth 100000 in
theorem ml_J0_1059 : Cond.methodLink RJ0 1059 yJ3_checkIndex_8e157 ∈ TB := TB_t2 193 rfl (by decide +kernel)
set_option maxRecDepth 100000 in
theorem ml_J0_498 : Cond.methodLink RJ0 498 yJ2_charAt_3b067 ∈ TB := TB_t2 196 rfl (by decide +kernel)
set_option maxRecDepth 100000 in
theorem ml_J2_67 : Cond.methodLink RJ2 67 yJ2_checkIndex_2214a ∈ TB := TB_t2 199 rfl (by decide +kernel)
set_option maxRecDepth 100000 in
theorem ml_J2_48 : Cond.methodLink RJ2 48 yJ2_length_9d52b ∈ TB := TB_t2 202 rfl (by decide +kernel)
set_option maxRecDepth 100000 in
theorem ml_J2_414 : Cond.methodLink RJ2 414 yJ0_checkIndex_df160 ∈ TB := TB_t2 205 rfl (by decide +kernel)
set_option maxRecDepth 100000 in
theorem ml_J2_71 : Cond.methodLink RJ2 71 yJ2_getChar_3b067 ∈ TB := TB_t2 206 rfl (by decide +kernel)
set_option maxRecDepth 100000 in
theorem ml_X4_68 : Cond.methodLink RX4 68 yX4_takeNode ∈ TB := TB_t2 215 rfl (by decide +kernel)
set_option maxRecDepth 100000 in
theorem ml_X4_92 : Cond.methodLink RX4 92 yX5_isFull ∈ TB := TB_t2 219 rfl (by decide +kernel)
set_option maxRecDepth 100000 in
theorem ml_X4_55 : Cond.methodLink RX4 55 yX4_refuse ∈ TB := TB_t2 223 rfl (by decide +kernel)
set_option maxRecDepth 100000 in
theorem ml_X4_96 : Cond.methodLink RX4 96 yX5_append ∈ TB := TB_t2 227 rfl (by decide +kernel)
set_option maxRecDepth 100000 in
theorem ml_X4_100 : Cond.methodLink RX4 100 yX9_advance ∈ TB := TB_t2 231 rfl (by decide +kernel)
set_option maxRecDepth 100000 in
theorem ml_X4_103 : Cond.methodLink RX4 103 yX4_takeSign ∈ TB := TB_t2 232 rfl (by decide +kernel)
set_option maxRecDepth 100000 in
theorem ml_X4_140 : Cond.methodLink RX4 140 yX9_isSign ∈ TB := TB_t2 236 rfl (by decide +kernel)
set_option maxRecDepth 100000 in
theorem ml_X4_89 : Cond.methodLink RX4 89 yX4_refuseToken ∈ TB := TB_t3 0 rfl (by decide +kernel)
set_option maxRecDepth 100000 in
theorem ml_X4_76 : Cond.methodLink RX4 76 yX4_takeAt ∈ TB := TB_t3 6 rfl (by decide +kernel)
set_option maxRecDepth 100000 in
theorem ml_X4_107 : Cond.methodLink RX4 107 yX4_takeVariable ∈ TB := TB_t3 10 rfl (by decide +kernel)
set_option maxRecDepth 100000 in
theorem ml_X4_150 : Cond.methodLink RX4 150 yX9_oneOfThree ∈ TB := TB_t3 14 rfl (by decide +kernel)
set_option maxRecDepth 100000 in
theorem ml_X4_111 : Cond.methodLink RX4 111 yX4_takeNodeNumber ∈ TB := TB_t3 18 rfl (by decide +kernel)
set_option maxRecDepth 100000 in
theorem ml_X4_188 : Cond.methodLink RX4 188 yX9_number ∈ TB := TB_t3 22 rfl (by decide +kernel)
set_option maxRecDepth 100000 in
theorem ml_X4_192 : Cond.methodLink RX4 192 Lib.Math.max.name ∈ TB := TB_t3 26 rfl (by decide +kernel)
set_option maxRecDepth 100000 in
theorem ml_X4_117 : Cond.methodLink RX4 117 yX4_takeTruth ∈ TB := TB_t3 29 rfl (by decide +kernel)
set_option maxRecDepth 100000 in
theorem ml_X4_81 : Cond.methodLink RX4 81 yX4_takeNext ∈ TB := TB_t3 34 rfl (by decide +kernel)
set_option maxRecDepth 100000 in
theorem ml_X4_86 : Cond.methodLink RX4 86 yX4_takeAsk ∈ TB := TB_t3 39 rfl (by decide +kernel)
set_option maxRecDepth 100000 in
theorem ml_X4_129 : Cond.methodLink RX4 129 yX3_clear ∈ TB := TB_t3 43 rfl (by decide +kernel)
set_option maxRecDepth 100000 in
theorem ml_X4_136 : Cond.methodLink RX4 136 yX4_tellLetter ∈ TB := TB_t3 49 rfl (by decide +kernel)
set_option maxRecDepth 100000 in
theorem ml_X4_154 : Cond.methodLink RX4 154 yX3_placeOf ∈ TB := TB_t3 53 rfl (by decide +kernel)
set_option maxRecDepth 100000 in
theorem ml_X4_158 : Cond.methodLink RX4 158 yX3_putLetter ∈ TB := TB_t3 57 rfl (by decide +kernel)
set_option maxRecDepth 100000 in
theorem ml_X4_144 : Cond.methodLink RX4 144 yX4_takeItem ∈ TB := TB_t3 61 rfl (by decide +kernel)
set_option maxRecDepth 100000 in
theorem ml_X4_162 : Cond.methodLink RX4 162 yX4_itemKind ∈ TB := TB_t3 65 rfl (by decide +kernel)
set_option maxRecDepth 100000 in
theorem ml_X4_165 : Cond.methodLink RX4 165 yX3_isFull ∈ TB := TB_t3 73 rfl (by decide +kernel)
set_option maxRecDepth 100000 in
theorem ml_X4_166 : Cond.methodLink RX4 166 yX3_hasEnoughFor ∈ TB := TB_t3 77 rfl (by decide +kernel)
set_option maxRecDepth 100000 in
theorem ml_X3_47 : Cond.methodLink RX3 47 yX3_taken ∈ TB := TB_t3 81 rfl (by decide +kernel)
set_option maxRecDepth 100000 in
theorem ml_X4_170 : Cond.methodLink RX4 170 yX4_takeLetter ∈ TB := TB_t3 84 rfl (by decide +kernel)
set_option maxRecDepth 100000 in
theorem ml_X4_174 : Cond.methodLink RX4 174 yX3_putItem ∈ TB := TB_t3 88 rfl (by decide +kernel)
set_option maxRecDepth 100000 in
theorem ml_X3_51 : Cond.methodLink RX3 51 yX3_isFull ∈ TB := TB_t3 92 rfl (by decide +kernel)
set_option maxRecDepth 100000 in
theorem ml_X3_55 : Cond.methodLink RX3 55 Lib.Math.max.name ∈ TB := TB_t3 93 rfl (by decide +kernel)
set_option maxRecDepth 100000 in
theorem ml_L_27 : Cond.methodLink RL 27 yX11_fault ∈ TB := TB_t3 94 rfl (by decide +kernel)
set_option maxRecDepth 100000 in
theorem ml_L_31 : Cond.methodLink RL 31 yX11_rule ∈ TB := TB_t3 98 rfl (by decide +kernel)
set_option maxRecDepth 100000 in
theorem ml_X11_123 : Cond.methodLink RX11 123 yX5_manys ∈ TB := TB_t3 102 rfl (by decide +kernel)
set_option maxRecDepth 100000 in
theorem ml_X11_127 : Cond.methodLink RX11 127 yX5_atsThatAre ∈ TB := TB_t3 106 rfl (by decide +kernel)
set_option maxRecDepth 100000 in
theorem ml_X5_58 : Cond.methodLink RX5 58 yX5_cellsThatAre ∈ TB := TB_t3 110 rfl (by decide +kernel)
set_option maxRecDepth 100000 in
theorem ml_X11_131 : Cond.methodLink RX11 131 yX5_nextsThatAre ∈ TB := TB_t3 114 rfl (by decide +kernel)
set_option maxRecDepth 100000 in
theorem ml_X11_134 : Cond.methodLink RX11 134 yX5_isHeap ∈ TB := TB_t3 118 rfl (by decide +kernel)
set_option maxRecDepth 100000 in
theorem ml_X5_62 : Cond.methodLink RX5 62 yX5_manys ∈ TB := TB_t3 122 rfl (by decide +kernel)
set_option maxRecDepth 100000 in
theorem ml_X5_66 : Cond.methodLink RX5 66 yX5_atsThatAre ∈ TB := TB_t3 123 rfl (by decide +kernel)
set_option maxRecDepth 100000 in
theorem ml_X5_70 : Cond.methodLink RX5 70 yX5_nextsThatAre ∈ TB := TB_t3 124 rfl (by decide +kernel)
set_option maxRecDepth 100000 in
theorem ml_L_35 : Cond.methodLink RL 35 yX11_node ∈ TB := TB_t3 125 rfl (by decide +kernel)
set_option maxRecDepth 100000 in
theorem ml_X11_138 : Cond.methodLink RX11 138 yX5_has ∈ TB := TB_t3 129 rfl (by decide +kernel)
set_option maxRecDepth 100000 in
theorem ml_X11_149 : Cond.methodLink RX11 149 yX5_trace ∈ TB := TB_t3 133 rfl (by decide +kernel)
set_option maxRecDepth 100000 in
theorem ml_X5_39 : Cond.methodLink RX5 39 arraycopyName ∈ TB := TB_t3 137 rfl (by decide +kernel)
set_option maxRecDepth 100000 in
theorem ml_X5_73 : Cond.methodLink RX5 73 Lib.Math.min.name ∈ TB := TB_t3 140 rfl (by decide +kernel)
set_option maxRecDepth 100000 in
theorem ml_X5_52 : Cond.methodLink RX5 52 Lib.Math.max.name ∈ TB := TB_t3 143 rfl (by decide +kernel)
set_option maxRecDepth 100000 in
theorem ml_X5_76 : Cond.methodLink RX5 76 yX5_reaching ∈ TB := TB_t3 144 rfl (by decide +kernel)
set_option maxRecDepth 100000 in
theorem ml_X5_79 : Cond.methodLink RX5 79 yX5_sameness ∈ TB := TB_t3 148 rfl (by decide +kernel)
set_option maxRecDepth 100000 in
theorem ml_L_40 : Cond.methodLink RL 40 yX11_pair ∈ TB := TB_t3 152 rfl (by decide +kernel)
set_option maxRecDepth 100000 in
theorem ml_X11_161 : Cond.methodLink RX11 161 yX5_sameness ∈ TB := TB_t3 156 rfl (by decide +kernel)
set_option maxRecDepth 100000 in
theorem ml_L_45 : Cond.methodLink RL 45 yX11_held ∈ TB := TB_t3 157 rfl (by decide +kernel)
set_option maxRecDepth 100000 in
theorem ml_X11_165 : Cond.methodLink RX11 165 yX11_isVariable ∈ TB := TB_t3 161 rfl (by decide +kernel)
set_option maxRecDepth 100000 in
theorem ml_X11_168 : Cond.methodLink RX11 168 yX5_holding ∈ TB := TB_t3 164 rfl (by decide +kernel)
set_option maxRecDepth 100000 in
theorem ml_L_49 : Cond.methodLink RL 49 yX11_ask ∈ TB := TB_t3 168 rfl (by decide +kernel)
set_option maxRecDepth 100000 in
theorem ml_X11_175 : Cond.methodLink RX11 175 yX3_worth ∈ TB := TB_t3 172 rfl (by decide +kernel)
set_option maxRecDepth 100000 in
theorem ml_X3_61 : Cond.methodLink RX3 61 yX3_worthFrom ∈ TB := TB_t3 176 rfl (by decide +kernel)
set_option maxRecDepth 100000 in
theorem ml_X3_65 : Cond.methodLink RX3 65 yX3_worthOfItems ∈ TB := TB_t3 180 rfl (by decide +kernel)
set_option maxRecDepth 100000 in
theorem ml_X3_74 : Cond.methodLink RX3 74 Lib.Math.min.name ∈ TB := TB_t3 184 rfl (by decide +kernel)
set_option maxRecDepth 100000 in
theorem ml_X3_77 : Cond.methodLink RX3 77 yX3_truthOf ∈ TB := TB_t3 185 rfl (by decide +kernel)
set_option maxRecDepth 100000 in
theorem ml_X3_91 : Cond.methodLink RX3 91 yX5_sameness ∈ TB := TB_t3 189 rfl (by decide +kernel)
set_option maxRecDepth 100000 in
theorem ml_L_53 : Cond.methodLink RL 53 yX11_formula ∈ TB := TB_t3 190 rfl (by decide +kernel)
set_option maxRecDepth 100000 in
theorem ml_X11_184 : Cond.methodLink RX11 184 yX3_allBits ∈ TB := TB_t3 194 rfl (by decide +kernel)
set_option maxRecDepth 100000 in
theorem ml_L_57 : Cond.methodLink RL 57 yX11_add ∈ TB := TB_t3 198 rfl (by decide +kernel)
set_option maxRecDepth 100000 in
theorem ml_X11_193 : Cond.methodLink RX11 193 yX11_isSwitch ∈ TB := TB_t3 202 rfl (by decide +kernel)
set_option maxRecDepth 100000 in
theorem ml_X11_196 : Cond.methodLink RX11 196 yX5_isFull ∈ TB := TB_t3 205 rfl (by decide +kernel)
set_option maxRecDepth 100000 in
theorem ml_X11_199 : Cond.methodLink RX11 199 yX5_append ∈ TB := TB_t3 206 rfl (by decide +kernel)
set_option maxRecDepth 100000 in
theorem ml_L_61 : Cond.methodLink RL 61 yX11_lose ∈ TB := TB_t3 207 rfl (by decide +kernel)
set_option maxRecDepth 100000 in
theorem ml_X11_203 : Cond.methodLink RX11 203 yX5_drop ∈ TB := TB_t3 211 rfl (by decide +kernel)
set_option maxRecDepth 100000 in
theorem ml_X5_45 : Cond.methodLink RX5 45 yX5_has ∈ TB := TB_t3 215 rfl (by decide +kernel)
set_option maxRecDepth 100000 in
theorem ml_X5_49 : Cond.methodLink RX5 49 yX5_closeGap ∈ TB := TB_t3 216 rfl (by decide +kernel)
set_option maxRecDepth 100000 in
theorem ml_L_65 : Cond.methodLink RL 65 yX11_many ∈ TB := TB_t3 219 rfl (by decide +kernel)
set_option maxRecDepth 100000 in
theorem ml_L_69 : Cond.methodLink RL 69 yX11_place ∈ TB := TB_t3 223 rfl (by decide +kernel)
set_option maxRecDepth 100000 in
theorem ml_X11_207 : Cond.methodLink RX11 207 yX11_isTruth ∈ TB := TB_t3 227 rfl (by decide +kernel)
set_option maxRecDepth 100000 in
theorem ml_L_73 : Cond.methodLink RL 73 yX11_lead ∈ TB := TB_t3 230 rfl (by decide +kernel)
set_option maxRecDepth 100000 in
theorem ml_L_77 : Cond.methodLink RL 77 yX11_deed ∈ TB := TB_t3 234 rfl (by decide +kernel)
set_option maxRecDepth 100000 in
theorem ml_X11_210 : Cond.methodLink RX11 210 yX1_perform ∈ TB := TB_t3 238 rfl (by decide +kernel)
set_option maxRecDepth 100000 in
theorem ml_X1_19 : Cond.methodLink RX1 19 yX1_looksAtOther ∈ TB := TB_t4 3 rfl (by decide +kernel)
set_option maxRecDepth 100000 in
theorem ml_X1_22 : Cond.methodLink RX1 22 yX5_isFull ∈ TB := TB_t4 6 rfl (by decide +kernel)
set_option maxRecDepth 100000 in
theorem ml_X1_28 : Cond.methodLink RX1 28 yX1_answerAhead ∈ TB := TB_t4 7 rfl (by decide +kernel)
set_option maxRecDepth 100000 in
theorem ml_X1_67 : Cond.methodLink RX1 67 yX5_holding ∈ TB := TB_t4 10 rfl (by decide +kernel)
set_option maxRecDepth 100000 in
theorem ml_X1_36 : Cond.methodLink RX1 36 yJ7_fill_53178 ∈ TB := TB_t4 11 rfl (by decide +kernel)
set_option maxRecDepth 100000 in
theorem ml_X1_42 : Cond.methodLink RX1 42 arraycopyName ∈ TB := TB_t4 12 rfl (by decide +kernel)
set_option maxRecDepth 100000 in
theorem ml_X1_48 : Cond.methodLink RX1 48 yX1_follow ∈ TB := TB_t4 13 rfl (by decide +kernel)
set_option maxRecDepth 100000 in
theorem ml_X1_74 : Cond.methodLink RX1 74 Lib.Math.min.name ∈ TB := TB_t4 17 rfl (by decide +kernel)
set_option maxRecDepth 100000 in
theorem ml_X1_80 : Cond.methodLink RX1 80 Lib.Math.max.name ∈ TB := TB_t4 18 rfl (by decide +kernel)
set_option maxRecDepth 100000 in
theorem ml_X1_52 : Cond.methodLink RX1 52 yX1_cut ∈ TB := TB_t4 19 rfl (by decide +kernel)
set_option maxRecDepth 100000 in
theorem ml_X1_56 : Cond.methodLink RX1 56 yX1_link ∈ TB := TB_t4 22 rfl (by decide +kernel)
set_option maxRecDepth 100000 in
theorem ml_X1_63 : Cond.methodLink RX1 63 yX5_append ∈ TB := TB_t4 25 rfl (by decide +kernel)
set_option maxRecDepth 100000 in
theorem ml_L_81 : Cond.methodLink RL 81 yX11_fold ∈ TB := TB_t4 26 rfl (by decide +kernel)
set_option maxRecDepth 100000 in
theorem ml_X11_214 : Cond.methodLink RX11 214 yX2_apply ∈ TB := TB_t4 30 rfl (by decide +kernel)
set_option maxRecDepth 100000 in
theorem ml_X2_22 : Cond.methodLink RX2 22 yX5_trace ∈ TB := TB_t4 34 rfl (by decide +kernel)
set_option maxRecDepth 100000 in
theorem ml_X2_25 : Cond.methodLink RX2 25 yX5_clear ∈ TB := TB_t4 35 rfl (by decide +kernel)
set_option maxRecDepth 100000 in
theorem ml_X2_32 : Cond.methodLink RX2 32 yX2_joinGroup ∈ TB := TB_t4 36 rfl (by decide +kernel)
set_option maxRecDepth 100000 in
theorem ml_X2_47 : Cond.methodLink RX2 47 yX2_alike ∈ TB := TB_t4 40 rfl (by decide +kernel)
set_option maxRecDepth 100000 in
theorem ml_X2_58 : Cond.methodLink RX2 58 yX5_append ∈ TB := TB_t4 43 rfl (by decide +kernel)
set_option maxRecDepth 100000 in
theorem ml_X2_36 : Cond.methodLink RX2 36 yX2_mergeNexts ∈ TB := TB_t4 44 rfl (by decide +kernel)
set_option maxRecDepth 100000 in
theorem ml_X2_40 : Cond.methodLink RX2 40 yX5_copy ∈ TB := TB_t4 48 rfl (by decide +kernel)
set_option maxRecDepth 100000 in
theorem ml_L_85 : Cond.methodLink RL 85 yX11_sharpen ∈ TB := TB_t4 52 rfl (by decide +kernel)
set_option maxRecDepth 100000 in
theorem ml_X11_218 : Cond.methodLink RX11 218 yX6_apply ∈ TB := TB_t4 56 rfl (by decide +kernel)
set_option maxRecDepth 100000 in
theorem ml_X6_18 : Cond.methodLink RX6 18 yX5_copy ∈ TB := TB_t4 60 rfl (by decide +kernel)
set_option maxRecDepth 100000 in
theorem ml_X6_30 : Cond.methodLink RX6 30 yX6_drawFromAts ∈ TB := TB_t4 61 rfl (by decide +kernel)
set_option maxRecDepth 100000 in
theorem ml_X6_43 : Cond.methodLink RX6 43 yX6_makeSingle ∈ TB := TB_t4 65 rfl (by decide +kernel)
set_option maxRecDepth 100000 in
theorem ml_X6_47 : Cond.methodLink RX6 47 yX6_clearOthers ∈ TB := TB_t4 69 rfl (by decide +kernel)
set_option maxRecDepth 100000 in
theorem ml_X6_33 : Cond.methodLink RX6 33 yX6_drawFromNexts ∈ TB := TB_t4 73 rfl (by decide +kernel)
set_option maxRecDepth 100000 in
theorem ml_L_89 : Cond.methodLink RL 89 yX11_ways ∈ TB := TB_t4 77 rfl (by decide +kernel)
set_option maxRecDepth 100000 in
theorem ml_X11_220 : Cond.methodLink RX11 220 yX8_number ∈ TB := TB_t4 81 rfl (by decide +kernel)
set_option maxRecDepth 100000 in
theorem ml_X8_9 : Cond.methodLink RX8 9 yX8_goThrough ∈ TB := TB_t4 85 rfl (by decide +kernel)
set_option maxRecDepth 100000 in
theorem ml_X8_60 : Cond.methodLink RX8 60 yX5_holding ∈ TB := TB_t4 89 rfl (by decide +kernel)
set_option maxRecDepth 100000 in
theorem ml_X8_64 : Cond.methodLink RX8 64 yX8_meet ∈ TB := TB_t4 90 rfl (by decide +kernel)
set_option maxRecDepth 100000 in
theorem ml_L_93 : Cond.methodLink RL 93 yX11_split ∈ TB := TB_t4 94 rfl (by decide +kernel)
set_option maxRecDepth 100000 in
theorem ml_X11_224 : Cond.methodLink RX11 224 yX8_apply ∈ TB := TB_t4 98 rfl (by decide +kernel)
set_option maxRecDepth 100000 in
theorem ml_X8_23 : Cond.methodLink RX8 23 yX5_isFull ∈ TB := TB_t4 102 rfl (by decide +kernel)
set_option maxRecDepth 100000 in
theorem ml_X8_32 : Cond.methodLink RX8 32 yX8_appendOthersOf ∈ TB := TB_t4 103 rfl (by decide +kernel)
set_option maxRecDepth 100000 in
theorem ml_X8_71 : Cond.methodLink RX8 71 arraycopyName ∈ TB := TB_t4 106 rfl (by decide +kernel)
set_option maxRecDepth 100000 in
theorem ml_X8_77 : Cond.methodLink RX8 77 yX5_append ∈ TB := TB_t4 107 rfl (by decide +kernel)
set_option maxRecDepth 100000 in
theorem ml_X8_40 : Cond.methodLink RX8 40 yJ7_fill_53178 ∈ TB := TB_t4 108 rfl (by decide +kernel)
set_option maxRecDepth 100000 in
theorem ml_X8_46 : Cond.methodLink RX8 46 yX5_has ∈ TB := TB_t4 109 rfl (by decide +kernel)
set_option maxRecDepth 100000 in
theorem ml_L_97 : Cond.methodLink RL 97 yX11_run ∈ TB := TB_t4 110 rfl (by decide +kernel)
set_option maxRecDepth 100000 in
theorem ml_L_101 : Cond.methodLink RL 101 yX11_keep ∈ TB := TB_t4 115 rfl (by decide +kernel)
set_option maxRecDepth 100000 in
theorem ml_X11_228 : Cond.methodLink RX11 228 yX11_isImage ∈ TB := TB_t4 119 rfl (by decide +kernel)
set_option maxRecDepth 100000 in
theorem ml_X11_231 : Cond.methodLink RX11 231 yX5_copy ∈ TB := TB_t4 122 rfl (by decide +kernel)
set_option maxRecDepth 100000 in
theorem ml_L_105 : Cond.methodLink RL 105 yX11_back ∈ TB := TB_t4 123 rfl (by decide +kernel)
set_option maxRecDepth 100000 in
theorem ml_L_109 : Cond.methodLink RL 109 yX11_covers ∈ TB := TB_t4 127 rfl (by decide +kernel)
set_option maxRecDepth 100000 in
theorem ml_X11_235 : Cond.methodLink RX11 235 yX0_holds ∈ TB := TB_t4 131 rfl (by decide +kernel)
set_option maxRecDepth 100000 in
theorem ml_X0_18 : Cond.methodLink RX0 18 yJ7_fill_53178 ∈ TB := TB_t4 135 rfl (by decide +kernel)
set_option maxRecDepth 100000 in
theorem ml_X0_30 : Cond.methodLink RX0 30 yX0_tellFrom ∈ TB := TB_t4 136 rfl (by decide +kernel)
set_option maxRecDepth 100000 in
theorem ml_X0_34 : Cond.methodLink RX0 34 yX0_fits ∈ TB := TB_t4 140 rfl (by decide +kernel)
set_option maxRecDepth 100000 in
theorem ml_X0_45 : Cond.methodLink RX0 45 yX0_allows ∈ TB := TB_t4 144 rfl (by decide +kernel)
set_option maxRecDepth 100000 in
theorem ml_L_113 : Cond.methodLink RL 113 yX11_sheet ∈ TB := TB_t4 147 rfl (by decide +kernel)
set_option maxRecDepth 100000 in
theorem ml_X11_239 : Cond.methodLink RX11 239 yX11_isSheet ∈ TB := TB_t4 151 rfl (by decide +kernel)
set_option maxRecDepth 100000 in
theorem ml_X11_242 : Cond.methodLink RX11 242 yX11_isLane ∈ TB := TB_t4 154 rfl (by decide +kernel)
set_option maxRecDepth 100000 in
theorem ml_X11_245 : Cond.methodLink RX11 245 yX7_renew ∈ TB := TB_t4 157 rfl (by decide +kernel)
set_option maxRecDepth 100000 in
theorem ml_X7_23 : Cond.methodLink RX7 23 Lib.Math.min.name ∈ TB := TB_t4 161 rfl (by decide +kernel)
set_option maxRecDepth 100000 in
theorem ml_X7_29 : Cond.methodLink RX7 29 Lib.Math.max.name ∈ TB := TB_t4 162 rfl (by decide +kernel)
set_option maxRecDepth 100000 in
theorem ml_X7_35 : Cond.methodLink RX7 35 yJ7_fill_53178 ∈ TB := TB_t4 163 rfl (by decide +kernel)
set_option maxRecDepth 100000 in
theorem ml_L_117 : Cond.methodLink RL 117 yX11_lay ∈ TB := TB_t4 164 rfl (by decide +kernel)
set_option maxRecDepth 100000 in
theorem ml_X11_252 : Cond.methodLink RX11 252 yX7_findTaken ∈ TB := TB_t4 168 rfl (by decide +kernel)
set_option maxRecDepth 100000 in
theorem ml_X11_256 : Cond.methodLink RX11 256 yX7_put ∈ TB := TB_t4 172 rfl (by decide +kernel)
set_option maxRecDepth 100000 in
theorem ml_X7_41 : Cond.methodLink RX7 41 yX7_findTaken ∈ TB := TB_t4 176 rfl (by decide +kernel)
set_option maxRecDepth 100000 in
theorem ml_L_121 : Cond.methodLink RL 121 yX11_read ∈ TB := TB_t4 177 rfl (by decide +kernel)
set_option maxRecDepth 100000 in
theorem ml_L_126 : Cond.methodLink RL 126 yX11_torn ∈ TB := TB_t4 181 rfl (by decide +kernel)
set_option maxRecDepth 100000 in
theorem ml_L_130 : Cond.methodLink RL 130 yX11_count ∈ TB := TB_t4 185 rfl (by decide +kernel)
set_option maxRecDepth 100000 in
theorem ml_X11_265 : Cond.methodLink RX11 265 yX11_imagesKept ∈ TB := TB_t4 189 rfl (by decide +kernel)
set_option maxRecDepth 100000 in
theorem ml_X11_273 : Cond.methodLink RX11 273 yX10_itemsOfAll ∈ TB := TB_t4 193 rfl (by decide +kernel)
set_option maxRecDepth 100000 in
theorem ml_L_12 : Cond.methodLink RL 12 yX12_init ∈ TB := TB_t4 199 rfl (by decide +kernel)
set_option maxRecDepth 100000 in
theorem ml_X12_1 : Cond.methodLink RX12 1 Lib.objectInit ∈ TB := TB_t4 202 rfl (by decide +kernel)
set_option maxRecDepth 100000 in
theorem ml_L_17 : Cond.methodLink RL 17 yX12_feed ∈ TB := TB_t5 51 rfl (by decide +kernel)
set_option maxRecDepth 100000 in
theorem ml_X12_61 : Cond.methodLink RX12 61 yX12_in ∈ TB := TB_t5 56 rfl (by decide +kernel)
set_option maxRecDepth 100000 in
theorem ml_L_21 : Cond.methodLink RL 21 yX12_end ∈ TB := TB_t5 59 rfl (by decide +kernel)
set_option maxRecDepth 100000 in
theorem ml_L_26 : Cond.methodLink RL 26 yX12_text ∈ TB := TB_t5 63 rfl (by decide +kernel)
set_option maxRecDepth 100000 in
theorem ml_X12_108 : Cond.methodLink RX12 108 yX12_readsOn ∈ TB := TB_t5 67 rfl (by decide +kernel)
set_option maxRecDepth 100000 in
theorem ml_X12_84 : Cond.methodLink RX12 84 yX12_byteAt ∈ TB := TB_t5 71 rfl (by decide +kernel)
set_option maxRecDepth 100000 in
theorem ml_X12_99 : Cond.methodLink RX12 99 yX12_fails ∈ TB := TB_t5 79 rfl (by decide +kernel)
set_option maxRecDepth 100000 in
theorem ml_X12_156 : Cond.methodLink RX12 156 yX12_readLine ∈ TB := TB_t5 83 rfl (by decide +kernel)
set_option maxRecDepth 100000 in
theorem ml_X12_114 : Cond.methodLink RX12 114 yX12_nameHere ∈ TB := TB_t5 87 rfl (by decide +kernel)
set_option maxRecDepth 100000 in
theorem ml_X12_146 : Cond.methodLink RX12 146 yX12_readNode ∈ TB := TB_t5 91 rfl (by decide +kernel)
set_option maxRecDepth 100000 in
theorem ml_X12_149 : Cond.methodLink RX12 149 yX12_readTold ∈ TB := TB_t5 95 rfl (by decide +kernel)
set_option maxRecDepth 100000 in
theorem ml_X12_118 : Cond.methodLink RX12 118 yX12_variableRead ∈ TB := TB_t5 99 rfl (by decide +kernel)
set_option maxRecDepth 100000 in
theorem ml_X12_105 : Cond.methodLink RX12 105 yX12_letterRead ∈ TB := TB_t5 103 rfl (by decide +kernel)
set_option maxRecDepth 100000 in
theorem ml_X12_121 : Cond.methodLink RX12 121 yX12_nodeRead ∈ TB := TB_t5 108 rfl (by decide +kernel)
set_option maxRecDepth 100000 in
theorem ml_X12_124 : Cond.methodLink RX12 124 yX12_truthRead ∈ TB := TB_t5 112 rfl (by decide +kernel)
set_option maxRecDepth 100000 in
theorem ml_X12_153 : Cond.methodLink RX12 153 yX12_readAsk ∈ TB := TB_t5 116 rfl (by decide +kernel)
set_option maxRecDepth 100000 in
theorem ml_X12_139 : Cond.methodLink RX12 139 yX12_readLetters ∈ TB := TB_t5 120 rfl (by decide +kernel)
set_option maxRecDepth 100000 in
theorem ml_X12_142 : Cond.methodLink RX12 142 yX12_readItem ∈ TB := TB_t5 124 rfl (by decide +kernel)
set_option maxRecDepth 100000 in
theorem ml_X12_131 : Cond.methodLink RX12 131 yX12_toldRead ∈ TB := TB_t5 130 rfl (by decide +kernel)
set_option maxRecDepth 100000 in
theorem ml_X12_162 : Cond.methodLink RX12 162 yX12_copies ∈ TB := TB_t5 135 rfl (by decide +kernel)
set_option maxRecDepth 100000 in
theorem ml_L_30 : Cond.methodLink RL 30 yX12_fault ∈ TB := TB_t5 139 rfl (by decide +kernel)
set_option maxRecDepth 100000 in
theorem ml_L_34 : Cond.methodLink RL 34 yX12_rule ∈ TB := TB_t5 143 rfl (by decide +kernel)
set_option maxRecDepth 100000 in
theorem ml_X12_169 : Cond.methodLink RX12 169 yX12_nodes ∈ TB := TB_t5 147 rfl (by decide +kernel)
set_option maxRecDepth 100000 in
theorem ml_X12_184 : Cond.methodLink RX12 184 yX12_manyOf ∈ TB := TB_t5 151 rfl (by decide +kernel)
set_option maxRecDepth 100000 in
theorem ml_X12_188 : Cond.methodLink RX12 188 yX12_isHeap ∈ TB := TB_t5 155 rfl (by decide +kernel)
set_option maxRecDepth 100000 in
theorem ml_L_39 : Cond.methodLink RL 39 yX12_node ∈ TB := TB_t5 159 rfl (by decide +kernel)
set_option maxRecDepth 100000 in
theorem ml_X12_192 : Cond.methodLink RX12 192 yX12_isNode ∈ TB := TB_t5 163 rfl (by decide +kernel)
set_option maxRecDepth 100000 in
theorem ml_X12_198 : Cond.methodLink RX12 198 yX12_routesAll ∈ TB := TB_t5 168 rfl (by decide +kernel)
set_option maxRecDepth 100000 in
theorem ml_X12_172 : Cond.methodLink RX12 172 yX12_and ∈ TB := TB_t5 172 rfl (by decide +kernel)
set_option maxRecDepth 100000 in
theorem ml_X12_175 : Cond.methodLink RX12 175 yX12_or ∈ TB := TB_t5 175 rfl (by decide +kernel)
set_option maxRecDepth 100000 in
theorem ml_X12_178 : Cond.methodLink RX12 178 yX12_atOf ∈ TB := TB_t5 178 rfl (by decide +kernel)
set_option maxRecDepth 100000 in
theorem ml_X12_201 : Cond.methodLink RX12 201 yX12_reachOf ∈ TB := TB_t5 182 rfl (by decide +kernel)
set_option maxRecDepth 100000 in
theorem ml_X12_181 : Cond.methodLink RX12 181 yX12_sameOf ∈ TB := TB_t5 186 rfl (by decide +kernel)
set_option maxRecDepth 100000 in
theorem ml_L_44 : Cond.methodLink RL 44 yX12_pair ∈ TB := TB_t5 190 rfl (by decide +kernel)
set_option maxRecDepth 100000 in
theorem ml_X12_204 : Cond.methodLink RX12 204 yX12_nextOf ∈ TB := TB_t5 194 rfl (by decide +kernel)
set_option maxRecDepth 100000 in
theorem ml_L_48 : Cond.methodLink RL 48 yX12_held ∈ TB := TB_t5 198 rfl (by decide +kernel)
set_option maxRecDepth 100000 in
theorem ml_X12_207 : Cond.methodLink RX12 207 yX12_isVariable ∈ TB := TB_t5 202 rfl (by decide +kernel)
set_option maxRecDepth 100000 in
theorem ml_X12_210 : Cond.methodLink RX12 210 yX12_heldOf ∈ TB := TB_t5 205 rfl (by decide +kernel)
set_option maxRecDepth 100000 in
theorem ml_L_52 : Cond.methodLink RL 52 yX12_ask ∈ TB := TB_t5 209 rfl (by decide +kernel)
set_option maxRecDepth 100000 in
theorem ml_X12_229 : Cond.methodLink RX12 229 yX12_isFormula ∈ TB := TB_t5 213 rfl (by decide +kernel)
set_option maxRecDepth 100000 in
theorem ml_X12_216 : Cond.methodLink RX12 216 yX12_itemsOf ∈ TB := TB_t5 217 rfl (by decide +kernel)
set_option maxRecDepth 100000 in
theorem ml_X12_213 : Cond.methodLink RX12 213 yX12_told ∈ TB := TB_t5 221 rfl (by decide +kernel)
set_option maxRecDepth 100000 in
theorem ml_X12_219 : Cond.methodLink RX12 219 yX12_begins ∈ TB := TB_t5 225 rfl (by decide +kernel)
set_option maxRecDepth 100000 in
theorem ml_X12_232 : Cond.methodLink RX12 232 yX12_secondOf ∈ TB := TB_t5 229 rfl (by decide +kernel)
set_option maxRecDepth 100000 in
theorem ml_X12_226 : Cond.methodLink RX12 226 yX12_thirdOf ∈ TB := TB_t5 233 rfl (by decide +kernel)
set_option maxRecDepth 100000 in
theorem ml_X12_222 : Cond.methodLink RX12 222 yX12_joined ∈ TB := TB_t5 237 rfl (by decide +kernel)
set_option maxRecDepth 100000 in
theorem ml_L_56 : Cond.methodLink RL 56 yX12_formula ∈ TB := TB_t6 1 rfl (by decide +kernel)
set_option maxRecDepth 100000 in
theorem ml_L_60 : Cond.methodLink RL 60 yX12_add ∈ TB := TB_t6 5 rfl (by decide +kernel)
set_option maxRecDepth 100000 in
theorem ml_X12_235 : Cond.methodLink RX12 235 yX12_isFlag ∈ TB := TB_t6 9 rfl (by decide +kernel)
set_option maxRecDepth 100000 in
theorem ml_X12_238 : Cond.methodLink RX12 238 yX12_comes ∈ TB := TB_t6 12 rfl (by decide +kernel)
set_option maxRecDepth 100000 in
theorem ml_L_64 : Cond.methodLink RL 64 yX12_lose ∈ TB := TB_t6 16 rfl (by decide +kernel)
set_option maxRecDepth 100000 in
theorem ml_X12_241 : Cond.methodLink RX12 241 yX12_movesDown ∈ TB := TB_t6 20 rfl (by decide +kernel)
set_option maxRecDepth 100000 in
theorem ml_L_68 : Cond.methodLink RL 68 yX12_many ∈ TB := TB_t6 24 rfl (by decide +kernel)
set_option maxRecDepth 100000 in
theorem ml_X12_244 : Cond.methodLink RX12 244 yX12_becomes ∈ TB := TB_t6 28 rfl (by decide +kernel)
set_option maxRecDepth 100000 in
theorem ml_L_72 : Cond.methodLink RL 72 yX12_place ∈ TB := TB_t6 32 rfl (by decide +kernel)
set_option maxRecDepth 100000 in
theorem ml_L_76 : Cond.methodLink RL 76 yX12_lead ∈ TB := TB_t6 36 rfl (by decide +kernel)
set_option maxRecDepth 100000 in
theorem ml_L_80 : Cond.methodLink RL 80 yX12_deed ∈ TB := TB_t6 40 rfl (by decide +kernel)
set_option maxRecDepth 100000 in
theorem ml_X12_260 : Cond.methodLink RX12 260 yX12_does ∈ TB := TB_t6 44 rfl (by decide +kernel)
set_option maxRecDepth 100000 in
theorem ml_X12_250 : Cond.methodLink RX12 250 yX12_isAtAlone ∈ TB := TB_t6 49 rfl (by decide +kernel)
set_option maxRecDepth 100000 in
theorem ml_X12_253 : Cond.methodLink RX12 253 yX12_becomesNext ∈ TB := TB_t6 53 rfl (by decide +kernel)
set_option maxRecDepth 100000 in
theorem ml_X12_256 : Cond.methodLink RX12 256 yX12_leads ∈ TB := TB_t6 57 rfl (by decide +kernel)
set_option maxRecDepth 100000 in
theorem ml_L_84 : Cond.methodLink RL 84 yX12_fold ∈ TB := TB_t6 61 rfl (by decide +kernel)
set_option maxRecDepth 100000 in
theorem ml_X12_267 : Cond.methodLink RX12 267 yX12_grouped ∈ TB := TB_t6 65 rfl (by decide +kernel)
set_option maxRecDepth 100000 in
theorem ml_X12_263 : Cond.methodLink RX12 263 yX12_isAlike ∈ TB := TB_t6 69 rfl (by decide +kernel)
set_option maxRecDepth 100000 in
theorem ml_L_88 : Cond.methodLink RL 88 yX12_sharpen ∈ TB := TB_t6 73 rfl (by decide +kernel)
set_option maxRecDepth 100000 in
theorem ml_X12_278 : Cond.methodLink RX12 278 yX12_isSharper ∈ TB := TB_t6 77 rfl (by decide +kernel)
set_option maxRecDepth 100000 in
theorem ml_X12_274 : Cond.methodLink RX12 274 yX12_isAlone ∈ TB := TB_t6 81 rfl (by decide +kernel)
set_option maxRecDepth 100000 in
theorem ml_L_92 : Cond.methodLink RL 92 yX12_ways ∈ TB := TB_t6 85 rfl (by decide +kernel)
set_option maxRecDepth 100000 in
theorem ml_X12_281 : Cond.methodLink RX12 281 yX12_wayOf ∈ TB := TB_t6 89 rfl (by decide +kernel)
set_option maxRecDepth 100000 in
theorem ml_L_96 : Cond.methodLink RL 96 yX12_split ∈ TB := TB_t6 93 rfl (by decide +kernel)
set_option maxRecDepth 100000 in
theorem ml_X12_284 : Cond.methodLink RX12 284 yX12_twins ∈ TB := TB_t6 97 rfl (by decide +kernel)
set_option maxRecDepth 100000 in
theorem ml_L_100 : Cond.methodLink RL 100 yX12_run ∈ TB := TB_t6 101 rfl (by decide +kernel)
set_option maxRecDepth 100000 in
theorem ml_L_104 : Cond.methodLink RL 104 yX12_keep ∈ TB := TB_t6 107 rfl (by decide +kernel)
set_option maxRecDepth 100000 in
theorem ml_L_108 : Cond.methodLink RL 108 yX12_back ∈ TB := TB_t6 111 rfl (by decide +kernel)
set_option maxRecDepth 100000 in
theorem ml_L_112 : Cond.methodLink RL 112 yX12_covers ∈ TB := TB_t6 115 rfl (by decide +kernel)
set_option maxRecDepth 100000 in
theorem ml_X12_299 : Cond.methodLink RX12 299 yX12_isCovering ∈ TB := TB_t6 119 rfl (by decide +kernel)
set_option maxRecDepth 100000 in
theorem ml_X12_293 : Cond.methodLink RX12 293 yX12_isFitting ∈ TB := TB_t6 123 rfl (by decide +kernel)
set_option maxRecDepth 100000 in
theorem ml_X12_290 : Cond.methodLink RX12 290 yX12_isLike ∈ TB := TB_t6 127 rfl (by decide +kernel)
set_option maxRecDepth 100000 in
theorem ml_X12_296 : Cond.methodLink RX12 296 yX12_isOnto ∈ TB := TB_t6 131 rfl (by decide +kernel)
set_option maxRecDepth 100000 in
theorem ml_L_116 : Cond.methodLink RL 116 yX12_sheet ∈ TB := TB_t6 135 rfl (by decide +kernel)
set_option maxRecDepth 100000 in
theorem ml_L_120 : Cond.methodLink RL 120 yX12_lay ∈ TB := TB_t6 139 rfl (by decide +kernel)
set_option maxRecDepth 100000 in
theorem ml_L_125 : Cond.methodLink RL 125 yX12_read ∈ TB := TB_t6 143 rfl (by decide +kernel)
set_option maxRecDepth 100000 in
theorem ml_L_129 : Cond.methodLink RL 129 yX12_torn ∈ TB := TB_t6 148 rfl (by decide +kernel)
set_option maxRecDepth 100000 in
theorem ml_L_133 : Cond.methodLink RL 133 yX12_count ∈ TB := TB_t6 152 rfl (by decide +kernel)
set_option maxRecDepth 100000 in
theorem kc_X11_227 : Cond.constant RX11 227 1103515245 ∈ TB := TB_t4 114 rfl (by decide +kernel)
set_option maxRecDepth 100000 in
theorem kc_X12_289 : Cond.constant RX12 289 1103515245 ∈ TB := TB_t6 106 rfl (by decide +kernel)
set_option maxRecDepth 100000 in
theorem kl_X12_59 : Cond.constantLong RX12 59 127 ∈ TB := TB_t5 55 rfl (by decide +kernel)
set_option maxRecDepth 100000 in
theorem kl_X12_91 : Cond.constantLong RX12 91 97 ∈ TB := TB_t5 75 rfl (by decide +kernel)
set_option maxRecDepth 100000 in
theorem kl_X12_93 : Cond.constantLong RX12 93 122 ∈ TB := TB_t5 76 rfl (by decide +kernel)
set_option maxRecDepth 100000 in
theorem kl_X12_95 : Cond.constantLong RX12 95 48 ∈ TB := TB_t5 77 rfl (by decide +kernel)
set_option maxRecDepth 100000 in
theorem kl_X12_97 : Cond.constantLong RX12 97 57 ∈ TB := TB_t5 78 rfl (by decide +kernel)
set_option maxRecDepth 100000 in
theorem kl_X12_103 : Cond.constantLong RX12 103 2 ∈ TB := TB_t5 107 rfl (by decide +kernel)
set_option maxRecDepth 100000 in
theorem kl_X12_127 : Cond.constantLong RX12 127 7 ∈ TB := TB_t5 128 rfl (by decide +kernel)
set_option maxRecDepth 100000 in
theorem kl_X12_129 : Cond.constantLong RX12 129 4 ∈ TB := TB_t5 129 rfl (by decide +kernel)
set_option maxRecDepth 100000 in
theorem kl_X12_134 : Cond.constantLong RX12 134 3 ∈ TB := TB_t5 134 rfl (by decide +kernel)
set_option maxRecDepth 100000 in
theorem kl_X12_196 : Cond.constantLong RX12 196 6 ∈ TB := TB_t5 167 rfl (by decide +kernel)
set_option maxRecDepth 100000 in
theorem kl_X12_248 : Cond.constantLong RX12 248 5 ∈ TB := TB_t6 48 rfl (by decide +kernel)
set_option maxRecDepth 100000 in
theorem kl_X12_287 : Cond.constantLong RX12 287 20 ∈ TB := TB_t6 105 rfl (by decide +kernel)
set_option maxRecDepth 100000 in
theorem kl_X12_302 : Cond.constantLong RX12 302 13 ∈ TB := TB_t6 147 rfl (by decide +kernel)
set_option maxRecDepth 100000 in
theorem cl_L_7 : Cond.classLink RL 7 "FoldedHeaps" ∈ TB := TB_t1 21 rfl (by decide +kernel)
set_option maxRecDepth 100000 in
theorem cl_X11_7 : Cond.classLink RX11 7 "FoldedHeaps$Tape" ∈ TB := TB_t1 29 rfl (by decide +kernel)
set_option maxRecDepth 100000 in
theorem cl_X11_16 : Cond.classLink RX11 16 "FoldedHeaps$Reader" ∈ TB := TB_t1 55 rfl (by decide +kernel)
set_option maxRecDepth 100000 in
theorem cl_X4_9 : Cond.classLink RX4 9 "FoldedHeaps$Told" ∈ TB := TB_t1 61 rfl (by decide +kernel)
set_option maxRecDepth 100000 in
theorem cl_X10_9 : Cond.classLink RX10 9 "FoldedHeaps$Shape" ∈ TB := TB_t1 67 rfl (by decide +kernel)
set_option maxRecDepth 100000 in
theorem cl_X5_15 : Cond.classLink RX5 15 "[[I" ∈ TB := TB_t1 73 rfl (by decide +kernel)
set_option maxRecDepth 100000 in
theorem cl_X10_18 : Cond.classLink RX10 18 "FoldedHeaps$Formula" ∈ TB := TB_t1 130 rfl (by decide +kernel)
set_option maxRecDepth 100000 in
theorem cl_X11_23 : Cond.classLink RX11 23 "FoldedHeaps$Told" ∈ TB := TB_t1 212 rfl (by decide +kernel)
set_option maxRecDepth 100000 in
theorem cl_X11_30 : Cond.classLink RX11 30 "FoldedHeaps$Shape" ∈ TB := TB_t1 214 rfl (by decide +kernel)
set_option maxRecDepth 100000 in
theorem cl_X11_40 : Cond.classLink RX11 40 "FoldedHeaps$Sheet" ∈ TB := TB_t1 216 rfl (by decide +kernel)
set_option maxRecDepth 100000 in
theorem cl_X11_51 : Cond.classLink RX11 51 "FoldedHeaps$Deeds" ∈ TB := TB_t1 219 rfl (by decide +kernel)
set_option maxRecDepth 100000 in
theorem cl_X11_58 : Cond.classLink RX11 58 "FoldedHeaps$Folding" ∈ TB := TB_t1 229 rfl (by decide +kernel)
set_option maxRecDepth 100000 in
theorem cl_X2_9 : Cond.classLink RX2 9 "FoldedHeaps$Shape" ∈ TB := TB_t1 235 rfl (by decide +kernel)
set_option maxRecDepth 100000 in
theorem cl_X11_65 : Cond.classLink RX11 65 "FoldedHeaps$Sharpening" ∈ TB := TB_t2 4 rfl (by decide +kernel)
set_option maxRecDepth 100000 in
theorem cl_X6_9 : Cond.classLink RX6 9 "FoldedHeaps$Shape" ∈ TB := TB_t2 10 rfl (by decide +kernel)
set_option maxRecDepth 100000 in
theorem cl_X11_72 : Cond.classLink RX11 72 "FoldedHeaps$Splitting" ∈ TB := TB_t2 22 rfl (by decide +kernel)
set_option maxRecDepth 100000 in
theorem cl_X11_79 : Cond.classLink RX11 79 "FoldedHeaps$Cover" ∈ TB := TB_t2 41 rfl (by decide +kernel)
set_option maxRecDepth 100000 in
theorem cl_L_10 : Cond.classLink RL 10 "FoldedHeapsModel" ∈ TB := TB_t4 197 rfl (by decide +kernel)
set_option maxRecDepth 100000 in
theorem in_L : Cond.initialized RL ∈ TB := TB_t1 0 rfl (by decide +kernel)
set_option maxRecDepth 100000 in
theorem in_X11 : Cond.initialized RX11 ∈ TB := TB_t1 1 rfl (by decide +kernel)
set_option maxRecDepth 100000 in
theorem in_X9 : Cond.initialized RX9 ∈ TB := TB_t1 2 rfl (by decide +kernel)
set_option maxRecDepth 100000 in
theorem in_X4 : Cond.initialized RX4 ∈ TB := TB_t1 3 rfl (by decide +kernel)
set_option maxRecDepth 100000 in
theorem in_X10 : Cond.initialized RX10 ∈ TB := TB_t1 4 rfl (by decide +kernel)
set_option maxRecDepth 100000 in
theorem in_X5 : Cond.initialized RX5 ∈ TB := TB_t1 5 rfl (by decide +kernel)
set_option maxRecDepth 100000 in
theorem in_X3 : Cond.initialized RX3 ∈ TB := TB_t1 6 rfl (by decide +kernel)
set_option maxRecDepth 100000 in
theorem in_X1 : Cond.initialized RX1 ∈ TB := TB_t1 7 rfl (by decide +kernel)
set_option maxRecDepth 100000 in
theorem in_X2 : Cond.initialized RX2 ∈ TB := TB_t1 8 rfl (by decide +kernel)
set_option maxRecDepth 100000 in
theorem in_X6 : Cond.initialized RX6 ∈ TB := TB_t1 9 rfl (by decide +kernel)
set_option maxRecDepth 100000 in
theorem in_X8 : Cond.initialized RX8 ∈ TB := TB_t1 10 rfl (by decide +kernel)
set_option maxRecDepth 100000 in
theorem in_X0 : Cond.initialized RX0 ∈ TB := TB_t1 11 rfl (by decide +kernel)
set_option maxRecDepth 100000 in
theorem in_X7 : Cond.initialized RX7 ∈ TB := TB_t1 12 rfl (by decide +kernel)
set_option maxRecDepth 100000 in
theorem in_X12 : Cond.initialized RX12 ∈ TB := TB_t1 13 rfl (by decide +kernel)
set_option maxRecDepth 100000 in
theorem in_J7 : Cond.initialized RJ7 ∈ TB := TB_t1 14 rfl (by decide +kernel)
set_option maxRecDepth 100000 in
theorem in_J0 : Cond.initialized RJ0 ∈ TB := TB_t1 15 rfl (by decide +kernel)
set_option maxRecDepth 100000 in
theorem in_J1 : Cond.initialized RJ1 ∈ TB := TB_t1 16 rfl (by decide +kernel)
set_option maxRecDepth 100000 in
theorem in_J3 : Cond.initialized RJ3 ∈ TB := TB_t1 17 rfl (by decide +kernel)
set_option maxRecDepth 100000 in
theorem in_J2 : Cond.initialized RJ2 ∈ TB := TB_t1 18 rfl (by decide +kernel)
set_option maxRecDepth 100000 in
theorem in_J9 : Cond.initialized RJ9 ∈ TB := TB_t1 19 rfl (by decide +kernel)
set_option maxRecDepth 100000 in
theorem in_J10 : Cond.initialized RJ10 ∈ TB := TB_t1 20 rfl (by decide +kernel)
set_option maxRecDepth 100000 in
theorem ins_X11 : Cond.instantiable RX11 14 ∈ TB := TB_t1 22 rfl (by decide +kernel)
set_option maxRecDepth 100000 in
theorem ins_X9 : Cond.instantiable RX9 5 ∈ TB := TB_t1 30 rfl (by decide +kernel)
set_option maxRecDepth 100000 in
theorem ins_X4 : Cond.instantiable RX4 5 ∈ TB := TB_t1 56 rfl (by decide +kernel)
set_option maxRecDepth 100000 in
theorem ins_X10 : Cond.instantiable RX10 3 ∈ TB := TB_t1 62 rfl (by decide +kernel)
set_option maxRecDepth 100000 in
theorem ins_X5 : Cond.instantiable RX5 6 ∈ TB := TB_t1 68 rfl (by decide +kernel)
set_option maxRecDepth 100000 in
theorem ins_X3 : Cond.instantiable RX3 11 ∈ TB := TB_t1 132 rfl (by decide +kernel)
set_option maxRecDepth 100000 in
theorem ins_X1 : Cond.instantiable RX1 1 ∈ TB := TB_t1 220 rfl (by decide +kernel)
set_option maxRecDepth 100000 in
theorem ins_X2 : Cond.instantiable RX2 2 ∈ TB := TB_t1 230 rfl (by decide +kernel)
set_option maxRecDepth 100000 in
theorem ins_X6 : Cond.instantiable RX6 3 ∈ TB := TB_t2 5 rfl (by decide +kernel)
set_option maxRecDepth 100000 in
theorem ins_X8 : Cond.instantiable RX8 4 ∈ TB := TB_t2 23 rfl (by decide +kernel)
set_option maxRecDepth 100000 in
theorem ins_X0 : Cond.instantiable RX0 2 ∈ TB := TB_t2 42 rfl (by decide +kernel)
set_option maxRecDepth 100000 in
theorem ins_X7 : Cond.instantiable RX7 4 ∈ TB := TB_t2 54 rfl (by decide +kernel)
set_option maxRecDepth 100000 in
theorem ins_X12 : Cond.instantiable RX12 29 ∈ TB := TB_t4 198 rfl (by decide +kernel)
abbrev mX0_init : Md := (yX0_init, cX0_init, 1, none)
set_option maxRecDepth 100000 in
theorem pn_X0_init : (parseMethodDescriptor mX0_init.1.desc).map (fun d => d.parameters.length) = some 0 := by decide +kernel
set_option maxRecDepth 100000 in
theorem ok_X0_init : okI mX0_init := ⟨TB_t2 45 rfl (by decide +kernel), TB_t2 44 rfl (by decide +kernel), in_X0, ⟨by decide +kernel, by decide +kernel⟩, rfl, rfl⟩
abbrev mX0_holds : Md := (yX0_holds, cX0_holds, 3, (some .boolean))
set_option maxRecDepth 100000 in
theorem pn_X0_holds : (parseMethodDescriptor mX0_holds.1.desc).map (fun d => d.parameters.length) = some 2 := by decide +kernel
set_option maxRecDepth 100000 in
theorem ok_X0_holds : okV mX0_holds := ⟨TB_t4 134 rfl (by decide +kernel), TB_t4 132 rfl (by decide +kernel), TB_t4 133 rfl (by decide +kernel), in_X0, ⟨by decide +kernel, by decide +kernel⟩⟩
abbrev mX0_tellFrom : Md := (yX0_tellFrom, cX0_tellFrom, 7, (some .boolean))
set_option maxRecDepth 100000 in
theorem pn_X0_tellFrom : (parseMethodDescriptor mX0_tellFrom.1.desc).map (fun d => d.parameters.length) = some 4 := by decide +kernel
set_option maxRecDepth 100000 in
theorem ok_X0_tellFrom : okV mX0_tellFrom := ⟨TB_t4 139 rfl (by decide +kernel), TB_t4 138 rfl (by decide +kernel), TB_p 27 rfl (by decide +kernel), in_X0, ⟨by decide +kernel, by decide +kernel⟩⟩
abbrev mX0_fits : Md := (yX0_fits, cX0_fits, 7, (some .boolean))
set_option maxRecDepth 100000 in
theorem pn_X0_fits : (parseMethodDescriptor mX0_fits.1.desc).map (fun d => d.parameters.length) = some 4 := by decide +kernel
set_option maxRecDepth 100000 in
theorem ok_X0_fits : okV mX0_fits := ⟨TB_t4 143 rfl (by decide +kernel), TB_t4 142 rfl (by decide +kernel), TB_p 28 rfl (by decide +kernel), in_X0, ⟨by decide +kernel, by decide +kernel⟩⟩
abbrev mX0_allows : Md := (yX0_allows, cX0_allows, 2, (some .boolean))
set_option maxRecDepth 100000 in
theorem pn_X0_allows : (parseMethodDescriptor mX0_allows.1.desc).map (fun d => d.parameters.length) = some 2 := by decide +kernel
set_option maxRecDepth 100000 in
theorem ok_X0_allows : okS mX0_allows := ⟨TB_t4 146 rfl (by decide +kernel), TB_t4 145 rfl (by decide +kernel), in_X0, ⟨by decide +kernel, by decide +kernel⟩⟩
abbrev mX1_init : Md := (yX1_init, cX1_init, 1, none)
set_option maxRecDepth 100000 in
theorem pn_X1_init : (parseMethodDescriptor mX1_init.1.desc).map (fun d => d.parameters.length) = some 0 := by decide +kernel
set_option maxRecDepth 100000 in
theorem ok_X1_init : okI mX1_init := ⟨TB_t1 223 rfl (by decide +kernel), TB_t1 222 rfl (by decide +kernel), in_X1, ⟨by decide +kernel, by decide +kernel⟩, rfl, rfl⟩
abbrev mX1_perform : Md := (yX1_perform, cX1_perform, 6, (some .int))
set_option maxRecDepth 100000 in
theorem pn_X1_perform : (parseMethodDescriptor mX1_perform.1.desc).map (fun d => d.parameters.length) = some 4 := by decide +kernel
set_option maxRecDepth 100000 in
theorem ok_X1_perform : okV mX1_perform := ⟨TB_t4 1 rfl (by decide +kernel), TB_t3 239 rfl (by decide +kernel), TB_t4 0 rfl (by decide +kernel), in_X1, ⟨by decide +kernel, by decide +kernel⟩⟩
abbrev mX1_looksAtOther : Md := (yX1_looksAtOther, cX1_looksAtOther, 1, (some .boolean))
set_option maxRecDepth 100000 in
theorem pn_X1_looksAtOther : (parseMethodDescriptor mX1_looksAtOther.1.desc).map (fun d => d.parameters.length) = some 1 := by decide +kernel
set_option maxRecDepth 100000 in
theorem ok_X1_looksAtOther : okS mX1_looksAtOther := ⟨TB_t4 5 rfl (by decide +kernel), TB_t4 4 rfl (by decide +kernel), in_X1, ⟨by decide +kernel, by decide +kernel⟩⟩
abbrev mX1_answerAhead : Md := (yX1_answerAhead, cX1_answerAhead, 4, (some .int))
set_option maxRecDepth 100000 in
theorem pn_X1_answerAhead : (parseMethodDescriptor mX1_answerAhead.1.desc).map (fun d => d.parameters.length) = some 4 := by decide +kernel
set_option maxRecDepth 100000 in
theorem ok_X1_answerAhead : okS mX1_answerAhead := ⟨TB_t4 9 rfl (by decide +kernel), TB_t4 8 rfl (by decide +kernel), in_X1, ⟨by decide +kernel, by decide +kernel⟩⟩
abbrev mX1_follow : Md := (yX1_follow, cX1_follow, 6, none)
set_option maxRecDepth 100000 in
theorem pn_X1_follow : (parseMethodDescriptor mX1_follow.1.desc).map (fun d => d.parameters.length) = some 3 := by decide +kernel
set_option maxRecDepth 100000 in
theorem ok_X1_follow : okV mX1_follow := ⟨TB_t4 16 rfl (by decide +kernel), TB_t4 15 rfl (by decide +kernel), TB_p 18 rfl (by decide +kernel), in_X1, ⟨by decide +kernel, by decide +kernel⟩⟩
abbrev mX1_cut : Md := (yX1_cut, cX1_cut, 5, none)
set_option maxRecDepth 100000 in
theorem pn_X1_cut : (parseMethodDescriptor mX1_cut.1.desc).map (fun d => d.parameters.length) = some 2 := by decide +kernel
set_option maxRecDepth 100000 in
theorem ok_X1_cut : okS mX1_cut := ⟨TB_t4 21 rfl (by decide +kernel), TB_t4 20 rfl (by decide +kernel), in_X1, ⟨by decide +kernel, by decide +kernel⟩⟩
abbrev mX1_link : Md := (yX1_link, cX1_link, 6, none)
set_option maxRecDepth 100000 in
theorem pn_X1_link : (parseMethodDescriptor mX1_link.1.desc).map (fun d => d.parameters.length) = some 3 := by decide +kernel
set_option maxRecDepth 100000 in
theorem ok_X1_link : okS mX1_link := ⟨TB_t4 24 rfl (by decide +kernel), TB_t4 23 rfl (by decide +kernel), in_X1, ⟨by decide +kernel, by decide +kernel⟩⟩
abbrev mX2_init : Md := (yX2_init, cX2_init, 1, none)
set_option maxRecDepth 100000 in
theorem pn_X2_init : (parseMethodDescriptor mX2_init.1.desc).map (fun d => d.parameters.length) = some 0 := by decide +kernel
set_option maxRecDepth 100000 in
theorem ok_X2_init : okI mX2_init := ⟨TB_t1 233 rfl (by decide +kernel), TB_t1 232 rfl (by decide +kernel), in_X2, ⟨by decide +kernel, by decide +kernel⟩, rfl, rfl⟩
abbrev mX2_apply : Md := (yX2_apply, cX2_apply, 4, none)
set_option maxRecDepth 100000 in
theorem pn_X2_apply : (parseMethodDescriptor mX2_apply.1.desc).map (fun d => d.parameters.length) = some 2 := by decide +kernel
set_option maxRecDepth 100000 in
theorem ok_X2_apply : okV mX2_apply := ⟨TB_t4 33 rfl (by decide +kernel), TB_t4 31 rfl (by decide +kernel), TB_t4 32 rfl (by decide +kernel), in_X2, ⟨by decide +kernel, by decide +kernel⟩⟩
abbrev mX2_joinGroup : Md := (yX2_joinGroup, cX2_joinGroup, 5, none)
set_option maxRecDepth 100000 in
theorem pn_X2_joinGroup : (parseMethodDescriptor mX2_joinGroup.1.desc).map (fun d => d.parameters.length) = some 3 := by decide +kernel
set_option maxRecDepth 100000 in
theorem ok_X2_joinGroup : okV mX2_joinGroup := ⟨TB_t4 39 rfl (by decide +kernel), TB_t4 38 rfl (by decide +kernel), TB_p 19 rfl (by decide +kernel), in_X2, ⟨by decide +kernel, by decide +kernel⟩⟩
abbrev mX2_alike : Md := (yX2_alike, cX2_alike, 4, (some .boolean))
set_option maxRecDepth 100000 in
theorem pn_X2_alike : (parseMethodDescriptor mX2_alike.1.desc).map (fun d => d.parameters.length) = some 3 := by decide +kernel
set_option maxRecDepth 100000 in
theorem ok_X2_alike : okS mX2_alike := ⟨TB_t4 42 rfl (by decide +kernel), TB_t4 41 rfl (by decide +kernel), in_X2, ⟨by decide +kernel, by decide +kernel⟩⟩
abbrev mX2_mergeNexts : Md := (yX2_mergeNexts, cX2_mergeNexts, 6, none)
set_option maxRecDepth 100000 in
theorem pn_X2_mergeNexts : (parseMethodDescriptor mX2_mergeNexts.1.desc).map (fun d => d.parameters.length) = some 1 := by decide +kernel
set_option maxRecDepth 100000 in
theorem ok_X2_mergeNexts : okV mX2_mergeNexts := ⟨TB_t4 47 rfl (by decide +kernel), TB_t4 46 rfl (by decide +kernel), TB_p 20 rfl (by decide +kernel), in_X2, ⟨by decide +kernel, by decide +kernel⟩⟩
abbrev mX3_init : Md := (yX3_init, cX3_init, 1, none)
set_option maxRecDepth 100000 in
theorem pn_X3_init : (parseMethodDescriptor mX3_init.1.desc).map (fun d => d.parameters.length) = some 0 := by decide +kernel
set_option maxRecDepth 100000 in
theorem ok_X3_init : okI mX3_init := ⟨TB_t1 135 rfl (by decide +kernel), TB_t1 134 rfl (by decide +kernel), in_X3, ⟨by decide +kernel, by decide +kernel⟩, rfl, rfl⟩
abbrev mX3_clear : Md := (yX3_clear, cX3_clear, 1, none)
set_option maxRecDepth 100000 in
theorem pn_X3_clear : (parseMethodDescriptor mX3_clear.1.desc).map (fun d => d.parameters.length) = some 0 := by decide +kernel
set_option maxRecDepth 100000 in
theorem ok_X3_clear : okV mX3_clear := ⟨TB_t3 46 rfl (by decide +kernel), TB_t3 44 rfl (by decide +kernel), TB_t3 45 rfl (by decide +kernel), in_X3, ⟨by decide +kernel, by decide +kernel⟩⟩
abbrev mX3_placeOf : Md := (yX3_placeOf, cX3_placeOf, 3, (some .int))
set_option maxRecDepth 100000 in
theorem pn_X3_placeOf : (parseMethodDescriptor mX3_placeOf.1.desc).map (fun d => d.parameters.length) = some 1 := by decide +kernel
set_option maxRecDepth 100000 in
theorem ok_X3_placeOf : okV mX3_placeOf := ⟨TB_t3 56 rfl (by decide +kernel), TB_t3 54 rfl (by decide +kernel), TB_t3 55 rfl (by decide +kernel), in_X3, ⟨by decide +kernel, by decide +kernel⟩⟩
abbrev mX3_putLetter : Md := (yX3_putLetter, cX3_putLetter, 3, none)
set_option maxRecDepth 100000 in
theorem pn_X3_putLetter : (parseMethodDescriptor mX3_putLetter.1.desc).map (fun d => d.parameters.length) = some 2 := by decide +kernel
set_option maxRecDepth 100000 in
theorem ok_X3_putLetter : okV mX3_putLetter := ⟨TB_t3 60 rfl (by decide +kernel), TB_t3 58 rfl (by decide +kernel), TB_t3 59 rfl (by decide +kernel), in_X3, ⟨by decide +kernel, by decide +kernel⟩⟩
abbrev mX3_allBits : Md := (yX3_allBits, cX3_allBits, 3, (some .int))
set_option maxRecDepth 100000 in
theorem pn_X3_allBits : (parseMethodDescriptor mX3_allBits.1.desc).map (fun d => d.parameters.length) = some 0 := by decide +kernel
set_option maxRecDepth 100000 in
theorem ok_X3_allBits : okV mX3_allBits := ⟨TB_t3 197 rfl (by decide +kernel), TB_t3 195 rfl (by decide +kernel), TB_t3 196 rfl (by decide +kernel), in_X3, ⟨by decide +kernel, by decide +kernel⟩⟩
abbrev mX3_isFull : Md := (yX3_isFull, cX3_isFull, 1, (some .boolean))
set_option maxRecDepth 100000 in
theorem pn_X3_isFull : (parseMethodDescriptor mX3_isFull.1.desc).map (fun d => d.parameters.length) = some 0 := by decide +kernel
set_option maxRecDepth 100000 in
theorem ok_X3_isFull : okV mX3_isFull := ⟨TB_t3 76 rfl (by decide +kernel), TB_t3 74 rfl (by decide +kernel), TB_t3 75 rfl (by decide +kernel), in_X3, ⟨by decide +kernel, by decide +kernel⟩⟩
abbrev mX3_hasEnoughFor : Md := (yX3_hasEnoughFor, cX3_hasEnoughFor, 2, (some .boolean))
set_option maxRecDepth 100000 in
theorem pn_X3_hasEnoughFor : (parseMethodDescriptor mX3_hasEnoughFor.1.desc).map (fun d => d.parameters.length) = some 1 := by decide +kernel
set_option maxRecDepth 100000 in
theorem ok_X3_hasEnoughFor : okV mX3_hasEnoughFor := ⟨TB_t3 80 rfl (by decide +kernel), TB_t3 78 rfl (by decide +kernel), TB_t3 79 rfl (by decide +kernel), in_X3, ⟨by decide +kernel, by decide +kernel⟩⟩
abbrev mX3_putItem : Md := (yX3_putItem, cX3_putItem, 5, none)
set_option maxRecDepth 100000 in
theorem pn_X3_putItem : (parseMethodDescriptor mX3_putItem.1.desc).map (fun d => d.parameters.length) = some 3 := by decide +kernel
set_option maxRecDepth 100000 in
theorem ok_X3_putItem : okV mX3_putItem := ⟨TB_t3 91 rfl (by decide +kernel), TB_t3 89 rfl (by decide +kernel), TB_t3 90 rfl (by decide +kernel), in_X3, ⟨by decide +kernel, by decide +kernel⟩⟩
abbrev mX3_taken : Md := (yX3_taken, cX3_taken, 1, (some .int))
set_option maxRecDepth 100000 in
theorem pn_X3_taken : (parseMethodDescriptor mX3_taken.1.desc).map (fun d => d.parameters.length) = some 1 := by decide +kernel
set_option maxRecDepth 100000 in
theorem ok_X3_taken : okS mX3_taken := ⟨TB_t3 83 rfl (by decide +kernel), TB_t3 82 rfl (by decide +kernel), in_X3, ⟨by decide +kernel, by decide +kernel⟩⟩
abbrev mX3_worth : Md := (yX3_worth, cX3_worth, 2, (some .int))
set_option maxRecDepth 100000 in
theorem pn_X3_worth : (parseMethodDescriptor mX3_worth.1.desc).map (fun d => d.parameters.length) = some 1 := by decide +kernel
set_option maxRecDepth 100000 in
theorem ok_X3_worth : okV mX3_worth := ⟨TB_t3 175 rfl (by decide +kernel), TB_t3 173 rfl (by decide +kernel), TB_t3 174 rfl (by decide +kernel), in_X3, ⟨by decide +kernel, by decide +kernel⟩⟩
abbrev mX3_worthFrom : Md := (yX3_worthFrom, cX3_worthFrom, 7, (some .int))
set_option maxRecDepth 100000 in
theorem pn_X3_worthFrom : (parseMethodDescriptor mX3_worthFrom.1.desc).map (fun d => d.parameters.length) = some 2 := by decide +kernel
set_option maxRecDepth 100000 in
theorem ok_X3_worthFrom : okV mX3_worthFrom := ⟨TB_t3 179 rfl (by decide +kernel), TB_t3 178 rfl (by decide +kernel), TB_p 15 rfl (by decide +kernel), in_X3, ⟨by decide +kernel, by decide +kernel⟩⟩
abbrev mX3_worthOfItems : Md := (yX3_worthOfItems, cX3_worthOfItems, 5, (some .int))
set_option maxRecDepth 100000 in
theorem pn_X3_worthOfItems : (parseMethodDescriptor mX3_worthOfItems.1.desc).map (fun d => d.parameters.length) = some 1 := by decide +kernel
set_option maxRecDepth 100000 in
theorem ok_X3_worthOfItems : okV mX3_worthOfItems := ⟨TB_t3 183 rfl (by decide +kernel), TB_t3 182 rfl (by decide +kernel), TB_p 16 rfl (by decide +kernel), in_X3, ⟨by decide +kernel, by decide +kernel⟩⟩
abbrev mX3_truthOf : Md := (yX3_truthOf, cX3_truthOf, 5, (some .int))
set_option maxRecDepth 100000 in
theorem pn_X3_truthOf : (parseMethodDescriptor mX3_truthOf.1.desc).map (fun d => d.parameters.length) = some 4 := by decide +kernel
set_option maxRecDepth 100000 in
theorem ok_X3_truthOf : okV mX3_truthOf := ⟨TB_t3 188 rfl (by decide +kernel), TB_t3 187 rfl (by decide +kernel), TB_p 17 rfl (by decide +kernel), in_X3, ⟨by decide +kernel, by decide +kernel⟩⟩
abbrev mX4_init : Md := (yX4_init, cX4_init, 1, none)
set_option maxRecDepth 100000 in
theorem pn_X4_init : (parseMethodDescriptor mX4_init.1.desc).map (fun d => d.parameters.length) = some 0 := by decide +kernel
set_option maxRecDepth 100000 in
theorem ok_X4_init : okI mX4_init := ⟨TB_t1 59 rfl (by decide +kernel), TB_t1 58 rfl (by decide +kernel), in_X4, ⟨by decide +kernel, by decide +kernel⟩, rfl, rfl⟩
abbrev mX4_takes : Md := (yX4_takes, cX4_takes, 2, (some .boolean))
set_option maxRecDepth 100000 in
theorem pn_X4_takes : (parseMethodDescriptor mX4_takes.1.desc).map (fun d => d.parameters.length) = some 1 := by decide +kernel
set_option maxRecDepth 100000 in
theorem ok_X4_takes : okV mX4_takes := ⟨TB_t2 138 rfl (by decide +kernel), TB_t2 136 rfl (by decide +kernel), TB_t2 137 rfl (by decide +kernel), in_X4, ⟨by decide +kernel, by decide +kernel⟩⟩
abbrev mX4_refuse : Md := (yX4_refuse, cX4_refuse, 3, (some .boolean))
set_option maxRecDepth 100000 in
theorem pn_X4_refuse : (parseMethodDescriptor mX4_refuse.1.desc).map (fun d => d.parameters.length) = some 2 := by decide +kernel
set_option maxRecDepth 100000 in
theorem ok_X4_refuse : okV mX4_refuse := ⟨TB_t2 226 rfl (by decide +kernel), TB_t2 225 rfl (by decide +kernel), TB_p 2 rfl (by decide +kernel), in_X4, ⟨by decide +kernel, by decide +kernel⟩⟩
abbrev mX4_refuseToken : Md := (yX4_refuseToken, cX4_refuseToken, 2, (some .boolean))
set_option maxRecDepth 100000 in
theorem pn_X4_refuseToken : (parseMethodDescriptor mX4_refuseToken.1.desc).map (fun d => d.parameters.length) = some 1 := by decide +kernel
set_option maxRecDepth 100000 in
theorem ok_X4_refuseToken : okV mX4_refuseToken := ⟨TB_t3 3 rfl (by decide +kernel), TB_t3 2 rfl (by decide +kernel), TB_p 4 rfl (by decide +kernel), in_X4, ⟨by decide +kernel, by decide +kernel⟩⟩
abbrev mX4_takeLine : Md := (yX4_takeLine, cX4_takeLine, 2, (some .boolean))
set_option maxRecDepth 100000 in
theorem pn_X4_takeLine : (parseMethodDescriptor mX4_takeLine.1.desc).map (fun d => d.parameters.length) = some 1 := by decide +kernel
set_option maxRecDepth 100000 in
theorem ok_X4_takeLine : okV mX4_takeLine := ⟨TB_t2 161 rfl (by decide +kernel), TB_t2 160 rfl (by decide +kernel), TB_p 0 rfl (by decide +kernel), in_X4, ⟨by decide +kernel, by decide +kernel⟩⟩
abbrev mX4_takeNode : Md := (yX4_takeNode, cX4_takeNode, 3, (some .boolean))
set_option maxRecDepth 100000 in
theorem pn_X4_takeNode : (parseMethodDescriptor mX4_takeNode.1.desc).map (fun d => d.parameters.length) = some 2 := by decide +kernel
set_option maxRecDepth 100000 in
theorem ok_X4_takeNode : okV mX4_takeNode := ⟨TB_t2 218 rfl (by decide +kernel), TB_t2 217 rfl (by decide +kernel), TB_p 1 rfl (by decide +kernel), in_X4, ⟨by decide +kernel, by decide +kernel⟩⟩
abbrev mX4_takeAt : Md := (yX4_takeAt, cX4_takeAt, 4, (some .boolean))
set_option maxRecDepth 100000 in
theorem pn_X4_takeAt : (parseMethodDescriptor mX4_takeAt.1.desc).map (fun d => d.parameters.length) = some 1 := by decide +kernel
set_option maxRecDepth 100000 in
theorem ok_X4_takeAt : okV mX4_takeAt := ⟨TB_t3 9 rfl (by decide +kernel), TB_t3 8 rfl (by decide +kernel), TB_p 5 rfl (by decide +kernel), in_X4, ⟨by decide +kernel, by decide +kernel⟩⟩
abbrev mX4_takeNext : Md := (yX4_takeNext, cX4_takeNext, 4, (some .boolean))
set_option maxRecDepth 100000 in
theorem pn_X4_takeNext : (parseMethodDescriptor mX4_takeNext.1.desc).map (fun d => d.parameters.length) = some 1 := by decide +kernel
set_option maxRecDepth 100000 in
theorem ok_X4_takeNext : okV mX4_takeNext := ⟨TB_t3 37 rfl (by decide +kernel), TB_t3 36 rfl (by decide +kernel), TB_p 8 rfl (by decide +kernel), in_X4, ⟨by decide +kernel, by decide +kernel⟩⟩
abbrev mX4_takeAsk : Md := (yX4_takeAsk, cX4_takeAsk, 4, (some .boolean))
set_option maxRecDepth 100000 in
theorem pn_X4_takeAsk : (parseMethodDescriptor mX4_takeAsk.1.desc).map (fun d => d.parameters.length) = some 1 := by decide +kernel
set_option maxRecDepth 100000 in
theorem ok_X4_takeAsk : okV mX4_takeAsk := ⟨TB_t3 42 rfl (by decide +kernel), TB_t3 41 rfl (by decide +kernel), TB_p 9 rfl (by decide +kernel), in_X4, ⟨by decide +kernel, by decide +kernel⟩⟩
abbrev mX4_tellLetter : Md := (yX4_tellLetter, cX4_tellLetter, 5, (some .boolean))
set_option maxRecDepth 100000 in
theorem pn_X4_tellLetter : (parseMethodDescriptor mX4_tellLetter.1.desc).map (fun d => d.parameters.length) = some 2 := by decide +kernel
set_option maxRecDepth 100000 in
theorem ok_X4_tellLetter : okV mX4_tellLetter := ⟨TB_t3 52 rfl (by decide +kernel), TB_t3 51 rfl (by decide +kernel), TB_p 10 rfl (by decide +kernel), in_X4, ⟨by decide +kernel, by decide +kernel⟩⟩
abbrev mX4_takeItem : Md := (yX4_takeItem, cX4_takeItem, 6, (some .boolean))
set_option maxRecDepth 100000 in
theorem pn_X4_takeItem : (parseMethodDescriptor mX4_takeItem.1.desc).map (fun d => d.parameters.length) = some 2 := by decide +kernel
set_option maxRecDepth 100000 in
theorem ok_X4_takeItem : okV mX4_takeItem := ⟨TB_t3 64 rfl (by decide +kernel), TB_t3 63 rfl (by decide +kernel), TB_p 11 rfl (by decide +kernel), in_X4, ⟨by decide +kernel, by decide +kernel⟩⟩
abbrev mX4_itemKind : Md := (yX4_itemKind, cX4_itemKind, 1, (some .int))
set_option maxRecDepth 100000 in
theorem pn_X4_itemKind : (parseMethodDescriptor mX4_itemKind.1.desc).map (fun d => d.parameters.length) = some 1 := by decide +kernel
set_option maxRecDepth 100000 in
theorem ok_X4_itemKind : okS mX4_itemKind := ⟨TB_t3 67 rfl (by decide +kernel), TB_t3 66 rfl (by decide +kernel), in_X4, ⟨by decide +kernel, by decide +kernel⟩⟩
abbrev mX4_takeVariable : Md := (yX4_takeVariable, cX4_takeVariable, 3, (some .int))
set_option maxRecDepth 100000 in
theorem pn_X4_takeVariable : (parseMethodDescriptor mX4_takeVariable.1.desc).map (fun d => d.parameters.length) = some 1 := by decide +kernel
set_option maxRecDepth 100000 in
theorem ok_X4_takeVariable : okV mX4_takeVariable := ⟨TB_t3 13 rfl (by decide +kernel), TB_t3 12 rfl (by decide +kernel), TB_p 6 rfl (by decide +kernel), in_X4, ⟨by decide +kernel, by decide +kernel⟩⟩
abbrev mX4_takeLetter : Md := (yX4_takeLetter, cX4_takeLetter, 5, (some .int))
set_option maxRecDepth 100000 in
theorem pn_X4_takeLetter : (parseMethodDescriptor mX4_takeLetter.1.desc).map (fun d => d.parameters.length) = some 2 := by decide +kernel
set_option maxRecDepth 100000 in
theorem ok_X4_takeLetter : okV mX4_takeLetter := ⟨TB_t3 87 rfl (by decide +kernel), TB_t3 86 rfl (by decide +kernel), TB_p 12 rfl (by decide +kernel), in_X4, ⟨by decide +kernel, by decide +kernel⟩⟩
abbrev mX4_takeNodeNumber : Md := (yX4_takeNodeNumber, cX4_takeNodeNumber, 3, (some .int))
set_option maxRecDepth 100000 in
theorem pn_X4_takeNodeNumber : (parseMethodDescriptor mX4_takeNodeNumber.1.desc).map (fun d => d.parameters.length) = some 1 := by decide +kernel
set_option maxRecDepth 100000 in
theorem ok_X4_takeNodeNumber : okV mX4_takeNodeNumber := ⟨TB_t3 21 rfl (by decide +kernel), TB_t3 20 rfl (by decide +kernel), TB_p 7 rfl (by decide +kernel), in_X4, ⟨by decide +kernel, by decide +kernel⟩⟩
abbrev mX4_takeTruth : Md := (yX4_takeTruth, cX4_takeTruth, 1, (some .int))
set_option maxRecDepth 100000 in
theorem pn_X4_takeTruth : (parseMethodDescriptor mX4_takeTruth.1.desc).map (fun d => d.parameters.length) = some 1 := by decide +kernel
set_option maxRecDepth 100000 in
theorem ok_X4_takeTruth : okS mX4_takeTruth := ⟨TB_t3 31 rfl (by decide +kernel), TB_t3 30 rfl (by decide +kernel), in_X4, ⟨by decide +kernel, by decide +kernel⟩⟩
abbrev mX4_takeSign : Md := (yX4_takeSign, cX4_takeSign, 3, (some .boolean))
set_option maxRecDepth 100000 in
theorem pn_X4_takeSign : (parseMethodDescriptor mX4_takeSign.1.desc).map (fun d => d.parameters.length) = some 2 := by decide +kernel
set_option maxRecDepth 100000 in
theorem ok_X4_takeSign : okV mX4_takeSign := ⟨TB_t2 235 rfl (by decide +kernel), TB_t2 234 rfl (by decide +kernel), TB_p 3 rfl (by decide +kernel), in_X4, ⟨by decide +kernel, by decide +kernel⟩⟩
abbrev mX5_init : Md := (yX5_init, cX5_init, 1, none)
set_option maxRecDepth 100000 in
theorem pn_X5_init : (parseMethodDescriptor mX5_init.1.desc).map (fun d => d.parameters.length) = some 0 := by decide +kernel
set_option maxRecDepth 100000 in
theorem ok_X5_init : okI mX5_init := ⟨TB_t1 71 rfl (by decide +kernel), TB_t1 70 rfl (by decide +kernel), in_X5, ⟨by decide +kernel, by decide +kernel⟩, rfl, rfl⟩
abbrev mX5_has : Md := (yX5_has, cX5_has, 2, (some .boolean))
set_option maxRecDepth 100000 in
theorem pn_X5_has : (parseMethodDescriptor mX5_has.1.desc).map (fun d => d.parameters.length) = some 1 := by decide +kernel
set_option maxRecDepth 100000 in
theorem ok_X5_has : okV mX5_has := ⟨TB_t3 132 rfl (by decide +kernel), TB_t3 130 rfl (by decide +kernel), TB_t3 131 rfl (by decide +kernel), in_X5, ⟨by decide +kernel, by decide +kernel⟩⟩
abbrev mX5_isFull : Md := (yX5_isFull, cX5_isFull, 1, (some .boolean))
set_option maxRecDepth 100000 in
theorem pn_X5_isFull : (parseMethodDescriptor mX5_isFull.1.desc).map (fun d => d.parameters.length) = some 0 := by decide +kernel
set_option maxRecDepth 100000 in
theorem ok_X5_isFull : okV mX5_isFull := ⟨TB_t2 222 rfl (by decide +kernel), TB_t2 220 rfl (by decide +kernel), TB_t2 221 rfl (by decide +kernel), in_X5, ⟨by decide +kernel, by decide +kernel⟩⟩
abbrev mX5_clear : Md := (yX5_clear, cX5_clear, 2, none)
set_option maxRecDepth 100000 in
theorem pn_X5_clear : (parseMethodDescriptor mX5_clear.1.desc).map (fun d => d.parameters.length) = some 0 := by decide +kernel
set_option maxRecDepth 100000 in
theorem ok_X5_clear : okV mX5_clear := ⟨TB_t2 146 rfl (by decide +kernel), TB_t2 144 rfl (by decide +kernel), TB_t2 145 rfl (by decide +kernel), in_X5, ⟨by decide +kernel, by decide +kernel⟩⟩
abbrev mX5_copy : Md := (yX5_copy, cX5_copy, 3, none)
set_option maxRecDepth 100000 in
theorem pn_X5_copy : (parseMethodDescriptor mX5_copy.1.desc).map (fun d => d.parameters.length) = some 1 := by decide +kernel
set_option maxRecDepth 100000 in
theorem ok_X5_copy : okV mX5_copy := ⟨TB_t4 51 rfl (by decide +kernel), TB_t4 49 rfl (by decide +kernel), TB_t4 50 rfl (by decide +kernel), in_X5, ⟨by decide +kernel, by decide +kernel⟩⟩
abbrev mX5_append : Md := (yX5_append, cX5_append, 2, none)
set_option maxRecDepth 100000 in
theorem pn_X5_append : (parseMethodDescriptor mX5_append.1.desc).map (fun d => d.parameters.length) = some 1 := by decide +kernel
set_option maxRecDepth 100000 in
theorem ok_X5_append : okV mX5_append := ⟨TB_t2 230 rfl (by decide +kernel), TB_t2 228 rfl (by decide +kernel), TB_t2 229 rfl (by decide +kernel), in_X5, ⟨by decide +kernel, by decide +kernel⟩⟩
abbrev mX5_drop : Md := (yX5_drop, cX5_drop, 3, none)
set_option maxRecDepth 100000 in
theorem pn_X5_drop : (parseMethodDescriptor mX5_drop.1.desc).map (fun d => d.parameters.length) = some 1 := by decide +kernel
set_option maxRecDepth 100000 in
theorem ok_X5_drop : okV mX5_drop := ⟨TB_t3 214 rfl (by decide +kernel), TB_t3 212 rfl (by decide +kernel), TB_t3 213 rfl (by decide +kernel), in_X5, ⟨by decide +kernel, by decide +kernel⟩⟩
abbrev mX5_closeGap : Md := (yX5_closeGap, cX5_closeGap, 2, none)
set_option maxRecDepth 100000 in
theorem pn_X5_closeGap : (parseMethodDescriptor mX5_closeGap.1.desc).map (fun d => d.parameters.length) = some 2 := by decide +kernel
set_option maxRecDepth 100000 in
theorem ok_X5_closeGap : okS mX5_closeGap := ⟨TB_t3 218 rfl (by decide +kernel), TB_t3 217 rfl (by decide +kernel), in_X5, ⟨by decide +kernel, by decide +kernel⟩⟩
abbrev mX5_sameness : Md := (yX5_sameness, cX5_sameness, 3, (some .int))
set_option maxRecDepth 100000 in
theorem pn_X5_sameness : (parseMethodDescriptor mX5_sameness.1.desc).map (fun d => d.parameters.length) = some 2 := by decide +kernel
set_option maxRecDepth 100000 in
theorem ok_X5_sameness : okV mX5_sameness := ⟨TB_t3 151 rfl (by decide +kernel), TB_t3 149 rfl (by decide +kernel), TB_t3 150 rfl (by decide +kernel), in_X5, ⟨by decide +kernel, by decide +kernel⟩⟩
abbrev mX5_holding : Md := (yX5_holding, cX5_holding, 4, (some .int))
set_option maxRecDepth 100000 in
theorem pn_X5_holding : (parseMethodDescriptor mX5_holding.1.desc).map (fun d => d.parameters.length) = some 1 := by decide +kernel
set_option maxRecDepth 100000 in
theorem ok_X5_holding : okV mX5_holding := ⟨TB_t3 167 rfl (by decide +kernel), TB_t3 165 rfl (by decide +kernel), TB_t3 166 rfl (by decide +kernel), in_X5, ⟨by decide +kernel, by decide +kernel⟩⟩
abbrev mX5_manys : Md := (yX5_manys, cX5_manys, 3, (some .int))
set_option maxRecDepth 100000 in
theorem pn_X5_manys : (parseMethodDescriptor mX5_manys.1.desc).map (fun d => d.parameters.length) = some 0 := by decide +kernel
set_option maxRecDepth 100000 in
theorem ok_X5_manys : okV mX5_manys := ⟨TB_t3 105 rfl (by decide +kernel), TB_t3 103 rfl (by decide +kernel), TB_t3 104 rfl (by decide +kernel), in_X5, ⟨by decide +kernel, by decide +kernel⟩⟩
abbrev mX5_atsThatAre : Md := (yX5_atsThatAre, cX5_atsThatAre, 4, (some .int))
set_option maxRecDepth 100000 in
theorem pn_X5_atsThatAre : (parseMethodDescriptor mX5_atsThatAre.1.desc).map (fun d => d.parameters.length) = some 1 := by decide +kernel
set_option maxRecDepth 100000 in
theorem ok_X5_atsThatAre : okV mX5_atsThatAre := ⟨TB_t3 109 rfl (by decide +kernel), TB_t3 107 rfl (by decide +kernel), TB_t3 108 rfl (by decide +kernel), in_X5, ⟨by decide +kernel, by decide +kernel⟩⟩
abbrev mX5_nextsThatAre : Md := (yX5_nextsThatAre, cX5_nextsThatAre, 4, (some .int))
set_option maxRecDepth 100000 in
theorem pn_X5_nextsThatAre : (parseMethodDescriptor mX5_nextsThatAre.1.desc).map (fun d => d.parameters.length) = some 1 := by decide +kernel
set_option maxRecDepth 100000 in
theorem ok_X5_nextsThatAre : okV mX5_nextsThatAre := ⟨TB_t3 117 rfl (by decide +kernel), TB_t3 115 rfl (by decide +kernel), TB_t3 116 rfl (by decide +kernel), in_X5, ⟨by decide +kernel, by decide +kernel⟩⟩
abbrev mX5_cellsThatAre : Md := (yX5_cellsThatAre, cX5_cellsThatAre, 5, (some .int))
set_option maxRecDepth 100000 in
theorem pn_X5_cellsThatAre : (parseMethodDescriptor mX5_cellsThatAre.1.desc).map (fun d => d.parameters.length) = some 2 := by decide +kernel
set_option maxRecDepth 100000 in
theorem ok_X5_cellsThatAre : okV mX5_cellsThatAre := ⟨TB_t3 113 rfl (by decide +kernel), TB_t3 112 rfl (by decide +kernel), TB_p 13 rfl (by decide +kernel), in_X5, ⟨by decide +kernel, by decide +kernel⟩⟩
abbrev mX5_isHeap : Md := (yX5_isHeap, cX5_isHeap, 3, (some .boolean))
set_option maxRecDepth 100000 in
theorem pn_X5_isHeap : (parseMethodDescriptor mX5_isHeap.1.desc).map (fun d => d.parameters.length) = some 0 := by decide +kernel
set_option maxRecDepth 100000 in
theorem ok_X5_isHeap : okV mX5_isHeap := ⟨TB_t3 121 rfl (by decide +kernel), TB_t3 119 rfl (by decide +kernel), TB_t3 120 rfl (by decide +kernel), in_X5, ⟨by decide +kernel, by decide +kernel⟩⟩
abbrev mX5_trace : Md := (yX5_trace, cX5_trace, 4, none)
set_option maxRecDepth 100000 in
theorem pn_X5_trace : (parseMethodDescriptor mX5_trace.1.desc).map (fun d => d.parameters.length) = some 0 := by decide +kernel
set_option maxRecDepth 100000 in
theorem ok_X5_trace : okV mX5_trace := ⟨TB_t3 136 rfl (by decide +kernel), TB_t3 134 rfl (by decide +kernel), TB_t3 135 rfl (by decide +kernel), in_X5, ⟨by decide +kernel, by decide +kernel⟩⟩
abbrev mX5_reaching : Md := (yX5_reaching, cX5_reaching, 6, (some .int))
set_option maxRecDepth 100000 in
theorem pn_X5_reaching : (parseMethodDescriptor mX5_reaching.1.desc).map (fun d => d.parameters.length) = some 2 := by decide +kernel
set_option maxRecDepth 100000 in
theorem ok_X5_reaching : okV mX5_reaching := ⟨TB_t3 147 rfl (by decide +kernel), TB_t3 146 rfl (by decide +kernel), TB_p 14 rfl (by decide +kernel), in_X5, ⟨by decide +kernel, by decide +kernel⟩⟩
abbrev mX6_init : Md := (yX6_init, cX6_init, 1, none)
set_option maxRecDepth 100000 in
theorem pn_X6_init : (parseMethodDescriptor mX6_init.1.desc).map (fun d => d.parameters.length) = some 0 := by decide +kernel
set_option maxRecDepth 100000 in
theorem ok_X6_init : okI mX6_init := ⟨TB_t2 8 rfl (by decide +kernel), TB_t2 7 rfl (by decide +kernel), in_X6, ⟨by decide +kernel, by decide +kernel⟩, rfl, rfl⟩
abbrev mX6_apply : Md := (yX6_apply, cX6_apply, 4, (some .int))
set_option maxRecDepth 100000 in
theorem pn_X6_apply : (parseMethodDescriptor mX6_apply.1.desc).map (fun d => d.parameters.length) = some 1 := by decide +kernel
set_option maxRecDepth 100000 in
theorem ok_X6_apply : okV mX6_apply := ⟨TB_t4 59 rfl (by decide +kernel), TB_t4 57 rfl (by decide +kernel), TB_t4 58 rfl (by decide +kernel), in_X6, ⟨by decide +kernel, by decide +kernel⟩⟩
abbrev mX6_drawFromAts : Md := (yX6_drawFromAts, cX6_drawFromAts, 3, none)
set_option maxRecDepth 100000 in
theorem pn_X6_drawFromAts : (parseMethodDescriptor mX6_drawFromAts.1.desc).map (fun d => d.parameters.length) = some 0 := by decide +kernel
set_option maxRecDepth 100000 in
theorem ok_X6_drawFromAts : okV mX6_drawFromAts := ⟨TB_t4 64 rfl (by decide +kernel), TB_t4 63 rfl (by decide +kernel), TB_p 21 rfl (by decide +kernel), in_X6, ⟨by decide +kernel, by decide +kernel⟩⟩
abbrev mX6_drawFromNexts : Md := (yX6_drawFromNexts, cX6_drawFromNexts, 3, none)
set_option maxRecDepth 100000 in
theorem pn_X6_drawFromNexts : (parseMethodDescriptor mX6_drawFromNexts.1.desc).map (fun d => d.parameters.length) = some 0 := by decide +kernel
set_option maxRecDepth 100000 in
theorem ok_X6_drawFromNexts : okV mX6_drawFromNexts := ⟨TB_t4 76 rfl (by decide +kernel), TB_t4 75 rfl (by decide +kernel), TB_p 24 rfl (by decide +kernel), in_X6, ⟨by decide +kernel, by decide +kernel⟩⟩
abbrev mX6_makeSingle : Md := (yX6_makeSingle, cX6_makeSingle, 2, none)
set_option maxRecDepth 100000 in
theorem pn_X6_makeSingle : (parseMethodDescriptor mX6_makeSingle.1.desc).map (fun d => d.parameters.length) = some 1 := by decide +kernel
set_option maxRecDepth 100000 in
theorem ok_X6_makeSingle : okV mX6_makeSingle := ⟨TB_t4 68 rfl (by decide +kernel), TB_t4 67 rfl (by decide +kernel), TB_p 22 rfl (by decide +kernel), in_X6, ⟨by decide +kernel, by decide +kernel⟩⟩
abbrev mX6_clearOthers : Md := (yX6_clearOthers, cX6_clearOthers, 4, none)
set_option maxRecDepth 100000 in
theorem pn_X6_clearOthers : (parseMethodDescriptor mX6_clearOthers.1.desc).map (fun d => d.parameters.length) = some 2 := by decide +kernel
set_option maxRecDepth 100000 in
theorem ok_X6_clearOthers : okV mX6_clearOthers := ⟨TB_t4 72 rfl (by decide +kernel), TB_t4 71 rfl (by decide +kernel), TB_p 23 rfl (by decide +kernel), in_X6, ⟨by decide +kernel, by decide +kernel⟩⟩
abbrev mX7_init : Md := (yX7_init, cX7_init, 1, none)
set_option maxRecDepth 100000 in
theorem pn_X7_init : (parseMethodDescriptor mX7_init.1.desc).map (fun d => d.parameters.length) = some 0 := by decide +kernel
set_option maxRecDepth 100000 in
theorem ok_X7_init : okI mX7_init := ⟨TB_t2 57 rfl (by decide +kernel), TB_t2 56 rfl (by decide +kernel), in_X7, ⟨by decide +kernel, by decide +kernel⟩, rfl, rfl⟩
abbrev mX7_renew : Md := (yX7_renew, cX7_renew, 3, none)
set_option maxRecDepth 100000 in
theorem pn_X7_renew : (parseMethodDescriptor mX7_renew.1.desc).map (fun d => d.parameters.length) = some 2 := by decide +kernel
set_option maxRecDepth 100000 in
theorem ok_X7_renew : okV mX7_renew := ⟨TB_t4 160 rfl (by decide +kernel), TB_t4 158 rfl (by decide +kernel), TB_t4 159 rfl (by decide +kernel), in_X7, ⟨by decide +kernel, by decide +kernel⟩⟩
abbrev mX7_findTaken : Md := (yX7_findTaken, cX7_findTaken, 4, (some .int))
set_option maxRecDepth 100000 in
theorem pn_X7_findTaken : (parseMethodDescriptor mX7_findTaken.1.desc).map (fun d => d.parameters.length) = some 3 := by decide +kernel
set_option maxRecDepth 100000 in
theorem ok_X7_findTaken : okV mX7_findTaken := ⟨TB_t4 171 rfl (by decide +kernel), TB_t4 169 rfl (by decide +kernel), TB_t4 170 rfl (by decide +kernel), in_X7, ⟨by decide +kernel, by decide +kernel⟩⟩
abbrev mX7_put : Md := (yX7_put, cX7_put, 3, none)
set_option maxRecDepth 100000 in
theorem pn_X7_put : (parseMethodDescriptor mX7_put.1.desc).map (fun d => d.parameters.length) = some 2 := by decide +kernel
set_option maxRecDepth 100000 in
theorem ok_X7_put : okV mX7_put := ⟨TB_t4 175 rfl (by decide +kernel), TB_t4 173 rfl (by decide +kernel), TB_t4 174 rfl (by decide +kernel), in_X7, ⟨by decide +kernel, by decide +kernel⟩⟩
abbrev mX8_init : Md := (yX8_init, cX8_init, 1, none)
set_option maxRecDepth 100000 in
theorem pn_X8_init : (parseMethodDescriptor mX8_init.1.desc).map (fun d => d.parameters.length) = some 0 := by decide +kernel
set_option maxRecDepth 100000 in
theorem ok_X8_init : okI mX8_init := ⟨TB_t2 26 rfl (by decide +kernel), TB_t2 25 rfl (by decide +kernel), in_X8, ⟨by decide +kernel, by decide +kernel⟩, rfl, rfl⟩
abbrev mX8_number : Md := (yX8_number, cX8_number, 3, (some .int))
set_option maxRecDepth 100000 in
theorem pn_X8_number : (parseMethodDescriptor mX8_number.1.desc).map (fun d => d.parameters.length) = some 2 := by decide +kernel
set_option maxRecDepth 100000 in
theorem ok_X8_number : okV mX8_number := ⟨TB_t4 84 rfl (by decide +kernel), TB_t4 82 rfl (by decide +kernel), TB_t4 83 rfl (by decide +kernel), in_X8, ⟨by decide +kernel, by decide +kernel⟩⟩
abbrev mX8_apply : Md := (yX8_apply, cX8_apply, 4, (some .int))
set_option maxRecDepth 100000 in
theorem pn_X8_apply : (parseMethodDescriptor mX8_apply.1.desc).map (fun d => d.parameters.length) = some 3 := by decide +kernel
set_option maxRecDepth 100000 in
theorem ok_X8_apply : okV mX8_apply := ⟨TB_t4 101 rfl (by decide +kernel), TB_t4 99 rfl (by decide +kernel), TB_t4 100 rfl (by decide +kernel), in_X8, ⟨by decide +kernel, by decide +kernel⟩⟩
abbrev mX8_goThrough : Md := (yX8_goThrough, cX8_goThrough, 6, none)
set_option maxRecDepth 100000 in
theorem pn_X8_goThrough : (parseMethodDescriptor mX8_goThrough.1.desc).map (fun d => d.parameters.length) = some 3 := by decide +kernel
set_option maxRecDepth 100000 in
theorem ok_X8_goThrough : okV mX8_goThrough := ⟨TB_t4 88 rfl (by decide +kernel), TB_t4 87 rfl (by decide +kernel), TB_p 25 rfl (by decide +kernel), in_X8, ⟨by decide +kernel, by decide +kernel⟩⟩
abbrev mX8_meet : Md := (yX8_meet, cX8_meet, 3, none)
set_option maxRecDepth 100000 in
theorem pn_X8_meet : (parseMethodDescriptor mX8_meet.1.desc).map (fun d => d.parameters.length) = some 2 := by decide +kernel
set_option maxRecDepth 100000 in
theorem ok_X8_meet : okV mX8_meet := ⟨TB_t4 93 rfl (by decide +kernel), TB_t4 92 rfl (by decide +kernel), TB_p 26 rfl (by decide +kernel), in_X8, ⟨by decide +kernel, by decide +kernel⟩⟩
abbrev mX8_appendOthersOf : Md := (yX8_appendOthersOf, cX8_appendOthersOf, 4, none)
set_option maxRecDepth 100000 in
theorem pn_X8_appendOthersOf : (parseMethodDescriptor mX8_appendOthersOf.1.desc).map (fun d => d.parameters.length) = some 2 := by decide +kernel
set_option maxRecDepth 100000 in
theorem ok_X8_appendOthersOf : okS mX8_appendOthersOf := ⟨TB_t4 105 rfl (by decide +kernel), TB_t4 104 rfl (by decide +kernel), in_X8, ⟨by decide +kernel, by decide +kernel⟩⟩
abbrev mX9_init : Md := (yX9_init, cX9_init, 1, none)
set_option maxRecDepth 100000 in
theorem pn_X9_init : (parseMethodDescriptor mX9_init.1.desc).map (fun d => d.parameters.length) = some 0 := by decide +kernel
set_option maxRecDepth 100000 in
theorem ok_X9_init : okI mX9_init := ⟨TB_t1 33 rfl (by decide +kernel), TB_t1 32 rfl (by decide +kernel), in_X9, ⟨by decide +kernel, by decide +kernel⟩, rfl, rfl⟩
abbrev mX9_put : Md := (yX9_put, cX9_put, 2, (some .boolean))
set_option maxRecDepth 100000 in
theorem pn_X9_put : (parseMethodDescriptor mX9_put.1.desc).map (fun d => d.parameters.length) = some 1 := by decide +kernel
set_option maxRecDepth 100000 in
theorem ok_X9_put : okV mX9_put := ⟨TB_t2 126 rfl (by decide +kernel), TB_t2 124 rfl (by decide +kernel), TB_t2 125 rfl (by decide +kernel), in_X9, ⟨by decide +kernel, by decide +kernel⟩⟩
abbrev mX9_rewind : Md := (yX9_rewind, cX9_rewind, 1, none)
set_option maxRecDepth 100000 in
theorem pn_X9_rewind : (parseMethodDescriptor mX9_rewind.1.desc).map (fun d => d.parameters.length) = some 0 := by decide +kernel
set_option maxRecDepth 100000 in
theorem ok_X9_rewind : okV mX9_rewind := ⟨TB_t2 153 rfl (by decide +kernel), TB_t2 151 rfl (by decide +kernel), TB_t2 152 rfl (by decide +kernel), in_X9, ⟨by decide +kernel, by decide +kernel⟩⟩
abbrev mX9_advance : Md := (yX9_advance, cX9_advance, 1, none)
set_option maxRecDepth 100000 in
theorem pn_X9_advance : (parseMethodDescriptor mX9_advance.1.desc).map (fun d => d.parameters.length) = some 0 := by decide +kernel
set_option maxRecDepth 100000 in
theorem ok_X9_advance : okV mX9_advance := ⟨TB_t2 157 rfl (by decide +kernel), TB_t2 155 rfl (by decide +kernel), TB_t2 156 rfl (by decide +kernel), in_X9, ⟨by decide +kernel, by decide +kernel⟩⟩
abbrev mX9_isSign : Md := (yX9_isSign, cX9_isSign, 2, (some .boolean))
set_option maxRecDepth 100000 in
theorem pn_X9_isSign : (parseMethodDescriptor mX9_isSign.1.desc).map (fun d => d.parameters.length) = some 1 := by decide +kernel
set_option maxRecDepth 100000 in
theorem ok_X9_isSign : okV mX9_isSign := ⟨TB_t2 239 rfl (by decide +kernel), TB_t2 237 rfl (by decide +kernel), TB_t2 238 rfl (by decide +kernel), in_X9, ⟨by decide +kernel, by decide +kernel⟩⟩
abbrev mX9_isName : Md := (yX9_isName, cX9_isName, 3, (some .boolean))
set_option maxRecDepth 100000 in
theorem pn_X9_isName : (parseMethodDescriptor mX9_isName.1.desc).map (fun d => d.parameters.length) = some 1 := by decide +kernel
set_option maxRecDepth 100000 in
theorem ok_X9_isName : okV mX9_isName := ⟨TB_t2 166 rfl (by decide +kernel), TB_t2 164 rfl (by decide +kernel), TB_t2 165 rfl (by decide +kernel), in_X9, ⟨by decide +kernel, by decide +kernel⟩⟩
abbrev mX9_oneOfThree : Md := (yX9_oneOfThree, cX9_oneOfThree, 3, (some .int))
set_option maxRecDepth 100000 in
theorem pn_X9_oneOfThree : (parseMethodDescriptor mX9_oneOfThree.1.desc).map (fun d => d.parameters.length) = some 1 := by decide +kernel
set_option maxRecDepth 100000 in
theorem ok_X9_oneOfThree : okV mX9_oneOfThree := ⟨TB_t3 17 rfl (by decide +kernel), TB_t3 15 rfl (by decide +kernel), TB_t3 16 rfl (by decide +kernel), in_X9, ⟨by decide +kernel, by decide +kernel⟩⟩
abbrev mX9_number : Md := (yX9_number, cX9_number, 3, (some .int))
set_option maxRecDepth 100000 in
theorem pn_X9_number : (parseMethodDescriptor mX9_number.1.desc).map (fun d => d.parameters.length) = some 0 := by decide +kernel
set_option maxRecDepth 100000 in
theorem ok_X9_number : okV mX9_number := ⟨TB_t3 25 rfl (by decide +kernel), TB_t3 23 rfl (by decide +kernel), TB_t3 24 rfl (by decide +kernel), in_X9, ⟨by decide +kernel, by decide +kernel⟩⟩
abbrev mX10_init : Md := (yX10_init, cX10_init, 2, none)
set_option maxRecDepth 100000 in
theorem pn_X10_init : (parseMethodDescriptor mX10_init.1.desc).map (fun d => d.parameters.length) = some 0 := by decide +kernel
set_option maxRecDepth 100000 in
theorem ok_X10_init : okI mX10_init := ⟨TB_t1 65 rfl (by decide +kernel), TB_t1 64 rfl (by decide +kernel), in_X10, ⟨by decide +kernel, by decide +kernel⟩, rfl, rfl⟩
abbrev mX10_clear : Md := (yX10_clear, cX10_clear, 1, none)
set_option maxRecDepth 100000 in
theorem pn_X10_clear : (parseMethodDescriptor mX10_clear.1.desc).map (fun d => d.parameters.length) = some 0 := by decide +kernel
set_option maxRecDepth 100000 in
theorem ok_X10_clear : okV mX10_clear := ⟨TB_t2 142 rfl (by decide +kernel), TB_t2 140 rfl (by decide +kernel), TB_t2 141 rfl (by decide +kernel), in_X10, ⟨by decide +kernel, by decide +kernel⟩⟩
abbrev mX10_itemsOfAll : Md := (yX10_itemsOfAll, cX10_itemsOfAll, 3, (some .int))
set_option maxRecDepth 100000 in
theorem pn_X10_itemsOfAll : (parseMethodDescriptor mX10_itemsOfAll.1.desc).map (fun d => d.parameters.length) = some 0 := by decide +kernel
set_option maxRecDepth 100000 in
theorem ok_X10_itemsOfAll : okV mX10_itemsOfAll := ⟨TB_t4 196 rfl (by decide +kernel), TB_t4 194 rfl (by decide +kernel), TB_t4 195 rfl (by decide +kernel), in_X10, ⟨by decide +kernel, by decide +kernel⟩⟩
abbrev mX11_init : Md := (yX11_init, cX11_init, 2, none)
set_option maxRecDepth 100000 in
theorem pn_X11_init : (parseMethodDescriptor mX11_init.1.desc).map (fun d => d.parameters.length) = some 0 := by decide +kernel
set_option maxRecDepth 100000 in
theorem ok_X11_init : okI mX11_init := ⟨TB_t1 25 rfl (by decide +kernel), TB_t1 24 rfl (by decide +kernel), in_X11, ⟨by decide +kernel, by decide +kernel⟩, rfl, rfl⟩
abbrev mX11_feed : Md := (yX11_feed, cX11_feed, 2, (some .int))
set_option maxRecDepth 100000 in
theorem pn_X11_feed : (parseMethodDescriptor mX11_feed.1.desc).map (fun d => d.parameters.length) = some 1 := by decide +kernel
set_option maxRecDepth 100000 in
theorem ok_X11_feed : okV mX11_feed := ⟨TB_t2 122 rfl (by decide +kernel), TB_t2 120 rfl (by decide +kernel), TB_t2 121 rfl (by decide +kernel), in_X11, ⟨by decide +kernel, by decide +kernel⟩⟩
abbrev mX11_end : Md := (yX11_end, cX11_end, 3, (some .int))
set_option maxRecDepth 100000 in
theorem pn_X11_end : (parseMethodDescriptor mX11_end.1.desc).map (fun d => d.parameters.length) = some 1 := by decide +kernel
set_option maxRecDepth 100000 in
theorem ok_X11_end : okV mX11_end := ⟨TB_t2 130 rfl (by decide +kernel), TB_t2 128 rfl (by decide +kernel), TB_t2 129 rfl (by decide +kernel), in_X11, ⟨by decide +kernel, by decide +kernel⟩⟩
abbrev mX11_text : Md := (yX11_text, cX11_text, 4, (some .int))
set_option maxRecDepth 100000 in
theorem pn_X11_text : (parseMethodDescriptor mX11_text.1.desc).map (fun d => d.parameters.length) = some 0 := by decide +kernel
set_option maxRecDepth 100000 in
theorem ok_X11_text : okV mX11_text := ⟨TB_t2 134 rfl (by decide +kernel), TB_t2 132 rfl (by decide +kernel), TB_t2 133 rfl (by decide +kernel), in_X11, ⟨by decide +kernel, by decide +kernel⟩⟩
abbrev mX11_fault : Md := (yX11_fault, cX11_fault, 1, (some .int))
set_option maxRecDepth 100000 in
theorem pn_X11_fault : (parseMethodDescriptor mX11_fault.1.desc).map (fun d => d.parameters.length) = some 0 := by decide +kernel
set_option maxRecDepth 100000 in
theorem ok_X11_fault : okV mX11_fault := ⟨TB_t3 97 rfl (by decide +kernel), TB_t3 95 rfl (by decide +kernel), TB_t3 96 rfl (by decide +kernel), in_X11, ⟨by decide +kernel, by decide +kernel⟩⟩
abbrev mX11_rule : Md := (yX11_rule, cX11_rule, 3, (some .int))
set_option maxRecDepth 100000 in
theorem pn_X11_rule : (parseMethodDescriptor mX11_rule.1.desc).map (fun d => d.parameters.length) = some 1 := by decide +kernel
set_option maxRecDepth 100000 in
theorem ok_X11_rule : okV mX11_rule := ⟨TB_t3 101 rfl (by decide +kernel), TB_t3 99 rfl (by decide +kernel), TB_t3 100 rfl (by decide +kernel), in_X11, ⟨by decide +kernel, by decide +kernel⟩⟩
abbrev mX11_node : Md := (yX11_node, cX11_node, 4, (some .int))
set_option maxRecDepth 100000 in
theorem pn_X11_node : (parseMethodDescriptor mX11_node.1.desc).map (fun d => d.parameters.length) = some 2 := by decide +kernel
set_option maxRecDepth 100000 in
theorem ok_X11_node : okV mX11_node := ⟨TB_t3 128 rfl (by decide +kernel), TB_t3 126 rfl (by decide +kernel), TB_t3 127 rfl (by decide +kernel), in_X11, ⟨by decide +kernel, by decide +kernel⟩⟩
abbrev mX11_pair : Md := (yX11_pair, cX11_pair, 5, (some .int))
set_option maxRecDepth 100000 in
theorem pn_X11_pair : (parseMethodDescriptor mX11_pair.1.desc).map (fun d => d.parameters.length) = some 3 := by decide +kernel
set_option maxRecDepth 100000 in
theorem ok_X11_pair : okV mX11_pair := ⟨TB_t3 155 rfl (by decide +kernel), TB_t3 153 rfl (by decide +kernel), TB_t3 154 rfl (by decide +kernel), in_X11, ⟨by decide +kernel, by decide +kernel⟩⟩
abbrev mX11_held : Md := (yX11_held, cX11_held, 2, (some .int))
set_option maxRecDepth 100000 in
theorem pn_X11_held : (parseMethodDescriptor mX11_held.1.desc).map (fun d => d.parameters.length) = some 1 := by decide +kernel
set_option maxRecDepth 100000 in
theorem ok_X11_held : okV mX11_held := ⟨TB_t3 160 rfl (by decide +kernel), TB_t3 158 rfl (by decide +kernel), TB_t3 159 rfl (by decide +kernel), in_X11, ⟨by decide +kernel, by decide +kernel⟩⟩
abbrev mX11_ask : Md := (yX11_ask, cX11_ask, 2, (some .int))
set_option maxRecDepth 100000 in
theorem pn_X11_ask : (parseMethodDescriptor mX11_ask.1.desc).map (fun d => d.parameters.length) = some 1 := by decide +kernel
set_option maxRecDepth 100000 in
theorem ok_X11_ask : okV mX11_ask := ⟨TB_t3 171 rfl (by decide +kernel), TB_t3 169 rfl (by decide +kernel), TB_t3 170 rfl (by decide +kernel), in_X11, ⟨by decide +kernel, by decide +kernel⟩⟩
abbrev mX11_formula : Md := (yX11_formula, cX11_formula, 4, (some .int))
set_option maxRecDepth 100000 in
theorem pn_X11_formula : (parseMethodDescriptor mX11_formula.1.desc).map (fun d => d.parameters.length) = some 2 := by decide +kernel
set_option maxRecDepth 100000 in
theorem ok_X11_formula : okV mX11_formula := ⟨TB_t3 193 rfl (by decide +kernel), TB_t3 191 rfl (by decide +kernel), TB_t3 192 rfl (by decide +kernel), in_X11, ⟨by decide +kernel, by decide +kernel⟩⟩
abbrev mX11_add : Md := (yX11_add, cX11_add, 2, (some .int))
set_option maxRecDepth 100000 in
theorem pn_X11_add : (parseMethodDescriptor mX11_add.1.desc).map (fun d => d.parameters.length) = some 1 := by decide +kernel
set_option maxRecDepth 100000 in
theorem ok_X11_add : okV mX11_add := ⟨TB_t3 201 rfl (by decide +kernel), TB_t3 199 rfl (by decide +kernel), TB_t3 200 rfl (by decide +kernel), in_X11, ⟨by decide +kernel, by decide +kernel⟩⟩
abbrev mX11_lose : Md := (yX11_lose, cX11_lose, 2, (some .int))
set_option maxRecDepth 100000 in
theorem pn_X11_lose : (parseMethodDescriptor mX11_lose.1.desc).map (fun d => d.parameters.length) = some 1 := by decide +kernel
set_option maxRecDepth 100000 in
theorem ok_X11_lose : okV mX11_lose := ⟨TB_t3 210 rfl (by decide +kernel), TB_t3 208 rfl (by decide +kernel), TB_t3 209 rfl (by decide +kernel), in_X11, ⟨by decide +kernel, by decide +kernel⟩⟩
abbrev mX11_many : Md := (yX11_many, cX11_many, 4, (some .int))
set_option maxRecDepth 100000 in
theorem pn_X11_many : (parseMethodDescriptor mX11_many.1.desc).map (fun d => d.parameters.length) = some 2 := by decide +kernel
set_option maxRecDepth 100000 in
theorem ok_X11_many : okV mX11_many := ⟨TB_t3 222 rfl (by decide +kernel), TB_t3 220 rfl (by decide +kernel), TB_t3 221 rfl (by decide +kernel), in_X11, ⟨by decide +kernel, by decide +kernel⟩⟩
abbrev mX11_place : Md := (yX11_place, cX11_place, 5, (some .int))
set_option maxRecDepth 100000 in
theorem pn_X11_place : (parseMethodDescriptor mX11_place.1.desc).map (fun d => d.parameters.length) = some 3 := by decide +kernel
set_option maxRecDepth 100000 in
theorem ok_X11_place : okV mX11_place := ⟨TB_t3 226 rfl (by decide +kernel), TB_t3 224 rfl (by decide +kernel), TB_t3 225 rfl (by decide +kernel), in_X11, ⟨by decide +kernel, by decide +kernel⟩⟩
abbrev mX11_lead : Md := (yX11_lead, cX11_lead, 5, (some .int))
set_option maxRecDepth 100000 in
theorem pn_X11_lead : (parseMethodDescriptor mX11_lead.1.desc).map (fun d => d.parameters.length) = some 3 := by decide +kernel
set_option maxRecDepth 100000 in
theorem ok_X11_lead : okV mX11_lead := ⟨TB_t3 233 rfl (by decide +kernel), TB_t3 231 rfl (by decide +kernel), TB_t3 232 rfl (by decide +kernel), in_X11, ⟨by decide +kernel, by decide +kernel⟩⟩
abbrev mX11_deed : Md := (yX11_deed, cX11_deed, 4, (some .int))
set_option maxRecDepth 100000 in
theorem pn_X11_deed : (parseMethodDescriptor mX11_deed.1.desc).map (fun d => d.parameters.length) = some 3 := by decide +kernel
set_option maxRecDepth 100000 in
theorem ok_X11_deed : okV mX11_deed := ⟨TB_t3 237 rfl (by decide +kernel), TB_t3 235 rfl (by decide +kernel), TB_t3 236 rfl (by decide +kernel), in_X11, ⟨by decide +kernel, by decide +kernel⟩⟩
abbrev mX11_fold : Md := (yX11_fold, cX11_fold, 2, (some .int))
set_option maxRecDepth 100000 in
theorem pn_X11_fold : (parseMethodDescriptor mX11_fold.1.desc).map (fun d => d.parameters.length) = some 1 := by decide +kernel
set_option maxRecDepth 100000 in
theorem ok_X11_fold : okV mX11_fold := ⟨TB_t4 29 rfl (by decide +kernel), TB_t4 27 rfl (by decide +kernel), TB_t4 28 rfl (by decide +kernel), in_X11, ⟨by decide +kernel, by decide +kernel⟩⟩
abbrev mX11_sharpen : Md := (yX11_sharpen, cX11_sharpen, 1, (some .int))
set_option maxRecDepth 100000 in
theorem pn_X11_sharpen : (parseMethodDescriptor mX11_sharpen.1.desc).map (fun d => d.parameters.length) = some 0 := by decide +kernel
set_option maxRecDepth 100000 in
theorem ok_X11_sharpen : okV mX11_sharpen := ⟨TB_t4 55 rfl (by decide +kernel), TB_t4 53 rfl (by decide +kernel), TB_t4 54 rfl (by decide +kernel), in_X11, ⟨by decide +kernel, by decide +kernel⟩⟩
abbrev mX11_ways : Md := (yX11_ways, cX11_ways, 2, (some .int))
set_option maxRecDepth 100000 in
theorem pn_X11_ways : (parseMethodDescriptor mX11_ways.1.desc).map (fun d => d.parameters.length) = some 1 := by decide +kernel
set_option maxRecDepth 100000 in
theorem ok_X11_ways : okV mX11_ways := ⟨TB_t4 80 rfl (by decide +kernel), TB_t4 78 rfl (by decide +kernel), TB_t4 79 rfl (by decide +kernel), in_X11, ⟨by decide +kernel, by decide +kernel⟩⟩
abbrev mX11_split : Md := (yX11_split, cX11_split, 3, (some .int))
set_option maxRecDepth 100000 in
theorem pn_X11_split : (parseMethodDescriptor mX11_split.1.desc).map (fun d => d.parameters.length) = some 2 := by decide +kernel
set_option maxRecDepth 100000 in
theorem ok_X11_split : okV mX11_split := ⟨TB_t4 97 rfl (by decide +kernel), TB_t4 95 rfl (by decide +kernel), TB_t4 96 rfl (by decide +kernel), in_X11, ⟨by decide +kernel, by decide +kernel⟩⟩
abbrev mX11_run : Md := (yX11_run, cX11_run, 8, (some .int))
set_option maxRecDepth 100000 in
theorem pn_X11_run : (parseMethodDescriptor mX11_run.1.desc).map (fun d => d.parameters.length) = some 2 := by decide +kernel
set_option maxRecDepth 100000 in
theorem ok_X11_run : okV mX11_run := ⟨TB_t4 113 rfl (by decide +kernel), TB_t4 111 rfl (by decide +kernel), TB_t4 112 rfl (by decide +kernel), in_X11, ⟨by decide +kernel, by decide +kernel⟩⟩
abbrev mX11_keep : Md := (yX11_keep, cX11_keep, 3, (some .int))
set_option maxRecDepth 100000 in
theorem pn_X11_keep : (parseMethodDescriptor mX11_keep.1.desc).map (fun d => d.parameters.length) = some 1 := by decide +kernel
set_option maxRecDepth 100000 in
theorem ok_X11_keep : okV mX11_keep := ⟨TB_t4 118 rfl (by decide +kernel), TB_t4 116 rfl (by decide +kernel), TB_t4 117 rfl (by decide +kernel), in_X11, ⟨by decide +kernel, by decide +kernel⟩⟩
abbrev mX11_back : Md := (yX11_back, cX11_back, 2, (some .int))
set_option maxRecDepth 100000 in
theorem pn_X11_back : (parseMethodDescriptor mX11_back.1.desc).map (fun d => d.parameters.length) = some 1 := by decide +kernel
set_option maxRecDepth 100000 in
theorem ok_X11_back : okV mX11_back := ⟨TB_t4 126 rfl (by decide +kernel), TB_t4 124 rfl (by decide +kernel), TB_t4 125 rfl (by decide +kernel), in_X11, ⟨by decide +kernel, by decide +kernel⟩⟩
abbrev mX11_covers : Md := (yX11_covers, cX11_covers, 4, (some .int))
set_option maxRecDepth 100000 in
theorem pn_X11_covers : (parseMethodDescriptor mX11_covers.1.desc).map (fun d => d.parameters.length) = some 2 := by decide +kernel
set_option maxRecDepth 100000 in
theorem ok_X11_covers : okV mX11_covers := ⟨TB_t4 130 rfl (by decide +kernel), TB_t4 128 rfl (by decide +kernel), TB_t4 129 rfl (by decide +kernel), in_X11, ⟨by decide +kernel, by decide +kernel⟩⟩
abbrev mX11_sheet : Md := (yX11_sheet, cX11_sheet, 4, (some .int))
set_option maxRecDepth 100000 in
theorem pn_X11_sheet : (parseMethodDescriptor mX11_sheet.1.desc).map (fun d => d.parameters.length) = some 3 := by decide +kernel
set_option maxRecDepth 100000 in
theorem ok_X11_sheet : okV mX11_sheet := ⟨TB_t4 150 rfl (by decide +kernel), TB_t4 148 rfl (by decide +kernel), TB_t4 149 rfl (by decide +kernel), in_X11, ⟨by decide +kernel, by decide +kernel⟩⟩
abbrev mX11_lay : Md := (yX11_lay, cX11_lay, 5, (some .int))
set_option maxRecDepth 100000 in
theorem pn_X11_lay : (parseMethodDescriptor mX11_lay.1.desc).map (fun d => d.parameters.length) = some 3 := by decide +kernel
set_option maxRecDepth 100000 in
theorem ok_X11_lay : okV mX11_lay := ⟨TB_t4 167 rfl (by decide +kernel), TB_t4 165 rfl (by decide +kernel), TB_t4 166 rfl (by decide +kernel), in_X11, ⟨by decide +kernel, by decide +kernel⟩⟩
abbrev mX11_read : Md := (yX11_read, cX11_read, 11, (some .int))
set_option maxRecDepth 100000 in
theorem pn_X11_read : (parseMethodDescriptor mX11_read.1.desc).map (fun d => d.parameters.length) = some 4 := by decide +kernel
set_option maxRecDepth 100000 in
theorem ok_X11_read : okV mX11_read := ⟨TB_t4 180 rfl (by decide +kernel), TB_t4 178 rfl (by decide +kernel), TB_t4 179 rfl (by decide +kernel), in_X11, ⟨by decide +kernel, by decide +kernel⟩⟩
abbrev mX11_torn : Md := (yX11_torn, cX11_torn, 1, (some .int))
set_option maxRecDepth 100000 in
theorem pn_X11_torn : (parseMethodDescriptor mX11_torn.1.desc).map (fun d => d.parameters.length) = some 0 := by decide +kernel
set_option maxRecDepth 100000 in
theorem ok_X11_torn : okV mX11_torn := ⟨TB_t4 184 rfl (by decide +kernel), TB_t4 182 rfl (by decide +kernel), TB_t4 183 rfl (by decide +kernel), in_X11, ⟨by decide +kernel, by decide +kernel⟩⟩
abbrev mX11_count : Md := (yX11_count, cX11_count, 2, (some .int))
set_option maxRecDepth 100000 in
theorem pn_X11_count : (parseMethodDescriptor mX11_count.1.desc).map (fun d => d.parameters.length) = some 1 := by decide +kernel
set_option maxRecDepth 100000 in
theorem ok_X11_count : okV mX11_count := ⟨TB_t4 188 rfl (by decide +kernel), TB_t4 186 rfl (by decide +kernel), TB_t4 187 rfl (by decide +kernel), in_X11, ⟨by decide +kernel, by decide +kernel⟩⟩
abbrev mX11_imagesKept : Md := (yX11_imagesKept, cX11_imagesKept, 3, (some .int))
set_option maxRecDepth 100000 in
theorem pn_X11_imagesKept : (parseMethodDescriptor mX11_imagesKept.1.desc).map (fun d => d.parameters.length) = some 0 := by decide +kernel
set_option maxRecDepth 100000 in
theorem ok_X11_imagesKept : okV mX11_imagesKept := ⟨TB_t4 192 rfl (by decide +kernel), TB_t4 191 rfl (by decide +kernel), TB_p 29 rfl (by decide +kernel), in_X11, ⟨by decide +kernel, by decide +kernel⟩⟩
abbrev mX11_isVariable : Md := (yX11_isVariable, cX11_isVariable, 1, (some .boolean))
set_option maxRecDepth 100000 in
theorem pn_X11_isVariable : (parseMethodDescriptor mX11_isVariable.1.desc).map (fun d => d.parameters.length) = some 1 := by decide +kernel
set_option maxRecDepth 100000 in
theorem ok_X11_isVariable : okS mX11_isVariable := ⟨TB_t3 163 rfl (by decide +kernel), TB_t3 162 rfl (by decide +kernel), in_X11, ⟨by decide +kernel, by decide +kernel⟩⟩
abbrev mX11_isTruth : Md := (yX11_isTruth, cX11_isTruth, 1, (some .boolean))
set_option maxRecDepth 100000 in
theorem pn_X11_isTruth : (parseMethodDescriptor mX11_isTruth.1.desc).map (fun d => d.parameters.length) = some 1 := by decide +kernel
set_option maxRecDepth 100000 in
theorem ok_X11_isTruth : okS mX11_isTruth := ⟨TB_t3 229 rfl (by decide +kernel), TB_t3 228 rfl (by decide +kernel), in_X11, ⟨by decide +kernel, by decide +kernel⟩⟩
abbrev mX11_isSwitch : Md := (yX11_isSwitch, cX11_isSwitch, 1, (some .boolean))
set_option maxRecDepth 100000 in
theorem pn_X11_isSwitch : (parseMethodDescriptor mX11_isSwitch.1.desc).map (fun d => d.parameters.length) = some 1 := by decide +kernel
set_option maxRecDepth 100000 in
theorem ok_X11_isSwitch : okS mX11_isSwitch := ⟨TB_t3 204 rfl (by decide +kernel), TB_t3 203 rfl (by decide +kernel), in_X11, ⟨by decide +kernel, by decide +kernel⟩⟩
abbrev mX11_isImage : Md := (yX11_isImage, cX11_isImage, 1, (some .boolean))
set_option maxRecDepth 100000 in
theorem pn_X11_isImage : (parseMethodDescriptor mX11_isImage.1.desc).map (fun d => d.parameters.length) = some 1 := by decide +kernel
set_option maxRecDepth 100000 in
theorem ok_X11_isImage : okS mX11_isImage := ⟨TB_t4 121 rfl (by decide +kernel), TB_t4 120 rfl (by decide +kernel), in_X11, ⟨by decide +kernel, by decide +kernel⟩⟩
abbrev mX11_isSheet : Md := (yX11_isSheet, cX11_isSheet, 1, (some .boolean))
set_option maxRecDepth 100000 in
theorem pn_X11_isSheet : (parseMethodDescriptor mX11_isSheet.1.desc).map (fun d => d.parameters.length) = some 1 := by decide +kernel
set_option maxRecDepth 100000 in
theorem ok_X11_isSheet : okS mX11_isSheet := ⟨TB_t4 153 rfl (by decide +kernel), TB_t4 152 rfl (by decide +kernel), in_X11, ⟨by decide +kernel, by decide +kernel⟩⟩
abbrev mX11_isLane : Md := (yX11_isLane, cX11_isLane, 1, (some .boolean))
set_option maxRecDepth 100000 in
theorem pn_X11_isLane : (parseMethodDescriptor mX11_isLane.1.desc).map (fun d => d.parameters.length) = some 1 := by decide +kernel
set_option maxRecDepth 100000 in
theorem ok_X11_isLane : okS mX11_isLane := ⟨TB_t4 156 rfl (by decide +kernel), TB_t4 155 rfl (by decide +kernel), in_X11, ⟨by decide +kernel, by decide +kernel⟩⟩
abbrev mX12_init : Md := (yX12_init, cX12_init, 1, none)
set_option maxRecDepth 100000 in
theorem pn_X12_init : (parseMethodDescriptor mX12_init.1.desc).map (fun d => d.parameters.length) = some 0 := by decide +kernel
set_option maxRecDepth 100000 in
theorem ok_X12_init : okI mX12_init := ⟨TB_t4 201 rfl (by decide +kernel), TB_t4 200 rfl (by decide +kernel), in_X12, ⟨by decide +kernel, by decide +kernel⟩, rfl, rfl⟩
abbrev mX12_in : Md := (yX12_in, cX12_in, 6, (some .boolean))
set_option maxRecDepth 100000 in
theorem pn_X12_in : (parseMethodDescriptor mX12_in.1.desc).map (fun d => d.parameters.length) = some 3 := by decide +kernel
set_option maxRecDepth 100000 in
theorem ok_X12_in : okS mX12_in := ⟨TB_t5 58 rfl (by decide +kernel), TB_t5 57 rfl (by decide +kernel), in_X12, ⟨by decide +kernel, by decide +kernel⟩⟩
abbrev mX12_feed : Md := (yX12_feed, cX12_feed, 2, (some .int))
set_option maxRecDepth 100000 in
theorem pn_X12_feed : (parseMethodDescriptor mX12_feed.1.desc).map (fun d => d.parameters.length) = some 1 := by decide +kernel
set_option maxRecDepth 100000 in
theorem ok_X12_feed : okV mX12_feed := ⟨TB_t5 54 rfl (by decide +kernel), TB_t5 52 rfl (by decide +kernel), TB_t5 53 rfl (by decide +kernel), in_X12, ⟨by decide +kernel, by decide +kernel⟩⟩
abbrev mX12_end : Md := (yX12_end, cX12_end, 3, (some .int))
set_option maxRecDepth 100000 in
theorem pn_X12_end : (parseMethodDescriptor mX12_end.1.desc).map (fun d => d.parameters.length) = some 1 := by decide +kernel
set_option maxRecDepth 100000 in
theorem ok_X12_end : okV mX12_end := ⟨TB_t5 62 rfl (by decide +kernel), TB_t5 60 rfl (by decide +kernel), TB_t5 61 rfl (by decide +kernel), in_X12, ⟨by decide +kernel, by decide +kernel⟩⟩
abbrev mX12_byteAt : Md := (yX12_byteAt, cX12_byteAt, 2, (some .int))
set_option maxRecDepth 100000 in
theorem pn_X12_byteAt : (parseMethodDescriptor mX12_byteAt.1.desc).map (fun d => d.parameters.length) = some 1 := by decide +kernel
set_option maxRecDepth 100000 in
theorem ok_X12_byteAt : okV mX12_byteAt := ⟨TB_t5 74 rfl (by decide +kernel), TB_t5 73 rfl (by decide +kernel), TB_p 31 rfl (by decide +kernel), in_X12, ⟨by decide +kernel, by decide +kernel⟩⟩
abbrev mX12_fails : Md := (yX12_fails, cX12_fails, 2, none)
set_option maxRecDepth 100000 in
theorem pn_X12_fails : (parseMethodDescriptor mX12_fails.1.desc).map (fun d => d.parameters.length) = some 1 := by decide +kernel
set_option maxRecDepth 100000 in
theorem ok_X12_fails : okV mX12_fails := ⟨TB_t5 82 rfl (by decide +kernel), TB_t5 81 rfl (by decide +kernel), TB_p 32 rfl (by decide +kernel), in_X12, ⟨by decide +kernel, by decide +kernel⟩⟩
abbrev mX12_nameHere : Md := (yX12_nameHere, cX12_nameHere, 4, (some .int))
set_option maxRecDepth 100000 in
theorem pn_X12_nameHere : (parseMethodDescriptor mX12_nameHere.1.desc).map (fun d => d.parameters.length) = some 0 := by decide +kernel
set_option maxRecDepth 100000 in
theorem ok_X12_nameHere : okV mX12_nameHere := ⟨TB_t5 90 rfl (by decide +kernel), TB_t5 89 rfl (by decide +kernel), TB_p 34 rfl (by decide +kernel), in_X12, ⟨by decide +kernel, by decide +kernel⟩⟩
abbrev mX12_readsOn : Md := (yX12_readsOn, cX12_readsOn, 2, none)
set_option maxRecDepth 100000 in
theorem pn_X12_readsOn : (parseMethodDescriptor mX12_readsOn.1.desc).map (fun d => d.parameters.length) = some 0 := by decide +kernel
set_option maxRecDepth 100000 in
theorem ok_X12_readsOn : okV mX12_readsOn := ⟨TB_t5 70 rfl (by decide +kernel), TB_t5 69 rfl (by decide +kernel), TB_p 30 rfl (by decide +kernel), in_X12, ⟨by decide +kernel, by decide +kernel⟩⟩
abbrev mX12_letterRead : Md := (yX12_letterRead, cX12_letterRead, 3, (some .int))
set_option maxRecDepth 100000 in
theorem pn_X12_letterRead : (parseMethodDescriptor mX12_letterRead.1.desc).map (fun d => d.parameters.length) = some 1 := by decide +kernel
set_option maxRecDepth 100000 in
theorem ok_X12_letterRead : okV mX12_letterRead := ⟨TB_t5 106 rfl (by decide +kernel), TB_t5 105 rfl (by decide +kernel), TB_p 38 rfl (by decide +kernel), in_X12, ⟨by decide +kernel, by decide +kernel⟩⟩
abbrev mX12_variableRead : Md := (yX12_variableRead, cX12_variableRead, 2, (some .int))
set_option maxRecDepth 100000 in
theorem pn_X12_variableRead : (parseMethodDescriptor mX12_variableRead.1.desc).map (fun d => d.parameters.length) = some 0 := by decide +kernel
set_option maxRecDepth 100000 in
theorem ok_X12_variableRead : okV mX12_variableRead := ⟨TB_t5 102 rfl (by decide +kernel), TB_t5 101 rfl (by decide +kernel), TB_p 37 rfl (by decide +kernel), in_X12, ⟨by decide +kernel, by decide +kernel⟩⟩
abbrev mX12_nodeRead : Md := (yX12_nodeRead, cX12_nodeRead, 2, (some .int))
set_option maxRecDepth 100000 in
theorem pn_X12_nodeRead : (parseMethodDescriptor mX12_nodeRead.1.desc).map (fun d => d.parameters.length) = some 0 := by decide +kernel
set_option maxRecDepth 100000 in
theorem ok_X12_nodeRead : okV mX12_nodeRead := ⟨TB_t5 111 rfl (by decide +kernel), TB_t5 110 rfl (by decide +kernel), TB_p 39 rfl (by decide +kernel), in_X12, ⟨by decide +kernel, by decide +kernel⟩⟩
abbrev mX12_truthRead : Md := (yX12_truthRead, cX12_truthRead, 1, (some .int))
set_option maxRecDepth 100000 in
theorem pn_X12_truthRead : (parseMethodDescriptor mX12_truthRead.1.desc).map (fun d => d.parameters.length) = some 0 := by decide +kernel
set_option maxRecDepth 100000 in
theorem ok_X12_truthRead : okV mX12_truthRead := ⟨TB_t5 115 rfl (by decide +kernel), TB_t5 114 rfl (by decide +kernel), TB_p 40 rfl (by decide +kernel), in_X12, ⟨by decide +kernel, by decide +kernel⟩⟩
abbrev mX12_readNode : Md := (yX12_readNode, cX12_readNode, 3, none)
set_option maxRecDepth 100000 in
theorem pn_X12_readNode : (parseMethodDescriptor mX12_readNode.1.desc).map (fun d => d.parameters.length) = some 1 := by decide +kernel
set_option maxRecDepth 100000 in
theorem ok_X12_readNode : okV mX12_readNode := ⟨TB_t5 94 rfl (by decide +kernel), TB_t5 93 rfl (by decide +kernel), TB_p 35 rfl (by decide +kernel), in_X12, ⟨by decide +kernel, by decide +kernel⟩⟩
abbrev mX12_readTold : Md := (yX12_readTold, cX12_readTold, 5, none)
set_option maxRecDepth 100000 in
theorem pn_X12_readTold : (parseMethodDescriptor mX12_readTold.1.desc).map (fun d => d.parameters.length) = some 1 := by decide +kernel
set_option maxRecDepth 100000 in
theorem ok_X12_readTold : okV mX12_readTold := ⟨TB_t5 98 rfl (by decide +kernel), TB_t5 97 rfl (by decide +kernel), TB_p 36 rfl (by decide +kernel), in_X12, ⟨by decide +kernel, by decide +kernel⟩⟩
abbrev mX12_readLetters : Md := (yX12_readLetters, cX12_readLetters, 5, none)
set_option maxRecDepth 100000 in
theorem pn_X12_readLetters : (parseMethodDescriptor mX12_readLetters.1.desc).map (fun d => d.parameters.length) = some 1 := by decide +kernel
set_option maxRecDepth 100000 in
theorem ok_X12_readLetters : okV mX12_readLetters := ⟨TB_t5 123 rfl (by decide +kernel), TB_t5 122 rfl (by decide +kernel), TB_p 42 rfl (by decide +kernel), in_X12, ⟨by decide +kernel, by decide +kernel⟩⟩
abbrev mX12_toldRead : Md := (yX12_toldRead, cX12_toldRead, 4, (some .int))
set_option maxRecDepth 100000 in
theorem pn_X12_toldRead : (parseMethodDescriptor mX12_toldRead.1.desc).map (fun d => d.parameters.length) = some 1 := by decide +kernel
set_option maxRecDepth 100000 in
theorem ok_X12_toldRead : okV mX12_toldRead := ⟨TB_t5 133 rfl (by decide +kernel), TB_t5 132 rfl (by decide +kernel), TB_p 44 rfl (by decide +kernel), in_X12, ⟨by decide +kernel, by decide +kernel⟩⟩
abbrev mX12_readItem : Md := (yX12_readItem, cX12_readItem, 6, (some .int))
set_option maxRecDepth 100000 in
theorem pn_X12_readItem : (parseMethodDescriptor mX12_readItem.1.desc).map (fun d => d.parameters.length) = some 2 := by decide +kernel
set_option maxRecDepth 100000 in
theorem ok_X12_readItem : okV mX12_readItem := ⟨TB_t5 127 rfl (by decide +kernel), TB_t5 126 rfl (by decide +kernel), TB_p 43 rfl (by decide +kernel), in_X12, ⟨by decide +kernel, by decide +kernel⟩⟩
abbrev mX12_readAsk : Md := (yX12_readAsk, cX12_readAsk, 3, none)
set_option maxRecDepth 100000 in
theorem pn_X12_readAsk : (parseMethodDescriptor mX12_readAsk.1.desc).map (fun d => d.parameters.length) = some 0 := by decide +kernel
set_option maxRecDepth 100000 in
theorem ok_X12_readAsk : okV mX12_readAsk := ⟨TB_t5 119 rfl (by decide +kernel), TB_t5 118 rfl (by decide +kernel), TB_p 41 rfl (by decide +kernel), in_X12, ⟨by decide +kernel, by decide +kernel⟩⟩
abbrev mX12_readLine : Md := (yX12_readLine, cX12_readLine, 2, none)
set_option maxRecDepth 100000 in
theorem pn_X12_readLine : (parseMethodDescriptor mX12_readLine.1.desc).map (fun d => d.parameters.length) = some 0 := by decide +kernel
set_option maxRecDepth 100000 in
theorem ok_X12_readLine : okV mX12_readLine := ⟨TB_t5 86 rfl (by decide +kernel), TB_t5 85 rfl (by decide +kernel), TB_p 33 rfl (by decide +kernel), in_X12, ⟨by decide +kernel, by decide +kernel⟩⟩
abbrev mX12_text : Md := (yX12_text, cX12_text, 3, (some .int))
set_option maxRecDepth 100000 in
theorem pn_X12_text : (parseMethodDescriptor mX12_text.1.desc).map (fun d => d.parameters.length) = some 0 := by decide +kernel
set_option maxRecDepth 100000 in
theorem ok_X12_text : okV mX12_text := ⟨TB_t5 66 rfl (by decide +kernel), TB_t5 64 rfl (by decide +kernel), TB_t5 65 rfl (by decide +kernel), in_X12, ⟨by decide +kernel, by decide +kernel⟩⟩
abbrev mX12_fault : Md := (yX12_fault, cX12_fault, 1, (some .int))
set_option maxRecDepth 100000 in
theorem pn_X12_fault : (parseMethodDescriptor mX12_fault.1.desc).map (fun d => d.parameters.length) = some 0 := by decide +kernel
set_option maxRecDepth 100000 in
theorem ok_X12_fault : okV mX12_fault := ⟨TB_t5 142 rfl (by decide +kernel), TB_t5 140 rfl (by decide +kernel), TB_t5 141 rfl (by decide +kernel), in_X12, ⟨by decide +kernel, by decide +kernel⟩⟩
abbrev mX12_copies : Md := (yX12_copies, cX12_copies, 4, none)
set_option maxRecDepth 100000 in
theorem pn_X12_copies : (parseMethodDescriptor mX12_copies.1.desc).map (fun d => d.parameters.length) = some 2 := by decide +kernel
set_option maxRecDepth 100000 in
theorem ok_X12_copies : okV mX12_copies := ⟨TB_t5 138 rfl (by decide +kernel), TB_t5 137 rfl (by decide +kernel), TB_p 45 rfl (by decide +kernel), in_X12, ⟨by decide +kernel, by decide +kernel⟩⟩
abbrev mX12_nodes : Md := (yX12_nodes, cX12_nodes, 1, (some .int))
set_option maxRecDepth 100000 in
theorem pn_X12_nodes : (parseMethodDescriptor mX12_nodes.1.desc).map (fun d => d.parameters.length) = some 0 := by decide +kernel
set_option maxRecDepth 100000 in
theorem ok_X12_nodes : okV mX12_nodes := ⟨TB_t5 150 rfl (by decide +kernel), TB_t5 149 rfl (by decide +kernel), TB_p 46 rfl (by decide +kernel), in_X12, ⟨by decide +kernel, by decide +kernel⟩⟩
abbrev mX12_and : Md := (yX12_and, cX12_and, 2, (some .int))
set_option maxRecDepth 100000 in
theorem pn_X12_and : (parseMethodDescriptor mX12_and.1.desc).map (fun d => d.parameters.length) = some 2 := by decide +kernel
set_option maxRecDepth 100000 in
theorem ok_X12_and : okS mX12_and := ⟨TB_t5 174 rfl (by decide +kernel), TB_t5 173 rfl (by decide +kernel), in_X12, ⟨by decide +kernel, by decide +kernel⟩⟩
abbrev mX12_or : Md := (yX12_or, cX12_or, 2, (some .int))
set_option maxRecDepth 100000 in
theorem pn_X12_or : (parseMethodDescriptor mX12_or.1.desc).map (fun d => d.parameters.length) = some 2 := by decide +kernel
set_option maxRecDepth 100000 in
theorem ok_X12_or : okS mX12_or := ⟨TB_t5 177 rfl (by decide +kernel), TB_t5 176 rfl (by decide +kernel), in_X12, ⟨by decide +kernel, by decide +kernel⟩⟩
abbrev mX12_atOf : Md := (yX12_atOf, cX12_atOf, 3, (some .int))
set_option maxRecDepth 100000 in
theorem pn_X12_atOf : (parseMethodDescriptor mX12_atOf.1.desc).map (fun d => d.parameters.length) = some 2 := by decide +kernel
set_option maxRecDepth 100000 in
theorem ok_X12_atOf : okV mX12_atOf := ⟨TB_t5 181 rfl (by decide +kernel), TB_t5 180 rfl (by decide +kernel), TB_p 51 rfl (by decide +kernel), in_X12, ⟨by decide +kernel, by decide +kernel⟩⟩
abbrev mX12_nextOf : Md := (yX12_nextOf, cX12_nextOf, 3, (some .int))
set_option maxRecDepth 100000 in
theorem pn_X12_nextOf : (parseMethodDescriptor mX12_nextOf.1.desc).map (fun d => d.parameters.length) = some 2 := by decide +kernel
set_option maxRecDepth 100000 in
theorem ok_X12_nextOf : okV mX12_nextOf := ⟨TB_t5 197 rfl (by decide +kernel), TB_t5 196 rfl (by decide +kernel), TB_p 54 rfl (by decide +kernel), in_X12, ⟨by decide +kernel, by decide +kernel⟩⟩
abbrev mX12_sameOf : Md := (yX12_sameOf, cX12_sameOf, 3, (some .int))
set_option maxRecDepth 100000 in
theorem pn_X12_sameOf : (parseMethodDescriptor mX12_sameOf.1.desc).map (fun d => d.parameters.length) = some 2 := by decide +kernel
set_option maxRecDepth 100000 in
theorem ok_X12_sameOf : okV mX12_sameOf := ⟨TB_t5 189 rfl (by decide +kernel), TB_t5 188 rfl (by decide +kernel), TB_p 53 rfl (by decide +kernel), in_X12, ⟨by decide +kernel, by decide +kernel⟩⟩
abbrev mX12_routesAll : Md := (yX12_routesAll, cX12_routesAll, 3, none)
set_option maxRecDepth 100000 in
theorem pn_X12_routesAll : (parseMethodDescriptor mX12_routesAll.1.desc).map (fun d => d.parameters.length) = some 0 := by decide +kernel
set_option maxRecDepth 100000 in
theorem ok_X12_routesAll : okV mX12_routesAll := ⟨TB_t5 171 rfl (by decide +kernel), TB_t5 170 rfl (by decide +kernel), TB_p 50 rfl (by decide +kernel), in_X12, ⟨by decide +kernel, by decide +kernel⟩⟩
abbrev mX12_reachOf : Md := (yX12_reachOf, cX12_reachOf, 5, (some .int))
set_option maxRecDepth 100000 in
theorem pn_X12_reachOf : (parseMethodDescriptor mX12_reachOf.1.desc).map (fun d => d.parameters.length) = some 2 := by decide +kernel
set_option maxRecDepth 100000 in
theorem ok_X12_reachOf : okV mX12_reachOf := ⟨TB_t5 185 rfl (by decide +kernel), TB_t5 184 rfl (by decide +kernel), TB_p 52 rfl (by decide +kernel), in_X12, ⟨by decide +kernel, by decide +kernel⟩⟩
abbrev mX12_heldOf : Md := (yX12_heldOf, cX12_heldOf, 4, (some .int))
set_option maxRecDepth 100000 in
theorem pn_X12_heldOf : (parseMethodDescriptor mX12_heldOf.1.desc).map (fun d => d.parameters.length) = some 1 := by decide +kernel
set_option maxRecDepth 100000 in
theorem ok_X12_heldOf : okV mX12_heldOf := ⟨TB_t5 208 rfl (by decide +kernel), TB_t5 207 rfl (by decide +kernel), TB_p 55 rfl (by decide +kernel), in_X12, ⟨by decide +kernel, by decide +kernel⟩⟩
abbrev mX12_manyOf : Md := (yX12_manyOf, cX12_manyOf, 6, (some .int))
set_option maxRecDepth 100000 in
theorem pn_X12_manyOf : (parseMethodDescriptor mX12_manyOf.1.desc).map (fun d => d.parameters.length) = some 3 := by decide +kernel
set_option maxRecDepth 100000 in
theorem ok_X12_manyOf : okV mX12_manyOf := ⟨TB_t5 154 rfl (by decide +kernel), TB_t5 153 rfl (by decide +kernel), TB_p 47 rfl (by decide +kernel), in_X12, ⟨by decide +kernel, by decide +kernel⟩⟩
abbrev mX12_isHeap : Md := (yX12_isHeap, cX12_isHeap, 3, (some .boolean))
set_option maxRecDepth 100000 in
theorem pn_X12_isHeap : (parseMethodDescriptor mX12_isHeap.1.desc).map (fun d => d.parameters.length) = some 0 := by decide +kernel
set_option maxRecDepth 100000 in
theorem ok_X12_isHeap : okV mX12_isHeap := ⟨TB_t5 158 rfl (by decide +kernel), TB_t5 157 rfl (by decide +kernel), TB_p 48 rfl (by decide +kernel), in_X12, ⟨by decide +kernel, by decide +kernel⟩⟩
abbrev mX12_rule : Md := (yX12_rule, cX12_rule, 2, (some .int))
set_option maxRecDepth 100000 in
theorem pn_X12_rule : (parseMethodDescriptor mX12_rule.1.desc).map (fun d => d.parameters.length) = some 1 := by decide +kernel
set_option maxRecDepth 100000 in
theorem ok_X12_rule : okV mX12_rule := ⟨TB_t5 146 rfl (by decide +kernel), TB_t5 144 rfl (by decide +kernel), TB_t5 145 rfl (by decide +kernel), in_X12, ⟨by decide +kernel, by decide +kernel⟩⟩
abbrev mX12_isNode : Md := (yX12_isNode, cX12_isNode, 2, (some .boolean))
set_option maxRecDepth 100000 in
theorem pn_X12_isNode : (parseMethodDescriptor mX12_isNode.1.desc).map (fun d => d.parameters.length) = some 1 := by decide +kernel
set_option maxRecDepth 100000 in
theorem ok_X12_isNode : okV mX12_isNode := ⟨TB_t5 166 rfl (by decide +kernel), TB_t5 165 rfl (by decide +kernel), TB_p 49 rfl (by decide +kernel), in_X12, ⟨by decide +kernel, by decide +kernel⟩⟩
abbrev mX12_isVariable : Md := (yX12_isVariable, cX12_isVariable, 1, (some .boolean))
set_option maxRecDepth 100000 in
theorem pn_X12_isVariable : (parseMethodDescriptor mX12_isVariable.1.desc).map (fun d => d.parameters.length) = some 1 := by decide +kernel
set_option maxRecDepth 100000 in
theorem ok_X12_isVariable : okS mX12_isVariable := ⟨TB_t5 204 rfl (by decide +kernel), TB_t5 203 rfl (by decide +kernel), in_X12, ⟨by decide +kernel, by decide +kernel⟩⟩
abbrev mX12_isFormula : Md := (yX12_isFormula, cX12_isFormula, 2, (some .boolean))
set_option maxRecDepth 100000 in
theorem pn_X12_isFormula : (parseMethodDescriptor mX12_isFormula.1.desc).map (fun d => d.parameters.length) = some 1 := by decide +kernel
set_option maxRecDepth 100000 in
theorem ok_X12_isFormula : okV mX12_isFormula := ⟨TB_t5 216 rfl (by decide +kernel), TB_t5 215 rfl (by decide +kernel), TB_p 56 rfl (by decide +kernel), in_X12, ⟨by decide +kernel, by decide +kernel⟩⟩
abbrev mX12_isFlag : Md := (yX12_isFlag, cX12_isFlag, 1, (some .boolean))
set_option maxRecDepth 100000 in
theorem pn_X12_isFlag : (parseMethodDescriptor mX12_isFlag.1.desc).map (fun d => d.parameters.length) = some 1 := by decide +kernel
set_option maxRecDepth 100000 in
theorem ok_X12_isFlag : okS mX12_isFlag := ⟨TB_t6 11 rfl (by decide +kernel), TB_t6 10 rfl (by decide +kernel), in_X12, ⟨by decide +kernel, by decide +kernel⟩⟩
abbrev mX12_node : Md := (yX12_node, cX12_node, 3, (some .int))
set_option maxRecDepth 100000 in
theorem pn_X12_node : (parseMethodDescriptor mX12_node.1.desc).map (fun d => d.parameters.length) = some 2 := by decide +kernel
set_option maxRecDepth 100000 in
theorem ok_X12_node : okV mX12_node := ⟨TB_t5 162 rfl (by decide +kernel), TB_t5 160 rfl (by decide +kernel), TB_t5 161 rfl (by decide +kernel), in_X12, ⟨by decide +kernel, by decide +kernel⟩⟩
abbrev mX12_pair : Md := (yX12_pair, cX12_pair, 4, (some .int))
set_option maxRecDepth 100000 in
theorem pn_X12_pair : (parseMethodDescriptor mX12_pair.1.desc).map (fun d => d.parameters.length) = some 3 := by decide +kernel
set_option maxRecDepth 100000 in
theorem ok_X12_pair : okV mX12_pair := ⟨TB_t5 193 rfl (by decide +kernel), TB_t5 191 rfl (by decide +kernel), TB_t5 192 rfl (by decide +kernel), in_X12, ⟨by decide +kernel, by decide +kernel⟩⟩
abbrev mX12_held : Md := (yX12_held, cX12_held, 2, (some .int))
set_option maxRecDepth 100000 in
theorem pn_X12_held : (parseMethodDescriptor mX12_held.1.desc).map (fun d => d.parameters.length) = some 1 := by decide +kernel
set_option maxRecDepth 100000 in
theorem ok_X12_held : okV mX12_held := ⟨TB_t5 201 rfl (by decide +kernel), TB_t5 199 rfl (by decide +kernel), TB_t5 200 rfl (by decide +kernel), in_X12, ⟨by decide +kernel, by decide +kernel⟩⟩
abbrev mX12_told : Md := (yX12_told, cX12_told, 4, (some .int))
set_option maxRecDepth 100000 in
theorem pn_X12_told : (parseMethodDescriptor mX12_told.1.desc).map (fun d => d.parameters.length) = some 1 := by decide +kernel
set_option maxRecDepth 100000 in
theorem ok_X12_told : okV mX12_told := ⟨TB_t5 224 rfl (by decide +kernel), TB_t5 223 rfl (by decide +kernel), TB_p 58 rfl (by decide +kernel), in_X12, ⟨by decide +kernel, by decide +kernel⟩⟩
abbrev mX12_itemsOf : Md := (yX12_itemsOf, cX12_itemsOf, 6, (some .int))
set_option maxRecDepth 100000 in
theorem pn_X12_itemsOf : (parseMethodDescriptor mX12_itemsOf.1.desc).map (fun d => d.parameters.length) = some 1 := by decide +kernel
set_option maxRecDepth 100000 in
theorem ok_X12_itemsOf : okV mX12_itemsOf := ⟨TB_t5 220 rfl (by decide +kernel), TB_t5 219 rfl (by decide +kernel), TB_p 57 rfl (by decide +kernel), in_X12, ⟨by decide +kernel, by decide +kernel⟩⟩
abbrev mX12_joined : Md := (yX12_joined, cX12_joined, 5, (some .int))
set_option maxRecDepth 100000 in
theorem pn_X12_joined : (parseMethodDescriptor mX12_joined.1.desc).map (fun d => d.parameters.length) = some 4 := by decide +kernel
set_option maxRecDepth 100000 in
theorem ok_X12_joined : okV mX12_joined := ⟨TB_t6 0 rfl (by decide +kernel), TB_t5 239 rfl (by decide +kernel), TB_p 62 rfl (by decide +kernel), in_X12, ⟨by decide +kernel, by decide +kernel⟩⟩
abbrev mX12_begins : Md := (yX12_begins, cX12_begins, 3, (some .int))
set_option maxRecDepth 100000 in
theorem pn_X12_begins : (parseMethodDescriptor mX12_begins.1.desc).map (fun d => d.parameters.length) = some 2 := by decide +kernel
set_option maxRecDepth 100000 in
theorem ok_X12_begins : okV mX12_begins := ⟨TB_t5 228 rfl (by decide +kernel), TB_t5 227 rfl (by decide +kernel), TB_p 59 rfl (by decide +kernel), in_X12, ⟨by decide +kernel, by decide +kernel⟩⟩
abbrev mX12_thirdOf : Md := (yX12_thirdOf, cX12_thirdOf, 4, (some .int))
set_option maxRecDepth 100000 in
theorem pn_X12_thirdOf : (parseMethodDescriptor mX12_thirdOf.1.desc).map (fun d => d.parameters.length) = some 1 := by decide +kernel
set_option maxRecDepth 100000 in
theorem ok_X12_thirdOf : okV mX12_thirdOf := ⟨TB_t5 236 rfl (by decide +kernel), TB_t5 235 rfl (by decide +kernel), TB_p 61 rfl (by decide +kernel), in_X12, ⟨by decide +kernel, by decide +kernel⟩⟩
abbrev mX12_secondOf : Md := (yX12_secondOf, cX12_secondOf, 4, (some .int))
set_option maxRecDepth 100000 in
theorem pn_X12_secondOf : (parseMethodDescriptor mX12_secondOf.1.desc).map (fun d => d.parameters.length) = some 1 := by decide +kernel
set_option maxRecDepth 100000 in
theorem ok_X12_secondOf : okV mX12_secondOf := ⟨TB_t5 232 rfl (by decide +kernel), TB_t5 231 rfl (by decide +kernel), TB_p 60 rfl (by decide +kernel), in_X12, ⟨by decide +kernel, by decide +kernel⟩⟩
abbrev mX12_ask : Md := (yX12_ask, cX12_ask, 5, (some .int))
set_option maxRecDepth 100000 in
theorem pn_X12_ask : (parseMethodDescriptor mX12_ask.1.desc).map (fun d => d.parameters.length) = some 1 := by decide +kernel
set_option maxRecDepth 100000 in
theorem ok_X12_ask : okV mX12_ask := ⟨TB_t5 212 rfl (by decide +kernel), TB_t5 210 rfl (by decide +kernel), TB_t5 211 rfl (by decide +kernel), in_X12, ⟨by decide +kernel, by decide +kernel⟩⟩
abbrev mX12_formula : Md := (yX12_formula, cX12_formula, 3, (some .int))
set_option maxRecDepth 100000 in
theorem pn_X12_formula : (parseMethodDescriptor mX12_formula.1.desc).map (fun d => d.parameters.length) = some 2 := by decide +kernel
set_option maxRecDepth 100000 in
theorem ok_X12_formula : okV mX12_formula := ⟨TB_t6 4 rfl (by decide +kernel), TB_t6 2 rfl (by decide +kernel), TB_t6 3 rfl (by decide +kernel), in_X12, ⟨by decide +kernel, by decide +kernel⟩⟩
abbrev mX12_comes : Md := (yX12_comes, cX12_comes, 4, none)
set_option maxRecDepth 100000 in
theorem pn_X12_comes : (parseMethodDescriptor mX12_comes.1.desc).map (fun d => d.parameters.length) = some 1 := by decide +kernel
set_option maxRecDepth 100000 in
theorem ok_X12_comes : okV mX12_comes := ⟨TB_t6 15 rfl (by decide +kernel), TB_t6 14 rfl (by decide +kernel), TB_p 63 rfl (by decide +kernel), in_X12, ⟨by decide +kernel, by decide +kernel⟩⟩
abbrev mX12_add : Md := (yX12_add, cX12_add, 2, (some .int))
set_option maxRecDepth 100000 in
theorem pn_X12_add : (parseMethodDescriptor mX12_add.1.desc).map (fun d => d.parameters.length) = some 1 := by decide +kernel
set_option maxRecDepth 100000 in
theorem ok_X12_add : okV mX12_add := ⟨TB_t6 8 rfl (by decide +kernel), TB_t6 6 rfl (by decide +kernel), TB_t6 7 rfl (by decide +kernel), in_X12, ⟨by decide +kernel, by decide +kernel⟩⟩
abbrev mX12_movesDown : Md := (yX12_movesDown, cX12_movesDown, 4, none)
set_option maxRecDepth 100000 in
theorem pn_X12_movesDown : (parseMethodDescriptor mX12_movesDown.1.desc).map (fun d => d.parameters.length) = some 2 := by decide +kernel
set_option maxRecDepth 100000 in
theorem ok_X12_movesDown : okV mX12_movesDown := ⟨TB_t6 23 rfl (by decide +kernel), TB_t6 22 rfl (by decide +kernel), TB_p 64 rfl (by decide +kernel), in_X12, ⟨by decide +kernel, by decide +kernel⟩⟩
abbrev mX12_lose : Md := (yX12_lose, cX12_lose, 4, (some .int))
set_option maxRecDepth 100000 in
theorem pn_X12_lose : (parseMethodDescriptor mX12_lose.1.desc).map (fun d => d.parameters.length) = some 1 := by decide +kernel
set_option maxRecDepth 100000 in
theorem ok_X12_lose : okV mX12_lose := ⟨TB_t6 19 rfl (by decide +kernel), TB_t6 17 rfl (by decide +kernel), TB_t6 18 rfl (by decide +kernel), in_X12, ⟨by decide +kernel, by decide +kernel⟩⟩
abbrev mX12_becomes : Md := (yX12_becomes, cX12_becomes, 5, (some .int))
set_option maxRecDepth 100000 in
theorem pn_X12_becomes : (parseMethodDescriptor mX12_becomes.1.desc).map (fun d => d.parameters.length) = some 3 := by decide +kernel
set_option maxRecDepth 100000 in
theorem ok_X12_becomes : okV mX12_becomes := ⟨TB_t6 31 rfl (by decide +kernel), TB_t6 30 rfl (by decide +kernel), TB_p 65 rfl (by decide +kernel), in_X12, ⟨by decide +kernel, by decide +kernel⟩⟩
abbrev mX12_many : Md := (yX12_many, cX12_many, 3, (some .int))
set_option maxRecDepth 100000 in
theorem pn_X12_many : (parseMethodDescriptor mX12_many.1.desc).map (fun d => d.parameters.length) = some 2 := by decide +kernel
set_option maxRecDepth 100000 in
theorem ok_X12_many : okV mX12_many := ⟨TB_t6 27 rfl (by decide +kernel), TB_t6 25 rfl (by decide +kernel), TB_t6 26 rfl (by decide +kernel), in_X12, ⟨by decide +kernel, by decide +kernel⟩⟩
abbrev mX12_place : Md := (yX12_place, cX12_place, 4, (some .int))
set_option maxRecDepth 100000 in
theorem pn_X12_place : (parseMethodDescriptor mX12_place.1.desc).map (fun d => d.parameters.length) = some 3 := by decide +kernel
set_option maxRecDepth 100000 in
theorem ok_X12_place : okV mX12_place := ⟨TB_t6 35 rfl (by decide +kernel), TB_t6 33 rfl (by decide +kernel), TB_t6 34 rfl (by decide +kernel), in_X12, ⟨by decide +kernel, by decide +kernel⟩⟩
abbrev mX12_lead : Md := (yX12_lead, cX12_lead, 4, (some .int))
set_option maxRecDepth 100000 in
theorem pn_X12_lead : (parseMethodDescriptor mX12_lead.1.desc).map (fun d => d.parameters.length) = some 3 := by decide +kernel
set_option maxRecDepth 100000 in
theorem ok_X12_lead : okV mX12_lead := ⟨TB_t6 39 rfl (by decide +kernel), TB_t6 37 rfl (by decide +kernel), TB_t6 38 rfl (by decide +kernel), in_X12, ⟨by decide +kernel, by decide +kernel⟩⟩
abbrev mX12_leads : Md := (yX12_leads, cX12_leads, 6, none)
set_option maxRecDepth 100000 in
theorem pn_X12_leads : (parseMethodDescriptor mX12_leads.1.desc).map (fun d => d.parameters.length) = some 3 := by decide +kernel
set_option maxRecDepth 100000 in
theorem ok_X12_leads : okV mX12_leads := ⟨TB_t6 60 rfl (by decide +kernel), TB_t6 59 rfl (by decide +kernel), TB_p 69 rfl (by decide +kernel), in_X12, ⟨by decide +kernel, by decide +kernel⟩⟩
abbrev mX12_becomesNext : Md := (yX12_becomesNext, cX12_becomesNext, 5, none)
set_option maxRecDepth 100000 in
theorem pn_X12_becomesNext : (parseMethodDescriptor mX12_becomesNext.1.desc).map (fun d => d.parameters.length) = some 2 := by decide +kernel
set_option maxRecDepth 100000 in
theorem ok_X12_becomesNext : okV mX12_becomesNext := ⟨TB_t6 56 rfl (by decide +kernel), TB_t6 55 rfl (by decide +kernel), TB_p 68 rfl (by decide +kernel), in_X12, ⟨by decide +kernel, by decide +kernel⟩⟩
abbrev mX12_isAtAlone : Md := (yX12_isAtAlone, cX12_isAtAlone, 4, none)
set_option maxRecDepth 100000 in
theorem pn_X12_isAtAlone : (parseMethodDescriptor mX12_isAtAlone.1.desc).map (fun d => d.parameters.length) = some 2 := by decide +kernel
set_option maxRecDepth 100000 in
theorem ok_X12_isAtAlone : okV mX12_isAtAlone := ⟨TB_t6 52 rfl (by decide +kernel), TB_t6 51 rfl (by decide +kernel), TB_p 67 rfl (by decide +kernel), in_X12, ⟨by decide +kernel, by decide +kernel⟩⟩
abbrev mX12_does : Md := (yX12_does, cX12_does, 7, (some .int))
set_option maxRecDepth 100000 in
theorem pn_X12_does : (parseMethodDescriptor mX12_does.1.desc).map (fun d => d.parameters.length) = some 3 := by decide +kernel
set_option maxRecDepth 100000 in
theorem ok_X12_does : okV mX12_does := ⟨TB_t6 47 rfl (by decide +kernel), TB_t6 46 rfl (by decide +kernel), TB_p 66 rfl (by decide +kernel), in_X12, ⟨by decide +kernel, by decide +kernel⟩⟩
abbrev mX12_deed : Md := (yX12_deed, cX12_deed, 4, (some .int))
set_option maxRecDepth 100000 in
theorem pn_X12_deed : (parseMethodDescriptor mX12_deed.1.desc).map (fun d => d.parameters.length) = some 3 := by decide +kernel
set_option maxRecDepth 100000 in
theorem ok_X12_deed : okV mX12_deed := ⟨TB_t6 43 rfl (by decide +kernel), TB_t6 41 rfl (by decide +kernel), TB_t6 42 rfl (by decide +kernel), in_X12, ⟨by decide +kernel, by decide +kernel⟩⟩
abbrev mX12_isAlike : Md := (yX12_isAlike, cX12_isAlike, 6, (some .boolean))
set_option maxRecDepth 100000 in
theorem pn_X12_isAlike : (parseMethodDescriptor mX12_isAlike.1.desc).map (fun d => d.parameters.length) = some 3 := by decide +kernel
set_option maxRecDepth 100000 in
theorem ok_X12_isAlike : okV mX12_isAlike := ⟨TB_t6 72 rfl (by decide +kernel), TB_t6 71 rfl (by decide +kernel), TB_p 71 rfl (by decide +kernel), in_X12, ⟨by decide +kernel, by decide +kernel⟩⟩
abbrev mX12_grouped : Md := (yX12_grouped, cX12_grouped, 5, (some .int))
set_option maxRecDepth 100000 in
theorem pn_X12_grouped : (parseMethodDescriptor mX12_grouped.1.desc).map (fun d => d.parameters.length) = some 1 := by decide +kernel
set_option maxRecDepth 100000 in
theorem ok_X12_grouped : okV mX12_grouped := ⟨TB_t6 68 rfl (by decide +kernel), TB_t6 67 rfl (by decide +kernel), TB_p 70 rfl (by decide +kernel), in_X12, ⟨by decide +kernel, by decide +kernel⟩⟩
abbrev mX12_fold : Md := (yX12_fold, cX12_fold, 9, (some .int))
set_option maxRecDepth 100000 in
theorem pn_X12_fold : (parseMethodDescriptor mX12_fold.1.desc).map (fun d => d.parameters.length) = some 1 := by decide +kernel
set_option maxRecDepth 100000 in
theorem ok_X12_fold : okV mX12_fold := ⟨TB_t6 64 rfl (by decide +kernel), TB_t6 62 rfl (by decide +kernel), TB_t6 63 rfl (by decide +kernel), in_X12, ⟨by decide +kernel, by decide +kernel⟩⟩
abbrev mX12_isAlone : Md := (yX12_isAlone, cX12_isAlone, 5, (some .boolean))
set_option maxRecDepth 100000 in
theorem pn_X12_isAlone : (parseMethodDescriptor mX12_isAlone.1.desc).map (fun d => d.parameters.length) = some 2 := by decide +kernel
set_option maxRecDepth 100000 in
theorem ok_X12_isAlone : okV mX12_isAlone := ⟨TB_t6 84 rfl (by decide +kernel), TB_t6 83 rfl (by decide +kernel), TB_p 73 rfl (by decide +kernel), in_X12, ⟨by decide +kernel, by decide +kernel⟩⟩
abbrev mX12_isSharper : Md := (yX12_isSharper, cX12_isSharper, 4, (some .boolean))
set_option maxRecDepth 100000 in
theorem pn_X12_isSharper : (parseMethodDescriptor mX12_isSharper.1.desc).map (fun d => d.parameters.length) = some 0 := by decide +kernel
set_option maxRecDepth 100000 in
theorem ok_X12_isSharper : okV mX12_isSharper := ⟨TB_t6 80 rfl (by decide +kernel), TB_t6 79 rfl (by decide +kernel), TB_p 72 rfl (by decide +kernel), in_X12, ⟨by decide +kernel, by decide +kernel⟩⟩
abbrev mX12_sharpen : Md := (yX12_sharpen, cX12_sharpen, 4, (some .int))
set_option maxRecDepth 100000 in
theorem pn_X12_sharpen : (parseMethodDescriptor mX12_sharpen.1.desc).map (fun d => d.parameters.length) = some 0 := by decide +kernel
set_option maxRecDepth 100000 in
theorem ok_X12_sharpen : okV mX12_sharpen := ⟨TB_t6 76 rfl (by decide +kernel), TB_t6 74 rfl (by decide +kernel), TB_t6 75 rfl (by decide +kernel), in_X12, ⟨by decide +kernel, by decide +kernel⟩⟩
abbrev mX12_wayOf : Md := (yX12_wayOf, cX12_wayOf, 6, (some .int))
set_option maxRecDepth 100000 in
theorem pn_X12_wayOf : (parseMethodDescriptor mX12_wayOf.1.desc).map (fun d => d.parameters.length) = some 2 := by decide +kernel
set_option maxRecDepth 100000 in
theorem ok_X12_wayOf : okV mX12_wayOf := ⟨TB_t6 92 rfl (by decide +kernel), TB_t6 91 rfl (by decide +kernel), TB_p 74 rfl (by decide +kernel), in_X12, ⟨by decide +kernel, by decide +kernel⟩⟩
abbrev mX12_ways : Md := (yX12_ways, cX12_ways, 3, (some .int))
set_option maxRecDepth 100000 in
theorem pn_X12_ways : (parseMethodDescriptor mX12_ways.1.desc).map (fun d => d.parameters.length) = some 1 := by decide +kernel
set_option maxRecDepth 100000 in
theorem ok_X12_ways : okV mX12_ways := ⟨TB_t6 88 rfl (by decide +kernel), TB_t6 86 rfl (by decide +kernel), TB_t6 87 rfl (by decide +kernel), in_X12, ⟨by decide +kernel, by decide +kernel⟩⟩
abbrev mX12_twins : Md := (yX12_twins, cX12_twins, 5, none)
set_option maxRecDepth 100000 in
theorem pn_X12_twins : (parseMethodDescriptor mX12_twins.1.desc).map (fun d => d.parameters.length) = some 2 := by decide +kernel
set_option maxRecDepth 100000 in
theorem ok_X12_twins : okV mX12_twins := ⟨TB_t6 100 rfl (by decide +kernel), TB_t6 99 rfl (by decide +kernel), TB_p 75 rfl (by decide +kernel), in_X12, ⟨by decide +kernel, by decide +kernel⟩⟩
abbrev mX12_split : Md := (yX12_split, cX12_split, 4, (some .int))
set_option maxRecDepth 100000 in
theorem pn_X12_split : (parseMethodDescriptor mX12_split.1.desc).map (fun d => d.parameters.length) = some 2 := by decide +kernel
set_option maxRecDepth 100000 in
theorem ok_X12_split : okV mX12_split := ⟨TB_t6 96 rfl (by decide +kernel), TB_t6 94 rfl (by decide +kernel), TB_t6 95 rfl (by decide +kernel), in_X12, ⟨by decide +kernel, by decide +kernel⟩⟩
abbrev mX12_run : Md := (yX12_run, cX12_run, 7, (some .int))
set_option maxRecDepth 100000 in
theorem pn_X12_run : (parseMethodDescriptor mX12_run.1.desc).map (fun d => d.parameters.length) = some 2 := by decide +kernel
set_option maxRecDepth 100000 in
theorem ok_X12_run : okV mX12_run := ⟨TB_t6 104 rfl (by decide +kernel), TB_t6 102 rfl (by decide +kernel), TB_t6 103 rfl (by decide +kernel), in_X12, ⟨by decide +kernel, by decide +kernel⟩⟩
abbrev mX12_keep : Md := (yX12_keep, cX12_keep, 3, (some .int))
set_option maxRecDepth 100000 in
theorem pn_X12_keep : (parseMethodDescriptor mX12_keep.1.desc).map (fun d => d.parameters.length) = some 1 := by decide +kernel
set_option maxRecDepth 100000 in
theorem ok_X12_keep : okV mX12_keep := ⟨TB_t6 110 rfl (by decide +kernel), TB_t6 108 rfl (by decide +kernel), TB_t6 109 rfl (by decide +kernel), in_X12, ⟨by decide +kernel, by decide +kernel⟩⟩
abbrev mX12_back : Md := (yX12_back, cX12_back, 2, (some .int))
set_option maxRecDepth 100000 in
theorem pn_X12_back : (parseMethodDescriptor mX12_back.1.desc).map (fun d => d.parameters.length) = some 1 := by decide +kernel
set_option maxRecDepth 100000 in
theorem ok_X12_back : okV mX12_back := ⟨TB_t6 114 rfl (by decide +kernel), TB_t6 112 rfl (by decide +kernel), TB_t6 113 rfl (by decide +kernel), in_X12, ⟨by decide +kernel, by decide +kernel⟩⟩
abbrev mX12_isLike : Md := (yX12_isLike, cX12_isLike, 3, (some .boolean))
set_option maxRecDepth 100000 in
theorem pn_X12_isLike : (parseMethodDescriptor mX12_isLike.1.desc).map (fun d => d.parameters.length) = some 2 := by decide +kernel
set_option maxRecDepth 100000 in
theorem ok_X12_isLike : okV mX12_isLike := ⟨TB_t6 130 rfl (by decide +kernel), TB_t6 129 rfl (by decide +kernel), TB_p 78 rfl (by decide +kernel), in_X12, ⟨by decide +kernel, by decide +kernel⟩⟩
abbrev mX12_isFitting : Md := (yX12_isFitting, cX12_isFitting, 6, (some .boolean))
set_option maxRecDepth 100000 in
theorem pn_X12_isFitting : (parseMethodDescriptor mX12_isFitting.1.desc).map (fun d => d.parameters.length) = some 3 := by decide +kernel
set_option maxRecDepth 100000 in
theorem ok_X12_isFitting : okV mX12_isFitting := ⟨TB_t6 126 rfl (by decide +kernel), TB_t6 125 rfl (by decide +kernel), TB_p 77 rfl (by decide +kernel), in_X12, ⟨by decide +kernel, by decide +kernel⟩⟩
abbrev mX12_isOnto : Md := (yX12_isOnto, cX12_isOnto, 5, (some .boolean))
set_option maxRecDepth 100000 in
theorem pn_X12_isOnto : (parseMethodDescriptor mX12_isOnto.1.desc).map (fun d => d.parameters.length) = some 2 := by decide +kernel
set_option maxRecDepth 100000 in
theorem ok_X12_isOnto : okV mX12_isOnto := ⟨TB_t6 134 rfl (by decide +kernel), TB_t6 133 rfl (by decide +kernel), TB_p 79 rfl (by decide +kernel), in_X12, ⟨by decide +kernel, by decide +kernel⟩⟩
abbrev mX12_isCovering : Md := (yX12_isCovering, cX12_isCovering, 6, (some .boolean))
set_option maxRecDepth 100000 in
theorem pn_X12_isCovering : (parseMethodDescriptor mX12_isCovering.1.desc).map (fun d => d.parameters.length) = some 2 := by decide +kernel
set_option maxRecDepth 100000 in
theorem ok_X12_isCovering : okV mX12_isCovering := ⟨TB_t6 122 rfl (by decide +kernel), TB_t6 121 rfl (by decide +kernel), TB_p 76 rfl (by decide +kernel), in_X12, ⟨by decide +kernel, by decide +kernel⟩⟩
abbrev mX12_covers : Md := (yX12_covers, cX12_covers, 4, (some .int))
set_option maxRecDepth 100000 in
theorem pn_X12_covers : (parseMethodDescriptor mX12_covers.1.desc).map (fun d => d.parameters.length) = some 2 := by decide +kernel
set_option maxRecDepth 100000 in
theorem ok_X12_covers : okV mX12_covers := ⟨TB_t6 118 rfl (by decide +kernel), TB_t6 116 rfl (by decide +kernel), TB_t6 117 rfl (by decide +kernel), in_X12, ⟨by decide +kernel, by decide +kernel⟩⟩
abbrev mX12_sheet : Md := (yX12_sheet, cX12_sheet, 5, (some .int))
set_option maxRecDepth 100000 in
theorem pn_X12_sheet : (parseMethodDescriptor mX12_sheet.1.desc).map (fun d => d.parameters.length) = some 3 := by decide +kernel
set_option maxRecDepth 100000 in
theorem ok_X12_sheet : okV mX12_sheet := ⟨TB_t6 138 rfl (by decide +kernel), TB_t6 136 rfl (by decide +kernel), TB_t6 137 rfl (by decide +kernel), in_X12, ⟨by decide +kernel, by decide +kernel⟩⟩
abbrev mX12_lay : Md := (yX12_lay, cX12_lay, 4, (some .int))
set_option maxRecDepth 100000 in
theorem pn_X12_lay : (parseMethodDescriptor mX12_lay.1.desc).map (fun d => d.parameters.length) = some 3 := by decide +kernel
set_option maxRecDepth 100000 in
theorem ok_X12_lay : okV mX12_lay := ⟨TB_t6 142 rfl (by decide +kernel), TB_t6 140 rfl (by decide +kernel), TB_t6 141 rfl (by decide +kernel), in_X12, ⟨by decide +kernel, by decide +kernel⟩⟩
abbrev mX12_read : Md := (yX12_read, cX12_read, 11, (some .int))
set_option maxRecDepth 100000 in
theorem pn_X12_read : (parseMethodDescriptor mX12_read.1.desc).map (fun d => d.parameters.length) = some 4 := by decide +kernel
set_option maxRecDepth 100000 in
theorem ok_X12_read : okV mX12_read := ⟨TB_t6 146 rfl (by decide +kernel), TB_t6 144 rfl (by decide +kernel), TB_t6 145 rfl (by decide +kernel), in_X12, ⟨by decide +kernel, by decide +kernel⟩⟩
abbrev mX12_torn : Md := (yX12_torn, cX12_torn, 1, (some .int))
set_option maxRecDepth 100000 in
theorem pn_X12_torn : (parseMethodDescriptor mX12_torn.1.desc).map (fun d => d.parameters.length) = some 0 := by decide +kernel
set_option maxRecDepth 100000 in
theorem ok_X12_torn : okV mX12_torn := ⟨TB_t6 151 rfl (by decide +kernel), TB_t6 149 rfl (by decide +kernel), TB_t6 150 rfl (by decide +kernel), in_X12, ⟨by decide +kernel, by decide +kernel⟩⟩
abbrev mX12_count : Md := (yX12_count, cX12_count, 4, (some .int))
set_option maxRecDepth 100000 in
theorem pn_X12_count : (parseMethodDescriptor mX12_count.1.desc).map (fun d => d.parameters.length) = some 1 := by decide +kernel
set_option maxRecDepth 100000 in
theorem ok_X12_count : okV mX12_count := ⟨TB_t6 155 rfl (by decide +kernel), TB_t6 153 rfl (by decide +kernel), TB_t6 154 rfl (by decide +kernel), in_X12, ⟨by decide +kernel, by decide +kernel⟩⟩
abbrev mJ9_max_7cf53 : Md := (yJ9_max_7cf53, cJ9_max_7cf53, 2, (some .int))
set_option maxRecDepth 100000 in
theorem pn_J9_max_7cf53 : (parseMethodDescriptor mJ9_max_7cf53.1.desc).map (fun d => d.parameters.length) = some 2 := by decide +kernel
set_option maxRecDepth 100000 in
theorem ok_J9_max_7cf53 : okS mJ9_max_7cf53 := ⟨TB_t3 28 rfl (by decide +kernel), TB_t3 27 rfl (by decide +kernel), in_J9, ⟨by decide +kernel, by decide +kernel⟩⟩
abbrev mJ9_min_7cf53 : Md := (yJ9_min_7cf53, cJ9_min_7cf53, 2, (some .int))
set_option maxRecDepth 100000 in
theorem pn_J9_min_7cf53 : (parseMethodDescriptor mJ9_min_7cf53.1.desc).map (fun d => d.parameters.length) = some 2 := by decide +kernel
set_option maxRecDepth 100000 in
theorem ok_J9_min_7cf53 : okS mJ9_min_7cf53 := ⟨TB_t3 142 rfl (by decide +kernel), TB_t3 141 rfl (by decide +kernel), in_J9, ⟨by decide +kernel, by decide +kernel⟩⟩
abbrev mJ0_length_8abf5 : Md := (yJ0_length_8abf5, cJ0_length_8abf5, 1, (some .int))
set_option maxRecDepth 100000 in
theorem pn_J0_length_8abf5 : (parseMethodDescriptor mJ0_length_8abf5.1.desc).map (fun d => d.parameters.length) = some 0 := by decide +kernel
set_option maxRecDepth 100000 in
theorem ok_J0_length_8abf5 : okV mJ0_length_8abf5 := ⟨TB_t2 170 rfl (by decide +kernel), TB_t2 168 rfl (by decide +kernel), TB_t2 169 rfl (by decide +kernel), in_J0, ⟨by decide +kernel, by decide +kernel⟩⟩
abbrev mJ0_charAt_5068e : Md := (yJ0_charAt_5068e, cJ0_charAt_5068e, 2, (some .char))
set_option maxRecDepth 100000 in
theorem pn_J0_charAt_5068e : (parseMethodDescriptor mJ0_charAt_5068e.1.desc).map (fun d => d.parameters.length) = some 1 := by decide +kernel
set_option maxRecDepth 100000 in
theorem ok_J0_charAt_5068e : okV mJ0_charAt_5068e := ⟨TB_t2 180 rfl (by decide +kernel), TB_t2 178 rfl (by decide +kernel), TB_t2 179 rfl (by decide +kernel), in_J0, ⟨by decide +kernel, by decide +kernel⟩⟩
abbrev mJ0_coder_7d493 : Md := (yJ0_coder_7d493, cJ0_coder_7d493, 1, (some .byte))
set_option maxRecDepth 100000 in
theorem pn_J0_coder_7d493 : (parseMethodDescriptor mJ0_coder_7d493.1.desc).map (fun d => d.parameters.length) = some 0 := by decide +kernel
set_option maxRecDepth 100000 in
theorem ok_J0_coder_7d493 : okV mJ0_coder_7d493 := ⟨TB_t2 174 rfl (by decide +kernel), TB_t2 172 rfl (by decide +kernel), TB_t2 173 rfl (by decide +kernel), in_J0, ⟨by decide +kernel, by decide +kernel⟩⟩
abbrev mJ0_isLatin1_aae02 : Md := (yJ0_isLatin1_aae02, cJ0_isLatin1_aae02, 1, (some .boolean))
set_option maxRecDepth 100000 in
theorem pn_J0_isLatin1_aae02 : (parseMethodDescriptor mJ0_isLatin1_aae02.1.desc).map (fun d => d.parameters.length) = some 0 := by decide +kernel
set_option maxRecDepth 100000 in
theorem ok_J0_isLatin1_aae02 : okV mJ0_isLatin1_aae02 := ⟨TB_t2 184 rfl (by decide +kernel), TB_t2 182 rfl (by decide +kernel), TB_t2 183 rfl (by decide +kernel), in_J0, ⟨by decide +kernel, by decide +kernel⟩⟩
abbrev mJ0_checkIndex_df160 : Md := (yJ0_checkIndex_df160, cJ0_checkIndex_df160, 2, none)
set_option maxRecDepth 100000 in
theorem pn_J0_checkIndex_df160 : (parseMethodDescriptor mJ0_checkIndex_df160.1.desc).map (fun d => d.parameters.length) = some 2 := by decide +kernel
set_option maxRecDepth 100000 in
theorem ok_J0_checkIndex_df160 : okS mJ0_checkIndex_df160 := ⟨TB_t2 190 rfl (by decide +kernel), TB_t2 189 rfl (by decide +kernel), in_J0, ⟨by decide +kernel, by decide +kernel⟩⟩
abbrev mJ1_charAt_3b067 : Md := (yJ1_charAt_3b067, cJ1_charAt_3b067, 2, (some .char))
set_option maxRecDepth 100000 in
theorem pn_J1_charAt_3b067 : (parseMethodDescriptor mJ1_charAt_3b067.1.desc).map (fun d => d.parameters.length) = some 2 := by decide +kernel
set_option maxRecDepth 100000 in
theorem ok_J1_charAt_3b067 : okS mJ1_charAt_3b067 := ⟨TB_t2 187 rfl (by decide +kernel), TB_t2 186 rfl (by decide +kernel), in_J1, ⟨by decide +kernel, by decide +kernel⟩⟩
abbrev mJ2_getChar_3b067 : Md := (yJ2_getChar_3b067, cJ2_getChar_3b067, 2, (some .char))
set_option maxRecDepth 100000 in
theorem pn_J2_getChar_3b067 : (parseMethodDescriptor mJ2_getChar_3b067.1.desc).map (fun d => d.parameters.length) = some 2 := by decide +kernel
set_option maxRecDepth 100000 in
theorem ok_J2_getChar_3b067 : okS mJ2_getChar_3b067 := ⟨TB_t2 208 rfl (by decide +kernel), TB_t2 207 rfl (by decide +kernel), in_J2, ⟨by decide +kernel, by decide +kernel⟩⟩
abbrev mJ2_length_9d52b : Md := (yJ2_length_9d52b, cJ2_length_9d52b, 1, (some .int))
set_option maxRecDepth 100000 in
theorem pn_J2_length_9d52b : (parseMethodDescriptor mJ2_length_9d52b.1.desc).map (fun d => d.parameters.length) = some 1 := by decide +kernel
set_option maxRecDepth 100000 in
theorem ok_J2_length_9d52b : okS mJ2_length_9d52b := ⟨TB_t2 204 rfl (by decide +kernel), TB_t2 203 rfl (by decide +kernel), in_J2, ⟨by decide +kernel, by decide +kernel⟩⟩
abbrev mJ2_charAt_3b067 : Md := (yJ2_charAt_3b067, cJ2_charAt_3b067, 2, (some .char))
set_option maxRecDepth 100000 in
theorem pn_J2_charAt_3b067 : (parseMethodDescriptor mJ2_charAt_3b067.1.desc).map (fun d => d.parameters.length) = some 2 := by decide +kernel
set_option maxRecDepth 100000 in
theorem ok_J2_charAt_3b067 : okS mJ2_charAt_3b067 := ⟨TB_t2 198 rfl (by decide +kernel), TB_t2 197 rfl (by decide +kernel), in_J2, ⟨by decide +kernel, by decide +kernel⟩⟩
abbrev mJ2_checkIndex_2214a : Md := (yJ2_checkIndex_2214a, cJ2_checkIndex_2214a, 2, none)
set_option maxRecDepth 100000 in
theorem pn_J2_checkIndex_2214a : (parseMethodDescriptor mJ2_checkIndex_2214a.1.desc).map (fun d => d.parameters.length) = some 2 := by decide +kernel
set_option maxRecDepth 100000 in
theorem ok_J2_checkIndex_2214a : okS mJ2_checkIndex_2214a := ⟨TB_t2 201 rfl (by decide +kernel), TB_t2 200 rfl (by decide +kernel), in_J2, ⟨by decide +kernel, by decide +kernel⟩⟩
abbrev mJ7_fill_53178 : Md := (yJ7_fill_53178, cJ7_fill_53178, 4, none)
set_option maxRecDepth 100000 in
theorem pn_J7_fill_53178 : (parseMethodDescriptor mJ7_fill_53178.1.desc).map (fun d => d.parameters.length) = some 2 := by decide +kernel
set_option maxRecDepth 100000 in
theorem ok_J7_fill_53178 : okS mJ7_fill_53178 := ⟨TB_t2 149 rfl (by decide +kernel), TB_t2 148 rfl (by decide +kernel), in_J7, ⟨by decide +kernel, by decide +kernel⟩⟩
abbrev mJ3_checkIndex_8e157 : Md := (yJ3_checkIndex_8e157, cJ3_checkIndex_8e157, 3, (some .int))
set_option maxRecDepth 100000 in
theorem pn_J3_checkIndex_8e157 : (parseMethodDescriptor mJ3_checkIndex_8e157.1.desc).map (fun d => d.parameters.length) = some 3 := by decide +kernel
set_option maxRecDepth 100000 in
theorem ok_J3_checkIndex_8e157 : okS mJ3_checkIndex_8e157 := ⟨TB_t2 195 rfl (by decide +kernel), TB_t2 194 rfl (by decide +kernel), in_J3, ⟨by decide +kernel, by decide +kernel⟩⟩
end
section
def WF0 (μ : mM) (a : Nat) : Prop := kd μ a = (0, 0) ∧ rv μ a 0 = some (a + 1) ∧ kd μ (a + 1) = (1, 6) ∧ rv μ a 1 = some (a + 2) ∧ kd μ (a + 2) = (1, 6)
theorem w0_kd {μ : mM} {a : Nat} (h : WF0 μ a) : kd μ a = (0, 0) := h.1
theorem w0_f0 {μ : mM} {a : Nat} (h : WF0 μ a) : rv μ a 0 = some (a + 1) := h.2.1
theorem w0_k0 {μ : mM} {a : Nat} (h : WF0 μ a) : kd μ (a + 1) = (1, 6) := h.2.2.1
theorem w0_f1 {μ : mM} {a : Nat} (h : WF0 μ a) : rv μ a 1 = some (a + 2) := h.2.2.2.1
theorem w0_k1 {μ : mM} {a : Nat} (h : WF0 μ a) : kd μ (a + 2) = (1, 6) := h.2.2.2.2
def WF1 (μ : mM) (a : Nat) : Prop := kd μ a = (0, 1) ∧ rv μ a 0 = some (a + 1) ∧ kd μ (a + 1) = (1, 6)
theorem w1_kd {μ : mM} {a : Nat} (h : WF1 μ a) : kd μ a = (0, 1) := h.1
theorem w1_f0 {μ : mM} {a : Nat} (h : WF1 μ a) : rv μ a 0 = some (a + 1) := h.2.1
theorem w1_k0 {μ : mM} {a : Nat} (h : WF1 μ a) : kd μ (a + 1) = (1, 6) := h.2.2
def WF2 (μ : mM) (a : Nat) : Prop := kd μ a = (0, 2) ∧ rv μ a 0 = some (a + 1) ∧ rv μ a 1 = some (a + 25) ∧ kd μ (a + 25) = (1, 6)
theorem w2_kd {μ : mM} {a : Nat} (h : WF2 μ a) : kd μ a = (0, 2) := h.1
theorem w2_f0 {μ : mM} {a : Nat} (h : WF2 μ a) : rv μ a 0 = some (a + 1) := h.2.1
theorem w2_f1 {μ : mM} {a : Nat} (h : WF2 μ a) : rv μ a 1 = some (a + 25) := h.2.2.1
theorem w2_k1 {μ : mM} {a : Nat} (h : WF2 μ a) : kd μ (a + 25) = (1, 6) := h.2.2.2
def WF3 (μ : mM) (a : Nat) : Prop := kd μ a = (0, 3) ∧ rv μ a 1 = some (a + 1) ∧ kd μ (a + 1) = (1, 3) ∧ rv μ a 2 = some (a + 2) ∧ kd μ (a + 2) = (3, 3) ∧ rv μ a 4 = some (a + 3) ∧ kd μ (a + 3) = (1, 12) ∧ rv μ a 5 = some (a + 4) ∧ kd μ (a + 4) = (1, 12) ∧ rv μ a 6 = some (a + 5) ∧ kd μ (a + 5) = (1, 12) ∧ rv μ a 9 = some (a + 6) ∧ kd μ (a + 6) = (1, 3) ∧ rv μ a 10 = some (a + 7) ∧ kd μ (a + 7) = (1, 12)
theorem w3_kd {μ : mM} {a : Nat} (h : WF3 μ a) : kd μ a = (0, 3) := h.1
theorem w3_f1 {μ : mM} {a : Nat} (h : WF3 μ a) : rv μ a 1 = some (a + 1) := h.2.1
theorem w3_k1 {μ : mM} {a : Nat} (h : WF3 μ a) : kd μ (a + 1) = (1, 3) := h.2.2.1
theorem w3_f2 {μ : mM} {a : Nat} (h : WF3 μ a) : rv μ a 2 = some (a + 2) := h.2.2.2.1
theorem w3_k2 {μ : mM} {a : Nat} (h : WF3 μ a) : kd μ (a + 2) = (3, 3) := h.2.2.2.2.1
theorem w3_f4 {μ : mM} {a : Nat} (h : WF3 μ a) : rv μ a 4 = some (a + 3) := h.2.2.2.2.2.1
theorem w3_k4 {μ : mM} {a : Nat} (h : WF3 μ a) : kd μ (a + 3) = (1, 12) := h.2.2.2.2.2.2.1
theorem w3_f5 {μ : mM} {a : Nat} (h : WF3 μ a) : rv μ a 5 = some (a + 4) := h.2.2.2.2.2.2.2.1
theorem w3_k5 {μ : mM} {a : Nat} (h : WF3 μ a) : kd μ (a + 4) = (1, 12) := h.2.2.2.2.2.2.2.2.1
theorem w3_f6 {μ : mM} {a : Nat} (h : WF3 μ a) : rv μ a 6 = some (a + 5) := h.2.2.2.2.2.2.2.2.2.1
theorem w3_k6 {μ : mM} {a : Nat} (h : WF3 μ a) : kd μ (a + 5) = (1, 12) := h.2.2.2.2.2.2.2.2.2.2.1
theorem w3_f9 {μ : mM} {a : Nat} (h : WF3 μ a) : rv μ a 9 = some (a + 6) := h.2.2.2.2.2.2.2.2.2.2.2.1
theorem w3_k9 {μ : mM} {a : Nat} (h : WF3 μ a) : kd μ (a + 6) = (1, 3) := h.2.2.2.2.2.2.2.2.2.2.2.2.1
theorem w3_f10 {μ : mM} {a : Nat} (h : WF3 μ a) : rv μ a 10 = some (a + 7) := h.2.2.2.2.2.2.2.2.2.2.2.2.2.1
theorem w3_k10 {μ : mM} {a : Nat} (h : WF3 μ a) : kd μ (a + 7) = (1, 12) := h.2.2.2.2.2.2.2.2.2.2.2.2.2.2
def WF4 (μ : mM) (a : Nat) : Prop := kd μ a = (0, 4)
theorem w4_kd {μ : mM} {a : Nat} (h : WF4 μ a) : kd μ a = (0, 4) := h
def WF5 (μ : mM) (a : Nat) : Prop := kd μ a = (0, 5) ∧ rv μ a 1 = some (a + 1) ∧ kd μ (a + 1) = (3, 6) ∧ rv μ a 2 = some (a + 2) ∧ kd μ (a + 2) = (4, 3) ∧ (∀ i, i < 3 → rv μ (a + 2) i = some (a + 3 + i)) ∧ (∀ i, i < 3 → kd μ (a + 3 + i) = (1, 6)) ∧ rv μ a 3 = some (a + 6) ∧ kd μ (a + 6) = (4, 6) ∧ (∀ i, i < 6 → rv μ (a + 6) i = some (a + 7 + i)) ∧ (∀ i, i < 6 → kd μ (a + 7 + i) = (1, 6)) ∧ rv μ a 4 = some (a + 13) ∧ kd μ (a + 13) = (4, 6) ∧ (∀ i, i < 6 → rv μ (a + 13) i = some (a + 14 + i)) ∧ (∀ i, i < 6 → kd μ (a + 14 + i) = (1, 6)) ∧ rv μ a 5 = some (a + 20) ∧ kd μ (a + 20) = (4, 3) ∧ (∀ i, i < 3 → rv μ (a + 20) i = some (a + 21 + i)) ∧ (∀ i, i < 3 → kd μ (a + 21 + i) = (1, 6))
theorem w5_kd {μ : mM} {a : Nat} (h : WF5 μ a) : kd μ a = (0, 5) := h.1
theorem w5_f1 {μ : mM} {a : Nat} (h : WF5 μ a) : rv μ a 1 = some (a + 1) := h.2.1
theorem w5_k1 {μ : mM} {a : Nat} (h : WF5 μ a) : kd μ (a + 1) = (3, 6) := h.2.2.1
theorem w5_f2 {μ : mM} {a : Nat} (h : WF5 μ a) : rv μ a 2 = some (a + 2) := h.2.2.2.1
theorem w5_k2 {μ : mM} {a : Nat} (h : WF5 μ a) : kd μ (a + 2) = (4, 3) := h.2.2.2.2.1
theorem w5_r2 {μ : mM} {a : Nat} (h : WF5 μ a) : ∀ i, i < 3 → rv μ (a + 2) i = some (a + 3 + i) := h.2.2.2.2.2.1
theorem w5_q2 {μ : mM} {a : Nat} (h : WF5 μ a) : ∀ i, i < 3 → kd μ (a + 3 + i) = (1, 6) := h.2.2.2.2.2.2.1
theorem w5_f3 {μ : mM} {a : Nat} (h : WF5 μ a) : rv μ a 3 = some (a + 6) := h.2.2.2.2.2.2.2.1
theorem w5_k3 {μ : mM} {a : Nat} (h : WF5 μ a) : kd μ (a + 6) = (4, 6) := h.2.2.2.2.2.2.2.2.1
theorem w5_r3 {μ : mM} {a : Nat} (h : WF5 μ a) : ∀ i, i < 6 → rv μ (a + 6) i = some (a + 7 + i) := h.2.2.2.2.2.2.2.2.2.1
theorem w5_q3 {μ : mM} {a : Nat} (h : WF5 μ a) : ∀ i, i < 6 → kd μ (a + 7 + i) = (1, 6) := h.2.2.2.2.2.2.2.2.2.2.1
theorem w5_f4 {μ : mM} {a : Nat} (h : WF5 μ a) : rv μ a 4 = some (a + 13) := h.2.2.2.2.2.2.2.2.2.2.2.1
theorem w5_k4 {μ : mM} {a : Nat} (h : WF5 μ a) : kd μ (a + 13) = (4, 6) := h.2.2.2.2.2.2.2.2.2.2.2.2.1
theorem w5_r4 {μ : mM} {a : Nat} (h : WF5 μ a) : ∀ i, i < 6 → rv μ (a + 13) i = some (a + 14 + i) := h.2.2.2.2.2.2.2.2.2.2.2.2.2.1
theorem w5_q4 {μ : mM} {a : Nat} (h : WF5 μ a) : ∀ i, i < 6 → kd μ (a + 14 + i) = (1, 6) := h.2.2.2.2.2.2.2.2.2.2.2.2.2.2.1
theorem w5_f5 {μ : mM} {a : Nat} (h : WF5 μ a) : rv μ a 5 = some (a + 20) := h.2.2.2.2.2.2.2.2.2.2.2.2.2.2.2.1
theorem w5_k5 {μ : mM} {a : Nat} (h : WF5 μ a) : kd μ (a + 20) = (4, 3) := h.2.2.2.2.2.2.2.2.2.2.2.2.2.2.2.2.1
theorem w5_r5 {μ : mM} {a : Nat} (h : WF5 μ a) : ∀ i, i < 3 → rv μ (a + 20) i = some (a + 21 + i) := h.2.2.2.2.2.2.2.2.2.2.2.2.2.2.2.2.2.1
theorem w5_q5 {μ : mM} {a : Nat} (h : WF5 μ a) : ∀ i, i < 3 → kd μ (a + 21 + i) = (1, 6) := h.2.2.2.2.2.2.2.2.2.2.2.2.2.2.2.2.2.2
def WF6 (μ : mM) (a : Nat) : Prop := kd μ a = (0, 6) ∧ rv μ a 0 = some (a + 1)
theorem w6_kd {μ : mM} {a : Nat} (h : WF6 μ a) : kd μ a = (0, 6) := h.1
theorem w6_f0 {μ : mM} {a : Nat} (h : WF6 μ a) : rv μ a 0 = some (a + 1) := h.2
def WF7 (μ : mM) (a : Nat) : Prop := kd μ a = (0, 7) ∧ rv μ a 3 = some (a + 1) ∧ kd μ (a + 1) = (1, 40)
theorem w7_kd {μ : mM} {a : Nat} (h : WF7 μ a) : kd μ a = (0, 7) := h.1
theorem w7_f3 {μ : mM} {a : Nat} (h : WF7 μ a) : rv μ a 3 = some (a + 1) := h.2.1
theorem w7_k3 {μ : mM} {a : Nat} (h : WF7 μ a) : kd μ (a + 1) = (1, 40) := h.2.2
def WF8 (μ : mM) (a : Nat) : Prop := kd μ a = (0, 8)
theorem w8_kd {μ : mM} {a : Nat} (h : WF8 μ a) : kd μ a = (0, 8) := h
def WF9 (μ : mM) (a : Nat) : Prop := kd μ a = (0, 9) ∧ rv μ a 0 = some (a + 1) ∧ kd μ (a + 1) = (2, 320)
theorem w9_kd {μ : mM} {a : Nat} (h : WF9 μ a) : kd μ a = (0, 9) := h.1
theorem w9_f0 {μ : mM} {a : Nat} (h : WF9 μ a) : rv μ a 0 = some (a + 1) := h.2.1
theorem w9_k0 {μ : mM} {a : Nat} (h : WF9 μ a) : kd μ (a + 1) = (2, 320) := h.2.2
def WF10 (μ : mM) (a : Nat) : Prop := kd μ a = (0, 10) ∧ rv μ a 0 = some (a + 1) ∧ rv μ a 1 = some (a + 25) ∧ kd μ (a + 25) = (6, 4) ∧ (∀ i, i < 4 → rv μ (a + 25) i = some (a + 26 + 8 * i))
theorem w10_kd {μ : mM} {a : Nat} (h : WF10 μ a) : kd μ a = (0, 10) := h.1
theorem w10_f0 {μ : mM} {a : Nat} (h : WF10 μ a) : rv μ a 0 = some (a + 1) := h.2.1
theorem w10_f1 {μ : mM} {a : Nat} (h : WF10 μ a) : rv μ a 1 = some (a + 25) := h.2.2.1
theorem w10_k1 {μ : mM} {a : Nat} (h : WF10 μ a) : kd μ (a + 25) = (6, 4) := h.2.2.2.1
theorem w10_r1 {μ : mM} {a : Nat} (h : WF10 μ a) : ∀ i, i < 4 → rv μ (a + 25) i = some (a + 26 + 8 * i) := h.2.2.2.2
def WF11 (μ : mM) (a : Nat) : Prop := kd μ a = (0, 11) ∧ rv μ a 0 = some (a + 1) ∧ rv μ a 1 = some (a + 3) ∧ rv μ a 4 = some (a + 120) ∧ kd μ (a + 120) = (5, 2) ∧ (∀ i, i < 2 → rv μ (a + 120) i = some (a + 204 + 24 * i)) ∧ rv μ a 5 = some (a + 121) ∧ kd μ (a + 121) = (3, 2) ∧ rv μ a 6 = some (a + 122) ∧ kd μ (a + 122) = (7, 4) ∧ (∀ i, i < 4 → rv μ (a + 122) i = some (a + 252 + 2 * i)) ∧ rv μ a 8 = some (a + 123) ∧ rv μ a 9 = some (a + 147) ∧ rv μ a 10 = some (a + 149) ∧ rv μ a 11 = some (a + 175) ∧ rv μ a 12 = some (a + 200) ∧ rv μ a 13 = some (a + 201)
theorem w11_kd {μ : mM} {a : Nat} (h : WF11 μ a) : kd μ a = (0, 11) := h.1
theorem w11_f0 {μ : mM} {a : Nat} (h : WF11 μ a) : rv μ a 0 = some (a + 1) := h.2.1
theorem w11_f1 {μ : mM} {a : Nat} (h : WF11 μ a) : rv μ a 1 = some (a + 3) := h.2.2.1
theorem w11_f4 {μ : mM} {a : Nat} (h : WF11 μ a) : rv μ a 4 = some (a + 120) := h.2.2.2.1
theorem w11_k4 {μ : mM} {a : Nat} (h : WF11 μ a) : kd μ (a + 120) = (5, 2) := h.2.2.2.2.1
theorem w11_r4 {μ : mM} {a : Nat} (h : WF11 μ a) : ∀ i, i < 2 → rv μ (a + 120) i = some (a + 204 + 24 * i) := h.2.2.2.2.2.1
theorem w11_f5 {μ : mM} {a : Nat} (h : WF11 μ a) : rv μ a 5 = some (a + 121) := h.2.2.2.2.2.2.1
theorem w11_k5 {μ : mM} {a : Nat} (h : WF11 μ a) : kd μ (a + 121) = (3, 2) := h.2.2.2.2.2.2.2.1
theorem w11_f6 {μ : mM} {a : Nat} (h : WF11 μ a) : rv μ a 6 = some (a + 122) := h.2.2.2.2.2.2.2.2.1
theorem w11_k6 {μ : mM} {a : Nat} (h : WF11 μ a) : kd μ (a + 122) = (7, 4) := h.2.2.2.2.2.2.2.2.2.1
theorem w11_r6 {μ : mM} {a : Nat} (h : WF11 μ a) : ∀ i, i < 4 → rv μ (a + 122) i = some (a + 252 + 2 * i) := h.2.2.2.2.2.2.2.2.2.2.1
theorem w11_f8 {μ : mM} {a : Nat} (h : WF11 μ a) : rv μ a 8 = some (a + 123) := h.2.2.2.2.2.2.2.2.2.2.2.1
theorem w11_f9 {μ : mM} {a : Nat} (h : WF11 μ a) : rv μ a 9 = some (a + 147) := h.2.2.2.2.2.2.2.2.2.2.2.2.1
theorem w11_f10 {μ : mM} {a : Nat} (h : WF11 μ a) : rv μ a 10 = some (a + 149) := h.2.2.2.2.2.2.2.2.2.2.2.2.2.1
theorem w11_f11 {μ : mM} {a : Nat} (h : WF11 μ a) : rv μ a 11 = some (a + 175) := h.2.2.2.2.2.2.2.2.2.2.2.2.2.2.1
theorem w11_f12 {μ : mM} {a : Nat} (h : WF11 μ a) : rv μ a 12 = some (a + 200) := h.2.2.2.2.2.2.2.2.2.2.2.2.2.2.2.1
theorem w11_f13 {μ : mM} {a : Nat} (h : WF11 μ a) : rv μ a 13 = some (a + 201) := h.2.2.2.2.2.2.2.2.2.2.2.2.2.2.2.2
def WF12 (μ : mM) (a : Nat) : Prop := kd μ a = (0, 12) ∧ rv μ a 0 = some (a + 1) ∧ kd μ (a + 1) = (1, 366) ∧ rv μ a 1 = some (a + 2) ∧ kd μ (a + 2) = (1, 192) ∧ rv μ a 3 = some (a + 3) ∧ kd μ (a + 3) = (1, 192) ∧ rv μ a 5 = some (a + 4) ∧ kd μ (a + 4) = (1, 320) ∧ rv μ a 15 = some (a + 5) ∧ kd μ (a + 5) = (1, 14) ∧ rv μ a 16 = some (a + 6) ∧ kd μ (a + 6) = (1, 46) ∧ rv μ a 17 = some (a + 7) ∧ kd μ (a + 7) = (1, 36) ∧ rv μ a 18 = some (a + 8) ∧ kd μ (a + 8) = (1, 3) ∧ rv μ a 19 = some (a + 9) ∧ kd μ (a + 9) = (1, 13) ∧ rv μ a 20 = some (a + 10) ∧ kd μ (a + 10) = (1, 6) ∧ rv μ a 21 = some (a + 11) ∧ kd μ (a + 11) = (1, 18) ∧ rv μ a 23 = some (a + 12) ∧ kd μ (a + 12) = (3, 2) ∧ rv μ a 24 = some (a + 13) ∧ kd μ (a + 13) = (1, 7) ∧ rv μ a 25 = some (a + 14) ∧ kd μ (a + 14) = (1, 4) ∧ rv μ a 26 = some (a + 15) ∧ kd μ (a + 15) = (1, 4) ∧ rv μ a 27 = some (a + 16) ∧ kd μ (a + 16) = (1, 160)
theorem w12_kd {μ : mM} {a : Nat} (h : WF12 μ a) : kd μ a = (0, 12) := h.1
theorem w12_f0 {μ : mM} {a : Nat} (h : WF12 μ a) : rv μ a 0 = some (a + 1) := h.2.1
theorem w12_k0 {μ : mM} {a : Nat} (h : WF12 μ a) : kd μ (a + 1) = (1, 366) := h.2.2.1
theorem w12_f1 {μ : mM} {a : Nat} (h : WF12 μ a) : rv μ a 1 = some (a + 2) := h.2.2.2.1
theorem w12_k1 {μ : mM} {a : Nat} (h : WF12 μ a) : kd μ (a + 2) = (1, 192) := h.2.2.2.2.1
theorem w12_f3 {μ : mM} {a : Nat} (h : WF12 μ a) : rv μ a 3 = some (a + 3) := h.2.2.2.2.2.1
theorem w12_k3 {μ : mM} {a : Nat} (h : WF12 μ a) : kd μ (a + 3) = (1, 192) := h.2.2.2.2.2.2.1
theorem w12_f5 {μ : mM} {a : Nat} (h : WF12 μ a) : rv μ a 5 = some (a + 4) := h.2.2.2.2.2.2.2.1
theorem w12_k5 {μ : mM} {a : Nat} (h : WF12 μ a) : kd μ (a + 4) = (1, 320) := h.2.2.2.2.2.2.2.2.1
theorem w12_f15 {μ : mM} {a : Nat} (h : WF12 μ a) : rv μ a 15 = some (a + 5) := h.2.2.2.2.2.2.2.2.2.1
theorem w12_k15 {μ : mM} {a : Nat} (h : WF12 μ a) : kd μ (a + 5) = (1, 14) := h.2.2.2.2.2.2.2.2.2.2.1
theorem w12_f16 {μ : mM} {a : Nat} (h : WF12 μ a) : rv μ a 16 = some (a + 6) := h.2.2.2.2.2.2.2.2.2.2.2.1
theorem w12_k16 {μ : mM} {a : Nat} (h : WF12 μ a) : kd μ (a + 6) = (1, 46) := h.2.2.2.2.2.2.2.2.2.2.2.2.1
theorem w12_f17 {μ : mM} {a : Nat} (h : WF12 μ a) : rv μ a 17 = some (a + 7) := h.2.2.2.2.2.2.2.2.2.2.2.2.2.1
theorem w12_k17 {μ : mM} {a : Nat} (h : WF12 μ a) : kd μ (a + 7) = (1, 36) := h.2.2.2.2.2.2.2.2.2.2.2.2.2.2.1
theorem w12_f18 {μ : mM} {a : Nat} (h : WF12 μ a) : rv μ a 18 = some (a + 8) := h.2.2.2.2.2.2.2.2.2.2.2.2.2.2.2.1
theorem w12_k18 {μ : mM} {a : Nat} (h : WF12 μ a) : kd μ (a + 8) = (1, 3) := h.2.2.2.2.2.2.2.2.2.2.2.2.2.2.2.2.1
theorem w12_f19 {μ : mM} {a : Nat} (h : WF12 μ a) : rv μ a 19 = some (a + 9) := h.2.2.2.2.2.2.2.2.2.2.2.2.2.2.2.2.2.1
theorem w12_k19 {μ : mM} {a : Nat} (h : WF12 μ a) : kd μ (a + 9) = (1, 13) := h.2.2.2.2.2.2.2.2.2.2.2.2.2.2.2.2.2.2.1
theorem w12_f20 {μ : mM} {a : Nat} (h : WF12 μ a) : rv μ a 20 = some (a + 10) := h.2.2.2.2.2.2.2.2.2.2.2.2.2.2.2.2.2.2.2.1
theorem w12_k20 {μ : mM} {a : Nat} (h : WF12 μ a) : kd μ (a + 10) = (1, 6) := h.2.2.2.2.2.2.2.2.2.2.2.2.2.2.2.2.2.2.2.2.1
theorem w12_f21 {μ : mM} {a : Nat} (h : WF12 μ a) : rv μ a 21 = some (a + 11) := h.2.2.2.2.2.2.2.2.2.2.2.2.2.2.2.2.2.2.2.2.2.1
theorem w12_k21 {μ : mM} {a : Nat} (h : WF12 μ a) : kd μ (a + 11) = (1, 18) := h.2.2.2.2.2.2.2.2.2.2.2.2.2.2.2.2.2.2.2.2.2.2.1
theorem w12_f23 {μ : mM} {a : Nat} (h : WF12 μ a) : rv μ a 23 = some (a + 12) := h.2.2.2.2.2.2.2.2.2.2.2.2.2.2.2.2.2.2.2.2.2.2.2.1
theorem w12_k23 {μ : mM} {a : Nat} (h : WF12 μ a) : kd μ (a + 12) = (3, 2) := h.2.2.2.2.2.2.2.2.2.2.2.2.2.2.2.2.2.2.2.2.2.2.2.2.1
theorem w12_f24 {μ : mM} {a : Nat} (h : WF12 μ a) : rv μ a 24 = some (a + 13) := h.2.2.2.2.2.2.2.2.2.2.2.2.2.2.2.2.2.2.2.2.2.2.2.2.2.1
theorem w12_k24 {μ : mM} {a : Nat} (h : WF12 μ a) : kd μ (a + 13) = (1, 7) := h.2.2.2.2.2.2.2.2.2.2.2.2.2.2.2.2.2.2.2.2.2.2.2.2.2.2.1
theorem w12_f25 {μ : mM} {a : Nat} (h : WF12 μ a) : rv μ a 25 = some (a + 14) := h.2.2.2.2.2.2.2.2.2.2.2.2.2.2.2.2.2.2.2.2.2.2.2.2.2.2.2.1
theorem w12_k25 {μ : mM} {a : Nat} (h : WF12 μ a) : kd μ (a + 14) = (1, 4) := h.2.2.2.2.2.2.2.2.2.2.2.2.2.2.2.2.2.2.2.2.2.2.2.2.2.2.2.2.1
theorem w12_f26 {μ : mM} {a : Nat} (h : WF12 μ a) : rv μ a 26 = some (a + 15) := h.2.2.2.2.2.2.2.2.2.2.2.2.2.2.2.2.2.2.2.2.2.2.2.2.2.2.2.2.2.1
theorem w12_k26 {μ : mM} {a : Nat} (h : WF12 μ a) : kd μ (a + 15) = (1, 4) := h.2.2.2.2.2.2.2.2.2.2.2.2.2.2.2.2.2.2.2.2.2.2.2.2.2.2.2.2.2.2.1
theorem w12_f27 {μ : mM} {a : Nat} (h : WF12 μ a) : rv μ a 27 = some (a + 16) := h.2.2.2.2.2.2.2.2.2.2.2.2.2.2.2.2.2.2.2.2.2.2.2.2.2.2.2.2.2.2.2.1
theorem w12_k27 {μ : mM} {a : Nat} (h : WF12 μ a) : kd μ (a + 16) = (1, 160) := h.2.2.2.2.2.2.2.2.2.2.2.2.2.2.2.2.2.2.2.2.2.2.2.2.2.2.2.2.2.2.2.2
/-- the ints of a memory -/
def sI (μ : mM) (f : Nat → Nat → Int32) : mM := (μ.1, f, μ.2.2)
theorem iv_sI (μ : mM) (f : Nat → Nat → Int32) (a k : Nat) : iv (sI μ f) a k = f a k := rfl
theorem kd_sI (μ : mM) (f : Nat → Nat → Int32) (a : Nat) : kd (sI μ f) a = kd μ a := rfl
theorem rv_sI (μ : mM) (f : Nat → Nat → Int32) (a k : Nat) : rv (sI μ f) a k = rv μ a k := rfl
def u2 (f : Nat → Nat → Int32) (a k : Nat) (v : Int32) : Nat → Nat → Int32 := fun x j => if x = a ∧ j = k then v else f x j
theorem wi_sI (μ : mM) (f : Nat → Nat → Int32) (a k : Nat) (v : Int32) : wi (sI μ f) a k v = sI μ (u2 f a k v) := rfl
theorem inc1 (i : Nat) : nI i + Int32.ofInt 1 = nI (i + 1) := nI_1 i
theorem incI (x : Int32) : x + Int32.ofInt 1 = x + 1 := rfl
theorem decI (x : Int32) : x + Int32.ofInt (-1) = x + (-1) := rfl
theorem nar_b {v : Int32} (h : v = 0 ∨ v = 1) : narrow .boolean (.int v) = .int v := by rcases h with rfl | rfl <;> rfl
theorem fit_b {v : Int32} (h : v = 0 ∨ v = 1) : fits .boolean (.int v) = true := by rcases h with rfl | rfl <;> rfl
theorem vpn_b {v : Int32} (h : v = 0 ∨ v = 1) : vp_nar .boolean v = v := by rcases h with rfl | rfl <;> rfl
theorem ic_m1 : Int32.ofInt (-1) = (-1) := by decide
theorem ic_0 : Int32.ofInt 0 = 0 := by decide
theorem ic_1 : Int32.ofInt 1 = 1 := by decide
theorem ic_2 : Int32.ofInt 2 = 2 := by decide
theorem ic_3 : Int32.ofInt 3 = 3 := by decide
theorem ic_4 : Int32.ofInt 4 = 4 := by decide
theorem ic_5 : Int32.ofInt 5 = 5 := by decide
theorem bp_m20 : (Int8.ofInt (-20)).toInt32 = (-20) := by decide
theorem bp_m14 : (Int8.ofInt (-14)).toInt32 = (-14) := by decide
theorem bp_m12 : (Int8.ofInt (-12)).toInt32 = (-12) := by decide
theorem bp_m11 : (Int8.ofInt (-11)).toInt32 = (-11) := by decide
theorem bp_m10 : (Int8.ofInt (-10)).toInt32 = (-10) := by decide
theorem bp_m4 : (Int8.ofInt (-4)).toInt32 = (-4) := by decide
theorem bp_m3 : (Int8.ofInt (-3)).toInt32 = (-3) := by decide
theorem bp_m2 : (Int8.ofInt (-2)).toInt32 = (-2) := by decide
theorem bp_6 : (Int8.ofInt 6).toInt32 = 6 := by decide
theorem bp_7 : (Int8.ofInt 7).toInt32 = 7 := by decide
theorem bp_8 : (Int8.ofInt 8).toInt32 = 8 := by decide
theorem bp_9 : (Int8.ofInt 9).toInt32 = 9 := by decide
theorem bp_10 : (Int8.ofInt 10).toInt32 = 10 := by decide
theorem bp_11 : (Int8.ofInt 11).toInt32 = 11 := by decide
theorem bp_12 : (Int8.ofInt 12).toInt32 = 12 := by decide
theorem bp_13 : (Int8.ofInt 13).toInt32 = 13 := by decide
theorem bp_14 : (Int8.ofInt 14).toInt32 = 14 := by decide
theorem bp_15 : (Int8.ofInt 15).toInt32 = 15 := by decide
theorem bp_16 : (Int8.ofInt 16).toInt32 = 16 := by decide
theorem bp_17 : (Int8.ofInt 17).toInt32 = 17 := by decide
theorem bp_18 : (Int8.ofInt 18).toInt32 = 18 := by decide
theorem bp_19 : (Int8.ofInt 19).toInt32 = 19 := by decide
theorem bp_20 : (Int8.ofInt 20).toInt32 = 20 := by decide
theorem bp_21 : (Int8.ofInt 21).toInt32 = 21 := by decide
theorem bp_22 : (Int8.ofInt 22).toInt32 = 22 := by decide
theorem bp_23 : (Int8.ofInt 23).toInt32 = 23 := by decide
theorem bp_24 : (Int8.ofInt 24).toInt32 = 24 := by decide
theorem bp_25 : (Int8.ofInt 25).toInt32 = 25 := by decide
theorem bp_26 : (Int8.ofInt 26).toInt32 = 26 := by decide
theorem bp_27 : (Int8.ofInt 27).toInt32 = 27 := by decide
theorem bp_28 : (Int8.ofInt 28).toInt32 = 28 := by decide
theorem bp_29 : (Int8.ofInt 29).toInt32 = 29 := by decide
theorem bp_30 : (Int8.ofInt 30).toInt32 = 30 := by decide
theorem bp_31 : (Int8.ofInt 31).toInt32 = 31 := by decide
theorem bp_32 : (Int8.ofInt 32).toInt32 = 32 := by decide
theorem bp_33 : (Int8.ofInt 33).toInt32 = 33 := by decide
theorem bp_34 : (Int8.ofInt 34).toInt32 = 34 := by decide
theorem bp_35 : (Int8.ofInt 35).toInt32 = 35 := by decide
theorem bp_36 : (Int8.ofInt 36).toInt32 = 36 := by decide
theorem bp_37 : (Int8.ofInt 37).toInt32 = 37 := by decide
theorem bp_38 : (Int8.ofInt 38).toInt32 = 38 := by decide
theorem bp_39 : (Int8.ofInt 39).toInt32 = 39 := by decide
theorem bp_40 : (Int8.ofInt 40).toInt32 = 40 := by decide
theorem bp_41 : (Int8.ofInt 41).toInt32 = 41 := by decide
theorem bp_42 : (Int8.ofInt 42).toInt32 = 42 := by decide
theorem bp_43 : (Int8.ofInt 43).toInt32 = 43 := by decide
theorem bp_44 : (Int8.ofInt 44).toInt32 = 44 := by decide
theorem bp_45 : (Int8.ofInt 45).toInt32 = 45 := by decide
theorem bp_46 : (Int8.ofInt 46).toInt32 = 46 := by decide
theorem bp_48 : (Int8.ofInt 48).toInt32 = 48 := by decide
theorem bp_54 : (Int8.ofInt 54).toInt32 = 54 := by decide
theorem bp_57 : (Int8.ofInt 57).toInt32 = 57 := by decide
theorem bp_58 : (Int8.ofInt 58).toInt32 = 58 := by decide
theorem bp_59 : (Int8.ofInt 59).toInt32 = 59 := by decide
theorem bp_60 : (Int8.ofInt 60).toInt32 = 60 := by decide
theorem bp_61 : (Int8.ofInt 61).toInt32 = 61 := by decide
theorem bp_97 : (Int8.ofInt 97).toInt32 = 97 := by decide
theorem bp_98 : (Int8.ofInt 98).toInt32 = 98 := by decide
theorem bp_99 : (Int8.ofInt 99).toInt32 = 99 := by decide
theorem bp_100 : (Int8.ofInt 100).toInt32 = 100 := by decide
theorem bp_101 : (Int8.ofInt 101).toInt32 = 101 := by decide
theorem bp_104 : (Int8.ofInt 104).toInt32 = 104 := by decide
theorem bp_107 : (Int8.ofInt 107).toInt32 = 107 := by decide
theorem bp_108 : (Int8.ofInt 108).toInt32 = 108 := by decide
theorem bp_109 : (Int8.ofInt 109).toInt32 = 109 := by decide
theorem bp_110 : (Int8.ofInt 110).toInt32 = 110 := by decide
theorem bp_111 : (Int8.ofInt 111).toInt32 = 111 := by decide
theorem bp_114 : (Int8.ofInt 114).toInt32 = 114 := by decide
theorem bp_115 : (Int8.ofInt 115).toInt32 = 115 := by decide
theorem bp_116 : (Int8.ofInt 116).toInt32 = 116 := by decide
theorem bp_120 : (Int8.ofInt 120).toInt32 = 120 := by decide
theorem bp_121 : (Int8.ofInt 121).toInt32 = 121 := by decide
theorem bp_122 : (Int8.ofInt 122).toInt32 = 122 := by decide
theorem bp_127 : (Int8.ofInt 127).toInt32 = 127 := by decide
theorem sp_160 : (Int16.ofInt 160).toInt32 = 160 := by decide
theorem sp_183 : (Int16.ofInt 183).toInt32 = 183 := by decide
theorem sp_192 : (Int16.ofInt 192).toInt32 = 192 := by decide
theorem sp_243 : (Int16.ofInt 243).toInt32 = 243 := by decide
theorem sp_244 : (Int16.ofInt 244).toInt32 = 244 := by decide
theorem sp_255 : (Int16.ofInt 255).toInt32 = 255 := by decide
theorem sp_305 : (Int16.ofInt 305).toInt32 = 305 := by decide
theorem sp_311 : (Int16.ofInt 311).toInt32 = 311 := by decide
theorem sp_320 : (Int16.ofInt 320).toInt32 = 320 := by decide
theorem sp_329 : (Int16.ofInt 329).toInt32 = 329 := by decide
theorem sp_365 : (Int16.ofInt 365).toInt32 = 365 := by decide
theorem sp_366 : (Int16.ofInt 366).toInt32 = 366 := by decide
theorem sp_12345 : (Int16.ofInt 12345).toInt32 = 12345 := by decide
theorem sp_32767 : (Int16.ofInt 32767).toInt32 = 32767 := by decide
end
section
theorem nadd {x y : Int32} {a b : Nat} (hx : x = nI a) (hy : y = nI b) : x + y = nI (a + b) := by rw [hx, hy]; exact nI_add a b
theorem nmul {x y : Int32} {a b : Nat} (hx : x = nI a) (hy : y = nI b) : x * y = nI (a * b) := by rw [hx, hy]; exact pk_mul a b
theorem d_X5_has_0 : decode cX5_has 0 = .ok (.iload_n 1, 1) := by decide +kernel
theorem d_X5_has_1 : decode cX5_has 1 = .ok (.ifCond .lt 15, 3) := by decide +kernel
theorem d_X5_has_4 : decode cX5_has 4 = .ok (.iload_n 1, 1) := by decide +kernel
theorem d_X5_has_5 : decode cX5_has 5 = .ok (.aload_n 0, 1) := by decide +kernel
theorem d_X5_has_6 : decode cX5_has 6 = .ok (.getfield 29, 3) := by decide +kernel
theorem d_X5_has_9 : decode cX5_has 9 = .ok (.if_icmp .ge 7, 3) := by decide +kernel
theorem d_X5_has_12 : decode cX5_has 12 = .ok (.iconst 1, 1) := by decide +kernel
theorem d_X5_has_13 : decode cX5_has 13 = .ok (.goto 4, 3) := by decide +kernel
theorem d_X5_has_16 : decode cX5_has 16 = .ok (.iconst 0, 1) := by decide +kernel
theorem d_X5_has_17 : decode cX5_has 17 = .ok (.ireturn, 1) := by decide +kernel
theorem b_X5_has_0 {X : cX} {d : Nat} {μ : mM} {K : Option Value → mM → Prop} {r0 : Nat} {l1 : Int32} (hK : l1 < 0 → K (some (.int 0)) μ) (w5_r0 : WF5 μ r0) (hK_2 : ¬ l1 < 0 → (iv μ r0 0) ≤ l1 → K (some (.int 0)) μ) (hK_3 : ¬ l1 < 0 → ¬ (iv μ r0 0) ≤ l1 → K (some (.int 1)) μ) : G X (Rm d) mX5_has 0 [(0, .ref r0), (1, .int l1)] [] μ 0 0 K := by
  refine G_iload_n d_X5_has_0 rfl 1 rfl ?_
  refine G_if_lt (tgt := 16) d_X5_has_1 rfl (fun c0 => ?_) (fun c0 => ?_)
  ·
    refine G_iconst d_X5_has_16 ic_0 ?_
    exact G_zret rfl rfl rfl rfl d_X5_has_17 (hK c0)
  ·
    refine G_iload_n d_X5_has_4 rfl 1 rfl ?_
    refine G_aload_n d_X5_has_5 rfl 0 rfl ?_
    refine G_getI 5 0 (w5_kd w5_r0) cok5 (by decide) rfl fl_X5_29 d_X5_has_6 ?_
    refine G_icmp_ge (tgt := 16) d_X5_has_9 rfl (fun c1 => ?_) (fun c1 => ?_)
    ·
      refine G_iconst d_X5_has_16 ic_0 ?_
      exact G_zret rfl rfl rfl rfl d_X5_has_17 (hK_2 c0 c1)
    ·
      refine G_iconst d_X5_has_12 ic_1 ?_
      refine G_goto (tgt := 17) d_X5_has_13 rfl ?_
      exact G_zret rfl rfl rfl rfl d_X5_has_17 (hK_3 c0 c1)
theorem d_X5_isFull_0 : decode cX5_isFull 0 = .ok (.aload_n 0, 1) := by decide +kernel
theorem d_X5_isFull_1 : decode cX5_isFull 1 = .ok (.getfield 29, 3) := by decide +kernel
theorem d_X5_isFull_4 : decode cX5_isFull 4 = .ok (.bipush 6, 2) := by decide +kernel
theorem d_X5_isFull_6 : decode cX5_isFull 6 = .ok (.if_icmp .lt 7, 3) := by decide +kernel
theorem d_X5_isFull_9 : decode cX5_isFull 9 = .ok (.iconst 1, 1) := by decide +kernel
theorem d_X5_isFull_10 : decode cX5_isFull 10 = .ok (.goto 4, 3) := by decide +kernel
theorem d_X5_isFull_13 : decode cX5_isFull 13 = .ok (.iconst 0, 1) := by decide +kernel
theorem d_X5_isFull_14 : decode cX5_isFull 14 = .ok (.ireturn, 1) := by decide +kernel
theorem b_X5_isFull_0 {X : cX} {d : Nat} {μ : mM} {K : Option Value → mM → Prop} {r0 : Nat} (w5_r0 : WF5 μ r0) (hK : (iv μ r0 0) < (6 : Int32) → K (some (.int 0)) μ) (hK_2 : ¬ (iv μ r0 0) < (6 : Int32) → K (some (.int 1)) μ) : G X (Rm d) mX5_isFull 0 [(0, .ref r0)] [] μ 0 0 K := by
  refine G_aload_n d_X5_isFull_0 rfl 0 rfl ?_
  refine G_getI 5 0 (w5_kd w5_r0) cok5 (by decide) rfl fl_X5_29 d_X5_isFull_1 ?_
  refine G_bipush d_X5_isFull_4 bp_6 ?_
  refine G_icmp_lt (tgt := 13) d_X5_isFull_6 rfl (fun c0 => ?_) (fun c0 => ?_)
  ·
    refine G_iconst d_X5_isFull_13 ic_0 ?_
    exact G_zret rfl rfl rfl rfl d_X5_isFull_14 (hK c0)
  ·
    refine G_iconst d_X5_isFull_9 ic_1 ?_
    refine G_goto (tgt := 14) d_X5_isFull_10 rfl ?_
    exact G_zret rfl rfl rfl rfl d_X5_isFull_14 (hK_2 c0)
theorem d_X5_clear_0 : decode cX5_clear 0 = .ok (.aload_n 0, 1) := by decide +kernel
theorem d_X5_clear_1 : decode cX5_clear 1 = .ok (.iconst 0, 1) := by decide +kernel
theorem d_X5_clear_2 : decode cX5_clear 2 = .ok (.putfield 29, 3) := by decide +kernel
theorem d_X5_clear_5 : decode cX5_clear 5 = .ok (.iconst 0, 1) := by decide +kernel
theorem d_X5_clear_6 : decode cX5_clear 6 = .ok (.istore_n 1, 1) := by decide +kernel
theorem d_X5_clear_7 : decode cX5_clear 7 = .ok (.iload_n 1, 1) := by decide +kernel
theorem d_X5_clear_8 : decode cX5_clear 8 = .ok (.iconst 3, 1) := by decide +kernel
theorem d_X5_clear_9 : decode cX5_clear 9 = .ok (.if_icmp .ge 19, 3) := by decide +kernel
theorem d_X5_clear_12 : decode cX5_clear 12 = .ok (.aload_n 0, 1) := by decide +kernel
theorem d_X5_clear_13 : decode cX5_clear 13 = .ok (.getfield 17, 3) := by decide +kernel
theorem d_X5_clear_16 : decode cX5_clear 16 = .ok (.iload_n 1, 1) := by decide +kernel
theorem d_X5_clear_17 : decode cX5_clear 17 = .ok (.aaload, 1) := by decide +kernel
theorem d_X5_clear_18 : decode cX5_clear 18 = .ok (.iconst 0, 1) := by decide +kernel
theorem d_X5_clear_19 : decode cX5_clear 19 = .ok (.invokestatic 33, 3) := by decide +kernel
theorem d_X5_clear_22 : decode cX5_clear 22 = .ok (.iinc 1 1, 3) := by decide +kernel
theorem d_X5_clear_25 : decode cX5_clear 25 = .ok (.goto (-18), 3) := by decide +kernel
theorem d_X5_clear_28 : decode cX5_clear 28 = .ok (.iconst 0, 1) := by decide +kernel
theorem d_X5_clear_29 : decode cX5_clear 29 = .ok (.istore_n 1, 1) := by decide +kernel
theorem d_X5_clear_30 : decode cX5_clear 30 = .ok (.iload_n 1, 1) := by decide +kernel
theorem d_X5_clear_31 : decode cX5_clear 31 = .ok (.bipush 6, 2) := by decide +kernel
theorem d_X5_clear_33 : decode cX5_clear 33 = .ok (.if_icmp .ge 26, 3) := by decide +kernel
theorem d_X5_clear_36 : decode cX5_clear 36 = .ok (.aload_n 0, 1) := by decide +kernel
theorem d_X5_clear_37 : decode cX5_clear 37 = .ok (.getfield 9, 3) := by decide +kernel
theorem d_X5_clear_40 : decode cX5_clear 40 = .ok (.iload_n 1, 1) := by decide +kernel
theorem d_X5_clear_41 : decode cX5_clear 41 = .ok (.iconst 0, 1) := by decide +kernel
theorem d_X5_clear_42 : decode cX5_clear 42 = .ok (.bastore, 1) := by decide +kernel
theorem d_X5_clear_43 : decode cX5_clear 43 = .ok (.aload_n 0, 1) := by decide +kernel
theorem d_X5_clear_44 : decode cX5_clear 44 = .ok (.getfield 20, 3) := by decide +kernel
theorem d_X5_clear_47 : decode cX5_clear 47 = .ok (.iload_n 1, 1) := by decide +kernel
theorem d_X5_clear_48 : decode cX5_clear 48 = .ok (.aaload, 1) := by decide +kernel
theorem d_X5_clear_49 : decode cX5_clear 49 = .ok (.iconst 0, 1) := by decide +kernel
theorem d_X5_clear_50 : decode cX5_clear 50 = .ok (.invokestatic 33, 3) := by decide +kernel
theorem d_X5_clear_53 : decode cX5_clear 53 = .ok (.iinc 1 1, 3) := by decide +kernel
theorem d_X5_clear_56 : decode cX5_clear 56 = .ok (.goto (-26), 3) := by decide +kernel
theorem d_X5_clear_59 : decode cX5_clear 59 = .ok (.return_, 1) := by decide +kernel
theorem b_X5_clear_0 {X : cX} {d : Nat} {μ : mM} {K : Option Value → mM → Prop} {r0 : Nat} (w5_r0 : WF5 μ r0) (h : G X (Rm (d + 1)) mX5_clear 7 [(0, .ref r0), (1, .int 0)] [] (wi μ r0 0 0) 0 0 K) : G X (Rm (d + 1)) mX5_clear 0 [(0, .ref r0)] [] μ 0 0 K := by
  refine G_aload_n d_X5_clear_0 rfl 0 rfl ?_
  refine G_iconst d_X5_clear_1 ic_0 ?_
  refine G_putI 5 0 (w5_kd w5_r0) rfl rfl cok5 (by decide) rfl (Or.inl rfl) fl_X5_29 d_X5_clear_2 ?_
  refine G_iconst d_X5_clear_5 ic_0 ?_
  refine G_istore_n (L' := [(1, .int 0), (0, .ref r0)]) d_X5_clear_6 rfl (by decide) rfl ?_
  refine G_sub (L' := [(0, .ref r0), (1, .int 0)]) [1, 0] rfl ?_
  exact h
theorem b_X5_clear_7 {X : cX} {d : Nat} {μ : mM} {K : Option Value → mM → Prop} {r0 : Nat} {i1 : Nat} (h : (3 : Int32) ≤ (nI i1) → G X (Rm (d + 1)) mX5_clear 30 [(0, .ref r0), (1, .int 0)] [] μ 0 0 K) (w5_r0 : WF5 μ r0) (hb : ¬ (3 : Int32) ≤ (nI i1) → i1 < 3) (hc_fill : ¬ (3 : Int32) ≤ (nI i1) → Ct X (Rm d) mJ7_fill_53178 [.ref (r0 + 3 + i1), .int 0] μ (fun r μ2 => G X (Rm (d + 1)) mX5_clear 22 [(0, .ref r0), (1, .int (nI i1))] (r.toList ++ []) μ2 0 0 K)) : G X (Rm (d + 1)) mX5_clear 7 [(0, .ref r0), (1, .int (nI i1))] [] μ 0 0 K := by
  refine G_iload_n d_X5_clear_7 rfl 1 rfl ?_
  refine G_iconst d_X5_clear_8 ic_3 ?_
  refine G_icmp_ge (tgt := 28) d_X5_clear_9 rfl (fun c0 => ?_) (fun c0 => ?_)
  ·
    refine G_iconst d_X5_clear_28 ic_0 ?_
    refine G_istore_n (L' := [(1, .int 0), (0, .ref r0)]) d_X5_clear_29 rfl (by decide) rfl ?_
    refine G_sub (L' := [(0, .ref r0), (1, .int 0)]) [1, 0] rfl ?_
    exact (h c0)
  ·
    refine G_aload_n d_X5_clear_12 rfl 0 rfl ?_
    refine G_getR (r := r0 + 2) 5 2 (w5_kd w5_r0) (w5_f2 w5_r0) cok5 (by decide) rfl fl_X5_17 d_X5_clear_13 ?_
    refine G_iload_n d_X5_clear_16 rfl 1 rfl ?_
    refine G_aaldA (r := r0 + 3 + i1) i1 (w5_k2 w5_r0) rfl (hb c0) (w5_r2 w5_r0 i1 (hb c0)) d_X5_clear_17 ?_
    refine G_iconst d_X5_clear_18 ic_0 ?_
    refine G_callS (M' := mJ7_fill_53178) (R' := (Rm d)) (S := []) [.ref (r0 + 3 + i1), .int 0] ok_J7_fill_53178 ml_X5_33 pn_J7_fill_53178 (ru_Rm (by decide)) (Nat.le_of_ble_eq_true rfl) d_X5_clear_19 ?_
    exact (hc_fill c0)
theorem b_X5_clear_22 {X : cX} {d : Nat} {μ : mM} {K : Option Value → mM → Prop} {r0 : Nat} {i1 : Nat} (h : G X (Rm (d + 1)) mX5_clear 7 [(0, .ref r0), (1, .int (nI (i1 + 1)))] [] μ 0 0 K) : G X (Rm (d + 1)) mX5_clear 22 [(0, .ref r0), (1, .int (nI i1))] [] μ 0 0 K := by
  refine G_iinc (L' := [(1, .int (nI (i1 + 1))), (0, .ref r0)]) d_X5_clear_22 1 rfl (inc1 i1) (by decide) rfl ?_
  refine G_goto (tgt := 7) d_X5_clear_25 rfl ?_
  refine G_sub (L' := [(0, .ref r0), (1, .int (nI (i1 + 1)))]) [1, 0] rfl ?_
  exact h
theorem b_X5_clear_30 {X : cX} {d : Nat} {μ : mM} {K : Option Value → mM → Prop} {r0 : Nat} {i1 : Nat} (hK : (6 : Int32) ≤ (nI i1) → K none μ) (w5_r0 : WF5 μ r0) (hb : ¬ (6 : Int32) ≤ (nI i1) → i1 < 6) (hc_fill : ¬ (6 : Int32) ≤ (nI i1) → Ct X (Rm d) mJ7_fill_53178 [.ref (r0 + 7 + i1), .int 0] (wi μ (r0 + 1) i1 0) (fun r μ2 => G X (Rm (d + 1)) mX5_clear 53 [(0, .ref r0), (1, .int (nI i1))] (r.toList ++ []) μ2 0 0 K)) : G X (Rm (d + 1)) mX5_clear 30 [(0, .ref r0), (1, .int (nI i1))] [] μ 0 0 K := by
  refine G_iload_n d_X5_clear_30 rfl 1 rfl ?_
  refine G_bipush d_X5_clear_31 bp_6 ?_
  refine G_icmp_ge (tgt := 59) d_X5_clear_33 rfl (fun c0 => ?_) (fun c0 => ?_)
  ·
    exact G_vret rfl rfl rfl d_X5_clear_59 (hK c0)
  ·
    refine G_aload_n d_X5_clear_36 rfl 0 rfl ?_
    refine G_getR (r := r0 + 1) 5 1 (w5_kd w5_r0) (w5_f1 w5_r0) cok5 (by decide) rfl fl_X5_9 d_X5_clear_37 ?_
    refine G_iload_n d_X5_clear_40 rfl 1 rfl ?_
    refine G_iconst d_X5_clear_41 ic_0 ?_
    refine G_zast (v := 0) i1 (w5_k1 w5_r0) rfl (hb c0) rfl d_X5_clear_42 ?_
    refine G_aload_n d_X5_clear_43 rfl 0 rfl ?_
    refine G_getR (r := r0 + 6) 5 3 (w5_kd w5_r0) (w5_f3 w5_r0) cok5 (by decide) rfl fl_X5_20 d_X5_clear_44 ?_
    refine G_iload_n d_X5_clear_47 rfl 1 rfl ?_
    refine G_aaldA (r := r0 + 7 + i1) i1 (w5_k3 w5_r0) rfl (hb c0) (w5_r3 w5_r0 i1 (hb c0)) d_X5_clear_48 ?_
    refine G_iconst d_X5_clear_49 ic_0 ?_
    refine G_callS (M' := mJ7_fill_53178) (R' := (Rm d)) (S := []) [.ref (r0 + 7 + i1), .int 0] ok_J7_fill_53178 ml_X5_33 pn_J7_fill_53178 (ru_Rm (by decide)) (Nat.le_of_ble_eq_true rfl) d_X5_clear_50 ?_
    exact (hc_fill c0)
theorem b_X5_clear_53 {X : cX} {d : Nat} {μ : mM} {K : Option Value → mM → Prop} {r0 : Nat} {i1 : Nat} (h : G X (Rm (d + 1)) mX5_clear 30 [(0, .ref r0), (1, .int (nI (i1 + 1)))] [] μ 0 0 K) : G X (Rm (d + 1)) mX5_clear 53 [(0, .ref r0), (1, .int (nI i1))] [] μ 0 0 K := by
  refine G_iinc (L' := [(1, .int (nI (i1 + 1))), (0, .ref r0)]) d_X5_clear_53 1 rfl (inc1 i1) (by decide) rfl ?_
  refine G_goto (tgt := 30) d_X5_clear_56 rfl ?_
  refine G_sub (L' := [(0, .ref r0), (1, .int (nI (i1 + 1)))]) [1, 0] rfl ?_
  exact h
theorem d_X5_copy_0 : decode cX5_copy 0 = .ok (.aload_n 0, 1) := by decide +kernel
theorem d_X5_copy_1 : decode cX5_copy 1 = .ok (.aload_n 1, 1) := by decide +kernel
theorem d_X5_copy_2 : decode cX5_copy 2 = .ok (.getfield 29, 3) := by decide +kernel
theorem d_X5_copy_5 : decode cX5_copy 5 = .ok (.putfield 29, 3) := by decide +kernel
theorem d_X5_copy_8 : decode cX5_copy 8 = .ok (.iconst 0, 1) := by decide +kernel
theorem d_X5_copy_9 : decode cX5_copy 9 = .ok (.istore_n 2, 1) := by decide +kernel
theorem d_X5_copy_10 : decode cX5_copy 10 = .ok (.iload_n 2, 1) := by decide +kernel
theorem d_X5_copy_11 : decode cX5_copy 11 = .ok (.iconst 3, 1) := by decide +kernel
theorem d_X5_copy_12 : decode cX5_copy 12 = .ok (.if_icmp .ge 28, 3) := by decide +kernel
theorem d_X5_copy_15 : decode cX5_copy 15 = .ok (.aload_n 1, 1) := by decide +kernel
theorem d_X5_copy_16 : decode cX5_copy 16 = .ok (.getfield 17, 3) := by decide +kernel
theorem d_X5_copy_19 : decode cX5_copy 19 = .ok (.iload_n 2, 1) := by decide +kernel
theorem d_X5_copy_20 : decode cX5_copy 20 = .ok (.aaload, 1) := by decide +kernel
theorem d_X5_copy_21 : decode cX5_copy 21 = .ok (.iconst 0, 1) := by decide +kernel
theorem d_X5_copy_22 : decode cX5_copy 22 = .ok (.aload_n 0, 1) := by decide +kernel
theorem d_X5_copy_23 : decode cX5_copy 23 = .ok (.getfield 17, 3) := by decide +kernel
theorem d_X5_copy_26 : decode cX5_copy 26 = .ok (.iload_n 2, 1) := by decide +kernel
theorem d_X5_copy_27 : decode cX5_copy 27 = .ok (.aaload, 1) := by decide +kernel
theorem d_X5_copy_28 : decode cX5_copy 28 = .ok (.iconst 0, 1) := by decide +kernel
theorem d_X5_copy_29 : decode cX5_copy 29 = .ok (.bipush 6, 2) := by decide +kernel
theorem d_X5_copy_31 : decode cX5_copy 31 = .ok (.invokestatic 39, 3) := by decide +kernel
theorem d_X5_copy_34 : decode cX5_copy 34 = .ok (.iinc 2 1, 3) := by decide +kernel
theorem d_X5_copy_37 : decode cX5_copy 37 = .ok (.goto (-27), 3) := by decide +kernel
theorem d_X5_copy_40 : decode cX5_copy 40 = .ok (.iconst 0, 1) := by decide +kernel
theorem d_X5_copy_41 : decode cX5_copy 41 = .ok (.istore_n 2, 1) := by decide +kernel
theorem d_X5_copy_42 : decode cX5_copy 42 = .ok (.iload_n 2, 1) := by decide +kernel
theorem d_X5_copy_43 : decode cX5_copy 43 = .ok (.bipush 6, 2) := by decide +kernel
theorem d_X5_copy_45 : decode cX5_copy 45 = .ok (.if_icmp .ge 40, 3) := by decide +kernel
theorem d_X5_copy_48 : decode cX5_copy 48 = .ok (.aload_n 0, 1) := by decide +kernel
theorem d_X5_copy_49 : decode cX5_copy 49 = .ok (.getfield 9, 3) := by decide +kernel
theorem d_X5_copy_52 : decode cX5_copy 52 = .ok (.iload_n 2, 1) := by decide +kernel
theorem d_X5_copy_53 : decode cX5_copy 53 = .ok (.aload_n 1, 1) := by decide +kernel
theorem d_X5_copy_54 : decode cX5_copy 54 = .ok (.getfield 9, 3) := by decide +kernel
theorem d_X5_copy_57 : decode cX5_copy 57 = .ok (.iload_n 2, 1) := by decide +kernel
theorem d_X5_copy_58 : decode cX5_copy 58 = .ok (.baload, 1) := by decide +kernel
theorem d_X5_copy_59 : decode cX5_copy 59 = .ok (.bastore, 1) := by decide +kernel
theorem d_X5_copy_60 : decode cX5_copy 60 = .ok (.aload_n 1, 1) := by decide +kernel
theorem d_X5_copy_61 : decode cX5_copy 61 = .ok (.getfield 20, 3) := by decide +kernel
theorem d_X5_copy_64 : decode cX5_copy 64 = .ok (.iload_n 2, 1) := by decide +kernel
theorem d_X5_copy_65 : decode cX5_copy 65 = .ok (.aaload, 1) := by decide +kernel
theorem d_X5_copy_66 : decode cX5_copy 66 = .ok (.iconst 0, 1) := by decide +kernel
theorem d_X5_copy_67 : decode cX5_copy 67 = .ok (.aload_n 0, 1) := by decide +kernel
theorem d_X5_copy_68 : decode cX5_copy 68 = .ok (.getfield 20, 3) := by decide +kernel
theorem d_X5_copy_71 : decode cX5_copy 71 = .ok (.iload_n 2, 1) := by decide +kernel
theorem d_X5_copy_72 : decode cX5_copy 72 = .ok (.aaload, 1) := by decide +kernel
theorem d_X5_copy_73 : decode cX5_copy 73 = .ok (.iconst 0, 1) := by decide +kernel
theorem d_X5_copy_74 : decode cX5_copy 74 = .ok (.bipush 6, 2) := by decide +kernel
theorem d_X5_copy_76 : decode cX5_copy 76 = .ok (.invokestatic 39, 3) := by decide +kernel
theorem d_X5_copy_79 : decode cX5_copy 79 = .ok (.iinc 2 1, 3) := by decide +kernel
theorem d_X5_copy_82 : decode cX5_copy 82 = .ok (.goto (-40), 3) := by decide +kernel
theorem d_X5_copy_85 : decode cX5_copy 85 = .ok (.return_, 1) := by decide +kernel
theorem b_X5_copy_0 {X : cX} {d : Nat} {μ : mM} {K : Option Value → mM → Prop} {r0 : Nat} {r1 : Nat} (w5_r1 : WF5 μ r1) (w5_r0 : WF5 μ r0) (h : G X (Rm (d + 1)) mX5_copy 10 [(0, .ref r0), (1, .ref r1), (2, .int 0)] [] (wi μ r0 0 (iv μ r1 0)) 0 0 K) : G X (Rm (d + 1)) mX5_copy 0 [(0, .ref r0), (1, .ref r1)] [] μ 0 0 K := by
  refine G_aload_n d_X5_copy_0 rfl 0 rfl ?_
  refine G_aload_n d_X5_copy_1 rfl 1 rfl ?_
  refine G_getI 5 0 (w5_kd w5_r1) cok5 (by decide) rfl fl_X5_29 d_X5_copy_2 ?_
  refine G_putI 5 0 (w5_kd w5_r0) rfl rfl cok5 (by decide) rfl (Or.inl rfl) fl_X5_29 d_X5_copy_5 ?_
  refine G_iconst d_X5_copy_8 ic_0 ?_
  refine G_istore_n (L' := [(2, .int 0), (0, .ref r0), (1, .ref r1)]) d_X5_copy_9 rfl (by decide) rfl ?_
  refine G_sub (L' := [(0, .ref r0), (1, .ref r1), (2, .int 0)]) [1, 2, 0] rfl ?_
  exact h
theorem b_X5_copy_10 {X : cX} {d : Nat} {μ : mM} {K : Option Value → mM → Prop} {r0 : Nat} {r1 : Nat} {i2 : Nat} (h : (3 : Int32) ≤ (nI i2) → G X (Rm (d + 1)) mX5_copy 42 [(0, .ref r0), (1, .ref r1), (2, .int 0)] [] μ 0 0 K) (w5_r1 : WF5 μ r1) (hb : ¬ (3 : Int32) ≤ (nI i2) → i2 < 3) (w5_r0 : WF5 μ r0) (h_2 : ¬ (3 : Int32) ≤ (nI i2) → G X (Rm (d + 1)) mX5_copy 10 [(0, .ref r0), (1, .ref r1), (2, .int (nI (i2 + 1)))] [] (cpI μ (r1 + 3 + i2) 0 (r0 + 3 + i2) 0 6) 0 0 K) : G X (Rm (d + 1)) mX5_copy 10 [(0, .ref r0), (1, .ref r1), (2, .int (nI i2))] [] μ 0 0 K := by
  refine G_iload_n d_X5_copy_10 rfl 2 rfl ?_
  refine G_iconst d_X5_copy_11 ic_3 ?_
  refine G_icmp_ge (tgt := 40) d_X5_copy_12 rfl (fun c0 => ?_) (fun c0 => ?_)
  ·
    refine G_iconst d_X5_copy_40 ic_0 ?_
    refine G_istore_n (L' := [(2, .int 0), (0, .ref r0), (1, .ref r1)]) d_X5_copy_41 rfl (by decide) rfl ?_
    refine G_sub (L' := [(0, .ref r0), (1, .ref r1), (2, .int 0)]) [1, 2, 0] rfl ?_
    exact (h c0)
  ·
    refine G_aload_n d_X5_copy_15 rfl 1 rfl ?_
    refine G_getR (r := r1 + 2) 5 2 (w5_kd w5_r1) (w5_f2 w5_r1) cok5 (by decide) rfl fl_X5_17 d_X5_copy_16 ?_
    refine G_iload_n d_X5_copy_19 rfl 2 rfl ?_
    refine G_aaldA (r := r1 + 3 + i2) i2 (w5_k2 w5_r1) rfl (hb c0) (w5_r2 w5_r1 i2 (hb c0)) d_X5_copy_20 ?_
    refine G_iconst d_X5_copy_21 ic_0 ?_
    refine G_aload_n d_X5_copy_22 rfl 0 rfl ?_
    refine G_getR (r := r0 + 2) 5 2 (w5_kd w5_r0) (w5_f2 w5_r0) cok5 (by decide) rfl fl_X5_17 d_X5_copy_23 ?_
    refine G_iload_n d_X5_copy_26 rfl 2 rfl ?_
    refine G_aaldA (r := r0 + 3 + i2) i2 (w5_k2 w5_r0) rfl (hb c0) (w5_r2 w5_r0 i2 (hb c0)) d_X5_copy_27 ?_
    refine G_iconst d_X5_copy_28 ic_0 ?_
    refine G_bipush d_X5_copy_29 bp_6 ?_
    refine G_copy (sp := 0) (dp := 0) (n := 6) (w5_q2 w5_r1 i2 (hb c0)) (w5_q2 w5_r0 i2 (hb c0)) rfl rfl rfl (by decide) (by decide) ml_X5_39 rb_Rm (Nat.le_of_ble_eq_true rfl) d_X5_copy_31 ?_
    refine G_iinc (L' := [(2, .int (nI (i2 + 1))), (0, .ref r0), (1, .ref r1)]) d_X5_copy_34 2 rfl (inc1 i2) (by decide) rfl ?_
    refine G_goto (tgt := 10) d_X5_copy_37 rfl ?_
    refine G_sub (L' := [(0, .ref r0), (1, .ref r1), (2, .int (nI (i2 + 1)))]) [1, 2, 0] rfl ?_
    exact (h_2 c0)
theorem b_X5_copy_42 {X : cX} {d : Nat} {μ : mM} {K : Option Value → mM → Prop} {r0 : Nat} {r1 : Nat} {i2 : Nat} (hK : (6 : Int32) ≤ (nI i2) → K none μ) (w5_r0 : WF5 μ r0) (w5_r1 : WF5 μ r1) (hb : ¬ (6 : Int32) ≤ (nI i2) → i2 < 6) (hz : ¬ (6 : Int32) ≤ (nI i2) → iv μ (r1 + 1) i2 = 0 ∨ iv μ (r1 + 1) i2 = 1) (h : ¬ (6 : Int32) ≤ (nI i2) → G X (Rm (d + 1)) mX5_copy 42 [(0, .ref r0), (1, .ref r1), (2, .int (nI (i2 + 1)))] [] (cpI (wi μ (r0 + 1) i2 (iv μ (r1 + 1) i2)) (r1 + 7 + i2) 0 (r0 + 7 + i2) 0 6) 0 0 K) : G X (Rm (d + 1)) mX5_copy 42 [(0, .ref r0), (1, .ref r1), (2, .int (nI i2))] [] μ 0 0 K := by
  refine G_iload_n d_X5_copy_42 rfl 2 rfl ?_
  refine G_bipush d_X5_copy_43 bp_6 ?_
  refine G_icmp_ge (tgt := 85) d_X5_copy_45 rfl (fun c0 => ?_) (fun c0 => ?_)
  ·
    exact G_vret rfl rfl rfl d_X5_copy_85 (hK c0)
  ·
    refine G_aload_n d_X5_copy_48 rfl 0 rfl ?_
    refine G_getR (r := r0 + 1) 5 1 (w5_kd w5_r0) (w5_f1 w5_r0) cok5 (by decide) rfl fl_X5_9 d_X5_copy_49 ?_
    refine G_iload_n d_X5_copy_52 rfl 2 rfl ?_
    refine G_aload_n d_X5_copy_53 rfl 1 rfl ?_
    refine G_getR (r := r1 + 1) 5 1 (w5_kd w5_r1) (w5_f1 w5_r1) cok5 (by decide) rfl fl_X5_9 d_X5_copy_54 ?_
    refine G_iload_n d_X5_copy_57 rfl 2 rfl ?_
    refine G_zald i2 (w5_k1 w5_r1) rfl (hb c0) d_X5_copy_58 ?_
    refine G_zast (v := iv μ (r1 + 1) i2) i2 (w5_k1 w5_r0) rfl (hb c0) (vpn_b (hz c0)) d_X5_copy_59 ?_
    refine G_aload_n d_X5_copy_60 rfl 1 rfl ?_
    refine G_getR (r := r1 + 6) 5 3 (w5_kd w5_r1) (w5_f3 w5_r1) cok5 (by decide) rfl fl_X5_20 d_X5_copy_61 ?_
    refine G_iload_n d_X5_copy_64 rfl 2 rfl ?_
    refine G_aaldA (r := r1 + 7 + i2) i2 (w5_k3 w5_r1) rfl (hb c0) (w5_r3 w5_r1 i2 (hb c0)) d_X5_copy_65 ?_
    refine G_iconst d_X5_copy_66 ic_0 ?_
    refine G_aload_n d_X5_copy_67 rfl 0 rfl ?_
    refine G_getR (r := r0 + 6) 5 3 (w5_kd w5_r0) (w5_f3 w5_r0) cok5 (by decide) rfl fl_X5_20 d_X5_copy_68 ?_
    refine G_iload_n d_X5_copy_71 rfl 2 rfl ?_
    refine G_aaldA (r := r0 + 7 + i2) i2 (w5_k3 w5_r0) rfl (hb c0) (w5_r3 w5_r0 i2 (hb c0)) d_X5_copy_72 ?_
    refine G_iconst d_X5_copy_73 ic_0 ?_
    refine G_bipush d_X5_copy_74 bp_6 ?_
    refine G_copy (sp := 0) (dp := 0) (n := 6) (w5_q3 w5_r1 i2 (hb c0)) (w5_q3 w5_r0 i2 (hb c0)) rfl rfl rfl (by decide) (by decide) ml_X5_39 rb_Rm (Nat.le_of_ble_eq_true rfl) d_X5_copy_76 ?_
    refine G_iinc (L' := [(2, .int (nI (i2 + 1))), (0, .ref r0), (1, .ref r1)]) d_X5_copy_79 2 rfl (inc1 i2) (by decide) rfl ?_
    refine G_goto (tgt := 42) d_X5_copy_82 rfl ?_
    refine G_sub (L' := [(0, .ref r0), (1, .ref r1), (2, .int (nI (i2 + 1)))]) [1, 2, 0] rfl ?_
    exact (h c0)
theorem d_X5_append_0 : decode cX5_append 0 = .ok (.aload_n 0, 1) := by decide +kernel
theorem d_X5_append_1 : decode cX5_append 1 = .ok (.getfield 29, 3) := by decide +kernel
theorem d_X5_append_4 : decode cX5_append 4 = .ok (.bipush 6, 2) := by decide +kernel
theorem d_X5_append_6 : decode cX5_append 6 = .ok (.if_icmp .ge 23, 3) := by decide +kernel
theorem d_X5_append_9 : decode cX5_append 9 = .ok (.aload_n 0, 1) := by decide +kernel
theorem d_X5_append_10 : decode cX5_append 10 = .ok (.getfield 9, 3) := by decide +kernel
theorem d_X5_append_13 : decode cX5_append 13 = .ok (.aload_n 0, 1) := by decide +kernel
theorem d_X5_append_14 : decode cX5_append 14 = .ok (.getfield 29, 3) := by decide +kernel
theorem d_X5_append_17 : decode cX5_append 17 = .ok (.iload_n 1, 1) := by decide +kernel
theorem d_X5_append_18 : decode cX5_append 18 = .ok (.bastore, 1) := by decide +kernel
theorem d_X5_append_19 : decode cX5_append 19 = .ok (.aload_n 0, 1) := by decide +kernel
theorem d_X5_append_20 : decode cX5_append 20 = .ok (.dup, 1) := by decide +kernel
theorem d_X5_append_21 : decode cX5_append 21 = .ok (.getfield 29, 3) := by decide +kernel
theorem d_X5_append_24 : decode cX5_append 24 = .ok (.iconst 1, 1) := by decide +kernel
theorem d_X5_append_25 : decode cX5_append 25 = .ok (.iadd, 1) := by decide +kernel
theorem d_X5_append_26 : decode cX5_append 26 = .ok (.putfield 29, 3) := by decide +kernel
theorem d_X5_append_29 : decode cX5_append 29 = .ok (.return_, 1) := by decide +kernel
theorem b_X5_append_0 {X : cX} {d : Nat} {μ : mM} {K : Option Value → mM → Prop} {r0 : Nat} {l1 : Int32} {j0 : Nat} (w5_r0 : WF5 μ r0) (hK : (6 : Int32) ≤ (iv μ r0 0) → K none μ) (hi_j0 : ¬ (6 : Int32) ≤ (iv μ r0 0) → iv μ r0 0 = nI j0) (hb : ¬ (6 : Int32) ≤ (iv μ r0 0) → j0 < 6) (hz : ¬ (6 : Int32) ≤ (iv μ r0 0) → l1 = 0 ∨ l1 = 1) (hK_2 : ¬ (6 : Int32) ≤ (iv μ r0 0) → K none (wi (wi μ (r0 + 1) j0 l1) r0 0 ((iv (wi μ (r0 + 1) j0 l1) r0 0) + 1))) : G X (Rm d) mX5_append 0 [(0, .ref r0), (1, .int l1)] [] μ 0 0 K := by
  refine G_aload_n d_X5_append_0 rfl 0 rfl ?_
  refine G_getI 5 0 (w5_kd w5_r0) cok5 (by decide) rfl fl_X5_29 d_X5_append_1 ?_
  refine G_bipush d_X5_append_4 bp_6 ?_
  refine G_icmp_ge (tgt := 29) d_X5_append_6 rfl (fun c0 => ?_) (fun c0 => ?_)
  ·
    exact G_vret rfl rfl rfl d_X5_append_29 (hK c0)
  ·
    refine G_aload_n d_X5_append_9 rfl 0 rfl ?_
    refine G_getR (r := r0 + 1) 5 1 (w5_kd w5_r0) (w5_f1 w5_r0) cok5 (by decide) rfl fl_X5_9 d_X5_append_10 ?_
    refine G_aload_n d_X5_append_13 rfl 0 rfl ?_
    refine G_getI 5 0 (w5_kd w5_r0) cok5 (by decide) rfl fl_X5_29 d_X5_append_14 ?_
    refine G_iload_n d_X5_append_17 rfl 1 rfl ?_
    refine G_zast (v := l1) j0 (w5_k1 w5_r0) (hi_j0 c0) (hb c0) (vpn_b (hz c0)) d_X5_append_18 ?_
    refine G_aload_n d_X5_append_19 rfl 0 rfl ?_
    refine G_dup d_X5_append_20 rfl ?_
    refine G_getI 5 0 (w5_kd w5_r0) cok5 (by decide) rfl fl_X5_29 d_X5_append_21 ?_
    refine G_iconst d_X5_append_24 ic_1 ?_
    refine G_iadd d_X5_append_25 ?_
    refine G_putI 5 0 (w5_kd w5_r0) rfl rfl cok5 (by decide) rfl (Or.inl rfl) fl_X5_29 d_X5_append_26 ?_
    exact G_vret rfl rfl rfl d_X5_append_29 (hK_2 c0)
theorem d_X5_drop_0 : decode cX5_drop 0 = .ok (.aload_n 0, 1) := by decide +kernel
theorem d_X5_drop_1 : decode cX5_drop 1 = .ok (.iload_n 1, 1) := by decide +kernel
theorem d_X5_drop_2 : decode cX5_drop 2 = .ok (.invokevirtual 45, 3) := by decide +kernel
theorem d_X5_drop_5 : decode cX5_drop 5 = .ok (.ifCond .ne 4, 3) := by decide +kernel
theorem d_X5_drop_8 : decode cX5_drop 8 = .ok (.return_, 1) := by decide +kernel
theorem d_X5_drop_9 : decode cX5_drop 9 = .ok (.iconst 0, 1) := by decide +kernel
theorem d_X5_drop_10 : decode cX5_drop 10 = .ok (.istore_n 2, 1) := by decide +kernel
theorem d_X5_drop_11 : decode cX5_drop 11 = .ok (.iload_n 2, 1) := by decide +kernel
theorem d_X5_drop_12 : decode cX5_drop 12 = .ok (.iconst 3, 1) := by decide +kernel
theorem d_X5_drop_13 : decode cX5_drop 13 = .ok (.if_icmp .ge 19, 3) := by decide +kernel
theorem d_X5_drop_16 : decode cX5_drop 16 = .ok (.aload_n 0, 1) := by decide +kernel
theorem d_X5_drop_17 : decode cX5_drop 17 = .ok (.getfield 17, 3) := by decide +kernel
theorem d_X5_drop_20 : decode cX5_drop 20 = .ok (.iload_n 2, 1) := by decide +kernel
theorem d_X5_drop_21 : decode cX5_drop 21 = .ok (.aaload, 1) := by decide +kernel
theorem d_X5_drop_22 : decode cX5_drop 22 = .ok (.iload_n 1, 1) := by decide +kernel
theorem d_X5_drop_23 : decode cX5_drop 23 = .ok (.invokestatic 49, 3) := by decide +kernel
theorem d_X5_drop_26 : decode cX5_drop 26 = .ok (.iinc 2 1, 3) := by decide +kernel
theorem d_X5_drop_29 : decode cX5_drop 29 = .ok (.goto (-18), 3) := by decide +kernel
theorem d_X5_drop_32 : decode cX5_drop 32 = .ok (.iconst 0, 1) := by decide +kernel
theorem d_X5_drop_33 : decode cX5_drop 33 = .ok (.istore_n 2, 1) := by decide +kernel
theorem d_X5_drop_34 : decode cX5_drop 34 = .ok (.iload_n 2, 1) := by decide +kernel
theorem d_X5_drop_35 : decode cX5_drop 35 = .ok (.bipush 6, 2) := by decide +kernel
theorem d_X5_drop_37 : decode cX5_drop 37 = .ok (.if_icmp .ge 19, 3) := by decide +kernel
theorem d_X5_drop_40 : decode cX5_drop 40 = .ok (.aload_n 0, 1) := by decide +kernel
theorem d_X5_drop_41 : decode cX5_drop 41 = .ok (.getfield 20, 3) := by decide +kernel
theorem d_X5_drop_44 : decode cX5_drop 44 = .ok (.iload_n 2, 1) := by decide +kernel
theorem d_X5_drop_45 : decode cX5_drop 45 = .ok (.aaload, 1) := by decide +kernel
theorem d_X5_drop_46 : decode cX5_drop 46 = .ok (.iload_n 1, 1) := by decide +kernel
theorem d_X5_drop_47 : decode cX5_drop 47 = .ok (.invokestatic 49, 3) := by decide +kernel
theorem d_X5_drop_50 : decode cX5_drop 50 = .ok (.iinc 2 1, 3) := by decide +kernel
theorem d_X5_drop_53 : decode cX5_drop 53 = .ok (.goto (-19), 3) := by decide +kernel
theorem d_X5_drop_56 : decode cX5_drop 56 = .ok (.iload_n 1, 1) := by decide +kernel
theorem d_X5_drop_57 : decode cX5_drop 57 = .ok (.istore_n 2, 1) := by decide +kernel
theorem d_X5_drop_58 : decode cX5_drop 58 = .ok (.iload_n 2, 1) := by decide +kernel
theorem d_X5_drop_59 : decode cX5_drop 59 = .ok (.iconst 5, 1) := by decide +kernel
theorem d_X5_drop_60 : decode cX5_drop 60 = .ok (.if_icmp .ge 44, 3) := by decide +kernel
theorem d_X5_drop_63 : decode cX5_drop 63 = .ok (.aload_n 0, 1) := by decide +kernel
theorem d_X5_drop_64 : decode cX5_drop 64 = .ok (.getfield 9, 3) := by decide +kernel
theorem d_X5_drop_67 : decode cX5_drop 67 = .ok (.iload_n 2, 1) := by decide +kernel
theorem d_X5_drop_68 : decode cX5_drop 68 = .ok (.aload_n 0, 1) := by decide +kernel
theorem d_X5_drop_69 : decode cX5_drop 69 = .ok (.getfield 9, 3) := by decide +kernel
theorem d_X5_drop_72 : decode cX5_drop 72 = .ok (.iload_n 2, 1) := by decide +kernel
theorem d_X5_drop_73 : decode cX5_drop 73 = .ok (.iconst 1, 1) := by decide +kernel
theorem d_X5_drop_74 : decode cX5_drop 74 = .ok (.iadd, 1) := by decide +kernel
theorem d_X5_drop_75 : decode cX5_drop 75 = .ok (.baload, 1) := by decide +kernel
theorem d_X5_drop_76 : decode cX5_drop 76 = .ok (.bastore, 1) := by decide +kernel
theorem d_X5_drop_77 : decode cX5_drop 77 = .ok (.aload_n 0, 1) := by decide +kernel
theorem d_X5_drop_78 : decode cX5_drop 78 = .ok (.getfield 20, 3) := by decide +kernel
theorem d_X5_drop_81 : decode cX5_drop 81 = .ok (.iload_n 2, 1) := by decide +kernel
theorem d_X5_drop_82 : decode cX5_drop 82 = .ok (.iconst 1, 1) := by decide +kernel
theorem d_X5_drop_83 : decode cX5_drop 83 = .ok (.iadd, 1) := by decide +kernel
theorem d_X5_drop_84 : decode cX5_drop 84 = .ok (.aaload, 1) := by decide +kernel
theorem d_X5_drop_85 : decode cX5_drop 85 = .ok (.iconst 0, 1) := by decide +kernel
theorem d_X5_drop_86 : decode cX5_drop 86 = .ok (.aload_n 0, 1) := by decide +kernel
theorem d_X5_drop_87 : decode cX5_drop 87 = .ok (.getfield 20, 3) := by decide +kernel
theorem d_X5_drop_90 : decode cX5_drop 90 = .ok (.iload_n 2, 1) := by decide +kernel
theorem d_X5_drop_91 : decode cX5_drop 91 = .ok (.aaload, 1) := by decide +kernel
theorem d_X5_drop_92 : decode cX5_drop 92 = .ok (.iconst 0, 1) := by decide +kernel
theorem d_X5_drop_93 : decode cX5_drop 93 = .ok (.bipush 6, 2) := by decide +kernel
theorem d_X5_drop_95 : decode cX5_drop 95 = .ok (.invokestatic 39, 3) := by decide +kernel
theorem d_X5_drop_98 : decode cX5_drop 98 = .ok (.iinc 2 1, 3) := by decide +kernel
theorem d_X5_drop_101 : decode cX5_drop 101 = .ok (.goto (-43), 3) := by decide +kernel
theorem d_X5_drop_104 : decode cX5_drop 104 = .ok (.aload_n 0, 1) := by decide +kernel
theorem d_X5_drop_105 : decode cX5_drop 105 = .ok (.getfield 9, 3) := by decide +kernel
theorem d_X5_drop_108 : decode cX5_drop 108 = .ok (.iconst 5, 1) := by decide +kernel
theorem d_X5_drop_109 : decode cX5_drop 109 = .ok (.iconst 0, 1) := by decide +kernel
theorem d_X5_drop_110 : decode cX5_drop 110 = .ok (.bastore, 1) := by decide +kernel
theorem d_X5_drop_111 : decode cX5_drop 111 = .ok (.aload_n 0, 1) := by decide +kernel
theorem d_X5_drop_112 : decode cX5_drop 112 = .ok (.getfield 20, 3) := by decide +kernel
theorem d_X5_drop_115 : decode cX5_drop 115 = .ok (.iconst 5, 1) := by decide +kernel
theorem d_X5_drop_116 : decode cX5_drop 116 = .ok (.aaload, 1) := by decide +kernel
theorem d_X5_drop_117 : decode cX5_drop 117 = .ok (.iconst 0, 1) := by decide +kernel
theorem d_X5_drop_118 : decode cX5_drop 118 = .ok (.invokestatic 33, 3) := by decide +kernel
theorem d_X5_drop_121 : decode cX5_drop 121 = .ok (.aload_n 0, 1) := by decide +kernel
theorem d_X5_drop_122 : decode cX5_drop 122 = .ok (.dup, 1) := by decide +kernel
theorem d_X5_drop_123 : decode cX5_drop 123 = .ok (.getfield 29, 3) := by decide +kernel
theorem d_X5_drop_126 : decode cX5_drop 126 = .ok (.iconst 1, 1) := by decide +kernel
theorem d_X5_drop_127 : decode cX5_drop 127 = .ok (.isub, 1) := by decide +kernel
theorem d_X5_drop_128 : decode cX5_drop 128 = .ok (.putfield 29, 3) := by decide +kernel
theorem d_X5_drop_131 : decode cX5_drop 131 = .ok (.return_, 1) := by decide +kernel
theorem b_X5_drop_0 {X : cX} {d : Nat} {μ : mM} {K : Option Value → mM → Prop} {r0 : Nat} {l1 : Int32} (w5_r0 : WF5 μ r0) (hc_has : Ct X (Rm d) mX5_has [.ref r0, .int l1] μ (fun r μ2 => G X (Rm (d + 1)) mX5_drop 5 [(0, .ref r0), (1, .int l1)] (r.toList ++ []) μ2 0 0 K)) : G X (Rm (d + 1)) mX5_drop 0 [(0, .ref r0), (1, .int l1)] [] μ 0 0 K := by
  refine G_aload_n d_X5_drop_0 rfl 0 rfl ?_
  refine G_iload_n d_X5_drop_1 rfl 1 rfl ?_
  refine G_callV (M' := mX5_has) (R' := (Rm d)) (S := []) [.int l1] 5 (w5_kd w5_r0) cok5 rfl ok_X5_has ml_X5_45 pn_X5_has (ru_Rm (by decide)) (Nat.le_of_ble_eq_true rfl) d_X5_drop_2 ?_
  exact hc_has
theorem b_X5_drop_5 {X : cX} {d : Nat} {μ : mM} {K : Option Value → mM → Prop} {r0 : Nat} {l1 : Int32} {v0 : Int32} (h : ¬ v0 = 0 → G X (Rm (d + 1)) mX5_drop 11 [(0, .ref r0), (1, .int l1), (2, .int 0)] [] μ 0 0 K) (hK : v0 = 0 → K none μ) : G X (Rm (d + 1)) mX5_drop 5 [(0, .ref r0), (1, .int l1)] [.int v0] μ 0 0 K := by
  refine G_if_ne (tgt := 9) d_X5_drop_5 rfl (fun c0 => ?_) (fun c0 => ?_)
  ·
    refine G_iconst d_X5_drop_9 ic_0 ?_
    refine G_istore_n (L' := [(2, .int 0), (0, .ref r0), (1, .int l1)]) d_X5_drop_10 rfl (by decide) rfl ?_
    refine G_sub (L' := [(0, .ref r0), (1, .int l1), (2, .int 0)]) [1, 2, 0] rfl ?_
    exact (h c0)
  ·
    exact G_vret rfl rfl rfl d_X5_drop_8 (hK c0)
theorem b_X5_drop_11 {X : cX} {d : Nat} {μ : mM} {K : Option Value → mM → Prop} {r0 : Nat} {l1 : Int32} {i2 : Nat} (h : (3 : Int32) ≤ (nI i2) → G X (Rm (d + 1)) mX5_drop 34 [(0, .ref r0), (1, .int l1), (2, .int 0)] [] μ 0 0 K) (w5_r0 : WF5 μ r0) (hb : ¬ (3 : Int32) ≤ (nI i2) → i2 < 3) (hc_closeGap : ¬ (3 : Int32) ≤ (nI i2) → Ct X (Rm d) mX5_closeGap [.ref (r0 + 3 + i2), .int l1] μ (fun r μ2 => G X (Rm (d + 1)) mX5_drop 26 [(0, .ref r0), (1, .int l1), (2, .int (nI i2))] (r.toList ++ []) μ2 0 0 K)) : G X (Rm (d + 1)) mX5_drop 11 [(0, .ref r0), (1, .int l1), (2, .int (nI i2))] [] μ 0 0 K := by
  refine G_iload_n d_X5_drop_11 rfl 2 rfl ?_
  refine G_iconst d_X5_drop_12 ic_3 ?_
  refine G_icmp_ge (tgt := 32) d_X5_drop_13 rfl (fun c0 => ?_) (fun c0 => ?_)
  ·
    refine G_iconst d_X5_drop_32 ic_0 ?_
    refine G_istore_n (L' := [(2, .int 0), (0, .ref r0), (1, .int l1)]) d_X5_drop_33 rfl (by decide) rfl ?_
    refine G_sub (L' := [(0, .ref r0), (1, .int l1), (2, .int 0)]) [1, 2, 0] rfl ?_
    exact (h c0)
  ·
    refine G_aload_n d_X5_drop_16 rfl 0 rfl ?_
    refine G_getR (r := r0 + 2) 5 2 (w5_kd w5_r0) (w5_f2 w5_r0) cok5 (by decide) rfl fl_X5_17 d_X5_drop_17 ?_
    refine G_iload_n d_X5_drop_20 rfl 2 rfl ?_
    refine G_aaldA (r := r0 + 3 + i2) i2 (w5_k2 w5_r0) rfl (hb c0) (w5_r2 w5_r0 i2 (hb c0)) d_X5_drop_21 ?_
    refine G_iload_n d_X5_drop_22 rfl 1 rfl ?_
    refine G_callS (M' := mX5_closeGap) (R' := (Rm d)) (S := []) [.ref (r0 + 3 + i2), .int l1] ok_X5_closeGap ml_X5_49 pn_X5_closeGap (ru_Rm (by decide)) (Nat.le_of_ble_eq_true rfl) d_X5_drop_23 ?_
    exact (hc_closeGap c0)
theorem b_X5_drop_26 {X : cX} {d : Nat} {μ : mM} {K : Option Value → mM → Prop} {r0 : Nat} {l1 : Int32} {i2 : Nat} (h : G X (Rm (d + 1)) mX5_drop 11 [(0, .ref r0), (1, .int l1), (2, .int (nI (i2 + 1)))] [] μ 0 0 K) : G X (Rm (d + 1)) mX5_drop 26 [(0, .ref r0), (1, .int l1), (2, .int (nI i2))] [] μ 0 0 K := by
  refine G_iinc (L' := [(2, .int (nI (i2 + 1))), (0, .ref r0), (1, .int l1)]) d_X5_drop_26 2 rfl (inc1 i2) (by decide) rfl ?_
  refine G_goto (tgt := 11) d_X5_drop_29 rfl ?_
  refine G_sub (L' := [(0, .ref r0), (1, .int l1), (2, .int (nI (i2 + 1)))]) [1, 2, 0] rfl ?_
  exact h
theorem b_X5_drop_34 {X : cX} {d : Nat} {μ : mM} {K : Option Value → mM → Prop} {r0 : Nat} {l1 : Int32} {i2 : Nat} (h : (6 : Int32) ≤ (nI i2) → G X (Rm (d + 1)) mX5_drop 58 [(0, .ref r0), (2, .int l1)] [] μ 0 0 K) (w5_r0 : WF5 μ r0) (hb : ¬ (6 : Int32) ≤ (nI i2) → i2 < 6) (hc_closeGap : ¬ (6 : Int32) ≤ (nI i2) → Ct X (Rm d) mX5_closeGap [.ref (r0 + 7 + i2), .int l1] μ (fun r μ2 => G X (Rm (d + 1)) mX5_drop 50 [(0, .ref r0), (1, .int l1), (2, .int (nI i2))] (r.toList ++ []) μ2 0 0 K)) : G X (Rm (d + 1)) mX5_drop 34 [(0, .ref r0), (1, .int l1), (2, .int (nI i2))] [] μ 0 0 K := by
  refine G_iload_n d_X5_drop_34 rfl 2 rfl ?_
  refine G_bipush d_X5_drop_35 bp_6 ?_
  refine G_icmp_ge (tgt := 56) d_X5_drop_37 rfl (fun c0 => ?_) (fun c0 => ?_)
  ·
    refine G_iload_n d_X5_drop_56 rfl 1 rfl ?_
    refine G_istore_n (L' := [(2, .int l1), (0, .ref r0), (1, .int l1)]) d_X5_drop_57 rfl (by decide) rfl ?_
    refine G_sub (L' := [(0, .ref r0), (2, .int l1)]) [1, 0] rfl ?_
    exact (h c0)
  ·
    refine G_aload_n d_X5_drop_40 rfl 0 rfl ?_
    refine G_getR (r := r0 + 6) 5 3 (w5_kd w5_r0) (w5_f3 w5_r0) cok5 (by decide) rfl fl_X5_20 d_X5_drop_41 ?_
    refine G_iload_n d_X5_drop_44 rfl 2 rfl ?_
    refine G_aaldA (r := r0 + 7 + i2) i2 (w5_k3 w5_r0) rfl (hb c0) (w5_r3 w5_r0 i2 (hb c0)) d_X5_drop_45 ?_
    refine G_iload_n d_X5_drop_46 rfl 1 rfl ?_
    refine G_callS (M' := mX5_closeGap) (R' := (Rm d)) (S := []) [.ref (r0 + 7 + i2), .int l1] ok_X5_closeGap ml_X5_49 pn_X5_closeGap (ru_Rm (by decide)) (Nat.le_of_ble_eq_true rfl) d_X5_drop_47 ?_
    exact (hc_closeGap c0)
theorem b_X5_drop_50 {X : cX} {d : Nat} {μ : mM} {K : Option Value → mM → Prop} {r0 : Nat} {l1 : Int32} {i2 : Nat} (h : G X (Rm (d + 1)) mX5_drop 34 [(0, .ref r0), (1, .int l1), (2, .int (nI (i2 + 1)))] [] μ 0 0 K) : G X (Rm (d + 1)) mX5_drop 50 [(0, .ref r0), (1, .int l1), (2, .int (nI i2))] [] μ 0 0 K := by
  refine G_iinc (L' := [(2, .int (nI (i2 + 1))), (0, .ref r0), (1, .int l1)]) d_X5_drop_50 2 rfl (inc1 i2) (by decide) rfl ?_
  refine G_goto (tgt := 34) d_X5_drop_53 rfl ?_
  refine G_sub (L' := [(0, .ref r0), (1, .int l1), (2, .int (nI (i2 + 1)))]) [1, 2, 0] rfl ?_
  exact h
theorem b_X5_drop_58 {X : cX} {d : Nat} {μ : mM} {K : Option Value → mM → Prop} {r0 : Nat} {i2 : Nat} (w5_r0 : WF5 μ r0) (hc_fill : (5 : Int32) ≤ (nI i2) → Ct X (Rm d) mJ7_fill_53178 [.ref (r0 + 7 + 5), .int 0] (wi μ (r0 + 1) 5 0) (fun r μ2 => G X (Rm (d + 1)) mX5_drop 121 [(0, .ref r0)] (r.toList ++ []) μ2 0 0 K)) (hb : ¬ (5 : Int32) ≤ (nI i2) → (i2 + 1) < 6) (hb_2 : ¬ (5 : Int32) ≤ (nI i2) → i2 < 6) (hz : ¬ (5 : Int32) ≤ (nI i2) → iv μ (r0 + 1) (i2 + 1) = 0 ∨ iv μ (r0 + 1) (i2 + 1) = 1) (h : ¬ (5 : Int32) ≤ (nI i2) → G X (Rm (d + 1)) mX5_drop 58 [(0, .ref r0), (2, .int (nI (i2 + 1)))] [] (cpI (wi μ (r0 + 1) i2 (iv μ (r0 + 1) (i2 + 1))) (r0 + 7 + (i2 + 1)) 0 (r0 + 7 + i2) 0 6) 0 0 K) : G X (Rm (d + 1)) mX5_drop 58 [(0, .ref r0), (2, .int (nI i2))] [] μ 0 0 K := by
  refine G_iload_n d_X5_drop_58 rfl 1 rfl ?_
  refine G_iconst d_X5_drop_59 ic_5 ?_
  refine G_icmp_ge (tgt := 104) d_X5_drop_60 rfl (fun c0 => ?_) (fun c0 => ?_)
  ·
    refine G_aload_n d_X5_drop_104 rfl 0 rfl ?_
    refine G_getR (r := r0 + 1) 5 1 (w5_kd w5_r0) (w5_f1 w5_r0) cok5 (by decide) rfl fl_X5_9 d_X5_drop_105 ?_
    refine G_iconst d_X5_drop_108 ic_5 ?_
    refine G_iconst d_X5_drop_109 ic_0 ?_
    refine G_zast (v := 0) 5 (w5_k1 w5_r0) rfl (by decide) rfl d_X5_drop_110 ?_
    refine G_aload_n d_X5_drop_111 rfl 0 rfl ?_
    refine G_getR (r := r0 + 6) 5 3 (w5_kd w5_r0) (w5_f3 w5_r0) cok5 (by decide) rfl fl_X5_20 d_X5_drop_112 ?_
    refine G_iconst d_X5_drop_115 ic_5 ?_
    refine G_aaldA (r := r0 + 7 + 5) 5 (w5_k3 w5_r0) rfl (by decide) (w5_r3 w5_r0 5 (by decide)) d_X5_drop_116 ?_
    refine G_iconst d_X5_drop_117 ic_0 ?_
    refine G_sub (L' := [(0, .ref r0)]) [0] rfl ?_
    refine G_callS (M' := mJ7_fill_53178) (R' := (Rm d)) (S := []) [.ref (r0 + 7 + 5), .int 0] ok_J7_fill_53178 ml_X5_33 pn_J7_fill_53178 (ru_Rm (by decide)) (Nat.le_of_ble_eq_true rfl) d_X5_drop_118 ?_
    exact (hc_fill c0)
  ·
    refine G_aload_n d_X5_drop_63 rfl 0 rfl ?_
    refine G_getR (r := r0 + 1) 5 1 (w5_kd w5_r0) (w5_f1 w5_r0) cok5 (by decide) rfl fl_X5_9 d_X5_drop_64 ?_
    refine G_iload_n d_X5_drop_67 rfl 1 rfl ?_
    refine G_aload_n d_X5_drop_68 rfl 0 rfl ?_
    refine G_getR (r := r0 + 1) 5 1 (w5_kd w5_r0) (w5_f1 w5_r0) cok5 (by decide) rfl fl_X5_9 d_X5_drop_69 ?_
    refine G_iload_n d_X5_drop_72 rfl 1 rfl ?_
    refine G_iconst d_X5_drop_73 ic_1 ?_
    refine G_iadd d_X5_drop_74 ?_
    refine G_zald (i2 + 1) (w5_k1 w5_r0) (nadd rfl rfl) (hb c0) d_X5_drop_75 ?_
    refine G_zast (v := iv μ (r0 + 1) (i2 + 1)) i2 (w5_k1 w5_r0) rfl (hb_2 c0) (vpn_b (hz c0)) d_X5_drop_76 ?_
    refine G_aload_n d_X5_drop_77 rfl 0 rfl ?_
    refine G_getR (r := r0 + 6) 5 3 (w5_kd w5_r0) (w5_f3 w5_r0) cok5 (by decide) rfl fl_X5_20 d_X5_drop_78 ?_
    refine G_iload_n d_X5_drop_81 rfl 1 rfl ?_
    refine G_iconst d_X5_drop_82 ic_1 ?_
    refine G_iadd d_X5_drop_83 ?_
    refine G_aaldA (r := r0 + 7 + (i2 + 1)) (i2 + 1) (w5_k3 w5_r0) (nadd rfl rfl) (hb c0) (w5_r3 w5_r0 (i2 + 1) (hb c0)) d_X5_drop_84 ?_
    refine G_iconst d_X5_drop_85 ic_0 ?_
    refine G_aload_n d_X5_drop_86 rfl 0 rfl ?_
    refine G_getR (r := r0 + 6) 5 3 (w5_kd w5_r0) (w5_f3 w5_r0) cok5 (by decide) rfl fl_X5_20 d_X5_drop_87 ?_
    refine G_iload_n d_X5_drop_90 rfl 1 rfl ?_
    refine G_aaldA (r := r0 + 7 + i2) i2 (w5_k3 w5_r0) rfl (hb_2 c0) (w5_r3 w5_r0 i2 (hb_2 c0)) d_X5_drop_91 ?_
    refine G_iconst d_X5_drop_92 ic_0 ?_
    refine G_bipush d_X5_drop_93 bp_6 ?_
    refine G_copy (sp := 0) (dp := 0) (n := 6) (w5_q3 w5_r0 (i2 + 1) (hb c0)) (w5_q3 w5_r0 i2 (hb_2 c0)) rfl rfl rfl (by decide) (by decide) ml_X5_39 rb_Rm (Nat.le_of_ble_eq_true rfl) d_X5_drop_95 ?_
    refine G_iinc (L' := [(2, .int (nI (i2 + 1))), (0, .ref r0)]) d_X5_drop_98 1 rfl (inc1 i2) (by decide) rfl ?_
    refine G_goto (tgt := 58) d_X5_drop_101 rfl ?_
    refine G_sub (L' := [(0, .ref r0), (2, .int (nI (i2 + 1)))]) [1, 0] rfl ?_
    exact (h c0)
theorem b_X5_drop_121 {X : cX} {d : Nat} {μ : mM} {K : Option Value → mM → Prop} {r0 : Nat} (w5_r0 : WF5 μ r0) (hK : K none (wi μ r0 0 ((iv μ r0 0) - 1))) : G X (Rm (d + 1)) mX5_drop 121 [(0, .ref r0)] [] μ 0 0 K := by
  refine G_aload_n d_X5_drop_121 rfl 0 rfl ?_
  refine G_dup d_X5_drop_122 rfl ?_
  refine G_getI 5 0 (w5_kd w5_r0) cok5 (by decide) rfl fl_X5_29 d_X5_drop_123 ?_
  refine G_iconst d_X5_drop_126 ic_1 ?_
  refine G_isub d_X5_drop_127 ?_
  refine G_putI 5 0 (w5_kd w5_r0) rfl rfl cok5 (by decide) rfl (Or.inl rfl) fl_X5_29 d_X5_drop_128 ?_
  exact G_vret rfl rfl rfl d_X5_drop_131 hK
theorem d_X5_closeGap_0 : decode cX5_closeGap 0 = .ok (.aload_n 0, 1) := by decide +kernel
theorem d_X5_closeGap_1 : decode cX5_closeGap 1 = .ok (.iload_n 1, 1) := by decide +kernel
theorem d_X5_closeGap_2 : decode cX5_closeGap 2 = .ok (.iconst 1, 1) := by decide +kernel
theorem d_X5_closeGap_3 : decode cX5_closeGap 3 = .ok (.iadd, 1) := by decide +kernel
theorem d_X5_closeGap_4 : decode cX5_closeGap 4 = .ok (.aload_n 0, 1) := by decide +kernel
theorem d_X5_closeGap_5 : decode cX5_closeGap 5 = .ok (.iload_n 1, 1) := by decide +kernel
theorem d_X5_closeGap_6 : decode cX5_closeGap 6 = .ok (.iconst 5, 1) := by decide +kernel
theorem d_X5_closeGap_7 : decode cX5_closeGap 7 = .ok (.iload_n 1, 1) := by decide +kernel
theorem d_X5_closeGap_8 : decode cX5_closeGap 8 = .ok (.isub, 1) := by decide +kernel
theorem d_X5_closeGap_9 : decode cX5_closeGap 9 = .ok (.invokestatic 39, 3) := by decide +kernel
theorem d_X5_closeGap_12 : decode cX5_closeGap 12 = .ok (.aload_n 0, 1) := by decide +kernel
theorem d_X5_closeGap_13 : decode cX5_closeGap 13 = .ok (.iconst 5, 1) := by decide +kernel
theorem d_X5_closeGap_14 : decode cX5_closeGap 14 = .ok (.iconst 0, 1) := by decide +kernel
theorem d_X5_closeGap_15 : decode cX5_closeGap 15 = .ok (.iastore, 1) := by decide +kernel
theorem d_X5_closeGap_16 : decode cX5_closeGap 16 = .ok (.return_, 1) := by decide +kernel
theorem b_X5_closeGap_0 {X : cX} {d : Nat} {μ : mM} {K : Option Value → mM → Prop} {r0 : Nat} {i1 : Nat} {n0 : Nat} {j0 : Nat} (hk_r0 : kd μ r0 = (1, n0)) (hi_j0 : 5 - (nI i1) = nI j0) (hc : (i1 + 1) + j0 ≤ n0) (hc_2 : i1 + j0 ≤ n0) (hb : 5 < n0) (hK : K none (wi (cpI μ r0 (i1 + 1) r0 i1 j0) r0 5 0)) : G X (Rm (d + 1)) mX5_closeGap 0 [(0, .ref r0), (1, .int (nI i1))] [] μ 0 0 K := by
  refine G_aload_n d_X5_closeGap_0 rfl 0 rfl ?_
  refine G_iload_n d_X5_closeGap_1 rfl 1 rfl ?_
  refine G_iconst d_X5_closeGap_2 ic_1 ?_
  refine G_iadd d_X5_closeGap_3 ?_
  refine G_aload_n d_X5_closeGap_4 rfl 0 rfl ?_
  refine G_iload_n d_X5_closeGap_5 rfl 1 rfl ?_
  refine G_iconst d_X5_closeGap_6 ic_5 ?_
  refine G_iload_n d_X5_closeGap_7 rfl 1 rfl ?_
  refine G_isub d_X5_closeGap_8 ?_
  refine G_copy (sp := (i1 + 1)) (dp := i1) (n := j0) hk_r0 hk_r0 (nadd rfl rfl) rfl hi_j0 hc hc_2 ml_X5_39 rb_Rm (Nat.le_of_ble_eq_true rfl) d_X5_closeGap_9 ?_
  refine G_aload_n d_X5_closeGap_12 rfl 0 rfl ?_
  refine G_iconst d_X5_closeGap_13 ic_5 ?_
  refine G_iconst d_X5_closeGap_14 ic_0 ?_
  refine G_iast 5 hk_r0 rfl hb d_X5_closeGap_15 ?_
  exact G_vret rfl rfl rfl d_X5_closeGap_16 hK
theorem d_X5_sameness_0 : decode cX5_sameness 0 = .ok (.iload_n 1, 1) := by decide +kernel
theorem d_X5_sameness_1 : decode cX5_sameness 1 = .ok (.iload_n 2, 1) := by decide +kernel
theorem d_X5_sameness_2 : decode cX5_sameness 2 = .ok (.if_icmp .eq 5, 3) := by decide +kernel
theorem d_X5_sameness_5 : decode cX5_sameness 5 = .ok (.iconst 0, 1) := by decide +kernel
theorem d_X5_sameness_6 : decode cX5_sameness 6 = .ok (.ireturn, 1) := by decide +kernel
theorem d_X5_sameness_7 : decode cX5_sameness 7 = .ok (.aload_n 0, 1) := by decide +kernel
theorem d_X5_sameness_8 : decode cX5_sameness 8 = .ok (.getfield 9, 3) := by decide +kernel
theorem d_X5_sameness_11 : decode cX5_sameness 11 = .ok (.iload_n 1, 1) := by decide +kernel
theorem d_X5_sameness_12 : decode cX5_sameness 12 = .ok (.baload, 1) := by decide +kernel
theorem d_X5_sameness_13 : decode cX5_sameness 13 = .ok (.ifCond .eq 7, 3) := by decide +kernel
theorem d_X5_sameness_16 : decode cX5_sameness 16 = .ok (.iconst 1, 1) := by decide +kernel
theorem d_X5_sameness_17 : decode cX5_sameness 17 = .ok (.goto 4, 3) := by decide +kernel
theorem d_X5_sameness_20 : decode cX5_sameness 20 = .ok (.iconst 2, 1) := by decide +kernel
theorem d_X5_sameness_21 : decode cX5_sameness 21 = .ok (.ireturn, 1) := by decide +kernel
theorem b_X5_sameness_0 {X : cX} {d : Nat} {μ : mM} {K : Option Value → mM → Prop} {r0 : Nat} {i1 : Nat} {l2 : Int32} (w5_r0 : WF5 μ r0) (hb : (nI i1) = l2 → i1 < 6) (hK : (nI i1) = l2 → (iv μ (r0 + 1) i1) = 0 → K (some (.int 2)) μ) (hK_2 : (nI i1) = l2 → ¬ (iv μ (r0 + 1) i1) = 0 → K (some (.int 1)) μ) (hK_3 : ¬ (nI i1) = l2 → K (some (.int 0)) μ) : G X (Rm d) mX5_sameness 0 [(0, .ref r0), (1, .int (nI i1)), (2, .int l2)] [] μ 0 0 K := by
  refine G_iload_n d_X5_sameness_0 rfl 1 rfl ?_
  refine G_iload_n d_X5_sameness_1 rfl 2 rfl ?_
  refine G_icmp_eq (tgt := 7) d_X5_sameness_2 rfl (fun c0 => ?_) (fun c0 => ?_)
  ·
    refine G_aload_n d_X5_sameness_7 rfl 0 rfl ?_
    refine G_getR (r := r0 + 1) 5 1 (w5_kd w5_r0) (w5_f1 w5_r0) cok5 (by decide) rfl fl_X5_9 d_X5_sameness_8 ?_
    refine G_iload_n d_X5_sameness_11 rfl 1 rfl ?_
    refine G_zald i1 (w5_k1 w5_r0) rfl (hb c0) d_X5_sameness_12 ?_
    refine G_if_eq (tgt := 20) d_X5_sameness_13 rfl (fun c1 => ?_) (fun c1 => ?_)
    ·
      refine G_iconst d_X5_sameness_20 ic_2 ?_
      exact G_iret rfl rfl rfl d_X5_sameness_21 (hK c0 c1)
    ·
      refine G_iconst d_X5_sameness_16 ic_1 ?_
      refine G_goto (tgt := 21) d_X5_sameness_17 rfl ?_
      exact G_iret rfl rfl rfl d_X5_sameness_21 (hK_2 c0 c1)
  ·
    refine G_iconst d_X5_sameness_5 ic_0 ?_
    exact G_iret rfl rfl rfl d_X5_sameness_6 (hK_3 c0)
theorem d_X5_holding_0 : decode cX5_holding 0 = .ok (.iconst 0, 1) := by decide +kernel
theorem d_X5_holding_1 : decode cX5_holding 1 = .ok (.istore_n 2, 1) := by decide +kernel
theorem d_X5_holding_2 : decode cX5_holding 2 = .ok (.iconst 0, 1) := by decide +kernel
theorem d_X5_holding_3 : decode cX5_holding 3 = .ok (.istore_n 3, 1) := by decide +kernel
theorem d_X5_holding_4 : decode cX5_holding 4 = .ok (.iload_n 3, 1) := by decide +kernel
theorem d_X5_holding_5 : decode cX5_holding 5 = .ok (.aload_n 0, 1) := by decide +kernel
theorem d_X5_holding_6 : decode cX5_holding 6 = .ok (.getfield 29, 3) := by decide +kernel
theorem d_X5_holding_9 : decode cX5_holding 9 = .ok (.if_icmp .ge 22, 3) := by decide +kernel
theorem d_X5_holding_12 : decode cX5_holding 12 = .ok (.iload_n 2, 1) := by decide +kernel
theorem d_X5_holding_13 : decode cX5_holding 13 = .ok (.aload_n 0, 1) := by decide +kernel
theorem d_X5_holding_14 : decode cX5_holding 14 = .ok (.getfield 17, 3) := by decide +kernel
theorem d_X5_holding_17 : decode cX5_holding 17 = .ok (.iload_n 1, 1) := by decide +kernel
theorem d_X5_holding_18 : decode cX5_holding 18 = .ok (.aaload, 1) := by decide +kernel
theorem d_X5_holding_19 : decode cX5_holding 19 = .ok (.iload_n 3, 1) := by decide +kernel
theorem d_X5_holding_20 : decode cX5_holding 20 = .ok (.iaload, 1) := by decide +kernel
theorem d_X5_holding_21 : decode cX5_holding 21 = .ok (.invokestatic 52, 3) := by decide +kernel
theorem d_X5_holding_24 : decode cX5_holding 24 = .ok (.istore_n 2, 1) := by decide +kernel
theorem d_X5_holding_25 : decode cX5_holding 25 = .ok (.iinc 3 1, 3) := by decide +kernel
theorem d_X5_holding_28 : decode cX5_holding 28 = .ok (.goto (-24), 3) := by decide +kernel
theorem d_X5_holding_31 : decode cX5_holding 31 = .ok (.iload_n 2, 1) := by decide +kernel
theorem d_X5_holding_32 : decode cX5_holding 32 = .ok (.ireturn, 1) := by decide +kernel
theorem b_X5_holding_0 {X : cX} {d : Nat} {μ : mM} {K : Option Value → mM → Prop} {r0 : Nat} {l1 : Int32} (h : G X (Rm (d + 1)) mX5_holding 4 [(0, .ref r0), (1, .int l1), (2, .int 0), (3, .int 0)] [] μ 0 0 K) : G X (Rm (d + 1)) mX5_holding 0 [(0, .ref r0), (1, .int l1)] [] μ 0 0 K := by
  refine G_iconst d_X5_holding_0 ic_0 ?_
  refine G_istore_n (L' := [(2, .int 0), (0, .ref r0), (1, .int l1)]) d_X5_holding_1 rfl (by decide) rfl ?_
  refine G_iconst d_X5_holding_2 ic_0 ?_
  refine G_istore_n (L' := [(3, .int 0), (2, .int 0), (0, .ref r0), (1, .int l1)]) d_X5_holding_3 rfl (by decide) rfl ?_
  refine G_sub (L' := [(0, .ref r0), (1, .int l1), (2, .int 0), (3, .int 0)]) [2, 3, 1, 0] rfl ?_
  exact h
theorem b_X5_holding_4 {X : cX} {d : Nat} {μ : mM} {K : Option Value → mM → Prop} {r0 : Nat} {i1 : Nat} {l2 : Int32} {i3 : Nat} (w5_r0 : WF5 μ r0) (hK : (iv μ r0 0) ≤ (nI i3) → K (some (.int l2)) μ) (hb : ¬ (iv μ r0 0) ≤ (nI i3) → i1 < 3) (hb_2 : ¬ (iv μ r0 0) ≤ (nI i3) → i3 < 6) (h : ¬ (iv μ r0 0) ≤ (nI i3) → G X (Rm (d + 1)) mX5_holding 4 [(0, .ref r0), (1, .int (nI i1)), (2, .int (if l2 < iv μ (r0 + 3 + i1) i3 then iv μ (r0 + 3 + i1) i3 else l2)), (3, .int (nI (i3 + 1)))] [] μ 0 0 K) : G X (Rm (d + 1)) mX5_holding 4 [(0, .ref r0), (1, .int (nI i1)), (2, .int l2), (3, .int (nI i3))] [] μ 0 0 K := by
  refine G_iload_n d_X5_holding_4 rfl 3 rfl ?_
  refine G_aload_n d_X5_holding_5 rfl 0 rfl ?_
  refine G_getI 5 0 (w5_kd w5_r0) cok5 (by decide) rfl fl_X5_29 d_X5_holding_6 ?_
  refine G_icmp_ge (tgt := 31) d_X5_holding_9 rfl (fun c0 => ?_) (fun c0 => ?_)
  ·
    refine G_iload_n d_X5_holding_31 rfl 2 rfl ?_
    exact G_iret rfl rfl rfl d_X5_holding_32 (hK c0)
  ·
    refine G_iload_n d_X5_holding_12 rfl 2 rfl ?_
    refine G_aload_n d_X5_holding_13 rfl 0 rfl ?_
    refine G_getR (r := r0 + 2) 5 2 (w5_kd w5_r0) (w5_f2 w5_r0) cok5 (by decide) rfl fl_X5_17 d_X5_holding_14 ?_
    refine G_iload_n d_X5_holding_17 rfl 1 rfl ?_
    refine G_aaldA (r := r0 + 3 + i1) i1 (w5_k2 w5_r0) rfl (hb c0) (w5_r2 w5_r0 i1 (hb c0)) d_X5_holding_18 ?_
    refine G_iload_n d_X5_holding_19 rfl 3 rfl ?_
    refine G_iald i3 (w5_q2 w5_r0 i1 (hb c0)) rfl (hb_2 c0) d_X5_holding_20 ?_
    refine G_max ml_X5_52 rb_Rm (Nat.le_of_ble_eq_true rfl) d_X5_holding_21 ?_
    refine G_istore_n (L' := [(2, .int (if l2 < iv μ (r0 + 3 + i1) i3 then iv μ (r0 + 3 + i1) i3 else l2)), (0, .ref r0), (1, .int (nI i1)), (3, .int (nI i3))]) d_X5_holding_24 rfl (by decide) rfl ?_
    refine G_iinc (L' := [(3, .int (nI (i3 + 1))), (2, .int (if l2 < iv μ (r0 + 3 + i1) i3 then iv μ (r0 + 3 + i1) i3 else l2)), (0, .ref r0), (1, .int (nI i1))]) d_X5_holding_25 3 rfl (inc1 i3) (by decide) rfl ?_
    refine G_goto (tgt := 4) d_X5_holding_28 rfl ?_
    refine G_sub (L' := [(0, .ref r0), (1, .int (nI i1)), (2, .int (if l2 < iv μ (r0 + 3 + i1) i3 then iv μ (r0 + 3 + i1) i3 else l2)), (3, .int (nI (i3 + 1)))]) [2, 3, 1, 0] rfl ?_
    exact (h c0)
theorem d_X5_manys_0 : decode cX5_manys 0 = .ok (.iconst 0, 1) := by decide +kernel
theorem d_X5_manys_1 : decode cX5_manys 1 = .ok (.istore_n 1, 1) := by decide +kernel
theorem d_X5_manys_2 : decode cX5_manys 2 = .ok (.iconst 0, 1) := by decide +kernel
theorem d_X5_manys_3 : decode cX5_manys 3 = .ok (.istore_n 2, 1) := by decide +kernel
theorem d_X5_manys_4 : decode cX5_manys 4 = .ok (.iload_n 2, 1) := by decide +kernel
theorem d_X5_manys_5 : decode cX5_manys 5 = .ok (.aload_n 0, 1) := by decide +kernel
theorem d_X5_manys_6 : decode cX5_manys 6 = .ok (.getfield 29, 3) := by decide +kernel
theorem d_X5_manys_9 : decode cX5_manys 9 = .ok (.if_icmp .ge 21, 3) := by decide +kernel
theorem d_X5_manys_12 : decode cX5_manys 12 = .ok (.aload_n 0, 1) := by decide +kernel
theorem d_X5_manys_13 : decode cX5_manys 13 = .ok (.getfield 9, 3) := by decide +kernel
theorem d_X5_manys_16 : decode cX5_manys 16 = .ok (.iload_n 2, 1) := by decide +kernel
theorem d_X5_manys_17 : decode cX5_manys 17 = .ok (.baload, 1) := by decide +kernel
theorem d_X5_manys_18 : decode cX5_manys 18 = .ok (.ifCond .eq 6, 3) := by decide +kernel
theorem d_X5_manys_21 : decode cX5_manys 21 = .ok (.iinc 1 1, 3) := by decide +kernel
theorem d_X5_manys_24 : decode cX5_manys 24 = .ok (.iinc 2 1, 3) := by decide +kernel
theorem d_X5_manys_27 : decode cX5_manys 27 = .ok (.goto (-23), 3) := by decide +kernel
theorem d_X5_manys_30 : decode cX5_manys 30 = .ok (.iload_n 1, 1) := by decide +kernel
theorem d_X5_manys_31 : decode cX5_manys 31 = .ok (.ireturn, 1) := by decide +kernel
theorem b_X5_manys_0 {X : cX} {d : Nat} {μ : mM} {K : Option Value → mM → Prop} {r0 : Nat} (h : G X (Rm d) mX5_manys 4 [(0, .ref r0), (1, .int 0), (2, .int 0)] [] μ 0 0 K) : G X (Rm d) mX5_manys 0 [(0, .ref r0)] [] μ 0 0 K := by
  refine G_iconst d_X5_manys_0 ic_0 ?_
  refine G_istore_n (L' := [(1, .int 0), (0, .ref r0)]) d_X5_manys_1 rfl (by decide) rfl ?_
  refine G_iconst d_X5_manys_2 ic_0 ?_
  refine G_istore_n (L' := [(2, .int 0), (1, .int 0), (0, .ref r0)]) d_X5_manys_3 rfl (by decide) rfl ?_
  refine G_sub (L' := [(0, .ref r0), (1, .int 0), (2, .int 0)]) [2, 1, 0] rfl ?_
  exact h
theorem b_X5_manys_4 {X : cX} {d : Nat} {μ : mM} {K : Option Value → mM → Prop} {r0 : Nat} {i1 : Nat} {i2 : Nat} (w5_r0 : WF5 μ r0) (hK : (iv μ r0 0) ≤ (nI i2) → K (some (.int (nI i1))) μ) (hb : ¬ (iv μ r0 0) ≤ (nI i2) → i2 < 6) (h : ¬ (iv μ r0 0) ≤ (nI i2) → (iv μ (r0 + 1) i2) = 0 → G X (Rm d) mX5_manys 24 [(0, .ref r0), (1, .int (nI i1)), (2, .int (nI i2))] [] μ 0 0 K) (h_2 : ¬ (iv μ r0 0) ≤ (nI i2) → ¬ (iv μ (r0 + 1) i2) = 0 → G X (Rm d) mX5_manys 24 [(0, .ref r0), (1, .int (nI (i1 + 1))), (2, .int (nI i2))] [] μ 0 0 K) : G X (Rm d) mX5_manys 4 [(0, .ref r0), (1, .int (nI i1)), (2, .int (nI i2))] [] μ 0 0 K := by
  refine G_iload_n d_X5_manys_4 rfl 2 rfl ?_
  refine G_aload_n d_X5_manys_5 rfl 0 rfl ?_
  refine G_getI 5 0 (w5_kd w5_r0) cok5 (by decide) rfl fl_X5_29 d_X5_manys_6 ?_
  refine G_icmp_ge (tgt := 30) d_X5_manys_9 rfl (fun c0 => ?_) (fun c0 => ?_)
  ·
    refine G_iload_n d_X5_manys_30 rfl 1 rfl ?_
    exact G_iret rfl rfl rfl d_X5_manys_31 (hK c0)
  ·
    refine G_aload_n d_X5_manys_12 rfl 0 rfl ?_
    refine G_getR (r := r0 + 1) 5 1 (w5_kd w5_r0) (w5_f1 w5_r0) cok5 (by decide) rfl fl_X5_9 d_X5_manys_13 ?_
    refine G_iload_n d_X5_manys_16 rfl 2 rfl ?_
    refine G_zald i2 (w5_k1 w5_r0) rfl (hb c0) d_X5_manys_17 ?_
    refine G_if_eq (tgt := 24) d_X5_manys_18 rfl (fun c1 => ?_) (fun c1 => ?_)
    ·
      exact (h c0 c1)
    ·
      refine G_iinc (L' := [(1, .int (nI (i1 + 1))), (0, .ref r0), (2, .int (nI i2))]) d_X5_manys_21 1 rfl (inc1 i1) (by decide) rfl ?_
      refine G_sub (L' := [(0, .ref r0), (1, .int (nI (i1 + 1))), (2, .int (nI i2))]) [1, 0, 2] rfl ?_
      exact (h_2 c0 c1)
theorem b_X5_manys_24 {X : cX} {d : Nat} {μ : mM} {K : Option Value → mM → Prop} {r0 : Nat} {l1 : Int32} {i2 : Nat} (h : G X (Rm d) mX5_manys 4 [(0, .ref r0), (1, .int l1), (2, .int (nI (i2 + 1)))] [] μ 0 0 K) : G X (Rm d) mX5_manys 24 [(0, .ref r0), (1, .int l1), (2, .int (nI i2))] [] μ 0 0 K := by
  refine G_iinc (L' := [(2, .int (nI (i2 + 1))), (0, .ref r0), (1, .int l1)]) d_X5_manys_24 2 rfl (inc1 i2) (by decide) rfl ?_
  refine G_goto (tgt := 4) d_X5_manys_27 rfl ?_
  refine G_sub (L' := [(0, .ref r0), (1, .int l1), (2, .int (nI (i2 + 1)))]) [1, 2, 0] rfl ?_
  exact h
theorem d_X5_atsThatAre_0 : decode cX5_atsThatAre 0 = .ok (.iconst 0, 1) := by decide +kernel
theorem d_X5_atsThatAre_1 : decode cX5_atsThatAre 1 = .ok (.istore_n 2, 1) := by decide +kernel
theorem d_X5_atsThatAre_2 : decode cX5_atsThatAre 2 = .ok (.iconst 0, 1) := by decide +kernel
theorem d_X5_atsThatAre_3 : decode cX5_atsThatAre 3 = .ok (.istore_n 3, 1) := by decide +kernel
theorem d_X5_atsThatAre_4 : decode cX5_atsThatAre 4 = .ok (.iload_n 3, 1) := by decide +kernel
theorem d_X5_atsThatAre_5 : decode cX5_atsThatAre 5 = .ok (.iconst 3, 1) := by decide +kernel
theorem d_X5_atsThatAre_6 : decode cX5_atsThatAre 6 = .ok (.if_icmp .ge 23, 3) := by decide +kernel
theorem d_X5_atsThatAre_9 : decode cX5_atsThatAre 9 = .ok (.iload_n 2, 1) := by decide +kernel
theorem d_X5_atsThatAre_10 : decode cX5_atsThatAre 10 = .ok (.aload_n 0, 1) := by decide +kernel
theorem d_X5_atsThatAre_11 : decode cX5_atsThatAre 11 = .ok (.aload_n 0, 1) := by decide +kernel
theorem d_X5_atsThatAre_12 : decode cX5_atsThatAre 12 = .ok (.getfield 17, 3) := by decide +kernel
theorem d_X5_atsThatAre_15 : decode cX5_atsThatAre 15 = .ok (.iload_n 3, 1) := by decide +kernel
theorem d_X5_atsThatAre_16 : decode cX5_atsThatAre 16 = .ok (.aaload, 1) := by decide +kernel
theorem d_X5_atsThatAre_17 : decode cX5_atsThatAre 17 = .ok (.iload_n 1, 1) := by decide +kernel
theorem d_X5_atsThatAre_18 : decode cX5_atsThatAre 18 = .ok (.invokevirtual 58, 3) := by decide +kernel
theorem d_X5_atsThatAre_21 : decode cX5_atsThatAre 21 = .ok (.iadd, 1) := by decide +kernel
theorem d_X5_atsThatAre_22 : decode cX5_atsThatAre 22 = .ok (.istore_n 2, 1) := by decide +kernel
theorem d_X5_atsThatAre_23 : decode cX5_atsThatAre 23 = .ok (.iinc 3 1, 3) := by decide +kernel
theorem d_X5_atsThatAre_26 : decode cX5_atsThatAre 26 = .ok (.goto (-22), 3) := by decide +kernel
theorem d_X5_atsThatAre_29 : decode cX5_atsThatAre 29 = .ok (.iload_n 2, 1) := by decide +kernel
theorem d_X5_atsThatAre_30 : decode cX5_atsThatAre 30 = .ok (.ireturn, 1) := by decide +kernel
theorem b_X5_atsThatAre_0 {X : cX} {d : Nat} {μ : mM} {K : Option Value → mM → Prop} {r0 : Nat} {l1 : Int32} (h : G X (Rm (d + 1)) mX5_atsThatAre 4 [(0, .ref r0), (1, .int l1), (2, .int 0), (3, .int 0)] [] μ 0 0 K) : G X (Rm (d + 1)) mX5_atsThatAre 0 [(0, .ref r0), (1, .int l1)] [] μ 0 0 K := by
  refine G_iconst d_X5_atsThatAre_0 ic_0 ?_
  refine G_istore_n (L' := [(2, .int 0), (0, .ref r0), (1, .int l1)]) d_X5_atsThatAre_1 rfl (by decide) rfl ?_
  refine G_iconst d_X5_atsThatAre_2 ic_0 ?_
  refine G_istore_n (L' := [(3, .int 0), (2, .int 0), (0, .ref r0), (1, .int l1)]) d_X5_atsThatAre_3 rfl (by decide) rfl ?_
  refine G_sub (L' := [(0, .ref r0), (1, .int l1), (2, .int 0), (3, .int 0)]) [2, 3, 1, 0] rfl ?_
  exact h
theorem b_X5_atsThatAre_4 {X : cX} {d : Nat} {μ : mM} {K : Option Value → mM → Prop} {r0 : Nat} {l1 : Int32} {l2 : Int32} {i3 : Nat} (hK : (3 : Int32) ≤ (nI i3) → K (some (.int l2)) μ) (w5_r0 : WF5 μ r0) (hb : ¬ (3 : Int32) ≤ (nI i3) → i3 < 3) (hc_cellsThatAre : ¬ (3 : Int32) ≤ (nI i3) → Ct X (Rm d) mX5_cellsThatAre [.ref r0, .ref (r0 + 3 + i3), .int l1] μ (fun r μ2 => G X (Rm (d + 1)) mX5_atsThatAre 21 [(0, .ref r0), (1, .int l1), (3, .int (nI i3))] (r.toList ++ [.int l2]) μ2 0 0 K)) : G X (Rm (d + 1)) mX5_atsThatAre 4 [(0, .ref r0), (1, .int l1), (2, .int l2), (3, .int (nI i3))] [] μ 0 0 K := by
  refine G_iload_n d_X5_atsThatAre_4 rfl 3 rfl ?_
  refine G_iconst d_X5_atsThatAre_5 ic_3 ?_
  refine G_icmp_ge (tgt := 29) d_X5_atsThatAre_6 rfl (fun c0 => ?_) (fun c0 => ?_)
  ·
    refine G_iload_n d_X5_atsThatAre_29 rfl 2 rfl ?_
    exact G_iret rfl rfl rfl d_X5_atsThatAre_30 (hK c0)
  ·
    refine G_iload_n d_X5_atsThatAre_9 rfl 2 rfl ?_
    refine G_aload_n d_X5_atsThatAre_10 rfl 0 rfl ?_
    refine G_aload_n d_X5_atsThatAre_11 rfl 0 rfl ?_
    refine G_getR (r := r0 + 2) 5 2 (w5_kd w5_r0) (w5_f2 w5_r0) cok5 (by decide) rfl fl_X5_17 d_X5_atsThatAre_12 ?_
    refine G_iload_n d_X5_atsThatAre_15 rfl 3 rfl ?_
    refine G_aaldA (r := r0 + 3 + i3) i3 (w5_k2 w5_r0) rfl (hb c0) (w5_r2 w5_r0 i3 (hb c0)) d_X5_atsThatAre_16 ?_
    refine G_iload_n d_X5_atsThatAre_17 rfl 1 rfl ?_
    refine G_sub (L' := [(0, .ref r0), (1, .int l1), (3, .int (nI i3))]) [0, 1, 3] rfl ?_
    refine G_callV (M' := mX5_cellsThatAre) (R' := (Rm d)) (S := [.int l2]) [.ref (r0 + 3 + i3), .int l1] 5 (w5_kd w5_r0) cok5 rfl ok_X5_cellsThatAre ml_X5_58 pn_X5_cellsThatAre (ru_Rm (by decide)) (Nat.le_of_ble_eq_true rfl) d_X5_atsThatAre_18 ?_
    exact (hc_cellsThatAre c0)
theorem b_X5_atsThatAre_21 {X : cX} {d : Nat} {μ : mM} {K : Option Value → mM → Prop} {r0 : Nat} {l1 : Int32} {i3 : Nat} {v0 : Int32} {v1 : Int32} (h : G X (Rm (d + 1)) mX5_atsThatAre 4 [(0, .ref r0), (1, .int l1), (2, .int (v0 + v1)), (3, .int (nI (i3 + 1)))] [] μ 0 0 K) : G X (Rm (d + 1)) mX5_atsThatAre 21 [(0, .ref r0), (1, .int l1), (3, .int (nI i3))] [.int v1, .int v0] μ 0 0 K := by
  refine G_iadd d_X5_atsThatAre_21 ?_
  refine G_istore_n (L' := [(2, .int (v0 + v1)), (0, .ref r0), (1, .int l1), (3, .int (nI i3))]) d_X5_atsThatAre_22 rfl (by decide) rfl ?_
  refine G_iinc (L' := [(3, .int (nI (i3 + 1))), (2, .int (v0 + v1)), (0, .ref r0), (1, .int l1)]) d_X5_atsThatAre_23 3 rfl (inc1 i3) (by decide) rfl ?_
  refine G_goto (tgt := 4) d_X5_atsThatAre_26 rfl ?_
  refine G_sub (L' := [(0, .ref r0), (1, .int l1), (2, .int (v0 + v1)), (3, .int (nI (i3 + 1)))]) [2, 3, 1, 0] rfl ?_
  exact h
theorem d_X5_nextsThatAre_0 : decode cX5_nextsThatAre 0 = .ok (.iconst 0, 1) := by decide +kernel
theorem d_X5_nextsThatAre_1 : decode cX5_nextsThatAre 1 = .ok (.istore_n 2, 1) := by decide +kernel
theorem d_X5_nextsThatAre_2 : decode cX5_nextsThatAre 2 = .ok (.iconst 0, 1) := by decide +kernel
theorem d_X5_nextsThatAre_3 : decode cX5_nextsThatAre 3 = .ok (.istore_n 3, 1) := by decide +kernel
theorem d_X5_nextsThatAre_4 : decode cX5_nextsThatAre 4 = .ok (.iload_n 3, 1) := by decide +kernel
theorem d_X5_nextsThatAre_5 : decode cX5_nextsThatAre 5 = .ok (.aload_n 0, 1) := by decide +kernel
theorem d_X5_nextsThatAre_6 : decode cX5_nextsThatAre 6 = .ok (.getfield 29, 3) := by decide +kernel
theorem d_X5_nextsThatAre_9 : decode cX5_nextsThatAre 9 = .ok (.if_icmp .ge 23, 3) := by decide +kernel
theorem d_X5_nextsThatAre_12 : decode cX5_nextsThatAre 12 = .ok (.iload_n 2, 1) := by decide +kernel
theorem d_X5_nextsThatAre_13 : decode cX5_nextsThatAre 13 = .ok (.aload_n 0, 1) := by decide +kernel
theorem d_X5_nextsThatAre_14 : decode cX5_nextsThatAre 14 = .ok (.aload_n 0, 1) := by decide +kernel
theorem d_X5_nextsThatAre_15 : decode cX5_nextsThatAre 15 = .ok (.getfield 20, 3) := by decide +kernel
theorem d_X5_nextsThatAre_18 : decode cX5_nextsThatAre 18 = .ok (.iload_n 3, 1) := by decide +kernel
theorem d_X5_nextsThatAre_19 : decode cX5_nextsThatAre 19 = .ok (.aaload, 1) := by decide +kernel
theorem d_X5_nextsThatAre_20 : decode cX5_nextsThatAre 20 = .ok (.iload_n 1, 1) := by decide +kernel
theorem d_X5_nextsThatAre_21 : decode cX5_nextsThatAre 21 = .ok (.invokevirtual 58, 3) := by decide +kernel
theorem d_X5_nextsThatAre_24 : decode cX5_nextsThatAre 24 = .ok (.iadd, 1) := by decide +kernel
theorem d_X5_nextsThatAre_25 : decode cX5_nextsThatAre 25 = .ok (.istore_n 2, 1) := by decide +kernel
theorem d_X5_nextsThatAre_26 : decode cX5_nextsThatAre 26 = .ok (.iinc 3 1, 3) := by decide +kernel
theorem d_X5_nextsThatAre_29 : decode cX5_nextsThatAre 29 = .ok (.goto (-25), 3) := by decide +kernel
theorem d_X5_nextsThatAre_32 : decode cX5_nextsThatAre 32 = .ok (.iload_n 2, 1) := by decide +kernel
theorem d_X5_nextsThatAre_33 : decode cX5_nextsThatAre 33 = .ok (.ireturn, 1) := by decide +kernel
theorem b_X5_nextsThatAre_0 {X : cX} {d : Nat} {μ : mM} {K : Option Value → mM → Prop} {r0 : Nat} {l1 : Int32} (h : G X (Rm (d + 1)) mX5_nextsThatAre 4 [(0, .ref r0), (1, .int l1), (2, .int 0), (3, .int 0)] [] μ 0 0 K) : G X (Rm (d + 1)) mX5_nextsThatAre 0 [(0, .ref r0), (1, .int l1)] [] μ 0 0 K := by
  refine G_iconst d_X5_nextsThatAre_0 ic_0 ?_
  refine G_istore_n (L' := [(2, .int 0), (0, .ref r0), (1, .int l1)]) d_X5_nextsThatAre_1 rfl (by decide) rfl ?_
  refine G_iconst d_X5_nextsThatAre_2 ic_0 ?_
  refine G_istore_n (L' := [(3, .int 0), (2, .int 0), (0, .ref r0), (1, .int l1)]) d_X5_nextsThatAre_3 rfl (by decide) rfl ?_
  refine G_sub (L' := [(0, .ref r0), (1, .int l1), (2, .int 0), (3, .int 0)]) [2, 3, 1, 0] rfl ?_
  exact h
theorem b_X5_nextsThatAre_4 {X : cX} {d : Nat} {μ : mM} {K : Option Value → mM → Prop} {r0 : Nat} {l1 : Int32} {l2 : Int32} {i3 : Nat} (w5_r0 : WF5 μ r0) (hK : (iv μ r0 0) ≤ (nI i3) → K (some (.int l2)) μ) (hb : ¬ (iv μ r0 0) ≤ (nI i3) → i3 < 6) (hc_cellsThatAre : ¬ (iv μ r0 0) ≤ (nI i3) → Ct X (Rm d) mX5_cellsThatAre [.ref r0, .ref (r0 + 7 + i3), .int l1] μ (fun r μ2 => G X (Rm (d + 1)) mX5_nextsThatAre 24 [(0, .ref r0), (1, .int l1), (3, .int (nI i3))] (r.toList ++ [.int l2]) μ2 0 0 K)) : G X (Rm (d + 1)) mX5_nextsThatAre 4 [(0, .ref r0), (1, .int l1), (2, .int l2), (3, .int (nI i3))] [] μ 0 0 K := by
  refine G_iload_n d_X5_nextsThatAre_4 rfl 3 rfl ?_
  refine G_aload_n d_X5_nextsThatAre_5 rfl 0 rfl ?_
  refine G_getI 5 0 (w5_kd w5_r0) cok5 (by decide) rfl fl_X5_29 d_X5_nextsThatAre_6 ?_
  refine G_icmp_ge (tgt := 32) d_X5_nextsThatAre_9 rfl (fun c0 => ?_) (fun c0 => ?_)
  ·
    refine G_iload_n d_X5_nextsThatAre_32 rfl 2 rfl ?_
    exact G_iret rfl rfl rfl d_X5_nextsThatAre_33 (hK c0)
  ·
    refine G_iload_n d_X5_nextsThatAre_12 rfl 2 rfl ?_
    refine G_aload_n d_X5_nextsThatAre_13 rfl 0 rfl ?_
    refine G_aload_n d_X5_nextsThatAre_14 rfl 0 rfl ?_
    refine G_getR (r := r0 + 6) 5 3 (w5_kd w5_r0) (w5_f3 w5_r0) cok5 (by decide) rfl fl_X5_20 d_X5_nextsThatAre_15 ?_
    refine G_iload_n d_X5_nextsThatAre_18 rfl 3 rfl ?_
    refine G_aaldA (r := r0 + 7 + i3) i3 (w5_k3 w5_r0) rfl (hb c0) (w5_r3 w5_r0 i3 (hb c0)) d_X5_nextsThatAre_19 ?_
    refine G_iload_n d_X5_nextsThatAre_20 rfl 1 rfl ?_
    refine G_sub (L' := [(0, .ref r0), (1, .int l1), (3, .int (nI i3))]) [0, 1, 3] rfl ?_
    refine G_callV (M' := mX5_cellsThatAre) (R' := (Rm d)) (S := [.int l2]) [.ref (r0 + 7 + i3), .int l1] 5 (w5_kd w5_r0) cok5 rfl ok_X5_cellsThatAre ml_X5_58 pn_X5_cellsThatAre (ru_Rm (by decide)) (Nat.le_of_ble_eq_true rfl) d_X5_nextsThatAre_21 ?_
    exact (hc_cellsThatAre c0)
theorem b_X5_nextsThatAre_24 {X : cX} {d : Nat} {μ : mM} {K : Option Value → mM → Prop} {r0 : Nat} {l1 : Int32} {i3 : Nat} {v0 : Int32} {v1 : Int32} (h : G X (Rm (d + 1)) mX5_nextsThatAre 4 [(0, .ref r0), (1, .int l1), (2, .int (v0 + v1)), (3, .int (nI (i3 + 1)))] [] μ 0 0 K) : G X (Rm (d + 1)) mX5_nextsThatAre 24 [(0, .ref r0), (1, .int l1), (3, .int (nI i3))] [.int v1, .int v0] μ 0 0 K := by
  refine G_iadd d_X5_nextsThatAre_24 ?_
  refine G_istore_n (L' := [(2, .int (v0 + v1)), (0, .ref r0), (1, .int l1), (3, .int (nI i3))]) d_X5_nextsThatAre_25 rfl (by decide) rfl ?_
  refine G_iinc (L' := [(3, .int (nI (i3 + 1))), (2, .int (v0 + v1)), (0, .ref r0), (1, .int l1)]) d_X5_nextsThatAre_26 3 rfl (inc1 i3) (by decide) rfl ?_
  refine G_goto (tgt := 4) d_X5_nextsThatAre_29 rfl ?_
  refine G_sub (L' := [(0, .ref r0), (1, .int l1), (2, .int (v0 + v1)), (3, .int (nI (i3 + 1)))]) [2, 3, 1, 0] rfl ?_
  exact h
theorem d_X5_cellsThatAre_0 : decode cX5_cellsThatAre 0 = .ok (.iconst 0, 1) := by decide +kernel
theorem d_X5_cellsThatAre_1 : decode cX5_cellsThatAre 1 = .ok (.istore_n 3, 1) := by decide +kernel
theorem d_X5_cellsThatAre_2 : decode cX5_cellsThatAre 2 = .ok (.iconst 0, 1) := by decide +kernel
theorem d_X5_cellsThatAre_3 : decode cX5_cellsThatAre 3 = .ok (.istore 4, 2) := by decide +kernel
theorem d_X5_cellsThatAre_5 : decode cX5_cellsThatAre 5 = .ok (.iload 4, 2) := by decide +kernel
theorem d_X5_cellsThatAre_7 : decode cX5_cellsThatAre 7 = .ok (.aload_n 0, 1) := by decide +kernel
theorem d_X5_cellsThatAre_8 : decode cX5_cellsThatAre 8 = .ok (.getfield 29, 3) := by decide +kernel
theorem d_X5_cellsThatAre_11 : decode cX5_cellsThatAre 11 = .ok (.if_icmp .ge 20, 3) := by decide +kernel
theorem d_X5_cellsThatAre_14 : decode cX5_cellsThatAre 14 = .ok (.aload_n 1, 1) := by decide +kernel
theorem d_X5_cellsThatAre_15 : decode cX5_cellsThatAre 15 = .ok (.iload 4, 2) := by decide +kernel
theorem d_X5_cellsThatAre_17 : decode cX5_cellsThatAre 17 = .ok (.iaload, 1) := by decide +kernel
theorem d_X5_cellsThatAre_18 : decode cX5_cellsThatAre 18 = .ok (.iload_n 2, 1) := by decide +kernel
theorem d_X5_cellsThatAre_19 : decode cX5_cellsThatAre 19 = .ok (.if_icmp .ne 6, 3) := by decide +kernel
theorem d_X5_cellsThatAre_22 : decode cX5_cellsThatAre 22 = .ok (.iinc 3 1, 3) := by decide +kernel
theorem d_X5_cellsThatAre_25 : decode cX5_cellsThatAre 25 = .ok (.iinc 4 1, 3) := by decide +kernel
theorem d_X5_cellsThatAre_28 : decode cX5_cellsThatAre 28 = .ok (.goto (-23), 3) := by decide +kernel
theorem d_X5_cellsThatAre_31 : decode cX5_cellsThatAre 31 = .ok (.iload_n 3, 1) := by decide +kernel
theorem d_X5_cellsThatAre_32 : decode cX5_cellsThatAre 32 = .ok (.ireturn, 1) := by decide +kernel
theorem b_X5_cellsThatAre_0 {X : cX} {d : Nat} {μ : mM} {K : Option Value → mM → Prop} {r0 : Nat} {r1 : Nat} {l2 : Int32} (h : G X (Rm d) mX5_cellsThatAre 5 [(0, .ref r0), (1, .ref r1), (2, .int l2), (3, .int 0), (4, .int 0)] [] μ 0 0 K) : G X (Rm d) mX5_cellsThatAre 0 [(0, .ref r0), (1, .ref r1), (2, .int l2)] [] μ 0 0 K := by
  refine G_iconst d_X5_cellsThatAre_0 ic_0 ?_
  refine G_istore_n (L' := [(3, .int 0), (0, .ref r0), (1, .ref r1), (2, .int l2)]) d_X5_cellsThatAre_1 rfl (by decide) rfl ?_
  refine G_iconst d_X5_cellsThatAre_2 ic_0 ?_
  refine G_istore (L' := [(4, .int 0), (3, .int 0), (0, .ref r0), (1, .ref r1), (2, .int l2)]) d_X5_cellsThatAre_3 (by decide) rfl ?_
  refine G_sub (L' := [(0, .ref r0), (1, .ref r1), (2, .int l2), (3, .int 0), (4, .int 0)]) [2, 3, 4, 1, 0] rfl ?_
  exact h
theorem b_X5_cellsThatAre_5 {X : cX} {d : Nat} {μ : mM} {K : Option Value → mM → Prop} {r0 : Nat} {r1 : Nat} {l2 : Int32} {i3 : Nat} {i4 : Nat} {n0 : Nat} (w5_r0 : WF5 μ r0) (hK : (iv μ r0 0) ≤ (nI i4) → K (some (.int (nI i3))) μ) (hk_r1 : ¬ (iv μ r0 0) ≤ (nI i4) → kd μ r1 = (1, n0)) (hb : ¬ (iv μ r0 0) ≤ (nI i4) → i4 < n0) (h : ¬ (iv μ r0 0) ≤ (nI i4) → ¬ (iv μ r1 i4) = l2 → G X (Rm d) mX5_cellsThatAre 25 [(0, .ref r0), (1, .ref r1), (2, .int l2), (3, .int (nI i3)), (4, .int (nI i4))] [] μ 0 0 K) (h_2 : ¬ (iv μ r0 0) ≤ (nI i4) → (iv μ r1 i4) = l2 → G X (Rm d) mX5_cellsThatAre 25 [(0, .ref r0), (1, .ref r1), (2, .int l2), (3, .int (nI (i3 + 1))), (4, .int (nI i4))] [] μ 0 0 K) : G X (Rm d) mX5_cellsThatAre 5 [(0, .ref r0), (1, .ref r1), (2, .int l2), (3, .int (nI i3)), (4, .int (nI i4))] [] μ 0 0 K := by
  refine G_iload d_X5_cellsThatAre_5 4 rfl ?_
  refine G_aload_n d_X5_cellsThatAre_7 rfl 0 rfl ?_
  refine G_getI 5 0 (w5_kd w5_r0) cok5 (by decide) rfl fl_X5_29 d_X5_cellsThatAre_8 ?_
  refine G_icmp_ge (tgt := 31) d_X5_cellsThatAre_11 rfl (fun c0 => ?_) (fun c0 => ?_)
  ·
    refine G_iload_n d_X5_cellsThatAre_31 rfl 3 rfl ?_
    exact G_iret rfl rfl rfl d_X5_cellsThatAre_32 (hK c0)
  ·
    refine G_aload_n d_X5_cellsThatAre_14 rfl 1 rfl ?_
    refine G_iload d_X5_cellsThatAre_15 4 rfl ?_
    refine G_iald i4 (hk_r1 c0) rfl (hb c0) d_X5_cellsThatAre_17 ?_
    refine G_iload_n d_X5_cellsThatAre_18 rfl 2 rfl ?_
    refine G_icmp_ne (tgt := 25) d_X5_cellsThatAre_19 rfl (fun c1 => ?_) (fun c1 => ?_)
    ·
      exact (h c0 c1)
    ·
      refine G_iinc (L' := [(3, .int (nI (i3 + 1))), (0, .ref r0), (1, .ref r1), (2, .int l2), (4, .int (nI i4))]) d_X5_cellsThatAre_22 3 rfl (inc1 i3) (by decide) rfl ?_
      refine G_sub (L' := [(0, .ref r0), (1, .ref r1), (2, .int l2), (3, .int (nI (i3 + 1))), (4, .int (nI i4))]) [1, 2, 3, 0, 4] rfl ?_
      exact (h_2 c0 c1)
theorem b_X5_cellsThatAre_25 {X : cX} {d : Nat} {μ : mM} {K : Option Value → mM → Prop} {r0 : Nat} {r1 : Nat} {l2 : Int32} {l3 : Int32} {i4 : Nat} (h : G X (Rm d) mX5_cellsThatAre 5 [(0, .ref r0), (1, .ref r1), (2, .int l2), (3, .int l3), (4, .int (nI (i4 + 1)))] [] μ 0 0 K) : G X (Rm d) mX5_cellsThatAre 25 [(0, .ref r0), (1, .ref r1), (2, .int l2), (3, .int l3), (4, .int (nI i4))] [] μ 0 0 K := by
  refine G_iinc (L' := [(4, .int (nI (i4 + 1))), (0, .ref r0), (1, .ref r1), (2, .int l2), (3, .int l3)]) d_X5_cellsThatAre_25 4 rfl (inc1 i4) (by decide) rfl ?_
  refine G_goto (tgt := 5) d_X5_cellsThatAre_28 rfl ?_
  refine G_sub (L' := [(0, .ref r0), (1, .ref r1), (2, .int l2), (3, .int l3), (4, .int (nI (i4 + 1)))]) [1, 2, 3, 4, 0] rfl ?_
  exact h
theorem d_X5_isHeap_0 : decode cX5_isHeap 0 = .ok (.aload_n 0, 1) := by decide +kernel
theorem d_X5_isHeap_1 : decode cX5_isHeap 1 = .ok (.invokevirtual 62, 3) := by decide +kernel
theorem d_X5_isHeap_4 : decode cX5_isHeap 4 = .ok (.ifCond .ne 23, 3) := by decide +kernel
theorem d_X5_isHeap_7 : decode cX5_isHeap 7 = .ok (.aload_n 0, 1) := by decide +kernel
theorem d_X5_isHeap_8 : decode cX5_isHeap 8 = .ok (.iconst 1, 1) := by decide +kernel
theorem d_X5_isHeap_9 : decode cX5_isHeap 9 = .ok (.invokevirtual 66, 3) := by decide +kernel
theorem d_X5_isHeap_12 : decode cX5_isHeap 12 = .ok (.ifCond .ne 15, 3) := by decide +kernel
theorem d_X5_isHeap_15 : decode cX5_isHeap 15 = .ok (.aload_n 0, 1) := by decide +kernel
theorem d_X5_isHeap_16 : decode cX5_isHeap 16 = .ok (.iconst 1, 1) := by decide +kernel
theorem d_X5_isHeap_17 : decode cX5_isHeap 17 = .ok (.invokevirtual 70, 3) := by decide +kernel
theorem d_X5_isHeap_20 : decode cX5_isHeap 20 = .ok (.ifCond .ne 7, 3) := by decide +kernel
theorem d_X5_isHeap_23 : decode cX5_isHeap 23 = .ok (.iconst 1, 1) := by decide +kernel
theorem d_X5_isHeap_24 : decode cX5_isHeap 24 = .ok (.goto 4, 3) := by decide +kernel
theorem d_X5_isHeap_27 : decode cX5_isHeap 27 = .ok (.iconst 0, 1) := by decide +kernel
theorem d_X5_isHeap_28 : decode cX5_isHeap 28 = .ok (.istore_n 1, 1) := by decide +kernel
theorem d_X5_isHeap_29 : decode cX5_isHeap 29 = .ok (.iconst 0, 1) := by decide +kernel
theorem d_X5_isHeap_30 : decode cX5_isHeap 30 = .ok (.istore_n 2, 1) := by decide +kernel
theorem d_X5_isHeap_31 : decode cX5_isHeap 31 = .ok (.iload_n 2, 1) := by decide +kernel
theorem d_X5_isHeap_32 : decode cX5_isHeap 32 = .ok (.iconst 3, 1) := by decide +kernel
theorem d_X5_isHeap_33 : decode cX5_isHeap 33 = .ok (.if_icmp .ge 34, 3) := by decide +kernel
theorem d_X5_isHeap_36 : decode cX5_isHeap 36 = .ok (.iload_n 1, 1) := by decide +kernel
theorem d_X5_isHeap_37 : decode cX5_isHeap 37 = .ok (.ifCond .eq 30, 3) := by decide +kernel
theorem d_X5_isHeap_40 : decode cX5_isHeap 40 = .ok (.aload_n 0, 1) := by decide +kernel
theorem d_X5_isHeap_41 : decode cX5_isHeap 41 = .ok (.aload_n 0, 1) := by decide +kernel
theorem d_X5_isHeap_42 : decode cX5_isHeap 42 = .ok (.getfield 17, 3) := by decide +kernel
theorem d_X5_isHeap_45 : decode cX5_isHeap 45 = .ok (.iload_n 2, 1) := by decide +kernel
theorem d_X5_isHeap_46 : decode cX5_isHeap 46 = .ok (.aaload, 1) := by decide +kernel
theorem d_X5_isHeap_47 : decode cX5_isHeap 47 = .ok (.iconst 2, 1) := by decide +kernel
theorem d_X5_isHeap_48 : decode cX5_isHeap 48 = .ok (.invokevirtual 58, 3) := by decide +kernel
theorem d_X5_isHeap_51 : decode cX5_isHeap 51 = .ok (.iconst 1, 1) := by decide +kernel
theorem d_X5_isHeap_52 : decode cX5_isHeap 52 = .ok (.if_icmp .gt 7, 3) := by decide +kernel
theorem d_X5_isHeap_55 : decode cX5_isHeap 55 = .ok (.iconst 1, 1) := by decide +kernel
theorem d_X5_isHeap_56 : decode cX5_isHeap 56 = .ok (.goto 4, 3) := by decide +kernel
theorem d_X5_isHeap_59 : decode cX5_isHeap 59 = .ok (.iconst 0, 1) := by decide +kernel
theorem d_X5_isHeap_60 : decode cX5_isHeap 60 = .ok (.istore_n 1, 1) := by decide +kernel
theorem d_X5_isHeap_61 : decode cX5_isHeap 61 = .ok (.iinc 2 1, 3) := by decide +kernel
theorem d_X5_isHeap_64 : decode cX5_isHeap 64 = .ok (.goto (-33), 3) := by decide +kernel
theorem d_X5_isHeap_67 : decode cX5_isHeap 67 = .ok (.iconst 0, 1) := by decide +kernel
theorem d_X5_isHeap_68 : decode cX5_isHeap 68 = .ok (.istore_n 2, 1) := by decide +kernel
theorem d_X5_isHeap_69 : decode cX5_isHeap 69 = .ok (.iload_n 2, 1) := by decide +kernel
theorem d_X5_isHeap_70 : decode cX5_isHeap 70 = .ok (.aload_n 0, 1) := by decide +kernel
theorem d_X5_isHeap_71 : decode cX5_isHeap 71 = .ok (.getfield 29, 3) := by decide +kernel
theorem d_X5_isHeap_74 : decode cX5_isHeap 74 = .ok (.if_icmp .ge 34, 3) := by decide +kernel
theorem d_X5_isHeap_77 : decode cX5_isHeap 77 = .ok (.iload_n 1, 1) := by decide +kernel
theorem d_X5_isHeap_78 : decode cX5_isHeap 78 = .ok (.ifCond .eq 30, 3) := by decide +kernel
theorem d_X5_isHeap_81 : decode cX5_isHeap 81 = .ok (.aload_n 0, 1) := by decide +kernel
theorem d_X5_isHeap_82 : decode cX5_isHeap 82 = .ok (.aload_n 0, 1) := by decide +kernel
theorem d_X5_isHeap_83 : decode cX5_isHeap 83 = .ok (.getfield 20, 3) := by decide +kernel
theorem d_X5_isHeap_86 : decode cX5_isHeap 86 = .ok (.iload_n 2, 1) := by decide +kernel
theorem d_X5_isHeap_87 : decode cX5_isHeap 87 = .ok (.aaload, 1) := by decide +kernel
theorem d_X5_isHeap_88 : decode cX5_isHeap 88 = .ok (.iconst 2, 1) := by decide +kernel
theorem d_X5_isHeap_89 : decode cX5_isHeap 89 = .ok (.invokevirtual 58, 3) := by decide +kernel
theorem d_X5_isHeap_92 : decode cX5_isHeap 92 = .ok (.iconst 1, 1) := by decide +kernel
theorem d_X5_isHeap_93 : decode cX5_isHeap 93 = .ok (.if_icmp .gt 7, 3) := by decide +kernel
theorem d_X5_isHeap_96 : decode cX5_isHeap 96 = .ok (.iconst 1, 1) := by decide +kernel
theorem d_X5_isHeap_97 : decode cX5_isHeap 97 = .ok (.goto 4, 3) := by decide +kernel
theorem d_X5_isHeap_100 : decode cX5_isHeap 100 = .ok (.iconst 0, 1) := by decide +kernel
theorem d_X5_isHeap_101 : decode cX5_isHeap 101 = .ok (.istore_n 1, 1) := by decide +kernel
theorem d_X5_isHeap_102 : decode cX5_isHeap 102 = .ok (.iinc 2 1, 3) := by decide +kernel
theorem d_X5_isHeap_105 : decode cX5_isHeap 105 = .ok (.goto (-36), 3) := by decide +kernel
theorem d_X5_isHeap_108 : decode cX5_isHeap 108 = .ok (.iload_n 1, 1) := by decide +kernel
theorem d_X5_isHeap_109 : decode cX5_isHeap 109 = .ok (.ireturn, 1) := by decide +kernel
theorem b_X5_isHeap_0 {X : cX} {d : Nat} {μ : mM} {K : Option Value → mM → Prop} {r0 : Nat} (w5_r0 : WF5 μ r0) (hc_manys : Ct X (Rm d) mX5_manys [.ref r0] μ (fun r μ2 => G X (Rm (d + 1)) mX5_isHeap 4 [(0, .ref r0)] (r.toList ++ []) μ2 0 0 K)) : G X (Rm (d + 1)) mX5_isHeap 0 [(0, .ref r0)] [] μ 0 0 K := by
  refine G_aload_n d_X5_isHeap_0 rfl 0 rfl ?_
  refine G_callV (M' := mX5_manys) (R' := (Rm d)) (S := []) [] 5 (w5_kd w5_r0) cok5 rfl ok_X5_manys ml_X5_62 pn_X5_manys (ru_Rm (by decide)) (Nat.le_of_ble_eq_true rfl) d_X5_isHeap_1 ?_
  exact hc_manys
theorem b_X5_isHeap_4 {X : cX} {d : Nat} {μ : mM} {K : Option Value → mM → Prop} {r0 : Nat} {v0 : Int32} (h : ¬ v0 = 0 → G X (Rm (d + 1)) mX5_isHeap 27 [(0, .ref r0)] [] μ 0 0 K) (w5_r0 : WF5 μ r0) (hc_atsThatAre : v0 = 0 → Ct X (Rm d) mX5_atsThatAre [.ref r0, .int 1] μ (fun r μ2 => G X (Rm (d + 1)) mX5_isHeap 12 [(0, .ref r0)] (r.toList ++ []) μ2 0 0 K)) : G X (Rm (d + 1)) mX5_isHeap 4 [(0, .ref r0)] [.int v0] μ 0 0 K := by
  refine G_if_ne (tgt := 27) d_X5_isHeap_4 rfl (fun c0 => ?_) (fun c0 => ?_)
  ·
    exact (h c0)
  ·
    refine G_aload_n d_X5_isHeap_7 rfl 0 rfl ?_
    refine G_iconst d_X5_isHeap_8 ic_1 ?_
    refine G_callV (M' := mX5_atsThatAre) (R' := (Rm d)) (S := []) [.int 1] 5 (w5_kd w5_r0) cok5 rfl ok_X5_atsThatAre ml_X5_66 pn_X5_atsThatAre (ru_Rm (by decide)) (Nat.le_of_ble_eq_true rfl) d_X5_isHeap_9 ?_
    exact (hc_atsThatAre c0)
theorem b_X5_isHeap_12 {X : cX} {d : Nat} {μ : mM} {K : Option Value → mM → Prop} {r0 : Nat} {v0 : Int32} (h : ¬ v0 = 0 → G X (Rm (d + 1)) mX5_isHeap 27 [(0, .ref r0)] [] μ 0 0 K) (w5_r0 : WF5 μ r0) (hc_nextsThatAre : v0 = 0 → Ct X (Rm d) mX5_nextsThatAre [.ref r0, .int 1] μ (fun r μ2 => G X (Rm (d + 1)) mX5_isHeap 20 [(0, .ref r0)] (r.toList ++ []) μ2 0 0 K)) : G X (Rm (d + 1)) mX5_isHeap 12 [(0, .ref r0)] [.int v0] μ 0 0 K := by
  refine G_if_ne (tgt := 27) d_X5_isHeap_12 rfl (fun c0 => ?_) (fun c0 => ?_)
  ·
    exact (h c0)
  ·
    refine G_aload_n d_X5_isHeap_15 rfl 0 rfl ?_
    refine G_iconst d_X5_isHeap_16 ic_1 ?_
    refine G_callV (M' := mX5_nextsThatAre) (R' := (Rm d)) (S := []) [.int 1] 5 (w5_kd w5_r0) cok5 rfl ok_X5_nextsThatAre ml_X5_70 pn_X5_nextsThatAre (ru_Rm (by decide)) (Nat.le_of_ble_eq_true rfl) d_X5_isHeap_17 ?_
    exact (hc_nextsThatAre c0)
theorem b_X5_isHeap_20 {X : cX} {d : Nat} {μ : mM} {K : Option Value → mM → Prop} {r0 : Nat} {v0 : Int32} (h : ¬ v0 = 0 → G X (Rm (d + 1)) mX5_isHeap 27 [(0, .ref r0)] [] μ 0 0 K) (h_2 : v0 = 0 → G X (Rm (d + 1)) mX5_isHeap 28 [(0, .ref r0)] [.int 1] μ 0 0 K) : G X (Rm (d + 1)) mX5_isHeap 20 [(0, .ref r0)] [.int v0] μ 0 0 K := by
  refine G_if_ne (tgt := 27) d_X5_isHeap_20 rfl (fun c0 => ?_) (fun c0 => ?_)
  ·
    exact (h c0)
  ·
    refine G_iconst d_X5_isHeap_23 ic_1 ?_
    refine G_goto (tgt := 28) d_X5_isHeap_24 rfl ?_
    exact (h_2 c0)
theorem b_X5_isHeap_27 {X : cX} {d : Nat} {μ : mM} {K : Option Value → mM → Prop} {r0 : Nat} (h : G X (Rm (d + 1)) mX5_isHeap 28 [(0, .ref r0)] [.int 0] μ 0 0 K) : G X (Rm (d + 1)) mX5_isHeap 27 [(0, .ref r0)] [] μ 0 0 K := by
  refine G_iconst d_X5_isHeap_27 ic_0 ?_
  exact h
theorem b_X5_isHeap_28 {X : cX} {d : Nat} {μ : mM} {K : Option Value → mM → Prop} {r0 : Nat} {v0 : Int32} (h : G X (Rm (d + 1)) mX5_isHeap 31 [(0, .ref r0), (1, .int v0), (2, .int 0)] [] μ 0 0 K) : G X (Rm (d + 1)) mX5_isHeap 28 [(0, .ref r0)] [.int v0] μ 0 0 K := by
  refine G_istore_n (L' := [(1, .int v0), (0, .ref r0)]) d_X5_isHeap_28 rfl (by decide) rfl ?_
  refine G_iconst d_X5_isHeap_29 ic_0 ?_
  refine G_istore_n (L' := [(2, .int 0), (1, .int v0), (0, .ref r0)]) d_X5_isHeap_30 rfl (by decide) rfl ?_
  refine G_sub (L' := [(0, .ref r0), (1, .int v0), (2, .int 0)]) [2, 1, 0] rfl ?_
  exact h
theorem b_X5_isHeap_31 {X : cX} {d : Nat} {μ : mM} {K : Option Value → mM → Prop} {r0 : Nat} {l1 : Int32} {i2 : Nat} (h : (3 : Int32) ≤ (nI i2) → G X (Rm (d + 1)) mX5_isHeap 67 [(0, .ref r0), (1, .int l1)] [] μ 0 0 K) (h_2 : ¬ (3 : Int32) ≤ (nI i2) → l1 = 0 → G X (Rm (d + 1)) mX5_isHeap 67 [(0, .ref r0), (1, .int l1)] [] μ 0 0 K) (w5_r0 : WF5 μ r0) (hb : ¬ (3 : Int32) ≤ (nI i2) → ¬ l1 = 0 → i2 < 3) (hc_cellsThatAre : ¬ (3 : Int32) ≤ (nI i2) → ¬ l1 = 0 → Ct X (Rm d) mX5_cellsThatAre [.ref r0, .ref (r0 + 3 + i2), .int 2] μ (fun r μ2 => G X (Rm (d + 1)) mX5_isHeap 51 [(0, .ref r0), (2, .int (nI i2))] (r.toList ++ []) μ2 0 0 K)) : G X (Rm (d + 1)) mX5_isHeap 31 [(0, .ref r0), (1, .int l1), (2, .int (nI i2))] [] μ 0 0 K := by
  refine G_iload_n d_X5_isHeap_31 rfl 2 rfl ?_
  refine G_iconst d_X5_isHeap_32 ic_3 ?_
  refine G_icmp_ge (tgt := 67) d_X5_isHeap_33 rfl (fun c0 => ?_) (fun c0 => ?_)
  ·
    refine G_sub (L' := [(0, .ref r0), (1, .int l1)]) [0, 1] rfl ?_
    exact (h c0)
  ·
    refine G_iload_n d_X5_isHeap_36 rfl 1 rfl ?_
    refine G_if_eq (tgt := 67) d_X5_isHeap_37 rfl (fun c1 => ?_) (fun c1 => ?_)
    ·
      refine G_sub (L' := [(0, .ref r0), (1, .int l1)]) [0, 1] rfl ?_
      exact (h_2 c0 c1)
    ·
      refine G_aload_n d_X5_isHeap_40 rfl 0 rfl ?_
      refine G_aload_n d_X5_isHeap_41 rfl 0 rfl ?_
      refine G_getR (r := r0 + 2) 5 2 (w5_kd w5_r0) (w5_f2 w5_r0) cok5 (by decide) rfl fl_X5_17 d_X5_isHeap_42 ?_
      refine G_iload_n d_X5_isHeap_45 rfl 2 rfl ?_
      refine G_aaldA (r := r0 + 3 + i2) i2 (w5_k2 w5_r0) rfl (hb c0 c1) (w5_r2 w5_r0 i2 (hb c0 c1)) d_X5_isHeap_46 ?_
      refine G_iconst d_X5_isHeap_47 ic_2 ?_
      refine G_sub (L' := [(0, .ref r0), (2, .int (nI i2))]) [0, 2] rfl ?_
      refine G_callV (M' := mX5_cellsThatAre) (R' := (Rm d)) (S := []) [.ref (r0 + 3 + i2), .int 2] 5 (w5_kd w5_r0) cok5 rfl ok_X5_cellsThatAre ml_X5_58 pn_X5_cellsThatAre (ru_Rm (by decide)) (Nat.le_of_ble_eq_true rfl) d_X5_isHeap_48 ?_
      exact (hc_cellsThatAre c0 c1)
theorem b_X5_isHeap_51 {X : cX} {d : Nat} {μ : mM} {K : Option Value → mM → Prop} {r0 : Nat} {l2 : Int32} {v0 : Int32} (h : (1 : Int32) < v0 → G X (Rm (d + 1)) mX5_isHeap 60 [(0, .ref r0), (2, .int l2)] [.int 0] μ 0 0 K) (h_2 : ¬ (1 : Int32) < v0 → G X (Rm (d + 1)) mX5_isHeap 60 [(0, .ref r0), (2, .int l2)] [.int 1] μ 0 0 K) : G X (Rm (d + 1)) mX5_isHeap 51 [(0, .ref r0), (2, .int l2)] [.int v0] μ 0 0 K := by
  refine G_iconst d_X5_isHeap_51 ic_1 ?_
  refine G_icmp_gt (tgt := 59) d_X5_isHeap_52 rfl (fun c0 => ?_) (fun c0 => ?_)
  ·
    refine G_iconst d_X5_isHeap_59 ic_0 ?_
    exact (h c0)
  ·
    refine G_iconst d_X5_isHeap_55 ic_1 ?_
    refine G_goto (tgt := 60) d_X5_isHeap_56 rfl ?_
    exact (h_2 c0)
theorem b_X5_isHeap_60 {X : cX} {d : Nat} {μ : mM} {K : Option Value → mM → Prop} {r0 : Nat} {i2 : Nat} {v0 : Int32} (h : G X (Rm (d + 1)) mX5_isHeap 31 [(0, .ref r0), (1, .int v0), (2, .int (nI (i2 + 1)))] [] μ 0 0 K) : G X (Rm (d + 1)) mX5_isHeap 60 [(0, .ref r0), (2, .int (nI i2))] [.int v0] μ 0 0 K := by
  refine G_istore_n (L' := [(1, .int v0), (0, .ref r0), (2, .int (nI i2))]) d_X5_isHeap_60 rfl (by decide) rfl ?_
  refine G_iinc (L' := [(2, .int (nI (i2 + 1))), (1, .int v0), (0, .ref r0)]) d_X5_isHeap_61 2 rfl (inc1 i2) (by decide) rfl ?_
  refine G_goto (tgt := 31) d_X5_isHeap_64 rfl ?_
  refine G_sub (L' := [(0, .ref r0), (1, .int v0), (2, .int (nI (i2 + 1)))]) [2, 1, 0] rfl ?_
  exact h
theorem b_X5_isHeap_67 {X : cX} {d : Nat} {μ : mM} {K : Option Value → mM → Prop} {r0 : Nat} {l1 : Int32} (h : G X (Rm (d + 1)) mX5_isHeap 69 [(0, .ref r0), (1, .int l1), (2, .int 0)] [] μ 0 0 K) : G X (Rm (d + 1)) mX5_isHeap 67 [(0, .ref r0), (1, .int l1)] [] μ 0 0 K := by
  refine G_iconst d_X5_isHeap_67 ic_0 ?_
  refine G_istore_n (L' := [(2, .int 0), (0, .ref r0), (1, .int l1)]) d_X5_isHeap_68 rfl (by decide) rfl ?_
  refine G_sub (L' := [(0, .ref r0), (1, .int l1), (2, .int 0)]) [1, 2, 0] rfl ?_
  exact h
theorem b_X5_isHeap_69 {X : cX} {d : Nat} {μ : mM} {K : Option Value → mM → Prop} {r0 : Nat} {l1 : Int32} {i2 : Nat} (w5_r0 : WF5 μ r0) (hK : (iv μ r0 0) ≤ (nI i2) → K (some (.int l1)) μ) (hz : (iv μ r0 0) ≤ (nI i2) → l1 = 0 ∨ l1 = 1) (hK_2 : ¬ (iv μ r0 0) ≤ (nI i2) → l1 = 0 → K (some (.int l1)) μ) (hz_2 : ¬ (iv μ r0 0) ≤ (nI i2) → l1 = 0 → l1 = 0 ∨ l1 = 1) (hb : ¬ (iv μ r0 0) ≤ (nI i2) → ¬ l1 = 0 → i2 < 6) (hc_cellsThatAre : ¬ (iv μ r0 0) ≤ (nI i2) → ¬ l1 = 0 → Ct X (Rm d) mX5_cellsThatAre [.ref r0, .ref (r0 + 7 + i2), .int 2] μ (fun r μ2 => G X (Rm (d + 1)) mX5_isHeap 92 [(0, .ref r0), (2, .int (nI i2))] (r.toList ++ []) μ2 0 0 K)) : G X (Rm (d + 1)) mX5_isHeap 69 [(0, .ref r0), (1, .int l1), (2, .int (nI i2))] [] μ 0 0 K := by
  refine G_iload_n d_X5_isHeap_69 rfl 2 rfl ?_
  refine G_aload_n d_X5_isHeap_70 rfl 0 rfl ?_
  refine G_getI 5 0 (w5_kd w5_r0) cok5 (by decide) rfl fl_X5_29 d_X5_isHeap_71 ?_
  refine G_icmp_ge (tgt := 108) d_X5_isHeap_74 rfl (fun c0 => ?_) (fun c0 => ?_)
  ·
    refine G_iload_n d_X5_isHeap_108 rfl 1 rfl ?_
    exact G_zret rfl (nar_b (hz c0)) rfl rfl d_X5_isHeap_109 (hK c0)
  ·
    refine G_iload_n d_X5_isHeap_77 rfl 1 rfl ?_
    refine G_if_eq (tgt := 108) d_X5_isHeap_78 rfl (fun c1 => ?_) (fun c1 => ?_)
    ·
      refine G_iload_n d_X5_isHeap_108 rfl 1 rfl ?_
      exact G_zret rfl (nar_b (hz_2 c0 c1)) rfl rfl d_X5_isHeap_109 (hK_2 c0 c1)
    ·
      refine G_aload_n d_X5_isHeap_81 rfl 0 rfl ?_
      refine G_aload_n d_X5_isHeap_82 rfl 0 rfl ?_
      refine G_getR (r := r0 + 6) 5 3 (w5_kd w5_r0) (w5_f3 w5_r0) cok5 (by decide) rfl fl_X5_20 d_X5_isHeap_83 ?_
      refine G_iload_n d_X5_isHeap_86 rfl 2 rfl ?_
      refine G_aaldA (r := r0 + 7 + i2) i2 (w5_k3 w5_r0) rfl (hb c0 c1) (w5_r3 w5_r0 i2 (hb c0 c1)) d_X5_isHeap_87 ?_
      refine G_iconst d_X5_isHeap_88 ic_2 ?_
      refine G_sub (L' := [(0, .ref r0), (2, .int (nI i2))]) [0, 2] rfl ?_
      refine G_callV (M' := mX5_cellsThatAre) (R' := (Rm d)) (S := []) [.ref (r0 + 7 + i2), .int 2] 5 (w5_kd w5_r0) cok5 rfl ok_X5_cellsThatAre ml_X5_58 pn_X5_cellsThatAre (ru_Rm (by decide)) (Nat.le_of_ble_eq_true rfl) d_X5_isHeap_89 ?_
      exact (hc_cellsThatAre c0 c1)
theorem b_X5_isHeap_92 {X : cX} {d : Nat} {μ : mM} {K : Option Value → mM → Prop} {r0 : Nat} {l2 : Int32} {v0 : Int32} (h : (1 : Int32) < v0 → G X (Rm (d + 1)) mX5_isHeap 101 [(0, .ref r0), (2, .int l2)] [.int 0] μ 0 0 K) (h_2 : ¬ (1 : Int32) < v0 → G X (Rm (d + 1)) mX5_isHeap 101 [(0, .ref r0), (2, .int l2)] [.int 1] μ 0 0 K) : G X (Rm (d + 1)) mX5_isHeap 92 [(0, .ref r0), (2, .int l2)] [.int v0] μ 0 0 K := by
  refine G_iconst d_X5_isHeap_92 ic_1 ?_
  refine G_icmp_gt (tgt := 100) d_X5_isHeap_93 rfl (fun c0 => ?_) (fun c0 => ?_)
  ·
    refine G_iconst d_X5_isHeap_100 ic_0 ?_
    exact (h c0)
  ·
    refine G_iconst d_X5_isHeap_96 ic_1 ?_
    refine G_goto (tgt := 101) d_X5_isHeap_97 rfl ?_
    exact (h_2 c0)
theorem b_X5_isHeap_101 {X : cX} {d : Nat} {μ : mM} {K : Option Value → mM → Prop} {r0 : Nat} {i2 : Nat} {v0 : Int32} (h : G X (Rm (d + 1)) mX5_isHeap 69 [(0, .ref r0), (1, .int v0), (2, .int (nI (i2 + 1)))] [] μ 0 0 K) : G X (Rm (d + 1)) mX5_isHeap 101 [(0, .ref r0), (2, .int (nI i2))] [.int v0] μ 0 0 K := by
  refine G_istore_n (L' := [(1, .int v0), (0, .ref r0), (2, .int (nI i2))]) d_X5_isHeap_101 rfl (by decide) rfl ?_
  refine G_iinc (L' := [(2, .int (nI (i2 + 1))), (1, .int v0), (0, .ref r0)]) d_X5_isHeap_102 2 rfl (inc1 i2) (by decide) rfl ?_
  refine G_goto (tgt := 69) d_X5_isHeap_105 rfl ?_
  refine G_sub (L' := [(0, .ref r0), (1, .int v0), (2, .int (nI (i2 + 1)))]) [2, 1, 0] rfl ?_
  exact h
theorem d_X5_trace_0 : decode cX5_trace 0 = .ok (.iconst 0, 1) := by decide +kernel
theorem d_X5_trace_1 : decode cX5_trace 1 = .ok (.istore_n 1, 1) := by decide +kernel
theorem d_X5_trace_2 : decode cX5_trace 2 = .ok (.iload_n 1, 1) := by decide +kernel
theorem d_X5_trace_3 : decode cX5_trace 3 = .ok (.aload_n 0, 1) := by decide +kernel
theorem d_X5_trace_4 : decode cX5_trace 4 = .ok (.getfield 29, 3) := by decide +kernel
theorem d_X5_trace_7 : decode cX5_trace 7 = .ok (.if_icmp .ge 28, 3) := by decide +kernel
theorem d_X5_trace_10 : decode cX5_trace 10 = .ok (.aload_n 0, 1) := by decide +kernel
theorem d_X5_trace_11 : decode cX5_trace 11 = .ok (.getfield 20, 3) := by decide +kernel
theorem d_X5_trace_14 : decode cX5_trace 14 = .ok (.iload_n 1, 1) := by decide +kernel
theorem d_X5_trace_15 : decode cX5_trace 15 = .ok (.aaload, 1) := by decide +kernel
theorem d_X5_trace_16 : decode cX5_trace 16 = .ok (.iconst 0, 1) := by decide +kernel
theorem d_X5_trace_17 : decode cX5_trace 17 = .ok (.aload_n 0, 1) := by decide +kernel
theorem d_X5_trace_18 : decode cX5_trace 18 = .ok (.getfield 23, 3) := by decide +kernel
theorem d_X5_trace_21 : decode cX5_trace 21 = .ok (.iload_n 1, 1) := by decide +kernel
theorem d_X5_trace_22 : decode cX5_trace 22 = .ok (.aaload, 1) := by decide +kernel
theorem d_X5_trace_23 : decode cX5_trace 23 = .ok (.iconst 0, 1) := by decide +kernel
theorem d_X5_trace_24 : decode cX5_trace 24 = .ok (.bipush 6, 2) := by decide +kernel
theorem d_X5_trace_26 : decode cX5_trace 26 = .ok (.invokestatic 39, 3) := by decide +kernel
theorem d_X5_trace_29 : decode cX5_trace 29 = .ok (.iinc 1 1, 3) := by decide +kernel
theorem d_X5_trace_32 : decode cX5_trace 32 = .ok (.goto (-30), 3) := by decide +kernel
theorem d_X5_trace_35 : decode cX5_trace 35 = .ok (.iconst 0, 1) := by decide +kernel
theorem d_X5_trace_36 : decode cX5_trace 36 = .ok (.istore_n 1, 1) := by decide +kernel
theorem d_X5_trace_37 : decode cX5_trace 37 = .ok (.iload_n 1, 1) := by decide +kernel
theorem d_X5_trace_38 : decode cX5_trace 38 = .ok (.aload_n 0, 1) := by decide +kernel
theorem d_X5_trace_39 : decode cX5_trace 39 = .ok (.getfield 29, 3) := by decide +kernel
theorem d_X5_trace_42 : decode cX5_trace 42 = .ok (.if_icmp .ge 79, 3) := by decide +kernel
theorem d_X5_trace_45 : decode cX5_trace 45 = .ok (.iconst 0, 1) := by decide +kernel
theorem d_X5_trace_46 : decode cX5_trace 46 = .ok (.istore_n 2, 1) := by decide +kernel
theorem d_X5_trace_47 : decode cX5_trace 47 = .ok (.iload_n 2, 1) := by decide +kernel
theorem d_X5_trace_48 : decode cX5_trace 48 = .ok (.aload_n 0, 1) := by decide +kernel
theorem d_X5_trace_49 : decode cX5_trace 49 = .ok (.getfield 29, 3) := by decide +kernel
theorem d_X5_trace_52 : decode cX5_trace 52 = .ok (.if_icmp .ge 63, 3) := by decide +kernel
theorem d_X5_trace_55 : decode cX5_trace 55 = .ok (.iconst 0, 1) := by decide +kernel
theorem d_X5_trace_56 : decode cX5_trace 56 = .ok (.istore_n 3, 1) := by decide +kernel
theorem d_X5_trace_57 : decode cX5_trace 57 = .ok (.iload_n 3, 1) := by decide +kernel
theorem d_X5_trace_58 : decode cX5_trace 58 = .ok (.aload_n 0, 1) := by decide +kernel
theorem d_X5_trace_59 : decode cX5_trace 59 = .ok (.getfield 29, 3) := by decide +kernel
theorem d_X5_trace_62 : decode cX5_trace 62 = .ok (.if_icmp .ge 47, 3) := by decide +kernel
theorem d_X5_trace_65 : decode cX5_trace 65 = .ok (.aload_n 0, 1) := by decide +kernel
theorem d_X5_trace_66 : decode cX5_trace 66 = .ok (.getfield 23, 3) := by decide +kernel
theorem d_X5_trace_69 : decode cX5_trace 69 = .ok (.iload_n 2, 1) := by decide +kernel
theorem d_X5_trace_70 : decode cX5_trace 70 = .ok (.aaload, 1) := by decide +kernel
theorem d_X5_trace_71 : decode cX5_trace 71 = .ok (.iload_n 3, 1) := by decide +kernel
theorem d_X5_trace_72 : decode cX5_trace 72 = .ok (.aload_n 0, 1) := by decide +kernel
theorem d_X5_trace_73 : decode cX5_trace 73 = .ok (.getfield 23, 3) := by decide +kernel
theorem d_X5_trace_76 : decode cX5_trace 76 = .ok (.iload_n 2, 1) := by decide +kernel
theorem d_X5_trace_77 : decode cX5_trace 77 = .ok (.aaload, 1) := by decide +kernel
theorem d_X5_trace_78 : decode cX5_trace 78 = .ok (.iload_n 3, 1) := by decide +kernel
theorem d_X5_trace_79 : decode cX5_trace 79 = .ok (.iaload, 1) := by decide +kernel
theorem d_X5_trace_80 : decode cX5_trace 80 = .ok (.aload_n 0, 1) := by decide +kernel
theorem d_X5_trace_81 : decode cX5_trace 81 = .ok (.getfield 23, 3) := by decide +kernel
theorem d_X5_trace_84 : decode cX5_trace 84 = .ok (.iload_n 2, 1) := by decide +kernel
theorem d_X5_trace_85 : decode cX5_trace 85 = .ok (.aaload, 1) := by decide +kernel
theorem d_X5_trace_86 : decode cX5_trace 86 = .ok (.iload_n 1, 1) := by decide +kernel
theorem d_X5_trace_87 : decode cX5_trace 87 = .ok (.iaload, 1) := by decide +kernel
theorem d_X5_trace_88 : decode cX5_trace 88 = .ok (.aload_n 0, 1) := by decide +kernel
theorem d_X5_trace_89 : decode cX5_trace 89 = .ok (.getfield 23, 3) := by decide +kernel
theorem d_X5_trace_92 : decode cX5_trace 92 = .ok (.iload_n 1, 1) := by decide +kernel
theorem d_X5_trace_93 : decode cX5_trace 93 = .ok (.aaload, 1) := by decide +kernel
theorem d_X5_trace_94 : decode cX5_trace 94 = .ok (.iload_n 3, 1) := by decide +kernel
theorem d_X5_trace_95 : decode cX5_trace 95 = .ok (.iaload, 1) := by decide +kernel
theorem d_X5_trace_96 : decode cX5_trace 96 = .ok (.invokestatic 73, 3) := by decide +kernel
theorem d_X5_trace_99 : decode cX5_trace 99 = .ok (.invokestatic 52, 3) := by decide +kernel
theorem d_X5_trace_102 : decode cX5_trace 102 = .ok (.iastore, 1) := by decide +kernel
theorem d_X5_trace_103 : decode cX5_trace 103 = .ok (.iinc 3 1, 3) := by decide +kernel
theorem d_X5_trace_106 : decode cX5_trace 106 = .ok (.goto (-49), 3) := by decide +kernel
theorem d_X5_trace_109 : decode cX5_trace 109 = .ok (.iinc 2 1, 3) := by decide +kernel
theorem d_X5_trace_112 : decode cX5_trace 112 = .ok (.goto (-65), 3) := by decide +kernel
theorem d_X5_trace_115 : decode cX5_trace 115 = .ok (.iinc 1 1, 3) := by decide +kernel
theorem d_X5_trace_118 : decode cX5_trace 118 = .ok (.goto (-81), 3) := by decide +kernel
theorem d_X5_trace_121 : decode cX5_trace 121 = .ok (.iconst 0, 1) := by decide +kernel
theorem d_X5_trace_122 : decode cX5_trace 122 = .ok (.istore_n 1, 1) := by decide +kernel
theorem d_X5_trace_123 : decode cX5_trace 123 = .ok (.iload_n 1, 1) := by decide +kernel
theorem d_X5_trace_124 : decode cX5_trace 124 = .ok (.iconst 3, 1) := by decide +kernel
theorem d_X5_trace_125 : decode cX5_trace 125 = .ok (.if_icmp .ge 39, 3) := by decide +kernel
theorem d_X5_trace_128 : decode cX5_trace 128 = .ok (.iconst 0, 1) := by decide +kernel
theorem d_X5_trace_129 : decode cX5_trace 129 = .ok (.istore_n 2, 1) := by decide +kernel
theorem d_X5_trace_130 : decode cX5_trace 130 = .ok (.iload_n 2, 1) := by decide +kernel
theorem d_X5_trace_131 : decode cX5_trace 131 = .ok (.aload_n 0, 1) := by decide +kernel
theorem d_X5_trace_132 : decode cX5_trace 132 = .ok (.getfield 29, 3) := by decide +kernel
theorem d_X5_trace_135 : decode cX5_trace 135 = .ok (.if_icmp .ge 23, 3) := by decide +kernel
theorem d_X5_trace_138 : decode cX5_trace 138 = .ok (.aload_n 0, 1) := by decide +kernel
theorem d_X5_trace_139 : decode cX5_trace 139 = .ok (.getfield 26, 3) := by decide +kernel
theorem d_X5_trace_142 : decode cX5_trace 142 = .ok (.iload_n 1, 1) := by decide +kernel
theorem d_X5_trace_143 : decode cX5_trace 143 = .ok (.aaload, 1) := by decide +kernel
theorem d_X5_trace_144 : decode cX5_trace 144 = .ok (.iload_n 2, 1) := by decide +kernel
theorem d_X5_trace_145 : decode cX5_trace 145 = .ok (.aload_n 0, 1) := by decide +kernel
theorem d_X5_trace_146 : decode cX5_trace 146 = .ok (.iload_n 1, 1) := by decide +kernel
theorem d_X5_trace_147 : decode cX5_trace 147 = .ok (.iload_n 2, 1) := by decide +kernel
theorem d_X5_trace_148 : decode cX5_trace 148 = .ok (.invokevirtual 76, 3) := by decide +kernel
theorem d_X5_trace_151 : decode cX5_trace 151 = .ok (.iastore, 1) := by decide +kernel
theorem d_X5_trace_152 : decode cX5_trace 152 = .ok (.iinc 2 1, 3) := by decide +kernel
theorem d_X5_trace_155 : decode cX5_trace 155 = .ok (.goto (-25), 3) := by decide +kernel
theorem d_X5_trace_158 : decode cX5_trace 158 = .ok (.iinc 1 1, 3) := by decide +kernel
theorem d_X5_trace_161 : decode cX5_trace 161 = .ok (.goto (-38), 3) := by decide +kernel
theorem d_X5_trace_164 : decode cX5_trace 164 = .ok (.return_, 1) := by decide +kernel
theorem b_X5_trace_0 {X : cX} {d : Nat} {μ : mM} {K : Option Value → mM → Prop} {r0 : Nat} (h : G X (Rm (d + 1)) mX5_trace 2 [(0, .ref r0), (1, .int 0)] [] μ 0 0 K) : G X (Rm (d + 1)) mX5_trace 0 [(0, .ref r0)] [] μ 0 0 K := by
  refine G_iconst d_X5_trace_0 ic_0 ?_
  refine G_istore_n (L' := [(1, .int 0), (0, .ref r0)]) d_X5_trace_1 rfl (by decide) rfl ?_
  refine G_sub (L' := [(0, .ref r0), (1, .int 0)]) [1, 0] rfl ?_
  exact h
theorem b_X5_trace_2 {X : cX} {d : Nat} {μ : mM} {K : Option Value → mM → Prop} {r0 : Nat} {i1 : Nat} (w5_r0 : WF5 μ r0) (h : (iv μ r0 0) ≤ (nI i1) → G X (Rm (d + 1)) mX5_trace 37 [(0, .ref r0), (1, .int 0)] [] μ 0 0 K) (hb : ¬ (iv μ r0 0) ≤ (nI i1) → i1 < 6) (h_2 : ¬ (iv μ r0 0) ≤ (nI i1) → G X (Rm (d + 1)) mX5_trace 2 [(0, .ref r0), (1, .int (nI (i1 + 1)))] [] (cpI μ (r0 + 7 + i1) 0 (r0 + 14 + i1) 0 6) 0 0 K) : G X (Rm (d + 1)) mX5_trace 2 [(0, .ref r0), (1, .int (nI i1))] [] μ 0 0 K := by
  refine G_iload_n d_X5_trace_2 rfl 1 rfl ?_
  refine G_aload_n d_X5_trace_3 rfl 0 rfl ?_
  refine G_getI 5 0 (w5_kd w5_r0) cok5 (by decide) rfl fl_X5_29 d_X5_trace_4 ?_
  refine G_icmp_ge (tgt := 35) d_X5_trace_7 rfl (fun c0 => ?_) (fun c0 => ?_)
  ·
    refine G_iconst d_X5_trace_35 ic_0 ?_
    refine G_istore_n (L' := [(1, .int 0), (0, .ref r0)]) d_X5_trace_36 rfl (by decide) rfl ?_
    refine G_sub (L' := [(0, .ref r0), (1, .int 0)]) [1, 0] rfl ?_
    exact (h c0)
  ·
    refine G_aload_n d_X5_trace_10 rfl 0 rfl ?_
    refine G_getR (r := r0 + 6) 5 3 (w5_kd w5_r0) (w5_f3 w5_r0) cok5 (by decide) rfl fl_X5_20 d_X5_trace_11 ?_
    refine G_iload_n d_X5_trace_14 rfl 1 rfl ?_
    refine G_aaldA (r := r0 + 7 + i1) i1 (w5_k3 w5_r0) rfl (hb c0) (w5_r3 w5_r0 i1 (hb c0)) d_X5_trace_15 ?_
    refine G_iconst d_X5_trace_16 ic_0 ?_
    refine G_aload_n d_X5_trace_17 rfl 0 rfl ?_
    refine G_getR (r := r0 + 13) 5 4 (w5_kd w5_r0) (w5_f4 w5_r0) cok5 (by decide) rfl fl_X5_23 d_X5_trace_18 ?_
    refine G_iload_n d_X5_trace_21 rfl 1 rfl ?_
    refine G_aaldA (r := r0 + 14 + i1) i1 (w5_k4 w5_r0) rfl (hb c0) (w5_r4 w5_r0 i1 (hb c0)) d_X5_trace_22 ?_
    refine G_iconst d_X5_trace_23 ic_0 ?_
    refine G_bipush d_X5_trace_24 bp_6 ?_
    refine G_copy (sp := 0) (dp := 0) (n := 6) (w5_q3 w5_r0 i1 (hb c0)) (w5_q4 w5_r0 i1 (hb c0)) rfl rfl rfl (by decide) (by decide) ml_X5_39 rb_Rm (Nat.le_of_ble_eq_true rfl) d_X5_trace_26 ?_
    refine G_iinc (L' := [(1, .int (nI (i1 + 1))), (0, .ref r0)]) d_X5_trace_29 1 rfl (inc1 i1) (by decide) rfl ?_
    refine G_goto (tgt := 2) d_X5_trace_32 rfl ?_
    refine G_sub (L' := [(0, .ref r0), (1, .int (nI (i1 + 1)))]) [1, 0] rfl ?_
    exact (h_2 c0)
theorem b_X5_trace_37 {X : cX} {d : Nat} {μ : mM} {K : Option Value → mM → Prop} {r0 : Nat} {l1 : Int32} (w5_r0 : WF5 μ r0) (h : (iv μ r0 0) ≤ l1 → G X (Rm (d + 1)) mX5_trace 123 [(0, .ref r0), (1, .int 0)] [] μ 0 0 K) (h_2 : ¬ (iv μ r0 0) ≤ l1 → G X (Rm (d + 1)) mX5_trace 47 [(0, .ref r0), (1, .int l1), (2, .int 0)] [] μ 0 0 K) : G X (Rm (d + 1)) mX5_trace 37 [(0, .ref r0), (1, .int l1)] [] μ 0 0 K := by
  refine G_iload_n d_X5_trace_37 rfl 1 rfl ?_
  refine G_aload_n d_X5_trace_38 rfl 0 rfl ?_
  refine G_getI 5 0 (w5_kd w5_r0) cok5 (by decide) rfl fl_X5_29 d_X5_trace_39 ?_
  refine G_icmp_ge (tgt := 121) d_X5_trace_42 rfl (fun c0 => ?_) (fun c0 => ?_)
  ·
    refine G_iconst d_X5_trace_121 ic_0 ?_
    refine G_istore_n (L' := [(1, .int 0), (0, .ref r0)]) d_X5_trace_122 rfl (by decide) rfl ?_
    refine G_sub (L' := [(0, .ref r0), (1, .int 0)]) [1, 0] rfl ?_
    exact (h c0)
  ·
    refine G_iconst d_X5_trace_45 ic_0 ?_
    refine G_istore_n (L' := [(2, .int 0), (0, .ref r0), (1, .int l1)]) d_X5_trace_46 rfl (by decide) rfl ?_
    refine G_sub (L' := [(0, .ref r0), (1, .int l1), (2, .int 0)]) [1, 2, 0] rfl ?_
    exact (h_2 c0)
theorem b_X5_trace_47 {X : cX} {d : Nat} {μ : mM} {K : Option Value → mM → Prop} {r0 : Nat} {i1 : Nat} {l2 : Int32} (w5_r0 : WF5 μ r0) (h : (iv μ r0 0) ≤ l2 → G X (Rm (d + 1)) mX5_trace 37 [(0, .ref r0), (1, .int (nI (i1 + 1)))] [] μ 0 0 K) (h_2 : ¬ (iv μ r0 0) ≤ l2 → G X (Rm (d + 1)) mX5_trace 57 [(0, .ref r0), (1, .int (nI i1)), (2, .int l2), (3, .int 0)] [] μ 0 0 K) : G X (Rm (d + 1)) mX5_trace 47 [(0, .ref r0), (1, .int (nI i1)), (2, .int l2)] [] μ 0 0 K := by
  refine G_iload_n d_X5_trace_47 rfl 2 rfl ?_
  refine G_aload_n d_X5_trace_48 rfl 0 rfl ?_
  refine G_getI 5 0 (w5_kd w5_r0) cok5 (by decide) rfl fl_X5_29 d_X5_trace_49 ?_
  refine G_icmp_ge (tgt := 115) d_X5_trace_52 rfl (fun c0 => ?_) (fun c0 => ?_)
  ·
    refine G_iinc (L' := [(1, .int (nI (i1 + 1))), (0, .ref r0), (2, .int l2)]) d_X5_trace_115 1 rfl (inc1 i1) (by decide) rfl ?_
    refine G_goto (tgt := 37) d_X5_trace_118 rfl ?_
    refine G_sub (L' := [(0, .ref r0), (1, .int (nI (i1 + 1)))]) [1, 0] rfl ?_
    exact (h c0)
  ·
    refine G_iconst d_X5_trace_55 ic_0 ?_
    refine G_istore_n (L' := [(3, .int 0), (0, .ref r0), (1, .int (nI i1)), (2, .int l2)]) d_X5_trace_56 rfl (by decide) rfl ?_
    refine G_sub (L' := [(0, .ref r0), (1, .int (nI i1)), (2, .int l2), (3, .int 0)]) [1, 2, 3, 0] rfl ?_
    exact (h_2 c0)
theorem b_X5_trace_57 {X : cX} {d : Nat} {μ : mM} {K : Option Value → mM → Prop} {r0 : Nat} {i1 : Nat} {i2 : Nat} {i3 : Nat} (w5_r0 : WF5 μ r0) (h : (iv μ r0 0) ≤ (nI i3) → G X (Rm (d + 1)) mX5_trace 47 [(0, .ref r0), (1, .int (nI i1)), (2, .int (nI (i2 + 1)))] [] μ 0 0 K) (hb : ¬ (iv μ r0 0) ≤ (nI i3) → i2 < 6) (hb_2 : ¬ (iv μ r0 0) ≤ (nI i3) → i3 < 6) (hb_3 : ¬ (iv μ r0 0) ≤ (nI i3) → i1 < 6) (h_2 : ¬ (iv μ r0 0) ≤ (nI i3) → G X (Rm (d + 1)) mX5_trace 57 [(0, .ref r0), (1, .int (nI i1)), (2, .int (nI i2)), (3, .int (nI (i3 + 1)))] [] (wi μ (r0 + 14 + i2) i3 (if iv μ (r0 + 14 + i2) i3 < (if iv μ (r0 + 14 + i1) i3 < iv μ (r0 + 14 + i2) i1 then iv μ (r0 + 14 + i1) i3 else iv μ (r0 + 14 + i2) i1) then (if iv μ (r0 + 14 + i1) i3 < iv μ (r0 + 14 + i2) i1 then iv μ (r0 + 14 + i1) i3 else iv μ (r0 + 14 + i2) i1) else iv μ (r0 + 14 + i2) i3)) 0 0 K) : G X (Rm (d + 1)) mX5_trace 57 [(0, .ref r0), (1, .int (nI i1)), (2, .int (nI i2)), (3, .int (nI i3))] [] μ 0 0 K := by
  refine G_iload_n d_X5_trace_57 rfl 3 rfl ?_
  refine G_aload_n d_X5_trace_58 rfl 0 rfl ?_
  refine G_getI 5 0 (w5_kd w5_r0) cok5 (by decide) rfl fl_X5_29 d_X5_trace_59 ?_
  refine G_icmp_ge (tgt := 109) d_X5_trace_62 rfl (fun c0 => ?_) (fun c0 => ?_)
  ·
    refine G_iinc (L' := [(2, .int (nI (i2 + 1))), (0, .ref r0), (1, .int (nI i1)), (3, .int (nI i3))]) d_X5_trace_109 2 rfl (inc1 i2) (by decide) rfl ?_
    refine G_goto (tgt := 47) d_X5_trace_112 rfl ?_
    refine G_sub (L' := [(0, .ref r0), (1, .int (nI i1)), (2, .int (nI (i2 + 1)))]) [1, 2, 0] rfl ?_
    exact (h c0)
  ·
    refine G_aload_n d_X5_trace_65 rfl 0 rfl ?_
    refine G_getR (r := r0 + 13) 5 4 (w5_kd w5_r0) (w5_f4 w5_r0) cok5 (by decide) rfl fl_X5_23 d_X5_trace_66 ?_
    refine G_iload_n d_X5_trace_69 rfl 2 rfl ?_
    refine G_aaldA (r := r0 + 14 + i2) i2 (w5_k4 w5_r0) rfl (hb c0) (w5_r4 w5_r0 i2 (hb c0)) d_X5_trace_70 ?_
    refine G_iload_n d_X5_trace_71 rfl 3 rfl ?_
    refine G_aload_n d_X5_trace_72 rfl 0 rfl ?_
    refine G_getR (r := r0 + 13) 5 4 (w5_kd w5_r0) (w5_f4 w5_r0) cok5 (by decide) rfl fl_X5_23 d_X5_trace_73 ?_
    refine G_iload_n d_X5_trace_76 rfl 2 rfl ?_
    refine G_aaldA (r := r0 + 14 + i2) i2 (w5_k4 w5_r0) rfl (hb c0) (w5_r4 w5_r0 i2 (hb c0)) d_X5_trace_77 ?_
    refine G_iload_n d_X5_trace_78 rfl 3 rfl ?_
    refine G_iald i3 (w5_q4 w5_r0 i2 (hb c0)) rfl (hb_2 c0) d_X5_trace_79 ?_
    refine G_aload_n d_X5_trace_80 rfl 0 rfl ?_
    refine G_getR (r := r0 + 13) 5 4 (w5_kd w5_r0) (w5_f4 w5_r0) cok5 (by decide) rfl fl_X5_23 d_X5_trace_81 ?_
    refine G_iload_n d_X5_trace_84 rfl 2 rfl ?_
    refine G_aaldA (r := r0 + 14 + i2) i2 (w5_k4 w5_r0) rfl (hb c0) (w5_r4 w5_r0 i2 (hb c0)) d_X5_trace_85 ?_
    refine G_iload_n d_X5_trace_86 rfl 1 rfl ?_
    refine G_iald i1 (w5_q4 w5_r0 i2 (hb c0)) rfl (hb_3 c0) d_X5_trace_87 ?_
    refine G_aload_n d_X5_trace_88 rfl 0 rfl ?_
    refine G_getR (r := r0 + 13) 5 4 (w5_kd w5_r0) (w5_f4 w5_r0) cok5 (by decide) rfl fl_X5_23 d_X5_trace_89 ?_
    refine G_iload_n d_X5_trace_92 rfl 1 rfl ?_
    refine G_aaldA (r := r0 + 14 + i1) i1 (w5_k4 w5_r0) rfl (hb_3 c0) (w5_r4 w5_r0 i1 (hb_3 c0)) d_X5_trace_93 ?_
    refine G_iload_n d_X5_trace_94 rfl 3 rfl ?_
    refine G_iald i3 (w5_q4 w5_r0 i1 (hb_3 c0)) rfl (hb_2 c0) d_X5_trace_95 ?_
    refine G_min ml_X5_73 rb_Rm (Nat.le_of_ble_eq_true rfl) d_X5_trace_96 ?_
    refine G_max ml_X5_52 rb_Rm (Nat.le_of_ble_eq_true rfl) d_X5_trace_99 ?_
    refine G_iast i3 (w5_q4 w5_r0 i2 (hb c0)) rfl (hb_2 c0) d_X5_trace_102 ?_
    refine G_iinc (L' := [(3, .int (nI (i3 + 1))), (0, .ref r0), (1, .int (nI i1)), (2, .int (nI i2))]) d_X5_trace_103 3 rfl (inc1 i3) (by decide) rfl ?_
    refine G_goto (tgt := 57) d_X5_trace_106 rfl ?_
    refine G_sub (L' := [(0, .ref r0), (1, .int (nI i1)), (2, .int (nI i2)), (3, .int (nI (i3 + 1)))]) [1, 2, 3, 0] rfl ?_
    exact (h_2 c0)
theorem b_X5_trace_123 {X : cX} {d : Nat} {μ : mM} {K : Option Value → mM → Prop} {r0 : Nat} {l1 : Int32} (hK : (3 : Int32) ≤ l1 → K none μ) (h : ¬ (3 : Int32) ≤ l1 → G X (Rm (d + 1)) mX5_trace 130 [(0, .ref r0), (1, .int l1), (2, .int 0)] [] μ 0 0 K) : G X (Rm (d + 1)) mX5_trace 123 [(0, .ref r0), (1, .int l1)] [] μ 0 0 K := by
  refine G_iload_n d_X5_trace_123 rfl 1 rfl ?_
  refine G_iconst d_X5_trace_124 ic_3 ?_
  refine G_icmp_ge (tgt := 164) d_X5_trace_125 rfl (fun c0 => ?_) (fun c0 => ?_)
  ·
    exact G_vret rfl rfl rfl d_X5_trace_164 (hK c0)
  ·
    refine G_iconst d_X5_trace_128 ic_0 ?_
    refine G_istore_n (L' := [(2, .int 0), (0, .ref r0), (1, .int l1)]) d_X5_trace_129 rfl (by decide) rfl ?_
    refine G_sub (L' := [(0, .ref r0), (1, .int l1), (2, .int 0)]) [1, 2, 0] rfl ?_
    exact (h c0)
theorem b_X5_trace_130 {X : cX} {d : Nat} {μ : mM} {K : Option Value → mM → Prop} {r0 : Nat} {i1 : Nat} {l2 : Int32} (w5_r0 : WF5 μ r0) (h : (iv μ r0 0) ≤ l2 → G X (Rm (d + 1)) mX5_trace 123 [(0, .ref r0), (1, .int (nI (i1 + 1)))] [] μ 0 0 K) (hb : ¬ (iv μ r0 0) ≤ l2 → i1 < 3) (hc_reaching : ¬ (iv μ r0 0) ≤ l2 → Ct X (Rm d) mX5_reaching [.ref r0, .int (nI i1), .int l2] μ (fun r μ2 => G X (Rm (d + 1)) mX5_trace 151 [(0, .ref r0), (1, .int (nI i1)), (2, .int l2)] (r.toList ++ [.int l2, .ref (r0 + 21 + i1)]) μ2 0 0 K)) : G X (Rm (d + 1)) mX5_trace 130 [(0, .ref r0), (1, .int (nI i1)), (2, .int l2)] [] μ 0 0 K := by
  refine G_iload_n d_X5_trace_130 rfl 2 rfl ?_
  refine G_aload_n d_X5_trace_131 rfl 0 rfl ?_
  refine G_getI 5 0 (w5_kd w5_r0) cok5 (by decide) rfl fl_X5_29 d_X5_trace_132 ?_
  refine G_icmp_ge (tgt := 158) d_X5_trace_135 rfl (fun c0 => ?_) (fun c0 => ?_)
  ·
    refine G_iinc (L' := [(1, .int (nI (i1 + 1))), (0, .ref r0), (2, .int l2)]) d_X5_trace_158 1 rfl (inc1 i1) (by decide) rfl ?_
    refine G_goto (tgt := 123) d_X5_trace_161 rfl ?_
    refine G_sub (L' := [(0, .ref r0), (1, .int (nI (i1 + 1)))]) [1, 0] rfl ?_
    exact (h c0)
  ·
    refine G_aload_n d_X5_trace_138 rfl 0 rfl ?_
    refine G_getR (r := r0 + 20) 5 5 (w5_kd w5_r0) (w5_f5 w5_r0) cok5 (by decide) rfl fl_X5_26 d_X5_trace_139 ?_
    refine G_iload_n d_X5_trace_142 rfl 1 rfl ?_
    refine G_aaldA (r := r0 + 21 + i1) i1 (w5_k5 w5_r0) rfl (hb c0) (w5_r5 w5_r0 i1 (hb c0)) d_X5_trace_143 ?_
    refine G_iload_n d_X5_trace_144 rfl 2 rfl ?_
    refine G_aload_n d_X5_trace_145 rfl 0 rfl ?_
    refine G_iload_n d_X5_trace_146 rfl 1 rfl ?_
    refine G_iload_n d_X5_trace_147 rfl 2 rfl ?_
    refine G_callV (M' := mX5_reaching) (R' := (Rm d)) (S := [.int l2, .ref (r0 + 21 + i1)]) [.int (nI i1), .int l2] 5 (w5_kd w5_r0) cok5 rfl ok_X5_reaching ml_X5_76 pn_X5_reaching (ru_Rm (by decide)) (Nat.le_of_ble_eq_true rfl) d_X5_trace_148 ?_
    exact (hc_reaching c0)
theorem b_X5_trace_151 {X : cX} {d : Nat} {μ : mM} {K : Option Value → mM → Prop} {r0 : Nat} {l1 : Int32} {i2 : Nat} {q0 : Nat} {v1 : Int32} {v2 : Int32} {n0 : Nat} {j0 : Nat} (hk_q0 : kd μ q0 = (1, n0)) (hi_j0 : v1 = nI j0) (hb : j0 < n0) (h : G X (Rm (d + 1)) mX5_trace 130 [(0, .ref r0), (1, .int l1), (2, .int (nI (i2 + 1)))] [] (wi μ q0 j0 v2) 0 0 K) : G X (Rm (d + 1)) mX5_trace 151 [(0, .ref r0), (1, .int l1), (2, .int (nI i2))] [.int v2, .int v1, .ref q0] μ 0 0 K := by
  refine G_iast j0 hk_q0 hi_j0 hb d_X5_trace_151 ?_
  refine G_iinc (L' := [(2, .int (nI (i2 + 1))), (0, .ref r0), (1, .int l1)]) d_X5_trace_152 2 rfl (inc1 i2) (by decide) rfl ?_
  refine G_goto (tgt := 130) d_X5_trace_155 rfl ?_
  refine G_sub (L' := [(0, .ref r0), (1, .int l1), (2, .int (nI (i2 + 1)))]) [1, 2, 0] rfl ?_
  exact h
theorem d_X5_reaching_0 : decode cX5_reaching 0 = .ok (.iconst 0, 1) := by decide +kernel
theorem d_X5_reaching_1 : decode cX5_reaching 1 = .ok (.istore_n 3, 1) := by decide +kernel
theorem d_X5_reaching_2 : decode cX5_reaching 2 = .ok (.iconst 0, 1) := by decide +kernel
theorem d_X5_reaching_3 : decode cX5_reaching 3 = .ok (.istore 4, 2) := by decide +kernel
theorem d_X5_reaching_5 : decode cX5_reaching 5 = .ok (.iload 4, 2) := by decide +kernel
theorem d_X5_reaching_7 : decode cX5_reaching 7 = .ok (.aload_n 0, 1) := by decide +kernel
theorem d_X5_reaching_8 : decode cX5_reaching 8 = .ok (.getfield 29, 3) := by decide +kernel
theorem d_X5_reaching_11 : decode cX5_reaching 11 = .ok (.if_icmp .ge 49, 3) := by decide +kernel
theorem d_X5_reaching_14 : decode cX5_reaching 14 = .ok (.aload_n 0, 1) := by decide +kernel
theorem d_X5_reaching_15 : decode cX5_reaching 15 = .ok (.iload 4, 2) := by decide +kernel
theorem d_X5_reaching_17 : decode cX5_reaching 17 = .ok (.iload_n 2, 1) := by decide +kernel
theorem d_X5_reaching_18 : decode cX5_reaching 18 = .ok (.invokevirtual 79, 3) := by decide +kernel
theorem d_X5_reaching_21 : decode cX5_reaching 21 = .ok (.aload_n 0, 1) := by decide +kernel
theorem d_X5_reaching_22 : decode cX5_reaching 22 = .ok (.getfield 23, 3) := by decide +kernel
theorem d_X5_reaching_25 : decode cX5_reaching 25 = .ok (.iload 4, 2) := by decide +kernel
theorem d_X5_reaching_27 : decode cX5_reaching 27 = .ok (.aaload, 1) := by decide +kernel
theorem d_X5_reaching_28 : decode cX5_reaching 28 = .ok (.iload_n 2, 1) := by decide +kernel
theorem d_X5_reaching_29 : decode cX5_reaching 29 = .ok (.iaload, 1) := by decide +kernel
theorem d_X5_reaching_30 : decode cX5_reaching 30 = .ok (.invokestatic 52, 3) := by decide +kernel
theorem d_X5_reaching_33 : decode cX5_reaching 33 = .ok (.istore 5, 2) := by decide +kernel
theorem d_X5_reaching_35 : decode cX5_reaching 35 = .ok (.iload_n 3, 1) := by decide +kernel
theorem d_X5_reaching_36 : decode cX5_reaching 36 = .ok (.aload_n 0, 1) := by decide +kernel
theorem d_X5_reaching_37 : decode cX5_reaching 37 = .ok (.getfield 17, 3) := by decide +kernel
theorem d_X5_reaching_40 : decode cX5_reaching 40 = .ok (.iload_n 1, 1) := by decide +kernel
theorem d_X5_reaching_41 : decode cX5_reaching 41 = .ok (.aaload, 1) := by decide +kernel
theorem d_X5_reaching_42 : decode cX5_reaching 42 = .ok (.iload 4, 2) := by decide +kernel
theorem d_X5_reaching_44 : decode cX5_reaching 44 = .ok (.iaload, 1) := by decide +kernel
theorem d_X5_reaching_45 : decode cX5_reaching 45 = .ok (.iload 5, 2) := by decide +kernel
theorem d_X5_reaching_47 : decode cX5_reaching 47 = .ok (.invokestatic 73, 3) := by decide +kernel
theorem d_X5_reaching_50 : decode cX5_reaching 50 = .ok (.invokestatic 52, 3) := by decide +kernel
theorem d_X5_reaching_53 : decode cX5_reaching 53 = .ok (.istore_n 3, 1) := by decide +kernel
theorem d_X5_reaching_54 : decode cX5_reaching 54 = .ok (.iinc 4 1, 3) := by decide +kernel
theorem d_X5_reaching_57 : decode cX5_reaching 57 = .ok (.goto (-52), 3) := by decide +kernel
theorem d_X5_reaching_60 : decode cX5_reaching 60 = .ok (.iload_n 3, 1) := by decide +kernel
theorem d_X5_reaching_61 : decode cX5_reaching 61 = .ok (.ireturn, 1) := by decide +kernel
theorem b_X5_reaching_0 {X : cX} {d : Nat} {μ : mM} {K : Option Value → mM → Prop} {r0 : Nat} {l1 : Int32} {l2 : Int32} (h : G X (Rm (d + 1)) mX5_reaching 5 [(0, .ref r0), (1, .int l1), (2, .int l2), (3, .int 0), (4, .int 0)] [] μ 0 0 K) : G X (Rm (d + 1)) mX5_reaching 0 [(0, .ref r0), (1, .int l1), (2, .int l2)] [] μ 0 0 K := by
  refine G_iconst d_X5_reaching_0 ic_0 ?_
  refine G_istore_n (L' := [(3, .int 0), (0, .ref r0), (1, .int l1), (2, .int l2)]) d_X5_reaching_1 rfl (by decide) rfl ?_
  refine G_iconst d_X5_reaching_2 ic_0 ?_
  refine G_istore (L' := [(4, .int 0), (3, .int 0), (0, .ref r0), (1, .int l1), (2, .int l2)]) d_X5_reaching_3 (by decide) rfl ?_
  refine G_sub (L' := [(0, .ref r0), (1, .int l1), (2, .int l2), (3, .int 0), (4, .int 0)]) [2, 3, 4, 1, 0] rfl ?_
  exact h
theorem b_X5_reaching_5 {X : cX} {d : Nat} {μ : mM} {K : Option Value → mM → Prop} {r0 : Nat} {l1 : Int32} {l2 : Int32} {l3 : Int32} {l4 : Int32} (w5_r0 : WF5 μ r0) (hK : (iv μ r0 0) ≤ l4 → K (some (.int l3)) μ) (hc_sameness : ¬ (iv μ r0 0) ≤ l4 → Ct X (Rm d) mX5_sameness [.ref r0, .int l4, .int l2] μ (fun r μ2 => G X (Rm (d + 1)) mX5_reaching 21 [(0, .ref r0), (1, .int l1), (2, .int l2), (3, .int l3), (4, .int l4)] (r.toList ++ []) μ2 0 0 K)) : G X (Rm (d + 1)) mX5_reaching 5 [(0, .ref r0), (1, .int l1), (2, .int l2), (3, .int l3), (4, .int l4)] [] μ 0 0 K := by
  refine G_iload d_X5_reaching_5 4 rfl ?_
  refine G_aload_n d_X5_reaching_7 rfl 0 rfl ?_
  refine G_getI 5 0 (w5_kd w5_r0) cok5 (by decide) rfl fl_X5_29 d_X5_reaching_8 ?_
  refine G_icmp_ge (tgt := 60) d_X5_reaching_11 rfl (fun c0 => ?_) (fun c0 => ?_)
  ·
    refine G_iload_n d_X5_reaching_60 rfl 3 rfl ?_
    exact G_iret rfl rfl rfl d_X5_reaching_61 (hK c0)
  ·
    refine G_aload_n d_X5_reaching_14 rfl 0 rfl ?_
    refine G_iload d_X5_reaching_15 4 rfl ?_
    refine G_iload_n d_X5_reaching_17 rfl 2 rfl ?_
    refine G_callV (M' := mX5_sameness) (R' := (Rm d)) (S := []) [.int l4, .int l2] 5 (w5_kd w5_r0) cok5 rfl ok_X5_sameness ml_X5_79 pn_X5_sameness (ru_Rm (by decide)) (Nat.le_of_ble_eq_true rfl) d_X5_reaching_18 ?_
    exact (hc_sameness c0)
theorem b_X5_reaching_21 {X : cX} {d : Nat} {μ : mM} {K : Option Value → mM → Prop} {r0 : Nat} {i1 : Nat} {i2 : Nat} {l3 : Int32} {i4 : Nat} {v0 : Int32} (w5_r0 : WF5 μ r0) (hb : i4 < 6) (hb_2 : i2 < 6) (hb_3 : i1 < 3) (h : G X (Rm (d + 1)) mX5_reaching 5 [(0, .ref r0), (1, .int (nI i1)), (2, .int (nI i2)), (3, .int (if l3 < (if (if v0 < iv μ (r0 + 14 + i4) i2 then iv μ (r0 + 14 + i4) i2 else v0) < iv μ (r0 + 3 + i1) i4 then (if v0 < iv μ (r0 + 14 + i4) i2 then iv μ (r0 + 14 + i4) i2 else v0) else iv μ (r0 + 3 + i1) i4) then (if (if v0 < iv μ (r0 + 14 + i4) i2 then iv μ (r0 + 14 + i4) i2 else v0) < iv μ (r0 + 3 + i1) i4 then (if v0 < iv μ (r0 + 14 + i4) i2 then iv μ (r0 + 14 + i4) i2 else v0) else iv μ (r0 + 3 + i1) i4) else l3)), (4, .int (nI (i4 + 1)))] [] μ 0 0 K) : G X (Rm (d + 1)) mX5_reaching 21 [(0, .ref r0), (1, .int (nI i1)), (2, .int (nI i2)), (3, .int l3), (4, .int (nI i4))] [.int v0] μ 0 0 K := by
  refine G_aload_n d_X5_reaching_21 rfl 0 rfl ?_
  refine G_getR (r := r0 + 13) 5 4 (w5_kd w5_r0) (w5_f4 w5_r0) cok5 (by decide) rfl fl_X5_23 d_X5_reaching_22 ?_
  refine G_iload d_X5_reaching_25 4 rfl ?_
  refine G_aaldA (r := r0 + 14 + i4) i4 (w5_k4 w5_r0) rfl hb (w5_r4 w5_r0 i4 hb) d_X5_reaching_27 ?_
  refine G_iload_n d_X5_reaching_28 rfl 2 rfl ?_
  refine G_iald i2 (w5_q4 w5_r0 i4 hb) rfl hb_2 d_X5_reaching_29 ?_
  refine G_max ml_X5_52 rb_Rm (Nat.le_of_ble_eq_true rfl) d_X5_reaching_30 ?_
  refine G_istore (L' := [(5, .int (if v0 < iv μ (r0 + 14 + i4) i2 then iv μ (r0 + 14 + i4) i2 else v0)), (0, .ref r0), (1, .int (nI i1)), (2, .int (nI i2)), (3, .int l3), (4, .int (nI i4))]) d_X5_reaching_33 (by decide) rfl ?_
  refine G_iload_n d_X5_reaching_35 rfl 4 rfl ?_
  refine G_aload_n d_X5_reaching_36 rfl 1 rfl ?_
  refine G_getR (r := r0 + 2) 5 2 (w5_kd w5_r0) (w5_f2 w5_r0) cok5 (by decide) rfl fl_X5_17 d_X5_reaching_37 ?_
  refine G_iload_n d_X5_reaching_40 rfl 2 rfl ?_
  refine G_aaldA (r := r0 + 3 + i1) i1 (w5_k2 w5_r0) rfl hb_3 (w5_r2 w5_r0 i1 hb_3) d_X5_reaching_41 ?_
  refine G_iload d_X5_reaching_42 5 rfl ?_
  refine G_iald i4 (w5_q2 w5_r0 i1 hb_3) rfl hb d_X5_reaching_44 ?_
  refine G_iload d_X5_reaching_45 0 rfl ?_
  refine G_min ml_X5_73 rb_Rm (Nat.le_of_ble_eq_true rfl) d_X5_reaching_47 ?_
  refine G_max ml_X5_52 rb_Rm (Nat.le_of_ble_eq_true rfl) d_X5_reaching_50 ?_
  refine G_istore_n (L' := [(3, .int (if l3 < (if (if v0 < iv μ (r0 + 14 + i4) i2 then iv μ (r0 + 14 + i4) i2 else v0) < iv μ (r0 + 3 + i1) i4 then (if v0 < iv μ (r0 + 14 + i4) i2 then iv μ (r0 + 14 + i4) i2 else v0) else iv μ (r0 + 3 + i1) i4) then (if (if v0 < iv μ (r0 + 14 + i4) i2 then iv μ (r0 + 14 + i4) i2 else v0) < iv μ (r0 + 3 + i1) i4 then (if v0 < iv μ (r0 + 14 + i4) i2 then iv μ (r0 + 14 + i4) i2 else v0) else iv μ (r0 + 3 + i1) i4) else l3)), (5, .int (if v0 < iv μ (r0 + 14 + i4) i2 then iv μ (r0 + 14 + i4) i2 else v0)), (0, .ref r0), (1, .int (nI i1)), (2, .int (nI i2)), (4, .int (nI i4))]) d_X5_reaching_53 rfl (by decide) rfl ?_
  refine G_iinc (L' := [(4, .int (nI (i4 + 1))), (3, .int (if l3 < (if (if v0 < iv μ (r0 + 14 + i4) i2 then iv μ (r0 + 14 + i4) i2 else v0) < iv μ (r0 + 3 + i1) i4 then (if v0 < iv μ (r0 + 14 + i4) i2 then iv μ (r0 + 14 + i4) i2 else v0) else iv μ (r0 + 3 + i1) i4) then (if (if v0 < iv μ (r0 + 14 + i4) i2 then iv μ (r0 + 14 + i4) i2 else v0) < iv μ (r0 + 3 + i1) i4 then (if v0 < iv μ (r0 + 14 + i4) i2 then iv μ (r0 + 14 + i4) i2 else v0) else iv μ (r0 + 3 + i1) i4) else l3)), (5, .int (if v0 < iv μ (r0 + 14 + i4) i2 then iv μ (r0 + 14 + i4) i2 else v0)), (0, .ref r0), (1, .int (nI i1)), (2, .int (nI i2))]) d_X5_reaching_54 5 rfl (inc1 i4) (by decide) rfl ?_
  refine G_goto (tgt := 5) d_X5_reaching_57 rfl ?_
  refine G_sub (L' := [(0, .ref r0), (1, .int (nI i1)), (2, .int (nI i2)), (3, .int (if l3 < (if (if v0 < iv μ (r0 + 14 + i4) i2 then iv μ (r0 + 14 + i4) i2 else v0) < iv μ (r0 + 3 + i1) i4 then (if v0 < iv μ (r0 + 14 + i4) i2 then iv μ (r0 + 14 + i4) i2 else v0) else iv μ (r0 + 3 + i1) i4) then (if (if v0 < iv μ (r0 + 14 + i4) i2 then iv μ (r0 + 14 + i4) i2 else v0) < iv μ (r0 + 3 + i1) i4 then (if v0 < iv μ (r0 + 14 + i4) i2 then iv μ (r0 + 14 + i4) i2 else v0) else iv μ (r0 + 3 + i1) i4) else l3)), (4, .int (nI (i4 + 1)))]) [3, 4, 5, 1, 0] rfl ?_
  exact h
theorem d_J7_fill_53178_0 : decode cJ7_fill_53178 0 = .ok (.iconst 0, 1) := by decide +kernel
theorem d_J7_fill_53178_1 : decode cJ7_fill_53178 1 = .ok (.istore_n 2, 1) := by decide +kernel
theorem d_J7_fill_53178_2 : decode cJ7_fill_53178 2 = .ok (.aload_n 0, 1) := by decide +kernel
theorem d_J7_fill_53178_3 : decode cJ7_fill_53178 3 = .ok (.arraylength, 1) := by decide +kernel
theorem d_J7_fill_53178_4 : decode cJ7_fill_53178 4 = .ok (.istore_n 3, 1) := by decide +kernel
theorem d_J7_fill_53178_5 : decode cJ7_fill_53178 5 = .ok (.iload_n 2, 1) := by decide +kernel
theorem d_J7_fill_53178_6 : decode cJ7_fill_53178 6 = .ok (.iload_n 3, 1) := by decide +kernel
theorem d_J7_fill_53178_7 : decode cJ7_fill_53178 7 = .ok (.if_icmp .ge 13, 3) := by decide +kernel
theorem d_J7_fill_53178_10 : decode cJ7_fill_53178 10 = .ok (.aload_n 0, 1) := by decide +kernel
theorem d_J7_fill_53178_11 : decode cJ7_fill_53178 11 = .ok (.iload_n 2, 1) := by decide +kernel
theorem d_J7_fill_53178_12 : decode cJ7_fill_53178 12 = .ok (.iload_n 1, 1) := by decide +kernel
theorem d_J7_fill_53178_13 : decode cJ7_fill_53178 13 = .ok (.iastore, 1) := by decide +kernel
theorem d_J7_fill_53178_14 : decode cJ7_fill_53178 14 = .ok (.iinc 2 1, 3) := by decide +kernel
theorem d_J7_fill_53178_17 : decode cJ7_fill_53178 17 = .ok (.goto (-12), 3) := by decide +kernel
theorem d_J7_fill_53178_20 : decode cJ7_fill_53178 20 = .ok (.return_, 1) := by decide +kernel
theorem b_J7_fill_53178_0 {X : cX} {d : Nat} {μ : mM} {K : Option Value → mM → Prop} {r0 : Nat} {l1 : Int32} {n0 : Nat} (hk_r0 : kd μ r0 = (1, n0)) (h : G X (Rm d) mJ7_fill_53178 5 [(0, .ref r0), (1, .int l1), (2, .int 0), (3, .int (nI n0))] [] μ 0 0 K) : G X (Rm d) mJ7_fill_53178 0 [(0, .ref r0), (1, .int l1)] [] μ 0 0 K := by
  refine G_iconst d_J7_fill_53178_0 ic_0 ?_
  refine G_istore_n (L' := [(2, .int 0), (0, .ref r0), (1, .int l1)]) d_J7_fill_53178_1 rfl (by decide) rfl ?_
  refine G_aload_n d_J7_fill_53178_2 rfl 1 rfl ?_
  refine G_alen hk_r0 (by decide) (by decide) d_J7_fill_53178_3 ?_
  refine G_istore_n (L' := [(3, .int (nI n0)), (2, .int 0), (0, .ref r0), (1, .int l1)]) d_J7_fill_53178_4 rfl (by decide) rfl ?_
  refine G_sub (L' := [(0, .ref r0), (1, .int l1), (2, .int 0), (3, .int (nI n0))]) [2, 3, 1, 0] rfl ?_
  exact h
theorem b_J7_fill_53178_5 {X : cX} {d : Nat} {μ : mM} {K : Option Value → mM → Prop} {r0 : Nat} {l1 : Int32} {i2 : Nat} {l3 : Int32} {n0 : Nat} (hK : l3 ≤ (nI i2) → K none μ) (hk_r0 : ¬ l3 ≤ (nI i2) → kd μ r0 = (1, n0)) (hb : ¬ l3 ≤ (nI i2) → i2 < n0) (h : ¬ l3 ≤ (nI i2) → G X (Rm d) mJ7_fill_53178 5 [(0, .ref r0), (1, .int l1), (2, .int (nI (i2 + 1))), (3, .int l3)] [] (wi μ r0 i2 l1) 0 0 K) : G X (Rm d) mJ7_fill_53178 5 [(0, .ref r0), (1, .int l1), (2, .int (nI i2)), (3, .int l3)] [] μ 0 0 K := by
  refine G_iload_n d_J7_fill_53178_5 rfl 2 rfl ?_
  refine G_iload_n d_J7_fill_53178_6 rfl 3 rfl ?_
  refine G_icmp_ge (tgt := 20) d_J7_fill_53178_7 rfl (fun c0 => ?_) (fun c0 => ?_)
  ·
    exact G_vret rfl rfl rfl d_J7_fill_53178_20 (hK c0)
  ·
    refine G_aload_n d_J7_fill_53178_10 rfl 0 rfl ?_
    refine G_iload_n d_J7_fill_53178_11 rfl 2 rfl ?_
    refine G_iload_n d_J7_fill_53178_12 rfl 1 rfl ?_
    refine G_iast i2 (hk_r0 c0) rfl (hb c0) d_J7_fill_53178_13 ?_
    refine G_iinc (L' := [(2, .int (nI (i2 + 1))), (0, .ref r0), (1, .int l1), (3, .int l3)]) d_J7_fill_53178_14 2 rfl (inc1 i2) (by decide) rfl ?_
    refine G_goto (tgt := 5) d_J7_fill_53178_17 rfl ?_
    refine G_sub (L' := [(0, .ref r0), (1, .int l1), (2, .int (nI (i2 + 1))), (3, .int l3)]) [1, 2, 0, 3] rfl ?_
    exact (h c0)
end
section
theorem zz_look : 1 = 1 := rfl
end
