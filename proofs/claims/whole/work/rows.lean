section
-- ===== PART A: goes FIRST, ahead of the names: the tables' words, and 'selects' of the private methods out of them =====
/-- a private method of a class that the tables say can be made, by its rows of tables_1 -/
def lw_okq (q : MethodName × Nat) : Prop := (q.1.cls ≠ "java/lang/invoke/MethodHandle" ∧ q.1.cls ≠ "java/lang/invoke/VarHandle") ∧ Cond.instantiable q.1.cls q.2 ∈ tables_1 ∧ Cond.privateMethod q.1 ∈ tables_1 ∧ Cond.instanceMethod q.1 ∈ tables_1
theorem lw_p0 : lw_okq (⟨"LevelStore", "write", "(II)I"⟩, 10) := ⟨⟨by decide +kernel, by decide +kernel⟩, List.mem_of_getElem? (i := 19) (by decide +kernel), List.mem_of_getElem? (i := 231) (by decide +kernel), List.mem_of_getElem? (i := 232) (by decide +kernel)⟩
theorem lw_p1 : lw_okq (⟨"LevelStore", "giveUpJob", "()I"⟩, 10) := ⟨⟨by decide +kernel, by decide +kernel⟩, List.mem_of_getElem? (i := 19) (by decide +kernel), List.mem_of_getElem? (i := 262) (by decide +kernel), List.mem_of_getElem? (i := 263) (by decide +kernel)⟩
theorem lw_p2 : lw_okq (⟨"LevelStore", "retire", "(LLevelStore$FileRow;II)V"⟩, 10) := ⟨⟨by decide +kernel, by decide +kernel⟩, List.mem_of_getElem? (i := 19) (by decide +kernel), List.mem_of_getElem? (i := 274) (by decide +kernel), List.mem_of_getElem? (i := 275) (by decide +kernel)⟩
theorem lw_p3 : lw_okq (⟨"java/util/ArrayList", "fastRemove", "([Ljava/lang/Object;I)V"⟩, 3) := ⟨⟨by decide +kernel, by decide +kernel⟩, List.mem_of_getElem? (i := 63) (by decide +kernel), List.mem_of_getElem? (i := 292) (by decide +kernel), List.mem_of_getElem? (i := 293) (by decide +kernel)⟩
theorem lw_p4 : lw_okq (⟨"LevelStore$Field", "mark", "(LLevelStore$SortedFile;Z)V"⟩, 4) := ⟨⟨by decide +kernel, by decide +kernel⟩, List.mem_of_getElem? (i := 93) (by decide +kernel), List.mem_of_getElem? (i := 304) (by decide +kernel), List.mem_of_getElem? (i := 305) (by decide +kernel)⟩
theorem lw_p5 : lw_okq (⟨"java/util/ArrayList", "rangeCheckForAdd", "(I)V"⟩, 3) := ⟨⟨by decide +kernel, by decide +kernel⟩, List.mem_of_getElem? (i := 63) (by decide +kernel), List.mem_of_getElem? (i := 324) (by decide +kernel), List.mem_of_getElem? (i := 325) (by decide +kernel)⟩
theorem lw_p6 : lw_okq (⟨"java/util/ArrayList", "grow", "()[Ljava/lang/Object;"⟩, 3) := ⟨⟨by decide +kernel, by decide +kernel⟩, List.mem_of_getElem? (i := 63) (by decide +kernel), List.mem_of_getElem? (i := 328) (by decide +kernel), List.mem_of_getElem? (i := 329) (by decide +kernel)⟩
theorem lw_p7 : lw_okq (⟨"java/util/ArrayList", "grow", "(I)[Ljava/lang/Object;"⟩, 3) := ⟨⟨by decide +kernel, by decide +kernel⟩, List.mem_of_getElem? (i := 63) (by decide +kernel), List.mem_of_getElem? (i := 332) (by decide +kernel), List.mem_of_getElem? (i := 333) (by decide +kernel)⟩
theorem lw_p8 : lw_okq (⟨"LevelStore", "greatestNumberLeft", "()I"⟩, 10) := ⟨⟨by decide +kernel, by decide +kernel⟩, List.mem_of_getElem? (i := 19) (by decide +kernel), List.mem_of_getElem? (i := 384) (by decide +kernel), List.mem_of_getElem? (i := 385) (by decide +kernel)⟩
theorem lw_p9 : lw_okq (⟨"LevelStore", "readUpTo", "(II)I"⟩, 10) := ⟨⟨by decide +kernel, by decide +kernel⟩, List.mem_of_getElem? (i := 19) (by decide +kernel), List.mem_of_getElem? (i := 420) (by decide +kernel), List.mem_of_getElem? (i := 421) (by decide +kernel)⟩
theorem lw_p10 : lw_okq (⟨"LevelStore", "readAll", "()V"⟩, 10) := ⟨⟨by decide +kernel, by decide +kernel⟩, List.mem_of_getElem? (i := 19) (by decide +kernel), List.mem_of_getElem? (i := 431) (by decide +kernel), List.mem_of_getElem? (i := 432) (by decide +kernel)⟩
theorem lw_p11 : lw_okq (⟨"LevelStore", "isHeld", "(I)Z"⟩, 10) := ⟨⟨by decide +kernel, by decide +kernel⟩, List.mem_of_getElem? (i := 19) (by decide +kernel), List.mem_of_getElem? (i := 474) (by decide +kernel), List.mem_of_getElem? (i := 475) (by decide +kernel)⟩
theorem lw_p12 : lw_okq (⟨"LevelStore", "numberOfView", "(I)I"⟩, 10) := ⟨⟨by decide +kernel, by decide +kernel⟩, List.mem_of_getElem? (i := 19) (by decide +kernel), List.mem_of_getElem? (i := 478) (by decide +kernel), List.mem_of_getElem? (i := 479) (by decide +kernel)⟩
theorem lw_p13 : lw_okq (⟨"LevelStore", "isView", "(I)Z"⟩, 10) := ⟨⟨by decide +kernel, by decide +kernel⟩, List.mem_of_getElem? (i := 19) (by decide +kernel), List.mem_of_getElem? (i := 482) (by decide +kernel), List.mem_of_getElem? (i := 483) (by decide +kernel)⟩
theorem lw_p14 : lw_okq (⟨"LevelStore", "levelAt", "(I)LLevelStore$FileRow;"⟩, 10) := ⟨⟨by decide +kernel, by decide +kernel⟩, List.mem_of_getElem? (i := 19) (by decide +kernel), List.mem_of_getElem? (i := 516) (by decide +kernel), List.mem_of_getElem? (i := 517) (by decide +kernel)⟩
theorem lw_p15 : lw_okq (⟨"LevelStore$Job", "isFirstOfKey", "(I)Z"⟩, 12) := ⟨⟨by decide +kernel, by decide +kernel⟩, List.mem_of_getElem? (i := 136) (by decide +kernel), List.mem_of_getElem? (i := 541) (by decide +kernel), List.mem_of_getElem? (i := 542) (by decide +kernel)⟩
def lw_privs_1 : List (MethodName × Nat) := [(⟨"LevelStore", "write", "(II)I"⟩, 10), (⟨"LevelStore", "giveUpJob", "()I"⟩, 10), (⟨"LevelStore", "retire", "(LLevelStore$FileRow;II)V"⟩, 10), (⟨"java/util/ArrayList", "fastRemove", "([Ljava/lang/Object;I)V"⟩, 3), (⟨"LevelStore$Field", "mark", "(LLevelStore$SortedFile;Z)V"⟩, 4), (⟨"java/util/ArrayList", "rangeCheckForAdd", "(I)V"⟩, 3), (⟨"java/util/ArrayList", "grow", "()[Ljava/lang/Object;"⟩, 3), (⟨"java/util/ArrayList", "grow", "(I)[Ljava/lang/Object;"⟩, 3), (⟨"LevelStore", "greatestNumberLeft", "()I"⟩, 10), (⟨"LevelStore", "readUpTo", "(II)I"⟩, 10), (⟨"LevelStore", "readAll", "()V"⟩, 10), (⟨"LevelStore", "isHeld", "(I)Z"⟩, 10), (⟨"LevelStore", "numberOfView", "(I)I"⟩, 10), (⟨"LevelStore", "isView", "(I)Z"⟩, 10), (⟨"LevelStore", "levelAt", "(I)LLevelStore$FileRow;"⟩, 10), (⟨"LevelStore$Job", "isFirstOfKey", "(I)Z"⟩, 12)]
theorem lw_r1 : ∀ q ∈ lw_privs_1, lw_okq q := List.forall_mem_cons.mpr ⟨lw_p0, List.forall_mem_cons.mpr ⟨lw_p1, List.forall_mem_cons.mpr ⟨lw_p2, List.forall_mem_cons.mpr ⟨lw_p3, List.forall_mem_cons.mpr ⟨lw_p4, List.forall_mem_cons.mpr ⟨lw_p5, List.forall_mem_cons.mpr ⟨lw_p6, List.forall_mem_cons.mpr ⟨lw_p7, List.forall_mem_cons.mpr ⟨lw_p8, List.forall_mem_cons.mpr ⟨lw_p9, List.forall_mem_cons.mpr ⟨lw_p10, List.forall_mem_cons.mpr ⟨lw_p11, List.forall_mem_cons.mpr ⟨lw_p12, List.forall_mem_cons.mpr ⟨lw_p13, List.forall_mem_cons.mpr ⟨lw_p14, List.forall_mem_cons.mpr ⟨lw_p15, fun _ h => absurd h List.not_mem_nil⟩⟩⟩⟩⟩⟩⟩⟩⟩⟩⟩⟩⟩⟩⟩⟩
theorem lw_p16 : lw_okq (⟨"LevelStore$Job", "isSeen", "(I[I)Z"⟩, 12) := ⟨⟨by decide +kernel, by decide +kernel⟩, List.mem_of_getElem? (i := 136) (by decide +kernel), List.mem_of_getElem? (i := 546) (by decide +kernel), List.mem_of_getElem? (i := 547) (by decide +kernel)⟩
theorem lw_p17 : lw_okq (⟨"LevelStore$Job", "leaveOutGraves", "()V"⟩, 12) := ⟨⟨by decide +kernel, by decide +kernel⟩, List.mem_of_getElem? (i := 136) (by decide +kernel), List.mem_of_getElem? (i := 551) (by decide +kernel), List.mem_of_getElem? (i := 552) (by decide +kernel)⟩
theorem lw_p18 : lw_okq (⟨"LevelStore$Job", "isLastOfKey", "(I)Z"⟩, 12) := ⟨⟨by decide +kernel, by decide +kernel⟩, List.mem_of_getElem? (i := 136) (by decide +kernel), List.mem_of_getElem? (i := 556) (by decide +kernel), List.mem_of_getElem? (i := 557) (by decide +kernel)⟩
theorem lw_p19 : lw_okq (⟨"LevelStore", "doOneEntry", "()Z"⟩, 10) := ⟨⟨by decide +kernel, by decide +kernel⟩, List.mem_of_getElem? (i := 19) (by decide +kernel), List.mem_of_getElem? (i := 604) (by decide +kernel), List.mem_of_getElem? (i := 605) (by decide +kernel)⟩
theorem lw_p20 : lw_okq (⟨"LevelStore", "endFile", "()Z"⟩, 10) := ⟨⟨by decide +kernel, by decide +kernel⟩, List.mem_of_getElem? (i := 19) (by decide +kernel), List.mem_of_getElem? (i := 616) (by decide +kernel), List.mem_of_getElem? (i := 617) (by decide +kernel)⟩
theorem lw_p21 : lw_okq (⟨"LevelStore", "freshFile", "()LLevelStore$SortedFile;"⟩, 10) := ⟨⟨by decide +kernel, by decide +kernel⟩, List.mem_of_getElem? (i := 19) (by decide +kernel), List.mem_of_getElem? (i := 620) (by decide +kernel), List.mem_of_getElem? (i := 621) (by decide +kernel)⟩
theorem lw_p22 : lw_okq (⟨"LevelStore$Field", "encode", "(LLevelStore$Row;)V"⟩, 4) := ⟨⟨by decide +kernel, by decide +kernel⟩, List.mem_of_getElem? (i := 93) (by decide +kernel), List.mem_of_getElem? (i := 660) (by decide +kernel), List.mem_of_getElem? (i := 661) (by decide +kernel)⟩
theorem lw_p23 : lw_okq (⟨"LevelStore$Field", "emit", "(I)V"⟩, 4) := ⟨⟨by decide +kernel, by decide +kernel⟩, List.mem_of_getElem? (i := 93) (by decide +kernel), List.mem_of_getElem? (i := 664) (by decide +kernel), List.mem_of_getElem? (i := 665) (by decide +kernel)⟩
theorem lw_p24 : lw_okq (⟨"LevelStore$Field", "emitShort", "(I)V"⟩, 4) := ⟨⟨by decide +kernel, by decide +kernel⟩, List.mem_of_getElem? (i := 93) (by decide +kernel), List.mem_of_getElem? (i := 669) (by decide +kernel), List.mem_of_getElem? (i := 670) (by decide +kernel)⟩
theorem lw_p25 : lw_okq (⟨"LevelStore$Field", "sumOfCode", "()I"⟩, 4) := ⟨⟨by decide +kernel, by decide +kernel⟩, List.mem_of_getElem? (i := 93) (by decide +kernel), List.mem_of_getElem? (i := 679) (by decide +kernel), List.mem_of_getElem? (i := 680) (by decide +kernel)⟩
theorem lw_p26 : lw_okq (⟨"LevelStore$Field", "firstRoom", "(I)I"⟩, 4) := ⟨⟨by decide +kernel, by decide +kernel⟩, List.mem_of_getElem? (i := 93) (by decide +kernel), List.mem_of_getElem? (i := 683) (by decide +kernel), List.mem_of_getElem? (i := 684) (by decide +kernel)⟩
theorem lw_p27 : lw_okq (⟨"LevelStore", "loseFirstLogged", "(I)V"⟩, 10) := ⟨⟨by decide +kernel, by decide +kernel⟩, List.mem_of_getElem? (i := 19) (by decide +kernel), List.mem_of_getElem? (i := 692) (by decide +kernel), List.mem_of_getElem? (i := 693) (by decide +kernel)⟩
theorem lw_p28 : lw_okq (⟨"LevelStore", "fileAt", "(II)LLevelStore$SortedFile;"⟩, 10) := ⟨⟨by decide +kernel, by decide +kernel⟩, List.mem_of_getElem? (i := 19) (by decide +kernel), List.mem_of_getElem? (i := 713) (by decide +kernel), List.mem_of_getElem? (i := 714) (by decide +kernel)⟩
theorem lw_p29 : lw_okq (⟨"LevelStore", "filesInForce", "()I"⟩, 10) := ⟨⟨by decide +kernel, by decide +kernel⟩, List.mem_of_getElem? (i := 19) (by decide +kernel), List.mem_of_getElem? (i := 741) (by decide +kernel), List.mem_of_getElem? (i := 742) (by decide +kernel)⟩
theorem lw_p30 : lw_okq (⟨"LevelStore", "bytesInForce", "()I"⟩, 10) := ⟨⟨by decide +kernel, by decide +kernel⟩, List.mem_of_getElem? (i := 19) (by decide +kernel), List.mem_of_getElem? (i := 745) (by decide +kernel), List.mem_of_getElem? (i := 746) (by decide +kernel)⟩
theorem lw_p31 : lw_okq (⟨"LevelStore", "entriesInForce", "()I"⟩, 10) := ⟨⟨by decide +kernel, by decide +kernel⟩, List.mem_of_getElem? (i := 19) (by decide +kernel), List.mem_of_getElem? (i := 753) (by decide +kernel), List.mem_of_getElem? (i := 754) (by decide +kernel)⟩
def lw_privs_2 : List (MethodName × Nat) := [(⟨"LevelStore$Job", "isSeen", "(I[I)Z"⟩, 12), (⟨"LevelStore$Job", "leaveOutGraves", "()V"⟩, 12), (⟨"LevelStore$Job", "isLastOfKey", "(I)Z"⟩, 12), (⟨"LevelStore", "doOneEntry", "()Z"⟩, 10), (⟨"LevelStore", "endFile", "()Z"⟩, 10), (⟨"LevelStore", "freshFile", "()LLevelStore$SortedFile;"⟩, 10), (⟨"LevelStore$Field", "encode", "(LLevelStore$Row;)V"⟩, 4), (⟨"LevelStore$Field", "emit", "(I)V"⟩, 4), (⟨"LevelStore$Field", "emitShort", "(I)V"⟩, 4), (⟨"LevelStore$Field", "sumOfCode", "()I"⟩, 4), (⟨"LevelStore$Field", "firstRoom", "(I)I"⟩, 4), (⟨"LevelStore", "loseFirstLogged", "(I)V"⟩, 10), (⟨"LevelStore", "fileAt", "(II)LLevelStore$SortedFile;"⟩, 10), (⟨"LevelStore", "filesInForce", "()I"⟩, 10), (⟨"LevelStore", "bytesInForce", "()I"⟩, 10), (⟨"LevelStore", "entriesInForce", "()I"⟩, 10)]
theorem lw_r2 : ∀ q ∈ lw_privs_2, lw_okq q := List.forall_mem_cons.mpr ⟨lw_p16, List.forall_mem_cons.mpr ⟨lw_p17, List.forall_mem_cons.mpr ⟨lw_p18, List.forall_mem_cons.mpr ⟨lw_p19, List.forall_mem_cons.mpr ⟨lw_p20, List.forall_mem_cons.mpr ⟨lw_p21, List.forall_mem_cons.mpr ⟨lw_p22, List.forall_mem_cons.mpr ⟨lw_p23, List.forall_mem_cons.mpr ⟨lw_p24, List.forall_mem_cons.mpr ⟨lw_p25, List.forall_mem_cons.mpr ⟨lw_p26, List.forall_mem_cons.mpr ⟨lw_p27, List.forall_mem_cons.mpr ⟨lw_p28, List.forall_mem_cons.mpr ⟨lw_p29, List.forall_mem_cons.mpr ⟨lw_p30, List.forall_mem_cons.mpr ⟨lw_p31, fun _ h => absurd h List.not_mem_nil⟩⟩⟩⟩⟩⟩⟩⟩⟩⟩⟩⟩⟩⟩⟩⟩
theorem lw_p32 : lw_okq (⟨"LevelStoreModel", "write", "(II)I"⟩, 41) := ⟨⟨by decide +kernel, by decide +kernel⟩, List.mem_of_getElem? (i := 769) (by decide +kernel), List.mem_of_getElem? (i := 910) (by decide +kernel), List.mem_of_getElem? (i := 911) (by decide +kernel)⟩
theorem lw_p33 : lw_okq (⟨"LevelStoreModel", "giveUp", "()I"⟩, 41) := ⟨⟨by decide +kernel, by decide +kernel⟩, List.mem_of_getElem? (i := 769) (by decide +kernel), List.mem_of_getElem? (i := 929) (by decide +kernel), List.mem_of_getElem? (i := 930) (by decide +kernel)⟩
theorem lw_p34 : lw_okq (⟨"LevelStoreModel", "read", "(II)I"⟩, 41) := ⟨⟨by decide +kernel, by decide +kernel⟩, List.mem_of_getElem? (i := 769) (by decide +kernel), List.mem_of_getElem? (i := 937) (by decide +kernel), List.mem_of_getElem? (i := 938) (by decide +kernel)⟩
theorem lw_p35 : lw_okq (⟨"LevelStoreModel", "noView", "(I)Z"⟩, 41) := ⟨⟨by decide +kernel, by decide +kernel⟩, List.mem_of_getElem? (i := 769) (by decide +kernel), List.mem_of_getElem? (i := 946) (by decide +kernel), List.mem_of_getElem? (i := 947) (by decide +kernel)⟩
theorem lw_p36 : lw_okq (⟨"LevelStoreModel", "begin", "(I)V"⟩, 41) := ⟨⟨by decide +kernel, by decide +kernel⟩, List.mem_of_getElem? (i := 769) (by decide +kernel), List.mem_of_getElem? (i := 969) (by decide +kernel), List.mem_of_getElem? (i := 970) (by decide +kernel)⟩
theorem lw_p37 : lw_okq (⟨"LevelStoreModel", "source", "(III)V"⟩, 41) := ⟨⟨by decide +kernel, by decide +kernel⟩, List.mem_of_getElem? (i := 769) (by decide +kernel), List.mem_of_getElem? (i := 973) (by decide +kernel), List.mem_of_getElem? (i := 974) (by decide +kernel)⟩
theorem lw_p38 : lw_okq (⟨"LevelStoreModel", "listLevel", "(I)V"⟩, 41) := ⟨⟨by decide +kernel, by decide +kernel⟩, List.mem_of_getElem? (i := 769) (by decide +kernel), List.mem_of_getElem? (i := 981) (by decide +kernel), List.mem_of_getElem? (i := 982) (by decide +kernel)⟩
theorem lw_p39 : lw_okq (⟨"LevelStoreModel", "least", "(I)I"⟩, 41) := ⟨⟨by decide +kernel, by decide +kernel⟩, List.mem_of_getElem? (i := 769) (by decide +kernel), List.mem_of_getElem? (i := 985) (by decide +kernel), List.mem_of_getElem? (i := 986) (by decide +kernel)⟩
theorem lw_p40 : lw_okq (⟨"LevelStoreModel", "greatest", "(I)I"⟩, 41) := ⟨⟨by decide +kernel, by decide +kernel⟩, List.mem_of_getElem? (i := 769) (by decide +kernel), List.mem_of_getElem? (i := 989) (by decide +kernel), List.mem_of_getElem? (i := 990) (by decide +kernel)⟩
theorem lw_p41 : lw_okq (⟨"LevelStoreModel", "sourceFile", "(I)V"⟩, 41) := ⟨⟨by decide +kernel, by decide +kernel⟩, List.mem_of_getElem? (i := 769) (by decide +kernel), List.mem_of_getElem? (i := 993) (by decide +kernel), List.mem_of_getElem? (i := 994) (by decide +kernel)⟩
theorem lw_p42 : lw_okq (⟨"LevelStoreModel", "does", "(I)Z"⟩, 41) := ⟨⟨by decide +kernel, by decide +kernel⟩, List.mem_of_getElem? (i := 769) (by decide +kernel), List.mem_of_getElem? (i := 1002) (by decide +kernel), List.mem_of_getElem? (i := 1003) (by decide +kernel)⟩
theorem lw_p43 : lw_okq (⟨"LevelStoreModel", "isLeftOut", "(I)Z"⟩, 41) := ⟨⟨by decide +kernel, by decide +kernel⟩, List.mem_of_getElem? (i := 769) (by decide +kernel), List.mem_of_getElem? (i := 1006) (by decide +kernel), List.mem_of_getElem? (i := 1007) (by decide +kernel)⟩
theorem lw_p44 : lw_okq (⟨"LevelStoreModel", "isUnseen", "(I)Z"⟩, 41) := ⟨⟨by decide +kernel, by decide +kernel⟩, List.mem_of_getElem? (i := 769) (by decide +kernel), List.mem_of_getElem? (i := 1010) (by decide +kernel), List.mem_of_getElem? (i := 1011) (by decide +kernel)⟩
theorem lw_p45 : lw_okq (⟨"LevelStoreModel", "ends", "()Z"⟩, 41) := ⟨⟨by decide +kernel, by decide +kernel⟩, List.mem_of_getElem? (i := 769) (by decide +kernel), List.mem_of_getElem? (i := 1014) (by decide +kernel), List.mem_of_getElem? (i := 1015) (by decide +kernel)⟩
theorem lw_p46 : lw_okq (⟨"LevelStoreModel", "encode", "()V"⟩, 41) := ⟨⟨by decide +kernel, by decide +kernel⟩, List.mem_of_getElem? (i := 769) (by decide +kernel), List.mem_of_getElem? (i := 1018) (by decide +kernel), List.mem_of_getElem? (i := 1019) (by decide +kernel)⟩
theorem lw_p47 : lw_okq (⟨"LevelStoreModel", "shortNumber", "(I)V"⟩, 41) := ⟨⟨by decide +kernel, by decide +kernel⟩, List.mem_of_getElem? (i := 769) (by decide +kernel), List.mem_of_getElem? (i := 1022) (by decide +kernel), List.mem_of_getElem? (i := 1023) (by decide +kernel)⟩
def lw_privs_3 : List (MethodName × Nat) := [(⟨"LevelStoreModel", "write", "(II)I"⟩, 41), (⟨"LevelStoreModel", "giveUp", "()I"⟩, 41), (⟨"LevelStoreModel", "read", "(II)I"⟩, 41), (⟨"LevelStoreModel", "noView", "(I)Z"⟩, 41), (⟨"LevelStoreModel", "begin", "(I)V"⟩, 41), (⟨"LevelStoreModel", "source", "(III)V"⟩, 41), (⟨"LevelStoreModel", "listLevel", "(I)V"⟩, 41), (⟨"LevelStoreModel", "least", "(I)I"⟩, 41), (⟨"LevelStoreModel", "greatest", "(I)I"⟩, 41), (⟨"LevelStoreModel", "sourceFile", "(I)V"⟩, 41), (⟨"LevelStoreModel", "does", "(I)Z"⟩, 41), (⟨"LevelStoreModel", "isLeftOut", "(I)Z"⟩, 41), (⟨"LevelStoreModel", "isUnseen", "(I)Z"⟩, 41), (⟨"LevelStoreModel", "ends", "()Z"⟩, 41), (⟨"LevelStoreModel", "encode", "()V"⟩, 41), (⟨"LevelStoreModel", "shortNumber", "(I)V"⟩, 41)]
theorem lw_r3 : ∀ q ∈ lw_privs_3, lw_okq q := List.forall_mem_cons.mpr ⟨lw_p32, List.forall_mem_cons.mpr ⟨lw_p33, List.forall_mem_cons.mpr ⟨lw_p34, List.forall_mem_cons.mpr ⟨lw_p35, List.forall_mem_cons.mpr ⟨lw_p36, List.forall_mem_cons.mpr ⟨lw_p37, List.forall_mem_cons.mpr ⟨lw_p38, List.forall_mem_cons.mpr ⟨lw_p39, List.forall_mem_cons.mpr ⟨lw_p40, List.forall_mem_cons.mpr ⟨lw_p41, List.forall_mem_cons.mpr ⟨lw_p42, List.forall_mem_cons.mpr ⟨lw_p43, List.forall_mem_cons.mpr ⟨lw_p44, List.forall_mem_cons.mpr ⟨lw_p45, List.forall_mem_cons.mpr ⟨lw_p46, List.forall_mem_cons.mpr ⟨lw_p47, fun _ h => absurd h List.not_mem_nil⟩⟩⟩⟩⟩⟩⟩⟩⟩⟩⟩⟩⟩⟩⟩⟩
theorem lw_p48 : lw_okq (⟨"LevelStoreModel", "room", "(I)I"⟩, 41) := ⟨⟨by decide +kernel, by decide +kernel⟩, List.mem_of_getElem? (i := 769) (by decide +kernel), List.mem_of_getElem? (i := 1026) (by decide +kernel), List.mem_of_getElem? (i := 1027) (by decide +kernel)⟩
theorem lw_p49 : lw_okq (⟨"LevelStoreModel", "slot", "(II)I"⟩, 41) := ⟨⟨by decide +kernel, by decide +kernel⟩, List.mem_of_getElem? (i := 769) (by decide +kernel), List.mem_of_getElem? (i := 1050) (by decide +kernel), List.mem_of_getElem? (i := 1051) (by decide +kernel)⟩
theorem lw_p50 : lw_okq (⟨"LevelStoreModel", "codesAs", "(I)Z"⟩, 41) := ⟨⟨by decide +kernel, by decide +kernel⟩, List.mem_of_getElem? (i := 769) (by decide +kernel), List.mem_of_getElem? (i := 1075) (by decide +kernel), List.mem_of_getElem? (i := 1076) (by decide +kernel)⟩
def lw_privs_4 : List (MethodName × Nat) := [(⟨"LevelStoreModel", "room", "(I)I"⟩, 41), (⟨"LevelStoreModel", "slot", "(II)I"⟩, 41), (⟨"LevelStoreModel", "codesAs", "(I)Z"⟩, 41)]
theorem lw_r4 : ∀ q ∈ lw_privs_4, lw_okq q := List.forall_mem_cons.mpr ⟨lw_p48, List.forall_mem_cons.mpr ⟨lw_p49, List.forall_mem_cons.mpr ⟨lw_p50, fun _ h => absurd h List.not_mem_nil⟩⟩⟩
def lw_privs : List (MethodName × Nat) := lw_privs_1 ++ (lw_privs_2 ++ (lw_privs_3 ++ (lw_privs_4)))
def lw_tbl : List Cond := k2_sels lw_privs ++ tables_1
theorem lw_privs_ok : ∀ q ∈ lw_privs, lw_okq q := by
  show ∀ q ∈ lw_privs_1 ++ (lw_privs_2 ++ (lw_privs_3 ++ (lw_privs_4))), lw_okq q
  exact List.forall_mem_append.mpr ⟨lw_r1, List.forall_mem_append.mpr ⟨lw_r2, List.forall_mem_append.mpr ⟨lw_r3, lw_r4⟩⟩⟩
end
section
def RX0 : String := "LevelStore$Field"
def TX0 : u_T := fun k => match k with
  | 0 => ("LevelStore$Field", "bytes", "[I", true)
  | 1 => ("LevelStore$Field", "taken", "[Z", true)
  | 2 => ("LevelStore$Field", "code", "[I", true)
  | _ => ("LevelStore$Field", "codeLength", "I", false)
def tyX0 : Nat → FieldType := fun k => match k with
  | 0 => .array .int
  | 1 => .array .boolean
  | 2 => .array .int
  | _ => .int
theorem nmX0 : ∀ a, a < 4 → ∀ b, b < 4 → a ≠ b → (TX0 a).2.1 ≠ (TX0 b).2.1 := by decide +kernel
theorem tyX0_ok : ∀ k, k < 4 → parseFieldDescriptor (TX0 k).2.2.1 = some (tyX0 k) := by decide +kernel
abbrev cX0_init : ByteArray := prog_2_method_1_code
def yX0_init : MethodName := ⟨RX0, "<init>", "()V"⟩
abbrev cX0_has : ByteArray := prog_2_method_2_code
def yX0_has : MethodName := ⟨RX0, "has", "(I)Z"⟩
abbrev cX0_lay : ByteArray := prog_2_method_3_code
def yX0_lay : MethodName := ⟨RX0, "lay", "(LLevelStore$SortedFile;)Z"⟩
abbrev cX0_free : ByteArray := prog_2_method_4_code
def yX0_free : MethodName := ⟨RX0, "free", "(LLevelStore$SortedFile;)V"⟩
abbrev cX0_holds : ByteArray := prog_2_method_5_code
def yX0_holds : MethodName := ⟨RX0, "holds", "(LLevelStore$SortedFile;)Z"⟩
abbrev cX0_mark : ByteArray := prog_2_method_6_code
def yX0_mark : MethodName := ⟨RX0, "mark", "(LLevelStore$SortedFile;Z)V"⟩
abbrev cX0_firstRoom : ByteArray := prog_2_method_7_code
def yX0_firstRoom : MethodName := ⟨RX0, "firstRoom", "(I)I"⟩
abbrev cX0_encode : ByteArray := prog_2_method_8_code
def yX0_encode : MethodName := ⟨RX0, "encode", "(LLevelStore$Row;)V"⟩
abbrev cX0_folded : ByteArray := prog_2_method_9_code
def yX0_folded : MethodName := ⟨RX0, "folded", "(I)I"⟩
abbrev cX0_emitShort : ByteArray := prog_2_method_10_code
def yX0_emitShort : MethodName := ⟨RX0, "emitShort", "(I)V"⟩
abbrev cX0_emit : ByteArray := prog_2_method_11_code
def yX0_emit : MethodName := ⟨RX0, "emit", "(I)V"⟩
abbrev cX0_sumOfCode : ByteArray := prog_2_method_12_code
def yX0_sumOfCode : MethodName := ⟨RX0, "sumOfCode", "()I"⟩
def RX1 : String := "LevelStore$FileRow"
def TX1 : u_T := fun k => match k with
  | _ => ("LevelStore$FileRow", "row", "Ljava/util/ArrayList;", true)
def tyX1 : Nat → FieldType := fun k => match k with
  | _ => .object "java/util/ArrayList"
theorem nmX1 : ∀ a, a < 1 → ∀ b, b < 1 → a ≠ b → (TX1 a).2.1 ≠ (TX1 b).2.1 := by decide +kernel
theorem tyX1_ok : ∀ k, k < 1 → parseFieldDescriptor (TX1 k).2.2.1 = some (tyX1 k) := by decide +kernel
abbrev cX1_init : ByteArray := prog_3_method_1_code
def yX1_init : MethodName := ⟨RX1, "<init>", "()V"⟩
abbrev cX1_size : ByteArray := prog_3_method_2_code
def yX1_size : MethodName := ⟨RX1, "size", "()I"⟩
abbrev cX1_at : ByteArray := prog_3_method_3_code
def yX1_at : MethodName := ⟨RX1, "at", "(I)LLevelStore$SortedFile;"⟩
abbrev cX1_add : ByteArray := prog_3_method_4_code
def yX1_add : MethodName := ⟨RX1, "add", "(LLevelStore$SortedFile;)V"⟩
abbrev cX1_insert : ByteArray := prog_3_method_5_code
def yX1_insert : MethodName := ⟨RX1, "insert", "(ILLevelStore$SortedFile;)V"⟩
abbrev cX1_takeOut : ByteArray := prog_3_method_6_code
def yX1_takeOut : MethodName := ⟨RX1, "takeOut", "(I)LLevelStore$SortedFile;"⟩
abbrev cX1_empty : ByteArray := prog_3_method_7_code
def yX1_empty : MethodName := ⟨RX1, "empty", "()V"⟩
abbrev cX1_leastKey : ByteArray := prog_3_method_8_code
def yX1_leastKey : MethodName := ⟨RX1, "leastKey", "(II)I"⟩
abbrev cX1_greatestKey : ByteArray := prog_3_method_9_code
def yX1_greatestKey : MethodName := ⟨RX1, "greatestKey", "(II)I"⟩
abbrev cX1_howManyEndBelow : ByteArray := prog_3_method_10_code
def yX1_howManyEndBelow : MethodName := ⟨RX1, "howManyEndBelow", "(I)I"⟩
abbrev cX1_howManyBeginUpTo : ByteArray := prog_3_method_11_code
def yX1_howManyBeginUpTo : MethodName := ⟨RX1, "howManyBeginUpTo", "(I)I"⟩
abbrev cX1_mergeInto : ByteArray := prog_3_method_12_code
def yX1_mergeInto : MethodName := ⟨RX1, "mergeInto", "(LLevelStore$Row;II)V"⟩
abbrev cX1_letRead : ByteArray := prog_3_method_13_code
def yX1_letRead : MethodName := ⟨RX1, "letRead", "(LLevelStore$Reading;)V"⟩
abbrev cX1_bytes : ByteArray := prog_3_method_14_code
def yX1_bytes : MethodName := ⟨RX1, "bytes", "()I"⟩
abbrev cX1_entries : ByteArray := prog_3_method_15_code
def yX1_entries : MethodName := ⟨RX1, "entries", "()I"⟩
abbrev cX1_greatestNumber : ByteArray := prog_3_method_16_code
def yX1_greatestNumber : MethodName := ⟨RX1, "greatestNumber", "()I"⟩
def RX2 : String := "LevelStore$Job"
def TX2 : u_T := fun k => match k with
  | 0 => ("LevelStore$Job", "there", "Z", false)
  | 1 => ("LevelStore$Job", "level", "I", false)
  | 2 => ("LevelStore$Job", "levelFrom", "I", false)
  | 3 => ("LevelStore$Job", "levelTo", "I", false)
  | 4 => ("LevelStore$Job", "target", "I", false)
  | 5 => ("LevelStore$Job", "targetFrom", "I", false)
  | 6 => ("LevelStore$Job", "targetTo", "I", false)
  | 7 => ("LevelStore$Job", "sources", "LLevelStore$Row;", true)
  | 8 => ("LevelStore$Job", "leftOut", "[Z", true)
  | 9 => ("LevelStore$Job", "done", "I", false)
  | 10 => ("LevelStore$Job", "making", "LLevelStore$Row;", true)
  | _ => ("LevelStore$Job", "made", "LLevelStore$FileRow;", true)
def tyX2 : Nat → FieldType := fun k => match k with
  | 0 => .boolean
  | 1 => .int
  | 2 => .int
  | 3 => .int
  | 4 => .int
  | 5 => .int
  | 6 => .int
  | 7 => .object "LevelStore$Row"
  | 8 => .array .boolean
  | 9 => .int
  | 10 => .object "LevelStore$Row"
  | _ => .object "LevelStore$FileRow"
theorem nmX2 : ∀ a, a < 12 → ∀ b, b < 12 → a ≠ b → (TX2 a).2.1 ≠ (TX2 b).2.1 := by decide +kernel
theorem tyX2_ok : ∀ k, k < 12 → parseFieldDescriptor (TX2 k).2.2.1 = some (tyX2 k) := by decide +kernel
abbrev cX2_init : ByteArray := prog_4_method_1_code
def yX2_init : MethodName := ⟨RX2, "<init>", "()V"⟩
abbrev cX2_begin : ByteArray := prog_4_method_2_code
def yX2_begin : MethodName := ⟨RX2, "begin", "(II)V"⟩
abbrev cX2_end : ByteArray := prog_4_method_3_code
def yX2_end : MethodName := ⟨RX2, "end", "()V"⟩
abbrev cX2_left : ByteArray := prog_4_method_4_code
def yX2_left : MethodName := ⟨RX2, "left", "()I"⟩
abbrev cX2_isLeftOut : ByteArray := prog_4_method_5_code
def yX2_isLeftOut : MethodName := ⟨RX2, "isLeftOut", "(I)Z"⟩
abbrev cX2_decide : ByteArray := prog_4_method_6_code
def yX2_decide : MethodName := ⟨RX2, "decide", "([I)V"⟩
abbrev cX2_leaveOutGraves : ByteArray := prog_4_method_7_code
def yX2_leaveOutGraves : MethodName := ⟨RX2, "leaveOutGraves", "()V"⟩
abbrev cX2_isFirstOfKey : ByteArray := prog_4_method_8_code
def yX2_isFirstOfKey : MethodName := ⟨RX2, "isFirstOfKey", "(I)Z"⟩
abbrev cX2_isLastOfKey : ByteArray := prog_4_method_9_code
def yX2_isLastOfKey : MethodName := ⟨RX2, "isLastOfKey", "(I)Z"⟩
abbrev cX2_isSeen : ByteArray := prog_4_method_10_code
def yX2_isSeen : MethodName := ⟨RX2, "isSeen", "(I[I)Z"⟩
abbrev cX2_endsFileAhead : ByteArray := prog_4_method_11_code
def yX2_endsFileAhead : MethodName := ⟨RX2, "endsFileAhead", "(I)Z"⟩
def RX3 : String := "LevelStore$Reading"
def TX3 : u_T := fun k => match k with
  | 0 => ("LevelStore$Reading", "numbers", "[I", true)
  | 1 => ("LevelStore$Reading", "values", "[I", true)
  | 2 => ("LevelStore$Reading", "from", "I", false)
  | 3 => ("LevelStore$Reading", "to", "I", false)
  | _ => ("LevelStore$Reading", "upTo", "I", false)
def tyX3 : Nat → FieldType := fun k => match k with
  | 0 => .array .int
  | 1 => .array .int
  | 2 => .int
  | 3 => .int
  | _ => .int
theorem nmX3 : ∀ a, a < 5 → ∀ b, b < 5 → a ≠ b → (TX3 a).2.1 ≠ (TX3 b).2.1 := by decide +kernel
theorem tyX3_ok : ∀ k, k < 5 → parseFieldDescriptor (TX3 k).2.2.1 = some (tyX3 k) := by decide +kernel
abbrev cX3_init : ByteArray := prog_5_method_1_code
def yX3_init : MethodName := ⟨RX3, "<init>", "()V"⟩
abbrev cX3_begin : ByteArray := prog_5_method_2_code
def yX3_begin : MethodName := ⟨RX3, "begin", "(III)V"⟩
abbrev cX3_concerns : ByteArray := prog_5_method_3_code
def yX3_concerns : MethodName := ⟨RX3, "concerns", "(LLevelStore$SortedFile;)Z"⟩
abbrev cX3_take : ByteArray := prog_5_method_4_code
def yX3_take : MethodName := ⟨RX3, "take", "(LLevelStore$Row;)V"⟩
abbrev cX3_valueOf : ByteArray := prog_5_method_5_code
def yX3_valueOf : MethodName := ⟨RX3, "valueOf", "(I)I"⟩
abbrev cX3_leastKeyWithValue : ByteArray := prog_5_method_6_code
def yX3_leastKeyWithValue : MethodName := ⟨RX3, "leastKeyWithValue", "()I"⟩
def RX4 : String := "LevelStore$Row"
def TX4 : u_T := fun k => match k with
  | 0 => ("LevelStore$Row", "keys", "[I", true)
  | 1 => ("LevelStore$Row", "numbers", "[I", true)
  | 2 => ("LevelStore$Row", "values", "[I", true)
  | _ => ("LevelStore$Row", "size", "I", false)
def tyX4 : Nat → FieldType := fun k => match k with
  | 0 => .array .int
  | 1 => .array .int
  | 2 => .array .int
  | _ => .int
theorem nmX4 : ∀ a, a < 4 → ∀ b, b < 4 → a ≠ b → (TX4 a).2.1 ≠ (TX4 b).2.1 := by decide +kernel
theorem tyX4_ok : ∀ k, k < 4 → parseFieldDescriptor (TX4 k).2.2.1 = some (tyX4 k) := by decide +kernel
abbrev cX4_init : ByteArray := prog_6_method_1_code
def yX4_init : MethodName := ⟨RX4, "<init>", "(I)V"⟩
abbrev cX4_has : ByteArray := prog_6_method_2_code
def yX4_has : MethodName := ⟨RX4, "has", "(I)Z"⟩
abbrev cX4_key : ByteArray := prog_6_method_3_code
def yX4_key : MethodName := ⟨RX4, "key", "(I)I"⟩
abbrev cX4_number : ByteArray := prog_6_method_4_code
def yX4_number : MethodName := ⟨RX4, "number", "(I)I"⟩
abbrev cX4_value : ByteArray := prog_6_method_5_code
def yX4_value : MethodName := ⟨RX4, "value", "(I)I"⟩
abbrev cX4_isGrave : ByteArray := prog_6_method_6_code
def yX4_isGrave : MethodName := ⟨RX4, "isGrave", "(I)Z"⟩
abbrev cX4_told : ByteArray := prog_6_method_7_code
def yX4_told : MethodName := ⟨RX4, "told", "(II)I"⟩
abbrev cX4_setAt : ByteArray := prog_6_method_8_code
def yX4_setAt : MethodName := ⟨RX4, "setAt", "(IIII)V"⟩
abbrev cX4_copyTo : ByteArray := prog_6_method_9_code
def yX4_copyTo : MethodName := ⟨RX4, "copyTo", "(ILLevelStore$Row;I)V"⟩
abbrev cX4_add : ByteArray := prog_6_method_10_code
def yX4_add : MethodName := ⟨RX4, "add", "(III)V"⟩
abbrev cX4_takeAll : ByteArray := prog_6_method_11_code
def yX4_takeAll : MethodName := ⟨RX4, "takeAll", "(LLevelStore$Row;)V"⟩
abbrev cX4_standsBehind : ByteArray := prog_6_method_12_code
def yX4_standsBehind : MethodName := ⟨RX4, "standsBehind", "(III)Z"⟩
abbrev cX4_insert : ByteArray := prog_6_method_13_code
def yX4_insert : MethodName := ⟨RX4, "insert", "(III)V"⟩
abbrev cX4_mergeIn : ByteArray := prog_6_method_14_code
def yX4_mergeIn : MethodName := ⟨RX4, "mergeIn", "(LLevelStore$Row;)V"⟩
abbrev cX4_loseFirst : ByteArray := prog_6_method_15_code
def yX4_loseFirst : MethodName := ⟨RX4, "loseFirst", "(I)V"⟩
abbrev cX4_greatestNumber : ByteArray := prog_6_method_16_code
def yX4_greatestNumber : MethodName := ⟨RX4, "greatestNumber", "()I"⟩
def RX5 : String := "LevelStore$SortedFile"
def TX5 : u_T := fun k => match k with
  | 0 => ("LevelStore$SortedFile", "entries", "LLevelStore$Row;", true)
  | 1 => ("LevelStore$SortedFile", "number", "I", false)
  | 2 => ("LevelStore$SortedFile", "place", "I", false)
  | _ => ("LevelStore$SortedFile", "length", "I", false)
def tyX5 : Nat → FieldType := fun k => match k with
  | 0 => .object "LevelStore$Row"
  | 1 => .int
  | 2 => .int
  | _ => .int
theorem nmX5 : ∀ a, a < 4 → ∀ b, b < 4 → a ≠ b → (TX5 a).2.1 ≠ (TX5 b).2.1 := by decide +kernel
theorem tyX5_ok : ∀ k, k < 4 → parseFieldDescriptor (TX5 k).2.2.1 = some (tyX5 k) := by decide +kernel
abbrev cX5_init : ByteArray := prog_7_method_1_code
def yX5_init : MethodName := ⟨RX5, "<init>", "()V"⟩
abbrev cX5_leastKey : ByteArray := prog_7_method_2_code
def yX5_leastKey : MethodName := ⟨RX5, "leastKey", "()I"⟩
abbrev cX5_greatestKey : ByteArray := prog_7_method_3_code
def yX5_greatestKey : MethodName := ⟨RX5, "greatestKey", "()I"⟩
def RX6 : String := "LevelStore"
def TX6 : u_T := fun k => match k with
  | 0 => ("LevelStore", "logged", "LLevelStore$Row;", true)
  | 1 => ("LevelStore", "synced", "I", false)
  | 2 => ("LevelStore", "latest", "I", false)
  | 3 => ("LevelStore", "views", "[I", true)
  | 4 => ("LevelStore", "levels", "[LLevelStore$FileRow;", true)
  | 5 => ("LevelStore", "spare", "LLevelStore$FileRow;", true)
  | 6 => ("LevelStore", "field", "LLevelStore$Field;", true)
  | 7 => ("LevelStore", "reading", "LLevelStore$Reading;", true)
  | 8 => ("LevelStore", "job", "LLevelStore$Job;", true)
  | _ => ("LevelStore", "nextFileNumber", "I", false)
def tyX6 : Nat → FieldType := fun k => match k with
  | 0 => .object "LevelStore$Row"
  | 1 => .int
  | 2 => .int
  | 3 => .array .int
  | 4 => .array (.object "LevelStore$FileRow")
  | 5 => .object "LevelStore$FileRow"
  | 6 => .object "LevelStore$Field"
  | 7 => .object "LevelStore$Reading"
  | 8 => .object "LevelStore$Job"
  | _ => .int
theorem nmX6 : ∀ a, a < 10 → ∀ b, b < 10 → a ≠ b → (TX6 a).2.1 ≠ (TX6 b).2.1 := by decide +kernel
theorem tyX6_ok : ∀ k, k < 10 → parseFieldDescriptor (TX6 k).2.2.1 = some (tyX6 k) := by decide +kernel
abbrev cX6_init : ByteArray := prog_1_method_1_code
def yX6_init : MethodName := ⟨RX6, "<init>", "()V"⟩
abbrev cX6_put : ByteArray := prog_1_method_2_code
def yX6_put : MethodName := ⟨RX6, "put", "(II)I"⟩
abbrev cX6_drop : ByteArray := prog_1_method_3_code
def yX6_drop : MethodName := ⟨RX6, "drop", "(I)I"⟩
abbrev cX6_sync : ByteArray := prog_1_method_4_code
def yX6_sync : MethodName := ⟨RX6, "sync", "()I"⟩
abbrev cX6_crash : ByteArray := prog_1_method_5_code
def yX6_crash : MethodName := ⟨RX6, "crash", "(I)I"⟩
abbrev cX6_get : ByteArray := prog_1_method_6_code
def yX6_get : MethodName := ⟨RX6, "get", "(I)I"⟩
abbrev cX6_view : ByteArray := prog_1_method_7_code
def yX6_view : MethodName := ⟨RX6, "view", "(II)I"⟩
abbrev cX6_next : ByteArray := prog_1_method_8_code
def yX6_next : MethodName := ⟨RX6, "next", "(II)I"⟩
abbrev cX6_hold : ByteArray := prog_1_method_9_code
def yX6_hold : MethodName := ⟨RX6, "hold", "(I)I"⟩
abbrev cX6_release : ByteArray := prog_1_method_10_code
def yX6_release : MethodName := ⟨RX6, "release", "(I)I"⟩
abbrev cX6_flush : ByteArray := prog_1_method_11_code
def yX6_flush : MethodName := ⟨RX6, "flush", "()I"⟩
abbrev cX6_merge : ByteArray := prog_1_method_12_code
def yX6_merge : MethodName := ⟨RX6, "merge", "(II)I"⟩
abbrev cX6_work : ByteArray := prog_1_method_13_code
def yX6_work : MethodName := ⟨RX6, "work", "(I)I"⟩
abbrev cX6_install : ByteArray := prog_1_method_14_code
def yX6_install : MethodName := ⟨RX6, "install", "()I"⟩
abbrev cX6_stop : ByteArray := prog_1_method_15_code
def yX6_stop : MethodName := ⟨RX6, "stop", "()I"⟩
abbrev cX6_high : ByteArray := prog_1_method_16_code
def yX6_high : MethodName := ⟨RX6, "high", "()I"⟩
abbrev cX6_files : ByteArray := prog_1_method_17_code
def yX6_files : MethodName := ⟨RX6, "files", "(I)I"⟩
abbrev cX6_file : ByteArray := prog_1_method_18_code
def yX6_file : MethodName := ⟨RX6, "file", "(III)I"⟩
abbrev cX6_entry : ByteArray := prog_1_method_19_code
def yX6_entry : MethodName := ⟨RX6, "entry", "(IIII)I"⟩
abbrev cX6_byteAt : ByteArray := prog_1_method_20_code
def yX6_byteAt : MethodName := ⟨RX6, "byteAt", "(I)I"⟩
abbrev cX6_log : ByteArray := prog_1_method_21_code
def yX6_log : MethodName := ⟨RX6, "log", "(II)I"⟩
abbrev cX6_count : ByteArray := prog_1_method_22_code
def yX6_count : MethodName := ⟨RX6, "count", "(I)I"⟩
abbrev cX6_check : ByteArray := prog_1_method_23_code
def yX6_check : MethodName := ⟨RX6, "check", "()I"⟩
abbrev cX6_isKey : ByteArray := prog_1_method_24_code
def yX6_isKey : MethodName := ⟨RX6, "isKey", "(I)Z"⟩
abbrev cX6_write : ByteArray := prog_1_method_25_code
def yX6_write : MethodName := ⟨RX6, "write", "(II)I"⟩
abbrev cX6_loseFirstLogged : ByteArray := prog_1_method_26_code
def yX6_loseFirstLogged : MethodName := ⟨RX6, "loseFirstLogged", "(I)V"⟩
abbrev cX6_greatestNumberLeft : ByteArray := prog_1_method_27_code
def yX6_greatestNumberLeft : MethodName := ⟨RX6, "greatestNumberLeft", "()I"⟩
abbrev cX6_isView : ByteArray := prog_1_method_28_code
def yX6_isView : MethodName := ⟨RX6, "isView", "(I)Z"⟩
abbrev cX6_numberOfView : ByteArray := prog_1_method_29_code
def yX6_numberOfView : MethodName := ⟨RX6, "numberOfView", "(I)I"⟩
abbrev cX6_isHeld : ByteArray := prog_1_method_30_code
def yX6_isHeld : MethodName := ⟨RX6, "isHeld", "(I)Z"⟩
abbrev cX6_readUpTo : ByteArray := prog_1_method_31_code
def yX6_readUpTo : MethodName := ⟨RX6, "readUpTo", "(II)I"⟩
abbrev cX6_readAll : ByteArray := prog_1_method_32_code
def yX6_readAll : MethodName := ⟨RX6, "readAll", "()V"⟩
abbrev cX6_doOneEntry : ByteArray := prog_1_method_33_code
def yX6_doOneEntry : MethodName := ⟨RX6, "doOneEntry", "()Z"⟩
abbrev cX6_endFile : ByteArray := prog_1_method_34_code
def yX6_endFile : MethodName := ⟨RX6, "endFile", "()Z"⟩
abbrev cX6_freshFile : ByteArray := prog_1_method_35_code
def yX6_freshFile : MethodName := ⟨RX6, "freshFile", "()LLevelStore$SortedFile;"⟩
abbrev cX6_giveUpJob : ByteArray := prog_1_method_36_code
def yX6_giveUpJob : MethodName := ⟨RX6, "giveUpJob", "()I"⟩
abbrev cX6_retire : ByteArray := prog_1_method_37_code
def yX6_retire : MethodName := ⟨RX6, "retire", "(LLevelStore$FileRow;II)V"⟩
abbrev cX6_levelAt : ByteArray := prog_1_method_38_code
def yX6_levelAt : MethodName := ⟨RX6, "levelAt", "(I)LLevelStore$FileRow;"⟩
abbrev cX6_fileAt : ByteArray := prog_1_method_39_code
def yX6_fileAt : MethodName := ⟨RX6, "fileAt", "(II)LLevelStore$SortedFile;"⟩
abbrev cX6_filesInForce : ByteArray := prog_1_method_40_code
def yX6_filesInForce : MethodName := ⟨RX6, "filesInForce", "()I"⟩
abbrev cX6_bytesInForce : ByteArray := prog_1_method_41_code
def yX6_bytesInForce : MethodName := ⟨RX6, "bytesInForce", "()I"⟩
abbrev cX6_entriesInForce : ByteArray := prog_1_method_42_code
def yX6_entriesInForce : MethodName := ⟨RX6, "entriesInForce", "()I"⟩
def RX7 : String := "LevelStoreModel"
def TX7 : u_T := fun k => match k with
  | 0 => ("LevelStoreModel", "thrown", "I", false)
  | 1 => ("LevelStoreModel", "logged", "I", false)
  | 2 => ("LevelStoreModel", "synced", "I", false)
  | 3 => ("LevelStoreModel", "logKey", "[I", true)
  | 4 => ("LevelStoreModel", "logNumber", "[I", true)
  | 5 => ("LevelStoreModel", "logValue", "[I", true)
  | 6 => ("LevelStoreModel", "number", "I", false)
  | 7 => ("LevelStoreModel", "views", "[I", true)
  | 8 => ("LevelStoreModel", "level", "[I", true)
  | 9 => ("LevelStoreModel", "fileNumber", "[I", true)
  | 10 => ("LevelStoreModel", "place", "[I", true)
  | 11 => ("LevelStoreModel", "bytes", "[I", true)
  | 12 => ("LevelStoreModel", "many", "[I", true)
  | 13 => ("LevelStoreModel", "fileKey", "[I", true)
  | 14 => ("LevelStoreModel", "fileEntry", "[I", true)
  | 15 => ("LevelStoreModel", "fileValue", "[I", true)
  | 16 => ("LevelStoreModel", "nextFile", "I", false)
  | 17 => ("LevelStoreModel", "field", "[I", true)
  | 18 => ("LevelStoreModel", "listed", "I", false)
  | 19 => ("LevelStoreModel", "list", "[I", true)
  | 20 => ("LevelStoreModel", "isJob", "Z", false)
  | 21 => ("LevelStoreModel", "jobLevel", "I", false)
  | 22 => ("LevelStoreModel", "jobMany", "I", false)
  | 23 => ("LevelStoreModel", "jobDone", "I", false)
  | 24 => ("LevelStoreModel", "jobKey", "[I", true)
  | 25 => ("LevelStoreModel", "jobNumber", "[I", true)
  | 26 => ("LevelStoreModel", "jobValue", "[I", true)
  | 27 => ("LevelStoreModel", "isSource", "[Z", true)
  | 28 => ("LevelStoreModel", "jobViews", "[I", true)
  | 29 => ("LevelStoreModel", "jobLogged", "I", false)
  | 30 => ("LevelStoreModel", "made", "I", false)
  | 31 => ("LevelStoreModel", "isDone", "Z", false)
  | 32 => ("LevelStoreModel", "being", "I", false)
  | 33 => ("LevelStoreModel", "beingKey", "[I", true)
  | 34 => ("LevelStoreModel", "beingNumber", "[I", true)
  | 35 => ("LevelStoreModel", "beingValue", "[I", true)
  | 36 => ("LevelStoreModel", "coded", "I", false)
  | 37 => ("LevelStoreModel", "code", "[I", true)
  | 38 => ("LevelStoreModel", "asideKey", "[I", true)
  | 39 => ("LevelStoreModel", "asideNumber", "[I", true)
  | _ => ("LevelStoreModel", "asideValue", "[I", true)
def tyX7 : Nat → FieldType := fun k => match k with
  | 0 => .int
  | 1 => .int
  | 2 => .int
  | 3 => .array .int
  | 4 => .array .int
  | 5 => .array .int
  | 6 => .int
  | 7 => .array .int
  | 8 => .array .int
  | 9 => .array .int
  | 10 => .array .int
  | 11 => .array .int
  | 12 => .array .int
  | 13 => .array .int
  | 14 => .array .int
  | 15 => .array .int
  | 16 => .int
  | 17 => .array .int
  | 18 => .int
  | 19 => .array .int
  | 20 => .boolean
  | 21 => .int
  | 22 => .int
  | 23 => .int
  | 24 => .array .int
  | 25 => .array .int
  | 26 => .array .int
  | 27 => .array .boolean
  | 28 => .array .int
  | 29 => .int
  | 30 => .int
  | 31 => .boolean
  | 32 => .int
  | 33 => .array .int
  | 34 => .array .int
  | 35 => .array .int
  | 36 => .int
  | 37 => .array .int
  | 38 => .array .int
  | 39 => .array .int
  | _ => .array .int
theorem nmX7 : ∀ a, a < 41 → ∀ b, b < 41 → a ≠ b → (TX7 a).2.1 ≠ (TX7 b).2.1 := by decide +kernel
theorem tyX7_ok : ∀ k, k < 41 → parseFieldDescriptor (TX7 k).2.2.1 = some (tyX7 k) := by decide +kernel
abbrev cX7_init : ByteArray := prog_9_method_1_code
def yX7_init : MethodName := ⟨RX7, "<init>", "()V"⟩
abbrev cX7_in : ByteArray := prog_9_method_3_code
def yX7_in : MethodName := ⟨RX7, "in", "(JJJ)Z"⟩
abbrev cX7_write : ByteArray := prog_9_method_4_code
def yX7_write : MethodName := ⟨RX7, "write", "(II)I"⟩
abbrev cX7_put : ByteArray := prog_9_method_5_code
def yX7_put : MethodName := ⟨RX7, "put", "(II)I"⟩
abbrev cX7_drop : ByteArray := prog_9_method_6_code
def yX7_drop : MethodName := ⟨RX7, "drop", "(I)I"⟩
abbrev cX7_sync : ByteArray := prog_9_method_7_code
def yX7_sync : MethodName := ⟨RX7, "sync", "()I"⟩
abbrev cX7_crash : ByteArray := prog_9_method_8_code
def yX7_crash : MethodName := ⟨RX7, "crash", "(I)I"⟩
abbrev cX7_read : ByteArray := prog_9_method_9_code
def yX7_read : MethodName := ⟨RX7, "read", "(II)I"⟩
abbrev cX7_noView : ByteArray := prog_9_method_10_code
def yX7_noView : MethodName := ⟨RX7, "noView", "(I)Z"⟩
abbrev cX7_get : ByteArray := prog_9_method_11_code
def yX7_get : MethodName := ⟨RX7, "get", "(I)I"⟩
abbrev cX7_view : ByteArray := prog_9_method_12_code
def yX7_view : MethodName := ⟨RX7, "view", "(II)I"⟩
abbrev cX7_next : ByteArray := prog_9_method_13_code
def yX7_next : MethodName := ⟨RX7, "next", "(II)I"⟩
abbrev cX7_hold : ByteArray := prog_9_method_14_code
def yX7_hold : MethodName := ⟨RX7, "hold", "(I)I"⟩
abbrev cX7_release : ByteArray := prog_9_method_15_code
def yX7_release : MethodName := ⟨RX7, "release", "(I)I"⟩
abbrev cX7_listLevel : ByteArray := prog_9_method_16_code
def yX7_listLevel : MethodName := ⟨RX7, "listLevel", "(I)V"⟩
abbrev cX7_source : ByteArray := prog_9_method_17_code
def yX7_source : MethodName := ⟨RX7, "source", "(III)V"⟩
abbrev cX7_begin : ByteArray := prog_9_method_18_code
def yX7_begin : MethodName := ⟨RX7, "begin", "(I)V"⟩
abbrev cX7_flush : ByteArray := prog_9_method_19_code
def yX7_flush : MethodName := ⟨RX7, "flush", "()I"⟩
abbrev cX7_sourceFile : ByteArray := prog_9_method_20_code
def yX7_sourceFile : MethodName := ⟨RX7, "sourceFile", "(I)V"⟩
abbrev cX7_least : ByteArray := prog_9_method_21_code
def yX7_least : MethodName := ⟨RX7, "least", "(I)I"⟩
abbrev cX7_greatest : ByteArray := prog_9_method_22_code
def yX7_greatest : MethodName := ⟨RX7, "greatest", "(I)I"⟩
abbrev cX7_merge : ByteArray := prog_9_method_23_code
def yX7_merge : MethodName := ⟨RX7, "merge", "(II)I"⟩
abbrev cX7_isUnseen : ByteArray := prog_9_method_24_code
def yX7_isUnseen : MethodName := ⟨RX7, "isUnseen", "(I)Z"⟩
abbrev cX7_isLeftOut : ByteArray := prog_9_method_25_code
def yX7_isLeftOut : MethodName := ⟨RX7, "isLeftOut", "(I)Z"⟩
abbrev cX7_shortNumber : ByteArray := prog_9_method_26_code
def yX7_shortNumber : MethodName := ⟨RX7, "shortNumber", "(I)V"⟩
abbrev cX7_encode : ByteArray := prog_9_method_27_code
def yX7_encode : MethodName := ⟨RX7, "encode", "()V"⟩
abbrev cX7_room : ByteArray := prog_9_method_28_code
def yX7_room : MethodName := ⟨RX7, "room", "(I)I"⟩
abbrev cX7_ends : ByteArray := prog_9_method_29_code
def yX7_ends : MethodName := ⟨RX7, "ends", "()Z"⟩
abbrev cX7_giveUp : ByteArray := prog_9_method_30_code
def yX7_giveUp : MethodName := ⟨RX7, "giveUp", "()I"⟩
abbrev cX7_does : ByteArray := prog_9_method_31_code
def yX7_does : MethodName := ⟨RX7, "does", "(I)Z"⟩
abbrev cX7_work : ByteArray := prog_9_method_32_code
def yX7_work : MethodName := ⟨RX7, "work", "(I)I"⟩
abbrev cX7_install : ByteArray := prog_9_method_33_code
def yX7_install : MethodName := ⟨RX7, "install", "()I"⟩
abbrev cX7_stop : ByteArray := prog_9_method_34_code
def yX7_stop : MethodName := ⟨RX7, "stop", "()I"⟩
abbrev cX7_high : ByteArray := prog_9_method_35_code
def yX7_high : MethodName := ⟨RX7, "high", "()I"⟩
abbrev cX7_files : ByteArray := prog_9_method_36_code
def yX7_files : MethodName := ⟨RX7, "files", "(I)I"⟩
abbrev cX7_slot : ByteArray := prog_9_method_37_code
def yX7_slot : MethodName := ⟨RX7, "slot", "(II)I"⟩
abbrev cX7_file : ByteArray := prog_9_method_38_code
def yX7_file : MethodName := ⟨RX7, "file", "(III)I"⟩
abbrev cX7_entry : ByteArray := prog_9_method_39_code
def yX7_entry : MethodName := ⟨RX7, "entry", "(IIII)I"⟩
abbrev cX7_byteAt : ByteArray := prog_9_method_40_code
def yX7_byteAt : MethodName := ⟨RX7, "byteAt", "(I)I"⟩
abbrev cX7_log : ByteArray := prog_9_method_41_code
def yX7_log : MethodName := ⟨RX7, "log", "(II)I"⟩
abbrev cX7_count : ByteArray := prog_9_method_42_code
def yX7_count : MethodName := ⟨RX7, "count", "(I)I"⟩
abbrev cX7_check : ByteArray := prog_9_method_43_code
def yX7_check : MethodName := ⟨RX7, "check", "()I"⟩
abbrev cX7_codesAs : ByteArray := prog_9_method_44_code
def yX7_codesAs : MethodName := ⟨RX7, "codesAs", "(I)Z"⟩
def RJx145de : String := "java/io/Serializable"
def TJx145de : u_T := fun k => match k with
  | _ => ("", "", "", false)
def tyJx145de : Nat → FieldType := fun k => match k with
  | _ => .int
theorem nmJx145de : ∀ a, a < 0 → ∀ b, b < 0 → a ≠ b → (TJx145de a).2.1 ≠ (TJx145de b).2.1 := by decide +kernel
theorem tyJx145de_ok : ∀ k, k < 0 → parseFieldDescriptor (TJx145de k).2.2.1 = some (tyJx145de k) := by decide +kernel
def RJx8e188 : String := "java/lang/Cloneable"
def TJx8e188 : u_T := fun k => match k with
  | _ => ("", "", "", false)
def tyJx8e188 : Nat → FieldType := fun k => match k with
  | _ => .int
theorem nmJx8e188 : ∀ a, a < 0 → ∀ b, b < 0 → a ≠ b → (TJx8e188 a).2.1 ≠ (TJx8e188 b).2.1 := by decide +kernel
theorem tyJx8e188_ok : ∀ k, k < 0 → parseFieldDescriptor (TJx8e188 k).2.2.1 = some (tyJx8e188 k) := by decide +kernel
def RJxab1ab : String := "java/lang/Iterable"
def TJxab1ab : u_T := fun k => match k with
  | _ => ("", "", "", false)
def tyJxab1ab : Nat → FieldType := fun k => match k with
  | _ => .int
theorem nmJxab1ab : ∀ a, a < 0 → ∀ b, b < 0 → a ≠ b → (TJxab1ab a).2.1 ≠ (TJxab1ab b).2.1 := by decide +kernel
theorem tyJxab1ab_ok : ∀ k, k < 0 → parseFieldDescriptor (TJxab1ab k).2.2.1 = some (tyJxab1ab k) := by decide +kernel
def RJ9 : String := "java/lang/Math"
def TJ9 : u_T := fun k => match k with
  | _ => ("", "", "", false)
def tyJ9 : Nat → FieldType := fun k => match k with
  | _ => .int
theorem nmJ9 : ∀ a, a < 0 → ∀ b, b < 0 → a ≠ b → (TJ9 a).2.1 ≠ (TJ9 b).2.1 := by decide +kernel
theorem tyJ9_ok : ∀ k, k < 0 → parseFieldDescriptor (TJ9 k).2.2.1 = some (tyJ9 k) := by decide +kernel
abbrev cJ9_max_7cf53 : ByteArray := prog_13_method_65_code
def yJ9_max_7cf53 : MethodName := ⟨RJ9, "max", "(II)I"⟩
abbrev cJ9_min_7cf53 : ByteArray := prog_13_method_69_code
def yJ9_min_7cf53 : MethodName := ⟨RJ9, "min", "(II)I"⟩
def RJ10 : String := "java/lang/System"
def TJ10 : u_T := fun k => match k with
  | _ => ("", "", "", false)
def tyJ10 : Nat → FieldType := fun k => match k with
  | _ => .int
theorem nmJ10 : ∀ a, a < 0 → ∀ b, b < 0 → a ≠ b → (TJ10 a).2.1 ≠ (TJ10 b).2.1 := by decide +kernel
theorem tyJ10_ok : ∀ k, k < 0 → parseFieldDescriptor (TJ10 k).2.2.1 = some (tyJ10 k) := by decide +kernel
def RJxa1e45 : String := "java/util/AbstractCollection"
def TJxa1e45 : u_T := fun k => match k with
  | _ => ("", "", "", false)
def tyJxa1e45 : Nat → FieldType := fun k => match k with
  | _ => .int
theorem nmJxa1e45 : ∀ a, a < 0 → ∀ b, b < 0 → a ≠ b → (TJxa1e45 a).2.1 ≠ (TJxa1e45 b).2.1 := by decide +kernel
theorem tyJxa1e45_ok : ∀ k, k < 0 → parseFieldDescriptor (TJxa1e45 k).2.2.1 = some (tyJxa1e45 k) := by decide +kernel
abbrev cJxa1e45_init_da8c8 : ByteArray := prog_15_method_1_code
def yJxa1e45_init_da8c8 : MethodName := ⟨RJxa1e45, "<init>", "()V"⟩
def RJxc12de : String := "java/util/AbstractList"
def TJxc12de : u_T := fun k => match k with
  | _ => ("", "", "", false)
def tyJxc12de : Nat → FieldType := fun k => match k with
  | _ => .int
theorem nmJxc12de : ∀ a, a < 0 → ∀ b, b < 0 → a ≠ b → (TJxc12de a).2.1 ≠ (TJxc12de b).2.1 := by decide +kernel
theorem tyJxc12de_ok : ∀ k, k < 0 → parseFieldDescriptor (TJxc12de k).2.2.1 = some (tyJxc12de k) := by decide +kernel
abbrev cJxc12de_init_da8c8 : ByteArray := prog_16_method_1_code
def yJxc12de_init_da8c8 : MethodName := ⟨RJxc12de, "<init>", "()V"⟩
def RJx4a65c : String := "java/util/ArrayList"
def TJx4a65c : u_T := fun k => match k with
  | 0 => ("java/util/AbstractList", "modCount", "I", false)
  | 1 => ("java/util/ArrayList", "elementData", "[Ljava/lang/Object;", false)
  | _ => ("java/util/ArrayList", "size", "I", false)
def tyJx4a65c : Nat → FieldType := fun k => match k with
  | 0 => .int
  | 1 => .array (.object "java/lang/Object")
  | _ => .int
theorem nmJx4a65c : ∀ a, a < 3 → ∀ b, b < 3 → a ≠ b → (TJx4a65c a).2.1 ≠ (TJx4a65c b).2.1 := by decide +kernel
theorem tyJx4a65c_ok : ∀ k, k < 3 → parseFieldDescriptor (TJx4a65c k).2.2.1 = some (tyJx4a65c k) := by decide +kernel
abbrev cJx4a65c_init_da8c8 : ByteArray := prog_17_method_2_code
def yJx4a65c_init_da8c8 : MethodName := ⟨RJx4a65c, "<init>", "()V"⟩
abbrev cJx4a65c_grow_92f84 : ByteArray := prog_17_method_6_code
def yJx4a65c_grow_92f84 : MethodName := ⟨RJx4a65c, "grow", "(I)[Ljava/lang/Object;"⟩
abbrev cJx4a65c_grow_d5877 : ByteArray := prog_17_method_7_code
def yJx4a65c_grow_d5877 : MethodName := ⟨RJx4a65c, "grow", "()[Ljava/lang/Object;"⟩
abbrev cJx4a65c_size_8abf5 : ByteArray := prog_17_method_8_code
def yJx4a65c_size_8abf5 : MethodName := ⟨RJx4a65c, "size", "()I"⟩
abbrev cJx4a65c_elementData_915e3 : ByteArray := prog_17_method_18_code
def yJx4a65c_elementData_915e3 : MethodName := ⟨RJx4a65c, "elementData", "(I)Ljava/lang/Object;"⟩
abbrev cJx4a65c_get_915e3 : ByteArray := prog_17_method_20_code
def yJx4a65c_get_915e3 : MethodName := ⟨RJx4a65c, "get", "(I)Ljava/lang/Object;"⟩
abbrev cJx4a65c_add_7a177 : ByteArray := prog_17_method_26_code
def yJx4a65c_add_7a177 : MethodName := ⟨RJx4a65c, "add", "(ILjava/lang/Object;)V"⟩
abbrev cJx4a65c_remove_915e3 : ByteArray := prog_17_method_29_code
def yJx4a65c_remove_915e3 : MethodName := ⟨RJx4a65c, "remove", "(I)Ljava/lang/Object;"⟩
abbrev cJx4a65c_fastRemove_b59b0 : ByteArray := prog_17_method_39_code
def yJx4a65c_fastRemove_b59b0 : MethodName := ⟨RJx4a65c, "fastRemove", "([Ljava/lang/Object;I)V"⟩
abbrev cJx4a65c_clear_da8c8 : ByteArray := prog_17_method_40_code
def yJx4a65c_clear_da8c8 : MethodName := ⟨RJx4a65c, "clear", "()V"⟩
abbrev cJx4a65c_rangeCheckForAdd_d00df : ByteArray := prog_17_method_45_code
def yJx4a65c_rangeCheckForAdd_d00df : MethodName := ⟨RJx4a65c, "rangeCheckForAdd", "(I)V"⟩
def RJ7 : String := "java/util/Arrays"
def TJ7 : u_T := fun k => match k with
  | _ => ("", "", "", false)
def tyJ7 : Nat → FieldType := fun k => match k with
  | _ => .int
theorem nmJ7 : ∀ a, a < 0 → ∀ b, b < 0 → a ≠ b → (TJ7 a).2.1 ≠ (TJ7 b).2.1 := by decide +kernel
theorem tyJ7_ok : ∀ k, k < 0 → parseFieldDescriptor (TJ7 k).2.2.1 = some (tyJ7 k) := by decide +kernel
abbrev cJ7_copyOf_1904c : ByteArray := prog_18_method_119_code
def yJ7_copyOf_1904c : MethodName := ⟨RJ7, "copyOf", "([Ljava/lang/Object;I)[Ljava/lang/Object;"⟩
abbrev cJ7_copyOf_6403c : ByteArray := prog_18_method_120_code
def yJ7_copyOf_6403c : MethodName := ⟨RJ7, "copyOf", "([Ljava/lang/Object;ILjava/lang/Class;)[Ljava/lang/Object;"⟩
def RJx5ef63 : String := "java/util/Collection"
def TJx5ef63 : u_T := fun k => match k with
  | _ => ("", "", "", false)
def tyJx5ef63 : Nat → FieldType := fun k => match k with
  | _ => .int
theorem nmJx5ef63 : ∀ a, a < 0 → ∀ b, b < 0 → a ≠ b → (TJx5ef63 a).2.1 ≠ (TJx5ef63 b).2.1 := by decide +kernel
theorem tyJx5ef63_ok : ∀ k, k < 0 → parseFieldDescriptor (TJx5ef63 k).2.2.1 = some (tyJx5ef63 k) := by decide +kernel
def RJxbd725 : String := "java/util/List"
def TJxbd725 : u_T := fun k => match k with
  | _ => ("", "", "", false)
def tyJxbd725 : Nat → FieldType := fun k => match k with
  | _ => .int
theorem nmJxbd725 : ∀ a, a < 0 → ∀ b, b < 0 → a ≠ b → (TJxbd725 a).2.1 ≠ (TJxbd725 b).2.1 := by decide +kernel
theorem tyJxbd725_ok : ∀ k, k < 0 → parseFieldDescriptor (TJxbd725 k).2.2.1 = some (tyJxbd725 k) := by decide +kernel
def RJ15 : String := "java/util/Objects"
def TJ15 : u_T := fun k => match k with
  | _ => ("", "", "", false)
def tyJ15 : Nat → FieldType := fun k => match k with
  | _ => .int
theorem nmJ15 : ∀ a, a < 0 → ∀ b, b < 0 → a ≠ b → (TJ15 a).2.1 ≠ (TJ15 b).2.1 := by decide +kernel
theorem tyJ15_ok : ∀ k, k < 0 → parseFieldDescriptor (TJ15 k).2.2.1 = some (tyJ15 k) := by decide +kernel
abbrev cJ15_checkIndex_7cf53 : ByteArray := prog_21_method_17_code
def yJ15_checkIndex_7cf53 : MethodName := ⟨RJ15, "checkIndex", "(II)I"⟩
def RJxf0a74 : String := "java/util/RandomAccess"
def TJxf0a74 : u_T := fun k => match k with
  | _ => ("", "", "", false)
def tyJxf0a74 : Nat → FieldType := fun k => match k with
  | _ => .int
theorem nmJxf0a74 : ∀ a, a < 0 → ∀ b, b < 0 → a ≠ b → (TJxf0a74 a).2.1 ≠ (TJxf0a74 b).2.1 := by decide +kernel
theorem tyJxf0a74_ok : ∀ k, k < 0 → parseFieldDescriptor (TJxf0a74 k).2.2.1 = some (tyJxf0a74 k) := by decide +kernel
def RJxa66e6 : String := "java/util/SequencedCollection"
def TJxa66e6 : u_T := fun k => match k with
  | _ => ("", "", "", false)
def tyJxa66e6 : Nat → FieldType := fun k => match k with
  | _ => .int
theorem nmJxa66e6 : ∀ a, a < 0 → ∀ b, b < 0 → a ≠ b → (TJxa66e6 a).2.1 ≠ (TJxa66e6 b).2.1 := by decide +kernel
theorem tyJxa66e6_ok : ∀ k, k < 0 → parseFieldDescriptor (TJxa66e6 k).2.2.1 = some (tyJxa66e6 k) := by decide +kernel
def RJ8 : String := "jdk/internal/util/ArraysSupport"
def TJ8 : u_T := fun k => match k with
  | _ => ("", "", "", false)
def tyJ8 : Nat → FieldType := fun k => match k with
  | _ => .int
theorem nmJ8 : ∀ a, a < 0 → ∀ b, b < 0 → a ≠ b → (TJ8 a).2.1 ≠ (TJ8 b).2.1 := by decide +kernel
theorem tyJ8_ok : ∀ k, k < 0 → parseFieldDescriptor (TJ8 k).2.2.1 = some (tyJ8 k) := by decide +kernel
abbrev cJ8_newLength_cabcc : ByteArray := prog_24_method_27_code
def yJ8_newLength_cabcc : MethodName := ⟨RJ8, "newLength", "(III)I"⟩
abbrev cJ8_hugeLength_7cf53 : ByteArray := prog_24_method_28_code
def yJ8_hugeLength_7cf53 : MethodName := ⟨RJ8, "hugeLength", "(II)I"⟩
def RJ3 : String := "jdk/internal/util/Preconditions"
def TJ3 : u_T := fun k => match k with
  | _ => ("", "", "", false)
def tyJ3 : Nat → FieldType := fun k => match k with
  | _ => .int
theorem nmJ3 : ∀ a, a < 0 → ∀ b, b < 0 → a ≠ b → (TJ3 a).2.1 ≠ (TJ3 b).2.1 := by decide +kernel
theorem tyJ3_ok : ∀ k, k < 0 → parseFieldDescriptor (TJ3 k).2.2.1 = some (tyJ3 k) := by decide +kernel
abbrev cJ3_checkIndex_8e157 : ByteArray := prog_25_method_11_code
def yJ3_checkIndex_8e157 : MethodName := ⟨RJ3, "checkIndex", "(IILjava/util/function/BiFunction;)I"⟩
def RL : String := "LevelStoreLaw"
abbrev cL_law : ByteArray := code
def yL_law : MethodName := ⟨RL, "law", "([I)Z"⟩
abbrev vwCl : List vw_C := [(RJx4a65c, TJx4a65c, 3), (RX0, TX0, 4), (RX1, TX1, 1), (RX2, TX2, 12), (RX3, TX3, 5), (RX4, TX4, 4), (RX5, TX5, 4), (RX6, TX6, 10), (RX7, TX7, 41)]
abbrev ab_MT : Type := MethodName × ByteArray × Nat × Option FieldType
abbrev MX6_init : ab_MT := (yX6_init, cX6_init, 1, none)
abbrev MX4_init : ab_MT := (yX4_init, cX4_init, 3, none)
abbrev MJ9_max_7cf53 : ab_MT := (yJ9_max_7cf53, cJ9_max_7cf53, 2, (some FieldType.int))
abbrev MX1_init : ab_MT := (yX1_init, cX1_init, 1, none)
abbrev MJx4a65c_init_da8c8 : ab_MT := (yJx4a65c_init_da8c8, cJx4a65c_init_da8c8, 1, none)
abbrev MJxc12de_init_da8c8 : ab_MT := (yJxc12de_init_da8c8, cJxc12de_init_da8c8, 1, none)
abbrev MJxa1e45_init_da8c8 : ab_MT := (yJxa1e45_init_da8c8, cJxa1e45_init_da8c8, 1, none)
abbrev MX0_init : ab_MT := (yX0_init, cX0_init, 1, none)
abbrev MX3_init : ab_MT := (yX3_init, cX3_init, 1, none)
abbrev MX2_init : ab_MT := (yX2_init, cX2_init, 1, none)
abbrev MX6_put : ab_MT := (yX6_put, cX6_put, 3, (some FieldType.int))
abbrev MX6_isKey : ab_MT := (yX6_isKey, cX6_isKey, 1, (some FieldType.boolean))
abbrev MX6_write : ab_MT := (yX6_write, cX6_write, 3, (some FieldType.int))
abbrev MX4_add : ab_MT := (yX4_add, cX4_add, 4, none)
abbrev MX4_setAt : ab_MT := (yX4_setAt, cX4_setAt, 5, none)
abbrev MX4_has : ab_MT := (yX4_has, cX4_has, 2, (some FieldType.boolean))
abbrev MX6_drop : ab_MT := (yX6_drop, cX6_drop, 2, (some FieldType.int))
abbrev MX6_sync : ab_MT := (yX6_sync, cX6_sync, 2, (some FieldType.int))
abbrev MX6_crash : ab_MT := (yX6_crash, cX6_crash, 3, (some FieldType.int))
abbrev MX6_giveUpJob : ab_MT := (yX6_giveUpJob, cX6_giveUpJob, 2, (some FieldType.int))
abbrev MX1_size : ab_MT := (yX1_size, cX1_size, 1, (some FieldType.int))
abbrev MJx4a65c_size_8abf5 : ab_MT := (yJx4a65c_size_8abf5, cJx4a65c_size_8abf5, 1, (some FieldType.int))
abbrev MX6_retire : ab_MT := (yX6_retire, cX6_retire, 6, none)
abbrev MX1_takeOut : ab_MT := (yX1_takeOut, cX1_takeOut, 2, (some (FieldType.object "LevelStore$SortedFile")))
abbrev MJx4a65c_remove_915e3 : ab_MT := (yJx4a65c_remove_915e3, cJx4a65c_remove_915e3, 4, (some (FieldType.object "java/lang/Object")))
abbrev MJ15_checkIndex_7cf53 : ab_MT := (yJ15_checkIndex_7cf53, cJ15_checkIndex_7cf53, 2, (some FieldType.int))
abbrev MJ3_checkIndex_8e157 : ab_MT := (yJ3_checkIndex_8e157, cJ3_checkIndex_8e157, 3, (some FieldType.int))
abbrev MJx4a65c_fastRemove_b59b0 : ab_MT := (yJx4a65c_fastRemove_b59b0, cJx4a65c_fastRemove_b59b0, 4, none)
abbrev MX0_free : ab_MT := (yX0_free, cX0_free, 2, none)
abbrev MX0_mark : ab_MT := (yX0_mark, cX0_mark, 4, none)
abbrev MX0_has : ab_MT := (yX0_has, cX0_has, 2, (some FieldType.boolean))
abbrev MX1_add : ab_MT := (yX1_add, cX1_add, 2, none)
abbrev MX1_insert : ab_MT := (yX1_insert, cX1_insert, 3, none)
abbrev MJx4a65c_add_7a177 : ab_MT := (yJx4a65c_add_7a177, cJx4a65c_add_7a177, 5, none)
abbrev MJx4a65c_rangeCheckForAdd_d00df : ab_MT := (yJx4a65c_rangeCheckForAdd_d00df, cJx4a65c_rangeCheckForAdd_d00df, 2, none)
abbrev MJx4a65c_grow_d5877 : ab_MT := (yJx4a65c_grow_d5877, cJx4a65c_grow_d5877, 1, (some (FieldType.array (FieldType.object "java/lang/Object"))))
abbrev MJx4a65c_grow_92f84 : ab_MT := (yJx4a65c_grow_92f84, cJx4a65c_grow_92f84, 4, (some (FieldType.array (FieldType.object "java/lang/Object"))))
abbrev MJ8_newLength_cabcc : ab_MT := (yJ8_newLength_cabcc, cJ8_newLength_cabcc, 4, (some FieldType.int))
abbrev MJ8_hugeLength_7cf53 : ab_MT := (yJ8_hugeLength_7cf53, cJ8_hugeLength_7cf53, 3, (some FieldType.int))
abbrev MJ7_copyOf_1904c : ab_MT := (yJ7_copyOf_1904c, cJ7_copyOf_1904c, 2, (some (FieldType.array (FieldType.object "java/lang/Object"))))
abbrev MJ7_copyOf_6403c : ab_MT := (yJ7_copyOf_6403c, cJ7_copyOf_6403c, 4, (some (FieldType.array (FieldType.object "java/lang/Object"))))
abbrev MJ9_min_7cf53 : ab_MT := (yJ9_min_7cf53, cJ9_min_7cf53, 2, (some FieldType.int))
abbrev MX2_end : ab_MT := (yX2_end, cX2_end, 1, none)
abbrev MX1_empty : ab_MT := (yX1_empty, cX1_empty, 1, none)
abbrev MJx4a65c_clear_da8c8 : ab_MT := (yJx4a65c_clear_da8c8, cJx4a65c_clear_da8c8, 4, none)
abbrev MX6_greatestNumberLeft : ab_MT := (yX6_greatestNumberLeft, cX6_greatestNumberLeft, 6, (some FieldType.int))
abbrev MX4_greatestNumber : ab_MT := (yX4_greatestNumber, cX4_greatestNumber, 3, (some FieldType.int))
abbrev MX4_number : ab_MT := (yX4_number, cX4_number, 2, (some FieldType.int))
abbrev MX1_greatestNumber : ab_MT := (yX1_greatestNumber, cX1_greatestNumber, 4, (some FieldType.int))
abbrev MX1_at : ab_MT := (yX1_at, cX1_at, 2, (some (FieldType.object "LevelStore$SortedFile")))
abbrev MJx4a65c_get_915e3 : ab_MT := (yJx4a65c_get_915e3, cJx4a65c_get_915e3, 2, (some (FieldType.object "java/lang/Object")))
abbrev MJx4a65c_elementData_915e3 : ab_MT := (yJx4a65c_elementData_915e3, cJx4a65c_elementData_915e3, 2, (some (FieldType.object "java/lang/Object")))
abbrev MX6_get : ab_MT := (yX6_get, cX6_get, 2, (some FieldType.int))
abbrev MX6_readUpTo : ab_MT := (yX6_readUpTo, cX6_readUpTo, 3, (some FieldType.int))
abbrev MX3_begin : ab_MT := (yX3_begin, cX3_begin, 5, none)
abbrev MX6_readAll : ab_MT := (yX6_readAll, cX6_readAll, 5, none)
abbrev MX3_take : ab_MT := (yX3_take, cX3_take, 5, none)
abbrev MX4_key : ab_MT := (yX4_key, cX4_key, 2, (some FieldType.int))
abbrev MX4_value : ab_MT := (yX4_value, cX4_value, 2, (some FieldType.int))
abbrev MX1_letRead : ab_MT := (yX1_letRead, cX1_letRead, 4, none)
abbrev MX3_concerns : ab_MT := (yX3_concerns, cX3_concerns, 2, (some FieldType.boolean))
abbrev MX5_leastKey : ab_MT := (yX5_leastKey, cX5_leastKey, 1, (some FieldType.int))
abbrev MX5_greatestKey : ab_MT := (yX5_greatestKey, cX5_greatestKey, 1, (some FieldType.int))
abbrev MX3_valueOf : ab_MT := (yX3_valueOf, cX3_valueOf, 2, (some FieldType.int))
abbrev MX6_view : ab_MT := (yX6_view, cX6_view, 3, (some FieldType.int))
abbrev MX6_isHeld : ab_MT := (yX6_isHeld, cX6_isHeld, 2, (some FieldType.boolean))
abbrev MX6_numberOfView : ab_MT := (yX6_numberOfView, cX6_numberOfView, 2, (some FieldType.int))
abbrev MX6_isView : ab_MT := (yX6_isView, cX6_isView, 2, (some FieldType.boolean))
abbrev MX6_next : ab_MT := (yX6_next, cX6_next, 4, (some FieldType.int))
abbrev MX3_leastKeyWithValue : ab_MT := (yX3_leastKeyWithValue, cX3_leastKeyWithValue, 2, (some FieldType.int))
abbrev MX6_hold : ab_MT := (yX6_hold, cX6_hold, 2, (some FieldType.int))
abbrev MX6_release : ab_MT := (yX6_release, cX6_release, 3, (some FieldType.int))
abbrev MX6_flush : ab_MT := (yX6_flush, cX6_flush, 2, (some FieldType.int))
abbrev MX2_begin : ab_MT := (yX2_begin, cX2_begin, 3, none)
abbrev MX6_files : ab_MT := (yX6_files, cX6_files, 3, (some FieldType.int))
abbrev MX6_levelAt : ab_MT := (yX6_levelAt, cX6_levelAt, 2, (some (FieldType.object "LevelStore$FileRow")))
abbrev MX4_insert : ab_MT := (yX4_insert, cX4_insert, 5, none)
abbrev MX4_standsBehind : ab_MT := (yX4_standsBehind, cX4_standsBehind, 4, (some FieldType.boolean))
abbrev MX4_copyTo : ab_MT := (yX4_copyTo, cX4_copyTo, 4, none)
abbrev MX2_decide : ab_MT := (yX2_decide, cX2_decide, 3, none)
abbrev MX2_isFirstOfKey : ab_MT := (yX2_isFirstOfKey, cX2_isFirstOfKey, 2, (some FieldType.boolean))
abbrev MX2_isSeen : ab_MT := (yX2_isSeen, cX2_isSeen, 7, (some FieldType.boolean))
abbrev MX2_leaveOutGraves : ab_MT := (yX2_leaveOutGraves, cX2_leaveOutGraves, 3, none)
abbrev MX2_isLastOfKey : ab_MT := (yX2_isLastOfKey, cX2_isLastOfKey, 2, (some FieldType.boolean))
abbrev MX4_isGrave : ab_MT := (yX4_isGrave, cX4_isGrave, 2, (some FieldType.boolean))
abbrev MX2_left : ab_MT := (yX2_left, cX2_left, 1, (some FieldType.int))
abbrev MX6_merge : ab_MT := (yX6_merge, cX6_merge, 5, (some FieldType.int))
abbrev MX1_leastKey : ab_MT := (yX1_leastKey, cX1_leastKey, 6, (some FieldType.int))
abbrev MX1_howManyEndBelow : ab_MT := (yX1_howManyEndBelow, cX1_howManyEndBelow, 5, (some FieldType.int))
abbrev MX1_greatestKey : ab_MT := (yX1_greatestKey, cX1_greatestKey, 6, (some FieldType.int))
abbrev MX1_howManyBeginUpTo : ab_MT := (yX1_howManyBeginUpTo, cX1_howManyBeginUpTo, 5, (some FieldType.int))
abbrev MX1_mergeInto : ab_MT := (yX1_mergeInto, cX1_mergeInto, 6, none)
abbrev MX4_mergeIn : ab_MT := (yX4_mergeIn, cX4_mergeIn, 6, none)
abbrev MX6_work : ab_MT := (yX6_work, cX6_work, 4, (some FieldType.int))
abbrev MX6_doOneEntry : ab_MT := (yX6_doOneEntry, cX6_doOneEntry, 2, (some FieldType.boolean))
abbrev MX2_isLeftOut : ab_MT := (yX2_isLeftOut, cX2_isLeftOut, 2, (some FieldType.boolean))
abbrev MX2_endsFileAhead : ab_MT := (yX2_endsFileAhead, cX2_endsFileAhead, 2, (some FieldType.boolean))
abbrev MX6_endFile : ab_MT := (yX6_endFile, cX6_endFile, 2, (some FieldType.boolean))
abbrev MX6_freshFile : ab_MT := (yX6_freshFile, cX6_freshFile, 2, (some (FieldType.object "LevelStore$SortedFile")))
abbrev MX5_init : ab_MT := (yX5_init, cX5_init, 1, none)
abbrev MX4_takeAll : ab_MT := (yX4_takeAll, cX4_takeAll, 3, none)
abbrev MX0_lay : ab_MT := (yX0_lay, cX0_lay, 4, (some FieldType.boolean))
abbrev MX0_encode : ab_MT := (yX0_encode, cX0_encode, 5, none)
abbrev MX0_emit : ab_MT := (yX0_emit, cX0_emit, 2, none)
abbrev MX0_emitShort : ab_MT := (yX0_emitShort, cX0_emitShort, 4, none)
abbrev MX0_folded : ab_MT := (yX0_folded, cX0_folded, 1, (some FieldType.int))
abbrev MX0_sumOfCode : ab_MT := (yX0_sumOfCode, cX0_sumOfCode, 3, (some FieldType.int))
abbrev MX0_firstRoom : ab_MT := (yX0_firstRoom, cX0_firstRoom, 4, (some FieldType.int))
abbrev MX6_install : ab_MT := (yX6_install, cX6_install, 4, (some FieldType.int))
abbrev MX6_loseFirstLogged : ab_MT := (yX6_loseFirstLogged, cX6_loseFirstLogged, 2, none)
abbrev MX4_loseFirst : ab_MT := (yX4_loseFirst, cX4_loseFirst, 4, none)
abbrev MX6_stop : ab_MT := (yX6_stop, cX6_stop, 1, (some FieldType.int))
abbrev MX6_high : ab_MT := (yX6_high, cX6_high, 3, (some FieldType.int))
abbrev MX6_file : ab_MT := (yX6_file, cX6_file, 5, (some FieldType.int))
abbrev MX6_fileAt : ab_MT := (yX6_fileAt, cX6_fileAt, 4, (some (FieldType.object "LevelStore$SortedFile")))
abbrev MX6_entry : ab_MT := (yX6_entry, cX6_entry, 6, (some FieldType.int))
abbrev MX4_told : ab_MT := (yX4_told, cX4_told, 3, (some FieldType.int))
abbrev MX6_byteAt : ab_MT := (yX6_byteAt, cX6_byteAt, 2, (some FieldType.int))
abbrev MX6_log : ab_MT := (yX6_log, cX6_log, 3, (some FieldType.int))
abbrev MX6_count : ab_MT := (yX6_count, cX6_count, 2, (some FieldType.int))
abbrev MX6_filesInForce : ab_MT := (yX6_filesInForce, cX6_filesInForce, 6, (some FieldType.int))
abbrev MX6_bytesInForce : ab_MT := (yX6_bytesInForce, cX6_bytesInForce, 6, (some FieldType.int))
abbrev MX1_bytes : ab_MT := (yX1_bytes, cX1_bytes, 4, (some FieldType.int))
abbrev MX6_entriesInForce : ab_MT := (yX6_entriesInForce, cX6_entriesInForce, 6, (some FieldType.int))
abbrev MX1_entries : ab_MT := (yX1_entries, cX1_entries, 4, (some FieldType.int))
abbrev MX6_check : ab_MT := (yX6_check, cX6_check, 8, (some FieldType.int))
abbrev MX0_holds : ab_MT := (yX0_holds, cX0_holds, 4, (some FieldType.boolean))
abbrev MX7_init : ab_MT := (yX7_init, cX7_init, 2, none)
abbrev MX7_put : ab_MT := (yX7_put, cX7_put, 3, (some FieldType.int))
abbrev MX7_in : ab_MT := (yX7_in, cX7_in, 6, (some FieldType.boolean))
abbrev MX7_write : ab_MT := (yX7_write, cX7_write, 3, (some FieldType.int))
abbrev MX7_drop : ab_MT := (yX7_drop, cX7_drop, 2, (some FieldType.int))
abbrev MX7_sync : ab_MT := (yX7_sync, cX7_sync, 2, (some FieldType.int))
abbrev MX7_crash : ab_MT := (yX7_crash, cX7_crash, 4, (some FieldType.int))
abbrev MX7_giveUp : ab_MT := (yX7_giveUp, cX7_giveUp, 3, (some FieldType.int))
abbrev MX7_get : ab_MT := (yX7_get, cX7_get, 2, (some FieldType.int))
abbrev MX7_read : ab_MT := (yX7_read, cX7_read, 7, (some FieldType.int))
abbrev MX7_view : ab_MT := (yX7_view, cX7_view, 3, (some FieldType.int))
abbrev MX7_noView : ab_MT := (yX7_noView, cX7_noView, 2, (some FieldType.boolean))
abbrev MX7_next : ab_MT := (yX7_next, cX7_next, 5, (some FieldType.int))
abbrev MX7_hold : ab_MT := (yX7_hold, cX7_hold, 2, (some FieldType.int))
abbrev MX7_release : ab_MT := (yX7_release, cX7_release, 3, (some FieldType.int))
abbrev MX7_flush : ab_MT := (yX7_flush, cX7_flush, 2, (some FieldType.int))
abbrev MX7_begin : ab_MT := (yX7_begin, cX7_begin, 3, none)
abbrev MX7_source : ab_MT := (yX7_source, cX7_source, 5, none)
abbrev MX7_merge : ab_MT := (yX7_merge, cX7_merge, 6, (some FieldType.int))
abbrev MX7_listLevel : ab_MT := (yX7_listLevel, cX7_listLevel, 4, none)
abbrev MX7_least : ab_MT := (yX7_least, cX7_least, 2, (some FieldType.int))
abbrev MX7_greatest : ab_MT := (yX7_greatest, cX7_greatest, 2, (some FieldType.int))
abbrev MX7_sourceFile : ab_MT := (yX7_sourceFile, cX7_sourceFile, 3, none)
abbrev MX7_work : ab_MT := (yX7_work, cX7_work, 4, (some FieldType.int))
abbrev MX7_does : ab_MT := (yX7_does, cX7_does, 2, (some FieldType.boolean))
abbrev MX7_isLeftOut : ab_MT := (yX7_isLeftOut, cX7_isLeftOut, 4, (some FieldType.boolean))
abbrev MX7_isUnseen : ab_MT := (yX7_isUnseen, cX7_isUnseen, 4, (some FieldType.boolean))
abbrev MX7_ends : ab_MT := (yX7_ends, cX7_ends, 4, (some FieldType.boolean))
abbrev MX7_encode : ab_MT := (yX7_encode, cX7_encode, 3, none)
abbrev MX7_shortNumber : ab_MT := (yX7_shortNumber, cX7_shortNumber, 3, none)
abbrev MX7_room : ab_MT := (yX7_room, cX7_room, 5, (some FieldType.int))
abbrev MX7_install : ab_MT := (yX7_install, cX7_install, 3, (some FieldType.int))
abbrev MX7_stop : ab_MT := (yX7_stop, cX7_stop, 1, (some FieldType.int))
abbrev MX7_high : ab_MT := (yX7_high, cX7_high, 2, (some FieldType.int))
abbrev MX7_files : ab_MT := (yX7_files, cX7_files, 2, (some FieldType.int))
abbrev MX7_file : ab_MT := (yX7_file, cX7_file, 5, (some FieldType.int))
abbrev MX7_slot : ab_MT := (yX7_slot, cX7_slot, 3, (some FieldType.int))
abbrev MX7_entry : ab_MT := (yX7_entry, cX7_entry, 7, (some FieldType.int))
abbrev MX7_byteAt : ab_MT := (yX7_byteAt, cX7_byteAt, 2, (some FieldType.int))
abbrev MX7_log : ab_MT := (yX7_log, cX7_log, 3, (some FieldType.int))
abbrev MX7_count : ab_MT := (yX7_count, cX7_count, 6, (some FieldType.int))
abbrev MX7_check : ab_MT := (yX7_check, cX7_check, 5, (some FieldType.int))
abbrev MX7_codesAs : ab_MT := (yX7_codesAs, cX7_codesAs, 4, (some FieldType.boolean))
end
section
/-! THE WORLD AS PLANES: a cell has a number; what is at it is its kind and length (S), its references (R), its ints (I) -/
abbrev ab_G : Type := (Nat → ClassId) × (Nat → Nat → Nat) × (Nat → ClassId) × Nat × (Nat → Nat)
abbrev ab_D (G : ab_G) : va_G := (G.1, G.2.1)
abbrev ab_A (G : ab_G) : Nat → ClassId := G.2.2.1
abbrev ab_B (G : ab_G) : Nat := G.2.2.2.1
abbrev ab_L (G : ab_G) : Nat → Nat := G.2.2.2.2
def ab_R (G : ab_G) (i : Nat) : Nat := if i < 3 then ab_L G i else ab_B G + (i - 3)
def ab_V (G : ab_G) (v : Value) : Value := match v with
  | .ref i => .ref (ab_R G i)
  | v => v
abbrev ab_SH : Type := Nat → Nat × Nat
abbrev ab_RR : Type := Nat → Nat → Option Nat
abbrev ab_II : Type := Nat → Nat → Int32
abbrev ab_M : Type := Nat × ab_SH × ab_RR × ab_II
def ab_ty (ci : Nat) : Nat → FieldType := match ci with
  | 0 => tyJx4a65c
  | 1 => tyX0
  | 2 => tyX1
  | 3 => tyX2
  | 4 => tyX3
  | 5 => tyX4
  | 6 => tyX5
  | 7 => tyX6
  | _ => tyX7
def ab_nf (ci : Nat) : Nat := match ci with
  | 0 => 3
  | 1 => 4
  | 2 => 1
  | 3 => 12
  | 4 => 5
  | 5 => 4
  | 6 => 4
  | 7 => 10
  | _ => 41
def ab_rt (t : FieldType) : Bool := match t with
  | .object _ => true
  | .array _ => true
  | _ => false
def ab_isR (ci k : Nat) : Bool := ab_rt (ab_ty ci k)
def ab_F (G : ab_G) (R : ab_RR) (I : ab_II) (ci j k : Nat) : Value := if ab_isR ci k = true then va_rf ((R j k).map (ab_R G)) else .int (I j k)
def ab_E (G : ab_G) (S : ab_SH) (R : ab_RR) (I : ab_II) (j : Nat) : va_E :=
  if (S j).1 < 9 then .inr ((S j).1, (List.range (ab_nf (S j).1)).map (ab_F G R I (S j).1 j))
  else if (S j).1 < 11 then .inl (ab_A G (S j).1, (S j).2, .inl (I j))
  else .inl (ab_A G (S j).1, (S j).2, .inr (.inr (.inr (.inr (fun i => (R j i).map (ab_R G))))))
def ab_W (G : ab_G) (h : ab_M) : va_W := (List.range (h.1 - 3)).map (fun i => (ab_B G + i, ab_E G h.2.1 h.2.2.1 h.2.2.2 (i + 3)))
def ab_u2 {α : Type} (f : Nat → Nat → α) (r k : Nat) (x : α) : Nat → Nat → α := fun j i => if j = r ∧ i = k then x else f j i
theorem ab_u2_s {α : Type} (f : Nat → Nat → α) (r k : Nat) (x : α) : ab_u2 f r k x r k = x := by simp [ab_u2]
theorem ab_u2_n {α : Type} (f : Nat → Nat → α) {r k j i : Nat} (x : α) (h : j ≠ r ∨ i ≠ k) : ab_u2 f r k x j i = f j i := by
  unfold ab_u2
  rw [if_neg]
  rintro ⟨h1, h2⟩
  rcases h with h | h
  · exact h h1
  · exact h h2
theorem ab_u2_r {α : Type} (f : Nat → Nat → α) {r k j : Nat} (x : α) (h : j ≠ r) : ab_u2 f r k x j = f j := funext fun i => ab_u2_n f x (Or.inl h)
/-- cell r is there, of that kind -/
def ab_ok (n : Nat) (S : ab_SH) (r ci : Nat) : Prop := 3 ≤ r ∧ r < n ∧ (S r).1 = ci
theorem ab_R_big (G : ab_G) {r : Nat} (h : 3 ≤ r) : ab_R G r = ab_B G + (r - 3) := by simp [ab_R, Nat.not_lt.mpr h]
theorem ab_W_get (G : ab_G) {n r : Nat} {S : ab_SH} {R : ab_RR} {I : ab_II} (h3 : 3 ≤ r) (hr : r < n) : (ab_W G (n, S, R, I))[r - 3]? = some (ab_R G r, ab_E G S R I r) := by
  unfold ab_W
  rw [List.getElem?_map, List.getElem?_range (by show r - 3 < n - 3; omega)]
  simp only [Option.map_some, ab_R_big G h3, Nat.sub_add_cancel h3]
theorem ab_W_at (G : ab_G) {h : ab_M} {k : Nat} {q : Nat × va_E} (hk : (ab_W G h)[k]? = some q) : k + 3 < h.1 ∧ q = (ab_B G + k, ab_E G h.2.1 h.2.2.1 h.2.2.2 (k + 3)) := by
  unfold ab_W at hk
  rw [List.getElem?_map] at hk
  by_cases hl : k < h.1 - 3
  · rw [List.getElem?_range hl] at hk
    simp only [Option.map_some, Option.some.injEq] at hk
    exact ⟨by omega, hk.symm⟩
  · rw [List.getElem?_eq_none (by simpa using hl)] at hk
    simp at hk
/-- one cell changes -/
theorem ab_P_up {G : ab_G} {n r : Nat} {S S' : ab_SH} {R R' : ab_RR} {I I' : ab_II} {H H1 : Heap} (hP : va_P (ab_D G) vwCl (ab_W G (n, S, R, I)) H) (h3 : 3 ≤ r) (he : va_at (ab_D G) vwCl (ab_R G r, ab_E G S' R' I' r) H1)
    (ho : ∀ q : Nat, q ≠ ab_R G r → H1[q]? = H[q]?) (hs : ∀ j, j ≠ r → ab_E G S' R' I' j = ab_E G S R I j) : va_P (ab_D G) vwCl (ab_W G (n, S', R', I')) H1 := by
  intro k q hk
  obtain ⟨hl, rfl⟩ := ab_W_at G hk
  by_cases hkr : k + 3 = r
  · subst hkr
    rw [ab_R_big G h3] at he
    exact he
  · have h2 := hP k (ab_B G + k, ab_E G S R I (k + 3)) (by
      have := ab_W_get G (n := n) (S := S) (R := R) (I := I) (r := k + 3) (by omega) hl
      rw [ab_R_big G (by omega)] at this
      simpa using this)
    show va_at (ab_D G) vwCl (ab_B G + k, ab_E G S' R' I' (k + 3)) H1
    rw [hs _ hkr]
    refine h2.kept (ho _ ?_)
    rw [ab_R_big G h3]
    show ab_B G + k ≠ _
    omega
/-- one cell comes -/
theorem ab_P_new {G : ab_G} {n : Nat} {S S' : ab_SH} {R R' : ab_RR} {I I' : ab_II} {H H1 : Heap} (hP : va_P (ab_D G) vwCl (ab_W G (n, S, R, I)) H) (h3 : 3 ≤ n) (hz : H.size = ab_B G + (n - 3)) (he : va_at (ab_D G) vwCl (H.size, ab_E G S' R' I' n) H1)
    (ho : ∀ q : Nat, q < H.size → H1[q]? = H[q]?) (hs : ∀ j, j < n → ab_E G S' R' I' j = ab_E G S R I j) : va_P (ab_D G) vwCl (ab_W G (n + 1, S', R', I')) H1 := by
  intro k q hk
  obtain ⟨hl, rfl⟩ := ab_W_at G hk
  have hl : k + 3 < n + 1 := hl
  by_cases hkr : k + 3 = n
  · subst hkr
    rw [hz] at he
    exact he
  · have h2 := hP k (ab_B G + k, ab_E G S R I (k + 3)) (by
      have := ab_W_get G (n := n) (S := S) (R := R) (I := I) (r := k + 3) (by omega) (by omega)
      rw [ab_R_big G (by omega)] at this
      simpa using this)
    show va_at (ab_D G) vwCl (ab_B G + k, ab_E G S' R' I' (k + 3)) H1
    rw [hs _ (by omega)]
    exact h2.kept (ho _ h2.lt)
abbrev ab_tys (G : ab_G) : List (ClassId × FieldType) := [(ab_A G 9, .int), (ab_A G 10, .boolean), (ab_A G 11, .object "LevelStore$FileRow"), (ab_A G 12, .object "java/lang/Object")]
abbrev ab_N (G : ab_G) : Nat → Prop := fun q => ab_B G ≤ q
/-- what the tables say, and what lies below the world -/
def ab_t (G : ab_G) (U : State) (H : Heap) : Prop :=
  va_K (ab_D G) vwCl (ab_tys G) U ∧ (∀ i, i < 3 → ab_L G i < ab_B G) ∧ va_Z "java/util/ArrayList" "DEFAULTCAPACITY_EMPTY_ELEMENTDATA" "[Ljava/lang/Object;" (.ref (ab_L G 0)) (ab_N G) U H ∧
  va_T (.object "java/lang/Object") (ab_L G 0) 0 (fun _ => .null) (ab_N G) U H ∧ va_Mi "[Ljava/lang/Object;" (ab_L G 1) U ∧ va_AO "java/lang/Object" U ∧ va_AO "LevelStore$FileRow" U ∧ va_Nw (.castable "LevelStore$SortedFile" "java/lang/Object") U ∧ va_Dc U
def ab_v (G : ab_G) (h : ab_M) (U : State) (H : Heap) : Prop := 3 ≤ h.1 ∧ H.size = ab_B G + (h.1 - 3) ∧ va_P (ab_D G) vwCl (ab_W G h) H ∧ va_X (ab_L G 2) (h.2.1 2).2 (h.2.2.2 2) U H
def ab_w (G : ab_G) (h : ab_M) (U : State) (H : Heap) : Prop := ab_v G h U H ∧ ab_t G U H
theorem ab_t.kept {G : ab_G} {U : State} {H H1 : Heap} (h : ab_t G U H) (hq : ∀ a : Nat, a < H.size → ¬ ab_N G a → H1[a]? = H[a]?) : ab_t G U H1 := by
  obtain ⟨h1, h2, h3, h4, h5⟩ := h
  exact ⟨h1, h2, h3.kept hq, h4.kept hq, h5⟩
theorem ab_t.warm {G : ab_G} {u U : State} {H : Heap} (hW : u.WarmedH U.vm) (h : ab_t G u H) : ab_t G U H := by
  obtain ⟨h1, h2, h3, h4, h5, h6, h7, h8, h9⟩ := h
  exact ⟨h1.moved hW.alike, h2, h3.moved hW.alike, h4.moved hW.alike, h5.moved hW.alike, h6.moved hW.alike, h7.moved hW.alike, va_Nw.warmC hW h8, h9.moved hW.alike⟩
theorem ab_v.warm {G : ab_G} {h : ab_M} {u U : State} {H : Heap} (hW : u.vm.Alike U.vm) (hv : ab_v G h u H) : ab_v G h U H := ⟨hv.1, hv.2.1, hv.2.2.1, hv.2.2.2.moved hW⟩
theorem ab_w.blind {G : ab_G} {h : ab_M} {U : State} {g : JFrame} {mk : MethodId} {a : Array Value} (hv : ab_w G h U U.heap) : ab_w G h (U.calling g mk a) (U.calling g mk a).heap := by
  obtain ⟨hv, h1, h2, h3, h4, h5, h6, h7, h8, h9⟩ := hv
  have e : U.vm.Alike (U.calling g mk a).vm := Vm.Alike.refl U.vm
  exact ⟨hv.warm e, h1.moved e, h2, h3.moved e, h4.moved e, h5.moved e, h6.moved e, h7.moved e, va_Nw.same rfl rfl h8, h9.moved e⟩
theorem ab_D_ok (G : ab_G) (h : ab_M) : va_D (ab_N G) (ab_W G h) := by
  refine ⟨fun i j p q hi hj hpq => ?_, fun k q hk => ?_⟩
  · obtain ⟨-, rfl⟩ := ab_W_at G hi
    obtain ⟨-, rfl⟩ := ab_W_at G hj
    have : ab_B G + i = ab_B G + j := hpq
    omega
  · obtain ⟨-, rfl⟩ := ab_W_at G hk
    exact Nat.le_add_right _ _
def lw_g : List Cond := lw_tbl.filter goodWord
theorem lw_g_sub {w : Cond} (h : w ∈ lw_g) : w ∈ lw_tbl := (List.mem_filter.mp h).1
theorem lw_g_of {w : Cond} {i : Nat} (h : lw_tbl[i]? = some w) (hg : goodWord w = true) : w ∈ lw_g := List.mem_filter.mpr ⟨List.mem_of_getElem? h, hg⟩
theorem lw_g_good : GoodIn lw_g lw_g := fun w h => ⟨h, good_of_word (List.mem_filter.mp h).2⟩
/-- a kind of object: its fields -/
def ab_K (ci : Nat) (C : String) (T : u_T) (N : Nat) : Prop := vwCl[ci]? = some (C, T, N) ∧ N = ab_nf ci ∧ (∀ w ∈ u_ws C T N, w ∈ lw_g) ∧ (∀ k, k < N → parseFieldDescriptor (T k).2.2.1 = some (ab_ty ci k)) ∧ (∀ a, a < N → ∀ b, b < N → a ≠ b → (T a).2.1 ≠ (T b).2.1) ∧ ci < 9
/-- a link to a field -/
def ab_FL (own : String) (idx ci k : Nat) (C : String) (T : u_T) (N : Nat) : Prop := ab_K ci C T N ∧ k < N ∧ ∃ ref, Cond.fieldLink own idx ref (T k).2.1 (T k).2.2.1 ∈ lw_g ∧ (ref = (T k).1 ∨ Cond.sameField ref (T k).1 (T k).2.1 (T k).2.2.1 ∈ lw_g)
theorem ab_E_obj {G : ab_G} {S : ab_SH} {R : ab_RR} {I : ab_II} {r ci : Nat} (h : (S r).1 = ci) (hc : ci < 9) : ab_E G S R I r = .inr (ci, (List.range (ab_nf ci)).map (ab_F G R I ci r)) := by
  subst h
  simp [ab_E, hc]
theorem ab_E_int {G : ab_G} {S : ab_SH} {R : ab_RR} {I : ab_II} {r ci : Nat} (h : (S r).1 = ci) (h1 : ¬ ci < 9) (h2 : ci < 11) : ab_E G S R I r = .inl (ab_A G ci, (S r).2, .inl (I r)) := by
  subst h
  simp [ab_E, h1, h2]
theorem ab_E_ref {G : ab_G} {S : ab_SH} {R : ab_RR} {I : ab_II} {r ci : Nat} (h : (S r).1 = ci) (h1 : ¬ ci < 9) (h2 : ¬ ci < 11) : ab_E G S R I r = .inl (ab_A G ci, (S r).2, .inr (.inr (.inr (.inr (fun i => (R r i).map (ab_R G)))))) := by
  subst h
  simp [ab_E, h1, h2]
/-- what is at a cell depends on its own planes -/
theorem ab_E_congr {G : ab_G} {S S' : ab_SH} {R R' : ab_RR} {I I' : ab_II} {j : Nat} (h1 : S' j = S j) (h2 : R' j = R j) (h3 : I' j = I j) : ab_E G S' R' I' j = ab_E G S R I j := by
  unfold ab_E ab_F
  rw [h1, h2, h3]
end
section
/-! A METHOD'S WALK OVER THE PLANES -/
def ab_C (fr lo : Nat) (M : ab_MT) (p : Program) (R : Room) (s : State) (m : MethodId) (args : Array Value) (meth : Method) (c : Code) : Prop :=
  p.tables.exec = Jvm.exec ∧ c.code = M.2.1 ∧ c.maxLocals = M.2.2.1 ∧ meth.sig.returnType = M.2.2.2 ∧ meth.locks = false ∧ meth.name = M.1.name ∧ s.vm.findClass M.1.cls = some m.cls ∧ (∀ w ∈ lw_g, w.before args s = true) ∧ R.frames = fr ∧ R.locals = lo
def ab_RT (ret : Option FieldType) (v : Option Value) : Prop := match ret, v with
  | none, none => True
  | some .int, some (.int _) => True
  | some .boolean, some (.int x) => x = 0 ∨ x = 1
  | some (.object _), some (.ref _) => True
  | some (.object _), some .null => True
  | some (.array _), some (.ref _) => True
  | _, _ => False
def ab_RI (M : ab_MT) (v : Option Value) (pc : Nat) : Prop := match v with
  | none => decode M.2.1 pc = .ok (.return_, 1)
  | some (.int _) => decode M.2.1 pc = .ok (.ireturn, 1)
  | some _ => decode M.2.1 pc = .ok (.areturn, 1)
abbrev ab_Po : Type := Option Value → ab_M → Prop
/-- what waits at the method's end -/
def ab_H (G : ab_G) (M : ab_MT) (p : Program) (l : Launch) (e : Env) (R : Room) (s : State) (m : MethodId) (args : Array Value) (below : List Frame) (meth : Method) (c : Code) (Q : State → Prop) (post : ab_Po) : Prop :=
  ∀ (v : Option Value) (h : ab_M) (H : Heap) (locs : List Loc) (cells slots pc : Nat) (ls : Array Slot), post v h → ab_RT M.2.2.2 v → ab_RI M v pc → ab_w G h s H → va_S (ab_N G) s.heap H locs → cells ≤ R.cells → slots ≤ R.slots →
    W p l e R s m args below meth c H locs cells slots Q (F0 m pc ls (v.map (ab_V G)).toList)
def ab_l (G : ab_G) (ls : Array Slot) (nL : Nat) (L : List (Nat × Value)) : Prop := ls.size = nL ∧ lv_wf ls ∧ ∀ i v, L.lookup i = some v → ls[i]? = some (.val (ab_V G v))
/-- from here the method returns, and then post; at most mc cells of ms slots are made; fr frames and lo words are left -/
def wp (fr lo mc ms : Nat) (M : ab_MT) (pc : Nat) (L : List (Nat × Value)) (st : List Value) (h : ab_M) (post : ab_Po) : Prop :=
  ∀ (G : ab_G) (p : Program) (l : Launch) (e : Env) (R : Room) (s : State) (m : MethodId) (args : Array Value) (below : List Frame) (meth : Method) (c : Code) (Q : State → Prop),
    ab_C fr lo M p R s m args meth c → ab_B G ≤ s.heap.size → ab_H G M p l e R s m args below meth c Q post →
    ∀ (H : Heap) (locs : List Loc) (cells slots : Nat) (ls : Array Slot), ab_w G h s H → va_S (ab_N G) s.heap H locs → cells + mc ≤ R.cells → slots + ms ≤ R.slots → ab_l G ls M.2.2.1 L →
    W p l e R s m args below meth c H locs cells slots Q (F0 m pc ls (st.map (ab_V G)))
theorem ab_V_cat (G : ab_G) (v : Value) : (ab_V G v).category = v.category := by cases v <;> rfl
def ab_dd (G : ab_G) (L : List (Nat × Value)) : List (Nat × Value) := L.filterMap (fun q => (L.lookup q.1).map (fun v => (q.1, ab_V G v)))
theorem ab_lk_mem {L : List (Nat × Value)} {i : Nat} {v : Value} (h : L.lookup i = some v) : (i, v) ∈ L := by
  induction L with
  | nil => simp at h
  | cons q t ih =>
    obtain ⟨j, w⟩ := q
    rw [List.lookup_cons] at h
    by_cases hij : i = j
    · subst hij
      simp at h
      simp [h]
    · have : (i == j) = false := by simpa using hij
      rw [this] at h
      exact List.mem_cons_of_mem _ (ih h)
theorem ab_l_has {G : ab_G} {ls : Array Slot} {nL : Nat} {L : List (Nat × Value)} (h : ab_l G ls nL L) : lv_has ls nL (ab_dd G L) := by
  refine ⟨h.1, h.2.1, fun q hq => ?_⟩
  obtain ⟨a, -, ha⟩ := List.mem_filterMap.mp hq
  cases hv : L.lookup a.1 with
  | none => rw [hv] at ha; cases ha
  | some v =>
    rw [hv] at ha
    simp at ha
    rw [← ha]
    exact h.2.2 _ _ hv
def ab_nl (L : List (Nat × Value)) (i : Nat) : Bool := i == 0 || (match L.lookup (i - 1) with
  | some (.long _) => false
  | some (.double _) => false
  | _ => true)
theorem ab_l_store {G : ab_G} {ls : Array Slot} {nL i : Nat} {L : List (Nat × Value)} {v : Value} (hn : ab_nl L i = true)
    (hl : lv_has ls nL ((i, ab_V G v) :: (ab_dd G L).filter (fun q => !(q.1 == i) && !(q.1 + 1 == i && q.2.category == 2)))) : ab_l G ls nL ((i, v) :: L) := by
  refine ⟨hl.1, hl.2.1, fun j w hj => ?_⟩
  rw [List.lookup_cons] at hj
  by_cases hij : j = i
  · subst hij
    simp at hj
    subst hj
    exact hl.2.2 _ List.mem_cons_self
  · have e : (j == i) = false := by simpa using hij
    rw [e] at hj
    have hj : L.lookup j = some w := hj
    refine hl.2.2 (j, ab_V G w) (List.mem_cons_of_mem _ (List.mem_filter.mpr ⟨List.mem_filterMap.mpr ⟨(j, w), ab_lk_mem hj, by simp [hj]⟩, ?_⟩))
    simp only [e, Bool.not_false, Bool.true_and, Bool.not_eq_true', Bool.and_eq_false_iff]
    by_cases hji : j + 1 = i
    · right
      rw [ab_V_cat]
      subst hji
      unfold ab_nl at hn
      simp only [Nat.add_sub_cancel] at hn
      rw [hj] at hn
      cases w <;> simp_all [Value.category]
    · left
      simpa using hji
def ab_sub (L : List (Nat × Value)) : List (Nat × Value) → Prop
  | [] => True
  | q :: t => L.lookup q.1 = some q.2 ∧ ab_sub L t
theorem ab_sub_mem {L : List (Nat × Value)} : ∀ {L' : List (Nat × Value)}, ab_sub L L' → ∀ q ∈ L', L.lookup q.1 = some q.2
  | [], _, q, hq => by simp at hq
  | a :: t, h, q, hq => by
    rcases List.mem_cons.mp hq with rfl | hq
    · exact h.1
    · exact ab_sub_mem h.2 q hq
section AB1
variable {fr lo mc ms : Nat} {M : ab_MT} {pc : Nat} {L : List (Nat × Value)} {st : List Value} {h : ab_M} {post : ab_Po}
theorem wp_loc {L' : List (Nat × Value)} (hL : ab_sub L L') (kk : wp fr lo mc ms M pc L' st h post) : wp fr lo mc ms M pc L st h post := by
  intro G p l e R s m args below meth c Q C hb hQ H locs cells slots ls hw hS hc hs hl
  refine kk G p l e R s m args below meth c Q C hb hQ H locs cells slots ls hw hS hc hs ⟨hl.1, hl.2.1, fun i v hv => ?_⟩
  exact hl.2.2 i v (ab_sub_mem hL _ (ab_lk_mem hv))
theorem wp_room {mc' ms' : Nat} (h1 : mc' ≤ mc) (h2 : ms' ≤ ms) (kk : wp fr lo mc' ms' M pc L st h post) : wp fr lo mc ms M pc L st h post := by
  intro G p l e R s m args below meth c Q C hb hQ H locs cells slots ls hw hS hc hs hl
  exact kk G p l e R s m args below meth c Q C hb hQ H locs cells slots ls hw hS (by omega) (by omega) hl
theorem wp_post {post' : ab_Po} (hp : ∀ v h', post' v h' → post v h') (kk : wp fr lo mc ms M pc L st h post') : wp fr lo mc ms M pc L st h post := by
  intro G p l e R s m args below meth c Q C hb hQ
  exact kk G p l e R s m args below meth c Q C hb (fun v h' H locs cells slots pc ls h1 => hQ v h' H locs cells slots pc ls (hp v h' h1))
theorem wp_pc {pc' : Nat} (hp : pc' = pc) (kk : wp fr lo mc ms M pc' L st h post) : wp fr lo mc ms M pc L st h post := hp ▸ kk
theorem wp_ret {v : Value} (hd : decode M.2.1 pc = .ok (.ireturn, 1)) {x : Int32} (hv : v = .int x) (hr : ab_RT M.2.2.2 (some (.int x))) (hp : post (some (.int x)) h) : wp fr lo mc ms M pc L [v] h post := by
  intro G p l e R s m args below meth c Q C hb hQ H locs cells slots ls hw hS hc hs hl
  subst hv
  exact hQ (some (.int x)) h H locs cells slots pc ls hp hr hd hw hS (by omega) (by omega)
theorem wp_retv (hd : decode M.2.1 pc = .ok (.return_, 1)) (hr : M.2.2.2 = none) (hp : post none h) : wp fr lo mc ms M pc L [] h post := by
  intro G p l e R s m args below meth c Q C hb hQ H locs cells slots ls hw hS hc hs hl
  exact hQ none h H locs cells slots pc ls hp (by rw [hr]; trivial) hd hw hS (by omega) (by omega)
theorem wp_reta {r : Nat} (hd : decode M.2.1 pc = .ok (.areturn, 1)) (hr : ab_RT M.2.2.2 (some (.ref r))) (hp : post (some (.ref r)) h) : wp fr lo mc ms M pc L [.ref r] h post := by
  intro G p l e R s m args below meth c Q C hb hQ H locs cells slots ls hw hS hc hs hl
  exact hQ (some (.ref r)) h H locs cells slots pc ls hp hr hd hw hS (by omega) (by omega)
theorem wp_retn (hd : decode M.2.1 pc = .ok (.areturn, 1)) (hr : ab_RT M.2.2.2 (some .null)) (hp : post (some .null) h) : wp fr lo mc ms M pc L [.null] h post := by
  intro G p l e R s m args below meth c Q C hb hQ H locs cells slots ls hw hS hc hs hl
  exact hQ (some .null) h H locs cells slots pc ls hp hr hd hw hS (by omega) (by omega)
theorem wp_iconst {n : Int} {v : Int32} (hd : decode M.2.1 pc = .ok (.iconst n, 1)) (hv : Int32.ofInt n = v) (kk : wp fr lo mc ms M (pc + 1) L (.int v :: st) h post) : wp fr lo mc ms M pc L (st) h post := by
  intro G p l e R s m args below meth c Q C hb hQ H locs cells slots ls hw hS hc hs hl
  exact lv_iconst C.1 C.2.1 hd hv (kk G p l e R s m args below meth c Q C hb hQ H locs cells slots ls hw hS hc hs hl)
theorem wp_bipush {n : Int} {v : Int32} (hd : decode M.2.1 pc = .ok (.bipush n, 2)) (hv : (Int8.ofInt n).toInt32 = v) (kk : wp fr lo mc ms M (pc + 2) L (.int v :: st) h post) : wp fr lo mc ms M pc L (st) h post := by
  intro G p l e R s m args below meth c Q C hb hQ H locs cells slots ls hw hS hc hs hl
  exact lv_bipush C.1 C.2.1 hd hv (kk G p l e R s m args below meth c Q C hb hQ H locs cells slots ls hw hS hc hs hl)
theorem wp_sipush {n : Int} {v : Int32} (hd : decode M.2.1 pc = .ok (.sipush n, 3)) (hv : (Int16.ofInt n).toInt32 = v) (kk : wp fr lo mc ms M (pc + 3) L (.int v :: st) h post) : wp fr lo mc ms M pc L (st) h post := by
  intro G p l e R s m args below meth c Q C hb hQ H locs cells slots ls hw hS hc hs hl
  exact lv_sipush C.1 C.2.1 hd hv (kk G p l e R s m args below meth c Q C hb hQ H locs cells slots ls hw hS hc hs hl)
theorem wp_lconst {n : Fin 2} {v : Int64} (hd : decode M.2.1 pc = .ok (.lconst n, 1)) (hv : Int64.ofNat (n : Nat) = v) (kk : wp fr lo mc ms M (pc + 1) L (.long v :: st) h post) : wp fr lo mc ms M pc L (st) h post := by
  intro G p l e R s m args below meth c Q C hb hQ H locs cells slots ls hw hS hc hs hl
  exact lv_lconst C.1 C.2.1 hd hv (kk G p l e R s m args below meth c Q C hb hQ H locs cells slots ls hw hS hc hs hl)
theorem wp_null (hd : decode M.2.1 pc = .ok (.aconst_null, 1)) (kk : wp fr lo mc ms M (pc + 1) L (.null :: st) h post) : wp fr lo mc ms M pc L (st) h post := by
  intro G p l e R s m args below meth c Q C hb hQ H locs cells slots ls hw hS hc hs hl
  exact lv_null C.1 C.2.1 hd (kk G p l e R s m args below meth c Q C hb hQ H locs cells slots ls hw hS hc hs hl)
theorem wp_iadd {x y : Int32} (hd : decode M.2.1 pc = .ok (.iadd, 1)) (kk : wp fr lo mc ms M (pc + 1) L (.int (x + y) :: st) h post) : wp fr lo mc ms M pc L (.int y :: .int x :: st) h post := by
  intro G p l e R s m args below meth c Q C hb hQ H locs cells slots ls hw hS hc hs hl
  exact lv_iadd C.1 C.2.1 hd (kk G p l e R s m args below meth c Q C hb hQ H locs cells slots ls hw hS hc hs hl)
theorem wp_isub {x y : Int32} (hd : decode M.2.1 pc = .ok (.isub, 1)) (kk : wp fr lo mc ms M (pc + 1) L (.int (x - y) :: st) h post) : wp fr lo mc ms M pc L (.int y :: .int x :: st) h post := by
  intro G p l e R s m args below meth c Q C hb hQ H locs cells slots ls hw hS hc hs hl
  exact lv_isub C.1 C.2.1 hd (kk G p l e R s m args below meth c Q C hb hQ H locs cells slots ls hw hS hc hs hl)
theorem wp_imul {x y : Int32} (hd : decode M.2.1 pc = .ok (.imul, 1)) (kk : wp fr lo mc ms M (pc + 1) L (.int (x * y) :: st) h post) : wp fr lo mc ms M pc L (.int y :: .int x :: st) h post := by
  intro G p l e R s m args below meth c Q C hb hQ H locs cells slots ls hw hS hc hs hl
  exact lv_imul C.1 C.2.1 hd (kk G p l e R s m args below meth c Q C hb hQ H locs cells slots ls hw hS hc hs hl)
theorem wp_iand {x y : Int32} (hd : decode M.2.1 pc = .ok (.iand, 1)) (kk : wp fr lo mc ms M (pc + 1) L (.int (x &&& y) :: st) h post) : wp fr lo mc ms M pc L (.int y :: .int x :: st) h post := by
  intro G p l e R s m args below meth c Q C hb hQ H locs cells slots ls hw hS hc hs hl
  exact lv_iand C.1 C.2.1 hd (kk G p l e R s m args below meth c Q C hb hQ H locs cells slots ls hw hS hc hs hl)
theorem wp_idiv {x y : Int32} (hd : decode M.2.1 pc = .ok (.idiv, 1)) (hne : ¬ y = 0) (kk : wp fr lo mc ms M (pc + 1) L (.int (x / y) :: st) h post) : wp fr lo mc ms M pc L (.int y :: .int x :: st) h post := by
  intro G p l e R s m args below meth c Q C hb hQ H locs cells slots ls hw hS hc hs hl
  exact lv_idiv C.1 C.2.1 hd hne (kk G p l e R s m args below meth c Q C hb hQ H locs cells slots ls hw hS hc hs hl)
theorem wp_irem {x y : Int32} (hd : decode M.2.1 pc = .ok (.irem, 1)) (hne : ¬ y = 0) (kk : wp fr lo mc ms M (pc + 1) L (.int (x - x / y * y) :: st) h post) : wp fr lo mc ms M pc L (.int y :: .int x :: st) h post := by
  intro G p l e R s m args below meth c Q C hb hQ H locs cells slots ls hw hS hc hs hl
  exact lv_irem C.1 C.2.1 hd hne (kk G p l e R s m args below meth c Q C hb hQ H locs cells slots ls hw hS hc hs hl)
theorem wp_ishr {x y : Int32} (hd : decode M.2.1 pc = .ok (.ishr, 1)) (kk : wp fr lo mc ms M (pc + 1) L (.int (x >>> (y &&& 31)) :: st) h post) : wp fr lo mc ms M pc L (.int y :: .int x :: st) h post := by
  intro G p l e R s m args below meth c Q C hb hQ H locs cells slots ls hw hS hc hs hl
  exact lv_ishr C.1 C.2.1 hd (kk G p l e R s m args below meth c Q C hb hQ H locs cells slots ls hw hS hc hs hl)
theorem wp_i2l {x : Int32} (hd : decode M.2.1 pc = .ok (.i2l, 1)) (kk : wp fr lo mc ms M (pc + 1) L (.long x.toInt64 :: st) h post) : wp fr lo mc ms M pc L (.int x :: st) h post := by
  intro G p l e R s m args below meth c Q C hb hQ H locs cells slots ls hw hS hc hs hl
  exact lv_i2l C.1 C.2.1 hd rfl (kk G p l e R s m args below meth c Q C hb hQ H locs cells slots ls hw hS hc hs hl)
theorem wp_lcmp {x y : Int64} (hd : decode M.2.1 pc = .ok (.lcmp, 1)) (kk : wp fr lo mc ms M (pc + 1) L (.int (lg_cmp x y) :: st) h post) : wp fr lo mc ms M pc L (.long y :: .long x :: st) h post := by
  intro G p l e R s m args below meth c Q C hb hQ H locs cells slots ls hw hS hc hs hl
  exact W.lcmp C.1 C.2.1 hd (kk G p l e R s m args below meth c Q C hb hQ H locs cells slots ls hw hS hc hs hl)
theorem wp_dup {v : Value} (hd : decode M.2.1 pc = .ok (.dup, 1)) (hc1 : v.category = 1) (kk : wp fr lo mc ms M (pc + 1) L (v :: v :: st) h post) : wp fr lo mc ms M pc L (v :: st) h post := by
  intro G p l e R s m args below meth c Q C hb hQ H locs cells slots ls hw hS hc hs hl
  exact lv_dup C.1 C.2.1 hd (by rw [ab_V_cat]; exact hc1) (kk G p l e R s m args below meth c Q C hb hQ H locs cells slots ls hw hS hc hs hl)
theorem wp_pop {v : Value} (hd : decode M.2.1 pc = .ok (.pop, 1)) (hc1 : v.category = 1) (kk : wp fr lo mc ms M (pc + 1) L st h post) : wp fr lo mc ms M pc L (v :: st) h post := by
  intro G p l e R s m args below meth c Q C hb hQ H locs cells slots ls hw hS hc hs hl
  exact lv_pop C.1 C.2.1 hd (by rw [ab_V_cat]; exact hc1) (kk G p l e R s m args below meth c Q C hb hQ H locs cells slots ls hw hS hc hs hl)
theorem wp_dup_x1 {v w : Value} (hd : decode M.2.1 pc = .ok (.dup_x1, 1)) (hc1 : v.category = 1) (hc2 : w.category = 1) (kk : wp fr lo mc ms M (pc + 1) L (v :: w :: v :: st) h post) : wp fr lo mc ms M pc L (v :: w :: st) h post := by
  intro G p l e R s m args below meth c Q C hb hQ H locs cells slots ls hw hS hc hs hl
  exact lv_dup_x1 C.1 C.2.1 hd (by rw [ab_V_cat]; exact hc1) (by rw [ab_V_cat]; exact hc2) (kk G p l e R s m args below meth c Q C hb hQ H locs cells slots ls hw hS hc hs hl)
theorem wp_iload_n {k : Fin 4} {x : Int32} (hd : decode M.2.1 pc = .ok (.iload_n k, 1)) (hx : L.lookup (k : Nat) = some (.int x)) (kk : wp fr lo mc ms M (pc + 1) L (.int x :: st) h post) : wp fr lo mc ms M pc L st h post := by
  intro G p l e R s m args below meth c Q C hb hQ H locs cells slots ls hw hS hc hs hl
  exact lv_iload_n C.1 C.2.1 hd rfl (hl.2.2 _ _ hx) (kk G p l e R s m args below meth c Q C hb hQ H locs cells slots ls hw hS hc hs hl)
theorem wp_iload {i : Nat} {x : Int32} (hd : decode M.2.1 pc = .ok (.iload i, 2)) (hx : L.lookup i = some (.int x)) (kk : wp fr lo mc ms M (pc + 2) L (.int x :: st) h post) : wp fr lo mc ms M pc L st h post := by
  intro G p l e R s m args below meth c Q C hb hQ H locs cells slots ls hw hS hc hs hl
  exact lv_iload C.1 C.2.1 hd (hl.2.2 _ _ hx) (kk G p l e R s m args below meth c Q C hb hQ H locs cells slots ls hw hS hc hs hl)
theorem wp_aload_n {k : Fin 4} {x : Nat} (hd : decode M.2.1 pc = .ok (.aload_n k, 1)) (hx : L.lookup (k : Nat) = some (.ref x)) (kk : wp fr lo mc ms M (pc + 1) L (.ref x :: st) h post) : wp fr lo mc ms M pc L st h post := by
  intro G p l e R s m args below meth c Q C hb hQ H locs cells slots ls hw hS hc hs hl
  exact lv_aload_n C.1 C.2.1 hd rfl (hl.2.2 _ _ hx) (kk G p l e R s m args below meth c Q C hb hQ H locs cells slots ls hw hS hc hs hl)
theorem wp_aload {i : Nat} {x : Nat} (hd : decode M.2.1 pc = .ok (.aload i, 2)) (hx : L.lookup i = some (.ref x)) (kk : wp fr lo mc ms M (pc + 2) L (.ref x :: st) h post) : wp fr lo mc ms M pc L st h post := by
  intro G p l e R s m args below meth c Q C hb hQ H locs cells slots ls hw hS hc hs hl
  exact lv_aload C.1 C.2.1 hd (hl.2.2 _ _ hx) (kk G p l e R s m args below meth c Q C hb hQ H locs cells slots ls hw hS hc hs hl)
theorem wp_lload_n {k : Fin 4} {x : Int64} (hd : decode M.2.1 pc = .ok (.lload_n k, 1)) (hx : L.lookup (k : Nat) = some (.long x)) (kk : wp fr lo mc ms M (pc + 1) L (.long x :: st) h post) : wp fr lo mc ms M pc L st h post := by
  intro G p l e R s m args below meth c Q C hb hQ H locs cells slots ls hw hS hc hs hl
  exact lv_lload_n C.1 C.2.1 hd rfl (hl.2.2 _ _ hx) (kk G p l e R s m args below meth c Q C hb hQ H locs cells slots ls hw hS hc hs hl)
theorem wp_lload {i : Nat} {x : Int64} (hd : decode M.2.1 pc = .ok (.lload i, 2)) (hx : L.lookup i = some (.long x)) (kk : wp fr lo mc ms M (pc + 2) L (.long x :: st) h post) : wp fr lo mc ms M pc L st h post := by
  intro G p l e R s m args below meth c Q C hb hQ H locs cells slots ls hw hS hc hs hl
  exact lv_lload C.1 C.2.1 hd (hl.2.2 _ _ hx) (kk G p l e R s m args below meth c Q C hb hQ H locs cells slots ls hw hS hc hs hl)
theorem wp_aload_nN {k : Fin 4} (hd : decode M.2.1 pc = .ok (.aload_n k, 1)) (hx : L.lookup (k : Nat) = some .null) (kk : wp fr lo mc ms M (pc + 1) L (.null :: st) h post) : wp fr lo mc ms M pc L st h post := by
  intro G p l e R s m args below meth c Q C hb hQ H locs cells slots ls hw hS hc hs hl
  exact lv_aload_nN C.1 C.2.1 hd rfl (hl.2.2 _ _ hx) (kk G p l e R s m args below meth c Q C hb hQ H locs cells slots ls hw hS hc hs hl)
theorem wp_aloadN {i : Nat} (hd : decode M.2.1 pc = .ok (.aload i, 2)) (hx : L.lookup i = some .null) (kk : wp fr lo mc ms M (pc + 2) L (.null :: st) h post) : wp fr lo mc ms M pc L st h post := by
  intro G p l e R s m args below meth c Q C hb hQ H locs cells slots ls hw hS hc hs hl
  exact lv_aloadN C.1 C.2.1 hd (hl.2.2 _ _ hx) (kk G p l e R s m args below meth c Q C hb hQ H locs cells slots ls hw hS hc hs hl)
theorem wp_istore_n {k : Fin 4} {x : Int32} (hd : decode M.2.1 pc = .ok (.istore_n k, 1)) (hi : (k : Nat) < M.2.2.1) (hn : ab_nl L (k : Nat) = true) (kk : wp fr lo mc ms M (pc + 1) (((k : Nat), .int x) :: L) st h post) : wp fr lo mc ms M pc L (.int x :: st) h post := by
  intro G p l e R s m args below meth c Q C hb hQ H locs cells slots ls hw hS hc hs hl
  exact lv_istore_n C.1 C.2.1 hd rfl (ab_l_has hl) hi rfl (fun ls' hl' => kk G p l e R s m args below meth c Q C hb hQ H locs cells slots ls' hw hS hc hs (ab_l_store hn hl'))
theorem wp_istore {i : Nat} {x : Int32} (hd : decode M.2.1 pc = .ok (.istore i, 2)) (hi : i < M.2.2.1) (hn : ab_nl L i = true) (kk : wp fr lo mc ms M (pc + 2) ((i, .int x) :: L) st h post) : wp fr lo mc ms M pc L (.int x :: st) h post := by
  intro G p l e R s m args below meth c Q C hb hQ H locs cells slots ls hw hS hc hs hl
  exact lv_istore C.1 C.2.1 hd (ab_l_has hl) hi rfl (fun ls' hl' => kk G p l e R s m args below meth c Q C hb hQ H locs cells slots ls' hw hS hc hs (ab_l_store hn hl'))
theorem wp_astore_n {k : Fin 4} {x : Nat} (hd : decode M.2.1 pc = .ok (.astore_n k, 1)) (hi : (k : Nat) < M.2.2.1) (hn : ab_nl L (k : Nat) = true) (kk : wp fr lo mc ms M (pc + 1) (((k : Nat), .ref x) :: L) st h post) : wp fr lo mc ms M pc L (.ref x :: st) h post := by
  intro G p l e R s m args below meth c Q C hb hQ H locs cells slots ls hw hS hc hs hl
  exact lv_astore_n C.1 C.2.1 hd rfl (ab_l_has hl) hi rfl (fun ls' hl' => kk G p l e R s m args below meth c Q C hb hQ H locs cells slots ls' hw hS hc hs (ab_l_store hn hl'))
theorem wp_astore {i : Nat} {x : Nat} (hd : decode M.2.1 pc = .ok (.astore i, 2)) (hi : i < M.2.2.1) (hn : ab_nl L i = true) (kk : wp fr lo mc ms M (pc + 2) ((i, .ref x) :: L) st h post) : wp fr lo mc ms M pc L (.ref x :: st) h post := by
  intro G p l e R s m args below meth c Q C hb hQ H locs cells slots ls hw hS hc hs hl
  exact lv_astore C.1 C.2.1 hd (ab_l_has hl) hi rfl (fun ls' hl' => kk G p l e R s m args below meth c Q C hb hQ H locs cells slots ls' hw hS hc hs (ab_l_store hn hl'))
theorem wp_astore_nN {k : Fin 4} (hd : decode M.2.1 pc = .ok (.astore_n k, 1)) (hi : (k : Nat) < M.2.2.1) (hn : ab_nl L (k : Nat) = true) (kk : wp fr lo mc ms M (pc + 1) (((k : Nat), .null) :: L) st h post) : wp fr lo mc ms M pc L (.null :: st) h post := by
  intro G p l e R s m args below meth c Q C hb hQ H locs cells slots ls hw hS hc hs hl
  exact lv_astore_nN C.1 C.2.1 hd rfl (ab_l_has hl) hi rfl (fun ls' hl' => kk G p l e R s m args below meth c Q C hb hQ H locs cells slots ls' hw hS hc hs (ab_l_store (v := .null) hn hl'))
theorem wp_astoreN {i : Nat} (hd : decode M.2.1 pc = .ok (.astore i, 2)) (hi : i < M.2.2.1) (hn : ab_nl L i = true) (kk : wp fr lo mc ms M (pc + 2) ((i, .null) :: L) st h post) : wp fr lo mc ms M pc L (.null :: st) h post := by
  intro G p l e R s m args below meth c Q C hb hQ H locs cells slots ls hw hS hc hs hl
  exact lv_astoreN C.1 C.2.1 hd (ab_l_has hl) hi rfl (fun ls' hl' => kk G p l e R s m args below meth c Q C hb hQ H locs cells slots ls' hw hS hc hs (ab_l_store (v := .null) hn hl'))
theorem wp_iinc {i : Nat} {n : Int} {x : Int32} (hd : decode M.2.1 pc = .ok (.iinc i n, 3)) (hx : L.lookup i = some (.int x)) (hi : i < M.2.2.1) (hn : ab_nl L i = true) (kk : wp fr lo mc ms M (pc + 3) ((i, .int (x + Int32.ofInt n)) :: L) st h post) : wp fr lo mc ms M pc L st h post := by
  intro G p l e R s m args below meth c Q C hb hQ H locs cells slots ls hw hS hc hs hl
  have hh := ab_l_has hl
  have h2 : lv_has ls M.2.2.1 ((i, .int x) :: ab_dd G L) := ⟨hh.1, hh.2.1, fun q hq => by
    rcases List.mem_cons.mp hq with rfl | hq
    · exact hl.2.2 _ _ hx
    · exact hh.2.2 q hq⟩
  refine lv_iinc C.1 C.2.1 hd h2 (k := 0) rfl rfl hi rfl (fun ls' hl' => kk G p l e R s m args below meth c Q C hb hQ H locs cells slots ls' hw hS hc hs (ab_l_store (v := .int (x + Int32.ofInt n)) hn ?_))
  refine ⟨hl'.1, hl'.2.1, fun q hq => hl'.2.2 q ?_⟩
  rcases List.mem_cons.mp hq with rfl | hq
  · exact List.mem_cons_self
  · refine List.mem_cons_of_mem _ ?_
    rw [List.filter_cons]
    simpa using hq
theorem ab_eqI (x y : Int32) : x = y ↔ x.toInt = y.toInt := Int32.toInt_inj.symm
theorem wp_icmp_eq {x y : Int32} {off : Int} {tgt : Nat} (hd : decode M.2.1 pc = .ok (.if_icmp .eq off, 3)) (ht : (pc : Int) + off = (tgt : Int)) (kt : x.toInt = y.toInt → wp fr lo mc ms M tgt L st h post) (kf : x.toInt ≠ y.toInt → wp fr lo mc ms M (pc + 3) L st h post) : wp fr lo mc ms M pc L (.int y :: .int x :: st) h post := by
  intro G p l e R s m args below meth c Q C hb hQ H locs cells slots ls hw hS hc hs hl
  exact lv_icmp_eq C.1 C.2.1 hd ht (fun q => kt ((ab_eqI _ _).mp q) G p l e R s m args below meth c Q C hb hQ H locs cells slots ls hw hS hc hs hl) (fun q => kf ((fun z => q ((ab_eqI _ _).mpr z))) G p l e R s m args below meth c Q C hb hQ H locs cells slots ls hw hS hc hs hl)
theorem wp_if_eq {x : Int32} {off : Int} {tgt : Nat} (hd : decode M.2.1 pc = .ok (.ifCond .eq off, 3)) (ht : (pc : Int) + off = (tgt : Int)) (kt : x.toInt = 0 → wp fr lo mc ms M tgt L st h post) (kf : x.toInt ≠ 0 → wp fr lo mc ms M (pc + 3) L st h post) : wp fr lo mc ms M pc L (.int x :: st) h post := by
  intro G p l e R s m args below meth c Q C hb hQ H locs cells slots ls hw hS hc hs hl
  exact lv_if_eq C.1 C.2.1 hd ht (fun q => kt (by first | exact (ab_eqI _ _).mp q | (simpa using (ab_eqI _ _).mp q)) G p l e R s m args below meth c Q C hb hQ H locs cells slots ls hw hS hc hs hl) (fun q => kf (by first | exact (fun z => q ((ab_eqI _ _).mpr z)) | (simpa using (fun z => q ((ab_eqI _ _).mpr z)))) G p l e R s m args below meth c Q C hb hQ H locs cells slots ls hw hS hc hs hl)
theorem wp_icmp_ne {x y : Int32} {off : Int} {tgt : Nat} (hd : decode M.2.1 pc = .ok (.if_icmp .ne off, 3)) (ht : (pc : Int) + off = (tgt : Int)) (kt : x.toInt ≠ y.toInt → wp fr lo mc ms M tgt L st h post) (kf : x.toInt = y.toInt → wp fr lo mc ms M (pc + 3) L st h post) : wp fr lo mc ms M pc L (.int y :: .int x :: st) h post := by
  intro G p l e R s m args below meth c Q C hb hQ H locs cells slots ls hw hS hc hs hl
  exact lv_icmp_ne C.1 C.2.1 hd ht (fun q => kt ((fun z => q ((ab_eqI _ _).mpr z))) G p l e R s m args below meth c Q C hb hQ H locs cells slots ls hw hS hc hs hl) (fun q => kf ((ab_eqI _ _).mp q) G p l e R s m args below meth c Q C hb hQ H locs cells slots ls hw hS hc hs hl)
theorem wp_if_ne {x : Int32} {off : Int} {tgt : Nat} (hd : decode M.2.1 pc = .ok (.ifCond .ne off, 3)) (ht : (pc : Int) + off = (tgt : Int)) (kt : x.toInt ≠ 0 → wp fr lo mc ms M tgt L st h post) (kf : x.toInt = 0 → wp fr lo mc ms M (pc + 3) L st h post) : wp fr lo mc ms M pc L (.int x :: st) h post := by
  intro G p l e R s m args below meth c Q C hb hQ H locs cells slots ls hw hS hc hs hl
  exact lv_if_ne C.1 C.2.1 hd ht (fun q => kt (by first | exact (fun z => q ((ab_eqI _ _).mpr z)) | (simpa using (fun z => q ((ab_eqI _ _).mpr z)))) G p l e R s m args below meth c Q C hb hQ H locs cells slots ls hw hS hc hs hl) (fun q => kf (by first | exact (ab_eqI _ _).mp q | (simpa using (ab_eqI _ _).mp q)) G p l e R s m args below meth c Q C hb hQ H locs cells slots ls hw hS hc hs hl)
theorem wp_icmp_lt {x y : Int32} {off : Int} {tgt : Nat} (hd : decode M.2.1 pc = .ok (.if_icmp .lt off, 3)) (ht : (pc : Int) + off = (tgt : Int)) (kt : x.toInt < y.toInt → wp fr lo mc ms M tgt L st h post) (kf : y.toInt ≤ x.toInt → wp fr lo mc ms M (pc + 3) L st h post) : wp fr lo mc ms M pc L (.int y :: .int x :: st) h post := by
  intro G p l e R s m args below meth c Q C hb hQ H locs cells slots ls hw hS hc hs hl
  exact lv_icmp_lt C.1 C.2.1 hd ht (fun q => kt (Int32.lt_iff_toInt_lt.mp q) G p l e R s m args below meth c Q C hb hQ H locs cells slots ls hw hS hc hs hl) (fun q => kf (Int.not_lt.mp (fun z => q (Int32.lt_iff_toInt_lt.mpr z))) G p l e R s m args below meth c Q C hb hQ H locs cells slots ls hw hS hc hs hl)
theorem wp_if_lt {x : Int32} {off : Int} {tgt : Nat} (hd : decode M.2.1 pc = .ok (.ifCond .lt off, 3)) (ht : (pc : Int) + off = (tgt : Int)) (kt : x.toInt < 0 → wp fr lo mc ms M tgt L st h post) (kf : 0 ≤ x.toInt → wp fr lo mc ms M (pc + 3) L st h post) : wp fr lo mc ms M pc L (.int x :: st) h post := by
  intro G p l e R s m args below meth c Q C hb hQ H locs cells slots ls hw hS hc hs hl
  exact lv_if_lt C.1 C.2.1 hd ht (fun q => kt (by first | exact Int32.lt_iff_toInt_lt.mp q | (simpa using Int32.lt_iff_toInt_lt.mp q)) G p l e R s m args below meth c Q C hb hQ H locs cells slots ls hw hS hc hs hl) (fun q => kf (by first | exact Int.not_lt.mp (fun z => q (Int32.lt_iff_toInt_lt.mpr z)) | (simpa using Int.not_lt.mp (fun z => q (Int32.lt_iff_toInt_lt.mpr z)))) G p l e R s m args below meth c Q C hb hQ H locs cells slots ls hw hS hc hs hl)
theorem wp_icmp_ge {x y : Int32} {off : Int} {tgt : Nat} (hd : decode M.2.1 pc = .ok (.if_icmp .ge off, 3)) (ht : (pc : Int) + off = (tgt : Int)) (kt : y.toInt ≤ x.toInt → wp fr lo mc ms M tgt L st h post) (kf : x.toInt < y.toInt → wp fr lo mc ms M (pc + 3) L st h post) : wp fr lo mc ms M pc L (.int y :: .int x :: st) h post := by
  intro G p l e R s m args below meth c Q C hb hQ H locs cells slots ls hw hS hc hs hl
  exact lv_icmp_ge C.1 C.2.1 hd ht (fun q => kt (Int32.le_iff_toInt_le.mp q) G p l e R s m args below meth c Q C hb hQ H locs cells slots ls hw hS hc hs hl) (fun q => kf (Int.not_le.mp (fun z => q (Int32.le_iff_toInt_le.mpr z))) G p l e R s m args below meth c Q C hb hQ H locs cells slots ls hw hS hc hs hl)
theorem wp_if_ge {x : Int32} {off : Int} {tgt : Nat} (hd : decode M.2.1 pc = .ok (.ifCond .ge off, 3)) (ht : (pc : Int) + off = (tgt : Int)) (kt : 0 ≤ x.toInt → wp fr lo mc ms M tgt L st h post) (kf : x.toInt < 0 → wp fr lo mc ms M (pc + 3) L st h post) : wp fr lo mc ms M pc L (.int x :: st) h post := by
  intro G p l e R s m args below meth c Q C hb hQ H locs cells slots ls hw hS hc hs hl
  exact lv_if_ge C.1 C.2.1 hd ht (fun q => kt (by first | exact Int32.le_iff_toInt_le.mp q | (simpa using Int32.le_iff_toInt_le.mp q)) G p l e R s m args below meth c Q C hb hQ H locs cells slots ls hw hS hc hs hl) (fun q => kf (by first | exact Int.not_le.mp (fun z => q (Int32.le_iff_toInt_le.mpr z)) | (simpa using Int.not_le.mp (fun z => q (Int32.le_iff_toInt_le.mpr z)))) G p l e R s m args below meth c Q C hb hQ H locs cells slots ls hw hS hc hs hl)
theorem wp_icmp_gt {x y : Int32} {off : Int} {tgt : Nat} (hd : decode M.2.1 pc = .ok (.if_icmp .gt off, 3)) (ht : (pc : Int) + off = (tgt : Int)) (kt : y.toInt < x.toInt → wp fr lo mc ms M tgt L st h post) (kf : x.toInt ≤ y.toInt → wp fr lo mc ms M (pc + 3) L st h post) : wp fr lo mc ms M pc L (.int y :: .int x :: st) h post := by
  intro G p l e R s m args below meth c Q C hb hQ H locs cells slots ls hw hS hc hs hl
  exact lv_icmp_gt C.1 C.2.1 hd ht (fun q => kt (Int32.lt_iff_toInt_lt.mp q) G p l e R s m args below meth c Q C hb hQ H locs cells slots ls hw hS hc hs hl) (fun q => kf (Int.not_lt.mp (fun z => q (Int32.lt_iff_toInt_lt.mpr z))) G p l e R s m args below meth c Q C hb hQ H locs cells slots ls hw hS hc hs hl)
theorem wp_if_gt {x : Int32} {off : Int} {tgt : Nat} (hd : decode M.2.1 pc = .ok (.ifCond .gt off, 3)) (ht : (pc : Int) + off = (tgt : Int)) (kt : 0 < x.toInt → wp fr lo mc ms M tgt L st h post) (kf : x.toInt ≤ 0 → wp fr lo mc ms M (pc + 3) L st h post) : wp fr lo mc ms M pc L (.int x :: st) h post := by
  intro G p l e R s m args below meth c Q C hb hQ H locs cells slots ls hw hS hc hs hl
  exact lv_if_gt C.1 C.2.1 hd ht (fun q => kt (by first | exact Int32.lt_iff_toInt_lt.mp q | (simpa using Int32.lt_iff_toInt_lt.mp q)) G p l e R s m args below meth c Q C hb hQ H locs cells slots ls hw hS hc hs hl) (fun q => kf (by first | exact Int.not_lt.mp (fun z => q (Int32.lt_iff_toInt_lt.mpr z)) | (simpa using Int.not_lt.mp (fun z => q (Int32.lt_iff_toInt_lt.mpr z)))) G p l e R s m args below meth c Q C hb hQ H locs cells slots ls hw hS hc hs hl)
theorem wp_icmp_le {x y : Int32} {off : Int} {tgt : Nat} (hd : decode M.2.1 pc = .ok (.if_icmp .le off, 3)) (ht : (pc : Int) + off = (tgt : Int)) (kt : x.toInt ≤ y.toInt → wp fr lo mc ms M tgt L st h post) (kf : y.toInt < x.toInt → wp fr lo mc ms M (pc + 3) L st h post) : wp fr lo mc ms M pc L (.int y :: .int x :: st) h post := by
  intro G p l e R s m args below meth c Q C hb hQ H locs cells slots ls hw hS hc hs hl
  exact lv_icmp_le C.1 C.2.1 hd ht (fun q => kt (Int32.le_iff_toInt_le.mp q) G p l e R s m args below meth c Q C hb hQ H locs cells slots ls hw hS hc hs hl) (fun q => kf (Int.not_le.mp (fun z => q (Int32.le_iff_toInt_le.mpr z))) G p l e R s m args below meth c Q C hb hQ H locs cells slots ls hw hS hc hs hl)
theorem wp_if_le {x : Int32} {off : Int} {tgt : Nat} (hd : decode M.2.1 pc = .ok (.ifCond .le off, 3)) (ht : (pc : Int) + off = (tgt : Int)) (kt : x.toInt ≤ 0 → wp fr lo mc ms M tgt L st h post) (kf : 0 < x.toInt → wp fr lo mc ms M (pc + 3) L st h post) : wp fr lo mc ms M pc L (.int x :: st) h post := by
  intro G p l e R s m args below meth c Q C hb hQ H locs cells slots ls hw hS hc hs hl
  exact lv_if_le C.1 C.2.1 hd ht (fun q => kt (by first | exact Int32.le_iff_toInt_le.mp q | (simpa using Int32.le_iff_toInt_le.mp q)) G p l e R s m args below meth c Q C hb hQ H locs cells slots ls hw hS hc hs hl) (fun q => kf (by first | exact Int.not_le.mp (fun z => q (Int32.le_iff_toInt_le.mpr z)) | (simpa using Int.not_le.mp (fun z => q (Int32.le_iff_toInt_le.mpr z)))) G p l e R s m args below meth c Q C hb hQ H locs cells slots ls hw hS hc hs hl)
theorem wp_goto {off : Int} {tgt : Nat} (hd : decode M.2.1 pc = .ok (.goto off, 3)) (ht : (pc : Int) + off = (tgt : Int)) (kk : wp fr lo mc ms M tgt L st h post) : wp fr lo mc ms M pc L st h post := by
  intro G p l e R s m args below meth c Q C hb hQ H locs cells slots ls hw hS hc hs hl
  exact lv_goto C.1 C.2.1 hd ht (kk G p l e R s m args below meth c Q C hb hQ H locs cells slots ls hw hS hc hs hl)
theorem wp_ifnull_r {x : Nat} {off : Int} (hd : decode M.2.1 pc = .ok (.ifnull off, 3)) (kk : wp fr lo mc ms M (pc + 3) L st h post) : wp fr lo mc ms M pc L (.ref x :: st) h post := by
  intro G p l e R s m args below meth c Q C hb hQ H locs cells slots ls hw hS hc hs hl
  exact lv_ifnull C.1 C.2.1 hd (kk G p l e R s m args below meth c Q C hb hQ H locs cells slots ls hw hS hc hs hl)
theorem wp_ifnonnull_r {x : Nat} {off : Int} {tgt : Nat} (hd : decode M.2.1 pc = .ok (.ifnonnull off, 3)) (ht : (pc : Int) + off = (tgt : Int)) (kk : wp fr lo mc ms M tgt L st h post) : wp fr lo mc ms M pc L (.ref x :: st) h post := by
  intro G p l e R s m args below meth c Q C hb hQ H locs cells slots ls hw hS hc hs hl
  exact lv_ifnonnull C.1 C.2.1 hd ht (kk G p l e R s m args below meth c Q C hb hQ H locs cells slots ls hw hS hc hs hl)
theorem wp_ifnull_n {off : Int} {tgt : Nat} (hd : decode M.2.1 pc = .ok (.ifnull off, 3)) (ht : (pc : Int) + off = (tgt : Int)) (kk : wp fr lo mc ms M tgt L st h post) : wp fr lo mc ms M pc L (.null :: st) h post := by
  intro G p l e R s m args below meth c Q C hb hQ H locs cells slots ls hw hS hc hs hl
  exact lv_ifnullN C.1 C.2.1 hd ht (kk G p l e R s m args below meth c Q C hb hQ H locs cells slots ls hw hS hc hs hl)
theorem wp_ifnonnull_n {off : Int} (hd : decode M.2.1 pc = .ok (.ifnonnull off, 3)) (kk : wp fr lo mc ms M (pc + 3) L st h post) : wp fr lo mc ms M pc L (.null :: st) h post := by
  intro G p l e R s m args below meth c Q C hb hQ H locs cells slots ls hw hS hc hs hl
  exact lv_ifnonnullN C.1 C.2.1 hd (kk G p l e R s m args below meth c Q C hb hQ H locs cells slots ls hw hS hc hs hl)
theorem wp_tableIn {dflt lo' hi : Int} {offs : Array Int} {len : Nat} {x : Int32} {off : Int} {tgt : Nat} (hd : decode M.2.1 pc = .ok (.tableswitch dflt lo' hi offs, len)) (h1 : lo' ≤ x.toInt) (h2 : x.toInt ≤ hi) (ho : offs[(x.toInt - lo').toNat]? = some off) (ht : (pc : Int) + off = (tgt : Int)) (kk : wp fr lo mc ms M tgt L st h post) : wp fr lo mc ms M pc L (.int x :: st) h post := by
  intro G p l e R s m args below meth c Q C hb hQ H locs cells slots ls hw hS hc hs hl
  exact lv_tableIn C.1 C.2.1 hd (by omega) (by omega) ho ht (kk G p l e R s m args below meth c Q C hb hQ H locs cells slots ls hw hS hc hs hl)
theorem wp_tableOut {dflt lo' hi : Int} {offs : Array Int} {len : Nat} {x : Int32} {tgt : Nat} (hd : decode M.2.1 pc = .ok (.tableswitch dflt lo' hi offs, len)) (h1 : x.toInt < lo' ∨ hi < x.toInt) (ht : (pc : Int) + dflt = (tgt : Int)) (kk : wp fr lo mc ms M tgt L st h post) : wp fr lo mc ms M pc L (.int x :: st) h post := by
  intro G p l e R s m args below meth c Q C hb hQ H locs cells slots ls hw hS hc hs hl
  exact lv_tableOut C.1 C.2.1 hd h1 ht (kk G p l e R s m args below meth c Q C hb hQ H locs cells slots ls hw hS hc hs hl)
theorem wp_ldc {idx : Nat} {v : Int32} (hd : decode M.2.1 pc = .ok (.ldc idx, 2)) (hv : Cond.constant M.1.cls idx v ∈ lw_g) (kk : wp fr lo mc ms M (pc + 2) L (.int v :: st) h post) : wp fr lo mc ms M pc L st h post := by
  intro G p l e R s m args below meth c Q C hb hQ H locs cells slots ls hw hS hc hs hl
  obtain ⟨c1, c2, c3, c4, c5, c6, c7, c8, c9, c10⟩ := id C
  exact lv_ldc c1 c2 c7 (c8 _ hv) hd (kk G p l e R s m args below meth c Q C hb hQ H locs cells slots ls hw hS hc hs hl)
theorem wp_ldc2 {idx : Nat} {v : Int64} (hd : decode M.2.1 pc = .ok (.ldc2_w idx, 3)) (hv : Cond.constantLong M.1.cls idx v ∈ lw_g) (kk : wp fr lo mc ms M (pc + 3) L (.long v :: st) h post) : wp fr lo mc ms M pc L st h post := by
  intro G p l e R s m args below meth c Q C hb hQ H locs cells slots ls hw hS hc hs hl
  obtain ⟨c1, c2, c3, c4, c5, c6, c7, c8, c9, c10⟩ := id C
  exact lv_ldc2 c1 c2 c7 (c8 _ hv) hd (kk G p l e R s m args below meth c Q C hb hQ H locs cells slots ls hw hS hc hs hl)
end AB1
end
section
/-! RULES FOR CELLS -/
theorem ab_w_up {G : ab_G} {n r : Nat} {S : ab_SH} {R R' : ab_RR} {I I' : ab_II} {U : State} {H H1 : Heap} (hw : ab_w G (n, S, R, I) U H) (h3 : 3 ≤ r) (hz : H1.size = H.size) (ho : ∀ q : Nat, q ≠ ab_R G r → H1[q]? = H[q]?)
    (he : va_at (ab_D G) vwCl (ab_R G r, ab_E G S R' I' r) H1) (hR : ∀ j, j ≠ r → R' j = R j) (hI : ∀ j, j ≠ r → I' j = I j) : ab_w G (n, S, R', I') U H1 := by
  obtain ⟨⟨v1, v2, v3, v4⟩, ht⟩ := hw
  have hlow : ∀ q : Nat, ¬ ab_N G q → q ≠ ab_R G r := fun q hq e => hq (by rw [e, ab_R_big G h3]; exact Nat.le_add_right _ _)
  refine ⟨⟨v1, hz.trans v2, ab_P_up v3 h3 he ho (fun j hj => ab_E_congr rfl (hR j hj) (hI j hj)), ?_⟩, ht.kept (fun a _ ha => ho a (hlow a ha))⟩
  show va_X (ab_L G 2) (S 2).2 (I' 2) U H1
  rw [hI 2 (by omega)]
  exact v4.kept (ho _ (hlow _ (Nat.not_le.mpr (ht.2.1 2 (by omega)))))
theorem ab_w_new {G : ab_G} {n kd len : Nat} {S : ab_SH} {R : ab_RR} {I : ab_II} {U : State} {H H1 : Heap} (hw : ab_w G (n, S, R, I) U H) (hz : H1.size = H.size + 1) (ho : ∀ q : Nat, q < H.size → H1[q]? = H[q]?)
    (he : va_at (ab_D G) vwCl (H.size, ab_E G (va_up S n (kd, len)) (va_up R n (fun _ => none)) (va_up I n (fun _ => 0)) n) H1) : ab_w G (n + 1, va_up S n (kd, len), va_up R n (fun _ => none), va_up I n (fun _ => 0)) U H1 := by
  obtain ⟨⟨v1, v2, v3, v4⟩, ht⟩ := hw
  have v1 : 3 ≤ n := v1
  have v2 : H.size = ab_B G + (n - 3) := v2
  have hlow : ∀ q : Nat, ¬ ab_N G q → q < H.size := fun q hq => by
    have : q < ab_B G := Nat.not_le.mp hq
    omega
  have ne : ∀ {α : Type} (f : Nat → α) (x : α) {j : Nat}, j ≠ n → va_up f n x j = f j := fun f x j hj => by simp [va_up, hj]
  refine ⟨⟨by show 3 ≤ n + 1; omega, by show H1.size = _; rw [hz, v2]; show _ = ab_B G + (n + 1 - 3); omega, ab_P_new v3 v1 v2 he ho (fun j hj => ab_E_congr (ne _ _ (by omega)) (ne _ _ (by omega)) (ne _ _ (by omega))), ?_⟩, ht.kept (fun a _ ha => ho a (hlow a ha))⟩
  show va_X (ab_L G 2) (va_up S n (kd, len) 2).2 (va_up I n (fun _ => 0) 2) U H1
  rw [ne _ _ (by omega), ne _ _ (by omega)]
  exact v4.kept (ho _ (hlow _ (Nat.not_le.mpr (ht.2.1 2 (by omega)))))
theorem ab_S_new {A : Nat → Prop} {H0 H H1 : Heap} {locs : List Loc} (h : va_S A H0 H locs) (hz : H1.size = H.size + 1) (ho : ∀ q : Nat, q < H.size → H1[q]? = H[q]?) : va_S A H0 H1 locs :=
  ⟨Nat.le_trans h.1 (by omega), fun q h1 h2 => (ho q (Nat.lt_of_lt_of_le h1 h.1)).trans (h.2.1 q h1 h2), h.2.2⟩
theorem ab_R_N (G : ab_G) {r : Nat} (h : 3 ≤ r) : ab_N G (ab_R G r) := by rw [ab_R_big G h]; exact Nat.le_add_right _ _
theorem ab_fs_set {G : ab_G} {R R' : ab_RR} {I I' : ab_II} {ci r k N : Nat} {v : Value} (hk : k < N) (h1 : ab_F G R' I' ci r k = v) (h2 : ∀ i, i ≠ k → ab_F G R' I' ci r i = ab_F G R I ci r i) :
    ((List.range N).map (ab_F G R I ci r)).set k v = (List.range N).map (ab_F G R' I' ci r) := by
  apply List.ext_getElem?
  intro i
  by_cases hik : i = k
  · subst hik
    rw [List.getElem?_set_self (by simpa using hk), List.getElem?_map, List.getElem?_range hk, Option.map_some, h1]
  · rw [List.getElem?_set_ne (Ne.symm hik), List.getElem?_map, List.getElem?_map]
    by_cases hi : i < N
    · rw [List.getElem?_range hi, Option.map_some, Option.map_some, h2 i hik]
    · rw [List.getElem?_eq_none (by simpa using hi)]
      rfl
theorem ab_same {args : Array Value} {s : State} {ref own nm ds : String} (hts : ∀ w ∈ lw_g, w.before args s = true) (h : ref = own ∨ Cond.sameField ref own nm ds ∈ lw_g) : ∀ x, s.fieldFound? own nm ds = some x → s.fieldFound? ref nm ds = some x := by
  intro x hx
  rcases h with rfl | h
  · exact hx
  · exact u_same (hts _ h) x hx
section AB2
variable {fr lo mc ms : Nat} {M : ab_MT} {pc : Nat} {L : List (Nat × Value)} {st : List Value} {n : Nat} {S : ab_SH} {R : ab_RR} {I : ab_II} {post : ab_Po} {idx ci k r : Nat} {C : String} {T : u_T} {N : Nat}
theorem wp_getI (hd : decode M.2.1 pc = .ok (.getfield idx, 3)) (hF : ab_FL M.1.cls idx ci k C T N) (hr : ab_ok n S r ci) (ht : ab_isR ci k = false) (kk : wp fr lo mc ms M (pc + 3) L (.int (I r k) :: st) (n, S, R, I) post) : wp fr lo mc ms M pc L (.ref r :: st) (n, S, R, I) post := by
  intro G p l e R1 s m args below meth c Q Cx hb hQ H locs cells slots ls hw hS hc hs hl
  obtain ⟨hx, hcode, -, -, -, -, hown, hts, -⟩ := id Cx
  obtain ⟨⟨k1, k2, k3, k4, k5, k6⟩, hk, ref, hl1, hl2⟩ := hF
  have he := ab_W_get G (S := S) (R := R) (I := I) hr.1 hr.2.1
  rw [ab_E_obj hr.2.2 k6] at he
  refine va_get (D := ab_D G) (cl := vwCl) hx hcode hts k3 hown hw.2.1 hw.1.2.2.1 (r - 3) he k1 k hk (hts _ hl1) (ab_same hts hl2) (v := .int (I r k)) ?_ hd (kk G p l e R1 s m args below meth c Q Cx hb hQ H locs cells slots ls hw hS hc hs hl)
  rw [List.getElem?_map, List.getElem?_range (by omega), Option.map_some]
  simp [ab_F, ht]
theorem wp_getR {x : Nat} (hd : decode M.2.1 pc = .ok (.getfield idx, 3)) (hF : ab_FL M.1.cls idx ci k C T N) (hr : ab_ok n S r ci) (ht : ab_isR ci k = true) (hx : R r k = some x) (kk : wp fr lo mc ms M (pc + 3) L (.ref x :: st) (n, S, R, I) post) : wp fr lo mc ms M pc L (.ref r :: st) (n, S, R, I) post := by
  intro G p l e R1 s m args below meth c Q Cx hb hQ H locs cells slots ls hw hS hc hs hl
  obtain ⟨hx1, hcode, -, -, -, -, hown, hts, -⟩ := id Cx
  obtain ⟨⟨k1, k2, k3, k4, k5, k6⟩, hk, ref, hl1, hl2⟩ := hF
  have he := ab_W_get G (S := S) (R := R) (I := I) hr.1 hr.2.1
  rw [ab_E_obj hr.2.2 k6] at he
  refine va_get (D := ab_D G) (cl := vwCl) hx1 hcode hts k3 hown hw.2.1 hw.1.2.2.1 (r - 3) he k1 k hk (hts _ hl1) (ab_same hts hl2) (v := .ref (ab_R G x)) ?_ hd (kk G p l e R1 s m args below meth c Q Cx hb hQ H locs cells slots ls hw hS hc hs hl)
  rw [List.getElem?_map, List.getElem?_range (by omega), Option.map_some]
  simp [ab_F, ht, hx, va_rf]
/-- putfield, down to the cell -/
theorem ab_put {p : Program} {l : Launch} {e : Env} {R1 : Room} {s : State} {m : MethodId} {args : Array Value} {below : List Frame} {meth : Method} {c : Code} {Q : State → Prop} {G : ab_G} {H : Heap} {locs : List Loc} {cells slots : Nat} {ls : Array Slot} {rest : List Value} {v : Value}
    (Cx : ab_C fr lo M p R1 s m args meth c) (hd : decode M.2.1 pc = .ok (.putfield idx, 3)) (hF : ab_FL M.1.cls idx ci k C T N) (hr : ab_ok n S r ci) (hf : (T k).2.2.2 = false ∨ ((T k).2.2.2 = true ∧ M.1.name = "<init>" ∧ (T k).1 = M.1.cls)) (hn : narrow (ab_ty ci k) v = v) (hfit : fits (ab_ty ci k) v = true)
    (hw : ab_w G (n, S, R, I) s H) (hS : va_S (ab_N G) s.heap H locs)
    (kk : ∀ (H1 : Heap) (locs1 : List Loc), va_at (ab_D G) vwCl (ab_R G r, .inr (ci, ((List.range (ab_nf ci)).map (ab_F G R I ci r)).set k v)) H1 → H1.size = H.size → (∀ q : Nat, q ≠ ab_R G r → H1[q]? = H[q]?) → va_S (ab_N G) s.heap H1 locs1 → W p l e R1 s m args below meth c H1 locs1 cells slots Q (F0 m (pc + 3) ls rest)) :
    W p l e R1 s m args below meth c H locs cells slots Q (F0 m pc ls (v :: .ref (ab_R G r) :: rest)) := by
  obtain ⟨hx, hcode, -, -, -, hnm, hown, hts, -⟩ := id Cx
  obtain ⟨⟨k1, k2, k3, k4, k5, k6⟩, hk, ref, hl1, hl2⟩ := hF
  have he := ab_W_get G (S := S) (R := R) (I := I) hr.1 hr.2.1
  rw [ab_E_obj hr.2.2 k6] at he
  have hK := hw.2.1
  have hap := va_apart (own := M.1.cls) hts k3 (ab_ty ci) k4 k5 hK k1
  obtain ⟨r', h1, cell, q1, q2, q3, q4⟩ := hw.1.2.2.1 (r - 3) _ he
  have hr' : r' = (C, T, N) := Option.some.inj (h1.symm.trans k1)
  subst hr'
  obtain ⟨hSl, hfc, kC, hkC, hkind⟩ := hK.1 ci _ k1
  obtain ⟨cf, kf, fi, f, hi, hsl⟩ := hSl k hk
  have hlay := hts _ (k3 _ (u_in_lay hk))
  unfold u_lay at hlay
  have hst := (u_facts hfc hkC (u_lays hts k3 hk) hi).1
  have hlen : k < ((List.range (ab_nf ci)).map (ab_F G R I ci r)).length := by simp; omega
  rcases hf with hf | ⟨hf, hin, hdecl⟩
  · rw [if_neg (by rw [hf]; decide)] at hlay
    have h6 := u_store hfc hkC hkind hlay hi (k4 k hk) hn hfit
    refine W.putK hx hcode (f := f) ⟨hown, hts _ hl1, ⟨_, _, _, ab_same hts hl2 _ hi⟩, hst⟩ (by rw [q2]; exact h6) q1 q3 (by rw [hsl]; exact k2_hasslot (q4 k hk)) rfl rfl hd fun H' e1 e2 e3 => ?_
    rw [hsl] at e1 ⊢
    exact kk H' _ ⟨_, k1, t_OB.to (V := updV (vp_V _) k v) ⟨_, e1, q2, q3, t_set q4 hap hk v⟩ (fun j _ => vp_updV_set hlen v j)⟩ e2 e3 (hS.put e2 e3 (ab_R_N G hr.1))
  · rw [if_pos hf] at hlay
    have hcf : m.cls = cf := by
      obtain ⟨_, _, c', _, _, _, -, -, hf', -, -, -, hown2, -⟩ := Cond.laysFinal_spec hlay
      have e1 : c' = cf := by have := hi.symm.trans hf'; simp at this; exact this.1.symm
      rw [hdecl] at hown2
      rw [← e1]; exact Option.some.inj (hown.symm.trans hown2)
    have h6 := u_fits hfc hkC hkind (Or.inr hlay) hi (k4 k hk) hn hfit
    refine W.putFinK hx hcode hown (hts _ hl1) (ab_same hts hl2 _ hi) hst hcf (hnm.trans hin) (by rw [q2]; exact h6) q1 q3 (by rw [hsl]; exact k2_hasslot (q4 k hk)) rfl rfl hd fun H' e1 e2 e3 => ?_
    rw [hsl] at e1 ⊢
    exact kk H' _ ⟨_, k1, t_OB.to (V := updV (vp_V _) k v) ⟨_, e1, q2, q3, t_set q4 hap hk v⟩ (fun j _ => vp_updV_set hlen v j)⟩ e2 e3 (hS.put e2 e3 (ab_R_N G hr.1))
theorem wp_putI {x : Int32} (hd : decode M.2.1 pc = .ok (.putfield idx, 3)) (hF : ab_FL M.1.cls idx ci k C T N) (hr : ab_ok n S r ci) (ht : ab_isR ci k = false) (hf : (T k).2.2.2 = false) (hv : ab_ty ci k = .int ∨ (ab_ty ci k = .boolean ∧ (x = 0 ∨ x = 1))) (kk : wp fr lo mc ms M (pc + 3) L st (n, S, R, ab_u2 I r k x) post) : wp fr lo mc ms M pc L (.int x :: .ref r :: st) (n, S, R, I) post := by
  intro G p l e R1 s m args below meth c Q Cx hb hQ H locs cells slots ls hw hS hc hs hl
  have hnf : narrow (ab_ty ci k) (.int x) = .int x ∧ fits (ab_ty ci k) (.int x) = true := by
    rcases hv with h | ⟨h, h2⟩
    · rw [h]; exact ⟨rfl, rfl⟩
    · rw [h]; rcases h2 with rfl | rfl <;> exact ⟨rfl, rfl⟩
  refine ab_put Cx hd hF hr (Or.inl hf) hnf.1 hnf.2 hw hS (fun H1 locs1 a1 a2 a3 a4 => ?_)
  refine kk G p l e R1 s m args below meth c Q Cx hb hQ H1 locs1 cells slots ls (ab_w_up hw hr.1 a2 a3 ?_ (fun _ _ => rfl) (fun j hj => ab_u2_r I x hj)) a4 hc hs hl
  have k6 := hF.1.2.2.2.2.2
  have hk : k < ab_nf ci := by rw [← hF.1.2.1]; exact hF.2.1
  rw [ab_E_obj hr.2.2 k6]
  rw [ab_fs_set (R' := R) (I' := ab_u2 I r k x) hk (by simp [ab_F, ht, ab_u2_s, ab_V]) (fun i hi => by simp [ab_F, ab_u2_n I x (Or.inr hi)])] at a1
  exact a1
theorem ab_rt_ok {t : FieldType} (h : ab_rt t = true) (x : Nat) : narrow t (.ref x) = .ref x ∧ fits t (.ref x) = true := by
  cases t <;> first | (simp [ab_rt] at h; done) | exact ⟨rfl, rfl⟩
theorem wp_putR {x : Nat} (hd : decode M.2.1 pc = .ok (.putfield idx, 3)) (hF : ab_FL M.1.cls idx ci k C T N) (hr : ab_ok n S r ci) (ht : ab_isR ci k = true) (hf : (T k).2.2.2 = false ∨ ((T k).2.2.2 = true ∧ M.1.name = "<init>" ∧ (T k).1 = M.1.cls)) (kk : wp fr lo mc ms M (pc + 3) L st (n, S, ab_u2 R r k (some x), I) post) : wp fr lo mc ms M pc L (.ref x :: .ref r :: st) (n, S, R, I) post := by
  intro G p l e R1 s m args below meth c Q Cx hb hQ H locs cells slots ls hw hS hc hs hl
  have hnf := ab_rt_ok ht (ab_R G x)
  refine ab_put Cx hd hF hr hf hnf.1 hnf.2 hw hS (fun H1 locs1 a1 a2 a3 a4 => ?_)
  refine kk G p l e R1 s m args below meth c Q Cx hb hQ H1 locs1 cells slots ls (ab_w_up hw hr.1 a2 a3 ?_ (fun j hj => ab_u2_r R (some x) hj) (fun _ _ => rfl)) a4 hc hs hl
  have k6 := hF.1.2.2.2.2.2
  have hk : k < ab_nf ci := by rw [← hF.1.2.1]; exact hF.2.1
  rw [ab_E_obj hr.2.2 k6]
  rw [ab_fs_set (R' := ab_u2 R r k (some x)) (I' := I) hk (by simp [ab_F, ht, ab_u2_s, va_rf, ab_V]) (fun i hi => by simp [ab_F, ab_u2_n R (some x) (Or.inr hi)])] at a1
  exact a1
theorem ab_tyI {G : ab_G} : (ab_tys G)[0]? = some (ab_A G 9, .int) := rfl
theorem wp_iaload {i : Int32} (hd : decode M.2.1 pc = .ok (.iaload, 1)) (hr : ab_ok n S r 9) (hi : vp_in i (S r).2) (kk : wp fr lo mc ms M (pc + 1) L (.int (I r i.toNatClampNeg) :: st) (n, S, R, I) post) : wp fr lo mc ms M pc L (.int i :: .ref r :: st) (n, S, R, I) post := by
  intro G p l e R1 s m args below meth c Q Cx hb hQ H locs cells slots ls hw hS hc hs hl
  have he := ab_W_get G (S := S) (R := R) (I := I) hr.1 hr.2.1
  rw [ab_E_int hr.2.2 (by decide) (by decide)] at he
  exact va_iald Cx.1 Cx.2.1 hw.2.1 hw.1.2.2.1 (r - 3) 0 he rfl hi hd (kk G p l e R1 s m args below meth c Q Cx hb hQ H locs cells slots ls hw hS hc hs hl)
theorem wp_baload {i : Int32} (hd : decode M.2.1 pc = .ok (.baload, 1)) (hr : ab_ok n S r 10) (hi : vp_in i (S r).2) (kk : wp fr lo mc ms M (pc + 1) L (.int (I r i.toNatClampNeg) :: st) (n, S, R, I) post) : wp fr lo mc ms M pc L (.int i :: .ref r :: st) (n, S, R, I) post := by
  intro G p l e R1 s m args below meth c Q Cx hb hQ H locs cells slots ls hw hS hc hs hl
  have he := ab_W_get G (S := S) (R := R) (I := I) hr.1 hr.2.1
  rw [ab_E_int hr.2.2 (by decide) (by decide)] at he
  exact va_zald Cx.1 Cx.2.1 hw.2.1 hw.1.2.2.1 (r - 3) 1 he rfl hi hd (kk G p l e R1 s m args below meth c Q Cx hb hQ H locs cells slots ls hw hS hc hs hl)
theorem ab_arr_up {G : ab_G} {f g : Nat → Int32} {j : Nat} {x : Int32} {cA : ClassId} {len : Nat} (h1 : g j = x) (h2 : ∀ i, i ≠ j → g i = f i) : (vp_cell cA (len, .inl f)).setSlot j (.int x) = vp_cell cA (len, .inl g) := by
  rw [vp_cell_i, vp_cell_i, arrV_store]
  congr 1
  funext q
  by_cases hq : q = j
  · subst hq
    simp [updV, h1]
  · simp [updV, hq, h2 q hq]
theorem wp_iastore {i x : Int32} (hd : decode M.2.1 pc = .ok (.iastore, 1)) (hr : ab_ok n S r 9) (hi : vp_in i (S r).2) (kk : wp fr lo mc ms M (pc + 1) L st (n, S, R, ab_u2 I r i.toNatClampNeg x) post) : wp fr lo mc ms M pc L (.int x :: .int i :: .ref r :: st) (n, S, R, I) post := by
  intro G p l e R1 s m args below meth c Q Cx hb hQ H locs cells slots ls hw hS hc hs hl
  have he := ab_W_get G (S := S) (R := R) (I := I) hr.1 hr.2.1
  rw [ab_E_int hr.2.2 (by decide) (by decide)] at he
  refine W.iast Cx.1 Cx.2.1 (hw.1.2.2.1 (r - 3) _ he) ((hw.2.1.2 0 _ rfl).1 _ (fun j => .int (I r j))) (fun q => by cases q) (by show ¬ (i < 0 ∨ (arrV _ _ _).slots.size ≤ _); rw [arrV_size]; exact hi) rfl rfl hd fun H1 e1 e2 e3 => ?_
  refine kk G p l e R1 s m args below meth c Q Cx hb hQ H1 _ cells slots ls (ab_w_up hw hr.1 e2 e3 ?_ (fun _ _ => rfl) (fun j hj => ab_u2_r I x hj)) (hS.put e2 e3 (ab_R_N G hr.1)) hc hs hl
  rw [ab_E_int hr.2.2 (by decide) (by decide)]
  refine e1.trans ?_
  rw [ab_arr_up (G := G) (g := ab_u2 I r i.toNatClampNeg x r) (ab_u2_s I r _ x) (fun j hj => ab_u2_n I x (Or.inr hj))]
theorem wp_bastore {i x : Int32} (hd : decode M.2.1 pc = .ok (.bastore, 1)) (hr : ab_ok n S r 10) (hi : vp_in i (S r).2) (hx : x = 0 ∨ x = 1) (kk : wp fr lo mc ms M (pc + 1) L st (n, S, R, ab_u2 I r i.toNatClampNeg x) post) : wp fr lo mc ms M pc L (.int x :: .int i :: .ref r :: st) (n, S, R, I) post := by
  intro G p l e R1 s m args below meth c Q Cx hb hQ H locs cells slots ls hw hS hc hs hl
  have he := ab_W_get G (S := S) (R := R) (I := I) hr.1 hr.2.1
  rw [ab_E_int hr.2.2 (by decide) (by decide)] at he
  refine W.zast Cx.1 Cx.2.1 (hw.1.2.2.1 (r - 3) _ he) ((hw.2.1.2 1 _ rfl).1 _ (fun j => .int (I r j))) (fun q => by cases q) (by show ¬ (i < 0 ∨ (arrV _ _ _).slots.size ≤ _); rw [arrV_size]; exact hi) rfl rfl hd fun H1 e1 e2 e3 => ?_
  refine kk G p l e R1 s m args below meth c Q Cx hb hQ H1 _ cells slots ls (ab_w_up hw hr.1 e2 e3 ?_ (fun _ _ => rfl) (fun j hj => ab_u2_r I x hj)) (hS.put e2 e3 (ab_R_N G hr.1)) hc hs hl
  rw [ab_E_int hr.2.2 (by decide) (by decide)]
  have hnar : narrow .boolean (.int x) = .int x := by rcases hx with rfl | rfl <;> rfl
  rw [hnar] at e1
  refine e1.trans ?_
  rw [ab_arr_up (G := G) (g := ab_u2 I r i.toNatClampNeg x r) (ab_u2_s I r _ x) (fun j hj => ab_u2_n I x (Or.inr hj))]
theorem wp_aaload {i : Int32} {x : Nat} (hd : decode M.2.1 pc = .ok (.aaload, 1)) (hr : ab_ok n S r 11 ∨ ab_ok n S r 12) (hi : vp_in i (S r).2) (hx : R r i.toNatClampNeg = some x) (kk : wp fr lo mc ms M (pc + 1) L (.ref x :: st) (n, S, R, I) post) : wp fr lo mc ms M pc L (.int i :: .ref r :: st) (n, S, R, I) post := by
  intro G p l e R1 s m args below meth c Q Cx hb hQ H locs cells slots ls hw hS hc hs hl
  have ev : va_rf ((R r i.toNatClampNeg).map (ab_R G)) = .ref (ab_R G x) := by rw [hx]; rfl
  have kk' := kk G p l e R1 s m args below meth c Q Cx hb hQ H locs cells slots ls hw hS hc hs hl
  rcases hr with hr | hr
  · have he := ab_W_get G (S := S) (R := R) (I := I) hr.1 hr.2.1
    rw [ab_E_ref hr.2.2 (by decide) (by decide)] at he
    refine va_aldq Cx.1 Cx.2.1 hw.2.1 hw.1.2.2.1 (r - 3) 2 he rfl hi hd ?_
    rw [ev]
    exact kk'
  · have he := ab_W_get G (S := S) (R := R) (I := I) hr.1 hr.2.1
    rw [ab_E_ref hr.2.2 (by decide) (by decide)] at he
    refine va_aldq Cx.1 Cx.2.1 hw.2.1 hw.1.2.2.1 (r - 3) 3 he rfl hi hd ?_
    rw [ev]
    exact kk'
theorem wp_alen (hd : decode M.2.1 pc = .ok (.arraylength, 1)) (hr : ab_ok n S r 9 ∨ ab_ok n S r 10 ∨ ab_ok n S r 11 ∨ ab_ok n S r 12) (kk : wp fr lo mc ms M (pc + 1) L (.int (Int32.ofNat (S r).2) :: st) (n, S, R, I) post) : wp fr lo mc ms M pc L (.ref r :: st) (n, S, R, I) post := by
  intro G p l e R1 s m args below meth c Q Cx hb hQ H locs cells slots ls hw hS hc hs hl
  have kk' := kk G p l e R1 s m args below meth c Q Cx hb hQ H locs cells slots ls hw hS hc hs hl
  rcases hr with hr | hr | hr | hr
  · have he := ab_W_get G (S := S) (R := R) (I := I) hr.1 hr.2.1
    rw [ab_E_int hr.2.2 (by decide) (by decide)] at he
    exact va_alen Cx.1 Cx.2.1 hw.2.1 hw.1.2.2.1 (r - 3) 0 he rfl rfl hd kk'
  · have he := ab_W_get G (S := S) (R := R) (I := I) hr.1 hr.2.1
    rw [ab_E_int hr.2.2 (by decide) (by decide)] at he
    exact va_alen Cx.1 Cx.2.1 hw.2.1 hw.1.2.2.1 (r - 3) 1 he rfl rfl hd kk'
  · have he := ab_W_get G (S := S) (R := R) (I := I) hr.1 hr.2.1
    rw [ab_E_ref hr.2.2 (by decide) (by decide)] at he
    exact va_alen Cx.1 Cx.2.1 hw.2.1 hw.1.2.2.1 (r - 3) 2 he rfl rfl hd kk'
  · have he := ab_W_get G (S := S) (R := R) (I := I) hr.1 hr.2.1
    rw [ab_E_ref hr.2.2 (by decide) (by decide)] at he
    exact va_alen Cx.1 Cx.2.1 hw.2.1 hw.1.2.2.1 (r - 3) 3 he rfl rfl hd kk'
theorem wp_alen0 (hd : decode M.2.1 pc = .ok (.arraylength, 1)) (kk : wp fr lo mc ms M (pc + 1) L (.int 0 :: st) (n, S, R, I) post) : wp fr lo mc ms M pc L (.ref 0 :: st) (n, S, R, I) post := by
  intro G p l e R1 s m args below meth c Q Cx hb hQ H locs cells slots ls hw hS hc hs hl
  obtain ⟨cell, g1, g2, -, -, g3, -⟩ := hw.2.2.2.2.1
  exact W.alen (n := 0) Cx.1 Cx.2.1 g1 g2 g3 rfl rfl hd (kk G p l e R1 s m args below meth c Q Cx hb hQ H locs cells slots ls hw hS hc hs hl)
theorem wp_slen (hd : decode M.2.1 pc = .ok (.arraylength, 1)) (kk : wp fr lo mc ms M (pc + 1) L (.int (Int32.ofNat (S 2).2) :: st) (n, S, R, I) post) : wp fr lo mc ms M pc L (.ref 2 :: st) (n, S, R, I) post := by
  intro G p l e R1 s m args below meth c Q Cx hb hQ H locs cells slots ls hw hS hc hs hl
  obtain ⟨scr, g1, g2, g3, g4, g5⟩ := hw.1.2.2.2
  exact W.alen (n := Int32.ofNat (S 2).2) Cx.1 Cx.2.1 g1 g2 (by rw [g4] <;> rfl) rfl rfl hd (kk G p l e R1 s m args below meth c Q Cx hb hQ H locs cells slots ls hw hS hc hs hl)
theorem wp_saload {i : Int32} (hd : decode M.2.1 pc = .ok (.iaload, 1)) (hi : vp_in i (S 2).2) (kk : wp fr lo mc ms M (pc + 1) L (.int (I 2 i.toNatClampNeg) :: st) (n, S, R, I) post) : wp fr lo mc ms M pc L (.int i :: .ref 2 :: st) (n, S, R, I) post := by
  intro G p l e R1 s m args below meth c Q Cx hb hQ H locs cells slots ls hw hS hc hs hl
  obtain ⟨scr, g1, g2, g3, g4, g5⟩ := hw.1.2.2.2
  have hlt : i.toNatClampNeg < (S 2).2 := Nat.not_le.mp fun q => hi (Or.inr q)
  exact W.iald (v := .int (I 2 i.toNatClampNeg)) Cx.1 Cx.2.1 g1 g2 g3 (by rw [g4]; exact hi) (g5 _ hlt) rfl rfl hd (kk G p l e R1 s m args below meth c Q Cx hb hQ H locs cells slots ls hw hS hc hs hl)
end AB2
end
section
/-! RULES FOR WHAT IS MADE, AND FOR CALLS -/
theorem ab_dflt : ∀ ci, ci < 9 → ∀ j, j < ab_nf ci → defaultValue (ab_ty ci j) = if ab_isR ci j = true then .null else .int 0 := by decide +kernel
section AB3
variable {fr lo mc ms : Nat} {M : ab_MT} {pc : Nat} {L : List (Nat × Value)} {st : List Value} {n : Nat} {S : ab_SH} {R : ab_RR} {I : ab_II} {post : ab_Po} {idx ci k r : Nat} {C : String} {T : u_T} {N : Nat}
abbrev ab_nS (S : ab_SH) (n kd len : Nat) : ab_SH := va_up S n (kd, len)
abbrev ab_nR (R : ab_RR) (n : Nat) : ab_RR := va_up R n (fun _ => none)
abbrev ab_nI (I : ab_II) (n : Nat) : ab_II := va_up I n (fun _ => 0)
theorem ab_szR {G : ab_G} {U : State} {H : Heap} (hw : ab_w G (n, S, R, I) U H) : H.size = ab_R G n := by
  have v1 : 3 ≤ n := hw.1.1
  rw [ab_R_big G v1]
  exact hw.1.2.1
theorem wp_new (hd : decode M.2.1 pc = .ok (.new idx, 3)) (hK : ab_K ci C T N) (h1 : Cond.classLink M.1.cls idx C ∈ lw_g) (h2 : Cond.instantiable C N ∈ lw_g) (h3 : Cond.initialized C ∈ lw_g) (hm : 1 ≤ mc) (hz : N ≤ ms)
    (kk : wp fr lo (mc - 1) (ms - N) M (pc + 3) L (.ref n :: st) (n + 1, ab_nS S n ci 0, ab_nR R n, ab_nI I n) post) : wp fr lo mc ms M pc L st (n, S, R, I) post := by
  intro G p l e R1 s m args below meth c Q Cx hb hQ H locs cells slots ls hw hS hc hs hl
  obtain ⟨hx, hcode, -, -, -, -, hown, hts, -⟩ := id Cx
  obtain ⟨k1, k2, k3, k4, k5, k6⟩ := hK
  have hKn := hw.2.1.1 ci _ k1
  refine W.newcK hx hcode hown (hts _ h1) (hts _ h2) (hts _ h3) rfl hd (by omega) (by omega) hKn.2.1 rfl fun H1 kC hkC e1 z1 o1 => ?_
  have hw1 : ab_w G (n + 1, ab_nS S n ci 0, ab_nR R n, ab_nI I n) s H1 := by
    refine ab_w_new hw z1 o1 ?_
    rw [ab_E_obj (ci := ci) (by simp [va_up]) k6]
    refine ⟨_, k1, (u_born (ab_ty ci) hts k3 hKn hkC e1 k4).to (fun j hj => ?_)⟩
    rw [ab_dflt ci k6 j (by omega)]
    have hj2 : j < ab_nf ci := by have : N = ab_nf ci := k2; omega
    show _ = List.getD _ _ _
    rw [List.getD_eq_getElem?_getD, List.getElem?_map, List.getElem?_range hj2]
    simp only [Option.map_some, Option.getD_some, ab_F, va_up, if_true, Option.map_none]
    rfl
  have kk' := kk G p l e R1 s m args below meth c Q Cx hb hQ H1 locs (cells + 1) (slots + N) ls hw1 (ab_S_new hS z1 o1) (by omega) (by omega) hl
  rw [List.map_cons] at kk'
  rw [ab_szR hw]
  exact kk'
theorem wp_newI {i : Int32} (hd : decode M.2.1 pc = .ok (.newarray .int, 2)) (h1 : Cond.arrayClass .int ∈ lw_g) (h0 : ¬ i < 0) (hN : i.toNatClampNeg = N) (hB : N ≤ 100000) (hm : 1 ≤ mc) (hz : N ≤ ms)
    (kk : wp fr lo (mc - 1) (ms - N) M (pc + 2) L (.ref n :: st) (n + 1, ab_nS S n 9 N, ab_nR R n, ab_nI I n) post) : wp fr lo mc ms M pc L (.int i :: st) (n, S, R, I) post := by
  intro G p l e R1 s m args below meth c Q Cx hb hQ H locs cells slots ls hw hS hc hs hl
  obtain ⟨hx, hcode, -, -, -, -, hown, hts, -⟩ := id Cx
  have hAr : s.vm.findClass ("[" ++ FieldType.int.toString) = some (ab_A G 9) := (hw.2.1.2 0 _ rfl).2
  refine va_newaK hx hcode (atype := .int) (hts _ h1) rfl hd rfl h0 hN (by show N * componentBytes .int ≤ _; rw [show componentBytes .int = 4 from rfl]; omega) (by omega) (by omega) rfl fun H1 cA e1 z1 o1 hA1 hA2 => ?_
  have hcA : cA = ab_A G 9 := Option.some.inj (hA2.symm.trans hAr)
  subst hcA
  have hw1 : ab_w G (n + 1, ab_nS S n 9 N, ab_nR R n, ab_nI I n) s H1 := by
    refine ab_w_new hw z1 o1 ?_
    rw [ab_E_int (ci := 9) (by simp [va_up]) (by decide) (by decide)]
    show H1[H.size]? = some (vp_cell _ _)
    rw [e1]
    simp [va_up, vp_cell_i]
    rfl
  have kk' := kk G p l e R1 s m args below meth c Q Cx hb hQ H1 locs (cells + 1) (slots + N) ls hw1 (ab_S_new hS z1 o1) (by omega) (by omega) hl
  rw [List.map_cons] at kk'
  rw [ab_szR hw]
  exact kk'
theorem wp_newZ {i : Int32} (hd : decode M.2.1 pc = .ok (.newarray .boolean, 2)) (h1 : Cond.arrayClass .boolean ∈ lw_g) (h0 : ¬ i < 0) (hN : i.toNatClampNeg = N) (hB : N ≤ 100000) (hm : 1 ≤ mc) (hz : N ≤ ms)
    (kk : wp fr lo (mc - 1) (ms - N) M (pc + 2) L (.ref n :: st) (n + 1, ab_nS S n 10 N, ab_nR R n, ab_nI I n) post) : wp fr lo mc ms M pc L (.int i :: st) (n, S, R, I) post := by
  intro G p l e R1 s m args below meth c Q Cx hb hQ H locs cells slots ls hw hS hc hs hl
  obtain ⟨hx, hcode, -, -, -, -, hown, hts, -⟩ := id Cx
  have hAr : s.vm.findClass ("[" ++ FieldType.boolean.toString) = some (ab_A G 10) := (hw.2.1.2 1 _ rfl).2
  refine va_newaK hx hcode (atype := .boolean) (hts _ h1) rfl hd rfl h0 hN (by show N * componentBytes .boolean ≤ _; rw [show componentBytes .boolean = 1 from rfl]; omega) (by omega) (by omega) rfl fun H1 cA e1 z1 o1 hA1 hA2 => ?_
  have hcA : cA = ab_A G 10 := Option.some.inj (hA2.symm.trans hAr)
  subst hcA
  have hw1 : ab_w G (n + 1, ab_nS S n 10 N, ab_nR R n, ab_nI I n) s H1 := by
    refine ab_w_new hw z1 o1 ?_
    rw [ab_E_int (ci := 10) (by simp [va_up]) (by decide) (by decide)]
    show H1[H.size]? = some (vp_cell _ _)
    rw [e1]
    simp [va_up, vp_cell_i]
    rfl
  have kk' := kk G p l e R1 s m args below meth c Q Cx hb hQ H1 locs (cells + 1) (slots + N) ls hw1 (ab_S_new hS z1 o1) (by omega) (by omega) hl
  rw [List.map_cons] at kk'
  rw [ab_szR hw]
  exact kk'
theorem ab_anew {E : String} {kd t0 : Nat} {i : Int32} (hkd : kd = 11 ∨ kd = 12) (hty : ∀ G, (ab_tys G)[t0]? = some (ab_A G kd, .object E)) (hao : ∀ G U H, ab_t G U H → va_AO E U)
    (hd : decode M.2.1 pc = .ok (.anewarray idx, 3)) (h1 : Cond.classLink M.1.cls idx E ∈ lw_g) (h0 : ¬ i < 0) (hN : i.toNatClampNeg = N) (hB : N ≤ 100000) (hm : 1 ≤ mc) (hz : N ≤ ms)
    (kk : wp fr lo (mc - 1) (ms - N) M (pc + 3) L (.ref n :: st) (n + 1, ab_nS S n kd N, ab_nR R n, ab_nI I n) post) : wp fr lo mc ms M pc L (.int i :: st) (n, S, R, I) post := by
  intro G p l e R1 s m args below meth c Q Cx hb hQ H locs cells slots ls hw hS hc hs hl
  obtain ⟨hx, hcode, -, -, -, -, hown, hts, -⟩ := id Cx
  subst hN
  refine W.anew hx hcode hown (hts _ h1) (va_AO.use (hao G s H hw.2)) rfl hd rfl h0 (by omega) (by omega) (by omega) fun cA kA comp f1 f2 f3 f4 => ?_
  generalize hH1 : H.push ({ cls := cA, slots := Array.replicate i.toNatClampNeg .null, vm := .none } : Cell) = H1
  have z1 : H1.size = H.size + 1 := by rw [← hH1, Array.size_push]
  have e1 : H1[H.size]? = some (arrV cA i.toNatClampNeg (fun _ => .null)) := by rw [← hH1, Array.getElem?_push_size, ← arrV_new]
  have o1 : ∀ q : Nat, q < H.size → H1[q]? = H[q]? := fun q hq => by rw [← hH1, Array.getElem?_push, if_neg (Nat.ne_of_lt hq)]
  obtain ⟨-, kA', comp', g1, g2, g3, g4⟩ := hw.2.1.2 t0 _ (hty G)
  have hcA : cA = ab_A G kd := Option.some.inj (f1.symm.trans g4)
  subst hcA
  have hw1 : ab_w G (n + 1, ab_nS S n kd i.toNatClampNeg, ab_nR R n, ab_nI I n) s H1 := by
    refine ab_w_new hw z1 o1 ?_
    rw [ab_E_ref (ci := kd) (by simp [va_up]) (by omega) (by omega)]
    show H1[H.size]? = some (vp_cell _ _)
    rw [e1]
    simp [va_up, vp_cell_q, va_rf]
  have kk' := kk G p l e R1 s m args below meth c Q Cx hb hQ H1 locs (cells + 1) (slots + i.toNatClampNeg) ls hw1 (ab_S_new hS z1 o1) (by omega) (by omega) hl
  rw [List.map_cons] at kk'
  rw [ab_szR hw]
  exact kk'
theorem wp_anewO {i : Int32} (hd : decode M.2.1 pc = .ok (.anewarray idx, 3)) (h1 : Cond.classLink M.1.cls idx "java/lang/Object" ∈ lw_g) (h0 : ¬ i < 0) (hN : i.toNatClampNeg = N) (hB : N ≤ 100000) (hm : 1 ≤ mc) (hz : N ≤ ms)
    (kk : wp fr lo (mc - 1) (ms - N) M (pc + 3) L (.ref n :: st) (n + 1, ab_nS S n 12 N, ab_nR R n, ab_nI I n) post) : wp fr lo mc ms M pc L (.int i :: st) (n, S, R, I) post :=
  ab_anew (t0 := 3) (Or.inr rfl) (fun _ => rfl) (fun _ _ _ h => h.2.2.2.2.2.1) hd h1 h0 hN hB hm hz kk
theorem wp_anewF {i : Int32} (hd : decode M.2.1 pc = .ok (.anewarray idx, 3)) (h1 : Cond.classLink M.1.cls idx "LevelStore$FileRow" ∈ lw_g) (h0 : ¬ i < 0) (hN : i.toNatClampNeg = N) (hB : N ≤ 100000) (hm : 1 ≤ mc) (hz : N ≤ ms)
    (kk : wp fr lo (mc - 1) (ms - N) M (pc + 3) L (.ref n :: st) (n + 1, ab_nS S n 11 N, ab_nR R n, ab_nI I n) post) : wp fr lo mc ms M pc L (.int i :: st) (n, S, R, I) post :=
  ab_anew (t0 := 2) (Or.inl rfl) (fun _ => rfl) (fun _ _ _ h => h.2.2.2.2.2.2.1) hd h1 h0 hN hB hm hz kk
theorem ab_arr_upR {G : ab_G} {f g : Nat → Option Nat} {j : Nat} {x : Option Nat} {cA : ClassId} {len : Nat} (h1 : g j = x) (h2 : ∀ i, i ≠ j → g i = f i) : (vp_cell cA (len, .inr (.inr (.inr (.inr f))))).setSlot j (va_rf x) = vp_cell cA (len, .inr (.inr (.inr (.inr g)))) := by
  rw [vp_cell_q, vp_cell_q, arrV_store]
  congr 1
  funext q
  by_cases hq : q = j
  · subst hq
    simp [updV, h1]
  · simp [updV, hq, h2 q hq]
theorem wp_aastoreN {i : Int32} (hd : decode M.2.1 pc = .ok (.aastore, 1)) (hr : ab_ok n S r 12) (hi : vp_in i (S r).2) (kk : wp fr lo mc ms M (pc + 1) L st (n, S, ab_u2 R r i.toNatClampNeg none, I) post) : wp fr lo mc ms M pc L (.null :: .int i :: .ref r :: st) (n, S, R, I) post := by
  intro G p l e R1 s m args below meth c Q Cx hb hQ H locs cells slots ls hw hS hc hs hl
  have he := ab_W_get G (S := S) (R := R) (I := I) hr.1 hr.2.1
  rw [ab_E_ref hr.2.2 (by decide) (by decide)] at he
  refine va_WaastN (C := "java/lang/Object") Cx.1 Cx.2.1 (hw.1.2.2.1 (r - 3) _ he) ((hw.2.1.2 3 _ rfl).1 _ _) (fun h => by cases h) (by show ¬ (i < 0 ∨ (arrV _ _ _).slots.size ≤ _); rw [arrV_size]; exact hi) rfl rfl hd fun H1 e1 e2 e3 => ?_
  refine kk G p l e R1 s m args below meth c Q Cx hb hQ H1 _ cells slots ls (ab_w_up hw hr.1 e2 e3 ?_ (fun j hj => ab_u2_r R none hj) (fun _ _ => rfl)) (hS.put e2 e3 (ab_R_N G hr.1)) hc hs hl
  rw [ab_E_ref hr.2.2 (by decide) (by decide)]
  refine e1.trans ?_
  rw [show (Value.null) = va_rf none from rfl, ab_arr_upR (G := G) (g := fun j => (ab_u2 R r i.toNatClampNeg none r j).map (ab_R G)) (by rw [ab_u2_s]; rfl) (fun j hj => by rw [ab_u2_n R none (Or.inr hj)])]
theorem ab_aast {E : String} {kd t0 cv : Nat} {C' : String} {T' : u_T} {N' : Nat} {i : Int32} {x : Nat} (hkd : kd = 11 ∨ kd = 12) (hty : ∀ G, (ab_tys G)[t0]? = some (ab_A G kd, .object E)) (hcl : vwCl[cv]? = some (C', T', N')) (hcv : cv < 9)
    (hasg : ∀ G U H, ab_t G U H → ∀ a b : ClassId, U.vm.findClass C' = some a → U.vm.findClass E = some b → U.vm.assignable a b = true)
    (hd : decode M.2.1 pc = .ok (.aastore, 1)) (hr : ab_ok n S r kd) (hi : vp_in i (S r).2) (hx : ab_ok n S x cv) (kk : wp fr lo mc ms M (pc + 1) L st (n, S, ab_u2 R r i.toNatClampNeg (some x), I) post) : wp fr lo mc ms M pc L (.ref x :: .int i :: .ref r :: st) (n, S, R, I) post := by
  intro G p l e R1 s m args below meth c Q Cx hb hQ H locs cells slots ls hw hS hc hs hl
  have he := ab_W_get G (S := S) (R := R) (I := I) hr.1 hr.2.1
  rw [ab_E_ref hr.2.2 (by omega) (by omega)] at he
  have hv := ab_W_get G (S := S) (R := R) (I := I) hx.1 hx.2.1
  rw [ab_E_obj hx.2.2 hcv] at hv
  have hlt : i.toNatClampNeg < (S r).2 := Nat.not_le.mp fun q => hi (Or.inr q)
  have h0 : ¬ i < 0 := fun q => hi (Or.inl q)
  obtain ⟨r', hr', cellV, g1, g2, g3, -⟩ := hw.1.2.2.1 (x - 3) _ hv
  have hcls := (hw.2.1.1 cv _ hcl).2
  obtain ⟨-, kA, comp, k1, k2, k3, -⟩ := hw.2.1.2 t0 _ (hty G)
  obtain ⟨kE, hkE, -⟩ := Vm.findClass_spec k3
  have f3 := hasg G s H hw.2 _ _ hcls.1 k3
  obtain ⟨kC, hkC, -⟩ := hcls.2
  refine W.aast Cx.1 Cx.2.1 (hw.1.2.2.1 (r - 3) _ he) (fun q h => by cases h) (fun h => by cases h) k1 k2 rfl hkE ⟨h0, by show _ < (arrV _ _ _).slots.size; rw [arrV_size]; exact hlt⟩ g1 (fun q h => by rw [g3] at h; cases h) (by rw [g2]; exact hkC) (by rw [g2]; exact f3) rfl rfl hd fun H1 e1 e2 e3 => ?_
  refine kk G p l e R1 s m args below meth c Q Cx hb hQ H1 _ cells slots ls (ab_w_up hw hr.1 e2 e3 ?_ (fun j hj => ab_u2_r R (some x) hj) (fun _ _ => rfl)) (hS.put e2 e3 (ab_R_N G hr.1)) hc hs hl
  rw [ab_E_ref hr.2.2 (by omega) (by omega)]
  refine e1.trans ?_
  rw [show (Value.ref (ab_R G x)) = va_rf (some (ab_R G x)) from rfl, ab_arr_upR (G := G) (g := fun j => (ab_u2 R r i.toNatClampNeg (some x) r j).map (ab_R G)) (by rw [ab_u2_s]; rfl) (fun j hj => by rw [ab_u2_n R (some x) (Or.inr hj)])]
theorem wp_aastoreO {i : Int32} {x : Nat} (hd : decode M.2.1 pc = .ok (.aastore, 1)) (hr : ab_ok n S r 12) (hi : vp_in i (S r).2) (hx : ab_ok n S x 6) (kk : wp fr lo mc ms M (pc + 1) L st (n, S, ab_u2 R r i.toNatClampNeg (some x), I) post) : wp fr lo mc ms M pc L (.ref x :: .int i :: .ref r :: st) (n, S, R, I) post := by
  refine ab_aast (cv := 6) (t0 := 3) (E := "java/lang/Object") (Or.inr rfl) (fun _ => rfl) rfl (by decide) (fun G U H ht a b h1 h2 => ?_) hd hr hi hx kk
  obtain ⟨c0, t1, f1, f2, f3⟩ := Cond.castable_spec ht.2.2.2.2.2.2.2.1
  cases h1.symm.trans f1
  cases h2.symm.trans f2
  exact f3
theorem wp_aastoreF {i : Int32} {x : Nat} (hd : decode M.2.1 pc = .ok (.aastore, 1)) (hr : ab_ok n S r 11) (hi : vp_in i (S r).2) (hx : ab_ok n S x 2) (kk : wp fr lo mc ms M (pc + 1) L st (n, S, ab_u2 R r i.toNatClampNeg (some x), I) post) : wp fr lo mc ms M pc L (.ref x :: .int i :: .ref r :: st) (n, S, R, I) post := by
  refine ab_aast (cv := 2) (t0 := 2) (E := "LevelStore$FileRow") (Or.inl rfl) (fun _ => rfl) rfl (by decide) (fun G U H ht a b h1 h2 => ?_) hd hr hi hx kk
  have h1 : U.vm.findClass "LevelStore$FileRow" = some a := h1
  cases h1.symm.trans h2
  have hc := (ht.1.1 2 _ rfl).2
  have : U.vm.findClass "LevelStore$FileRow" = some ((ab_D G).1 2) := hc.1
  cases h1.symm.trans this
  exact va_assign hc
theorem wp_gets (hd : decode M.2.1 pc = .ok (.getstatic idx, 3)) (h1 : Cond.fieldLink M.1.cls idx "java/util/ArrayList" "DEFAULTCAPACITY_EMPTY_ELEMENTDATA" "[Ljava/lang/Object;" ∈ lw_g) (kk : wp fr lo mc ms M (pc + 3) L (.ref 0 :: st) (n, S, R, I) post) : wp fr lo mc ms M pc L st (n, S, R, I) post := by
  intro G p l e R1 s m args below meth c Q Cx hb hQ H locs cells slots ls hw hS hc hs hl
  obtain ⟨hx, hcode, -, -, -, -, hown, hts, -⟩ := id Cx
  obtain ⟨cf, kf, fi, f, a, cell, g1, g2, g3, g4, g5, g6, g7, g8⟩ := hw.2.2.2.1
  exact W.gets hx hcode hown (hts _ h1) g1 g2 g3 g4 g5 (fun e => by rw [e] at g6; cases g6) g7 rfl hd (kk G p l e R1 s m args below meth c Q Cx hb hQ H locs cells slots ls hw hS hc hs hl)
theorem wp_ldcM (hd : decode M.2.1 pc = .ok (.ldc idx, 2)) (h1 : Cond.classLink M.1.cls idx "[Ljava/lang/Object;" ∈ lw_g) (kk : wp fr lo mc ms M (pc + 2) L (.ref 1 :: st) (n, S, R, I) post) : wp fr lo mc ms M pc L st (n, S, R, I) post := by
  intro G p l e R1 s m args below meth c Q Cx hb hQ H locs cells slots ls hw hS hc hs hl
  obtain ⟨hx, hcode, -, -, -, -, hown, hts, -⟩ := id Cx
  exact va_ldcM hx hcode hown (hts _ h1) hw.2.2.2.2.2.1 hd (kk G p l e R1 s m args below meth c Q Cx hb hQ H locs cells slots ls hw hS hc hs hl)
theorem wp_acmpeq_s {x : Nat} {off : Int} {tgt : Nat} (hd : decode M.2.1 pc = .ok (.if_acmp .eq off, 3)) (ht : (pc : Int) + off = (tgt : Int)) (kk : wp fr lo mc ms M tgt L st (n, S, R, I) post) : wp fr lo mc ms M pc L (.ref x :: .ref x :: st) (n, S, R, I) post := by
  intro G p l e R1 s m args below meth c Q Cx hb hQ H locs cells slots ls hw hS hc hs hl
  exact lv_acmp_eq (rx := some (ab_R G x)) (ry := some (ab_R G x)) Cx.1 Cx.2.1 hd ht (fun _ => kk G p l e R1 s m args below meth c Q Cx hb hQ H locs cells slots ls hw hS hc hs hl) (fun h => absurd rfl h)
theorem wp_acmpeq_d {x y : Nat} {off : Int} {tgt : Nat} (hd : decode M.2.1 pc = .ok (.if_acmp .eq off, 3)) (ht : (pc : Int) + off = (tgt : Int)) (hx : 3 ≤ x) (hy : y < 3) (kk : wp fr lo mc ms M (pc + 3) L st (n, S, R, I) post) : wp fr lo mc ms M pc L (.ref y :: .ref x :: st) (n, S, R, I) post := by
  intro G p l e R1 s m args below meth c Q Cx hb hQ H locs cells slots ls hw hS hc hs hl
  refine lv_acmp_eq (rx := some (ab_R G x)) (ry := some (ab_R G y)) Cx.1 Cx.2.1 hd ht (fun h => ?_) (fun _ => kk G p l e R1 s m args below meth c Q Cx hb hQ H locs cells slots ls hw hS hc hs hl)
  have h2 := Option.some.inj h
  have h3 := hw.2.2.1 y hy
  rw [ab_R_big G hx, show ab_R G y = ab_L G y by simp [ab_R, hy]] at h2
  omega
theorem wp_acmpne_s {x : Nat} {off : Int} {tgt : Nat} (hd : decode M.2.1 pc = .ok (.if_acmp .ne off, 3)) (ht : (pc : Int) + off = (tgt : Int)) (kk : wp fr lo mc ms M (pc + 3) L st (n, S, R, I) post) : wp fr lo mc ms M pc L (.ref x :: .ref x :: st) (n, S, R, I) post := by
  intro G p l e R1 s m args below meth c Q Cx hb hQ H locs cells slots ls hw hS hc hs hl
  exact lv_acmp_ne (rx := some (ab_R G x)) (ry := some (ab_R G x)) Cx.1 Cx.2.1 hd ht (fun h => absurd rfl h) (fun _ => kk G p l e R1 s m args below meth c Q Cx hb hQ H locs cells slots ls hw hS hc hs hl)
theorem ab_recv {G : ab_G} {U : State} {H : Heap} (hw : ab_w G (n, S, R, I) U H) (hr : ab_ok n S r ci) (hcl : vwCl[ci]? = some (C, T, N)) (h9 : ci < 9) : ∃ cell : Cell, H[ab_R G r]? = some cell ∧ cell.vm.isStatics = false ∧ U.vm.findClass C = some cell.cls := by
  have he := ab_W_get G (S := S) (R := R) (I := I) hr.1 hr.2.1
  rw [ab_E_obj hr.2.2 h9] at he
  exact va_recv hw.2.1 hw.1.2.2.1 hcl he
theorem wp_cast (hd : decode M.2.1 pc = .ok (.checkcast idx, 3)) (hK : ab_K ci C T N) (h1 : Cond.classLink M.1.cls idx C ∈ lw_g) (hr : ab_ok n S r ci) (kk : wp fr lo mc ms M (pc + 3) L (.ref r :: st) (n, S, R, I) post) : wp fr lo mc ms M pc L (.ref r :: st) (n, S, R, I) post := by
  intro G p l e R1 s m args below meth c Q Cx hb hQ H locs cells slots ls hw hS hc hs hl
  obtain ⟨hx, hcode, -, -, -, -, hown, hts, -⟩ := id Cx
  exact va_castS hx hcode hown (hts _ h1) (hw.2.1.1 ci _ hK.1).2 (ab_recv hw hr hK.1 hK.2.2.2.2.2) hd (kk G p l e R1 s m args below meth c Q Cx hb hQ H locs cells slots ls hw hS hc hs hl)
theorem ab_stw {G : ab_G} (st : List Value) : ((st.map (ab_V G)).map fun v => v.category).sum = (st.map fun v => v.category).sum := by
  rw [List.map_map]
  congr 1
  apply List.map_congr_left
  intro v _
  exact ab_V_cat G v
theorem wp_objInit (hd : decode M.2.1 pc = .ok (.invokespecial idx, 3)) (h1 : Cond.methodLink M.1.cls idx Lib.objectInit ∈ lw_g) (h2 : Cond.instanceMethod Lib.objectInit ∈ lw_g) (h3 : Cond.code Lib.objectInit ⟨#[0xb1]⟩ 1 none ∈ lw_g) (hf : 1 ≤ fr) (hlo : (st.map fun v => v.category).sum + 12 ≤ lo) (kk : wp fr lo mc ms M (pc + 3) L st (n, S, R, I) post) : wp fr lo mc ms M pc L (.ref r :: st) (n, S, R, I) post := by
  intro G p l e R1 s m args below meth c Q Cx hb hQ H locs cells slots ls hw hS hc hs hl
  obtain ⟨hx, hcode, hml, -, -, -, hown, hts, hfr, hloc⟩ := id Cx
  refine W.objInit hx hcode hown (hts _ h1) (hts _ h2) (hts _ h3) rfl (by rw [hml]; exact hl.1) rfl hd (by omega) ?_ (kk G p l e R1 s m args below meth c Q Cx hb hQ H locs cells slots ls hw hS hc hs hl)
  show 2 * 0 + _ + 12 ≤ _
  rw [ab_stw]
  omega
theorem wp_getC (hd : decode M.2.1 pc = .ok (.invokevirtual idx, 3)) (hr : ab_ok n S r 12) (h1 : Cond.methodLink M.1.cls idx ⟨"java/lang/Object", "getClass", "()Ljava/lang/Class;"⟩ ∈ lw_g)
    (h2 : Cond.selects "[Ljava/lang/Object;" ⟨"java/lang/Object", "getClass", "()Ljava/lang/Class;"⟩ ⟨"java/lang/Object", "getClass", "()Ljava/lang/Class;"⟩ ∈ lw_g) (h3 : Cond.instanceMethod ⟨"java/lang/Object", "getClass", "()Ljava/lang/Class;"⟩ ∈ lw_g) (h4 : Cond.native ⟨"java/lang/Object", "getClass", "()Ljava/lang/Class;"⟩ ∈ lw_g)
    (hf : 1 ≤ fr) (hlo : (st.map fun v => v.category).sum + 14 ≤ lo) (kk : wp fr lo mc ms M (pc + 3) L (.ref 1 :: st) (n, S, R, I) post) : wp fr lo mc ms M pc L (.ref r :: st) (n, S, R, I) post := by
  intro G p l e R1 s m args below meth c Q Cx hb hQ H locs cells slots ls hw hS hc hs hl
  obtain ⟨hx, hcode, hml, -, -, -, hown, hts, hfr, hloc⟩ := id Cx
  have he := ab_W_get G (S := S) (R := R) (I := I) hr.1 hr.2.1
  rw [ab_E_ref hr.2.2 (by decide) (by decide)] at he
  refine va_getC (C := "[Ljava/lang/Object;") hx hcode (by rw [hml]; exact hl.1.symm) hown (hts _ h1) (va_Dc.use hw.2.2.2.2.2.2.2.2.2) (hts _ h2) (hts _ h3) (hts _ h4) hw.2.2.2.2.2.1 ⟨_, hw.1.2.2.1 (r - 3) _ he, rfl, va_nmO (hw.2.1.2 3 _ rfl).2 (by decide +kernel)⟩ (by omega) ?_ hd (kk G p l e R1 s m args below meth c Q Cx hb hQ H locs cells slots ls hw hS hc hs hl)
  rw [ab_stw]
  omega
end AB3
end
section
/-! CALLS -/
def ab_Q (G : ab_G) (post : ab_Po) : Array Value → State → Outcome → State → Prop := fun _ s oc t => ∃ (v : Option Value) (h : ab_M), oc = .returned (v.map (ab_V G)) ∧ post v h ∧ ab_v G h t t.heap ∧ va_F (ab_N G) s t
/-- a method that can be called: its words are in the tables -/
def ab_MK (K : ab_MT) (a : Nat) : Prop := Cond.code K.1 K.2.1 K.2.2.1 K.2.2.2 ∈ lw_g ∧ Cond.initialized K.1.cls ∈ lw_g ∧ plainName K.1.cls = true ∧ K.1.cls ≠ "java/lang/invoke/MethodHandle" ∧ K.1.cls ≠ "java/lang/invoke/VarHandle" ∧ (parseMethodDescriptor K.1.desc).map (fun d => d.parameters.length) = some a
theorem ab_args (G : ab_G) : ∀ (as : List Value) (i : Nat), lv_args i (as.map (ab_V G)) = (lv_args i as).map (fun q => (q.1, ab_V G q.2))
  | [], _ => rfl
  | v :: t, i => by
    show (i, ab_V G v) :: lv_args (if (ab_V G v).category = 2 then i + 2 else i + 1) (t.map (ab_V G)) = _
    rw [ab_V_cat, ab_args G t]
    rfl
theorem ab_args_lk (G : ab_G) {ls : Array Slot} {nL : Nat} {as : List Value} (h : lv_has ls nL (lv_args 0 (as.map (ab_V G)))) : ab_l G ls nL (lv_args 0 as) := by
  rw [ab_args] at h
  exact ⟨h.1, h.2.1, fun i v hv => h.2.2 (i, ab_V G v) (List.mem_map.mpr ⟨(i, v), ab_lk_mem hv, rfl⟩)⟩
/-- the contract of a method at one heap and one list of arguments -/
theorem ab_met {K : ab_MT} {a fr lo mc ms : Nat} {h : ab_M} {as : List Value} {post : ab_Po} (hK : ab_MK K a) (hsz : (lg_sl as).length ≤ K.2.2.1) (kk : wp fr lo mc ms K 0 (lv_args 0 as) [] h post) (l : Launch) (G : ab_G) :
    Met l K.1 (Cond.code K.1 K.2.1 K.2.2.1 K.2.2.2 :: lw_g) { frames := fr, cells := mc, slots := ms, locals := lo } (va_Pc (as.map (ab_V G)) (fun U => ab_w G h U U.heap)) (ab_Q G post) mc ms (ab_N G) := by
  refine Met.ofW (cc := K.2.1) (maxL := K.2.2.1) (ret := K.2.2.2) hK.2.2.1 rfl ?_
  intro p e s m args below meth c s₁ B hml hv
  obtain ⟨rfl, hw⟩ := hv
  have hts := atoms_spec (ws := Cond.code K.1 K.2.1 K.2.2.1 K.2.2.2 :: lw_g) B.pre
  have hnm := (name_of_methodNamed B.named B.method).1
  have hlk := B.notSynchronized
  have C : ab_C fr lo K p { frames := fr, cells := mc, slots := ms, locals := lo } s m (as.map (ab_V G)).toArray meth c := ⟨B.exec, B.bytes, hml, B.returns, hlk, hnm, findClass_of_methodNamed B.named, fun w hw => hts w (List.mem_cons_of_mem _ hw), rfl, rfl⟩
  have hbs : ab_B G ≤ s.heap.size := by have := hw.1.2.1; omega
  have hslen : (lg_sl (as.map (ab_V G))).length = (lg_sl as).length := by
    clear kk hw hts C B hsz
    induction as with
    | nil => rfl
    | cons v t ih =>
      cases v <;> simp_all [lg_sl, ab_V, Value.category]
  have hl := lv_entry (as.map (ab_V G)) (n := K.2.2.1) (by rw [hslen]; exact hsz)
  rw [lg_entry_eq]
  refine kk G p l e _ s m _ below meth c _ C hbs ?_ s.heap [] 0 0 _ hw va_S.rf (by show 0 + mc ≤ mc; omega) (by show 0 + ms ≤ ms; omega) (ab_args_lk G hl)
  intro v h' H locs cells slots pc ls hp hrt hri hw' hS hc hs
  have fin : ∀ t : State, t.heap = H → s.WarmedH t.vm → ab_Q G post (as.map (ab_V G)).toArray s (.returned (v.map (ab_V G))) t := fun t ht hW => ⟨v, h', rfl, hp, by rw [ht]; exact hw'.1.warm hW.alike, hS.F ht⟩
  refine W.widen (k := mc) (n := ms) hc hs ?_
  have hret : meth.sig.returnType = K.2.2.2 := B.returns
  cases hk : K.2.2.2 with
  | none =>
    rw [hk] at hrt hret
    match v, hrt with
    | none, _ => exact W.vret B.exec B.bytes hret fin hS.2.2 hri hlk
  | some ty =>
    rw [hk] at hrt hret
    match ty, v, hrt with
    | .int, some (.int x), _ => exact W.iret B.exec B.bytes hret fin hS.2.2 hri hlk
    | .boolean, some (.int x), hx =>
      refine W.zret B.exec B.bytes hret ?_ fin hS.2.2 hri hlk
      rcases hx with rfl | rfl <;> rfl
    | .object nm, some (.ref x), _ => exact W.aret B.exec B.bytes hret (Or.inl ⟨nm, rfl⟩) (Or.inr ⟨_, rfl⟩) fin hS.2.2 hri hlk
    | .object nm, some .null, _ => exact W.aret B.exec B.bytes hret (Or.inl ⟨nm, rfl⟩) (Or.inl rfl) fin hS.2.2 hri hlk
    | .array t, some (.ref x), _ => exact W.aret B.exec B.bytes hret (Or.inr ⟨t, rfl⟩) (Or.inr ⟨_, rfl⟩) fin hS.2.2 hri hlk
theorem ab_after {p : Program} {l : Launch} {e : Env} {R1 : Room} {s : State} {m : MethodId} {args : Array Value} {below : List Frame} {meth : Method} {c : Code} {Q : State → Prop} {G : ab_G} {H : Heap} {locs : List Loc} {cells slots mc ms pc : Nat} {ls : Array Slot} {rest st0 : List Value} {a : Array Value} {post : ab_Po}
    (hr : va_Run p l e R1 s m args below meth c H locs cells slots mc ms (F0 m pc ls st0) rest (ab_Q G post a) (ab_N G)) (hS : va_S (ab_N G) s.heap H locs) (ht : ab_t G s H)
    (kk : ∀ (v : Option Value) (h : ab_M) (H1 : Heap) (locs1 : List Loc), post v h → ab_w G h s H1 → va_S (ab_N G) s.heap H1 locs1 → W p l e R1 s m args below meth c H1 locs1 (cells + mc) (slots + ms) Q (F0 m (pc + 3) ls ((v.map (ab_V G)).toList ++ rest))) : W p l e R1 s m args below meth c H locs cells slots Q (F0 m pc ls st0) := by
  intro T hT X
  obtain ⟨v, st₀, t, T', L, h0, X', hL, e1, e2, ⟨v', h, hv, hp, hvv, hz, hk⟩, st⟩ := hr T hT X
  cases hv
  rw [h0] at hz hk
  have hal : s.vm.Alike t.vm := by rw [← e2]; exact X'.warmed.alike
  have hvv' : ab_v G h s T'.heap := by rw [e1]; exact hvv.warm hal.symm
  obtain ⟨t2, a1, b1⟩ := kk v' h T'.heap (locs ++ L) hp ⟨hvv', ht.kept (fun q h1 h2 => by rw [e1]; exact hk q h1 h2)⟩
    ⟨Nat.le_trans hS.1 (by rw [e1]; exact hz), fun q h1 h2 => by rw [e1, hk q (Nat.lt_of_lt_of_le h1 hS.1) h2]; exact hS.2.1 q h1 h2, fun q hq => by
      rcases List.mem_append.mp hq with h | h
      · exact hS.2.2 q h
      · exact hL q h⟩ T' rfl X'
  exact ⟨t2, st t2 a1, b1⟩
section AB4
variable {fr lo mc ms : Nat} {M : ab_MT} {pc : Nat} {L : List (Nat × Value)} {st : List Value} {n : Nat} {S : ab_SH} {R : ab_RR} {I : ab_II} {post : ab_Po} {idx ci k r : Nat} {C : String} {T : u_T} {N : Nat}
variable {K : ab_MT} {a fr' lo' mc' ms' : Nat} {as : List Value} {post' : ab_Po}
theorem ab_codeIn (hK : ab_MK K a) : GoodIn lw_g (Cond.code K.1 K.2.1 K.2.2.1 K.2.2.2 :: lw_g) := fun w h => by
  rcases List.mem_cons.mp h with rfl | h
  · exact lw_g_good _ hK.1
  · exact lw_g_good _ h
theorem ab_vk (G : ab_G) (v : Option Value) (st : List Value) : (v.map (ab_V G)).toList ++ st.map (ab_V G) = (v.toList ++ st).map (ab_V G) := by cases v <;> rfl
theorem ab_pre {G : ab_G} {h : ab_M} {as : List Value} {s : State} {H : Heap} (hw : ab_w G h s H) : PreS s H (va_Pc (as.map (ab_V G)) (fun U => ab_w G h U U.heap)) (as.map (ab_V G)) :=
  ⟨fun a U g mk q => ⟨q.1, q.2.blind⟩, fun U hU hW => ⟨rfl, by show ab_w G h U U.heap; rw [hU]; exact ⟨hw.1.warm hW.alike, hw.2.warm hW⟩⟩⟩
/-- invokevirtual -/
theorem wp_callV (kk' : wp fr' lo' mc' ms' K 0 (lv_args 0 (.ref r :: as)) [] (n, S, R, I) post') (hd : decode M.2.1 pc = .ok (.invokevirtual idx, 3)) (hK : ab_MK K a) (hC : ab_K ci C T N) (hy : K.1.cls = C) (hl1 : Cond.methodLink M.1.cls idx K.1 ∈ lw_g) (hl2 : Cond.instanceMethod K.1 ∈ lw_g) (hl3 : Cond.selects K.1.cls K.1 K.1 ∈ lw_g)
    (hsz : (lg_sl (.ref r :: as)).length ≤ K.2.2.1) (ha : as.length = a) (hr : ab_ok n S r ci) (hro : fr' + 1 ≤ fr ∧ 8 + (K.2.2.1 + 11) + lo' ≤ lo ∧ mc' ≤ mc ∧ ms' ≤ ms) (hst : (st.map fun v => v.category).sum ≤ 8)
    {st0 : List Value} (he : st0 = as.reverse ++ .ref r :: st)
    (kk : ∀ v h, post' v h → wp fr lo (mc - mc') (ms - ms') M (pc + 3) L (v.toList ++ st) h post) : wp fr lo mc ms M pc L st0 (n, S, R, I) post := by
  intro G p l e R1 s m args below meth c Q Cx hb hQ H locs cells slots ls hw hS hc hs hl
  obtain ⟨hx, hcode, hml, -, -, -, hown, hts, hfr, hlo⟩ := id Cx
  have cw : CallW R1 s args M.1.cls K.1.cls idx K.1 K.2.1 K.2.2.1 K.2.2.2 (Cond.code K.1 K.2.1 K.2.2.1 K.2.2.2 :: lw_g) { frames := fr', cells := mc', slots := ms', locals := lo' } mc' ms' a :=
    ⟨callB_of a hts (ab_codeIn hK) rfl rfl rfl (hts _ hK.2.1) (hts _ hl1) ⟨hK.2.2.2.1, hK.2.2.2.2.1, hK.2.2.2.2.2⟩ ⟨by show fr' + 1 ≤ _; omega, by show _ + lo' ≤ _; omega⟩, hts _ hl2, hts _ hl3⟩
  have hp := ab_pre (as := .ref r :: as) hw
  have hpv : PreV s H K.1.cls (ab_R G r) (va_Pc ((.ref r :: as).map (ab_V G)) (fun U => ab_w G (n, S, R, I) U U.heap)) (as.map (ab_V G)) := ⟨hp.1, by rw [hy]; exact ab_recv hw hr hC.1 hC.2.2.2.2.2, hp.2⟩
  subst he
  have hrun := va_runV (g := F0 m pc ls ((as.reverse ++ .ref r :: st).map (ab_V G))) (locs := locs) (cells := cells) (slots := slots) (e := e) (below := below) (meth := meth) (rest := st.map (ab_V G)) ⟨hx, hcode, hml, hown, hts⟩ (ab_met hK hsz kk' l G) cw hpv rfl (by simpa using ha) hl.1 (by simp; rfl) (by rw [ab_stw]; simpa [JFrame.monitorRoom] using hst) hd ⟨by omega, by omega⟩
  refine ab_after hrun hS hw.2 (fun v h H1 locs1 hp1 hw1 hS1 => ?_)
  rw [ab_vk]
  exact kk v h hp1 G p l e R1 s m args below meth c Q Cx hb hQ H1 locs1 _ _ ls hw1 hS1 (by omega) (by omega) hl
/-- invokespecial of a constructor -/
theorem wp_callI (kk' : wp fr' lo' mc' ms' K 0 (lv_args 0 (.ref r :: as)) [] (n, S, R, I) post') (hd : decode M.2.1 pc = .ok (.invokespecial idx, 3)) (hK : ab_MK K a) (hy : K.1.name = "<init>") (hret : K.2.2.2 = none) (hl1 : Cond.methodLink M.1.cls idx K.1 ∈ lw_g) (hl2 : Cond.instanceMethod K.1 ∈ lw_g)
    (hsz : (lg_sl (.ref r :: as)).length ≤ K.2.2.1) (ha : as.length = a) (hro : fr' + 1 ≤ fr ∧ 8 + (K.2.2.1 + 11) + lo' ≤ lo ∧ mc' ≤ mc ∧ ms' ≤ ms) (hst : (st.map fun v => v.category).sum ≤ 8)
    {st0 : List Value} (he : st0 = as.reverse ++ .ref r :: st)
    (kk : ∀ v h, post' v h → wp fr lo (mc - mc') (ms - ms') M (pc + 3) L (v.toList ++ st) h post) : wp fr lo mc ms M pc L st0 (n, S, R, I) post := by
  intro G p l e R1 s m args below meth c Q Cx hb hQ H locs cells slots ls hw hS hc hs hl
  obtain ⟨hx, hcode, hml, -, -, -, hown, hts, hfr, hlo⟩ := id Cx
  have hG := ab_codeIn hK
  have hmet := ab_met hK hsz kk' l G
  have hK1 := hK.1
  rw [hret] at hG hmet hK1
  have cw : CallB R1 s args M.1.cls idx K.1 K.2.1 K.2.2.1 none (Cond.code K.1 K.2.1 K.2.2.1 none :: lw_g) { frames := fr', cells := mc', slots := ms', locals := lo' } mc' ms' a ∧ K.1.name = "<init>" ∧ (Cond.instanceMethod K.1).before args s = true :=
    ⟨callB_of a hts hG rfl rfl rfl (hts _ hK.2.1) (hts _ hl1) ⟨hK.2.2.2.1, hK.2.2.2.2.1, hK.2.2.2.2.2⟩ ⟨by show fr' + 1 ≤ _; omega, by show _ + lo' ≤ _; omega⟩, hy, hts _ hl2⟩
  have hp := ab_pre (as := .ref r :: as) hw
  subst he
  have hrun := va_runI (g := F0 m pc ls ((as.reverse ++ .ref r :: st).map (ab_V G))) (b := ab_R G r) (As := as.map (ab_V G)) (locs := locs) (cells := cells) (slots := slots) (e := e) (below := below) (meth := meth) (rest := st.map (ab_V G)) ⟨hx, hcode, hml, hown, hts⟩ hmet cw hp rfl (by simpa using ha) hl.1 (by simp; rfl) (by rw [ab_stw]; simpa [JFrame.monitorRoom] using hst) hd ⟨by omega, by omega⟩
  refine ab_after hrun hS hw.2 (fun v h H1 locs1 hp1 hw1 hS1 => ?_)
  rw [ab_vk]
  exact kk v h hp1 G p l e R1 s m args below meth c Q Cx hb hQ H1 locs1 _ _ ls hw1 hS1 (by omega) (by omega) hl
/-- invokestatic -/
theorem wp_callS (kk' : wp fr' lo' mc' ms' K 0 (lv_args 0 as) [] (n, S, R, I) post') (hd : decode M.2.1 pc = .ok (.invokestatic idx, 3)) (hK : ab_MK K a) (hl1 : Cond.methodLink M.1.cls idx K.1 ∈ lw_g) (hl2 : Cond.static K.1 ∈ lw_g)
    (hsz : (lg_sl as).length ≤ K.2.2.1) (ha : as.length = a) (hro : fr' + 1 ≤ fr ∧ 8 + (K.2.2.1 + 11) + lo' ≤ lo ∧ mc' ≤ mc ∧ ms' ≤ ms) (hst : (st.map fun v => v.category).sum ≤ 8)
    {st0 : List Value} (he : st0 = as.reverse ++ st)
    (kk : ∀ v h, post' v h → wp fr lo (mc - mc') (ms - ms') M (pc + 3) L (v.toList ++ st) h post) : wp fr lo mc ms M pc L st0 (n, S, R, I) post := by
  intro G p l e R1 s m args below meth c Q Cx hb hQ H locs cells slots ls hw hS hc hs hl
  obtain ⟨hx, hcode, hml, -, -, -, hown, hts, hfr, hlo⟩ := id Cx
  have cw : CallB R1 s args M.1.cls idx K.1 K.2.1 K.2.2.1 K.2.2.2 (Cond.code K.1 K.2.1 K.2.2.1 K.2.2.2 :: lw_g) { frames := fr', cells := mc', slots := ms', locals := lo' } mc' ms' a ∧ (Cond.static K.1).before args s = true :=
    ⟨callB_of a hts (ab_codeIn hK) rfl rfl rfl (hts _ hK.2.1) (hts _ hl1) ⟨hK.2.2.2.1, hK.2.2.2.2.1, hK.2.2.2.2.2⟩ ⟨by show fr' + 1 ≤ _; omega, by show _ + lo' ≤ _; omega⟩, hts _ hl2⟩
  have hp := ab_pre (as := as) hw
  subst he
  have hrun := va_runS (g := F0 m pc ls ((as.reverse ++ st).map (ab_V G))) (As := as.map (ab_V G)) (locs := locs) (cells := cells) (slots := slots) (e := e) (below := below) (meth := meth) (rest := st.map (ab_V G)) ⟨hx, hcode, hml, hown, hts⟩ (ab_met hK hsz kk' l G) cw hp rfl (by simpa using ha) hl.1 (by simp) (by rw [ab_stw]; simpa [JFrame.monitorRoom] using hst) hd ⟨by omega, by omega⟩
  refine ab_after hrun hS hw.2 (fun v h H1 locs1 hp1 hw1 hS1 => ?_)
  rw [ab_vk]
  exact kk v h hp1 G p l e R1 s m args below meth c Q Cx hb hQ H1 locs1 _ _ ls hw1 hS1 (by omega) (by omega) hl
/-- System.arraycopy between rows of files -/
theorem wp_copy {r0 r1 : Nat} {sp dp cn : Int32} (hd : decode M.2.1 pc = .ok (.invokestatic idx, 3)) (h1 : Cond.methodLink M.1.cls idx arraycopyName ∈ lw_g) (h2 : Cond.native arraycopyName ∈ lw_g) (h3 : Cond.static arraycopyName ∈ lw_g) (h4 : Cond.initialized "java/lang/System" ∈ lw_g)
    (hr0 : ab_ok n S r0 12) (hr1 : ab_ok n S r1 12) (g1 : ¬ sp < 0) (g2 : ¬ dp < 0) (g3 : ¬ cn < 0) (g4 : sp.toNatClampNeg + cn.toNatClampNeg ≤ (S r0).2) (g5 : dp.toNatClampNeg + cn.toNatClampNeg ≤ (S r1).2)
    (hel : ∀ i : Nat, i < cn.toNatClampNeg → ∀ y, R r0 (sp.toNatClampNeg + i) = some y → ab_ok n S y 6) (hf : 1 ≤ fr) (hlo : (st.map fun v => v.category).sum + (nativeFrameWords "java/lang/System" "arraycopy" 5 + 11) ≤ lo)
    (kk : wp fr lo mc ms M (pc + 3) L st (n, S, va_up R r1 (va_cpy (R r0) (R r1) sp.toNatClampNeg dp.toNatClampNeg cn.toNatClampNeg), I) post) : wp fr lo mc ms M pc L (.int cn :: .int dp :: .ref r1 :: .int sp :: .ref r0 :: st) (n, S, R, I) post := by
  intro G p l e R1 s m args below meth c Q Cx hb hQ H locs cells slots ls hw hS hc hs hl
  obtain ⟨hx, hcode, hml, -, -, -, hown, hts, hfr, hloc⟩ := id Cx
  have nn : ∀ z : Int32, ¬ z < 0 → z.toInt = (z.toNatClampNeg : Int) := by
    intro z hz
    have hz0 : (0 : Int) ≤ z.toInt := by
      have := Int32.not_lt.mp hz
      simpa using Int32.le_iff_toInt_le.mp this
    show z.toInt = ((z.toInt.toNat : Nat) : Int)
    omega
  have he0 := ab_W_get G (S := S) (R := R) (I := I) hr0.1 hr0.2.1
  rw [ab_E_ref hr0.2.2 (by decide) (by decide)] at he0
  have he1 := ab_W_get G (S := S) (R := R) (I := I) hr1.1 hr1.2.1
  rw [ab_E_ref hr1.2.2 (by decide) (by decide)] at he1
  intro T hT X
  have hc0 : H[ab_R G r0]? = some (vp_cell (ab_A G 12) ((S r0).2, .inr (.inr (.inr (.inr (fun i => (R r0 i).map (ab_R G))))))) := hw.1.2.2.1 _ _ he0
  have hc1 : H[ab_R G r1]? = some (vp_cell (ab_A G 12) ((S r1).2, .inr (.inr (.inr (.inr (fun i => (R r1 i).map (ab_R G))))))) := hw.1.2.2.1 _ _ he1
  obtain ⟨hArr, kA, comp, q1, q2, q3, -⟩ := hw.2.1.2 3 _ rfl
  obtain ⟨kE, hkE, -⟩ := Vm.findClass_spec q3
  obtain ⟨vm', X', step⟩ := X.arraycopy hx hown (hts _ h1) (hts _ h2) (hts _ h3) (hts _ h4) (src := ab_R G r0) (dst := ab_R G r1) (cs := vp_cell (ab_A G 12) ((S r0).2, .inr (.inr (.inr (.inr (fun i => (R r0 i).map (ab_R G))))))) (cd := vp_cell (ab_A G 12) ((S r1).2, .inr (.inr (.inr (.inr (fun i => (R r1 i).map (ab_R G))))))) (srcPos := sp) (destPos := dp) (n := cn) (by rw [hT]; exact hc0) (by rw [hT]; exact hc1)
    (fun _ h => by cases h) (fun _ h => by cases h) (fun h => by cases h) (fun h => by cases h) q1 q1 q2 q2 rfl g1 g2 g3
    (by rw [nn sp g1, nn cn g3]; show ¬ _ > ((arrV _ (S r0).2 _).slots.size : Int); rw [arrV_size]; omega)
    (by rw [nn dp g2, nn cn g3]; show ¬ _ > ((arrV _ (S r1).2 _).slots.size : Int); rw [arrV_size]; omega)
    (fun vm₁ hal i hi => by
      have e : (vp_cell (ab_A G 12) ((S r0).2, .inr (.inr (.inr (.inr (fun i => (R r0 i).map (ab_R G))))))).slots.getD (sp.toNatClampNeg + i) .null = va_rf ((R r0 (sp.toNatClampNeg + i)).map (ab_R G)) := by
        show (arrV _ (S r0).2 _).slots.getD _ _ = _
        rw [Array.getD_eq_getD_getElem?, arrV_read _ _ (by omega)]
        rfl
      rw [e]
      cases hy : R r0 (sp.toNatClampNeg + i) with
      | none => exact ⟨rfl, trivial⟩
      | some y =>
        have hoy := hel i hi y hy
        have hv := ab_W_get G (S := S) (R := R) (I := I) hoy.1 hoy.2.1
        rw [ab_E_obj hoy.2.2 (by decide)] at hv
        obtain ⟨cellV, v1, v2, v3⟩ := va_recv (ci := 6) hw.2.1 hw.1.2.2.1 rfl hv
        obtain ⟨kC, hkC, -⟩ := Vm.findClass_spec v3
        obtain ⟨c0, t1, f1, f2, f3⟩ := Cond.castable_spec hw.2.2.2.2.2.2.2.2.1
        have v3 : s.vm.findClass "LevelStore$SortedFile" = some cellV.cls := v3
        cases v3.symm.trans f1
        cases q3.symm.trans f2
        obtain ⟨kC', hkC', -⟩ := hal.2.2 _ _ hkC
        obtain ⟨kE', hkE', -⟩ := hal.2.2 _ _ hkE
        refine ⟨rfl, cellV, (show T.heap[ab_R G y]? = some cellV by rw [hT]; exact v1), (fun q h => by rw [h] at v2; cases v2), ⟨kC', hkC'⟩, ?_, ?_⟩
        · exact ⟨kE', hkE'⟩
        · show vm₁.assignable _ _ = true
          rw [hal.assignable]
          exact f3)
    (g := F0 m pc ls (.int cn :: .int dp :: .ref (ab_R G r1) :: .int sp :: .ref (ab_R G r0) :: st.map (ab_V G))) rfl (by rw [hml]; exact hl.1) (rest := st.map (ab_V G)) rfl (by rw [hcode]; exact hd) (by omega) (by show 2 * 0 + _ + _ ≤ _; rw [ab_stw]; omega)
  have e1 : copied (vp_cell (ab_A G 12) ((S r0).2, .inr (.inr (.inr (.inr (fun i => (R r0 i).map (ab_R G))))))) (vp_cell (ab_A G 12) ((S r1).2, .inr (.inr (.inr (.inr (fun i => (R r1 i).map (ab_R G))))))) sp dp cn = vp_cell (ab_A G 12) ((S r1).2, .inr (.inr (.inr (.inr (va_cpy (fun i => (R r0 i).map (ab_R G)) (fun i => (R r1 i).map (ab_R G)) sp.toNatClampNeg dp.toNatClampNeg cn.toNatClampNeg))))) := by
    rw [vp_cell_q, vp_cell_q, vp_cell_q]
    exact va_copied (fun z => va_rf z) (ab_A G 12) (ab_A G 12) _ _ g4
  rw [e1] at X' step
  have e2 : va_cpy (fun i => (R r0 i).map (ab_R G)) (fun i => (R r1 i).map (ab_R G)) sp.toNatClampNeg dp.toNatClampNeg cn.toNatClampNeg = fun i => (va_cpy (R r0) (R r1) sp.toNatClampNeg dp.toNatClampNeg cn.toNatClampNeg i).map (ab_R G) := by
    funext i
    unfold va_cpy
    split <;> rfl
  rw [e2] at X' step
  generalize hcell : vp_cell (ab_A G 12) ((S r1).2, .inr (.inr (.inr (.inr (fun i => (va_cpy (R r0) (R r1) sp.toNatClampNeg dp.toNatClampNeg cn.toNatClampNeg i).map (ab_R G)))))) = nc at X' step
  have hll : ab_R G r1 < H.size := (Array.getElem?_eq_some_iff.mp hc1).1
  have hheap : ((T.setVm vm').setCell (ab_R G r1) nc).heap = H.setIfInBounds (ab_R G r1) nc := by rw [← hT]; rfl
  have oq : ∀ q : Nat, q ≠ ab_R G r1 → (H.setIfInBounds (ab_R G r1) nc)[q]? = H[q]? := fun q hq => by simp [Array.getElem?_setIfInBounds, Ne.symm hq]
  have hw1 : ab_w G (n, S, va_up R r1 (va_cpy (R r0) (R r1) sp.toNatClampNeg dp.toNatClampNeg cn.toNatClampNeg), I) s (H.setIfInBounds (ab_R G r1) nc) := by
    refine ab_w_up hw hr1.1 (by simp) oq ?_ (fun j hj => by simp [va_up, hj]) (fun _ _ => rfl)
    rw [ab_E_ref hr1.2.2 (by decide) (by decide)]
    show (H.setIfInBounds (ab_R G r1) nc)[ab_R G r1]? = some (vp_cell _ _)
    simp only [va_up, if_true]
    rw [hcell]
    simp [Array.getElem?_setIfInBounds, hll]
  obtain ⟨t, a1, b1⟩ := kk G p l e R1 s m args below meth c Q Cx hb hQ _ _ cells slots ls hw1 ⟨by simp; exact hS.1, fun q g1 g2 => by
      rw [oq q (fun e => g2 (by rw [e]; exact ab_R_N G hr1.1))]
      exact hS.2.1 q g1 g2, fun q hq => by
      rcases List.mem_append.mp hq with h | h
      · exact hS.2.2 q h
      · obtain ⟨z, -, hz⟩ := List.mem_map.mp h
        rw [← hz]
        exact ab_R_N G hr1.1⟩ hc hs hl _ hheap X'
  exact ⟨t, step t a1, b1⟩
end AB4
end
