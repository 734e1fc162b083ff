section
-- ===== PART A: goes FIRST, ahead of the names: the tables' words, and 'selects' of the private methods out of them =====
/-- a private method of a class that the tables say can be made, by its rows of tables_1 -/
def lw_okq (q : MethodName × Nat) : Prop := (q.1.cls ≠ "java/lang/invoke/MethodHandle" ∧ q.1.cls ≠ "java/lang/invoke/VarHandle") ∧ Cond.instantiable q.1.cls q.2 ∈ tables_1 ∧ Cond.privateMethod q.1 ∈ tables_1 ∧ Cond.instanceMethod q.1 ∈ tables_1
theorem lw_p0 : lw_okq (⟨"LevelStore", "write", "(II)I"⟩, 10) := ⟨⟨by decide +kernel, by decide +kernel⟩, List.mem_of_getElem? (i := 19) (by decide +kernel), List.mem_of_getElem? (i := 231) (by decide +kernel), List.mem_of_getElem? (i := 232) (by decide +kernel)⟩
theorem lw_p1 : lw_okq (⟨"LevelStore", "giveUpJob", "()I"⟩, 10) := ⟨⟨by decide +kernel, by decide +kernel⟩, List.mem_of_getElem? (i := 19) (by decide +kernel), List.mem_of_getElem? (i := 262) (by decide +kernel), List.mem_of_getElem? (i := 263) (by decide +kernel)⟩
theorem lw_p2 : lw_okq (⟨"LevelStore", "retire", "(LLevelStore$FileRow;II)V"⟩, 10) := ⟨⟨by decide +kernel, by decide +kernel⟩, List.mem_of_getElem? (i := 19) (by decide +kernel), List.mem_of_getElem? (i := 274) (by decide +kernel), List.mem_of_getElem? (i := 275) (by decide +kernel)⟩
theorem lw_p3 : lw_okq (⟨"java/util/ArrayList", "fastRemove", "([Ljava/lang/Object;I)V"⟩, 3) := ⟨⟨by decide +kernel, by decide +kernel⟩, List.mem_of_getElem? (i := 63) (by decide +kernel), List.mem_of_getElem? (i := 292) (by decide +kernel), List.mem_of_getElem? (i := 293) (by decide +kernel)⟩
theorem lw_p4 : lw_okq (⟨"LevelStore$Field", "mark", "(LLevelStore$SortedFile;Z)V"⟩, 4) := ⟨⟨by decide +kernel, by decide +kernel⟩, List.mem_of_getElem? (i := 93) (by decide +kernel), List.mem_of_getElem? (i := 304) (by decide +kernel), List.mem_of_getElem? (i := 305) (by decide +kernel)⟩
theorem lw_p5 : lw_okq (⟨"java/util/ArrayList", "rangeCheckForAdd", "(I)V"⟩, 3) := ⟨⟨by decide +kernel, by decide +kernel⟩, List.mem_of_getElem? (i := 63) (by decide +kernel), List.mem_of_getElem? (i := 324) (by decide +kernel), List.mem_of_getElem? (i := 325) (by decide +kernel)⟩
theorem lw_p6 : lw_okq (⟨"java/util/ArrayList", "grow", "()[Ljava/lang/Object;"⟩, 3) := ⟨⟨by decide +kernel, by decide +kernel⟩, List.mem_of_getElem? (i := 63) (by decide +kernel), List.mem_of_getElem? (i := 328) (by decide +kernel), List.mem_of_getElem? (i := 329) (by decide +kernel)⟩
theorem lw_p7 : lw_okq (⟨"java/util/ArrayList", "grow", "(I)[Ljava/lang/Object;"⟩, 3) := ⟨⟨by decide +kernel, by decide +kernel⟩, List.mem_of_getElem? (i := 63) (by decide +kernel), List.mem_of_getElem? (i := 332) (by decide +kernel), List.mem_of_getElem? (i := 333) (by decide +kernel)⟩
theorem lw_p8 : lw_okq (⟨"LevelStore", "greatestNumberLeft", "()I"⟩, 10) := ⟨⟨by decide +kernel, by decide +kernel⟩, List.mem_of_getElem? (i := 19) (by decide +kernel), List.mem_of_getElem? (i := 384) (by decide +kernel), List.mem_of_getElem? (i := 385) (by decide +kernel)⟩
theorem lw_p9 : lw_okq (⟨"LevelStore", "readUpTo", "(II)I"⟩, 10) := ⟨⟨by decide +kernel, by decide +kernel⟩, List.mem_of_getElem? (i := 19) (by decide +kernel), List.mem_of_getElem? (i := 420) (by decide +kernel), List.mem_of_getElem? (i := 421) (by decide +kernel)⟩
theorem lw_p10 : lw_okq (⟨"LevelStore", "readAll", "()V"⟩, 10) := ⟨⟨by decide +kernel, by decide +kernel⟩, List.mem_of_getElem? (i := 19) (by decide +kernel), List.mem_of_getElem? (i := 431) (by decide +kernel), List.mem_of_getElem? (i := 432) (by decide +kernel)⟩
theorem lw_p11 : lw_okq (⟨"LevelStore", "isHeld", "(I)Z"⟩, 10) := ⟨⟨by decide +kernel, by decide +kernel⟩, List.mem_of_getElem? (i := 19) (by decide +kernel), List.mem_of_getElem? (i := 474) (by decide +kernel), List.mem_of_getElem? (i := 475) (by decide +kernel)⟩
theorem lw_p12 : lw_okq (⟨"LevelStore", "numberOfView", "(I)I"⟩, 10) := ⟨⟨by decide +kernel, by decide +kernel⟩, List.mem_of_getElem? (i := 19) (by decide +kernel), List.mem_of_getElem? (i := 478) (by decide +kernel), List.mem_of_getElem? (i := 479) (by decide +kernel)⟩
theorem lw_p13 : lw_okq (⟨"LevelStore", "isView", "(I)Z"⟩, 10) := ⟨⟨by decide +kernel, by decide +kernel⟩, List.mem_of_getElem? (i := 19) (by decide +kernel), List.mem_of_getElem? (i := 482) (by decide +kernel), List.mem_of_getElem? (i := 483) (by decide +kernel)⟩
theorem lw_p14 : lw_okq (⟨"LevelStore", "levelAt", "(I)LLevelStore$FileRow;"⟩, 10) := ⟨⟨by decide +kernel, by decide +kernel⟩, List.mem_of_getElem? (i := 19) (by decide +kernel), List.mem_of_getElem? (i := 516) (by decide +kernel), List.mem_of_getElem? (i := 517) (by decide +kernel)⟩
theorem lw_p15 : lw_okq (⟨"LevelStore$Job", "isFirstOfKey", "(I)Z"⟩, 12) := ⟨⟨by decide +kernel, by decide +kernel⟩, List.mem_of_getElem? (i := 136) (by decide +kernel), List.mem_of_getElem? (i := 541) (by decide +kernel), List.mem_of_getElem? (i := 542) (by decide +kernel)⟩
def lw_privs_1 : List (MethodName × Nat) := [(⟨"LevelStore", "write", "(II)I"⟩, 10), (⟨"LevelStore", "giveUpJob", "()I"⟩, 10), (⟨"LevelStore", "retire", "(LLevelStore$FileRow;II)V"⟩, 10), (⟨"java/util/ArrayList", "fastRemove", "([Ljava/lang/Object;I)V"⟩, 3), (⟨"LevelStore$Field", "mark", "(LLevelStore$SortedFile;Z)V"⟩, 4), (⟨"java/util/ArrayList", "rangeCheckForAdd", "(I)V"⟩, 3), (⟨"java/util/ArrayList", "grow", "()[Ljava/lang/Object;"⟩, 3), (⟨"java/util/ArrayList", "grow", "(I)[Ljava/lang/Object;"⟩, 3), (⟨"LevelStore", "greatestNumberLeft", "()I"⟩, 10), (⟨"LevelStore", "readUpTo", "(II)I"⟩, 10), (⟨"LevelStore", "readAll", "()V"⟩, 10), (⟨"LevelStore", "isHeld", "(I)Z"⟩, 10), (⟨"LevelStore", "numberOfView", "(I)I"⟩, 10), (⟨"LevelStore", "isView", "(I)Z"⟩, 10), (⟨"LevelStore", "levelAt", "(I)LLevelStore$FileRow;"⟩, 10), (⟨"LevelStore$Job", "isFirstOfKey", "(I)Z"⟩, 12)]
theorem lw_r1 : ∀ q ∈ lw_privs_1, lw_okq q := List.forall_mem_cons.mpr ⟨lw_p0, List.forall_mem_cons.mpr ⟨lw_p1, List.forall_mem_cons.mpr ⟨lw_p2, List.forall_mem_cons.mpr ⟨lw_p3, List.forall_mem_cons.mpr ⟨lw_p4, List.forall_mem_cons.mpr ⟨lw_p5, List.forall_mem_cons.mpr ⟨lw_p6, List.forall_mem_cons.mpr ⟨lw_p7, List.forall_mem_cons.mpr ⟨lw_p8, List.forall_mem_cons.mpr ⟨lw_p9, List.forall_mem_cons.mpr ⟨lw_p10, List.forall_mem_cons.mpr ⟨lw_p11, List.forall_mem_cons.mpr ⟨lw_p12, List.forall_mem_cons.mpr ⟨lw_p13, List.forall_mem_cons.mpr ⟨lw_p14, List.forall_mem_cons.mpr ⟨lw_p15, fun _ h => absurd h List.not_mem_nil⟩⟩⟩⟩⟩⟩⟩⟩⟩⟩⟩⟩⟩⟩⟩⟩
theorem lw_p16 : lw_okq (⟨"LevelStore$Job", "isSeen", "(I[I)Z"⟩, 12) := ⟨⟨by decide +kernel, by decide +kernel⟩, List.mem_of_getElem? (i := 136) (by decide +kernel), List.mem_of_getElem? (i := 546) (by decide +kernel), List.mem_of_getElem? (i := 547) (by decide +kernel)⟩
theorem lw_p17 : lw_okq (⟨"LevelStore$Job", "leaveOutGraves", "()V"⟩, 12) := ⟨⟨by decide +kernel, by decide +kernel⟩, List.mem_of_getElem? (i := 136) (by decide +kernel), List.mem_of_getElem? (i := 551) (by decide +kernel), List.mem_of_getElem? (i := 552) (by decide +kernel)⟩
theorem lw_p18 : lw_okq (⟨"LevelStore$Job", "isLastOfKey", "(I)Z"⟩, 12) := ⟨⟨by decide +kernel, by decide +kernel⟩, List.mem_of_getElem? (i := 136) (by decide +kernel), List.mem_of_getElem? (i := 556) (by decide +kernel), List.mem_of_getElem? (i := 557) (by decide +kernel)⟩
theorem lw_p19 : lw_okq (⟨"LevelStore", "doOneEntry", "()Z"⟩, 10) := ⟨⟨by decide +kernel, by decide +kernel⟩, List.mem_of_getElem? (i := 19) (by decide +kernel), List.mem_of_getElem? (i := 604) (by decide +kernel), List.mem_of_getElem? (i := 605) (by decide +kernel)⟩
theorem lw_p20 : lw_okq (⟨"LevelStore", "endFile", "()Z"⟩, 10) := ⟨⟨by decide +kernel, by decide +kernel⟩, List.mem_of_getElem? (i := 19) (by decide +kernel), List.mem_of_getElem? (i := 616) (by decide +kernel), List.mem_of_getElem? (i := 617) (by decide +kernel)⟩
theorem lw_p21 : lw_okq (⟨"LevelStore", "freshFile", "()LLevelStore$SortedFile;"⟩, 10) := ⟨⟨by decide +kernel, by decide +kernel⟩, List.mem_of_getElem? (i := 19) (by decide +kernel), List.mem_of_getElem? (i := 620) (by decide +kernel), List.mem_of_getElem? (i := 621) (by decide +kernel)⟩
theorem lw_p22 : lw_okq (⟨"LevelStore$Field", "encode", "(LLevelStore$Row;)V"⟩, 4) := ⟨⟨by decide +kernel, by decide +kernel⟩, List.mem_of_getElem? (i := 93) (by decide +kernel), List.mem_of_getElem? (i := 660) (by decide +kernel), List.mem_of_getElem? (i := 661) (by decide +kernel)⟩
theorem lw_p23 : lw_okq (⟨"LevelStore$Field", "emit", "(I)V"⟩, 4) := ⟨⟨by decide +kernel, by decide +kernel⟩, List.mem_of_getElem? (i := 93) (by decide +kernel), List.mem_of_getElem? (i := 664) (by decide +kernel), List.mem_of_getElem? (i := 665) (by decide +kernel)⟩
theorem lw_p24 : lw_okq (⟨"LevelStore$Field", "emitShort", "(I)V"⟩, 4) := ⟨⟨by decide +kernel, by decide +kernel⟩, List.mem_of_getElem? (i := 93) (by decide +kernel), List.mem_of_getElem? (i := 669) (by decide +kernel), List.mem_of_getElem? (i := 670) (by decide +kernel)⟩
theorem lw_p25 : lw_okq (⟨"LevelStore$Field", "sumOfCode", "()I"⟩, 4) := ⟨⟨by decide +kernel, by decide +kernel⟩, List.mem_of_getElem? (i := 93) (by decide +kernel), List.mem_of_getElem? (i := 679) (by decide +kernel), List.mem_of_getElem? (i := 680) (by decide +kernel)⟩
theorem lw_p26 : lw_okq (⟨"LevelStore$Field", "firstRoom", "(I)I"⟩, 4) := ⟨⟨by decide +kernel, by decide +kernel⟩, List.mem_of_getElem? (i := 93) (by decide +kernel), List.mem_of_getElem? (i := 683) (by decide +kernel), List.mem_of_getElem? (i := 684) (by decide +kernel)⟩
theorem lw_p27 : lw_okq (⟨"LevelStore", "loseFirstLogged", "(I)V"⟩, 10) := ⟨⟨by decide +kernel, by decide +kernel⟩, List.mem_of_getElem? (i := 19) (by decide +kernel), List.mem_of_getElem? (i := 692) (by decide +kernel), List.mem_of_getElem? (i := 693) (by decide +kernel)⟩
theorem lw_p28 : lw_okq (⟨"LevelStore", "fileAt", "(II)LLevelStore$SortedFile;"⟩, 10) := ⟨⟨by decide +kernel, by decide +kernel⟩, List.mem_of_getElem? (i := 19) (by decide +kernel), List.mem_of_getElem? (i := 713) (by decide +kernel), List.mem_of_getElem? (i := 714) (by decide +kernel)⟩
theorem lw_p29 : lw_okq (⟨"LevelStore", "filesInForce", "()I"⟩, 10) := ⟨⟨by decide +kernel, by decide +kernel⟩, List.mem_of_getElem? (i := 19) (by decide +kernel), List.mem_of_getElem? (i := 741) (by decide +kernel), List.mem_of_getElem? (i := 742) (by decide +kernel)⟩
theorem lw_p30 : lw_okq (⟨"LevelStore", "bytesInForce", "()I"⟩, 10) := ⟨⟨by decide +kernel, by decide +kernel⟩, List.mem_of_getElem? (i := 19) (by decide +kernel), List.mem_of_getElem? (i := 745) (by decide +kernel), List.mem_of_getElem? (i := 746) (by decide +kernel)⟩
theorem lw_p31 : lw_okq (⟨"LevelStore", "entriesInForce", "()I"⟩, 10) := ⟨⟨by decide +kernel, by decide +kernel⟩, List.mem_of_getElem? (i := 19) (by decide +kernel), List.mem_of_getElem? (i := 753) (by decide +kernel), List.mem_of_getElem? (i := 754) (by decide +kernel)⟩
def lw_privs_2 : List (MethodName × Nat) := [(⟨"LevelStore$Job", "isSeen", "(I[I)Z"⟩, 12), (⟨"LevelStore$Job", "leaveOutGraves", "()V"⟩, 12), (⟨"LevelStore$Job", "isLastOfKey", "(I)Z"⟩, 12), (⟨"LevelStore", "doOneEntry", "()Z"⟩, 10), (⟨"LevelStore", "endFile", "()Z"⟩, 10), (⟨"LevelStore", "freshFile", "()LLevelStore$SortedFile;"⟩, 10), (⟨"LevelStore$Field", "encode", "(LLevelStore$Row;)V"⟩, 4), (⟨"LevelStore$Field", "emit", "(I)V"⟩, 4), (⟨"LevelStore$Field", "emitShort", "(I)V"⟩, 4), (⟨"LevelStore$Field", "sumOfCode", "()I"⟩, 4), (⟨"LevelStore$Field", "firstRoom", "(I)I"⟩, 4), (⟨"LevelStore", "loseFirstLogged", "(I)V"⟩, 10), (⟨"LevelStore", "fileAt", "(II)LLevelStore$SortedFile;"⟩, 10), (⟨"LevelStore", "filesInForce", "()I"⟩, 10), (⟨"LevelStore", "bytesInForce", "()I"⟩, 10), (⟨"LevelStore", "entriesInForce", "()I"⟩, 10)]
theorem lw_r2 : ∀ q ∈ lw_privs_2, lw_okq q := List.forall_mem_cons.mpr ⟨lw_p16, List.forall_mem_cons.mpr ⟨lw_p17, List.forall_mem_cons.mpr ⟨lw_p18, List.forall_mem_cons.mpr ⟨lw_p19, List.forall_mem_cons.mpr ⟨lw_p20, List.forall_mem_cons.mpr ⟨lw_p21, List.forall_mem_cons.mpr ⟨lw_p22, List.forall_mem_cons.mpr ⟨lw_p23, List.forall_mem_cons.mpr ⟨lw_p24, List.forall_mem_cons.mpr ⟨lw_p25, List.forall_mem_cons.mpr ⟨lw_p26, List.forall_mem_cons.mpr ⟨lw_p27, List.forall_mem_cons.mpr ⟨lw_p28, List.forall_mem_cons.mpr ⟨lw_p29, List.forall_mem_cons.mpr ⟨lw_p30, List.forall_mem_cons.mpr ⟨lw_p31, fun _ h => absurd h List.not_mem_nil⟩⟩⟩⟩⟩⟩⟩⟩⟩⟩⟩⟩⟩⟩⟩⟩
theorem lw_p32 : lw_okq (⟨"LevelStoreModel", "write", "(II)I"⟩, 41) := ⟨⟨by decide +kernel, by decide +kernel⟩, List.mem_of_getElem? (i := 769) (by decide +kernel), List.mem_of_getElem? (i := 910) (by decide +kernel), List.mem_of_getElem? (i := 911) (by decide +kernel)⟩
theorem lw_p33 : lw_okq (⟨"LevelStoreModel", "giveUp", "()I"⟩, 41) := ⟨⟨by decide +kernel, by decide +kernel⟩, List.mem_of_getElem? (i := 769) (by decide +kernel), List.mem_of_getElem? (i := 929) (by decide +kernel), List.mem_of_getElem? (i := 930) (by decide +kernel)⟩
theorem lw_p34 : lw_okq (⟨"LevelStoreModel", "read", "(II)I"⟩, 41) := ⟨⟨by decide +kernel, by decide +kernel⟩, List.mem_of_getElem? (i := 769) (by decide +kernel), List.mem_of_getElem? (i := 937) (by decide +kernel), List.mem_of_getElem? (i := 938) (by decide +kernel)⟩
theorem lw_p35 : lw_okq (⟨"LevelStoreModel", "noView", "(I)Z"⟩, 41) := ⟨⟨by decide +kernel, by decide +kernel⟩, List.mem_of_getElem? (i := 769) (by decide +kernel), List.mem_of_getElem? (i := 946) (by decide +kernel), List.mem_of_getElem? (i := 947) (by decide +kernel)⟩
theorem lw_p36 : lw_okq (⟨"LevelStoreModel", "begin", "(I)V"⟩, 41) := ⟨⟨by decide +kernel, by decide +kernel⟩, List.mem_of_getElem? (i := 769) (by decide +kernel), List.mem_of_getElem? (i := 969) (by decide +kernel), List.mem_of_getElem? (i := 970) (by decide +kernel)⟩
theorem lw_p37 : lw_okq (⟨"LevelStoreModel", "source", "(III)V"⟩, 41) := ⟨⟨by decide +kernel, by decide +kernel⟩, List.mem_of_getElem? (i := 769) (by decide +kernel), List.mem_of_getElem? (i := 973) (by decide +kernel), List.mem_of_getElem? (i := 974) (by decide +kernel)⟩
theorem lw_p38 : lw_okq (⟨"LevelStoreModel", "listLevel", "(I)V"⟩, 41) := ⟨⟨by decide +kernel, by decide +kernel⟩, List.mem_of_getElem? (i := 769) (by decide +kernel), List.mem_of_getElem? (i := 981) (by decide +kernel), List.mem_of_getElem? (i := 982) (by decide +kernel)⟩
theorem lw_p39 : lw_okq (⟨"LevelStoreModel", "least", "(I)I"⟩, 41) := ⟨⟨by decide +kernel, by decide +kernel⟩, List.mem_of_getElem? (i := 769) (by decide +kernel), List.mem_of_getElem? (i := 985) (by decide +kernel), List.mem_of_getElem? (i := 986) (by decide +kernel)⟩
theorem lw_p40 : lw_okq (⟨"LevelStoreModel", "greatest", "(I)I"⟩, 41) := ⟨⟨by decide +kernel, by decide +kernel⟩, List.mem_of_getElem? (i := 769) (by decide +kernel), List.mem_of_getElem? (i := 989) (by decide +kernel), List.mem_of_getElem? (i := 990) (by decide +kernel)⟩
theorem lw_p41 : lw_okq (⟨"LevelStoreModel", "sourceFile", "(I)V"⟩, 41) := ⟨⟨by decide +kernel, by decide +kernel⟩, List.mem_of_getElem? (i := 769) (by decide +kernel), List.mem_of_getElem? (i := 993) (by decide +kernel), List.mem_of_getElem? (i := 994) (by decide +kernel)⟩
theorem lw_p42 : lw_okq (⟨"LevelStoreModel", "does", "(I)Z"⟩, 41) := ⟨⟨by decide +kernel, by decide +kernel⟩, List.mem_of_getElem? (i := 769) (by decide +kernel), List.mem_of_getElem? (i := 1002) (by decide +kernel), List.mem_of_getElem? (i := 1003) (by decide +kernel)⟩
theorem lw_p43 : lw_okq (⟨"LevelStoreModel", "isLeftOut", "(I)Z"⟩, 41) := ⟨⟨by decide +kernel, by decide +kernel⟩, List.mem_of_getElem? (i := 769) (by decide +kernel), List.mem_of_getElem? (i := 1006) (by decide +kernel), List.mem_of_getElem? (i := 1007) (by decide +kernel)⟩
theorem lw_p44 : lw_okq (⟨"LevelStoreModel", "isUnseen", "(I)Z"⟩, 41) := ⟨⟨by decide +kernel, by decide +kernel⟩, List.mem_of_getElem? (i := 769) (by decide +kernel), List.mem_of_getElem? (i := 1010) (by decide +kernel), List.mem_of_getElem? (i := 1011) (by decide +kernel)⟩
theorem lw_p45 : lw_okq (⟨"LevelStoreModel", "ends", "()Z"⟩, 41) := ⟨⟨by decide +kernel, by decide +kernel⟩, List.mem_of_getElem? (i := 769) (by decide +kernel), List.mem_of_getElem? (i := 1014) (by decide +kernel), List.mem_of_getElem? (i := 1015) (by decide +kernel)⟩
theorem lw_p46 : lw_okq (⟨"LevelStoreModel", "encode", "()V"⟩, 41) := ⟨⟨by decide +kernel, by decide +kernel⟩, List.mem_of_getElem? (i := 769) (by decide +kernel), List.mem_of_getElem? (i := 1018) (by decide +kernel), List.mem_of_getElem? (i := 1019) (by decide +kernel)⟩
theorem lw_p47 : lw_okq (⟨"LevelStoreModel", "shortNumber", "(I)V"⟩, 41) := ⟨⟨by decide +kernel, by decide +kernel⟩, List.mem_of_getElem? (i := 769) (by decide +kernel), List.mem_of_getElem? (i := 1022) (by decide +kernel), List.mem_of_getElem? (i := 1023) (by decide +kernel)⟩
def lw_privs_3 : List (MethodName × Nat) := [(⟨"LevelStoreModel", "write", "(II)I"⟩, 41), (⟨"LevelStoreModel", "giveUp", "()I"⟩, 41), (⟨"LevelStoreModel", "read", "(II)I"⟩, 41), (⟨"LevelStoreModel", "noView", "(I)Z"⟩, 41), (⟨"LevelStoreModel", "begin", "(I)V"⟩, 41), (⟨"LevelStoreModel", "source", "(III)V"⟩, 41), (⟨"LevelStoreModel", "listLevel", "(I)V"⟩, 41), (⟨"LevelStoreModel", "least", "(I)I"⟩, 41), (⟨"LevelStoreModel", "greatest", "(I)I"⟩, 41), (⟨"LevelStoreModel", "sourceFile", "(I)V"⟩, 41), (⟨"LevelStoreModel", "does", "(I)Z"⟩, 41), (⟨"LevelStoreModel", "isLeftOut", "(I)Z"⟩, 41), (⟨"LevelStoreModel", "isUnseen", "(I)Z"⟩, 41), (⟨"LevelStoreModel", "ends", "()Z"⟩, 41), (⟨"LevelStoreModel", "encode", "()V"⟩, 41), (⟨"LevelStoreModel", "shortNumber", "(I)V"⟩, 41)]
theorem lw_r3 : ∀ q ∈ lw_privs_3, lw_okq q := List.forall_mem_cons.mpr ⟨lw_p32, List.forall_mem_cons.mpr ⟨lw_p33, List.forall_mem_cons.mpr ⟨lw_p34, List.forall_mem_cons.mpr ⟨lw_p35, List.forall_mem_cons.mpr ⟨lw_p36, List.forall_mem_cons.mpr ⟨lw_p37, List.forall_mem_cons.mpr ⟨lw_p38, List.forall_mem_cons.mpr ⟨lw_p39, List.forall_mem_cons.mpr ⟨lw_p40, List.forall_mem_cons.mpr ⟨lw_p41, List.forall_mem_cons.mpr ⟨lw_p42, List.forall_mem_cons.mpr ⟨lw_p43, List.forall_mem_cons.mpr ⟨lw_p44, List.forall_mem_cons.mpr ⟨lw_p45, List.forall_mem_cons.mpr ⟨lw_p46, List.forall_mem_cons.mpr ⟨lw_p47, fun _ h => absurd h List.not_mem_nil⟩⟩⟩⟩⟩⟩⟩⟩⟩⟩⟩⟩⟩⟩⟩⟩
theorem lw_p48 : lw_okq (⟨"LevelStoreModel", "room", "(I)I"⟩, 41) := ⟨⟨by decide +kernel, by decide +kernel⟩, List.mem_of_getElem? (i := 769) (by decide +kernel), List.mem_of_getElem? (i := 1026) (by decide +kernel), List.mem_of_getElem? (i := 1027) (by decide +kernel)⟩
theorem lw_p49 : lw_okq (⟨"LevelStoreModel", "slot", "(II)I"⟩, 41) := ⟨⟨by decide +kernel, by decide +kernel⟩, List.mem_of_getElem? (i := 769) (by decide +kernel), List.mem_of_getElem? (i := 1050) (by decide +kernel), List.mem_of_getElem? (i := 1051) (by decide +kernel)⟩
theorem lw_p50 : lw_okq (⟨"LevelStoreModel", "codesAs", "(I)Z"⟩, 41) := ⟨⟨by decide +kernel, by decide +kernel⟩, List.mem_of_getElem? (i := 769) (by decide +kernel), List.mem_of_getElem? (i := 1075) (by decide +kernel), List.mem_of_getElem? (i := 1076) (by decide +kernel)⟩
def lw_privs_4 : List (MethodName × Nat) := [(⟨"LevelStoreModel", "room", "(I)I"⟩, 41), (⟨"LevelStoreModel", "slot", "(II)I"⟩, 41), (⟨"LevelStoreModel", "codesAs", "(I)Z"⟩, 41)]
theorem lw_r4 : ∀ q ∈ lw_privs_4, lw_okq q := List.forall_mem_cons.mpr ⟨lw_p48, List.forall_mem_cons.mpr ⟨lw_p49, List.forall_mem_cons.mpr ⟨lw_p50, fun _ h => absurd h List.not_mem_nil⟩⟩⟩
def lw_privs : List (MethodName × Nat) := lw_privs_1 ++ (lw_privs_2 ++ (lw_privs_3 ++ (lw_privs_4)))
def lw_tbl : List Cond := k2_sels lw_privs ++ tables_1
theorem lw_privs_ok : ∀ q ∈ lw_privs, lw_okq q := by
  show ∀ q ∈ lw_privs_1 ++ (lw_privs_2 ++ (lw_privs_3 ++ (lw_privs_4))), lw_okq q
  exact List.forall_mem_append.mpr ⟨lw_r1, List.forall_mem_append.mpr ⟨lw_r2, List.forall_mem_append.mpr ⟨lw_r3, lw_r4⟩⟩⟩
end
section
def RX0 : String := "LevelStore$Field"
def TX0 : u_T := fun k => match k with
  | 0 => ("LevelStore$Field", "bytes", "[I", true)
  | 1 => ("LevelStore$Field", "taken", "[Z", true)
  | 2 => ("LevelStore$Field", "code", "[I", true)
  | _ => ("LevelStore$Field", "codeLength", "I", false)
def tyX0 : Nat → FieldType := fun k => match k with
  | 0 => .array .int
  | 1 => .array .boolean
  | 2 => .array .int
  | _ => .int
theorem nmX0 : ∀ a, a < 4 → ∀ b, b < 4 → a ≠ b → (TX0 a).2.1 ≠ (TX0 b).2.1 := by decide +kernel
theorem tyX0_ok : ∀ k, k < 4 → parseFieldDescriptor (TX0 k).2.2.1 = some (tyX0 k) := by decide +kernel
abbrev cX0_init : ByteArray := prog_2_method_1_code
def yX0_init : MethodName := ⟨RX0, "<init>", "()V"⟩
abbrev cX0_has : ByteArray := prog_2_method_2_code
def yX0_has : MethodName := ⟨RX0, "has", "(I)Z"⟩
abbrev cX0_lay : ByteArray := prog_2_method_3_code
def yX0_lay : MethodName := ⟨RX0, "lay", "(LLevelStore$SortedFile;)Z"⟩
abbrev cX0_free : ByteArray := prog_2_method_4_code
def yX0_free : MethodName := ⟨RX0, "free", "(LLevelStore$SortedFile;)V"⟩
abbrev cX0_holds : ByteArray := prog_2_method_5_code
def yX0_holds : MethodName := ⟨RX0, "holds", "(LLevelStore$SortedFile;)Z"⟩
abbrev cX0_mark : ByteArray := prog_2_method_6_code
def yX0_mark : MethodName := ⟨RX0, "mark", "(LLevelStore$SortedFile;Z)V"⟩
abbrev cX0_firstRoom : ByteArray := prog_2_method_7_code
def yX0_firstRoom : MethodName := ⟨RX0, "firstRoom", "(I)I"⟩
abbrev cX0_encode : ByteArray := prog_2_method_8_code
def yX0_encode : MethodName := ⟨RX0, "encode", "(LLevelStore$Row;)V"⟩
abbrev cX0_folded : ByteArray := prog_2_method_9_code
def yX0_folded : MethodName := ⟨RX0, "folded", "(I)I"⟩
abbrev cX0_emitShort : ByteArray := prog_2_method_10_code
def yX0_emitShort : MethodName := ⟨RX0, "emitShort", "(I)V"⟩
abbrev cX0_emit : ByteArray := prog_2_method_11_code
def yX0_emit : MethodName := ⟨RX0, "emit", "(I)V"⟩
abbrev cX0_sumOfCode : ByteArray := prog_2_method_12_code
def yX0_sumOfCode : MethodName := ⟨RX0, "sumOfCode", "()I"⟩
def RX1 : String := "LevelStore$FileRow"
def TX1 : u_T := fun k => match k with
  | _ => ("LevelStore$FileRow", "row", "Ljava/util/ArrayList;", true)
def tyX1 : Nat → FieldType := fun k => match k with
  | _ => .object "java/util/ArrayList"
theorem nmX1 : ∀ a, a < 1 → ∀ b, b < 1 → a ≠ b → (TX1 a).2.1 ≠ (TX1 b).2.1 := by decide +kernel
theorem tyX1_ok : ∀ k, k < 1 → parseFieldDescriptor (TX1 k).2.2.1 = some (tyX1 k) := by decide +kernel
abbrev cX1_init : ByteArray := prog_3_method_1_code
def yX1_init : MethodName := ⟨RX1, "<init>", "()V"⟩
abbrev cX1_size : ByteArray := prog_3_method_2_code
def yX1_size : MethodName := ⟨RX1, "size", "()I"⟩
abbrev cX1_at : ByteArray := prog_3_method_3_code
def yX1_at : MethodName := ⟨RX1, "at", "(I)LLevelStore$SortedFile;"⟩
abbrev cX1_add : ByteArray := prog_3_method_4_code
def yX1_add : MethodName := ⟨RX1, "add", "(LLevelStore$SortedFile;)V"⟩
abbrev cX1_insert : ByteArray := prog_3_method_5_code
def yX1_insert : MethodName := ⟨RX1, "insert", "(ILLevelStore$SortedFile;)V"⟩
abbrev cX1_takeOut : ByteArray := prog_3_method_6_code
def yX1_takeOut : MethodName := ⟨RX1, "takeOut", "(I)LLevelStore$SortedFile;"⟩
abbrev cX1_empty : ByteArray := prog_3_method_7_code
def yX1_empty : MethodName := ⟨RX1, "empty", "()V"⟩
abbrev cX1_leastKey : ByteArray := prog_3_method_8_code
def yX1_leastKey : MethodName := ⟨RX1, "leastKey", "(II)I"⟩
abbrev cX1_greatestKey : ByteArray := prog_3_method_9_code
def yX1_greatestKey : MethodName := ⟨RX1, "greatestKey", "(II)I"⟩
abbrev cX1_howManyEndBelow : ByteArray := prog_3_method_10_code
def yX1_howManyEndBelow : MethodName := ⟨RX1, "howManyEndBelow", "(I)I"⟩
abbrev cX1_howManyBeginUpTo : ByteArray := prog_3_method_11_code
def yX1_howManyBeginUpTo : MethodName := ⟨RX1, "howManyBeginUpTo", "(I)I"⟩
abbrev cX1_mergeInto : ByteArray := prog_3_method_12_code
def yX1_mergeInto : MethodName := ⟨RX1, "mergeInto", "(LLevelStore$Row;II)V"⟩
abbrev cX1_letRead : ByteArray := prog_3_method_13_code
def yX1_letRead : MethodName := ⟨RX1, "letRead", "(LLevelStore$Reading;)V"⟩
abbrev cX1_bytes : ByteArray := prog_3_method_14_code
def yX1_bytes : MethodName := ⟨RX1, "bytes", "()I"⟩
abbrev cX1_entries : ByteArray := prog_3_method_15_code
def yX1_entries : MethodName := ⟨RX1, "entries", "()I"⟩
abbrev cX1_greatestNumber : ByteArray := prog_3_method_16_code
def yX1_greatestNumber : MethodName := ⟨RX1, "greatestNumber", "()I"⟩
def RX2 : String := "LevelStore$Job"
def TX2 : u_T := fun k => match k with
  | 0 => ("LevelStore$Job", "there", "Z", false)
  | 1 => ("LevelStore$Job", "level", "I", false)
  | 2 => ("LevelStore$Job", "levelFrom", "I", false)
  | 3 => ("LevelStore$Job", "levelTo", "I", false)
  | 4 => ("LevelStore$Job", "target", "I", false)
  | 5 => ("LevelStore$Job", "targetFrom", "I", false)
  | 6 => ("LevelStore$Job", "targetTo", "I", false)
  | 7 => ("LevelStore$Job", "sources", "LLevelStore$Row;", true)
  | 8 => ("LevelStore$Job", "leftOut", "[Z", true)
  | 9 => ("LevelStore$Job", "done", "I", false)
  | 10 => ("LevelStore$Job", "making", "LLevelStore$Row;", true)
  | _ => ("LevelStore$Job", "made", "LLevelStore$FileRow;", true)
def tyX2 : Nat → FieldType := fun k => match k with
  | 0 => .boolean
  | 1 => .int
  | 2 => .int
  | 3 => .int
  | 4 => .int
  | 5 => .int
  | 6 => .int
  | 7 => .object "LevelStore$Row"
  | 8 => .array .boolean
  | 9 => .int
  | 10 => .object "LevelStore$Row"
  | _ => .object "LevelStore$FileRow"
theorem nmX2 : ∀ a, a < 12 → ∀ b, b < 12 → a ≠ b → (TX2 a).2.1 ≠ (TX2 b).2.1 := by decide +kernel
theorem tyX2_ok : ∀ k, k < 12 → parseFieldDescriptor (TX2 k).2.2.1 = some (tyX2 k) := by decide +kernel
abbrev cX2_init : ByteArray := prog_4_method_1_code
def yX2_init : MethodName := ⟨RX2, "<init>", "()V"⟩
abbrev cX2_begin : ByteArray := prog_4_method_2_code
def yX2_begin : MethodName := ⟨RX2, "begin", "(II)V"⟩
abbrev cX2_end : ByteArray := prog_4_method_3_code
def yX2_end : MethodName := ⟨RX2, "end", "()V"⟩
abbrev cX2_left : ByteArray := prog_4_method_4_code
def yX2_left : MethodName := ⟨RX2, "left", "()I"⟩
abbrev cX2_isLeftOut : ByteArray := prog_4_method_5_code
def yX2_isLeftOut : MethodName := ⟨RX2, "isLeftOut", "(I)Z"⟩
abbrev cX2_decide : ByteArray := prog_4_method_6_code
def yX2_decide : MethodName := ⟨RX2, "decide", "([I)V"⟩
abbrev cX2_leaveOutGraves : ByteArray := prog_4_method_7_code
def yX2_leaveOutGraves : MethodName := ⟨RX2, "leaveOutGraves", "()V"⟩
abbrev cX2_isFirstOfKey : ByteArray := prog_4_method_8_code
def yX2_isFirstOfKey : MethodName := ⟨RX2, "isFirstOfKey", "(I)Z"⟩
abbrev cX2_isLastOfKey : ByteArray := prog_4_method_9_code
def yX2_isLastOfKey : MethodName := ⟨RX2, "isLastOfKey", "(I)Z"⟩
abbrev cX2_isSeen : ByteArray := prog_4_method_10_code
def yX2_isSeen : MethodName := ⟨RX2, "isSeen", "(I[I)Z"⟩
abbrev cX2_endsFileAhead : ByteArray := prog_4_method_11_code
def yX2_endsFileAhead : MethodName := ⟨RX2, "endsFileAhead", "(I)Z"⟩
def RX3 : String := "LevelStore$Reading"
def TX3 : u_T := fun k => match k with
  | 0 => ("LevelStore$Reading", "numbers", "[I", true)
  | 1 => ("LevelStore$Reading", "values", "[I", true)
  | 2 => ("LevelStore$Reading", "from", "I", false)
  | 3 => ("LevelStore$Reading", "to", "I", false)
  | _ => ("LevelStore$Reading", "upTo", "I", false)
def tyX3 : Nat → FieldType := fun k => match k with
  | 0 => .array .int
  | 1 => .array .int
  | 2 => .int
  | 3 => .int
  | _ => .int
theorem nmX3 : ∀ a, a < 5 → ∀ b, b < 5 → a ≠ b → (TX3 a).2.1 ≠ (TX3 b).2.1 := by decide +kernel
theorem tyX3_ok : ∀ k, k < 5 → parseFieldDescriptor (TX3 k).2.2.1 = some (tyX3 k) := by decide +kernel
abbrev cX3_init : ByteArray := prog_5_method_1_code
def yX3_init : MethodName := ⟨RX3, "<init>", "()V"⟩
abbrev cX3_begin : ByteArray := prog_5_method_2_code
def yX3_begin : MethodName := ⟨RX3, "begin", "(III)V"⟩
abbrev cX3_concerns : ByteArray := prog_5_method_3_code
def yX3_concerns : MethodName := ⟨RX3, "concerns", "(LLevelStore$SortedFile;)Z"⟩
abbrev cX3_take : ByteArray := prog_5_method_4_code
def yX3_take : MethodName := ⟨RX3, "take", "(LLevelStore$Row;)V"⟩
abbrev cX3_valueOf : ByteArray := prog_5_method_5_code
def yX3_valueOf : MethodName := ⟨RX3, "valueOf", "(I)I"⟩
abbrev cX3_leastKeyWithValue : ByteArray := prog_5_method_6_code
def yX3_leastKeyWithValue : MethodName := ⟨RX3, "leastKeyWithValue", "()I"⟩
def RX4 : String := "LevelStore$Row"
def TX4 : u_T := fun k => match k with
  | 0 => ("LevelStore$Row", "keys", "[I", true)
  | 1 => ("LevelStore$Row", "numbers", "[I", true)
  | 2 => ("LevelStore$Row", "values", "[I", true)
  | _ => ("LevelStore$Row", "size", "I", false)
def tyX4 : Nat → FieldType := fun k => match k with
  | 0 => .array .int
  | 1 => .array .int
  | 2 => .array .int
  | _ => .int
theorem nmX4 : ∀ a, a < 4 → ∀ b, b < 4 → a ≠ b → (TX4 a).2.1 ≠ (TX4 b).2.1 := by decide +kernel
theorem tyX4_ok : ∀ k, k < 4 → parseFieldDescriptor (TX4 k).2.2.1 = some (tyX4 k) := by decide +kernel
abbrev cX4_init : ByteArray := prog_6_method_1_code
def yX4_init : MethodName := ⟨RX4, "<init>", "(I)V"⟩
abbrev cX4_has : ByteArray := prog_6_method_2_code
def yX4_has : MethodName := ⟨RX4, "has", "(I)Z"⟩
abbrev cX4_key : ByteArray := prog_6_method_3_code
def yX4_key : MethodName := ⟨RX4, "key", "(I)I"⟩
abbrev cX4_number : ByteArray := prog_6_method_4_code
def yX4_number : MethodName := ⟨RX4, "number", "(I)I"⟩
abbrev cX4_value : ByteArray := prog_6_method_5_code
def yX4_value : MethodName := ⟨RX4, "value", "(I)I"⟩
abbrev cX4_isGrave : ByteArray := prog_6_method_6_code
def yX4_isGrave : MethodName := ⟨RX4, "isGrave", "(I)Z"⟩
abbrev cX4_told : ByteArray := prog_6_method_7_code
def yX4_told : MethodName := ⟨RX4, "told", "(II)I"⟩
abbrev cX4_setAt : ByteArray := prog_6_method_8_code
def yX4_setAt : MethodName := ⟨RX4, "setAt", "(IIII)V"⟩
abbrev cX4_copyTo : ByteArray := prog_6_method_9_code
def yX4_copyTo : MethodName := ⟨RX4, "copyTo", "(ILLevelStore$Row;I)V"⟩
abbrev cX4_add : ByteArray := prog_6_method_10_code
def yX4_add : MethodName := ⟨RX4, "add", "(III)V"⟩
abbrev cX4_takeAll : ByteArray := prog_6_method_11_code
def yX4_takeAll : MethodName := ⟨RX4, "takeAll", "(LLevelStore$Row;)V"⟩
abbrev cX4_standsBehind : ByteArray := prog_6_method_12_code
def yX4_standsBehind : MethodName := ⟨RX4, "standsBehind", "(III)Z"⟩
abbrev cX4_insert : ByteArray := prog_6_method_13_code
def yX4_insert : MethodName := ⟨RX4, "insert", "(III)V"⟩
abbrev cX4_mergeIn : ByteArray := prog_6_method_14_code
def yX4_mergeIn : MethodName := ⟨RX4, "mergeIn", "(LLevelStore$Row;)V"⟩
abbrev cX4_loseFirst : ByteArray := prog_6_method_15_code
def yX4_loseFirst : MethodName := ⟨RX4, "loseFirst", "(I)V"⟩
abbrev cX4_greatestNumber : ByteArray := prog_6_method_16_code
def yX4_greatestNumber : MethodName := ⟨RX4, "greatestNumber", "()I"⟩
def RX5 : String := "LevelStore$SortedFile"
def TX5 : u_T := fun k => match k with
  | 0 => ("LevelStore$SortedFile", "entries", "LLevelStore$Row;", true)
  | 1 => ("LevelStore$SortedFile", "number", "I", false)
  | 2 => ("LevelStore$SortedFile", "place", "I", false)
  | _ => ("LevelStore$SortedFile", "length", "I", false)
def tyX5 : Nat → FieldType := fun k => match k with
  | 0 => .object "LevelStore$Row"
  | 1 => .int
  | 2 => .int
  | _ => .int
theorem nmX5 : ∀ a, a < 4 → ∀ b, b < 4 → a ≠ b → (TX5 a).2.1 ≠ (TX5 b).2.1 := by decide +kernel
theorem tyX5_ok : ∀ k, k < 4 → parseFieldDescriptor (TX5 k).2.2.1 = some (tyX5 k) := by decide +kernel
abbrev cX5_init : ByteArray := prog_7_method_1_code
def yX5_init : MethodName := ⟨RX5, "<init>", "()V"⟩
abbrev cX5_leastKey : ByteArray := prog_7_method_2_code
def yX5_leastKey : MethodName := ⟨RX5, "leastKey", "()I"⟩
abbrev cX5_greatestKey : ByteArray := prog_7_method_3_code
def yX5_greatestKey : MethodName := ⟨RX5, "greatestKey", "()I"⟩
def RX6 : String := "LevelStore"
def TX6 : u_T := fun k => match k with
  | 0 => ("LevelStore", "logged", "LLevelStore$Row;", true)
  | 1 => ("LevelStore", "synced", "I", false)
  | 2 => ("LevelStore", "latest", "I", false)
  | 3 => ("LevelStore", "views", "[I", true)
  | 4 => ("LevelStore", "levels", "[LLevelStore$FileRow;", true)
  | 5 => ("LevelStore", "spare", "LLevelStore$FileRow;", true)
  | 6 => ("LevelStore", "field", "LLevelStore$Field;", true)
  | 7 => ("LevelStore", "reading", "LLevelStore$Reading;", true)
  | 8 => ("LevelStore", "job", "LLevelStore$Job;", true)
  | _ => ("LevelStore", "nextFileNumber", "I", false)
def tyX6 : Nat → FieldType := fun k => match k with
  | 0 => .object "LevelStore$Row"
  | 1 => .int
  | 2 => .int
  | 3 => .array .int
  | 4 => .array (.object "LevelStore$FileRow")
  | 5 => .object "LevelStore$FileRow"
  | 6 => .object "LevelStore$Field"
  | 7 => .object "LevelStore$Reading"
  | 8 => .object "LevelStore$Job"
  | _ => .int
theorem nmX6 : ∀ a, a < 10 → ∀ b, b < 10 → a ≠ b → (TX6 a).2.1 ≠ (TX6 b).2.1 := by decide +kernel
theorem tyX6_ok : ∀ k, k < 10 → parseFieldDescriptor (TX6 k).2.2.1 = some (tyX6 k) := by decide +kernel
abbrev cX6_init : ByteArray := prog_1_method_1_code
def yX6_init : MethodName := ⟨RX6, "<init>", "()V"⟩
abbrev cX6_put : ByteArray := prog_1_method_2_code
def yX6_put : MethodName := ⟨RX6, "put", "(II)I"⟩
abbrev cX6_drop : ByteArray := prog_1_method_3_code
def yX6_drop : MethodName := ⟨RX6, "drop", "(I)I"⟩
abbrev cX6_sync : ByteArray := prog_1_method_4_code
def yX6_sync : MethodName := ⟨RX6, "sync", "()I"⟩
abbrev cX6_crash : ByteArray := prog_1_method_5_code
def yX6_crash : MethodName := ⟨RX6, "crash", "(I)I"⟩
abbrev cX6_get : ByteArray := prog_1_method_6_code
def yX6_get : MethodName := ⟨RX6, "get", "(I)I"⟩
abbrev cX6_view : ByteArray := prog_1_method_7_code
def yX6_view : MethodName := ⟨RX6, "view", "(II)I"⟩
abbrev cX6_next : ByteArray := prog_1_method_8_code
def yX6_next : MethodName := ⟨RX6, "next", "(II)I"⟩
abbrev cX6_hold : ByteArray := prog_1_method_9_code
def yX6_hold : MethodName := ⟨RX6, "hold", "(I)I"⟩
abbrev cX6_release : ByteArray := prog_1_method_10_code
def yX6_release : MethodName := ⟨RX6, "release", "(I)I"⟩
abbrev cX6_flush : ByteArray := prog_1_method_11_code
def yX6_flush : MethodName := ⟨RX6, "flush", "()I"⟩
abbrev cX6_merge : ByteArray := prog_1_method_12_code
def yX6_merge : MethodName := ⟨RX6, "merge", "(II)I"⟩
abbrev cX6_work : ByteArray := prog_1_method_13_code
def yX6_work : MethodName := ⟨RX6, "work", "(I)I"⟩
abbrev cX6_install : ByteArray := prog_1_method_14_code
def yX6_install : MethodName := ⟨RX6, "install", "()I"⟩
abbrev cX6_stop : ByteArray := prog_1_method_15_code
def yX6_stop : MethodName := ⟨RX6, "stop", "()I"⟩
abbrev cX6_high : ByteArray := prog_1_method_16_code
def yX6_high : MethodName := ⟨RX6, "high", "()I"⟩
abbrev cX6_files : ByteArray := prog_1_method_17_code
def yX6_files : MethodName := ⟨RX6, "files", "(I)I"⟩
abbrev cX6_file : ByteArray := prog_1_method_18_code
def yX6_file : MethodName := ⟨RX6, "file", "(III)I"⟩
abbrev cX6_entry : ByteArray := prog_1_method_19_code
def yX6_entry : MethodName := ⟨RX6, "entry", "(IIII)I"⟩
abbrev cX6_byteAt : ByteArray := prog_1_method_20_code
def yX6_byteAt : MethodName := ⟨RX6, "byteAt", "(I)I"⟩
abbrev cX6_log : ByteArray := prog_1_method_21_code
def yX6_log : MethodName := ⟨RX6, "log", "(II)I"⟩
abbrev cX6_count : ByteArray := prog_1_method_22_code
def yX6_count : MethodName := ⟨RX6, "count", "(I)I"⟩
abbrev cX6_check : ByteArray := prog_1_method_23_code
def yX6_check : MethodName := ⟨RX6, "check", "()I"⟩
abbrev cX6_isKey : ByteArray := prog_1_method_24_code
def yX6_isKey : MethodName := ⟨RX6, "isKey", "(I)Z"⟩
abbrev cX6_write : ByteArray := prog_1_method_25_code
def yX6_write : MethodName := ⟨RX6, "write", "(II)I"⟩
abbrev cX6_loseFirstLogged : ByteArray := prog_1_method_26_code
def yX6_loseFirstLogged : MethodName := ⟨RX6, "loseFirstLogged", "(I)V"⟩
abbrev cX6_greatestNumberLeft : ByteArray := prog_1_method_27_code
def yX6_greatestNumberLeft : MethodName := ⟨RX6, "greatestNumberLeft", "()I"⟩
abbrev cX6_isView : ByteArray := prog_1_method_28_code
def yX6_isView : MethodName := ⟨RX6, "isView", "(I)Z"⟩
abbrev cX6_numberOfView : ByteArray := prog_1_method_29_code
def yX6_numberOfView : MethodName := ⟨RX6, "numberOfView", "(I)I"⟩
abbrev cX6_isHeld : ByteArray := prog_1_method_30_code
def yX6_isHeld : MethodName := ⟨RX6, "isHeld", "(I)Z"⟩
abbrev cX6_readUpTo : ByteArray := prog_1_method_31_code
def yX6_readUpTo : MethodName := ⟨RX6, "readUpTo", "(II)I"⟩
abbrev cX6_readAll : ByteArray := prog_1_method_32_code
def yX6_readAll : MethodName := ⟨RX6, "readAll", "()V"⟩
abbrev cX6_doOneEntry : ByteArray := prog_1_method_33_code
def yX6_doOneEntry : MethodName := ⟨RX6, "doOneEntry", "()Z"⟩
abbrev cX6_endFile : ByteArray := prog_1_method_34_code
def yX6_endFile : MethodName := ⟨RX6, "endFile", "()Z"⟩
abbrev cX6_freshFile : ByteArray := prog_1_method_35_code
def yX6_freshFile : MethodName := ⟨RX6, "freshFile", "()LLevelStore$SortedFile;"⟩
abbrev cX6_giveUpJob : ByteArray := prog_1_method_36_code
def yX6_giveUpJob : MethodName := ⟨RX6, "giveUpJob", "()I"⟩
abbrev cX6_retire : ByteArray := prog_1_method_37_code
def yX6_retire : MethodName := ⟨RX6, "retire", "(LLevelStore$FileRow;II)V"⟩
abbrev cX6_levelAt : ByteArray := prog_1_method_38_code
def yX6_levelAt : MethodName := ⟨RX6, "levelAt", "(I)LLevelStore$FileRow;"⟩
abbrev cX6_fileAt : ByteArray := prog_1_method_39_code
def yX6_fileAt : MethodName := ⟨RX6, "fileAt", "(II)LLevelStore$SortedFile;"⟩
abbrev cX6_filesInForce : ByteArray := prog_1_method_40_code
def yX6_filesInForce : MethodName := ⟨RX6, "filesInForce", "()I"⟩
abbrev cX6_bytesInForce : ByteArray := prog_1_method_41_code
def yX6_bytesInForce : MethodName := ⟨RX6, "bytesInForce", "()I"⟩
abbrev cX6_entriesInForce : ByteArray := prog_1_method_42_code
def yX6_entriesInForce : MethodName := ⟨RX6, "entriesInForce", "()I"⟩
def RX7 : String := "LevelStoreModel"
def TX7 : u_T := fun k => match k with
  | 0 => ("LevelStoreModel", "thrown", "I", false)
  | 1 => ("LevelStoreModel", "logged", "I", false)
  | 2 => ("LevelStoreModel", "synced", "I", false)
  | 3 => ("LevelStoreModel", "logKey", "[I", true)
  | 4 => ("LevelStoreModel", "logNumber", "[I", true)
  | 5 => ("LevelStoreModel", "logValue", "[I", true)
  | 6 => ("LevelStoreModel", "number", "I", false)
  | 7 => ("LevelStoreModel", "views", "[I", true)
  | 8 => ("LevelStoreModel", "level", "[I", true)
  | 9 => ("LevelStoreModel", "fileNumber", "[I", true)
  | 10 => ("LevelStoreModel", "place", "[I", true)
  | 11 => ("LevelStoreModel", "bytes", "[I", true)
  | 12 => ("LevelStoreModel", "many", "[I", true)
  | 13 => ("LevelStoreModel", "fileKey", "[I", true)
  | 14 => ("LevelStoreModel", "fileEntry", "[I", true)
  | 15 => ("LevelStoreModel", "fileValue", "[I", true)
  | 16 => ("LevelStoreModel", "nextFile", "I", false)
  | 17 => ("LevelStoreModel", "field", "[I", true)
  | 18 => ("LevelStoreModel", "listed", "I", false)
  | 19 => ("LevelStoreModel", "list", "[I", true)
  | 20 => ("LevelStoreModel", "isJob", "Z", false)
  | 21 => ("LevelStoreModel", "jobLevel", "I", false)
  | 22 => ("LevelStoreModel", "jobMany", "I", false)
  | 23 => ("LevelStoreModel", "jobDone", "I", false)
  | 24 => ("LevelStoreModel", "jobKey", "[I", true)
  | 25 => ("LevelStoreModel", "jobNumber", "[I", true)
  | 26 => ("LevelStoreModel", "jobValue", "[I", true)
  | 27 => ("LevelStoreModel", "isSource", "[Z", true)
  | 28 => ("LevelStoreModel", "jobViews", "[I", true)
  | 29 => ("LevelStoreModel", "jobLogged", "I", false)
  | 30 => ("LevelStoreModel", "made", "I", false)
  | 31 => ("LevelStoreModel", "isDone", "Z", false)
  | 32 => ("LevelStoreModel", "being", "I", false)
  | 33 => ("LevelStoreModel", "beingKey", "[I", true)
  | 34 => ("LevelStoreModel", "beingNumber", "[I", true)
  | 35 => ("LevelStoreModel", "beingValue", "[I", true)
  | 36 => ("LevelStoreModel", "coded", "I", false)
  | 37 => ("LevelStoreModel", "code", "[I", true)
  | 38 => ("LevelStoreModel", "asideKey", "[I", true)
  | 39 => ("LevelStoreModel", "asideNumber", "[I", true)
  | _ => ("LevelStoreModel", "asideValue", "[I", true)
def tyX7 : Nat → FieldType := fun k => match k with
  | 0 => .int
  | 1 => .int
  | 2 => .int
  | 3 => .array .int
  | 4 => .array .int
  | 5 => .array .int
  | 6 => .int
  | 7 => .array .int
  | 8 => .array .int
  | 9 => .array .int
  | 10 => .array .int
  | 11 => .array .int
  | 12 => .array .int
  | 13 => .array .int
  | 14 => .array .int
  | 15 => .array .int
  | 16 => .int
  | 17 => .array .int
  | 18 => .int
  | 19 => .array .int
  | 20 => .boolean
  | 21 => .int
  | 22 => .int
  | 23 => .int
  | 24 => .array .int
  | 25 => .array .int
  | 26 => .array .int
  | 27 => .array .boolean
  | 28 => .array .int
  | 29 => .int
  | 30 => .int
  | 31 => .boolean
  | 32 => .int
  | 33 => .array .int
  | 34 => .array .int
  | 35 => .array .int
  | 36 => .int
  | 37 => .array .int
  | 38 => .array .int
  | 39 => .array .int
  | _ => .array .int
theorem nmX7 : ∀ a, a < 41 → ∀ b, b < 41 → a ≠ b → (TX7 a).2.1 ≠ (TX7 b).2.1 := by decide +kernel
theorem tyX7_ok : ∀ k, k < 41 → parseFieldDescriptor (TX7 k).2.2.1 = some (tyX7 k) := by decide +kernel
abbrev cX7_init : ByteArray := prog_9_method_1_code
def yX7_init : MethodName := ⟨RX7, "<init>", "()V"⟩
abbrev cX7_in : ByteArray := prog_9_method_3_code
def yX7_in : MethodName := ⟨RX7, "in", "(JJJ)Z"⟩
abbrev cX7_write : ByteArray := prog_9_method_4_code
def yX7_write : MethodName := ⟨RX7, "write", "(II)I"⟩
abbrev cX7_put : ByteArray := prog_9_method_5_code
def yX7_put : MethodName := ⟨RX7, "put", "(II)I"⟩
abbrev cX7_drop : ByteArray := prog_9_method_6_code
def yX7_drop : MethodName := ⟨RX7, "drop", "(I)I"⟩
abbrev cX7_sync : ByteArray := prog_9_method_7_code
def yX7_sync : MethodName := ⟨RX7, "sync", "()I"⟩
abbrev cX7_crash : ByteArray := prog_9_method_8_code
def yX7_crash : MethodName := ⟨RX7, "crash", "(I)I"⟩
abbrev cX7_read : ByteArray := prog_9_method_9_code
def yX7_read : MethodName := ⟨RX7, "read", "(II)I"⟩
abbrev cX7_noView : ByteArray := prog_9_method_10_code
def yX7_noView : MethodName := ⟨RX7, "noView", "(I)Z"⟩
abbrev cX7_get : ByteArray := prog_9_method_11_code
def yX7_get : MethodName := ⟨RX7, "get", "(I)I"⟩
abbrev cX7_view : ByteArray := prog_9_method_12_code
def yX7_view : MethodName := ⟨RX7, "view", "(II)I"⟩
abbrev cX7_next : ByteArray := prog_9_method_13_code
def yX7_next : MethodName := ⟨RX7, "next", "(II)I"⟩
abbrev cX7_hold : ByteArray := prog_9_method_14_code
def yX7_hold : MethodName := ⟨RX7, "hold", "(I)I"⟩
abbrev cX7_release : ByteArray := prog_9_method_15_code
def yX7_release : MethodName := ⟨RX7, "release", "(I)I"⟩
abbrev cX7_listLevel : ByteArray := prog_9_method_16_code
def yX7_listLevel : MethodName := ⟨RX7, "listLevel", "(I)V"⟩
abbrev cX7_source : ByteArray := prog_9_method_17_code
def yX7_source : MethodName := ⟨RX7, "source", "(III)V"⟩
abbrev cX7_begin : ByteArray := prog_9_method_18_code
def yX7_begin : MethodName := ⟨RX7, "begin", "(I)V"⟩
abbrev cX7_flush : ByteArray := prog_9_method_19_code
def yX7_flush : MethodName := ⟨RX7, "flush", "()I"⟩
abbrev cX7_sourceFile : ByteArray := prog_9_method_20_code
def yX7_sourceFile : MethodName := ⟨RX7, "sourceFile", "(I)V"⟩
abbrev cX7_least : ByteArray := prog_9_method_21_code
def yX7_least : MethodName := ⟨RX7, "least", "(I)I"⟩
abbrev cX7_greatest : ByteArray := prog_9_method_22_code
def yX7_greatest : MethodName := ⟨RX7, "greatest", "(I)I"⟩
abbrev cX7_merge : ByteArray := prog_9_method_23_code
def yX7_merge : MethodName := ⟨RX7, "merge", "(II)I"⟩
abbrev cX7_isUnseen : ByteArray := prog_9_method_24_code
def yX7_isUnseen : MethodName := ⟨RX7, "isUnseen", "(I)Z"⟩
abbrev cX7_isLeftOut : ByteArray := prog_9_method_25_code
def yX7_isLeftOut : MethodName := ⟨RX7, "isLeftOut", "(I)Z"⟩
abbrev cX7_shortNumber : ByteArray := prog_9_method_26_code
def yX7_shortNumber : MethodName := ⟨RX7, "shortNumber", "(I)V"⟩
abbrev cX7_encode : ByteArray := prog_9_method_27_code
def yX7_encode : MethodName := ⟨RX7, "encode", "()V"⟩
abbrev cX7_room : ByteArray := prog_9_method_28_code
def yX7_room : MethodName := ⟨RX7, "room", "(I)I"⟩
abbrev cX7_ends : ByteArray := prog_9_method_29_code
def yX7_ends : MethodName := ⟨RX7, "ends", "()Z"⟩
abbrev cX7_giveUp : ByteArray := prog_9_method_30_code
def yX7_giveUp : MethodName := ⟨RX7, "giveUp", "()I"⟩
abbrev cX7_does : ByteArray := prog_9_method_31_code
def yX7_does : MethodName := ⟨RX7, "does", "(I)Z"⟩
abbrev cX7_work : ByteArray := prog_9_method_32_code
def yX7_work : MethodName := ⟨RX7, "work", "(I)I"⟩
abbrev cX7_install : ByteArray := prog_9_method_33_code
def yX7_install : MethodName := ⟨RX7, "install", "()I"⟩
abbrev cX7_stop : ByteArray := prog_9_method_34_code
def yX7_stop : MethodName := ⟨RX7, "stop", "()I"⟩
abbrev cX7_high : ByteArray := prog_9_method_35_code
def yX7_high : MethodName := ⟨RX7, "high", "()I"⟩
abbrev cX7_files : ByteArray := prog_9_method_36_code
def yX7_files : MethodName := ⟨RX7, "files", "(I)I"⟩
abbrev cX7_slot : ByteArray := prog_9_method_37_code
def yX7_slot : MethodName := ⟨RX7, "slot", "(II)I"⟩
abbrev cX7_file : ByteArray := prog_9_method_38_code
def yX7_file : MethodName := ⟨RX7, "file", "(III)I"⟩
abbrev cX7_entry : ByteArray := prog_9_method_39_code
def yX7_entry : MethodName := ⟨RX7, "entry", "(IIII)I"⟩
abbrev cX7_byteAt : ByteArray := prog_9_method_40_code
def yX7_byteAt : MethodName := ⟨RX7, "byteAt", "(I)I"⟩
abbrev cX7_log : ByteArray := prog_9_method_41_code
def yX7_log : MethodName := ⟨RX7, "log", "(II)I"⟩
abbrev cX7_count : ByteArray := prog_9_method_42_code
def yX7_count : MethodName := ⟨RX7, "count", "(I)I"⟩
abbrev cX7_check : ByteArray := prog_9_method_43_code
def yX7_check : MethodName := ⟨RX7, "check", "()I"⟩
abbrev cX7_codesAs : ByteArray := prog_9_method_44_code
def yX7_codesAs : MethodName := ⟨RX7, "codesAs", "(I)Z"⟩
def RJx145de : String := "java/io/Serializable"
def TJx145de : u_T := fun k => match k with
  | _ => ("", "", "", false)
def tyJx145de : Nat → FieldType := fun k => match k with
  | _ => .int
theorem nmJx145de : ∀ a, a < 0 → ∀ b, b < 0 → a ≠ b → (TJx145de a).2.1 ≠ (TJx145de b).2.1 := by decide +kernel
theorem tyJx145de_ok : ∀ k, k < 0 → parseFieldDescriptor (TJx145de k).2.2.1 = some (tyJx145de k) := by decide +kernel
def RJx8e188 : String := "java/lang/Cloneable"
def TJx8e188 : u_T := fun k => match k with
  | _ => ("", "", "", false)
def tyJx8e188 : Nat → FieldType := fun k => match k with
  | _ => .int
theorem nmJx8e188 : ∀ a, a < 0 → ∀ b, b < 0 → a ≠ b → (TJx8e188 a).2.1 ≠ (TJx8e188 b).2.1 := by decide +kernel
theorem tyJx8e188_ok : ∀ k, k < 0 → parseFieldDescriptor (TJx8e188 k).2.2.1 = some (tyJx8e188 k) := by decide +kernel
def RJxab1ab : String := "java/lang/Iterable"
def TJxab1ab : u_T := fun k => match k with
  | _ => ("", "", "", false)
def tyJxab1ab : Nat → FieldType := fun k => match k with
  | _ => .int
theorem nmJxab1ab : ∀ a, a < 0 → ∀ b, b < 0 → a ≠ b → (TJxab1ab a).2.1 ≠ (TJxab1ab b).2.1 := by decide +kernel
theorem tyJxab1ab_ok : ∀ k, k < 0 → parseFieldDescriptor (TJxab1ab k).2.2.1 = some (tyJxab1ab k) := by decide +kernel
def RJ9 : String := "java/lang/Math"
def TJ9 : u_T := fun k => match k with
  | _ => ("", "", "", false)
def tyJ9 : Nat → FieldType := fun k => match k with
  | _ => .int
theorem nmJ9 : ∀ a, a < 0 → ∀ b, b < 0 → a ≠ b → (TJ9 a).2.1 ≠ (TJ9 b).2.1 := by decide +kernel
theorem tyJ9_ok : ∀ k, k < 0 → parseFieldDescriptor (TJ9 k).2.2.1 = some (tyJ9 k) := by decide +kernel
abbrev cJ9_max_7cf53 : ByteArray := prog_13_method_65_code
def yJ9_max_7cf53 : MethodName := ⟨RJ9, "max", "(II)I"⟩
abbrev cJ9_min_7cf53 : ByteArray := prog_13_method_69_code
def yJ9_min_7cf53 : MethodName := ⟨RJ9, "min", "(II)I"⟩
def RJ10 : String := "java/lang/System"
def TJ10 : u_T := fun k => match k with
  | _ => ("", "", "", false)
def tyJ10 : Nat → FieldType := fun k => match k with
  | _ => .int
theorem nmJ10 : ∀ a, a < 0 → ∀ b, b < 0 → a ≠ b → (TJ10 a).2.1 ≠ (TJ10 b).2.1 := by decide +kernel
theorem tyJ10_ok : ∀ k, k < 0 → parseFieldDescriptor (TJ10 k).2.2.1 = some (tyJ10 k) := by decide +kernel
def RJxa1e45 : String := "java/util/AbstractCollection"
def TJxa1e45 : u_T := fun k => match k with
  | _ => ("", "", "", false)
def tyJxa1e45 : Nat → FieldType := fun k => match k with
  | _ => .int
theorem nmJxa1e45 : ∀ a, a < 0 → ∀ b, b < 0 → a ≠ b → (TJxa1e45 a).2.1 ≠ (TJxa1e45 b).2.1 := by decide +kernel
theorem tyJxa1e45_ok : ∀ k, k < 0 → parseFieldDescriptor (TJxa1e45 k).2.2.1 = some (tyJxa1e45 k) := by decide +kernel
abbrev cJxa1e45_init_da8c8 : ByteArray := prog_15_method_1_code
def yJxa1e45_init_da8c8 : MethodName := ⟨RJxa1e45, "<init>", "()V"⟩
def RJxc12de : String := "java/util/AbstractList"
def TJxc12de : u_T := fun k => match k with
  | _ => ("", "", "", false)
def tyJxc12de : Nat → FieldType := fun k => match k with
  | _ => .int
theorem nmJxc12de : ∀ a, a < 0 → ∀ b, b < 0 → a ≠ b → (TJxc12de a).2.1 ≠ (TJxc12de b).2.1 := by decide +kernel
theorem tyJxc12de_ok : ∀ k, k < 0 → parseFieldDescriptor (TJxc12de k).2.2.1 = some (tyJxc12de k) := by decide +kernel
abbrev cJxc12de_init_da8c8 : ByteArray := prog_16_method_1_code
def yJxc12de_init_da8c8 : MethodName := ⟨RJxc12de, "<init>", "()V"⟩
def RJx4a65c : String := "java/util/ArrayList"
def TJx4a65c : u_T := fun k => match k with
  | 0 => ("java/util/AbstractList", "modCount", "I", false)
  | 1 => ("java/util/ArrayList", "elementData", "[Ljava/lang/Object;", false)
  | _ => ("java/util/ArrayList", "size", "I", false)
def tyJx4a65c : Nat → FieldType := fun k => match k with
  | 0 => .int
  | 1 => .array (.object "java/lang/Object")
  | _ => .int
theorem nmJx4a65c : ∀ a, a < 3 → ∀ b, b < 3 → a ≠ b → (TJx4a65c a).2.1 ≠ (TJx4a65c b).2.1 := by decide +kernel
theorem tyJx4a65c_ok : ∀ k, k < 3 → parseFieldDescriptor (TJx4a65c k).2.2.1 = some (tyJx4a65c k) := by decide +kernel
abbrev cJx4a65c_init_da8c8 : ByteArray := prog_17_method_2_code
def yJx4a65c_init_da8c8 : MethodName := ⟨RJx4a65c, "<init>", "()V"⟩
abbrev cJx4a65c_grow_92f84 : ByteArray := prog_17_method_6_code
def yJx4a65c_grow_92f84 : MethodName := ⟨RJx4a65c, "grow", "(I)[Ljava/lang/Object;"⟩
abbrev cJx4a65c_grow_d5877 : ByteArray := prog_17_method_7_code
def yJx4a65c_grow_d5877 : MethodName := ⟨RJx4a65c, "grow", "()[Ljava/lang/Object;"⟩
abbrev cJx4a65c_size_8abf5 : ByteArray := prog_17_method_8_code
def yJx4a65c_size_8abf5 : MethodName := ⟨RJx4a65c, "size", "()I"⟩
abbrev cJx4a65c_elementData_915e3 : ByteArray := prog_17_method_18_code
def yJx4a65c_elementData_915e3 : MethodName := ⟨RJx4a65c, "elementData", "(I)Ljava/lang/Object;"⟩
abbrev cJx4a65c_get_915e3 : ByteArray := prog_17_method_20_code
def yJx4a65c_get_915e3 : MethodName := ⟨RJx4a65c, "get", "(I)Ljava/lang/Object;"⟩
abbrev cJx4a65c_add_7a177 : ByteArray := prog_17_method_26_code
def yJx4a65c_add_7a177 : MethodName := ⟨RJx4a65c, "add", "(ILjava/lang/Object;)V"⟩
abbrev cJx4a65c_remove_915e3 : ByteArray := prog_17_method_29_code
def yJx4a65c_remove_915e3 : MethodName := ⟨RJx4a65c, "remove", "(I)Ljava/lang/Object;"⟩
abbrev cJx4a65c_fastRemove_b59b0 : ByteArray := prog_17_method_39_code
def yJx4a65c_fastRemove_b59b0 : MethodName := ⟨RJx4a65c, "fastRemove", "([Ljava/lang/Object;I)V"⟩
abbrev cJx4a65c_clear_da8c8 : ByteArray := prog_17_method_40_code
def yJx4a65c_clear_da8c8 : MethodName := ⟨RJx4a65c, "clear", "()V"⟩
abbrev cJx4a65c_rangeCheckForAdd_d00df : ByteArray := prog_17_method_45_code
def yJx4a65c_rangeCheckForAdd_d00df : MethodName := ⟨RJx4a65c, "rangeCheckForAdd", "(I)V"⟩
def RJ7 : String := "java/util/Arrays"
def TJ7 : u_T := fun k => match k with
  | _ => ("", "", "", false)
def tyJ7 : Nat → FieldType := fun k => match k with
  | _ => .int
theorem nmJ7 : ∀ a, a < 0 → ∀ b, b < 0 → a ≠ b → (TJ7 a).2.1 ≠ (TJ7 b).2.1 := by decide +kernel
theorem tyJ7_ok : ∀ k, k < 0 → parseFieldDescriptor (TJ7 k).2.2.1 = some (tyJ7 k) := by decide +kernel
abbrev cJ7_copyOf_1904c : ByteArray := prog_18_method_119_code
def yJ7_copyOf_1904c : MethodName := ⟨RJ7, "copyOf", "([Ljava/lang/Object;I)[Ljava/lang/Object;"⟩
abbrev cJ7_copyOf_6403c : ByteArray := prog_18_method_120_code
def yJ7_copyOf_6403c : MethodName := ⟨RJ7, "copyOf", "([Ljava/lang/Object;ILjava/lang/Class;)[Ljava/lang/Object;"⟩
def RJx5ef63 : String := "java/util/Collection"
def TJx5ef63 : u_T := fun k => match k with
  | _ => ("", "", "", false)
def tyJx5ef63 : Nat → FieldType := fun k => match k with
  | _ => .int
theorem nmJx5ef63 : ∀ a, a < 0 → ∀ b, b < 0 → a ≠ b → (TJx5ef63 a).2.1 ≠ (TJx5ef63 b).2.1 := by decide +kernel
theorem tyJx5ef63_ok : ∀ k, k < 0 → parseFieldDescriptor (TJx5ef63 k).2.2.1 = some (tyJx5ef63 k) := by decide +kernel
def RJxbd725 : String := "java/util/List"
def TJxbd725 : u_T := fun k => match k with
  | _ => ("", "", "", false)
def tyJxbd725 : Nat → FieldType := fun k => match k with
  | _ => .int
theorem nmJxbd725 : ∀ a, a < 0 → ∀ b, b < 0 → a ≠ b → (TJxbd725 a).2.1 ≠ (TJxbd725 b).2.1 := by decide +kernel
theorem tyJxbd725_ok : ∀ k, k < 0 → parseFieldDescriptor (TJxbd725 k).2.2.1 = some (tyJxbd725 k) := by decide +kernel
def RJ15 : String := "java/util/Objects"
def TJ15 : u_T := fun k => match k with
  | _ => ("", "", "", false)
def tyJ15 : Nat → FieldType := fun k => match k with
  | _ => .int
theorem nmJ15 : ∀ a, a < 0 → ∀ b, b < 0 → a ≠ b → (TJ15 a).2.1 ≠ (TJ15 b).2.1 := by decide +kernel
theorem tyJ15_ok : ∀ k, k < 0 → parseFieldDescriptor (TJ15 k).2.2.1 = some (tyJ15 k) := by decide +kernel
abbrev cJ15_checkIndex_7cf53 : ByteArray := prog_21_method_17_code
def yJ15_checkIndex_7cf53 : MethodName := ⟨RJ15, "checkIndex", "(II)I"⟩
def RJxf0a74 : String := "java/util/RandomAccess"
def TJxf0a74 : u_T := fun k => match k with
  | _ => ("", "", "", false)
def tyJxf0a74 : Nat → FieldType := fun k => match k with
  | _ => .int
theorem nmJxf0a74 : ∀ a, a < 0 → ∀ b, b < 0 → a ≠ b → (TJxf0a74 a).2.1 ≠ (TJxf0a74 b).2.1 := by decide +kernel
theorem tyJxf0a74_ok : ∀ k, k < 0 → parseFieldDescriptor (TJxf0a74 k).2.2.1 = some (tyJxf0a74 k) := by decide +kernel
def RJxa66e6 : String := "java/util/SequencedCollection"
def TJxa66e6 : u_T := fun k => match k with
  | _ => ("", "", "", false)
def tyJxa66e6 : Nat → FieldType := fun k => match k with
  | _ => .int
theorem nmJxa66e6 : ∀ a, a < 0 → ∀ b, b < 0 → a ≠ b → (TJxa66e6 a).2.1 ≠ (TJxa66e6 b).2.1 := by decide +kernel
theorem tyJxa66e6_ok : ∀ k, k < 0 → parseFieldDescriptor (TJxa66e6 k).2.2.1 = some (tyJxa66e6 k) := by decide +kernel
def RJ8 : String := "jdk/internal/util/ArraysSupport"
def TJ8 : u_T := fun k => match k with
  | _ => ("", "", "", false)
def tyJ8 : Nat → FieldType := fun k => match k with
  | _ => .int
theorem nmJ8 : ∀ a, a < 0 → ∀ b, b < 0 → a ≠ b → (TJ8 a).2.1 ≠ (TJ8 b).2.1 := by decide +kernel
theorem tyJ8_ok : ∀ k, k < 0 → parseFieldDescriptor (TJ8 k).2.2.1 = some (tyJ8 k) := by decide +kernel
abbrev cJ8_newLength_cabcc : ByteArray := prog_24_method_27_code
def yJ8_newLength_cabcc : MethodName := ⟨RJ8, "newLength", "(III)I"⟩
abbrev cJ8_hugeLength_7cf53 : ByteArray := prog_24_method_28_code
def yJ8_hugeLength_7cf53 : MethodName := ⟨RJ8, "hugeLength", "(II)I"⟩
def RJ3 : String := "jdk/internal/util/Preconditions"
def TJ3 : u_T := fun k => match k with
  | _ => ("", "", "", false)
def tyJ3 : Nat → FieldType := fun k => match k with
  | _ => .int
theorem nmJ3 : ∀ a, a < 0 → ∀ b, b < 0 → a ≠ b → (TJ3 a).2.1 ≠ (TJ3 b).2.1 := by decide +kernel
theorem tyJ3_ok : ∀ k, k < 0 → parseFieldDescriptor (TJ3 k).2.2.1 = some (tyJ3 k) := by decide +kernel
abbrev cJ3_checkIndex_8e157 : ByteArray := prog_25_method_11_code
def yJ3_checkIndex_8e157 : MethodName := ⟨RJ3, "checkIndex", "(IILjava/util/function/BiFunction;)I"⟩
def RL : String := "LevelStoreLaw"
abbrev cL_law : ByteArray := code
def yL_law : MethodName := ⟨RL, "law", "([I)Z"⟩
abbrev vwCl : List vw_C := [(RJx4a65c, TJx4a65c, 3), (RX0, TX0, 4), (RX1, TX1, 1), (RX2, TX2, 12), (RX3, TX3, 5), (RX4, TX4, 4), (RX5, TX5, 4), (RX6, TX6, 10), (RX7, TX7, 41)]
abbrev ab_MT : Type := MethodName × ByteArray × Nat × Option FieldType
abbrev MX6_init : ab_MT := (yX6_init, cX6_init, 1, none)
abbrev MX4_init : ab_MT := (yX4_init, cX4_init, 3, none)
abbrev MJ9_max_7cf53 : ab_MT := (yJ9_max_7cf53, cJ9_max_7cf53, 2, (some FieldType.int))
abbrev MX1_init : ab_MT := (yX1_init, cX1_init, 1, none)
abbrev MJx4a65c_init_da8c8 : ab_MT := (yJx4a65c_init_da8c8, cJx4a65c_init_da8c8, 1, none)
abbrev MJxc12de_init_da8c8 : ab_MT := (yJxc12de_init_da8c8, cJxc12de_init_da8c8, 1, none)
abbrev MJxa1e45_init_da8c8 : ab_MT := (yJxa1e45_init_da8c8, cJxa1e45_init_da8c8, 1, none)
abbrev MX0_init : ab_MT := (yX0_init, cX0_init, 1, none)
abbrev MX3_init : ab_MT := (yX3_init, cX3_init, 1, none)
abbrev MX2_init : ab_MT := (yX2_init, cX2_init, 1, none)
abbrev MX6_put : ab_MT := (yX6_put, cX6_put, 3, (some FieldType.int))
abbrev MX6_isKey : ab_MT := (yX6_isKey, cX6_isKey, 1, (some FieldType.boolean))
abbrev MX6_write : ab_MT := (yX6_write, cX6_write, 3, (some FieldType.int))
abbrev MX4_add : ab_MT := (yX4_add, cX4_add, 4, none)
abbrev MX4_setAt : ab_MT := (yX4_setAt, cX4_setAt, 5, none)
abbrev MX4_has : ab_MT := (yX4_has, cX4_has, 2, (some FieldType.boolean))
abbrev MX6_drop : ab_MT := (yX6_drop, cX6_drop, 2, (some FieldType.int))
abbrev MX6_sync : ab_MT := (yX6_sync, cX6_sync, 2, (some FieldType.int))
abbrev MX6_crash : ab_MT := (yX6_crash, cX6_crash, 3, (some FieldType.int))
abbrev MX6_giveUpJob : ab_MT := (yX6_giveUpJob, cX6_giveUpJob, 2, (some FieldType.int))
abbrev MX1_size : ab_MT := (yX1_size, cX1_size, 1, (some FieldType.int))
abbrev MJx4a65c_size_8abf5 : ab_MT := (yJx4a65c_size_8abf5, cJx4a65c_size_8abf5, 1, (some FieldType.int))
abbrev MX6_retire : ab_MT := (yX6_retire, cX6_retire, 6, none)
abbrev MX1_takeOut : ab_MT := (yX1_takeOut, cX1_takeOut, 2, (some (FieldType.object "LevelStore$SortedFile")))
abbrev MJx4a65c_remove_915e3 : ab_MT := (yJx4a65c_remove_915e3, cJx4a65c_remove_915e3, 4, (some (FieldType.object "java/lang/Object")))
abbrev MJ15_checkIndex_7cf53 : ab_MT := (yJ15_checkIndex_7cf53, cJ15_checkIndex_7cf53, 2, (some FieldType.int))
abbrev MJ3_checkIndex_8e157 : ab_MT := (yJ3_checkIndex_8e157, cJ3_checkIndex_8e157, 3, (some FieldType.int))
abbrev MJx4a65c_fastRemove_b59b0 : ab_MT := (yJx4a65c_fastRemove_b59b0, cJx4a65c_fastRemove_b59b0, 4, none)
abbrev MX0_free : ab_MT := (yX0_free, cX0_free, 2, none)
abbrev MX0_mark : ab_MT := (yX0_mark, cX0_mark, 4, none)
abbrev MX0_has : ab_MT := (yX0_has, cX0_has, 2, (some FieldType.boolean))
abbrev MX1_add : ab_MT := (yX1_add, cX1_add, 2, none)
abbrev MX1_insert : ab_MT := (yX1_insert, cX1_insert, 3, none)
abbrev MJx4a65c_add_7a177 : ab_MT := (yJx4a65c_add_7a177, cJx4a65c_add_7a177, 5, none)
abbrev MJx4a65c_rangeCheckForAdd_d00df : ab_MT := (yJx4a65c_rangeCheckForAdd_d00df, cJx4a65c_rangeCheckForAdd_d00df, 2, none)
abbrev MJx4a65c_grow_d5877 : ab_MT := (yJx4a65c_grow_d5877, cJx4a65c_grow_d5877, 1, (some (FieldType.array (FieldType.object "java/lang/Object"))))
abbrev MJx4a65c_grow_92f84 : ab_MT := (yJx4a65c_grow_92f84, cJx4a65c_grow_92f84, 4, (some (FieldType.array (FieldType.object "java/lang/Object"))))
abbrev MJ8_newLength_cabcc : ab_MT := (yJ8_newLength_cabcc, cJ8_newLength_cabcc, 4, (some FieldType.int))
abbrev MJ8_hugeLength_7cf53 : ab_MT := (yJ8_hugeLength_7cf53, cJ8_hugeLength_7cf53, 3, (some FieldType.int))
abbrev MJ7_copyOf_1904c : ab_MT := (yJ7_copyOf_1904c, cJ7_copyOf_1904c, 2, (some (FieldType.array (FieldType.object "java/lang/Object"))))
abbrev MJ7_copyOf_6403c : ab_MT := (yJ7_copyOf_6403c, cJ7_copyOf_6403c, 4, (some (FieldType.array (FieldType.object "java/lang/Object"))))
abbrev MJ9_min_7cf53 : ab_MT := (yJ9_min_7cf53, cJ9_min_7cf53, 2, (some FieldType.int))
abbrev MX2_end : ab_MT := (yX2_end, cX2_end, 1, none)
abbrev MX1_empty : ab_MT := (yX1_empty, cX1_empty, 1, none)
abbrev MJx4a65c_clear_da8c8 : ab_MT := (yJx4a65c_clear_da8c8, cJx4a65c_clear_da8c8, 4, none)
abbrev MX6_greatestNumberLeft : ab_MT := (yX6_greatestNumberLeft, cX6_greatestNumberLeft, 6, (some FieldType.int))
abbrev MX4_greatestNumber : ab_MT := (yX4_greatestNumber, cX4_greatestNumber, 3, (some FieldType.int))
abbrev MX4_number : ab_MT := (yX4_number, cX4_number, 2, (some FieldType.int))
abbrev MX1_greatestNumber : ab_MT := (yX1_greatestNumber, cX1_greatestNumber, 4, (some FieldType.int))
abbrev MX1_at : ab_MT := (yX1_at, cX1_at, 2, (some (FieldType.object "LevelStore$SortedFile")))
abbrev MJx4a65c_get_915e3 : ab_MT := (yJx4a65c_get_915e3, cJx4a65c_get_915e3, 2, (some (FieldType.object "java/lang/Object")))
abbrev MJx4a65c_elementData_915e3 : ab_MT := (yJx4a65c_elementData_915e3, cJx4a65c_elementData_915e3, 2, (some (FieldType.object "java/lang/Object")))
abbrev MX6_get : ab_MT := (yX6_get, cX6_get, 2, (some FieldType.int))
abbrev MX6_readUpTo : ab_MT := (yX6_readUpTo, cX6_readUpTo, 3, (some FieldType.int))
abbrev MX3_begin : ab_MT := (yX3_begin, cX3_begin, 5, none)
abbrev MX6_readAll : ab_MT := (yX6_readAll, cX6_readAll, 5, none)
abbrev MX3_take : ab_MT := (yX3_take, cX3_take, 5, none)
abbrev MX4_key : ab_MT := (yX4_key, cX4_key, 2, (some FieldType.int))
abbrev MX4_value : ab_MT := (yX4_value, cX4_value, 2, (some FieldType.int))
abbrev MX1_letRead : ab_MT := (yX1_letRead, cX1_letRead, 4, none)
abbrev MX3_concerns : ab_MT := (yX3_concerns, cX3_concerns, 2, (some FieldType.boolean))
abbrev MX5_leastKey : ab_MT := (yX5_leastKey, cX5_leastKey, 1, (some FieldType.int))
abbrev MX5_greatestKey : ab_MT := (yX5_greatestKey, cX5_greatestKey, 1, (some FieldType.int))
abbrev MX3_valueOf : ab_MT := (yX3_valueOf, cX3_valueOf, 2, (some FieldType.int))
abbrev MX6_view : ab_MT := (yX6_view, cX6_view, 3, (some FieldType.int))
abbrev MX6_isHeld : ab_MT := (yX6_isHeld, cX6_isHeld, 2, (some FieldType.boolean))
abbrev MX6_numberOfView : ab_MT := (yX6_numberOfView, cX6_numberOfView, 2, (some FieldType.int))
abbrev MX6_isView : ab_MT := (yX6_isView, cX6_isView, 2, (some FieldType.boolean))
abbrev MX6_next : ab_MT := (yX6_next, cX6_next, 4, (some FieldType.int))
abbrev MX3_leastKeyWithValue : ab_MT := (yX3_leastKeyWithValue, cX3_leastKeyWithValue, 2, (some FieldType.int))
abbrev MX6_hold : ab_MT := (yX6_hold, cX6_hold, 2, (some FieldType.int))
abbrev MX6_release : ab_MT := (yX6_release, cX6_release, 3, (some FieldType.int))
abbrev MX6_flush : ab_MT := (yX6_flush, cX6_flush, 2, (some FieldType.int))
abbrev MX2_begin : ab_MT := (yX2_begin, cX2_begin, 3, none)
abbrev MX6_files : ab_MT := (yX6_files, cX6_files, 3, (some FieldType.int))
abbrev MX6_levelAt : ab_MT := (yX6_levelAt, cX6_levelAt, 2, (some (FieldType.object "LevelStore$FileRow")))
abbrev MX4_insert : ab_MT := (yX4_insert, cX4_insert, 5, none)
abbrev MX4_standsBehind : ab_MT := (yX4_standsBehind, cX4_standsBehind, 4, (some FieldType.boolean))
abbrev MX4_copyTo : ab_MT := (yX4_copyTo, cX4_copyTo, 4, none)
abbrev MX2_decide : ab_MT := (yX2_decide, cX2_decide, 3, none)
abbrev MX2_isFirstOfKey : ab_MT := (yX2_isFirstOfKey, cX2_isFirstOfKey, 2, (some FieldType.boolean))
abbrev MX2_isSeen : ab_MT := (yX2_isSeen, cX2_isSeen, 7, (some FieldType.boolean))
abbrev MX2_leaveOutGraves : ab_MT := (yX2_leaveOutGraves, cX2_leaveOutGraves, 3, none)
abbrev MX2_isLastOfKey : ab_MT := (yX2_isLastOfKey, cX2_isLastOfKey, 2, (some FieldType.boolean))
abbrev MX4_isGrave : ab_MT := (yX4_isGrave, cX4_isGrave, 2, (some FieldType.boolean))
abbrev MX2_left : ab_MT := (yX2_left, cX2_left, 1, (some FieldType.int))
abbrev MX6_merge : ab_MT := (yX6_merge, cX6_merge, 5, (some FieldType.int))
abbrev MX1_leastKey : ab_MT := (yX1_leastKey, cX1_leastKey, 6, (some FieldType.int))
abbrev MX1_howManyEndBelow : ab_MT := (yX1_howManyEndBelow, cX1_howManyEndBelow, 5, (some FieldType.int))
abbrev MX1_greatestKey : ab_MT := (yX1_greatestKey, cX1_greatestKey, 6, (some FieldType.int))
abbrev MX1_howManyBeginUpTo : ab_MT := (yX1_howManyBeginUpTo, cX1_howManyBeginUpTo, 5, (some FieldType.int))
abbrev MX1_mergeInto : ab_MT := (yX1_mergeInto, cX1_mergeInto, 6, none)
abbrev MX4_mergeIn : ab_MT := (yX4_mergeIn, cX4_mergeIn, 6, none)
abbrev MX6_work : ab_MT := (yX6_work, cX6_work, 4, (some FieldType.int))
abbrev MX6_doOneEntry : ab_MT := (yX6_doOneEntry, cX6_doOneEntry, 2, (some FieldType.boolean))
abbrev MX2_isLeftOut : ab_MT := (yX2_isLeftOut, cX2_isLeftOut, 2, (some FieldType.boolean))
abbrev MX2_endsFileAhead : ab_MT := (yX2_endsFileAhead, cX2_endsFileAhead, 2, (some FieldType.boolean))
abbrev MX6_endFile : ab_MT := (yX6_endFile, cX6_endFile, 2, (some FieldType.boolean))
abbrev MX6_freshFile : ab_MT := (yX6_freshFile, cX6_freshFile, 2, (some (FieldType.object "LevelStore$SortedFile")))
abbrev MX5_init : ab_MT := (yX5_init, cX5_init, 1, none)
abbrev MX4_takeAll : ab_MT := (yX4_takeAll, cX4_takeAll, 3, none)
abbrev MX0_lay : ab_MT := (yX0_lay, cX0_lay, 4, (some FieldType.boolean))
abbrev MX0_encode : ab_MT := (yX0_encode, cX0_encode, 5, none)
abbrev MX0_emit : ab_MT := (yX0_emit, cX0_emit, 2, none)
abbrev MX0_emitShort : ab_MT := (yX0_emitShort, cX0_emitShort, 4, none)
abbrev MX0_folded : ab_MT := (yX0_folded, cX0_folded, 1, (some FieldType.int))
abbrev MX0_sumOfCode : ab_MT := (yX0_sumOfCode, cX0_sumOfCode, 3, (some FieldType.int))
abbrev MX0_firstRoom : ab_MT := (yX0_firstRoom, cX0_firstRoom, 4, (some FieldType.int))
abbrev MX6_install : ab_MT := (yX6_install, cX6_install, 4, (some FieldType.int))
abbrev MX6_loseFirstLogged : ab_MT := (yX6_loseFirstLogged, cX6_loseFirstLogged, 2, none)
abbrev MX4_loseFirst : ab_MT := (yX4_loseFirst, cX4_loseFirst, 4, none)
abbrev MX6_stop : ab_MT := (yX6_stop, cX6_stop, 1, (some FieldType.int))
abbrev MX6_high : ab_MT := (yX6_high, cX6_high, 3, (some FieldType.int))
abbrev MX6_file : ab_MT := (yX6_file, cX6_file, 5, (some FieldType.int))
abbrev MX6_fileAt : ab_MT := (yX6_fileAt, cX6_fileAt, 4, (some (FieldType.object "LevelStore$SortedFile")))
abbrev MX6_entry : ab_MT := (yX6_entry, cX6_entry, 6, (some FieldType.int))
abbrev MX4_told : ab_MT := (yX4_told, cX4_told, 3, (some FieldType.int))
abbrev MX6_byteAt : ab_MT := (yX6_byteAt, cX6_byteAt, 2, (some FieldType.int))
abbrev MX6_log : ab_MT := (yX6_log, cX6_log, 3, (some FieldType.int))
abbrev MX6_count : ab_MT := (yX6_count, cX6_count, 2, (some FieldType.int))
abbrev MX6_filesInForce : ab_MT := (yX6_filesInForce, cX6_filesInForce, 6, (some FieldType.int))
abbrev MX6_bytesInForce : ab_MT := (yX6_bytesInForce, cX6_bytesInForce, 6, (some FieldType.int))
abbrev MX1_bytes : ab_MT := (yX1_bytes, cX1_bytes, 4, (some FieldType.int))
abbrev MX6_entriesInForce : ab_MT := (yX6_entriesInForce, cX6_entriesInForce, 6, (some FieldType.int))
abbrev MX1_entries : ab_MT := (yX1_entries, cX1_entries, 4, (some FieldType.int))
abbrev MX6_check : ab_MT := (yX6_check, cX6_check, 8, (some FieldType.int))
abbrev MX0_holds : ab_MT := (yX0_holds, cX0_holds, 4, (some FieldType.boolean))
abbrev MX7_init : ab_MT := (yX7_init, cX7_init, 2, none)
abbrev MX7_put : ab_MT := (yX7_put, cX7_put, 3, (some FieldType.int))
abbrev MX7_in : ab_MT := (yX7_in, cX7_in, 6, (some FieldType.boolean))
abbrev MX7_write : ab_MT := (yX7_write, cX7_write, 3, (some FieldType.int))
abbrev MX7_drop : ab_MT := (yX7_drop, cX7_drop, 2, (some FieldType.int))
abbrev MX7_sync : ab_MT := (yX7_sync, cX7_sync, 2, (some FieldType.int))
abbrev MX7_crash : ab_MT := (yX7_crash, cX7_crash, 4, (some FieldType.int))
abbrev MX7_giveUp : ab_MT := (yX7_giveUp, cX7_giveUp, 3, (some FieldType.int))
abbrev MX7_get : ab_MT := (yX7_get, cX7_get, 2, (some FieldType.int))
abbrev MX7_read : ab_MT := (yX7_read, cX7_read, 7, (some FieldType.int))
abbrev MX7_view : ab_MT := (yX7_view, cX7_view, 3, (some FieldType.int))
abbrev MX7_noView : ab_MT := (yX7_noView, cX7_noView, 2, (some FieldType.boolean))
abbrev MX7_next : ab_MT := (yX7_next, cX7_next, 5, (some FieldType.int))
abbrev MX7_hold : ab_MT := (yX7_hold, cX7_hold, 2, (some FieldType.int))
abbrev MX7_release : ab_MT := (yX7_release, cX7_release, 3, (some FieldType.int))
abbrev MX7_flush : ab_MT := (yX7_flush, cX7_flush, 2, (some FieldType.int))
abbrev MX7_begin : ab_MT := (yX7_begin, cX7_begin, 3, none)
abbrev MX7_source : ab_MT := (yX7_source, cX7_source, 5, none)
abbrev MX7_merge : ab_MT := (yX7_merge, cX7_merge, 6, (some FieldType.int))
abbrev MX7_listLevel : ab_MT := (yX7_listLevel, cX7_listLevel, 4, none)
abbrev MX7_least : ab_MT := (yX7_least, cX7_least, 2, (some FieldType.int))
abbrev MX7_greatest : ab_MT := (yX7_greatest, cX7_greatest, 2, (some FieldType.int))
abbrev MX7_sourceFile : ab_MT := (yX7_sourceFile, cX7_sourceFile, 3, none)
abbrev MX7_work : ab_MT := (yX7_work, cX7_work, 4, (some FieldType.int))
abbrev MX7_does : ab_MT := (yX7_does, cX7_does, 2, (some FieldType.boolean))
abbrev MX7_isLeftOut : ab_MT := (yX7_isLeftOut, cX7_isLeftOut, 4, (some FieldType.boolean))
abbrev MX7_isUnseen : ab_MT := (yX7_isUnseen, cX7_isUnseen, 4, (some FieldType.boolean))
abbrev MX7_ends : ab_MT := (yX7_ends, cX7_ends, 4, (some FieldType.boolean))
abbrev MX7_encode : ab_MT := (yX7_encode, cX7_encode, 3, none)
abbrev MX7_shortNumber : ab_MT := (yX7_shortNumber, cX7_shortNumber, 3, none)
abbrev MX7_room : ab_MT := (yX7_room, cX7_room, 5, (some FieldType.int))
abbrev MX7_install : ab_MT := (yX7_install, cX7_install, 3, (some FieldType.int))
abbrev MX7_stop : ab_MT := (yX7_stop, cX7_stop, 1, (some FieldType.int))
abbrev MX7_high : ab_MT := (yX7_high, cX7_high, 2, (some FieldType.int))
abbrev MX7_files : ab_MT := (yX7_files, cX7_files, 2, (some FieldType.int))
abbrev MX7_file : ab_MT := (yX7_file, cX7_file, 5, (some FieldType.int))
abbrev MX7_slot : ab_MT := (yX7_slot, cX7_slot, 3, (some FieldType.int))
abbrev MX7_entry : ab_MT := (yX7_entry, cX7_entry, 7, (some FieldType.int))
abbrev MX7_byteAt : ab_MT := (yX7_byteAt, cX7_byteAt, 2, (some FieldType.int))
abbrev MX7_log : ab_MT := (yX7_log, cX7_log, 3, (some FieldType.int))
abbrev MX7_count : ab_MT := (yX7_count, cX7_count, 6, (some FieldType.int))
abbrev MX7_check : ab_MT := (yX7_check, cX7_check, 5, (some FieldType.int))
abbrev MX7_codesAs : ab_MT := (yX7_codesAs, cX7_codesAs, 4, (some FieldType.boolean))
end
section
/-! THE WORLD AS PLANES: a cell has a number; what is at it is its kind and length (S), its references (R), its ints (I) -/
abbrev ab_G : Type := (Nat → ClassId) × (Nat → Nat → Nat) × (Nat → ClassId) × Nat × (Nat → Nat)
abbrev ab_D (G : ab_G) : va_G := (G.1, G.2.1)
abbrev ab_A (G : ab_G) : Nat → ClassId := G.2.2.1
abbrev ab_B (G : ab_G) : Nat := G.2.2.2.1
abbrev ab_L (G : ab_G) : Nat → Nat := G.2.2.2.2
def ab_R (G : ab_G) (i : Nat) : Nat := if i < 3 then ab_L G i else ab_B G + (i - 3)
def ab_V (G : ab_G) (v : Value) : Value := match v with
  | .ref i => .ref (ab_R G i)
  | v => v
abbrev ab_SH : Type := Nat → Nat × Nat
abbrev ab_RR : Type := Nat → Nat → Option Nat
abbrev ab_II : Type := Nat → Nat → Int32
abbrev ab_M : Type := Nat × ab_SH × ab_RR × ab_II
def ab_ty (ci : Nat) : Nat → FieldType := match ci with
  | 0 => tyJx4a65c
  | 1 => tyX0
  | 2 => tyX1
  | 3 => tyX2
  | 4 => tyX3
  | 5 => tyX4
  | 6 => tyX5
  | 7 => tyX6
  | _ => tyX7
def ab_nf (ci : Nat) : Nat := match ci with
  | 0 => 3
  | 1 => 4
  | 2 => 1
  | 3 => 12
  | 4 => 5
  | 5 => 4
  | 6 => 4
  | 7 => 10
  | _ => 41
def ab_rt (t : FieldType) : Bool := match t with
  | .object _ => true
  | .array _ => true
  | _ => false
def ab_isR (ci k : Nat) : Bool := ab_rt (ab_ty ci k)
def ab_F (G : ab_G) (R : ab_RR) (I : ab_II) (ci j k : Nat) : Value := if ab_isR ci k = true then va_rf ((R j k).map (ab_R G)) else .int (I j k)
def ab_E (G : ab_G) (S : ab_SH) (R : ab_RR) (I : ab_II) (j : Nat) : va_E :=
  if (S j).1 < 9 then .inr ((S j).1, (List.range (ab_nf (S j).1)).map (ab_F G R I (S j).1 j))
  else if (S j).1 < 11 then .inl (ab_A G (S j).1, (S j).2, .inl (I j))
  else .inl (ab_A G (S j).1, (S j).2, .inr (.inr (.inr (.inr (fun i => (R j i).map (ab_R G))))))
def ab_W (G : ab_G) (h : ab_M) : va_W := (List.range (h.1 - 3)).map (fun i => (ab_B G + i, ab_E G h.2.1 h.2.2.1 h.2.2.2 (i + 3)))
def ab_u2 {α : Type} (f : Nat → Nat → α) (r k : Nat) (x : α) : Nat → Nat → α := fun j i => if j = r ∧ i = k then x else f j i
theorem ab_u2_s {α : Type} (f : Nat → Nat → α) (r k : Nat) (x : α) : ab_u2 f r k x r k = x := by simp [ab_u2]
theorem ab_u2_n {α : Type} (f : Nat → Nat → α) {r k j i : Nat} (x : α) (h : j ≠ r ∨ i ≠ k) : ab_u2 f r k x j i = f j i := by
  unfold ab_u2
  rw [if_neg]
  rintro ⟨h1, h2⟩
  rcases h with h | h
  · exact h h1
  · exact h h2
theorem ab_u2_r {α : Type} (f : Nat → Nat → α) {r k j : Nat} (x : α) (h : j ≠ r) : ab_u2 f r k x j = f j := funext fun i => ab_u2_n f x (Or.inl h)
/-- cell r is there, of that kind -/
def ab_ok (n : Nat) (S : ab_SH) (r ci : Nat) : Prop := 3 ≤ r ∧ r < n ∧ (S r).1 = ci
theorem ab_R_big (G : ab_G) {r : Nat} (h : 3 ≤ r) : ab_R G r = ab_B G + (r - 3) := by simp [ab_R, Nat.not_lt.mpr h]
theorem ab_W_get (G : ab_G) {n r : Nat} {S : ab_SH} {R : ab_RR} {I : ab_II} (h3 : 3 ≤ r) (hr : r < n) : (ab_W G (n, S, R, I))[r - 3]? = some (ab_R G r, ab_E G S R I r) := by
  unfold ab_W
  rw [List.getElem?_map, List.getElem?_range (by show r - 3 < n - 3; omega)]
  simp only [Option.map_some, ab_R_big G h3, Nat.sub_add_cancel h3]
theorem ab_W_at (G : ab_G) {h : ab_M} {k : Nat} {q : Nat × va_E} (hk : (ab_W G h)[k]? = some q) : k + 3 < h.1 ∧ q = (ab_B G + k, ab_E G h.2.1 h.2.2.1 h.2.2.2 (k + 3)) := by
  unfold ab_W at hk
  rw [List.getElem?_map] at hk
  by_cases hl : k < h.1 - 3
  · rw [List.getElem?_range hl] at hk
    simp only [Option.map_some, Option.some.injEq] at hk
    exact ⟨by omega, hk.symm⟩
  · rw [List.getElem?_eq_none (by simpa using hl)] at hk
    simp at hk
/-- one cell changes -/
theorem ab_P_up {G : ab_G} {n r : Nat} {S S' : ab_SH} {R R' : ab_RR} {I I' : ab_II} {H H1 : Heap} (hP : va_P (ab_D G) vwCl (ab_W G (n, S, R, I)) H) (h3 : 3 ≤ r) (he : va_at (ab_D G) vwCl (ab_R G r, ab_E G S' R' I' r) H1)
    (ho : ∀ q : Nat, q ≠ ab_R G r → H1[q]? = H[q]?) (hs : ∀ j, j ≠ r → ab_E G S' R' I' j = ab_E G S R I j) : va_P (ab_D G) vwCl (ab_W G (n, S', R', I')) H1 := by
  intro k q hk
  obtain ⟨hl, rfl⟩ := ab_W_at G hk
  by_cases hkr : k + 3 = r
  · subst hkr
    rw [ab_R_big G h3] at he
    exact he
  · have h2 := hP k (ab_B G + k, ab_E G S R I (k + 3)) (by
      have := ab_W_get G (n := n) (S := S) (R := R) (I := I) (r := k + 3) (by omega) hl
      rw [ab_R_big G (by omega)] at this
      simpa using this)
    show va_at (ab_D G) vwCl (ab_B G + k, ab_E G S' R' I' (k + 3)) H1
    rw [hs _ hkr]
    refine h2.kept (ho _ ?_)
    rw [ab_R_big G h3]
    show ab_B G + k ≠ _
    omega
/-- one cell comes -/
theorem ab_P_new {G : ab_G} {n : Nat} {S S' : ab_SH} {R R' : ab_RR} {I I' : ab_II} {H H1 : Heap} (hP : va_P (ab_D G) vwCl (ab_W G (n, S, R, I)) H) (h3 : 3 ≤ n) (hz : H.size = ab_B G + (n - 3)) (he : va_at (ab_D G) vwCl (H.size, ab_E G S' R' I' n) H1)
    (ho : ∀ q : Nat, q < H.size → H1[q]? = H[q]?) (hs : ∀ j, j < n → ab_E G S' R' I' j = ab_E G S R I j) : va_P (ab_D G) vwCl (ab_W G (n + 1, S', R', I')) H1 := by
  intro k q hk
  obtain ⟨hl, rfl⟩ := ab_W_at G hk
  have hl : k + 3 < n + 1 := hl
  by_cases hkr : k + 3 = n
  · subst hkr
    rw [hz] at he
    exact he
  · have h2 := hP k (ab_B G + k, ab_E G S R I (k + 3)) (by
      have := ab_W_get G (n := n) (S := S) (R := R) (I := I) (r := k + 3) (by omega) (by omega)
      rw [ab_R_big G (by omega)] at this
      simpa using this)
    show va_at (ab_D G) vwCl (ab_B G + k, ab_E G S' R' I' (k + 3)) H1
    rw [hs _ (by omega)]
    exact h2.kept (ho _ h2.lt)
abbrev ab_tys (G : ab_G) : List (ClassId × FieldType) := [(ab_A G 9, .int), (ab_A G 10, .boolean), (ab_A G 11, .object "LevelStore$FileRow"), (ab_A G 12, .object "java/lang/Object")]
abbrev ab_N (G : ab_G) : Nat → Prop := fun q => ab_B G ≤ q
/-- what the tables say, and what lies below the world -/
def ab_t (G : ab_G) (U : State) (H : Heap) : Prop :=
  va_K (ab_D G) vwCl (ab_tys G) U ∧ (∀ i, i < 3 → ab_L G i < ab_B G) ∧ va_Z "java/util/ArrayList" "DEFAULTCAPACITY_EMPTY_ELEMENTDATA" "[Ljava/lang/Object;" (.ref (ab_L G 0)) (ab_N G) U H ∧
  va_T (.object "java/lang/Object") (ab_L G 0) 0 (fun _ => .null) (ab_N G) U H ∧ va_Mi "[Ljava/lang/Object;" (ab_L G 1) U ∧ va_AO "java/lang/Object" U ∧ va_AO "LevelStore$FileRow" U ∧ va_Nw (.castable "LevelStore$SortedFile" "java/lang/Object") U ∧ va_Dc U
def ab_v (G : ab_G) (h : ab_M) (U : State) (H : Heap) : Prop := 3 ≤ h.1 ∧ H.size = ab_B G + (h.1 - 3) ∧ va_P (ab_D G) vwCl (ab_W G h) H ∧ va_X (ab_L G 2) (h.2.1 2).2 (h.2.2.2 2) U H
def ab_w (G : ab_G) (h : ab_M) (U : State) (H : Heap) : Prop := ab_v G h U H ∧ ab_t G U H
theorem ab_t.kept {G : ab_G} {U : State} {H H1 : Heap} (h : ab_t G U H) (hq : ∀ a : Nat, a < H.size → ¬ ab_N G a → H1[a]? = H[a]?) : ab_t G U H1 := by
  obtain ⟨h1, h2, h3, h4, h5⟩ := h
  exact ⟨h1, h2, h3.kept hq, h4.kept hq, h5⟩
theorem ab_t.warm {G : ab_G} {u U : State} {H : Heap} (hW : u.WarmedH U.vm) (h : ab_t G u H) : ab_t G U H := by
  obtain ⟨h1, h2, h3, h4, h5, h6, h7, h8, h9⟩ := h
  exact ⟨h1.moved hW.alike, h2, h3.moved hW.alike, h4.moved hW.alike, h5.moved hW.alike, h6.moved hW.alike, h7.moved hW.alike, va_Nw.warmC hW h8, h9.moved hW.alike⟩
theorem ab_v.warm {G : ab_G} {h : ab_M} {u U : State} {H : Heap} (hW : u.vm.Alike U.vm) (hv : ab_v G h u H) : ab_v G h U H := ⟨hv.1, hv.2.1, hv.2.2.1, hv.2.2.2.moved hW⟩
theorem ab_w.blind {G : ab_G} {h : ab_M} {U : State} {g : JFrame} {mk : MethodId} {a : Array Value} (hv : ab_w G h U U.heap) : ab_w G h (U.calling g mk a) (U.calling g mk a).heap := by
  obtain ⟨hv, h1, h2, h3, h4, h5, h6, h7, h8, h9⟩ := hv
  have e : U.vm.Alike (U.calling g mk a).vm := Vm.Alike.refl U.vm
  exact ⟨hv.warm e, h1.moved e, h2, h3.moved e, h4.moved e, h5.moved e, h6.moved e, h7.moved e, va_Nw.same rfl rfl h8, h9.moved e⟩
theorem ab_D_ok (G : ab_G) (h : ab_M) : va_D (ab_N G) (ab_W G h) := by
  refine ⟨fun i j p q hi hj hpq => ?_, fun k q hk => ?_⟩
  · obtain ⟨-, rfl⟩ := ab_W_at G hi
    obtain ⟨-, rfl⟩ := ab_W_at G hj
    have : ab_B G + i = ab_B G + j := hpq
    omega
  · obtain ⟨-, rfl⟩ := ab_W_at G hk
    exact Nat.le_add_right _ _
def lw_g : List Cond := lw_tbl.filter goodWord
theorem lw_g_sub {w : Cond} (h : w ∈ lw_g) : w ∈ lw_tbl := (List.mem_filter.mp h).1
theorem lw_g_of {w : Cond} {i : Nat} (h : lw_tbl[i]? = some w) (hg : goodWord w = true) : w ∈ lw_g := List.mem_filter.mpr ⟨List.mem_of_getElem? h, hg⟩
theorem lw_g_good : GoodIn lw_g lw_g := fun w h => ⟨h, good_of_word (List.mem_filter.mp h).2⟩
/-- a kind of object: its fields -/
def ab_K (ci : Nat) (C : String) (T : u_T) (N : Nat) : Prop := vwCl[ci]? = some (C, T, N) ∧ N = ab_nf ci ∧ (∀ w ∈ u_ws C T N, w ∈ lw_g) ∧ (∀ k, k < N → parseFieldDescriptor (T k).2.2.1 = some (ab_ty ci k)) ∧ (∀ a, a < N → ∀ b, b < N → a ≠ b → (T a).2.1 ≠ (T b).2.1) ∧ ci < 9
/-- a link to a field -/
def ab_FL (own : String) (idx ci k : Nat) (C : String) (T : u_T) (N : Nat) : Prop := ab_K ci C T N ∧ k < N ∧ ∃ ref, Cond.fieldLink own idx ref (T k).2.1 (T k).2.2.1 ∈ lw_g ∧ (ref = (T k).1 ∨ Cond.sameField ref (T k).1 (T k).2.1 (T k).2.2.1 ∈ lw_g)
theorem ab_E_obj {G : ab_G} {S : ab_SH} {R : ab_RR} {I : ab_II} {r ci : Nat} (h : (S r).1 = ci) (hc : ci < 9) : ab_E G S R I r = .inr (ci, (List.range (ab_nf ci)).map (ab_F G R I ci r)) := by
  subst h
  simp [ab_E, hc]
theorem ab_E_int {G : ab_G} {S : ab_SH} {R : ab_RR} {I : ab_II} {r ci : Nat} (h : (S r).1 = ci) (h1 : ¬ ci < 9) (h2 : ci < 11) : ab_E G S R I r = .inl (ab_A G ci, (S r).2, .inl (I r)) := by
  subst h
  simp [ab_E, h1, h2]
theorem ab_E_ref {G : ab_G} {S : ab_SH} {R : ab_RR} {I : ab_II} {r ci : Nat} (h : (S r).1 = ci) (h1 : ¬ ci < 9) (h2 : ¬ ci < 11) : ab_E G S R I r = .inl (ab_A G ci, (S r).2, .inr (.inr (.inr (.inr (fun i => (R r i).map (ab_R G)))))) := by
  subst h
  simp [ab_E, h1, h2]
/-- what is at a cell depends on its own planes -/
theorem ab_E_congr {G : ab_G} {S S' : ab_SH} {R R' : ab_RR} {I I' : ab_II} {j : Nat} (h1 : S' j = S j) (h2 : R' j = R j) (h3 : I' j = I j) : ab_E G S' R' I' j = ab_E G S R I j := by
  unfold ab_E ab_F
  rw [h1, h2, h3]
end
section
/-! A METHOD'S WALK OVER THE PLANES -/
def ab_C (fr lo : Nat) (M : ab_MT) (p : Program) (R : Room) (s : State) (m : MethodId) (args : Array Value) (meth : Method) (c : Code) : Prop :=
  p.tables.exec = Jvm.exec ∧ c.code = M.2.1 ∧ c.maxLocals = M.2.2.1 ∧ meth.sig.returnType = M.2.2.2 ∧ meth.locks = false ∧ meth.name = M.1.name ∧ s.vm.findClass M.1.cls = some m.cls ∧ (∀ w ∈ lw_g, w.before args s = true) ∧ R.frames = fr ∧ R.locals = lo
def ab_RT (ret : Option FieldType) (v : Option Value) : Prop := match ret, v with
  | none, none => True
  | some .int, some (.int _) => True
  | some .boolean, some (.int x) => x = 0 ∨ x = 1
  | some (.object _), some (.ref _) => True
  | some (.object _), some .null => True
  | some (.array _), some (.ref _) => True
  | _, _ => False
def ab_RI (M : ab_MT) (v : Option Value) (pc : Nat) : Prop := match v with
  | none => decode M.2.1 pc = .ok (.return_, 1)
  | some (.int _) => decode M.2.1 pc = .ok (.ireturn, 1)
  | some _ => decode M.2.1 pc = .ok (.areturn, 1)
abbrev ab_Po : Type := Option Value → ab_M → Prop
/-- what waits at the method's end -/
def ab_H (G : ab_G) (M : ab_MT) (p : Program) (l : Launch) (e : Env) (R : Room) (s : State) (m : MethodId) (args : Array Value) (below : List Frame) (meth : Method) (c : Code) (Q : State → Prop) (post : ab_Po) : Prop :=
  ∀ (v : Option Value) (h : ab_M) (H : Heap) (locs : List Loc) (cells slots pc : Nat) (ls : Array Slot), post v h → ab_RT M.2.2.2 v → ab_RI M v pc → ab_w G h s H → va_S (ab_N G) s.heap H locs → cells ≤ R.cells → slots ≤ R.slots →
    W p l e R s m args below meth c H locs cells slots Q (F0 m pc ls (v.map (ab_V G)).toList)
def ab_l (G : ab_G) (ls : Array Slot) (nL : Nat) (L : List (Nat × Value)) : Prop := ls.size = nL ∧ lv_wf ls ∧ ∀ i v, L.lookup i = some v → ls[i]? = some (.val (ab_V G v))
/-- from here the method returns, and then post; at most mc cells of ms slots are made; fr frames and lo words are left -/
def wp (fr lo mc ms : Nat) (M : ab_MT) (pc : Nat) (L : List (Nat × Value)) (st : List Value) (h : ab_M) (post : ab_Po) : Prop :=
  ∀ (G : ab_G) (p : Program) (l : Launch) (e : Env) (R : Room) (s : State) (m : MethodId) (args : Array Value) (below : List Frame) (meth : Method) (c : Code) (Q : State → Prop),
    ab_C fr lo M p R s m args meth c → ab_B G ≤ s.heap.size → ab_H G M p l e R s m args below meth c Q post →
    ∀ (H : Heap) (locs : List Loc) (cells slots : Nat) (ls : Array Slot), ab_w G h s H → va_S (ab_N G) s.heap H locs → cells + mc ≤ R.cells → slots + ms ≤ R.slots → ab_l G ls M.2.2.1 L →
    W p l e R s m args below meth c H locs cells slots Q (F0 m pc ls (st.map (ab_V G)))
theorem ab_V_cat (G : ab_G) (v : Value) : (ab_V G v).category = v.category := by cases v <;> rfl
def ab_dd (G : ab_G) (L : List (Nat × Value)) : List (Nat × Value) := L.filterMap (fun q => (L.lookup q.1).map (fun v => (q.1, ab_V G v)))
theorem ab_lk_mem {L : List (Nat × Value)} {i : Nat} {v : Value} (h : L.lookup i = some v) : (i, v) ∈ L := by
  induction L with
  | nil => simp at h
  | cons q t ih =>
    obtain ⟨j, w⟩ := q
    rw [List.lookup_cons] at h
    by_cases hij : i = j
    · subst hij
      simp at h
      simp [h]
    · have : (i == j) = false := by simpa using hij
      rw [this] at h
      exact List.mem_cons_of_mem _ (ih h)
theorem ab_l_has {G : ab_G} {ls : Array Slot} {nL : Nat} {L : List (Nat × Value)} (h : ab_l G ls nL L) : lv_has ls nL (ab_dd G L) := by
  refine ⟨h.1, h.2.1, fun q hq => ?_⟩
  obtain ⟨a, -, ha⟩ := List.mem_filterMap.mp hq
  cases hv : L.lookup a.1 with
  | none => rw [hv] at ha; cases ha
  | some v =>
    rw [hv] at ha
    simp at ha
    rw [← ha]
    exact h.2.2 _ _ hv
def ab_nl (L : List (Nat × Value)) (i : Nat) : Bool := i == 0 || (match L.lookup (i - 1) with
  | some (.long _) => false
  | some (.double _) => false
  | _ => true)
theorem ab_l_store {G : ab_G} {ls : Array Slot} {nL i : Nat} {L : List (Nat × Value)} {v : Value} (hn : ab_nl L i = true)
    (hl : lv_has ls nL ((i, ab_V G v) :: (ab_dd G L).filter (fun q => !(q.1 == i) && !(q.1 + 1 == i && q.2.category == 2)))) : ab_l G ls nL ((i, v) :: L) := by
  refine ⟨hl.1, hl.2.1, fun j w hj => ?_⟩
  rw [List.lookup_cons] at hj
  by_cases hij : j = i
  · subst hij
    simp at hj
    subst hj
    exact hl.2.2 _ List.mem_cons_self
  · have e : (j == i) = false := by simpa using hij
    rw [e] at hj
    have hj : L.lookup j = some w := hj
    refine hl.2.2 (j, ab_V G w) (List.mem_cons_of_mem _ (List.mem_filter.mpr ⟨List.mem_filterMap.mpr ⟨(j, w), ab_lk_mem hj, by simp [hj]⟩, ?_⟩))
    simp only [e, Bool.not_false, Bool.true_and, Bool.not_eq_true', Bool.and_eq_false_iff]
    by_cases hji : j + 1 = i
    · right
      rw [ab_V_cat]
      subst hji
      unfold ab_nl at hn
      simp only [Nat.add_sub_cancel] at hn
      rw [hj] at hn
      cases w <;> simp_all [Value.category]
    · left
      simpa using hji
def ab_sub (L : List (Nat × Value)) : List (Nat × Value) → Prop
  | [] => True
  | q :: t => L.lookup q.1 = some q.2 ∧ ab_sub L t
theorem ab_sub_mem {L : List (Nat × Value)} : ∀ {L' : List (Nat × Value)}, ab_sub L L' → ∀ q ∈ L', L.lookup q.1 = some q.2
  | [], _, q, hq => by simp at hq
  | a :: t, h, q, hq => by
    rcases List.mem_cons.mp hq with rfl | hq
    · exact h.1
    · exact ab_sub_mem h.2 q hq
section AB1
variable {fr lo mc ms : Nat} {M : ab_MT} {pc : Nat} {L : List (Nat × Value)} {st : List Value} {h : ab_M} {post : ab_Po}
theorem wp_loc {L' : List (Nat × Value)} (hL : ab_sub L L') (kk : wp fr lo mc ms M pc L' st h post) : wp fr lo mc ms M pc L st h post := by
  intro G p l e R s m args below meth c Q C hb hQ H locs cells slots ls hw hS hc hs hl
  refine kk G p l e R s m args below meth c Q C hb hQ H locs cells slots ls hw hS hc hs ⟨hl.1, hl.2.1, fun i v hv => ?_⟩
  exact hl.2.2 i v (ab_sub_mem hL _ (ab_lk_mem hv))
theorem wp_room {mc' ms' : Nat} (h1 : mc' ≤ mc) (h2 : ms' ≤ ms) (kk : wp fr lo mc' ms' M pc L st h post) : wp fr lo mc ms M pc L st h post := by
  intro G p l e R s m args below meth c Q C hb hQ H locs cells slots ls hw hS hc hs hl
  exact kk G p l e R s m args below meth c Q C hb hQ H locs cells slots ls hw hS (by omega) (by omega) hl
theorem wp_post {post' : ab_Po} (hp : ∀ v h', post' v h' → post v h') (kk : wp fr lo mc ms M pc L st h post') : wp fr lo mc ms M pc L st h post := by
  intro G p l e R s m args below meth c Q C hb hQ
  exact kk G p l e R s m args below meth c Q C hb (fun v h' H locs cells slots pc ls h1 => hQ v h' H locs cells slots pc ls (hp v h' h1))
theorem wp_pc {pc' : Nat} (hp : pc' = pc) (kk : wp fr lo mc ms M pc' L st h post) : wp fr lo mc ms M pc L st h post := hp ▸ kk
theorem wp_ret {v : Value} (hd : decode M.2.1 pc = .ok (.ireturn, 1)) {x : Int32} (hv : v = .int x) (hr : ab_RT M.2.2.2 (some (.int x))) (hp : post (some (.int x)) h) : wp fr lo mc ms M pc L [v] h post := by
  intro G p l e R s m args below meth c Q C hb hQ H locs cells slots ls hw hS hc hs hl
  subst hv
  exact hQ (some (.int x)) h H locs cells slots pc ls hp hr hd hw hS (by omega) (by omega)
theorem wp_retv (hd : decode M.2.1 pc = .ok (.return_, 1)) (hr : M.2.2.2 = none) (hp : post none h) : wp fr lo mc ms M pc L [] h post := by
  intro G p l e R s m args below meth c Q C hb hQ H locs cells slots ls hw hS hc hs hl
  exact hQ none h H locs cells slots pc ls hp (by rw [hr]; trivial) hd hw hS (by omega) (by omega)
theorem wp_reta {r : Nat} (hd : decode M.2.1 pc = .ok (.areturn, 1)) (hr : ab_RT M.2.2.2 (some (.ref r))) (hp : post (some (.ref r)) h) : wp fr lo mc ms M pc L [.ref r] h post := by
  intro G p l e R s m args below meth c Q C hb hQ H locs cells slots ls hw hS hc hs hl
  exact hQ (some (.ref r)) h H locs cells slots pc ls hp hr hd hw hS (by omega) (by omega)
theorem wp_retn (hd : decode M.2.1 pc = .ok (.areturn, 1)) (hr : ab_RT M.2.2.2 (some .null)) (hp : post (some .null) h) : wp fr lo mc ms M pc L [.null] h post := by
  intro G p l e R s m args below meth c Q C hb hQ H locs cells slots ls hw hS hc hs hl
  exact hQ (some .null) h H locs cells slots pc ls hp hr hd hw hS (by omega) (by omega)
theorem wp_iconst {n : Int} {v : Int32} (hd : decode M.2.1 pc = .ok (.iconst n, 1)) (hv : Int32.ofInt n = v) (kk : wp fr lo mc ms M (pc + 1) L (.int v :: st) h post) : wp fr lo mc ms M pc L (st) h post := by
  intro G p l e R s m args below meth c Q C hb hQ H locs cells slots ls hw hS hc hs hl
  exact lv_iconst C.1 C.2.1 hd hv (kk G p l e R s m args below meth c Q C hb hQ H locs cells slots ls hw hS hc hs hl)
theorem wp_bipush {n : Int} {v : Int32} (hd : decode M.2.1 pc = .ok (.bipush n, 2)) (hv : (Int8.ofInt n).toInt32 = v) (kk : wp fr lo mc ms M (pc + 2) L (.int v :: st) h post) : wp fr lo mc ms M pc L (st) h post := by
  intro G p l e R s m args below meth c Q C hb hQ H locs cells slots ls hw hS hc hs hl
  exact lv_bipush C.1 C.2.1 hd hv (kk G p l e R s m args below meth c Q C hb hQ H locs cells slots ls hw hS hc hs hl)
theorem wp_sipush {n : Int} {v : Int32} (hd : decode M.2.1 pc = .ok (.sipush n, 3)) (hv : (Int16.ofInt n).toInt32 = v) (kk : wp fr lo mc ms M (pc + 3) L (.int v :: st) h post) : wp fr lo mc ms M pc L (st) h post := by
  intro G p l e R s m args below meth c Q C hb hQ H locs cells slots ls hw hS hc hs hl
  exact lv_sipush C.1 C.2.1 hd hv (kk G p l e R s m args below meth c Q C hb hQ H locs cells slots ls hw hS hc hs hl)
theorem wp_lconst {n : Fin 2} {v : Int64} (hd : decode M.2.1 pc = .ok (.lconst n, 1)) (hv : Int64.ofNat (n : Nat) = v) (kk : wp fr lo mc ms M (pc + 1) L (.long v :: st) h post) : wp fr lo mc ms M pc L (st) h post := by
  intro G p l e R s m args below meth c Q C hb hQ H locs cells slots ls hw hS hc hs hl
  exact lv_lconst C.1 C.2.1 hd hv (kk G p l e R s m args below meth c Q C hb hQ H locs cells slots ls hw hS hc hs hl)
theorem wp_null (hd : decode M.2.1 pc = .ok (.aconst_null, 1)) (kk : wp fr lo mc ms M (pc + 1) L (.null :: st) h post) : wp fr lo mc ms M pc L (st) h post := by
  intro G p l e R s m args below meth c Q C hb hQ H locs cells slots ls hw hS hc hs hl
  exact lv_null C.1 C.2.1 hd (kk G p l e R s m args below meth c Q C hb hQ H locs cells slots ls hw hS hc hs hl)
theorem wp_iadd {x y : Int32} (hd : decode M.2.1 pc = .ok (.iadd, 1)) (kk : wp fr lo mc ms M (pc + 1) L (.int (x + y) :: st) h post) : wp fr lo mc ms M pc L (.int y :: .int x :: st) h post := by
  intro G p l e R s m args below meth c Q C hb hQ H locs cells slots ls hw hS hc hs hl
  exact lv_iadd C.1 C.2.1 hd (kk G p l e R s m args below meth c Q C hb hQ H locs cells slots ls hw hS hc hs hl)
theorem wp_isub {x y : Int32} (hd : decode M.2.1 pc = .ok (.isub, 1)) (kk : wp fr lo mc ms M (pc + 1) L (.int (x - y) :: st) h post) : wp fr lo mc ms M pc L (.int y :: .int x :: st) h post := by
  intro G p l e R s m args below meth c Q C hb hQ H locs cells slots ls hw hS hc hs hl
  exact lv_isub C.1 C.2.1 hd (kk G p l e R s m args below meth c Q C hb hQ H locs cells slots ls hw hS hc hs hl)
theorem wp_imul {x y : Int32} (hd : decode M.2.1 pc = .ok (.imul, 1)) (kk : wp fr lo mc ms M (pc + 1) L (.int (x * y) :: st) h post) : wp fr lo mc ms M pc L (.int y :: .int x :: st) h post := by
  intro G p l e R s m args below meth c Q C hb hQ H locs cells slots ls hw hS hc hs hl
  exact lv_imul C.1 C.2.1 hd (kk G p l e R s m args below meth c Q C hb hQ H locs cells slots ls hw hS hc hs hl)
theorem wp_iand {x y : Int32} (hd : decode M.2.1 pc = .ok (.iand, 1)) (kk : wp fr lo mc ms M (pc + 1) L (.int (x &&& y) :: st) h post) : wp fr lo mc ms M pc L (.int y :: .int x :: st) h post := by
  intro G p l e R s m args below meth c Q C hb hQ H locs cells slots ls hw hS hc hs hl
  exact lv_iand C.1 C.2.1 hd (kk G p l e R s m args below meth c Q C hb hQ H locs cells slots ls hw hS hc hs hl)
theorem wp_idiv {x y : Int32} (hd : decode M.2.1 pc = .ok (.idiv, 1)) (hne : ¬ y = 0) (kk : wp fr lo mc ms M (pc + 1) L (.int (x / y) :: st) h post) : wp fr lo mc ms M pc L (.int y :: .int x :: st) h post := by
  intro G p l e R s m args below meth c Q C hb hQ H locs cells slots ls hw hS hc hs hl
  exact lv_idiv C.1 C.2.1 hd hne (kk G p l e R s m args below meth c Q C hb hQ H locs cells slots ls hw hS hc hs hl)
theorem wp_irem {x y : Int32} (hd : decode M.2.1 pc = .ok (.irem, 1)) (hne : ¬ y = 0) (kk : wp fr lo mc ms M (pc + 1) L (.int (x - x / y * y) :: st) h post) : wp fr lo mc ms M pc L (.int y :: .int x :: st) h post := by
  intro G p l e R s m args below meth c Q C hb hQ H locs cells slots ls hw hS hc hs hl
  exact lv_irem C.1 C.2.1 hd hne (kk G p l e R s m args below meth c Q C hb hQ H locs cells slots ls hw hS hc hs hl)
theorem wp_ishr {x y : Int32} (hd : decode M.2.1 pc = .ok (.ishr, 1)) (kk : wp fr lo mc ms M (pc + 1) L (.int (x >>> (y &&& 31)) :: st) h post) : wp fr lo mc ms M pc L (.int y :: .int x :: st) h post := by
  intro G p l e R s m args below meth c Q C hb hQ H locs cells slots ls hw hS hc hs hl
  exact lv_ishr C.1 C.2.1 hd (kk G p l e R s m args below meth c Q C hb hQ H locs cells slots ls hw hS hc hs hl)
theorem wp_i2l {x : Int32} (hd : decode M.2.1 pc = .ok (.i2l, 1)) (kk : wp fr lo mc ms M (pc + 1) L (.long x.toInt64 :: st) h post) : wp fr lo mc ms M pc L (.int x :: st) h post := by
  intro G p l e R s m args below meth c Q C hb hQ H locs cells slots ls hw hS hc hs hl
  exact lv_i2l C.1 C.2.1 hd rfl (kk G p l e R s m args below meth c Q C hb hQ H locs cells slots ls hw hS hc hs hl)
theorem wp_lcmp {x y : Int64} (hd : decode M.2.1 pc = .ok (.lcmp, 1)) (kk : wp fr lo mc ms M (pc + 1) L (.int (lg_cmp x y) :: st) h post) : wp fr lo mc ms M pc L (.long y :: .long x :: st) h post := by
  intro G p l e R s m args below meth c Q C hb hQ H locs cells slots ls hw hS hc hs hl
  exact W.lcmp C.1 C.2.1 hd (kk G p l e R s m args below meth c Q C hb hQ H locs cells slots ls hw hS hc hs hl)
theorem wp_dup {v : Value} (hd : decode M.2.1 pc = .ok (.dup, 1)) (hc1 : v.category = 1) (kk : wp fr lo mc ms M (pc + 1) L (v :: v :: st) h post) : wp fr lo mc ms M pc L (v :: st) h post := by
  intro G p l e R s m args below meth c Q C hb hQ H locs cells slots ls hw hS hc hs hl
  exact lv_dup C.1 C.2.1 hd (by rw [ab_V_cat]; exact hc1) (kk G p l e R s m args below meth c Q C hb hQ H locs cells slots ls hw hS hc hs hl)
theorem wp_pop {v : Value} (hd : decode M.2.1 pc = .ok (.pop, 1)) (hc1 : v.category = 1) (kk : wp fr lo mc ms M (pc + 1) L st h post) : wp fr lo mc ms M pc L (v :: st) h post := by
  intro G p l e R s m args below meth c Q C hb hQ H locs cells slots ls hw hS hc hs hl
  exact lv_pop C.1 C.2.1 hd (by rw [ab_V_cat]; exact hc1) (kk G p l e R s m args below meth c Q C hb hQ H locs cells slots ls hw hS hc hs hl)
theorem wp_dup_x1 {v w : Value} (hd : decode M.2.1 pc = .ok (.dup_x1, 1)) (hc1 : v.category = 1) (hc2 : w.category = 1) (kk : wp fr lo mc ms M (pc + 1) L (v :: w :: v :: st) h post) : wp fr lo mc ms M pc L (v :: w :: st) h post := by
  intro G p l e R s m args below meth c Q C hb hQ H locs cells slots ls hw hS hc hs hl
  exact lv_dup_x1 C.1 C.2.1 hd (by rw [ab_V_cat]; exact hc1) (by rw [ab_V_cat]; exact hc2) (kk G p l e R s m args below meth c Q C hb hQ H locs cells slots ls hw hS hc hs hl)
theorem wp_iload_n {k : Fin 4} {x : Int32} (hd : decode M.2.1 pc = .ok (.iload_n k, 1)) (hx : L.lookup (k : Nat) = some (.int x)) (kk : wp fr lo mc ms M (pc + 1) L (.int x :: st) h post) : wp fr lo mc ms M pc L st h post := by
  intro G p l e R s m args below meth c Q C hb hQ H locs cells slots ls hw hS hc hs hl
  exact lv_iload_n C.1 C.2.1 hd rfl (hl.2.2 _ _ hx) (kk G p l e R s m args below meth c Q C hb hQ H locs cells slots ls hw hS hc hs hl)
theorem wp_iload {i : Nat} {x : Int32} (hd : decode M.2.1 pc = .ok (.iload i, 2)) (hx : L.lookup i = some (.int x)) (kk : wp fr lo mc ms M (pc + 2) L (.int x :: st) h post) : wp fr lo mc ms M pc L st h post := by
  intro G p l e R s m args below meth c Q C hb hQ H locs cells slots ls hw hS hc hs hl
  exact lv_iload C.1 C.2.1 hd (hl.2.2 _ _ hx) (kk G p l e R s m args below meth c Q C hb hQ H locs cells slots ls hw hS hc hs hl)
theorem wp_aload_n {k : Fin 4} {x : Nat} (hd : decode M.2.1 pc = .ok (.aload_n k, 1)) (hx : L.lookup (k : Nat) = some (.ref x)) (kk : wp fr lo mc ms M (pc + 1) L (.ref x :: st) h post) : wp fr lo mc ms M pc L st h post := by
  intro G p l e R s m args below meth c Q C hb hQ H locs cells slots ls hw hS hc hs hl
  exact lv_aload_n C.1 C.2.1 hd rfl (hl.2.2 _ _ hx) (kk G p l e R s m args below meth c Q C hb hQ H locs cells slots ls hw hS hc hs hl)
theorem wp_aload {i : Nat} {x : Nat} (hd : decode M.2.1 pc = .ok (.aload i, 2)) (hx : L.lookup i = some (.ref x)) (kk : wp fr lo mc ms M (pc + 2) L (.ref x :: st) h post) : wp fr lo mc ms M pc L st h post := by
  intro G p l e R s m args below meth c Q C hb hQ H locs cells slots ls hw hS hc hs hl
  exact lv_aload C.1 C.2.1 hd (hl.2.2 _ _ hx) (kk G p l e R s m args below meth c Q C hb hQ H locs cells slots ls hw hS hc hs hl)
theorem wp_lload_n {k : Fin 4} {x : Int64} (hd : decode M.2.1 pc = .ok (.lload_n k, 1)) (hx : L.lookup (k : Nat) = some (.long x)) (kk : wp fr lo mc ms M (pc + 1) L (.long x :: st) h post) : wp fr lo mc ms M pc L st h post := by
  intro G p l e R s m args below meth c Q C hb hQ H locs cells slots ls hw hS hc hs hl
  exact lv_lload_n C.1 C.2.1 hd rfl (hl.2.2 _ _ hx) (kk G p l e R s m args below meth c Q C hb hQ H locs cells slots ls hw hS hc hs hl)
theorem wp_lload {i : Nat} {x : Int64} (hd : decode M.2.1 pc = .ok (.lload i, 2)) (hx : L.lookup i = some (.long x)) (kk : wp fr lo mc ms M (pc + 2) L (.long x :: st) h post) : wp fr lo mc ms M pc L st h post := by
  intro G p l e R s m args below meth c Q C hb hQ H locs cells slots ls hw hS hc hs hl
  exact lv_lload C.1 C.2.1 hd (hl.2.2 _ _ hx) (kk G p l e R s m args below meth c Q C hb hQ H locs cells slots ls hw hS hc hs hl)
theorem wp_aload_nN {k : Fin 4} (hd : decode M.2.1 pc = .ok (.aload_n k, 1)) (hx : L.lookup (k : Nat) = some .null) (kk : wp fr lo mc ms M (pc + 1) L (.null :: st) h post) : wp fr lo mc ms M pc L st h post := by
  intro G p l e R s m args below meth c Q C hb hQ H locs cells slots ls hw hS hc hs hl
  exact lv_aload_nN C.1 C.2.1 hd rfl (hl.2.2 _ _ hx) (kk G p l e R s m args below meth c Q C hb hQ H locs cells slots ls hw hS hc hs hl)
theorem wp_aloadN {i : Nat} (hd : decode M.2.1 pc = .ok (.aload i, 2)) (hx : L.lookup i = some .null) (kk : wp fr lo mc ms M (pc + 2) L (.null :: st) h post) : wp fr lo mc ms M pc L st h post := by
  intro G p l e R s m args below meth c Q C hb hQ H locs cells slots ls hw hS hc hs hl
  exact lv_aloadN C.1 C.2.1 hd (hl.2.2 _ _ hx) (kk G p l e R s m args below meth c Q C hb hQ H locs cells slots ls hw hS hc hs hl)
theorem wp_istore_n {k : Fin 4} {x : Int32} (hd : decode M.2.1 pc = .ok (.istore_n k, 1)) (hi : (k : Nat) < M.2.2.1) (hn : ab_nl L (k : Nat) = true) (kk : wp fr lo mc ms M (pc + 1) (((k : Nat), .int x) :: L) st h post) : wp fr lo mc ms M pc L (.int x :: st) h post := by
  intro G p l e R s m args below meth c Q C hb hQ H locs cells slots ls hw hS hc hs hl
  exact lv_istore_n C.1 C.2.1 hd rfl (ab_l_has hl) hi rfl (fun ls' hl' => kk G p l e R s m args below meth c Q C hb hQ H locs cells slots ls' hw hS hc hs (ab_l_store hn hl'))
theorem wp_istore {i : Nat} {x : Int32} (hd : decode M.2.1 pc = .ok (.istore i, 2)) (hi : i < M.2.2.1) (hn : ab_nl L i = true) (kk : wp fr lo mc ms M (pc + 2) ((i, .int x) :: L) st h post) : wp fr lo mc ms M pc L (.int x :: st) h post := by
  intro G p l e R s m args below meth c Q C hb hQ H locs cells slots ls hw hS hc hs hl
  exact lv_istore C.1 C.2.1 hd (ab_l_has hl) hi rfl (fun ls' hl' => kk G p l e R s m args below meth c Q C hb hQ H locs cells slots ls' hw hS hc hs (ab_l_store hn hl'))
theorem wp_astore_n {k : Fin 4} {x : Nat} (hd : decode M.2.1 pc = .ok (.astore_n k, 1)) (hi : (k : Nat) < M.2.2.1) (hn : ab_nl L (k : Nat) = true) (kk : wp fr lo mc ms M (pc + 1) (((k : Nat), .ref x) :: L) st h post) : wp fr lo mc ms M pc L (.ref x :: st) h post := by
  intro G p l e R s m args below meth c Q C hb hQ H locs cells slots ls hw hS hc hs hl
  exact lv_astore_n C.1 C.2.1 hd rfl (ab_l_has hl) hi rfl (fun ls' hl' => kk G p l e R s m args below meth c Q C hb hQ H locs cells slots ls' hw hS hc hs (ab_l_store hn hl'))
theorem wp_astore {i : Nat} {x : Nat} (hd : decode M.2.1 pc = .ok (.astore i, 2)) (hi : i < M.2.2.1) (hn : ab_nl L i = true) (kk : wp fr lo mc ms M (pc + 2) ((i, .ref x) :: L) st h post) : wp fr lo mc ms M pc L (.ref x :: st) h post := by
  intro G p l e R s m args below meth c Q C hb hQ H locs cells slots ls hw hS hc hs hl
  exact lv_astore C.1 C.2.1 hd (ab_l_has hl) hi rfl (fun ls' hl' => kk G p l e R s m args below meth c Q C hb hQ H locs cells slots ls' hw hS hc hs (ab_l_store hn hl'))
theorem wp_astore_nN {k : Fin 4} (hd : decode M.2.1 pc = .ok (.astore_n k, 1)) (hi : (k : Nat) < M.2.2.1) (hn : ab_nl L (k : Nat) = true) (kk : wp fr lo mc ms M (pc + 1) (((k : Nat), .null) :: L) st h post) : wp fr lo mc ms M pc L (.null :: st) h post := by
  intro G p l e R s m args below meth c Q C hb hQ H locs cells slots ls hw hS hc hs hl
  exact lv_astore_nN C.1 C.2.1 hd rfl (ab_l_has hl) hi rfl (fun ls' hl' => kk G p l e R s m args below meth c Q C hb hQ H locs cells slots ls' hw hS hc hs (ab_l_store (v := .null) hn hl'))
theorem wp_astoreN {i : Nat} (hd : decode M.2.1 pc = .ok (.astore i, 2)) (hi : i < M.2.2.1) (hn : ab_nl L i = true) (kk : wp fr lo mc ms M (pc + 2) ((i, .null) :: L) st h post) : wp fr lo mc ms M pc L (.null :: st) h post := by
  intro G p l e R s m args below meth c Q C hb hQ H locs cells slots ls hw hS hc hs hl
  exact lv_astoreN C.1 C.2.1 hd (ab_l_has hl) hi rfl (fun ls' hl' => kk G p l e R s m args below meth c Q C hb hQ H locs cells slots ls' hw hS hc hs (ab_l_store (v := .null) hn hl'))
theorem wp_iinc {i : Nat} {n : Int} {x : Int32} (hd : decode M.2.1 pc = .ok (.iinc i n, 3)) (hx : L.lookup i = some (.int x)) (hi : i < M.2.2.1) (hn : ab_nl L i = true) (kk : wp fr lo mc ms M (pc + 3) ((i, .int (x + Int32.ofInt n)) :: L) st h post) : wp fr lo mc ms M pc L st h post := by
  intro G p l e R s m args below meth c Q C hb hQ H locs cells slots ls hw hS hc hs hl
  have hh := ab_l_has hl
  have h2 : lv_has ls M.2.2.1 ((i, .int x) :: ab_dd G L) := ⟨hh.1, hh.2.1, fun q hq => by
    rcases List.mem_cons.mp hq with rfl | hq
    · exact hl.2.2 _ _ hx
    · exact hh.2.2 q hq⟩
  refine lv_iinc C.1 C.2.1 hd h2 (k := 0) rfl rfl hi rfl (fun ls' hl' => kk G p l e R s m args below meth c Q C hb hQ H locs cells slots ls' hw hS hc hs (ab_l_store (v := .int (x + Int32.ofInt n)) hn ?_))
  refine ⟨hl'.1, hl'.2.1, fun q hq => hl'.2.2 q ?_⟩
  rcases List.mem_cons.mp hq with rfl | hq
  · exact List.mem_cons_self
  · refine List.mem_cons_of_mem _ ?_
    rw [List.filter_cons]
    simpa using hq
theorem ab_eqI (x y : Int32) : x = y ↔ x.toInt = y.toInt := Int32.toInt_inj.symm
theorem wp_icmp_eq {x y : Int32} {off : Int} {tgt : Nat} (hd : decode M.2.1 pc = .ok (.if_icmp .eq off, 3)) (ht : (pc : Int) + off = (tgt : Int)) (kt : x.toInt = y.toInt → wp fr lo mc ms M tgt L st h post) (kf : x.toInt ≠ y.toInt → wp fr lo mc ms M (pc + 3) L st h post) : wp fr lo mc ms M pc L (.int y :: .int x :: st) h post := by
  intro G p l e R s m args below meth c Q C hb hQ H locs cells slots ls hw hS hc hs hl
  exact lv_icmp_eq C.1 C.2.1 hd ht (fun q => kt ((ab_eqI _ _).mp q) G p l e R s m args below meth c Q C hb hQ H locs cells slots ls hw hS hc hs hl) (fun q => kf ((fun z => q ((ab_eqI _ _).mpr z))) G p l e R s m args below meth c Q C hb hQ H locs cells slots ls hw hS hc hs hl)
theorem wp_if_eq {x : Int32} {off : Int} {tgt : Nat} (hd : decode M.2.1 pc = .ok (.ifCond .eq off, 3)) (ht : (pc : Int) + off = (tgt : Int)) (kt : x.toInt = 0 → wp fr lo mc ms M tgt L st h post) (kf : x.toInt ≠ 0 → wp fr lo mc ms M (pc + 3) L st h post) : wp fr lo mc ms M pc L (.int x :: st) h post := by
  intro G p l e R s m args below meth c Q C hb hQ H locs cells slots ls hw hS hc hs hl
  exact lv_if_eq C.1 C.2.1 hd ht (fun q => kt (by first | exact (ab_eqI _ _).mp q | (simpa using (ab_eqI _ _).mp q)) G p l e R s m args below meth c Q C hb hQ H locs cells slots ls hw hS hc hs hl) (fun q => kf (by first | exact (fun z => q ((ab_eqI _ _).mpr z)) | (simpa using (fun z => q ((ab_eqI _ _).mpr z)))) G p l e R s m args below meth c Q C hb hQ H locs cells slots ls hw hS hc hs hl)
theorem wp_icmp_ne {x y : Int32} {off : Int} {tgt : Nat} (hd : decode M.2.1 pc = .ok (.if_icmp .ne off, 3)) (ht : (pc : Int) + off = (tgt : Int)) (kt : x.toInt ≠ y.toInt → wp fr lo mc ms M tgt L st h post) (kf : x.toInt = y.toInt → wp fr lo mc ms M (pc + 3) L st h post) : wp fr lo mc ms M pc L (.int y :: .int x :: st) h post := by
  intro G p l e R s m args below meth c Q C hb hQ H locs cells slots ls hw hS hc hs hl
  exact lv_icmp_ne C.1 C.2.1 hd ht (fun q => kt ((fun z => q ((ab_eqI _ _).mpr z))) G p l e R s m args below meth c Q C hb hQ H locs cells slots ls hw hS hc hs hl) (fun q => kf ((ab_eqI _ _).mp q) G p l e R s m args below meth c Q C hb hQ H locs cells slots ls hw hS hc hs hl)
theorem wp_if_ne {x : Int32} {off : Int} {tgt : Nat} (hd : decode M.2.1 pc = .ok (.ifCond .ne off, 3)) (ht : (pc : Int) + off = (tgt : Int)) (kt : x.toInt ≠ 0 → wp fr lo mc ms M tgt L st h post) (kf : x.toInt = 0 → wp fr lo mc ms M (pc + 3) L st h post) : wp fr lo mc ms M pc L (.int x :: st) h post := by
  intro G p l e R s m args below meth c Q C hb hQ H locs cells slots ls hw hS hc hs hl
  exact lv_if_ne C.1 C.2.1 hd ht (fun q => kt (by first | exact (fun z => q ((ab_eqI _ _).mpr z)) | (simpa using (fun z => q ((ab_eqI _ _).mpr z)))) G p l e R s m args below meth c Q C hb hQ H locs cells slots ls hw hS hc hs hl) (fun q => kf (by first | exact (ab_eqI _ _).mp q | (simpa using (ab_eqI _ _).mp q)) G p l e R s m args below meth c Q C hb hQ H locs cells slots ls hw hS hc hs hl)
theorem wp_icmp_lt {x y : Int32} {off : Int} {tgt : Nat} (hd : decode M.2.1 pc = .ok (.if_icmp .lt off, 3)) (ht : (pc : Int) + off = (tgt : Int)) (kt : x.toInt < y.toInt → wp fr lo mc ms M tgt L st h post) (kf : y.toInt ≤ x.toInt → wp fr lo mc ms M (pc + 3) L st h post) : wp fr lo mc ms M pc L (.int y :: .int x :: st) h post := by
  intro G p l e R s m args below meth c Q C hb hQ H locs cells slots ls hw hS hc hs hl
  exact lv_icmp_lt C.1 C.2.1 hd ht (fun q => kt (Int32.lt_iff_toInt_lt.mp q) G p l e R s m args below meth c Q C hb hQ H locs cells slots ls hw hS hc hs hl) (fun q => kf (Int.not_lt.mp (fun z => q (Int32.lt_iff_toInt_lt.mpr z))) G p l e R s m args below meth c Q C hb hQ H locs cells slots ls hw hS hc hs hl)
theorem wp_if_lt {x : Int32} {off : Int} {tgt : Nat} (hd : decode M.2.1 pc = .ok (.ifCond .lt off, 3)) (ht : (pc : Int) + off = (tgt : Int)) (kt : x.toInt < 0 → wp fr lo mc ms M tgt L st h post) (kf : 0 ≤ x.toInt → wp fr lo mc ms M (pc + 3) L st h post) : wp fr lo mc ms M pc L (.int x :: st) h post := by
  intro G p l e R s m args below meth c Q C hb hQ H locs cells slots ls hw hS hc hs hl
  exact lv_if_lt C.1 C.2.1 hd ht (fun q => kt (by first | exact Int32.lt_iff_toInt_lt.mp q | (simpa using Int32.lt_iff_toInt_lt.mp q)) G p l e R s m args below meth c Q C hb hQ H locs cells slots ls hw hS hc hs hl) (fun q => kf (by first | exact Int.not_lt.mp (fun z => q (Int32.lt_iff_toInt_lt.mpr z)) | (simpa using Int.not_lt.mp (fun z => q (Int32.lt_iff_toInt_lt.mpr z)))) G p l e R s m args below meth c Q C hb hQ H locs cells slots ls hw hS hc hs hl)
theorem wp_icmp_ge {x y : Int32} {off : Int} {tgt : Nat} (hd : decode M.2.1 pc = .ok (.if_icmp .ge off, 3)) (ht : (pc : Int) + off = (tgt : Int)) (kt : y.toInt ≤ x.toInt → wp fr lo mc ms M tgt L st h post) (kf : x.toInt < y.toInt → wp fr lo mc ms M (pc + 3) L st h post) : wp fr lo mc ms M pc L (.int y :: .int x :: st) h post := by
  intro G p l e R s m args below meth c Q C hb hQ H locs cells slots ls hw hS hc hs hl
  exact lv_icmp_ge C.1 C.2.1 hd ht (fun q => kt (Int32.le_iff_toInt_le.mp q) G p l e R s m args below meth c Q C hb hQ H locs cells slots ls hw hS hc hs hl) (fun q => kf (Int.not_le.mp (fun z => q (Int32.le_iff_toInt_le.mpr z))) G p l e R s m args below meth c Q C hb hQ H locs cells slots ls hw hS hc hs hl)
theorem wp_if_ge {x : Int32} {off : Int} {tgt : Nat} (hd : decode M.2.1 pc = .ok (.ifCond .ge off, 3)) (ht : (pc : Int) + off = (tgt : Int)) (kt : 0 ≤ x.toInt → wp fr lo mc ms M tgt L st h post) (kf : x.toInt < 0 → wp fr lo mc ms M (pc + 3) L st h post) : wp fr lo mc ms M pc L (.int x :: st) h post := by
  intro G p l e R s m args below meth c Q C hb hQ H locs cells slots ls hw hS hc hs hl
  exact lv_if_ge C.1 C.2.1 hd ht (fun q => kt (by first | exact Int32.le_iff_toInt_le.mp q | (simpa using Int32.le_iff_toInt_le.mp q)) G p l e R s m args below meth c Q C hb hQ H locs cells slots ls hw hS hc hs hl) (fun q => kf (by first | exact Int.not_le.mp (fun z => q (Int32.le_iff_toInt_le.mpr z)) | (simpa using Int.not_le.mp (fun z => q (Int32.le_iff_toInt_le.mpr z)))) G p l e R s m args below meth c Q C hb hQ H locs cells slots ls hw hS hc hs hl)
theorem wp_icmp_gt {x y : Int32} {off : Int} {tgt : Nat} (hd : decode M.2.1 pc = .ok (.if_icmp .gt off, 3)) (ht : (pc : Int) + off = (tgt : Int)) (kt : y.toInt < x.toInt → wp fr lo mc ms M tgt L st h post) (kf : x.toInt ≤ y.toInt → wp fr lo mc ms M (pc + 3) L st h post) : wp fr lo mc ms M pc L (.int y :: .int x :: st) h post := by
  intro G p l e R s m args below meth c Q C hb hQ H locs cells slots ls hw hS hc hs hl
  exact lv_icmp_gt C.1 C.2.1 hd ht (fun q => kt (Int32.lt_iff_toInt_lt.mp q) G p l e R s m args below meth c Q C hb hQ H locs cells slots ls hw hS hc hs hl) (fun q => kf (Int.not_lt.mp (fun z => q (Int32.lt_iff_toInt_lt.mpr z))) G p l e R s m args below meth c Q C hb hQ H locs cells slots ls hw hS hc hs hl)
theorem wp_if_gt {x : Int32} {off : Int} {tgt : Nat} (hd : decode M.2.1 pc = .ok (.ifCond .gt off, 3)) (ht : (pc : Int) + off = (tgt : Int)) (kt : 0 < x.toInt → wp fr lo mc ms M tgt L st h post) (kf : x.toInt ≤ 0 → wp fr lo mc ms M (pc + 3) L st h post) : wp fr lo mc ms M pc L (.int x :: st) h post := by
  intro G p l e R s m args below meth c Q C hb hQ H locs cells slots ls hw hS hc hs hl
  exact lv_if_gt C.1 C.2.1 hd ht (fun q => kt (by first | exact Int32.lt_iff_toInt_lt.mp q | (simpa using Int32.lt_iff_toInt_lt.mp q)) G p l e R s m args below meth c Q C hb hQ H locs cells slots ls hw hS hc hs hl) (fun q => kf (by first | exact Int.not_lt.mp (fun z => q (Int32.lt_iff_toInt_lt.mpr z)) | (simpa using Int.not_lt.mp (fun z => q (Int32.lt_iff_toInt_lt.mpr z)))) G p l e R s m args below meth c Q C hb hQ H locs cells slots ls hw hS hc hs hl)
theorem wp_icmp_le {x y : Int32} {off : Int} {tgt : Nat} (hd : decode M.2.1 pc = .ok (.if_icmp .le off, 3)) (ht : (pc : Int) + off = (tgt : Int)) (kt : x.toInt ≤ y.toInt → wp fr lo mc ms M tgt L st h post) (kf : y.toInt < x.toInt → wp fr lo mc ms M (pc + 3) L st h post) : wp fr lo mc ms M pc L (.int y :: .int x :: st) h post := by
  intro G p l e R s m args below meth c Q C hb hQ H locs cells slots ls hw hS hc hs hl
  exact lv_icmp_le C.1 C.2.1 hd ht (fun q => kt (Int32.le_iff_toInt_le.mp q) G p l e R s m args below meth c Q C hb hQ H locs cells slots ls hw hS hc hs hl) (fun q => kf (Int.not_le.mp (fun z => q (Int32.le_iff_toInt_le.mpr z))) G p l e R s m args below meth c Q C hb hQ H locs cells slots ls hw hS hc hs hl)
theorem wp_if_le {x : Int32} {off : Int} {tgt : Nat} (hd : decode M.2.1 pc = .ok (.ifCond .le off, 3)) (ht : (pc : Int) + off = (tgt : Int)) (kt : x.toInt ≤ 0 → wp fr lo mc ms M tgt L st h post) (kf : 0 < x.toInt → wp fr lo mc ms M (pc + 3) L st h post) : wp fr lo mc ms M pc L (.int x :: st) h post := by
  intro G p l e R s m args below meth c Q C hb hQ H locs cells slots ls hw hS hc hs hl
  exact lv_if_le C.1 C.2.1 hd ht (fun q => kt (by first | exact Int32.le_iff_toInt_le.mp q | (simpa using Int32.le_iff_toInt_le.mp q)) G p l e R s m args below meth c Q C hb hQ H locs cells slots ls hw hS hc hs hl) (fun q => kf (by first | exact Int.not_le.mp (fun z => q (Int32.le_iff_toInt_le.mpr z)) | (simpa using Int.not_le.mp (fun z => q (Int32.le_iff_toInt_le.mpr z)))) G p l e R s m args below meth c Q C hb hQ H locs cells slots ls hw hS hc hs hl)
theorem wp_goto {off : Int} {tgt : Nat} (hd : decode M.2.1 pc = .ok (.goto off, 3)) (ht : (pc : Int) + off = (tgt : Int)) (kk : wp fr lo mc ms M tgt L st h post) : wp fr lo mc ms M pc L st h post := by
  intro G p l e R s m args below meth c Q C hb hQ H locs cells slots ls hw hS hc hs hl
  exact lv_goto C.1 C.2.1 hd ht (kk G p l e R s m args below meth c Q C hb hQ H locs cells slots ls hw hS hc hs hl)
theorem wp_ifnull_r {x : Nat} {off : Int} (hd : decode M.2.1 pc = .ok (.ifnull off, 3)) (kk : wp fr lo mc ms M (pc + 3) L st h post) : wp fr lo mc ms M pc L (.ref x :: st) h post := by
  intro G p l e R s m args below meth c Q C hb hQ H locs cells slots ls hw hS hc hs hl
  exact lv_ifnull C.1 C.2.1 hd (kk G p l e R s m args below meth c Q C hb hQ H locs cells slots ls hw hS hc hs hl)
theorem wp_ifnonnull_r {x : Nat} {off : Int} {tgt : Nat} (hd : decode M.2.1 pc = .ok (.ifnonnull off, 3)) (ht : (pc : Int) + off = (tgt : Int)) (kk : wp fr lo mc ms M tgt L st h post) : wp fr lo mc ms M pc L (.ref x :: st) h post := by
  intro G p l e R s m args below meth c Q C hb hQ H locs cells slots ls hw hS hc hs hl
  exact lv_ifnonnull C.1 C.2.1 hd ht (kk G p l e R s m args below meth c Q C hb hQ H locs cells slots ls hw hS hc hs hl)
theorem wp_ifnull_n {off : Int} {tgt : Nat} (hd : decode M.2.1 pc = .ok (.ifnull off, 3)) (ht : (pc : Int) + off = (tgt : Int)) (kk : wp fr lo mc ms M tgt L st h post) : wp fr lo mc ms M pc L (.null :: st) h post := by
  intro G p l e R s m args below meth c Q C hb hQ H locs cells slots ls hw hS hc hs hl
  exact lv_ifnullN C.1 C.2.1 hd ht (kk G p l e R s m args below meth c Q C hb hQ H locs cells slots ls hw hS hc hs hl)
theorem wp_ifnonnull_n {off : Int} (hd : decode M.2.1 pc = .ok (.ifnonnull off, 3)) (kk : wp fr lo mc ms M (pc + 3) L st h post) : wp fr lo mc ms M pc L (.null :: st) h post := by
  intro G p l e R s m args below meth c Q C hb hQ H locs cells slots ls hw hS hc hs hl
  exact lv_ifnonnullN C.1 C.2.1 hd (kk G p l e R s m args below meth c Q C hb hQ H locs cells slots ls hw hS hc hs hl)
theorem wp_tableIn {dflt lo' hi : Int} {offs : Array Int} {len : Nat} {x : Int32} {off : Int} {tgt : Nat} (hd : decode M.2.1 pc = .ok (.tableswitch dflt lo' hi offs, len)) (h1 : lo' ≤ x.toInt) (h2 : x.toInt ≤ hi) (ho : offs[(x.toInt - lo').toNat]? = some off) (ht : (pc : Int) + off = (tgt : Int)) (kk : wp fr lo mc ms M tgt L st h post) : wp fr lo mc ms M pc L (.int x :: st) h post := by
  intro G p l e R s m args below meth c Q C hb hQ H locs cells slots ls hw hS hc hs hl
  exact lv_tableIn C.1 C.2.1 hd (by omega) (by omega) ho ht (kk G p l e R s m args below meth c Q C hb hQ H locs cells slots ls hw hS hc hs hl)
theorem wp_tableOut {dflt lo' hi : Int} {offs : Array Int} {len : Nat} {x : Int32} {tgt : Nat} (hd : decode M.2.1 pc = .ok (.tableswitch dflt lo' hi offs, len)) (h1 : x.toInt < lo' ∨ hi < x.toInt) (ht : (pc : Int) + dflt = (tgt : Int)) (kk : wp fr lo mc ms M tgt L st h post) : wp fr lo mc ms M pc L (.int x :: st) h post := by
  intro G p l e R s m args below meth c Q C hb hQ H locs cells slots ls hw hS hc hs hl
  exact lv_tableOut C.1 C.2.1 hd h1 ht (kk G p l e R s m args below meth c Q C hb hQ H locs cells slots ls hw hS hc hs hl)
theorem wp_ldc {idx : Nat} {v : Int32} (hd : decode M.2.1 pc = .ok (.ldc idx, 2)) (hv : Cond.constant M.1.cls idx v ∈ lw_g) (kk : wp fr lo mc ms M (pc + 2) L (.int v :: st) h post) : wp fr lo mc ms M pc L st h post := by
  intro G p l e R s m args below meth c Q C hb hQ H locs cells slots ls hw hS hc hs hl
  obtain ⟨c1, c2, c3, c4, c5, c6, c7, c8, c9, c10⟩ := id C
  exact lv_ldc c1 c2 c7 (c8 _ hv) hd (kk G p l e R s m args below meth c Q C hb hQ H locs cells slots ls hw hS hc hs hl)
theorem wp_ldc2 {idx : Nat} {v : Int64} (hd : decode M.2.1 pc = .ok (.ldc2_w idx, 3)) (hv : Cond.constantLong M.1.cls idx v ∈ lw_g) (kk : wp fr lo mc ms M (pc + 3) L (.long v :: st) h post) : wp fr lo mc ms M pc L st h post := by
  intro G p l e R s m args below meth c Q C hb hQ H locs cells slots ls hw hS hc hs hl
  obtain ⟨c1, c2, c3, c4, c5, c6, c7, c8, c9, c10⟩ := id C
  exact lv_ldc2 c1 c2 c7 (c8 _ hv) hd (kk G p l e R s m args below meth c Q C hb hQ H locs cells slots ls hw hS hc hs hl)
end AB1
end
section
/-! RULES FOR CELLS -/
theorem ab_w_up {G : ab_G} {n r : Nat} {S : ab_SH} {R R' : ab_RR} {I I' : ab_II} {U : State} {H H1 : Heap} (hw : ab_w G (n, S, R, I) U H) (h3 : 3 ≤ r) (hz : H1.size = H.size) (ho : ∀ q : Nat, q ≠ ab_R G r → H1[q]? = H[q]?)
    (he : va_at (ab_D G) vwCl (ab_R G r, ab_E G S R' I' r) H1) (hR : ∀ j, j ≠ r → R' j = R j) (hI : ∀ j, j ≠ r → I' j = I j) : ab_w G (n, S, R', I') U H1 := by
  obtain ⟨⟨v1, v2, v3, v4⟩, ht⟩ := hw
  have hlow : ∀ q : Nat, ¬ ab_N G q → q ≠ ab_R G r := fun q hq e => hq (by rw [e, ab_R_big G h3]; exact Nat.le_add_right _ _)
  refine ⟨⟨v1, hz.trans v2, ab_P_up v3 h3 he ho (fun j hj => ab_E_congr rfl (hR j hj) (hI j hj)), ?_⟩, ht.kept (fun a _ ha => ho a (hlow a ha))⟩
  show va_X (ab_L G 2) (S 2).2 (I' 2) U H1
  rw [hI 2 (by omega)]
  exact v4.kept (ho _ (hlow _ (Nat.not_le.mpr (ht.2.1 2 (by omega)))))
theorem ab_w_new {G : ab_G} {n kd len : Nat} {S : ab_SH} {R : ab_RR} {I : ab_II} {U : State} {H H1 : Heap} (hw : ab_w G (n, S, R, I) U H) (hz : H1.size = H.size + 1) (ho : ∀ q : Nat, q < H.size → H1[q]? = H[q]?)
    (he : va_at (ab_D G) vwCl (H.size, ab_E G (va_up S n (kd, len)) (va_up R n (fun _ => none)) (va_up I n (fun _ => 0)) n) H1) : ab_w G (n + 1, va_up S n (kd, len), va_up R n (fun _ => none), va_up I n (fun _ => 0)) U H1 := by
  obtain ⟨⟨v1, v2, v3, v4⟩, ht⟩ := hw
  have v1 : 3 ≤ n := v1
  have v2 : H.size = ab_B G + (n - 3) := v2
  have hlow : ∀ q : Nat, ¬ ab_N G q → q < H.size := fun q hq => by
    have : q < ab_B G := Nat.not_le.mp hq
    omega
  have ne : ∀ {α : Type} (f : Nat → α) (x : α) {j : Nat}, j ≠ n → va_up f n x j = f j := fun f x j hj => by simp [va_up, hj]
  refine ⟨⟨by show 3 ≤ n + 1; omega, by show H1.size = _; rw [hz, v2]; show _ = ab_B G + (n + 1 - 3); omega, ab_P_new v3 v1 v2 he ho (fun j hj => ab_E_congr (ne _ _ (by omega)) (ne _ _ (by omega)) (ne _ _ (by omega))), ?_⟩, ht.kept (fun a _ ha => ho a (hlow a ha))⟩
  show va_X (ab_L G 2) (va_up S n (kd, len) 2).2 (va_up I n (fun _ => 0) 2) U H1
  rw [ne _ _ (by omega), ne _ _ (by omega)]
  exact v4.kept (ho _ (hlow _ (Nat.not_le.mpr (ht.2.1 2 (by omega)))))
theorem ab_S_new {A : Nat → Prop} {H0 H H1 : Heap} {locs : List Loc} (h : va_S A H0 H locs) (hz : H1.size = H.size + 1) (ho : ∀ q : Nat, q < H.size → H1[q]? = H[q]?) : va_S A H0 H1 locs :=
  ⟨Nat.le_trans h.1 (by omega), fun q h1 h2 => (ho q (Nat.lt_of_lt_of_le h1 h.1)).trans (h.2.1 q h1 h2), h.2.2⟩
theorem ab_R_N (G : ab_G) {r : Nat} (h : 3 ≤ r) : ab_N G (ab_R G r) := by rw [ab_R_big G h]; exact Nat.le_add_right _ _
theorem ab_fs_set {G : ab_G} {R R' : ab_RR} {I I' : ab_II} {ci r k N : Nat} {v : Value} (hk : k < N) (h1 : ab_F G R' I' ci r k = v) (h2 : ∀ i, i ≠ k → ab_F G R' I' ci r i = ab_F G R I ci r i) :
    ((List.range N).map (ab_F G R I ci r)).set k v = (List.range N).map (ab_F G R' I' ci r) := by
  apply List.ext_getElem?
  intro i
  by_cases hik : i = k
  · subst hik
    rw [List.getElem?_set_self (by simpa using hk), List.getElem?_map, List.getElem?_range hk, Option.map_some, h1]
  · rw [List.getElem?_set_ne (Ne.symm hik), List.getElem?_map, List.getElem?_map]
    by_cases hi : i < N
    · rw [List.getElem?_range hi, Option.map_some, Option.map_some, h2 i hik]
    · rw [List.getElem?_eq_none (by simpa using hi)]
      rfl
theorem ab_same {args : Array Value} {s : State} {ref own nm ds : String} (hts : ∀ w ∈ lw_g, w.before args s = true) (h : ref = own ∨ Cond.sameField ref own nm ds ∈ lw_g) : ∀ x, s.fieldFound? own nm ds = some x → s.fieldFound? ref nm ds = some x := by
  intro x hx
  rcases h with rfl | h
  · exact hx
  · exact u_same (hts _ h) x hx
section AB2
variable {fr lo mc ms : Nat} {M : ab_MT} {pc : Nat} {L : List (Nat × Value)} {st : List Value} {n : Nat} {S : ab_SH} {R : ab_RR} {I : ab_II} {post : ab_Po} {idx ci k r : Nat} {C : String} {T : u_T} {N : Nat}
theorem wp_getI (hd : decode M.2.1 pc = .ok (.getfield idx, 3)) (hF : ab_FL M.1.cls idx ci k C T N) (hr : ab_ok n S r ci) (ht : ab_isR ci k = false) (kk : wp fr lo mc ms M (pc + 3) L (.int (I r k) :: st) (n, S, R, I) post) : wp fr lo mc ms M pc L (.ref r :: st) (n, S, R, I) post := by
  intro G p l e R1 s m args below meth c Q Cx hb hQ H locs cells slots ls hw hS hc hs hl
  obtain ⟨hx, hcode, -, -, -, -, hown, hts, -⟩ := id Cx
  obtain ⟨⟨k1, k2, k3, k4, k5, k6⟩, hk, ref, hl1, hl2⟩ := hF
  have he := ab_W_get G (S := S) (R := R) (I := I) hr.1 hr.2.1
  rw [ab_E_obj hr.2.2 k6] at he
  refine va_get (D := ab_D G) (cl := vwCl) hx hcode hts k3 hown hw.2.1 hw.1.2.2.1 (r - 3) he k1 k hk (hts _ hl1) (ab_same hts hl2) (v := .int (I r k)) ?_ hd (kk G p l e R1 s m args below meth c Q Cx hb hQ H locs cells slots ls hw hS hc hs hl)
  rw [List.getElem?_map, List.getElem?_range (by omega), Option.map_some]
  simp [ab_F, ht]
theorem wp_getR {x : Nat} (hd : decode M.2.1 pc = .ok (.getfield idx, 3)) (hF : ab_FL M.1.cls idx ci k C T N) (hr : ab_ok n S r ci) (ht : ab_isR ci k = true) (hx : R r k = some x) (kk : wp fr lo mc ms M (pc + 3) L (.ref x :: st) (n, S, R, I) post) : wp fr lo mc ms M pc L (.ref r :: st) (n, S, R, I) post := by
  intro G p l e R1 s m args below meth c Q Cx hb hQ H locs cells slots ls hw hS hc hs hl
  obtain ⟨hx1, hcode, -, -, -, -, hown, hts, -⟩ := id Cx
  obtain ⟨⟨k1, k2, k3, k4, k5, k6⟩, hk, ref, hl1, hl2⟩ := hF
  have he := ab_W_get G (S := S) (R := R) (I := I) hr.1 hr.2.1
  rw [ab_E_obj hr.2.2 k6] at he
  refine va_get (D := ab_D G) (cl := vwCl) hx1 hcode hts k3 hown hw.2.1 hw.1.2.2.1 (r - 3) he k1 k hk (hts _ hl1) (ab_same hts hl2) (v := .ref (ab_R G x)) ?_ hd (kk G p l e R1 s m args below meth c Q Cx hb hQ H locs cells slots ls hw hS hc hs hl)
  rw [List.getElem?_map, List.getElem?_range (by omega), Option.map_some]
  simp [ab_F, ht, hx, va_rf]
/-- putfield, down to the cell -/
theorem ab_put {p : Program} {l : Launch} {e : Env} {R1 : Room} {s : State} {m : MethodId} {args : Array Value} {below : List Frame} {meth : Method} {c : Code} {Q : State → Prop} {G : ab_G} {H : Heap} {locs : List Loc} {cells slots : Nat} {ls : Array Slot} {rest : List Value} {v : Value}
    (Cx : ab_C fr lo M p R1 s m args meth c) (hd : decode M.2.1 pc = .ok (.putfield idx, 3)) (hF : ab_FL M.1.cls idx ci k C T N) (hr : ab_ok n S r ci) (hf : (T k).2.2.2 = false ∨ ((T k).2.2.2 = true ∧ M.1.name = "<init>" ∧ (T k).1 = M.1.cls)) (hn : narrow (ab_ty ci k) v = v) (hfit : fits (ab_ty ci k) v = true)
    (hw : ab_w G (n, S, R, I) s H) (hS : va_S (ab_N G) s.heap H locs)
    (kk : ∀ (H1 : Heap) (locs1 : List Loc), va_at (ab_D G) vwCl (ab_R G r, .inr (ci, ((List.range (ab_nf ci)).map (ab_F G R I ci r)).set k v)) H1 → H1.size = H.size → (∀ q : Nat, q ≠ ab_R G r → H1[q]? = H[q]?) → va_S (ab_N G) s.heap H1 locs1 → W p l e R1 s m args below meth c H1 locs1 cells slots Q (F0 m (pc + 3) ls rest)) :
    W p l e R1 s m args below meth c H locs cells slots Q (F0 m pc ls (v :: .ref (ab_R G r) :: rest)) := by
  obtain ⟨hx, hcode, -, -, -, hnm, hown, hts, -⟩ := id Cx
  obtain ⟨⟨k1, k2, k3, k4, k5, k6⟩, hk, ref, hl1, hl2⟩ := hF
  have he := ab_W_get G (S := S) (R := R) (I := I) hr.1 hr.2.1
  rw [ab_E_obj hr.2.2 k6] at he
  have hK := hw.2.1
  have hap := va_apart (own := M.1.cls) hts k3 (ab_ty ci) k4 k5 hK k1
  obtain ⟨r', h1, cell, q1, q2, q3, q4⟩ := hw.1.2.2.1 (r - 3) _ he
  have hr' : r' = (C, T, N) := Option.some.inj (h1.symm.trans k1)
  subst hr'
  obtain ⟨hSl, hfc, kC, hkC, hkind⟩ := hK.1 ci _ k1
  obtain ⟨cf, kf, fi, f, hi, hsl⟩ := hSl k hk
  have hlay := hts _ (k3 _ (u_in_lay hk))
  unfold u_lay at hlay
  have hst := (u_facts hfc hkC (u_lays hts k3 hk) hi).1
  have hlen : k < ((List.range (ab_nf ci)).map (ab_F G R I ci r)).length := by simp; omega
  rcases hf with hf | ⟨hf, hin, hdecl⟩
  · rw [if_neg (by rw [hf]; decide)] at hlay
    have h6 := u_store hfc hkC hkind hlay hi (k4 k hk) hn hfit
    refine W.putK hx hcode (f := f) ⟨hown, hts _ hl1, ⟨_, _, _, ab_same hts hl2 _ hi⟩, hst⟩ (by rw [q2]; exact h6) q1 q3 (by rw [hsl]; exact k2_hasslot (q4 k hk)) rfl rfl hd fun H' e1 e2 e3 => ?_
    rw [hsl] at e1 ⊢
    exact kk H' _ ⟨_, k1, t_OB.to (V := updV (vp_V _) k v) ⟨_, e1, q2, q3, t_set q4 hap hk v⟩ (fun j _ => vp_updV_set hlen v j)⟩ e2 e3 (hS.put e2 e3 (ab_R_N G hr.1))
  · rw [if_pos hf] at hlay
    have hcf : m.cls = cf := by
      obtain ⟨_, _, c', _, _, _, -, -, hf', -, -, -, hown2, -⟩ := Cond.laysFinal_spec hlay
      have e1 : c' = cf := by have := hi.symm.trans hf'; simp at this; exact this.1.symm
      rw [hdecl] at hown2
      rw [← e1]; exact Option.some.inj (hown.symm.trans hown2)
    have h6 := u_fits hfc hkC hkind (Or.inr hlay) hi (k4 k hk) hn hfit
    refine W.putFinK hx hcode hown (hts _ hl1) (ab_same hts hl2 _ hi) hst hcf (hnm.trans hin) (by rw [q2]; exact h6) q1 q3 (by rw [hsl]; exact k2_hasslot (q4 k hk)) rfl rfl hd fun H' e1 e2 e3 => ?_
    rw [hsl] at e1 ⊢
    exact kk H' _ ⟨_, k1, t_OB.to (V := updV (vp_V _) k v) ⟨_, e1, q2, q3, t_set q4 hap hk v⟩ (fun j _ => vp_updV_set hlen v j)⟩ e2 e3 (hS.put e2 e3 (ab_R_N G hr.1))
theorem wp_putI {x : Int32} (hd : decode M.2.1 pc = .ok (.putfield idx, 3)) (hF : ab_FL M.1.cls idx ci k C T N) (hr : ab_ok n S r ci) (ht : ab_isR ci k = false) (hf : (T k).2.2.2 = false) (hv : ab_ty ci k = .int ∨ (ab_ty ci k = .boolean ∧ (x = 0 ∨ x = 1))) (kk : wp fr lo mc ms M (pc + 3) L st (n, S, R, ab_u2 I r k x) post) : wp fr lo mc ms M pc L (.int x :: .ref r :: st) (n, S, R, I) post := by
  intro G p l e R1 s m args below meth c Q Cx hb hQ H locs cells slots ls hw hS hc hs hl
  have hnf : narrow (ab_ty ci k) (.int x) = .int x ∧ fits (ab_ty ci k) (.int x) = true := by
    rcases hv with h | ⟨h, h2⟩
    · rw [h]; exact ⟨rfl, rfl⟩
    · rw [h]; rcases h2 with rfl | rfl <;> exact ⟨rfl, rfl⟩
  refine ab_put Cx hd hF hr (Or.inl hf) hnf.1 hnf.2 hw hS (fun H1 locs1 a1 a2 a3 a4 => ?_)
  refine kk G p l e R1 s m args below meth c Q Cx hb hQ H1 locs1 cells slots ls (ab_w_up hw hr.1 a2 a3 ?_ (fun _ _ => rfl) (fun j hj => ab_u2_r I x hj)) a4 hc hs hl
  have k6 := hF.1.2.2.2.2.2
  have hk : k < ab_nf ci := by rw [← hF.1.2.1]; exact hF.2.1
  rw [ab_E_obj hr.2.2 k6]
  rw [ab_fs_set (R' := R) (I' := ab_u2 I r k x) hk (by simp [ab_F, ht, ab_u2_s, ab_V]) (fun i hi => by simp [ab_F, ab_u2_n I x (Or.inr hi)])] at a1
  exact a1
theorem ab_rt_ok {t : FieldType} (h : ab_rt t = true) (x : Nat) : narrow t (.ref x) = .ref x ∧ fits t (.ref x) = true := by
  cases t <;> first | (simp [ab_rt] at h; done) | exact ⟨rfl, rfl⟩
theorem wp_putR {x : Nat} (hd : decode M.2.1 pc = .ok (.putfield idx, 3)) (hF : ab_FL M.1.cls idx ci k C T N) (hr : ab_ok n S r ci) (ht : ab_isR ci k = true) (hf : (T k).2.2.2 = false ∨ ((T k).2.2.2 = true ∧ M.1.name = "<init>" ∧ (T k).1 = M.1.cls)) (kk : wp fr lo mc ms M (pc + 3) L st (n, S, ab_u2 R r k (some x), I) post) : wp fr lo mc ms M pc L (.ref x :: .ref r :: st) (n, S, R, I) post := by
  intro G p l e R1 s m args below meth c Q Cx hb hQ H locs cells slots ls hw hS hc hs hl
  have hnf := ab_rt_ok ht (ab_R G x)
  refine ab_put Cx hd hF hr hf hnf.1 hnf.2 hw hS (fun H1 locs1 a1 a2 a3 a4 => ?_)
  refine kk G p l e R1 s m args below meth c Q Cx hb hQ H1 locs1 cells slots ls (ab_w_up hw hr.1 a2 a3 ?_ (fun j hj => ab_u2_r R (some x) hj) (fun _ _ => rfl)) a4 hc hs hl
  have k6 := hF.1.2.2.2.2.2
  have hk : k < ab_nf ci := by rw [← hF.1.2.1]; exact hF.2.1
  rw [ab_E_obj hr.2.2 k6]
  rw [ab_fs_set (R' := ab_u2 R r k (some x)) (I' := I) hk (by simp [ab_F, ht, ab_u2_s, va_rf, ab_V]) (fun i hi => by simp [ab_F, ab_u2_n R (some x) (Or.inr hi)])] at a1
  exact a1
theorem ab_tyI {G : ab_G} : (ab_tys G)[0]? = some (ab_A G 9, .int) := rfl
theorem wp_iaload {i : Int32} (hd : decode M.2.1 pc = .ok (.iaload, 1)) (hr : ab_ok n S r 9) (hi : vp_in i (S r).2) (kk : wp fr lo mc ms M (pc + 1) L (.int (I r i.toNatClampNeg) :: st) (n, S, R, I) post) : wp fr lo mc ms M pc L (.int i :: .ref r :: st) (n, S, R, I) post := by
  intro G p l e R1 s m args below meth c Q Cx hb hQ H locs cells slots ls hw hS hc hs hl
  have he := ab_W_get G (S := S) (R := R) (I := I) hr.1 hr.2.1
  rw [ab_E_int hr.2.2 (by decide) (by decide)] at he
  exact va_iald Cx.1 Cx.2.1 hw.2.1 hw.1.2.2.1 (r - 3) 0 he rfl hi hd (kk G p l e R1 s m args below meth c Q Cx hb hQ H locs cells slots ls hw hS hc hs hl)
theorem wp_baload {i : Int32} (hd : decode M.2.1 pc = .ok (.baload, 1)) (hr : ab_ok n S r 10) (hi : vp_in i (S r).2) (kk : wp fr lo mc ms M (pc + 1) L (.int (I r i.toNatClampNeg) :: st) (n, S, R, I) post) : wp fr lo mc ms M pc L (.int i :: .ref r :: st) (n, S, R, I) post := by
  intro G p l e R1 s m args below meth c Q Cx hb hQ H locs cells slots ls hw hS hc hs hl
  have he := ab_W_get G (S := S) (R := R) (I := I) hr.1 hr.2.1
  rw [ab_E_int hr.2.2 (by decide) (by decide)] at he
  exact va_zald Cx.1 Cx.2.1 hw.2.1 hw.1.2.2.1 (r - 3) 1 he rfl hi hd (kk G p l e R1 s m args below meth c Q Cx hb hQ H locs cells slots ls hw hS hc hs hl)
theorem ab_arr_up {G : ab_G} {f g : Nat → Int32} {j : Nat} {x : Int32} {cA : ClassId} {len : Nat} (h1 : g j = x) (h2 : ∀ i, i ≠ j → g i = f i) : (vp_cell cA (len, .inl f)).setSlot j (.int x) = vp_cell cA (len, .inl g) := by
  rw [vp_cell_i, vp_cell_i, arrV_store]
  congr 1
  funext q
  by_cases hq : q = j
  · subst hq
    simp [updV, h1]
  · simp [updV, hq, h2 q hq]
theorem wp_iastore {i x : Int32} (hd : decode M.2.1 pc = .ok (.iastore, 1)) (hr : ab_ok n S r 9) (hi : vp_in i (S r).2) (kk : wp fr lo mc ms M (pc + 1) L st (n, S, R, ab_u2 I r i.toNatClampNeg x) post) : wp fr lo mc ms M pc L (.int x :: .int i :: .ref r :: st) (n, S, R, I) post := by
  intro G p l e R1 s m args below meth c Q Cx hb hQ H locs cells slots ls hw hS hc hs hl
  have he := ab_W_get G (S := S) (R := R) (I := I) hr.1 hr.2.1
  rw [ab_E_int hr.2.2 (by decide) (by decide)] at he
  refine W.iast Cx.1 Cx.2.1 (hw.1.2.2.1 (r - 3) _ he) ((hw.2.1.2 0 _ rfl).1 _ (fun j => .int (I r j))) (fun q => by cases q) (by show ¬ (i < 0 ∨ (arrV _ _ _).slots.size ≤ _); rw [arrV_size]; exact hi) rfl rfl hd fun H1 e1 e2 e3 => ?_
  refine kk G p l e R1 s m args below meth c Q Cx hb hQ H1 _ cells slots ls (ab_w_up hw hr.1 e2 e3 ?_ (fun _ _ => rfl) (fun j hj => ab_u2_r I x hj)) (hS.put e2 e3 (ab_R_N G hr.1)) hc hs hl
  rw [ab_E_int hr.2.2 (by decide) (by decide)]
  refine e1.trans ?_
  rw [ab_arr_up (G := G) (g := ab_u2 I r i.toNatClampNeg x r) (ab_u2_s I r _ x) (fun j hj => ab_u2_n I x (Or.inr hj))]
theorem wp_bastore {i x : Int32} (hd : decode M.2.1 pc = .ok (.bastore, 1)) (hr : ab_ok n S r 10) (hi : vp_in i (S r).2) (hx : x = 0 ∨ x = 1) (kk : wp fr lo mc ms M (pc + 1) L st (n, S, R, ab_u2 I r i.toNatClampNeg x) post) : wp fr lo mc ms M pc L (.int x :: .int i :: .ref r :: st) (n, S, R, I) post := by
  intro G p l e R1 s m args below meth c Q Cx hb hQ H locs cells slots ls hw hS hc hs hl
  have he := ab_W_get G (S := S) (R := R) (I := I) hr.1 hr.2.1
  rw [ab_E_int hr.2.2 (by decide) (by decide)] at he
  refine W.zast Cx.1 Cx.2.1 (hw.1.2.2.1 (r - 3) _ he) ((hw.2.1.2 1 _ rfl).1 _ (fun j => .int (I r j))) (fun q => by cases q) (by show ¬ (i < 0 ∨ (arrV _ _ _).slots.size ≤ _); rw [arrV_size]; exact hi) rfl rfl hd fun H1 e1 e2 e3 => ?_
  refine kk G p l e R1 s m args below meth c Q Cx hb hQ H1 _ cells slots ls (ab_w_up hw hr.1 e2 e3 ?_ (fun _ _ => rfl) (fun j hj => ab_u2_r I x hj)) (hS.put e2 e3 (ab_R_N G hr.1)) hc hs hl
  rw [ab_E_int hr.2.2 (by decide) (by decide)]
  have hnar : narrow .boolean (.int x) = .int x := by rcases hx with rfl | rfl <;> rfl
  rw [hnar] at e1
  refine e1.trans ?_
  rw [ab_arr_up (G := G) (g := ab_u2 I r i.toNatClampNeg x r) (ab_u2_s I r _ x) (fun j hj => ab_u2_n I x (Or.inr hj))]
theorem wp_aaload {i : Int32} {x : Nat} (hd : decode M.2.1 pc = .ok (.aaload, 1)) (hr : ab_ok n S r 11 ∨ ab_ok n S r 12) (hi : vp_in i (S r).2) (hx : R r i.toNatClampNeg = some x) (kk : wp fr lo mc ms M (pc + 1) L (.ref x :: st) (n, S, R, I) post) : wp fr lo mc ms M pc L (.int i :: .ref r :: st) (n, S, R, I) post := by
  intro G p l e R1 s m args below meth c Q Cx hb hQ H locs cells slots ls hw hS hc hs hl
  have ev : va_rf ((R r i.toNatClampNeg).map (ab_R G)) = .ref (ab_R G x) := by rw [hx]; rfl
  have kk' := kk G p l e R1 s m args below meth c Q Cx hb hQ H locs cells slots ls hw hS hc hs hl
  rcases hr with hr | hr
  · have he := ab_W_get G (S := S) (R := R) (I := I) hr.1 hr.2.1
    rw [ab_E_ref hr.2.2 (by decide) (by decide)] at he
    refine va_aldq Cx.1 Cx.2.1 hw.2.1 hw.1.2.2.1 (r - 3) 2 he rfl hi hd ?_
    rw [ev]
    exact kk'
  · have he := ab_W_get G (S := S) (R := R) (I := I) hr.1 hr.2.1
    rw [ab_E_ref hr.2.2 (by decide) (by decide)] at he
    refine va_aldq Cx.1 Cx.2.1 hw.2.1 hw.1.2.2.1 (r - 3) 3 he rfl hi hd ?_
    rw [ev]
    exact kk'
theorem wp_alen (hd : decode M.2.1 pc = .ok (.arraylength, 1)) (hr : ab_ok n S r 9 ∨ ab_ok n S r 10 ∨ ab_ok n S r 11 ∨ ab_ok n S r 12) (kk : wp fr lo mc ms M (pc + 1) L (.int (Int32.ofNat (S r).2) :: st) (n, S, R, I) post) : wp fr lo mc ms M pc L (.ref r :: st) (n, S, R, I) post := by
  intro G p l e R1 s m args below meth c Q Cx hb hQ H locs cells slots ls hw hS hc hs hl
  have kk' := kk G p l e R1 s m args below meth c Q Cx hb hQ H locs cells slots ls hw hS hc hs hl
  rcases hr with hr | hr | hr | hr
  · have he := ab_W_get G (S := S) (R := R) (I := I) hr.1 hr.2.1
    rw [ab_E_int hr.2.2 (by decide) (by decide)] at he
    exact va_alen Cx.1 Cx.2.1 hw.2.1 hw.1.2.2.1 (r - 3) 0 he rfl rfl hd kk'
  · have he := ab_W_get G (S := S) (R := R) (I := I) hr.1 hr.2.1
    rw [ab_E_int hr.2.2 (by decide) (by decide)] at he
    exact va_alen Cx.1 Cx.2.1 hw.2.1 hw.1.2.2.1 (r - 3) 1 he rfl rfl hd kk'
  · have he := ab_W_get G (S := S) (R := R) (I := I) hr.1 hr.2.1
    rw [ab_E_ref hr.2.2 (by decide) (by decide)] at he
    exact va_alen Cx.1 Cx.2.1 hw.2.1 hw.1.2.2.1 (r - 3) 2 he rfl rfl hd kk'
  · have he := ab_W_get G (S := S) (R := R) (I := I) hr.1 hr.2.1
    rw [ab_E_ref hr.2.2 (by decide) (by decide)] at he
    exact va_alen Cx.1 Cx.2.1 hw.2.1 hw.1.2.2.1 (r - 3) 3 he rfl rfl hd kk'
theorem wp_alen0 (hd : decode M.2.1 pc = .ok (.arraylength, 1)) (kk : wp fr lo mc ms M (pc + 1) L (.int 0 :: st) (n, S, R, I) post) : wp fr lo mc ms M pc L (.ref 0 :: st) (n, S, R, I) post := by
  intro G p l e R1 s m args below meth c Q Cx hb hQ H locs cells slots ls hw hS hc hs hl
  obtain ⟨cell, g1, g2, -, -, g3, -⟩ := hw.2.2.2.2.1
  exact W.alen (n := 0) Cx.1 Cx.2.1 g1 g2 g3 rfl rfl hd (kk G p l e R1 s m args below meth c Q Cx hb hQ H locs cells slots ls hw hS hc hs hl)
theorem wp_slen (hd : decode M.2.1 pc = .ok (.arraylength, 1)) (kk : wp fr lo mc ms M (pc + 1) L (.int (Int32.ofNat (S 2).2) :: st) (n, S, R, I) post) : wp fr lo mc ms M pc L (.ref 2 :: st) (n, S, R, I) post := by
  intro G p l e R1 s m args below meth c Q Cx hb hQ H locs cells slots ls hw hS hc hs hl
  obtain ⟨scr, g1, g2, g3, g4, g5⟩ := hw.1.2.2.2
  exact W.alen (n := Int32.ofNat (S 2).2) Cx.1 Cx.2.1 g1 g2 (by rw [g4] <;> rfl) rfl rfl hd (kk G p l e R1 s m args below meth c Q Cx hb hQ H locs cells slots ls hw hS hc hs hl)
theorem wp_saload {i : Int32} (hd : decode M.2.1 pc = .ok (.iaload, 1)) (hi : vp_in i (S 2).2) (kk : wp fr lo mc ms M (pc + 1) L (.int (I 2 i.toNatClampNeg) :: st) (n, S, R, I) post) : wp fr lo mc ms M pc L (.int i :: .ref 2 :: st) (n, S, R, I) post := by
  intro G p l e R1 s m args below meth c Q Cx hb hQ H locs cells slots ls hw hS hc hs hl
  obtain ⟨scr, g1, g2, g3, g4, g5⟩ := hw.1.2.2.2
  have hlt : i.toNatClampNeg < (S 2).2 := Nat.not_le.mp fun q => hi (Or.inr q)
  exact W.iald (v := .int (I 2 i.toNatClampNeg)) Cx.1 Cx.2.1 g1 g2 g3 (by rw [g4]; exact hi) (g5 _ hlt) rfl rfl hd (kk G p l e R1 s m args below meth c Q Cx hb hQ H locs cells slots ls hw hS hc hs hl)
end AB2
end
section
/-! RULES FOR WHAT IS MADE, AND FOR CALLS -/
theorem ab_dflt : ∀ ci, ci < 9 → ∀ j, j < ab_nf ci → defaultValue (ab_ty ci j) = if ab_isR ci j = true then .null else .int 0 := by decide +kernel
section AB3
variable {fr lo mc ms : Nat} {M : ab_MT} {pc : Nat} {L : List (Nat × Value)} {st : List Value} {n : Nat} {S : ab_SH} {R : ab_RR} {I : ab_II} {post : ab_Po} {idx ci k r : Nat} {C : String} {T : u_T} {N : Nat}
abbrev ab_nS (S : ab_SH) (n kd len : Nat) : ab_SH := va_up S n (kd, len)
abbrev ab_nR (R : ab_RR) (n : Nat) : ab_RR := va_up R n (fun _ => none)
abbrev ab_nI (I : ab_II) (n : Nat) : ab_II := va_up I n (fun _ => 0)
theorem ab_szR {G : ab_G} {U : State} {H : Heap} (hw : ab_w G (n, S, R, I) U H) : H.size = ab_R G n := by
  have v1 : 3 ≤ n := hw.1.1
  rw [ab_R_big G v1]
  exact hw.1.2.1
theorem wp_new (hd : decode M.2.1 pc = .ok (.new idx, 3)) (hK : ab_K ci C T N) (h1 : Cond.classLink M.1.cls idx C ∈ lw_g) (h2 : Cond.instantiable C N ∈ lw_g) (h3 : Cond.initialized C ∈ lw_g) (hm : 1 ≤ mc) (hz : N ≤ ms)
    (kk : wp fr lo (mc - 1) (ms - N) M (pc + 3) L (.ref n :: st) (n + 1, ab_nS S n ci 0, ab_nR R n, ab_nI I n) post) : wp fr lo mc ms M pc L st (n, S, R, I) post := by
  intro G p l e R1 s m args below meth c Q Cx hb hQ H locs cells slots ls hw hS hc hs hl
  obtain ⟨hx, hcode, -, -, -, -, hown, hts, -⟩ := id Cx
  obtain ⟨k1, k2, k3, k4, k5, k6⟩ := hK
  have hKn := hw.2.1.1 ci _ k1
  refine W.newcK hx hcode hown (hts _ h1) (hts _ h2) (hts _ h3) rfl hd (by omega) (by omega) hKn.2.1 rfl fun H1 kC hkC e1 z1 o1 => ?_
  have hw1 : ab_w G (n + 1, ab_nS S n ci 0, ab_nR R n, ab_nI I n) s H1 := by
    refine ab_w_new hw z1 o1 ?_
    rw [ab_E_obj (ci := ci) (by simp [va_up]) k6]
    refine ⟨_, k1, (u_born (ab_ty ci) hts k3 hKn hkC e1 k4).to (fun j hj => ?_)⟩
    rw [ab_dflt ci k6 j (by omega)]
    have hj2 : j < ab_nf ci := by have : N = ab_nf ci := k2; omega
    show _ = List.getD _ _ _
    rw [List.getD_eq_getElem?_getD, List.getElem?_map, List.getElem?_range hj2]
    simp only [Option.map_some, Option.getD_some, ab_F, va_up, if_true, Option.map_none]
    rfl
  have kk' := kk G p l e R1 s m args below meth c Q Cx hb hQ H1 locs (cells + 1) (slots + N) ls hw1 (ab_S_new hS z1 o1) (by omega) (by omega) hl
  rw [List.map_cons] at kk'
  rw [ab_szR hw]
  exact kk'
theorem wp_newI {i : Int32} (hd : decode M.2.1 pc = .ok (.newarray .int, 2)) (h1 : Cond.arrayClass .int ∈ lw_g) (h0 : ¬ i < 0) (hN : i.toNatClampNeg = N) (hB : N ≤ 100000) (hm : 1 ≤ mc) (hz : N ≤ ms)
    (kk : wp fr lo (mc - 1) (ms - N) M (pc + 2) L (.ref n :: st) (n + 1, ab_nS S n 9 N, ab_nR R n, ab_nI I n) post) : wp fr lo mc ms M pc L (.int i :: st) (n, S, R, I) post := by
  intro G p l e R1 s m args below meth c Q Cx hb hQ H locs cells slots ls hw hS hc hs hl
  obtain ⟨hx, hcode, -, -, -, -, hown, hts, -⟩ := id Cx
  have hAr : s.vm.findClass ("[" ++ FieldType.int.toString) = some (ab_A G 9) := (hw.2.1.2 0 _ rfl).2
  refine va_newaK hx hcode (atype := .int) (hts _ h1) rfl hd rfl h0 hN (by show N * componentBytes .int ≤ _; rw [show componentBytes .int = 4 from rfl]; omega) (by omega) (by omega) rfl fun H1 cA e1 z1 o1 hA1 hA2 => ?_
  have hcA : cA = ab_A G 9 := Option.some.inj (hA2.symm.trans hAr)
  subst hcA
  have hw1 : ab_w G (n + 1, ab_nS S n 9 N, ab_nR R n, ab_nI I n) s H1 := by
    refine ab_w_new hw z1 o1 ?_
    rw [ab_E_int (ci := 9) (by simp [va_up]) (by decide) (by decide)]
    show H1[H.size]? = some (vp_cell _ _)
    rw [e1]
    simp [va_up, vp_cell_i]
    rfl
  have kk' := kk G p l e R1 s m args below meth c Q Cx hb hQ H1 locs (cells + 1) (slots + N) ls hw1 (ab_S_new hS z1 o1) (by omega) (by omega) hl
  rw [List.map_cons] at kk'
  rw [ab_szR hw]
  exact kk'
theorem wp_newZ {i : Int32} (hd : decode M.2.1 pc = .ok (.newarray .boolean, 2)) (h1 : Cond.arrayClass .boolean ∈ lw_g) (h0 : ¬ i < 0) (hN : i.toNatClampNeg = N) (hB : N ≤ 100000) (hm : 1 ≤ mc) (hz : N ≤ ms)
    (kk : wp fr lo (mc - 1) (ms - N) M (pc + 2) L (.ref n :: st) (n + 1, ab_nS S n 10 N, ab_nR R n, ab_nI I n) post) : wp fr lo mc ms M pc L (.int i :: st) (n, S, R, I) post := by
  intro G p l e R1 s m args below meth c Q Cx hb hQ H locs cells slots ls hw hS hc hs hl
  obtain ⟨hx, hcode, -, -, -, -, hown, hts, -⟩ := id Cx
  have hAr : s.vm.findClass ("[" ++ FieldType.boolean.toString) = some (ab_A G 10) := (hw.2.1.2 1 _ rfl).2
  refine va_newaK hx hcode (atype := .boolean) (hts _ h1) rfl hd rfl h0 hN (by show N * componentBytes .boolean ≤ _; rw [show componentBytes .boolean = 1 from rfl]; omega) (by omega) (by omega) rfl fun H1 cA e1 z1 o1 hA1 hA2 => ?_
  have hcA : cA = ab_A G 10 := Option.some.inj (hA2.symm.trans hAr)
  subst hcA
  have hw1 : ab_w G (n + 1, ab_nS S n 10 N, ab_nR R n, ab_nI I n) s H1 := by
    refine ab_w_new hw z1 o1 ?_
    rw [ab_E_int (ci := 10) (by simp [va_up]) (by decide) (by decide)]
    show H1[H.size]? = some (vp_cell _ _)
    rw [e1]
    simp [va_up, vp_cell_i]
    rfl
  have kk' := kk G p l e R1 s m args below meth c Q Cx hb hQ H1 locs (cells + 1) (slots + N) ls hw1 (ab_S_new hS z1 o1) (by omega) (by omega) hl
  rw [List.map_cons] at kk'
  rw [ab_szR hw]
  exact kk'
theorem ab_anew {E : String} {kd t0 : Nat} {i : Int32} (hkd : kd = 11 ∨ kd = 12) (hty : ∀ G, (ab_tys G)[t0]? = some (ab_A G kd, .object E)) (hao : ∀ G U H, ab_t G U H → va_AO E U)
    (hd : decode M.2.1 pc = .ok (.anewarray idx, 3)) (h1 : Cond.classLink M.1.cls idx E ∈ lw_g) (h0 : ¬ i < 0) (hN : i.toNatClampNeg = N) (hB : N ≤ 100000) (hm : 1 ≤ mc) (hz : N ≤ ms)
    (kk : wp fr lo (mc - 1) (ms - N) M (pc + 3) L (.ref n :: st) (n + 1, ab_nS S n kd N, ab_nR R n, ab_nI I n) post) : wp fr lo mc ms M pc L (.int i :: st) (n, S, R, I) post := by
  intro G p l e R1 s m args below meth c Q Cx hb hQ H locs cells slots ls hw hS hc hs hl
  obtain ⟨hx, hcode, -, -, -, -, hown, hts, -⟩ := id Cx
  subst hN
  refine W.anew hx hcode hown (hts _ h1) (va_AO.use (hao G s H hw.2)) rfl hd rfl h0 (by omega) (by omega) (by omega) fun cA kA comp f1 f2 f3 f4 => ?_
  generalize hH1 : H.push ({ cls := cA, slots := Array.replicate i.toNatClampNeg .null, vm := .none } : Cell) = H1
  have z1 : H1.size = H.size + 1 := by rw [← hH1, Array.size_push]
  have e1 : H1[H.size]? = some (arrV cA i.toNatClampNeg (fun _ => .null)) := by rw [← hH1, Array.getElem?_push_size, ← arrV_new]
  have o1 : ∀ q : Nat, q < H.size → H1[q]? = H[q]? := fun q hq => by rw [← hH1, Array.getElem?_push, if_neg (Nat.ne_of_lt hq)]
  obtain ⟨-, kA', comp', g1, g2, g3, g4⟩ := hw.2.1.2 t0 _ (hty G)
  have hcA : cA = ab_A G kd := Option.some.inj (f1.symm.trans g4)
  subst hcA
  have hw1 : ab_w G (n + 1, ab_nS S n kd i.toNatClampNeg, ab_nR R n, ab_nI I n) s H1 := by
    refine ab_w_new hw z1 o1 ?_
    rw [ab_E_ref (ci := kd) (by simp [va_up]) (by omega) (by omega)]
    show H1[H.size]? = some (vp_cell _ _)
    rw [e1]
    simp [va_up, vp_cell_q, va_rf]
  have kk' := kk G p l e R1 s m args below meth c Q Cx hb hQ H1 locs (cells + 1) (slots + i.toNatClampNeg) ls hw1 (ab_S_new hS z1 o1) (by omega) (by omega) hl
  rw [List.map_cons] at kk'
  rw [ab_szR hw]
  exact kk'
theorem wp_anewO {i : Int32} (hd : decode M.2.1 pc = .ok (.anewarray idx, 3)) (h1 : Cond.classLink M.1.cls idx "java/lang/Object" ∈ lw_g) (h0 : ¬ i < 0) (hN : i.toNatClampNeg = N) (hB : N ≤ 100000) (hm : 1 ≤ mc) (hz : N ≤ ms)
    (kk : wp fr lo (mc - 1) (ms - N) M (pc + 3) L (.ref n :: st) (n + 1, ab_nS S n 12 N, ab_nR R n, ab_nI I n) post) : wp fr lo mc ms M pc L (.int i :: st) (n, S, R, I) post :=
  ab_anew (t0 := 3) (Or.inr rfl) (fun _ => rfl) (fun _ _ _ h => h.2.2.2.2.2.1) hd h1 h0 hN hB hm hz kk
theorem wp_anewF {i : Int32} (hd : decode M.2.1 pc = .ok (.anewarray idx, 3)) (h1 : Cond.classLink M.1.cls idx "LevelStore$FileRow" ∈ lw_g) (h0 : ¬ i < 0) (hN : i.toNatClampNeg = N) (hB : N ≤ 100000) (hm : 1 ≤ mc) (hz : N ≤ ms)
    (kk : wp fr lo (mc - 1) (ms - N) M (pc + 3) L (.ref n :: st) (n + 1, ab_nS S n 11 N, ab_nR R n, ab_nI I n) post) : wp fr lo mc ms M pc L (.int i :: st) (n, S, R, I) post :=
  ab_anew (t0 := 2) (Or.inl rfl) (fun _ => rfl) (fun _ _ _ h => h.2.2.2.2.2.2.1) hd h1 h0 hN hB hm hz kk
theorem ab_arr_upR {G : ab_G} {f g : Nat → Option Nat} {j : Nat} {x : Option Nat} {cA : ClassId} {len : Nat} (h1 : g j = x) (h2 : ∀ i, i ≠ j → g i = f i) : (vp_cell cA (len, .inr (.inr (.inr (.inr f))))).setSlot j (va_rf x) = vp_cell cA (len, .inr (.inr (.inr (.inr g)))) := by
  rw [vp_cell_q, vp_cell_q, arrV_store]
  congr 1
  funext q
  by_cases hq : q = j
  · subst hq
    simp [updV, h1]
  · simp [updV, hq, h2 q hq]
theorem wp_aastoreN {i : Int32} (hd : decode M.2.1 pc = .ok (.aastore, 1)) (hr : ab_ok n S r 12) (hi : vp_in i (S r).2) (kk : wp fr lo mc ms M (pc + 1) L st (n, S, ab_u2 R r i.toNatClampNeg none, I) post) : wp fr lo mc ms M pc L (.null :: .int i :: .ref r :: st) (n, S, R, I) post := by
  intro G p l e R1 s m args below meth c Q Cx hb hQ H locs cells slots ls hw hS hc hs hl
  have he := ab_W_get G (S := S) (R := R) (I := I) hr.1 hr.2.1
  rw [ab_E_ref hr.2.2 (by decide) (by decide)] at he
  refine va_WaastN (C := "java/lang/Object") Cx.1 Cx.2.1 (hw.1.2.2.1 (r - 3) _ he) ((hw.2.1.2 3 _ rfl).1 _ _) (fun h => by cases h) (by show ¬ (i < 0 ∨ (arrV _ _ _).slots.size ≤ _); rw [arrV_size]; exact hi) rfl rfl hd fun H1 e1 e2 e3 => ?_
  refine kk G p l e R1 s m args below meth c Q Cx hb hQ H1 _ cells slots ls (ab_w_up hw hr.1 e2 e3 ?_ (fun j hj => ab_u2_r R none hj) (fun _ _ => rfl)) (hS.put e2 e3 (ab_R_N G hr.1)) hc hs hl
  rw [ab_E_ref hr.2.2 (by decide) (by decide)]
  refine e1.trans ?_
  rw [show (Value.null) = va_rf none from rfl, ab_arr_upR (G := G) (g := fun j => (ab_u2 R r i.toNatClampNeg none r j).map (ab_R G)) (by rw [ab_u2_s]; rfl) (fun j hj => by rw [ab_u2_n R none (Or.inr hj)])]
theorem ab_aast {E : String} {kd t0 cv : Nat} {C' : String} {T' : u_T} {N' : Nat} {i : Int32} {x : Nat} (hkd : kd = 11 ∨ kd = 12) (hty : ∀ G, (ab_tys G)[t0]? = some (ab_A G kd, .object E)) (hcl : vwCl[cv]? = some (C', T', N')) (hcv : cv < 9)
    (hasg : ∀ G U H, ab_t G U H → ∀ a b : ClassId, U.vm.findClass C' = some a → U.vm.findClass E = some b → U.vm.assignable a b = true)
    (hd : decode M.2.1 pc = .ok (.aastore, 1)) (hr : ab_ok n S r kd) (hi : vp_in i (S r).2) (hx : ab_ok n S x cv) (kk : wp fr lo mc ms M (pc + 1) L st (n, S, ab_u2 R r i.toNatClampNeg (some x), I) post) : wp fr lo mc ms M pc L (.ref x :: .int i :: .ref r :: st) (n, S, R, I) post := by
  intro G p l e R1 s m args below meth c Q Cx hb hQ H locs cells slots ls hw hS hc hs hl
  have he := ab_W_get G (S := S) (R := R) (I := I) hr.1 hr.2.1
  rw [ab_E_ref hr.2.2 (by omega) (by omega)] at he
  have hv := ab_W_get G (S := S) (R := R) (I := I) hx.1 hx.2.1
  rw [ab_E_obj hx.2.2 hcv] at hv
  have hlt : i.toNatClampNeg < (S r).2 := Nat.not_le.mp fun q => hi (Or.inr q)
  have h0 : ¬ i < 0 := fun q => hi (Or.inl q)
  obtain ⟨r', hr', cellV, g1, g2, g3, -⟩ := hw.1.2.2.1 (x - 3) _ hv
  have hcls := (hw.2.1.1 cv _ hcl).2
  obtain ⟨-, kA, comp, k1, k2, k3, -⟩ := hw.2.1.2 t0 _ (hty G)
  obtain ⟨kE, hkE, -⟩ := Vm.findClass_spec k3
  have f3 := hasg G s H hw.2 _ _ hcls.1 k3
  obtain ⟨kC, hkC, -⟩ := hcls.2
  refine W.aast Cx.1 Cx.2.1 (hw.1.2.2.1 (r - 3) _ he) (fun q h => by cases h) (fun h => by cases h) k1 k2 rfl hkE ⟨h0, by show _ < (arrV _ _ _).slots.size; rw [arrV_size]; exact hlt⟩ g1 (fun q h => by rw [g3] at h; cases h) (by rw [g2]; exact hkC) (by rw [g2]; exact f3) rfl rfl hd fun H1 e1 e2 e3 => ?_
  refine kk G p l e R1 s m args below meth c Q Cx hb hQ H1 _ cells slots ls (ab_w_up hw hr.1 e2 e3 ?_ (fun j hj => ab_u2_r R (some x) hj) (fun _ _ => rfl)) (hS.put e2 e3 (ab_R_N G hr.1)) hc hs hl
  rw [ab_E_ref hr.2.2 (by omega) (by omega)]
  refine e1.trans ?_
  rw [show (Value.ref (ab_R G x)) = va_rf (some (ab_R G x)) from rfl, ab_arr_upR (G := G) (g := fun j => (ab_u2 R r i.toNatClampNeg (some x) r j).map (ab_R G)) (by rw [ab_u2_s]; rfl) (fun j hj => by rw [ab_u2_n R (some x) (Or.inr hj)])]
theorem wp_aastoreO {i : Int32} {x : Nat} (hd : decode M.2.1 pc = .ok (.aastore, 1)) (hr : ab_ok n S r 12) (hi : vp_in i (S r).2) (hx : ab_ok n S x 6) (kk : wp fr lo mc ms M (pc + 1) L st (n, S, ab_u2 R r i.toNatClampNeg (some x), I) post) : wp fr lo mc ms M pc L (.ref x :: .int i :: .ref r :: st) (n, S, R, I) post := by
  refine ab_aast (cv := 6) (t0 := 3) (E := "java/lang/Object") (Or.inr rfl) (fun _ => rfl) rfl (by decide) (fun G U H ht a b h1 h2 => ?_) hd hr hi hx kk
  obtain ⟨c0, t1, f1, f2, f3⟩ := Cond.castable_spec ht.2.2.2.2.2.2.2.1
  cases h1.symm.trans f1
  cases h2.symm.trans f2
  exact f3
theorem wp_aastoreF {i : Int32} {x : Nat} (hd : decode M.2.1 pc = .ok (.aastore, 1)) (hr : ab_ok n S r 11) (hi : vp_in i (S r).2) (hx : ab_ok n S x 2) (kk : wp fr lo mc ms M (pc + 1) L st (n, S, ab_u2 R r i.toNatClampNeg (some x), I) post) : wp fr lo mc ms M pc L (.ref x :: .int i :: .ref r :: st) (n, S, R, I) post := by
  refine ab_aast (cv := 2) (t0 := 2) (E := "LevelStore$FileRow") (Or.inl rfl) (fun _ => rfl) rfl (by decide) (fun G U H ht a b h1 h2 => ?_) hd hr hi hx kk
  have h1 : U.vm.findClass "LevelStore$FileRow" = some a := h1
  cases h1.symm.trans h2
  have hc := (ht.1.1 2 _ rfl).2
  have : U.vm.findClass "LevelStore$FileRow" = some ((ab_D G).1 2) := hc.1
  cases h1.symm.trans this
  exact va_assign hc
theorem wp_gets (hd : decode M.2.1 pc = .ok (.getstatic idx, 3)) (h1 : Cond.fieldLink M.1.cls idx "java/util/ArrayList" "DEFAULTCAPACITY_EMPTY_ELEMENTDATA" "[Ljava/lang/Object;" ∈ lw_g) (kk : wp fr lo mc ms M (pc + 3) L (.ref 0 :: st) (n, S, R, I) post) : wp fr lo mc ms M pc L st (n, S, R, I) post := by
  intro G p l e R1 s m args below meth c Q Cx hb hQ H locs cells slots ls hw hS hc hs hl
  obtain ⟨hx, hcode, -, -, -, -, hown, hts, -⟩ := id Cx
  obtain ⟨cf, kf, fi, f, a, cell, g1, g2, g3, g4, g5, g6, g7, g8⟩ := hw.2.2.2.1
  exact W.gets hx hcode hown (hts _ h1) g1 g2 g3 g4 g5 (fun e => by rw [e] at g6; cases g6) g7 rfl hd (kk G p l e R1 s m args below meth c Q Cx hb hQ H locs cells slots ls hw hS hc hs hl)
theorem wp_ldcM (hd : decode M.2.1 pc = .ok (.ldc idx, 2)) (h1 : Cond.classLink M.1.cls idx "[Ljava/lang/Object;" ∈ lw_g) (kk : wp fr lo mc ms M (pc + 2) L (.ref 1 :: st) (n, S, R, I) post) : wp fr lo mc ms M pc L st (n, S, R, I) post := by
  intro G p l e R1 s m args below meth c Q Cx hb hQ H locs cells slots ls hw hS hc hs hl
  obtain ⟨hx, hcode, -, -, -, -, hown, hts, -⟩ := id Cx
  exact va_ldcM hx hcode hown (hts _ h1) hw.2.2.2.2.2.1 hd (kk G p l e R1 s m args below meth c Q Cx hb hQ H locs cells slots ls hw hS hc hs hl)
theorem wp_acmpeq_s {x : Nat} {off : Int} {tgt : Nat} (hd : decode M.2.1 pc = .ok (.if_acmp .eq off, 3)) (ht : (pc : Int) + off = (tgt : Int)) (kk : wp fr lo mc ms M tgt L st (n, S, R, I) post) : wp fr lo mc ms M pc L (.ref x :: .ref x :: st) (n, S, R, I) post := by
  intro G p l e R1 s m args below meth c Q Cx hb hQ H locs cells slots ls hw hS hc hs hl
  exact lv_acmp_eq (rx := some (ab_R G x)) (ry := some (ab_R G x)) Cx.1 Cx.2.1 hd ht (fun _ => kk G p l e R1 s m args below meth c Q Cx hb hQ H locs cells slots ls hw hS hc hs hl) (fun h => absurd rfl h)
theorem wp_acmpeq_d {x y : Nat} {off : Int} {tgt : Nat} (hd : decode M.2.1 pc = .ok (.if_acmp .eq off, 3)) (ht : (pc : Int) + off = (tgt : Int)) (hx : 3 ≤ x) (hy : y < 3) (kk : wp fr lo mc ms M (pc + 3) L st (n, S, R, I) post) : wp fr lo mc ms M pc L (.ref y :: .ref x :: st) (n, S, R, I) post := by
  intro G p l e R1 s m args below meth c Q Cx hb hQ H locs cells slots ls hw hS hc hs hl
  refine lv_acmp_eq (rx := some (ab_R G x)) (ry := some (ab_R G y)) Cx.1 Cx.2.1 hd ht (fun h => ?_) (fun _ => kk G p l e R1 s m args below meth c Q Cx hb hQ H locs cells slots ls hw hS hc hs hl)
  have h2 := Option.some.inj h
  have h3 := hw.2.2.1 y hy
  rw [ab_R_big G hx, show ab_R G y = ab_L G y by simp [ab_R, hy]] at h2
  omega
theorem wp_acmpne_s {x : Nat} {off : Int} {tgt : Nat} (hd : decode M.2.1 pc = .ok (.if_acmp .ne off, 3)) (ht : (pc : Int) + off = (tgt : Int)) (kk : wp fr lo mc ms M (pc + 3) L st (n, S, R, I) post) : wp fr lo mc ms M pc L (.ref x :: .ref x :: st) (n, S, R, I) post := by
  intro G p l e R1 s m args below meth c Q Cx hb hQ H locs cells slots ls hw hS hc hs hl
  exact lv_acmp_ne (rx := some (ab_R G x)) (ry := some (ab_R G x)) Cx.1 Cx.2.1 hd ht (fun h => absurd rfl h) (fun _ => kk G p l e R1 s m args below meth c Q Cx hb hQ H locs cells slots ls hw hS hc hs hl)
theorem ab_recv {G : ab_G} {U : State} {H : Heap} (hw : ab_w G (n, S, R, I) U H) (hr : ab_ok n S r ci) (hcl : vwCl[ci]? = some (C, T, N)) (h9 : ci < 9) : ∃ cell : Cell, H[ab_R G r]? = some cell ∧ cell.vm.isStatics = false ∧ U.vm.findClass C = some cell.cls := by
  have he := ab_W_get G (S := S) (R := R) (I := I) hr.1 hr.2.1
  rw [ab_E_obj hr.2.2 h9] at he
  exact va_recv hw.2.1 hw.1.2.2.1 hcl he
theorem wp_cast (hd : decode M.2.1 pc = .ok (.checkcast idx, 3)) (hK : ab_K ci C T N) (h1 : Cond.classLink M.1.cls idx C ∈ lw_g) (hr : ab_ok n S r ci) (kk : wp fr lo mc ms M (pc + 3) L (.ref r :: st) (n, S, R, I) post) : wp fr lo mc ms M pc L (.ref r :: st) (n, S, R, I) post := by
  intro G p l e R1 s m args below meth c Q Cx hb hQ H locs cells slots ls hw hS hc hs hl
  obtain ⟨hx, hcode, -, -, -, -, hown, hts, -⟩ := id Cx
  exact va_castS hx hcode hown (hts _ h1) (hw.2.1.1 ci _ hK.1).2 (ab_recv hw hr hK.1 hK.2.2.2.2.2) hd (kk G p l e R1 s m args below meth c Q Cx hb hQ H locs cells slots ls hw hS hc hs hl)
theorem ab_stw {G : ab_G} (st : List Value) : ((st.map (ab_V G)).map fun v => v.category).sum = (st.map fun v => v.category).sum := by
  rw [List.map_map]
  congr 1
  apply List.map_congr_left
  intro v _
  exact ab_V_cat G v
theorem wp_objInit (hd : decode M.2.1 pc = .ok (.invokespecial idx, 3)) (h1 : Cond.methodLink M.1.cls idx Lib.objectInit ∈ lw_g) (h2 : Cond.instanceMethod Lib.objectInit ∈ lw_g) (h3 : Cond.code Lib.objectInit ⟨#[0xb1]⟩ 1 none ∈ lw_g) (hf : 1 ≤ fr) (hlo : (st.map fun v => v.category).sum + 12 ≤ lo) (kk : wp fr lo mc ms M (pc + 3) L st (n, S, R, I) post) : wp fr lo mc ms M pc L (.ref r :: st) (n, S, R, I) post := by
  intro G p l e R1 s m args below meth c Q Cx hb hQ H locs cells slots ls hw hS hc hs hl
  obtain ⟨hx, hcode, hml, -, -, -, hown, hts, hfr, hloc⟩ := id Cx
  refine W.objInit hx hcode hown (hts _ h1) (hts _ h2) (hts _ h3) rfl (by rw [hml]; exact hl.1) rfl hd (by omega) ?_ (kk G p l e R1 s m args below meth c Q Cx hb hQ H locs cells slots ls hw hS hc hs hl)
  show 2 * 0 + _ + 12 ≤ _
  rw [ab_stw]
  omega
theorem wp_getC (hd : decode M.2.1 pc = .ok (.invokevirtual idx, 3)) (hr : ab_ok n S r 12) (h1 : Cond.methodLink M.1.cls idx ⟨"java/lang/Object", "getClass", "()Ljava/lang/Class;"⟩ ∈ lw_g)
    (h2 : Cond.selects "[Ljava/lang/Object;" ⟨"java/lang/Object", "getClass", "()Ljava/lang/Class;"⟩ ⟨"java/lang/Object", "getClass", "()Ljava/lang/Class;"⟩ ∈ lw_g) (h3 : Cond.instanceMethod ⟨"java/lang/Object", "getClass", "()Ljava/lang/Class;"⟩ ∈ lw_g) (h4 : Cond.native ⟨"java/lang/Object", "getClass", "()Ljava/lang/Class;"⟩ ∈ lw_g)
    (hf : 1 ≤ fr) (hlo : (st.map fun v => v.category).sum + 14 ≤ lo) (kk : wp fr lo mc ms M (pc + 3) L (.ref 1 :: st) (n, S, R, I) post) : wp fr lo mc ms M pc L (.ref r :: st) (n, S, R, I) post := by
  intro G p l e R1 s m args below meth c Q Cx hb hQ H locs cells slots ls hw hS hc hs hl
  obtain ⟨hx, hcode, hml, -, -, -, hown, hts, hfr, hloc⟩ := id Cx
  have he := ab_W_get G (S := S) (R := R) (I := I) hr.1 hr.2.1
  rw [ab_E_ref hr.2.2 (by decide) (by decide)] at he
  refine va_getC (C := "[Ljava/lang/Object;") hx hcode (by rw [hml]; exact hl.1.symm) hown (hts _ h1) (va_Dc.use hw.2.2.2.2.2.2.2.2.2) (hts _ h2) (hts _ h3) (hts _ h4) hw.2.2.2.2.2.1 ⟨_, hw.1.2.2.1 (r - 3) _ he, rfl, va_nmO (hw.2.1.2 3 _ rfl).2 (by decide +kernel)⟩ (by omega) ?_ hd (kk G p l e R1 s m args below meth c Q Cx hb hQ H locs cells slots ls hw hS hc hs hl)
  rw [ab_stw]
  omega
end AB3
end
section
/-! CALLS -/
def ab_Q (G : ab_G) (post : ab_Po) : Array Value → State → Outcome → State → Prop := fun _ s oc t => ∃ (v : Option Value) (h : ab_M), oc = .returned (v.map (ab_V G)) ∧ post v h ∧ ab_v G h t t.heap ∧ va_F (ab_N G) s t
/-- a method that can be called: its words are in the tables -/
def ab_MK (K : ab_MT) (a : Nat) : Prop := Cond.code K.1 K.2.1 K.2.2.1 K.2.2.2 ∈ lw_g ∧ Cond.initialized K.1.cls ∈ lw_g ∧ plainName K.1.cls = true ∧ K.1.cls ≠ "java/lang/invoke/MethodHandle" ∧ K.1.cls ≠ "java/lang/invoke/VarHandle" ∧ (parseMethodDescriptor K.1.desc).map (fun d => d.parameters.length) = some a
theorem ab_args (G : ab_G) : ∀ (as : List Value) (i : Nat), lv_args i (as.map (ab_V G)) = (lv_args i as).map (fun q => (q.1, ab_V G q.2))
  | [], _ => rfl
  | v :: t, i => by
    show (i, ab_V G v) :: lv_args (if (ab_V G v).category = 2 then i + 2 else i + 1) (t.map (ab_V G)) = _
    rw [ab_V_cat, ab_args G t]
    rfl
theorem ab_args_lk (G : ab_G) {ls : Array Slot} {nL : Nat} {as : List Value} (h : lv_has ls nL (lv_args 0 (as.map (ab_V G)))) : ab_l G ls nL (lv_args 0 as) := by
  rw [ab_args] at h
  exact ⟨h.1, h.2.1, fun i v hv => h.2.2 (i, ab_V G v) (List.mem_map.mpr ⟨(i, v), ab_lk_mem hv, rfl⟩)⟩
/-- the contract of a method at one heap and one list of arguments -/
theorem ab_met {K : ab_MT} {a fr lo mc ms : Nat} {h : ab_M} {as : List Value} {post : ab_Po} (hK : ab_MK K a) (hsz : (lg_sl as).length ≤ K.2.2.1) (kk : wp fr lo mc ms K 0 (lv_args 0 as) [] h post) (l : Launch) (G : ab_G) :
    Met l K.1 (Cond.code K.1 K.2.1 K.2.2.1 K.2.2.2 :: lw_g) { frames := fr, cells := mc, slots := ms, locals := lo } (va_Pc (as.map (ab_V G)) (fun U => ab_w G h U U.heap)) (ab_Q G post) mc ms (ab_N G) := by
  refine Met.ofW (cc := K.2.1) (maxL := K.2.2.1) (ret := K.2.2.2) hK.2.2.1 rfl ?_
  intro p e s m args below meth c s₁ B hml hv
  obtain ⟨rfl, hw⟩ := hv
  have hts := atoms_spec (ws := Cond.code K.1 K.2.1 K.2.2.1 K.2.2.2 :: lw_g) B.pre
  have hnm := (name_of_methodNamed B.named B.method).1
  have hlk := B.notSynchronized
  have C : ab_C fr lo K p { frames := fr, cells := mc, slots := ms, locals := lo } s m (as.map (ab_V G)).toArray meth c := ⟨B.exec, B.bytes, hml, B.returns, hlk, hnm, findClass_of_methodNamed B.named, fun w hw => hts w (List.mem_cons_of_mem _ hw), rfl, rfl⟩
  have hbs : ab_B G ≤ s.heap.size := by have := hw.1.2.1; omega
  have hslen : (lg_sl (as.map (ab_V G))).length = (lg_sl as).length := by
    clear kk hw hts C B hsz
    induction as with
    | nil => rfl
    | cons v t ih =>
      cases v <;> simp_all [lg_sl, ab_V, Value.category]
  have hl := lv_entry (as.map (ab_V G)) (n := K.2.2.1) (by rw [hslen]; exact hsz)
  rw [lg_entry_eq]
  refine kk G p l e _ s m _ below meth c _ C hbs ?_ s.heap [] 0 0 _ hw va_S.rf (by show 0 + mc ≤ mc; omega) (by show 0 + ms ≤ ms; omega) (ab_args_lk G hl)
  intro v h' H locs cells slots pc ls hp hrt hri hw' hS hc hs
  have fin : ∀ t : State, t.heap = H → s.WarmedH t.vm → ab_Q G post (as.map (ab_V G)).toArray s (.returned (v.map (ab_V G))) t := fun t ht hW => ⟨v, h', rfl, hp, by rw [ht]; exact hw'.1.warm hW.alike, hS.F ht⟩
  refine W.widen (k := mc) (n := ms) hc hs ?_
  have hret : meth.sig.returnType = K.2.2.2 := B.returns
  cases hk : K.2.2.2 with
  | none =>
    rw [hk] at hrt hret
    match v, hrt with
    | none, _ => exact W.vret B.exec B.bytes hret fin hS.2.2 hri hlk
  | some ty =>
    rw [hk] at hrt hret
    match ty, v, hrt with
    | .int, some (.int x), _ => exact W.iret B.exec B.bytes hret fin hS.2.2 hri hlk
    | .boolean, some (.int x), hx =>
      refine W.zret B.exec B.bytes hret ?_ fin hS.2.2 hri hlk
      rcases hx with rfl | rfl <;> rfl
    | .object nm, some (.ref x), _ => exact W.aret B.exec B.bytes hret (Or.inl ⟨nm, rfl⟩) (Or.inr ⟨_, rfl⟩) fin hS.2.2 hri hlk
    | .object nm, some .null, _ => exact W.aret B.exec B.bytes hret (Or.inl ⟨nm, rfl⟩) (Or.inl rfl) fin hS.2.2 hri hlk
    | .array t, some (.ref x), _ => exact W.aret B.exec B.bytes hret (Or.inr ⟨t, rfl⟩) (Or.inr ⟨_, rfl⟩) fin hS.2.2 hri hlk
theorem ab_after {p : Program} {l : Launch} {e : Env} {R1 : Room} {s : State} {m : MethodId} {args : Array Value} {below : List Frame} {meth : Method} {c : Code} {Q : State → Prop} {G : ab_G} {H : Heap} {locs : List Loc} {cells slots mc ms pc : Nat} {ls : Array Slot} {rest st0 : List Value} {a : Array Value} {post : ab_Po}
    (hr : va_Run p l e R1 s m args below meth c H locs cells slots mc ms (F0 m pc ls st0) rest (ab_Q G post a) (ab_N G)) (hS : va_S (ab_N G) s.heap H locs) (ht : ab_t G s H)
    (kk : ∀ (v : Option Value) (h : ab_M) (H1 : Heap) (locs1 : List Loc), post v h → ab_w G h s H1 → va_S (ab_N G) s.heap H1 locs1 → W p l e R1 s m args below meth c H1 locs1 (cells + mc) (slots + ms) Q (F0 m (pc + 3) ls ((v.map (ab_V G)).toList ++ rest))) : W p l e R1 s m args below meth c H locs cells slots Q (F0 m pc ls st0) := by
  intro T hT X
  obtain ⟨v, st₀, t, T', L, h0, X', hL, e1, e2, ⟨v', h, hv, hp, hvv, hz, hk⟩, st⟩ := hr T hT X
  cases hv
  rw [h0] at hz hk
  have hal : s.vm.Alike t.vm := by rw [← e2]; exact X'.warmed.alike
  have hvv' : ab_v G h s T'.heap := by rw [e1]; exact hvv.warm hal.symm
  obtain ⟨t2, a1, b1⟩ := kk v' h T'.heap (locs ++ L) hp ⟨hvv', ht.kept (fun q h1 h2 => by rw [e1]; exact hk q h1 h2)⟩
    ⟨Nat.le_trans hS.1 (by rw [e1]; exact hz), fun q h1 h2 => by rw [e1, hk q (Nat.lt_of_lt_of_le h1 hS.1) h2]; exact hS.2.1 q h1 h2, fun q hq => by
      rcases List.mem_append.mp hq with h | h
      · exact hS.2.2 q h
      · exact hL q h⟩ T' rfl X'
  exact ⟨t2, st t2 a1, b1⟩
section AB4
variable {fr lo mc ms : Nat} {M : ab_MT} {pc : Nat} {L : List (Nat × Value)} {st : List Value} {n : Nat} {S : ab_SH} {R : ab_RR} {I : ab_II} {post : ab_Po} {idx ci k r : Nat} {C : String} {T : u_T} {N : Nat}
variable {K : ab_MT} {a fr' lo' mc' ms' : Nat} {as : List Value} {post' : ab_Po}
theorem ab_codeIn (hK : ab_MK K a) : GoodIn lw_g (Cond.code K.1 K.2.1 K.2.2.1 K.2.2.2 :: lw_g) := fun w h => by
  rcases List.mem_cons.mp h with rfl | h
  · exact lw_g_good _ hK.1
  · exact lw_g_good _ h
theorem ab_vk (G : ab_G) (v : Option Value) (st : List Value) : (v.map (ab_V G)).toList ++ st.map (ab_V G) = (v.toList ++ st).map (ab_V G) := by cases v <;> rfl
theorem ab_pre {G : ab_G} {h : ab_M} {as : List Value} {s : State} {H : Heap} (hw : ab_w G h s H) : PreS s H (va_Pc (as.map (ab_V G)) (fun U => ab_w G h U U.heap)) (as.map (ab_V G)) :=
  ⟨fun a U g mk q => ⟨q.1, q.2.blind⟩, fun U hU hW => ⟨rfl, by show ab_w G h U U.heap; rw [hU]; exact ⟨hw.1.warm hW.alike, hw.2.warm hW⟩⟩⟩
/-- invokevirtual -/
theorem wp_callV (kk' : wp fr' lo' mc' ms' K 0 (lv_args 0 (.ref r :: as)) [] (n, S, R, I) post') (hd : decode M.2.1 pc = .ok (.invokevirtual idx, 3)) (hK : ab_MK K a) (hC : ab_K ci C T N) (hy : K.1.cls = C) (hl1 : Cond.methodLink M.1.cls idx K.1 ∈ lw_g) (hl2 : Cond.instanceMethod K.1 ∈ lw_g) (hl3 : Cond.selects K.1.cls K.1 K.1 ∈ lw_g)
    (hsz : (lg_sl (.ref r :: as)).length ≤ K.2.2.1) (ha : as.length = a) (hr : ab_ok n S r ci) (hro : fr' + 1 ≤ fr ∧ 8 + (K.2.2.1 + 11) + lo' ≤ lo ∧ mc' ≤ mc ∧ ms' ≤ ms) (hst : (st.map fun v => v.category).sum ≤ 8)
    {st0 : List Value} (he : st0 = as.reverse ++ .ref r :: st)
    (kk : ∀ v h, post' v h → wp fr lo (mc - mc') (ms - ms') M (pc + 3) L (v.toList ++ st) h post) : wp fr lo mc ms M pc L st0 (n, S, R, I) post := by
  intro G p l e R1 s m args below meth c Q Cx hb hQ H locs cells slots ls hw hS hc hs hl
  obtain ⟨hx, hcode, hml, -, -, -, hown, hts, hfr, hlo⟩ := id Cx
  have cw : CallW R1 s args M.1.cls K.1.cls idx K.1 K.2.1 K.2.2.1 K.2.2.2 (Cond.code K.1 K.2.1 K.2.2.1 K.2.2.2 :: lw_g) { frames := fr', cells := mc', slots := ms', locals := lo' } mc' ms' a :=
    ⟨callB_of a hts (ab_codeIn hK) rfl rfl rfl (hts _ hK.2.1) (hts _ hl1) ⟨hK.2.2.2.1, hK.2.2.2.2.1, hK.2.2.2.2.2⟩ ⟨by show fr' + 1 ≤ _; omega, by show _ + lo' ≤ _; omega⟩, hts _ hl2, hts _ hl3⟩
  have hp := ab_pre (as := .ref r :: as) hw
  have hpv : PreV s H K.1.cls (ab_R G r) (va_Pc ((.ref r :: as).map (ab_V G)) (fun U => ab_w G (n, S, R, I) U U.heap)) (as.map (ab_V G)) := ⟨hp.1, by rw [hy]; exact ab_recv hw hr hC.1 hC.2.2.2.2.2, hp.2⟩
  subst he
  have hrun := va_runV (g := F0 m pc ls ((as.reverse ++ .ref r :: st).map (ab_V G))) (locs := locs) (cells := cells) (slots := slots) (e := e) (below := below) (meth := meth) (rest := st.map (ab_V G)) ⟨hx, hcode, hml, hown, hts⟩ (ab_met hK hsz kk' l G) cw hpv rfl (by simpa using ha) hl.1 (by simp; rfl) (by rw [ab_stw]; simpa [JFrame.monitorRoom] using hst) hd ⟨by omega, by omega⟩
  refine ab_after hrun hS hw.2 (fun v h H1 locs1 hp1 hw1 hS1 => ?_)
  rw [ab_vk]
  exact kk v h hp1 G p l e R1 s m args below meth c Q Cx hb hQ H1 locs1 _ _ ls hw1 hS1 (by omega) (by omega) hl
/-- invokespecial of a constructor -/
theorem wp_callI (kk' : wp fr' lo' mc' ms' K 0 (lv_args 0 (.ref r :: as)) [] (n, S, R, I) post') (hd : decode M.2.1 pc = .ok (.invokespecial idx, 3)) (hK : ab_MK K a) (hy : K.1.name = "<init>") (hret : K.2.2.2 = none) (hl1 : Cond.methodLink M.1.cls idx K.1 ∈ lw_g) (hl2 : Cond.instanceMethod K.1 ∈ lw_g)
    (hsz : (lg_sl (.ref r :: as)).length ≤ K.2.2.1) (ha : as.length = a) (hro : fr' + 1 ≤ fr ∧ 8 + (K.2.2.1 + 11) + lo' ≤ lo ∧ mc' ≤ mc ∧ ms' ≤ ms) (hst : (st.map fun v => v.category).sum ≤ 8)
    {st0 : List Value} (he : st0 = as.reverse ++ .ref r :: st)
    (kk : ∀ v h, post' v h → wp fr lo (mc - mc') (ms - ms') M (pc + 3) L (v.toList ++ st) h post) : wp fr lo mc ms M pc L st0 (n, S, R, I) post := by
  intro G p l e R1 s m args below meth c Q Cx hb hQ H locs cells slots ls hw hS hc hs hl
  obtain ⟨hx, hcode, hml, -, -, -, hown, hts, hfr, hlo⟩ := id Cx
  have hG := ab_codeIn hK
  have hmet := ab_met hK hsz kk' l G
  have hK1 := hK.1
  rw [hret] at hG hmet hK1
  have cw : CallB R1 s args M.1.cls idx K.1 K.2.1 K.2.2.1 none (Cond.code K.1 K.2.1 K.2.2.1 none :: lw_g) { frames := fr', cells := mc', slots := ms', locals := lo' } mc' ms' a ∧ K.1.name = "<init>" ∧ (Cond.instanceMethod K.1).before args s = true :=
    ⟨callB_of a hts hG rfl rfl rfl (hts _ hK.2.1) (hts _ hl1) ⟨hK.2.2.2.1, hK.2.2.2.2.1, hK.2.2.2.2.2⟩ ⟨by show fr' + 1 ≤ _; omega, by show _ + lo' ≤ _; omega⟩, hy, hts _ hl2⟩
  have hp := ab_pre (as := .ref r :: as) hw
  subst he
  have hrun := va_runI (g := F0 m pc ls ((as.reverse ++ .ref r :: st).map (ab_V G))) (b := ab_R G r) (As := as.map (ab_V G)) (locs := locs) (cells := cells) (slots := slots) (e := e) (below := below) (meth := meth) (rest := st.map (ab_V G)) ⟨hx, hcode, hml, hown, hts⟩ hmet cw hp rfl (by simpa using ha) hl.1 (by simp; rfl) (by rw [ab_stw]; simpa [JFrame.monitorRoom] using hst) hd ⟨by omega, by omega⟩
  refine ab_after hrun hS hw.2 (fun v h H1 locs1 hp1 hw1 hS1 => ?_)
  rw [ab_vk]
  exact kk v h hp1 G p l e R1 s m args below meth c Q Cx hb hQ H1 locs1 _ _ ls hw1 hS1 (by omega) (by omega) hl
/-- invokestatic -/
theorem wp_callS (kk' : wp fr' lo' mc' ms' K 0 (lv_args 0 as) [] (n, S, R, I) post') (hd : decode M.2.1 pc = .ok (.invokestatic idx, 3)) (hK : ab_MK K a) (hl1 : Cond.methodLink M.1.cls idx K.1 ∈ lw_g) (hl2 : Cond.static K.1 ∈ lw_g)
    (hsz : (lg_sl as).length ≤ K.2.2.1) (ha : as.length = a) (hro : fr' + 1 ≤ fr ∧ 8 + (K.2.2.1 + 11) + lo' ≤ lo ∧ mc' ≤ mc ∧ ms' ≤ ms) (hst : (st.map fun v => v.category).sum ≤ 8)
    {st0 : List Value} (he : st0 = as.reverse ++ st)
    (kk : ∀ v h, post' v h → wp fr lo (mc - mc') (ms - ms') M (pc + 3) L (v.toList ++ st) h post) : wp fr lo mc ms M pc L st0 (n, S, R, I) post := by
  intro G p l e R1 s m args below meth c Q Cx hb hQ H locs cells slots ls hw hS hc hs hl
  obtain ⟨hx, hcode, hml, -, -, -, hown, hts, hfr, hlo⟩ := id Cx
  have cw : CallB R1 s args M.1.cls idx K.1 K.2.1 K.2.2.1 K.2.2.2 (Cond.code K.1 K.2.1 K.2.2.1 K.2.2.2 :: lw_g) { frames := fr', cells := mc', slots := ms', locals := lo' } mc' ms' a ∧ (Cond.static K.1).before args s = true :=
    ⟨callB_of a hts (ab_codeIn hK) rfl rfl rfl (hts _ hK.2.1) (hts _ hl1) ⟨hK.2.2.2.1, hK.2.2.2.2.1, hK.2.2.2.2.2⟩ ⟨by show fr' + 1 ≤ _; omega, by show _ + lo' ≤ _; omega⟩, hts _ hl2⟩
  have hp := ab_pre (as := as) hw
  subst he
  have hrun := va_runS (g := F0 m pc ls ((as.reverse ++ st).map (ab_V G))) (As := as.map (ab_V G)) (locs := locs) (cells := cells) (slots := slots) (e := e) (below := below) (meth := meth) (rest := st.map (ab_V G)) ⟨hx, hcode, hml, hown, hts⟩ (ab_met hK hsz kk' l G) cw hp rfl (by simpa using ha) hl.1 (by simp) (by rw [ab_stw]; simpa [JFrame.monitorRoom] using hst) hd ⟨by omega, by omega⟩
  refine ab_after hrun hS hw.2 (fun v h H1 locs1 hp1 hw1 hS1 => ?_)
  rw [ab_vk]
  exact kk v h hp1 G p l e R1 s m args below meth c Q Cx hb hQ H1 locs1 _ _ ls hw1 hS1 (by omega) (by omega) hl
/-- System.arraycopy between rows of files -/
theorem wp_copy {r0 r1 : Nat} {sp dp cn : Int32} (hd : decode M.2.1 pc = .ok (.invokestatic idx, 3)) (h1 : Cond.methodLink M.1.cls idx arraycopyName ∈ lw_g) (h2 : Cond.native arraycopyName ∈ lw_g) (h3 : Cond.static arraycopyName ∈ lw_g) (h4 : Cond.initialized "java/lang/System" ∈ lw_g)
    (hr0 : ab_ok n S r0 12) (hr1 : ab_ok n S r1 12) (g1 : ¬ sp < 0) (g2 : ¬ dp < 0) (g3 : ¬ cn < 0) (g4 : sp.toNatClampNeg + cn.toNatClampNeg ≤ (S r0).2) (g5 : dp.toNatClampNeg + cn.toNatClampNeg ≤ (S r1).2)
    (hel : ∀ i : Nat, i < cn.toNatClampNeg → ∀ y, R r0 (sp.toNatClampNeg + i) = some y → ab_ok n S y 6) (hf : 1 ≤ fr) (hlo : (st.map fun v => v.category).sum + (nativeFrameWords "java/lang/System" "arraycopy" 5 + 11) ≤ lo)
    (kk : wp fr lo mc ms M (pc + 3) L st (n, S, va_up R r1 (va_cpy (R r0) (R r1) sp.toNatClampNeg dp.toNatClampNeg cn.toNatClampNeg), I) post) : wp fr lo mc ms M pc L (.int cn :: .int dp :: .ref r1 :: .int sp :: .ref r0 :: st) (n, S, R, I) post := by
  intro G p l e R1 s m args below meth c Q Cx hb hQ H locs cells slots ls hw hS hc hs hl
  obtain ⟨hx, hcode, hml, -, -, -, hown, hts, hfr, hloc⟩ := id Cx
  have nn : ∀ z : Int32, ¬ z < 0 → z.toInt = (z.toNatClampNeg : Int) := by
    intro z hz
    have hz0 : (0 : Int) ≤ z.toInt := by
      have := Int32.not_lt.mp hz
      simpa using Int32.le_iff_toInt_le.mp this
    show z.toInt = ((z.toInt.toNat : Nat) : Int)
    omega
  have he0 := ab_W_get G (S := S) (R := R) (I := I) hr0.1 hr0.2.1
  rw [ab_E_ref hr0.2.2 (by decide) (by decide)] at he0
  have he1 := ab_W_get G (S := S) (R := R) (I := I) hr1.1 hr1.2.1
  rw [ab_E_ref hr1.2.2 (by decide) (by decide)] at he1
  intro T hT X
  have hc0 : H[ab_R G r0]? = some (vp_cell (ab_A G 12) ((S r0).2, .inr (.inr (.inr (.inr (fun i => (R r0 i).map (ab_R G))))))) := hw.1.2.2.1 _ _ he0
  have hc1 : H[ab_R G r1]? = some (vp_cell (ab_A G 12) ((S r1).2, .inr (.inr (.inr (.inr (fun i => (R r1 i).map (ab_R G))))))) := hw.1.2.2.1 _ _ he1
  obtain ⟨hArr, kA, comp, q1, q2, q3, -⟩ := hw.2.1.2 3 _ rfl
  obtain ⟨kE, hkE, -⟩ := Vm.findClass_spec q3
  obtain ⟨vm', X', step⟩ := X.arraycopy hx hown (hts _ h1) (hts _ h2) (hts _ h3) (hts _ h4) (src := ab_R G r0) (dst := ab_R G r1) (cs := vp_cell (ab_A G 12) ((S r0).2, .inr (.inr (.inr (.inr (fun i => (R r0 i).map (ab_R G))))))) (cd := vp_cell (ab_A G 12) ((S r1).2, .inr (.inr (.inr (.inr (fun i => (R r1 i).map (ab_R G))))))) (srcPos := sp) (destPos := dp) (n := cn) (by rw [hT]; exact hc0) (by rw [hT]; exact hc1)
    (fun _ h => by cases h) (fun _ h => by cases h) (fun h => by cases h) (fun h => by cases h) q1 q1 q2 q2 rfl g1 g2 g3
    (by rw [nn sp g1, nn cn g3]; show ¬ _ > ((arrV _ (S r0).2 _).slots.size : Int); rw [arrV_size]; omega)
    (by rw [nn dp g2, nn cn g3]; show ¬ _ > ((arrV _ (S r1).2 _).slots.size : Int); rw [arrV_size]; omega)
    (fun vm₁ hal i hi => by
      have e : (vp_cell (ab_A G 12) ((S r0).2, .inr (.inr (.inr (.inr (fun i => (R r0 i).map (ab_R G))))))).slots.getD (sp.toNatClampNeg + i) .null = va_rf ((R r0 (sp.toNatClampNeg + i)).map (ab_R G)) := by
        show (arrV _ (S r0).2 _).slots.getD _ _ = _
        rw [Array.getD_eq_getD_getElem?, arrV_read _ _ (by omega)]
        rfl
      rw [e]
      cases hy : R r0 (sp.toNatClampNeg + i) with
      | none => exact ⟨rfl, trivial⟩
      | some y =>
        have hoy := hel i hi y hy
        have hv := ab_W_get G (S := S) (R := R) (I := I) hoy.1 hoy.2.1
        rw [ab_E_obj hoy.2.2 (by decide)] at hv
        obtain ⟨cellV, v1, v2, v3⟩ := va_recv (ci := 6) hw.2.1 hw.1.2.2.1 rfl hv
        obtain ⟨kC, hkC, -⟩ := Vm.findClass_spec v3
        obtain ⟨c0, t1, f1, f2, f3⟩ := Cond.castable_spec hw.2.2.2.2.2.2.2.2.1
        have v3 : s.vm.findClass "LevelStore$SortedFile" = some cellV.cls := v3
        cases v3.symm.trans f1
        cases q3.symm.trans f2
        obtain ⟨kC', hkC', -⟩ := hal.2.2 _ _ hkC
        obtain ⟨kE', hkE', -⟩ := hal.2.2 _ _ hkE
        refine ⟨rfl, cellV, (show T.heap[ab_R G y]? = some cellV by rw [hT]; exact v1), (fun q h => by rw [h] at v2; cases v2), ⟨kC', hkC'⟩, ?_, ?_⟩
        · exact ⟨kE', hkE'⟩
        · show vm₁.assignable _ _ = true
          rw [hal.assignable]
          exact f3)
    (g := F0 m pc ls (.int cn :: .int dp :: .ref (ab_R G r1) :: .int sp :: .ref (ab_R G r0) :: st.map (ab_V G))) rfl (by rw [hml]; exact hl.1) (rest := st.map (ab_V G)) rfl (by rw [hcode]; exact hd) (by omega) (by show 2 * 0 + _ + _ ≤ _; rw [ab_stw]; omega)
  have e1 : copied (vp_cell (ab_A G 12) ((S r0).2, .inr (.inr (.inr (.inr (fun i => (R r0 i).map (ab_R G))))))) (vp_cell (ab_A G 12) ((S r1).2, .inr (.inr (.inr (.inr (fun i => (R r1 i).map (ab_R G))))))) sp dp cn = vp_cell (ab_A G 12) ((S r1).2, .inr (.inr (.inr (.inr (va_cpy (fun i => (R r0 i).map (ab_R G)) (fun i => (R r1 i).map (ab_R G)) sp.toNatClampNeg dp.toNatClampNeg cn.toNatClampNeg))))) := by
    rw [vp_cell_q, vp_cell_q, vp_cell_q]
    exact va_copied (fun z => va_rf z) (ab_A G 12) (ab_A G 12) _ _ g4
  rw [e1] at X' step
  have e2 : va_cpy (fun i => (R r0 i).map (ab_R G)) (fun i => (R r1 i).map (ab_R G)) sp.toNatClampNeg dp.toNatClampNeg cn.toNatClampNeg = fun i => (va_cpy (R r0) (R r1) sp.toNatClampNeg dp.toNatClampNeg cn.toNatClampNeg i).map (ab_R G) := by
    funext i
    unfold va_cpy
    split <;> rfl
  rw [e2] at X' step
  generalize hcell : vp_cell (ab_A G 12) ((S r1).2, .inr (.inr (.inr (.inr (fun i => (va_cpy (R r0) (R r1) sp.toNatClampNeg dp.toNatClampNeg cn.toNatClampNeg i).map (ab_R G)))))) = nc at X' step
  have hll : ab_R G r1 < H.size := (Array.getElem?_eq_some_iff.mp hc1).1
  have hheap : ((T.setVm vm').setCell (ab_R G r1) nc).heap = H.setIfInBounds (ab_R G r1) nc := by rw [← hT]; rfl
  have oq : ∀ q : Nat, q ≠ ab_R G r1 → (H.setIfInBounds (ab_R G r1) nc)[q]? = H[q]? := fun q hq => by simp [Array.getElem?_setIfInBounds, Ne.symm hq]
  have hw1 : ab_w G (n, S, va_up R r1 (va_cpy (R r0) (R r1) sp.toNatClampNeg dp.toNatClampNeg cn.toNatClampNeg), I) s (H.setIfInBounds (ab_R G r1) nc) := by
    refine ab_w_up hw hr1.1 (by simp) oq ?_ (fun j hj => by simp [va_up, hj]) (fun _ _ => rfl)
    rw [ab_E_ref hr1.2.2 (by decide) (by decide)]
    show (H.setIfInBounds (ab_R G r1) nc)[ab_R G r1]? = some (vp_cell _ _)
    simp only [va_up, if_true]
    rw [hcell]
    simp [Array.getElem?_setIfInBounds, hll]
  obtain ⟨t, a1, b1⟩ := kk G p l e R1 s m args below meth c Q Cx hb hQ _ _ cells slots ls hw1 ⟨by simp; exact hS.1, fun q g1 g2 => by
      rw [oq q (fun e => g2 (by rw [e]; exact ab_R_N G hr1.1))]
      exact hS.2.1 q g1 g2, fun q hq => by
      rcases List.mem_append.mp hq with h | h
      · exact hS.2.2 q h
      · obtain ⟨z, -, hz⟩ := List.mem_map.mp h
        rw [← hz]
        exact ab_R_N G hr1.1⟩ hc hs hl _ hheap X'
  exact ⟨t, step t a1, b1⟩
end AB4
end
section
theorem ab_in0 : ∀ w ∈ u_ws RJx4a65c TJx4a65c 3, w ∈ lw_g := by
  intro w hw
  obtain ⟨k, hk, rfl⟩ := List.mem_map.mp hw
  have hk := List.mem_range.mp hk
  have key : ∀ k, k < 3 → lw_tbl[([136, 132, 134] : List Nat).getD k 0]? = some (u_lay RJx4a65c TJx4a65c k) ∧ goodWord (u_lay RJx4a65c TJx4a65c k) = true := by decide +kernel
  exact lw_g_of (key k hk).1 (key k hk).2
theorem ab_k0 : ab_K 0 RJx4a65c TJx4a65c 3 := ⟨rfl, rfl, ab_in0, tyJx4a65c_ok, nmJx4a65c, by decide⟩
theorem ab_in1 : ∀ w ∈ u_ws RX0 TX0 4, w ∈ lw_g := by
  intro w hw
  obtain ⟨k, hk, rfl⟩ := List.mem_map.mp hw
  have hk := List.mem_range.mp hk
  have key : ∀ k, k < 4 → lw_tbl[([154, 156, 158, 160] : List Nat).getD k 0]? = some (u_lay RX0 TX0 k) ∧ goodWord (u_lay RX0 TX0 k) = true := by decide +kernel
  exact lw_g_of (key k hk).1 (key k hk).2
theorem ab_k1 : ab_K 1 RX0 TX0 4 := ⟨rfl, rfl, ab_in1, tyX0_ok, nmX0, by decide⟩
theorem ab_in2 : ∀ w ∈ u_ws RX1 TX1 1, w ∈ lw_g := by
  intro w hw
  obtain ⟨k, hk, rfl⟩ := List.mem_map.mp hw
  have hk := List.mem_range.mp hk
  have key : ∀ k, k < 1 → lw_tbl[([140] : List Nat).getD k 0]? = some (u_lay RX1 TX1 k) ∧ goodWord (u_lay RX1 TX1 k) = true := by decide +kernel
  exact lw_g_of (key k hk).1 (key k hk).2
theorem ab_k2 : ab_K 2 RX1 TX1 1 := ⟨rfl, rfl, ab_in2, tyX1_ok, nmX1, by decide⟩
theorem ab_in3 : ∀ w ∈ u_ws RX2 TX2 12, w ∈ lw_g := by
  intro w hw
  obtain ⟨k, hk, rfl⟩ := List.mem_map.mp hw
  have hk := List.mem_range.mp hk
  have key : ∀ k, k < 12 → lw_tbl[([215, 217, 219, 221, 223, 225, 227, 229, 231, 233, 235, 237] : List Nat).getD k 0]? = some (u_lay RX2 TX2 k) ∧ goodWord (u_lay RX2 TX2 k) = true := by decide +kernel
  exact lw_g_of (key k hk).1 (key k hk).2
theorem ab_k3 : ab_K 3 RX2 TX2 12 := ⟨rfl, rfl, ab_in3, tyX2_ok, nmX2, by decide⟩
theorem ab_in4 : ∀ w ∈ u_ws RX3 TX3 5, w ∈ lw_g := by
  intro w hw
  obtain ⟨k, hk, rfl⟩ := List.mem_map.mp hw
  have hk := List.mem_range.mp hk
  have key : ∀ k, k < 5 → lw_tbl[([175, 177, 179, 181, 183] : List Nat).getD k 0]? = some (u_lay RX3 TX3 k) ∧ goodWord (u_lay RX3 TX3 k) = true := by decide +kernel
  exact lw_g_of (key k hk).1 (key k hk).2
theorem ab_k4 : ab_K 4 RX3 TX3 5 := ⟨rfl, rfl, ab_in4, tyX3_ok, nmX3, by decide⟩
theorem ab_in5 : ∀ w ∈ u_ws RX4 TX4 4, w ∈ lw_g := by
  intro w hw
  obtain ⟨k, hk, rfl⟩ := List.mem_map.mp hw
  have hk := List.mem_range.mp hk
  have key : ∀ k, k < 4 → lw_tbl[([96, 98, 100, 102] : List Nat).getD k 0]? = some (u_lay RX4 TX4 k) ∧ goodWord (u_lay RX4 TX4 k) = true := by decide +kernel
  exact lw_g_of (key k hk).1 (key k hk).2
theorem ab_k5 : ab_K 5 RX4 TX4 4 := ⟨rfl, rfl, ab_in5, tyX4_ok, nmX4, by decide⟩
theorem ab_in6 : ∀ w ∈ u_ws RX5 TX5 4, w ∈ lw_g := by
  intro w hw
  obtain ⟨k, hk, rfl⟩ := List.mem_map.mp hw
  have hk := List.mem_range.mp hk
  have key : ∀ k, k < 4 → lw_tbl[([692, 694, 696, 698] : List Nat).getD k 0]? = some (u_lay RX5 TX5 k) ∧ goodWord (u_lay RX5 TX5 k) = true := by decide +kernel
  exact lw_g_of (key k hk).1 (key k hk).2
theorem ab_k6 : ab_K 6 RX5 TX5 4 := ⟨rfl, rfl, ab_in6, tyX5_ok, nmX5, by decide⟩
theorem ab_in7 : ∀ w ∈ u_ws RX6 TX6 10, w ∈ lw_g := by
  intro w hw
  obtain ⟨k, hk, rfl⟩ := List.mem_map.mp hw
  have hk := List.mem_range.mp hk
  have key : ∀ k, k < 10 → lw_tbl[([250, 252, 254, 256, 258, 260, 262, 264, 266, 268] : List Nat).getD k 0]? = some (u_lay RX6 TX6 k) ∧ goodWord (u_lay RX6 TX6 k) = true := by decide +kernel
  exact lw_g_of (key k hk).1 (key k hk).2
theorem ab_k7 : ab_K 7 RX6 TX6 10 := ⟨rfl, rfl, ab_in7, tyX6_ok, nmX6, by decide⟩
theorem ab_in8 : ∀ w ∈ u_ws RX7 TX7 41, w ∈ lw_g := by
  intro w hw
  obtain ⟨k, hk, rfl⟩ := List.mem_map.mp hw
  have hk := List.mem_range.mp hk
  have key : ∀ k, k < 41 → lw_tbl[([866, 868, 870, 872, 874, 876, 878, 880, 882, 884, 886, 888, 890, 892, 894, 896, 898, 900, 902, 904, 906, 908, 910, 912, 914, 916, 918, 920, 922, 924, 926, 928, 930, 932, 934, 936, 938, 940, 942, 944, 946] : List Nat).getD k 0]? = some (u_lay RX7 TX7 k) ∧ goodWord (u_lay RX7 TX7 k) = true := by decide +kernel
  exact lw_g_of (key k hk).1 (key k hk).2
theorem ab_k8 : ab_K 8 RX7 TX7 41 := ⟨rfl, rfl, ab_in8, tyX7_ok, nmX7, by decide⟩
theorem ini_LevelStoreLaw : Cond.initialized "LevelStoreLaw" ∈ lw_g := lw_g_of (i := 51) (by decide +kernel) (by decide +kernel)
theorem ini_LevelStore : Cond.initialized "LevelStore" ∈ lw_g := lw_g_of (i := 52) (by decide +kernel) (by decide +kernel)
theorem ini_Row : Cond.initialized "LevelStore$Row" ∈ lw_g := lw_g_of (i := 53) (by decide +kernel) (by decide +kernel)
theorem ini_Math : Cond.initialized "java/lang/Math" ∈ lw_g := lw_g_of (i := 54) (by decide +kernel) (by decide +kernel)
theorem ini_FileRow : Cond.initialized "LevelStore$FileRow" ∈ lw_g := lw_g_of (i := 55) (by decide +kernel) (by decide +kernel)
theorem ini_AbstractCollection : Cond.initialized "java/util/AbstractCollection" ∈ lw_g := lw_g_of (i := 56) (by decide +kernel) (by decide +kernel)
theorem ini_AbstractList : Cond.initialized "java/util/AbstractList" ∈ lw_g := lw_g_of (i := 57) (by decide +kernel) (by decide +kernel)
theorem ini_ArrayList : Cond.initialized "java/util/ArrayList" ∈ lw_g := lw_g_of (i := 58) (by decide +kernel) (by decide +kernel)
theorem ini_Field : Cond.initialized "LevelStore$Field" ∈ lw_g := lw_g_of (i := 59) (by decide +kernel) (by decide +kernel)
theorem ini_Reading : Cond.initialized "LevelStore$Reading" ∈ lw_g := lw_g_of (i := 60) (by decide +kernel) (by decide +kernel)
theorem ini_Job : Cond.initialized "LevelStore$Job" ∈ lw_g := lw_g_of (i := 61) (by decide +kernel) (by decide +kernel)
theorem ini_LevelStoreModel : Cond.initialized "LevelStoreModel" ∈ lw_g := lw_g_of (i := 62) (by decide +kernel) (by decide +kernel)
theorem ini_Objects : Cond.initialized "java/util/Objects" ∈ lw_g := lw_g_of (i := 63) (by decide +kernel) (by decide +kernel)
theorem ini_Preconditions : Cond.initialized "jdk/internal/util/Preconditions" ∈ lw_g := lw_g_of (i := 64) (by decide +kernel) (by decide +kernel)
theorem ini_System : Cond.initialized "java/lang/System" ∈ lw_g := lw_g_of (i := 65) (by decide +kernel) (by decide +kernel)
theorem ini_ArraysSupport : Cond.initialized "jdk/internal/util/ArraysSupport" ∈ lw_g := lw_g_of (i := 66) (by decide +kernel) (by decide +kernel)
theorem ini_Arrays : Cond.initialized "java/util/Arrays" ∈ lw_g := lw_g_of (i := 67) (by decide +kernel) (by decide +kernel)
theorem ini_SortedFile : Cond.initialized "LevelStore$SortedFile" ∈ lw_g := lw_g_of (i := 68) (by decide +kernel) (by decide +kernel)
theorem cl_LevelStoreLaw_7 : Cond.classLink "LevelStoreLaw" 7 "LevelStore" ∈ lw_g := lw_g_of (i := 69) (by decide +kernel) (by decide +kernel)
theorem in_LevelStore : Cond.instantiable "LevelStore" 10 ∈ lw_g := lw_g_of (i := 70) (by decide +kernel) (by decide +kernel)
theorem ml_LevelStoreLaw_9 : Cond.methodLink "LevelStoreLaw" 9 yX6_init ∈ lw_g := lw_g_of (i := 71) (by decide +kernel) (by decide +kernel)
theorem im_X6_init : Cond.instanceMethod yX6_init ∈ lw_g := lw_g_of (i := 72) (by decide +kernel) (by decide +kernel)
theorem ml_LevelStore_3 : Cond.methodLink "LevelStore" 3 Lib.objectInit ∈ lw_g := lw_g_of (i := 74) (by decide +kernel) (by decide +kernel)
theorem im_objInit : Cond.instanceMethod Lib.objectInit ∈ lw_g := lw_g_of (i := 75) (by decide +kernel) (by decide +kernel)
theorem cl_LevelStore_9 : Cond.classLink "LevelStore" 9 "LevelStore$Row" ∈ lw_g := lw_g_of (i := 77) (by decide +kernel) (by decide +kernel)
theorem in_Row : Cond.instantiable "LevelStore$Row" 4 ∈ lw_g := lw_g_of (i := 78) (by decide +kernel) (by decide +kernel)
theorem ml_LevelStore_11 : Cond.methodLink "LevelStore" 11 yX4_init ∈ lw_g := lw_g_of (i := 79) (by decide +kernel) (by decide +kernel)
theorem im_X4_init : Cond.instanceMethod yX4_init ∈ lw_g := lw_g_of (i := 80) (by decide +kernel) (by decide +kernel)
theorem ml_Row_3 : Cond.methodLink "LevelStore$Row" 3 Lib.objectInit ∈ lw_g := lw_g_of (i := 82) (by decide +kernel) (by decide +kernel)
theorem ml_Row_9 : Cond.methodLink "LevelStore$Row" 9 yJ9_max_7cf53 ∈ lw_g := lw_g_of (i := 83) (by decide +kernel) (by decide +kernel)
theorem sm_J9_max_7cf53 : Cond.static yJ9_max_7cf53 ∈ lw_g := lw_g_of (i := 84) (by decide +kernel) (by decide +kernel)
theorem fl_Row_15 : ab_FL "LevelStore$Row" 15 5 0 RX4 TX4 4 := ⟨ab_k5, by decide, "LevelStore$Row", lw_g_of (i := 86) (by decide +kernel) (by decide +kernel), Or.inl rfl⟩
theorem fl_Row_21 : ab_FL "LevelStore$Row" 21 5 1 RX4 TX4 4 := ⟨ab_k5, by decide, "LevelStore$Row", lw_g_of (i := 87) (by decide +kernel) (by decide +kernel), Or.inl rfl⟩
theorem fl_Row_24 : ab_FL "LevelStore$Row" 24 5 2 RX4 TX4 4 := ⟨ab_k5, by decide, "LevelStore$Row", lw_g_of (i := 88) (by decide +kernel) (by decide +kernel), Or.inl rfl⟩
theorem fl_Row_27 : ab_FL "LevelStore$Row" 27 5 3 RX4 TX4 4 := ⟨ab_k5, by decide, "LevelStore$Row", lw_g_of (i := 89) (by decide +kernel) (by decide +kernel), Or.inl rfl⟩
theorem fl_SortedFile_24 : ab_FL "LevelStore$SortedFile" 24 5 3 RX4 TX4 4 := ⟨ab_k5, by decide, "LevelStore$Row", lw_g_of (i := 90) (by decide +kernel) (by decide +kernel), Or.inl rfl⟩
theorem fl_Job_45 : ab_FL "LevelStore$Job" 45 5 3 RX4 TX4 4 := ⟨ab_k5, by decide, "LevelStore$Row", lw_g_of (i := 91) (by decide +kernel) (by decide +kernel), Or.inl rfl⟩
theorem fl_LevelStore_66 : ab_FL "LevelStore" 66 5 3 RX4 TX4 4 := ⟨ab_k5, by decide, "LevelStore$Row", lw_g_of (i := 92) (by decide +kernel) (by decide +kernel), Or.inl rfl⟩
theorem fl_Reading_47 : ab_FL "LevelStore$Reading" 47 5 3 RX4 TX4 4 := ⟨ab_k5, by decide, "LevelStore$Row", lw_g_of (i := 93) (by decide +kernel) (by decide +kernel), Or.inl rfl⟩
theorem fl_Field_54 : ab_FL "LevelStore$Field" 54 5 3 RX4 TX4 4 := ⟨ab_k5, by decide, "LevelStore$Row", lw_g_of (i := 94) (by decide +kernel) (by decide +kernel), Or.inl rfl⟩
theorem fl_FileRow_84 : ab_FL "LevelStore$FileRow" 84 5 3 RX4 TX4 4 := ⟨ab_k5, by decide, "LevelStore$Row", lw_g_of (i := 95) (by decide +kernel) (by decide +kernel), Or.inl rfl⟩
theorem ac_int : Cond.arrayClass .int ∈ lw_g := lw_g_of (i := 105) (by decide +kernel) (by decide +kernel)
theorem cl_LevelStore_22 : Cond.classLink "LevelStore" 22 "LevelStore$FileRow" ∈ lw_g := lw_g_of (i := 106) (by decide +kernel) (by decide +kernel)
theorem in_FileRow : Cond.instantiable "LevelStore$FileRow" 1 ∈ lw_g := lw_g_of (i := 108) (by decide +kernel) (by decide +kernel)
theorem ml_LevelStore_24 : Cond.methodLink "LevelStore" 24 yX1_init ∈ lw_g := lw_g_of (i := 109) (by decide +kernel) (by decide +kernel)
theorem im_X1_init : Cond.instanceMethod yX1_init ∈ lw_g := lw_g_of (i := 110) (by decide +kernel) (by decide +kernel)
theorem ml_FileRow_3 : Cond.methodLink "LevelStore$FileRow" 3 Lib.objectInit ∈ lw_g := lw_g_of (i := 112) (by decide +kernel) (by decide +kernel)
theorem cl_FileRow_9 : Cond.classLink "LevelStore$FileRow" 9 "java/util/ArrayList" ∈ lw_g := lw_g_of (i := 113) (by decide +kernel) (by decide +kernel)
theorem in_ArrayList : Cond.instantiable "java/util/ArrayList" 3 ∈ lw_g := lw_g_of (i := 114) (by decide +kernel) (by decide +kernel)
theorem ml_FileRow_11 : Cond.methodLink "LevelStore$FileRow" 11 yJx4a65c_init_da8c8 ∈ lw_g := lw_g_of (i := 115) (by decide +kernel) (by decide +kernel)
theorem im_Jx4a65c_init_da8c8 : Cond.instanceMethod yJx4a65c_init_da8c8 ∈ lw_g := lw_g_of (i := 116) (by decide +kernel) (by decide +kernel)
theorem ml_ArrayList_1 : Cond.methodLink "java/util/ArrayList" 1 yJxc12de_init_da8c8 ∈ lw_g := lw_g_of (i := 118) (by decide +kernel) (by decide +kernel)
theorem im_Jxc12de_init_da8c8 : Cond.instanceMethod yJxc12de_init_da8c8 ∈ lw_g := lw_g_of (i := 119) (by decide +kernel) (by decide +kernel)
theorem ml_AbstractList_1 : Cond.methodLink "java/util/AbstractList" 1 yJxa1e45_init_da8c8 ∈ lw_g := lw_g_of (i := 121) (by decide +kernel) (by decide +kernel)
theorem im_Jxa1e45_init_da8c8 : Cond.instanceMethod yJxa1e45_init_da8c8 ∈ lw_g := lw_g_of (i := 122) (by decide +kernel) (by decide +kernel)
theorem ml_AbstractCollection_1 : Cond.methodLink "java/util/AbstractCollection" 1 Lib.objectInit ∈ lw_g := lw_g_of (i := 124) (by decide +kernel) (by decide +kernel)
theorem fl_static : Cond.fieldLink "java/util/ArrayList" 39 "java/util/ArrayList" "DEFAULTCAPACITY_EMPTY_ELEMENTDATA" "[Ljava/lang/Object;" ∈ lw_g := lw_g_of (i := 125) (by decide +kernel) (by decide +kernel)
theorem fl_ArrayList_9 : ab_FL "java/util/ArrayList" 9 0 1 RJx4a65c TJx4a65c 3 := ⟨ab_k0, by decide, "java/util/ArrayList", lw_g_of (i := 127) (by decide +kernel) (by decide +kernel), Or.inl rfl⟩
theorem fl_ArrayList_48 : ab_FL "java/util/ArrayList" 48 0 2 RJx4a65c TJx4a65c 3 := ⟨ab_k0, by decide, "java/util/ArrayList", lw_g_of (i := 128) (by decide +kernel) (by decide +kernel), Or.inl rfl⟩
theorem fl_AbstractList_7 : ab_FL "java/util/AbstractList" 7 0 0 RJx4a65c TJx4a65c 3 := ⟨ab_k0, by decide, "java/util/AbstractList", lw_g_of (i := 129) (by decide +kernel) (by decide +kernel), Or.inl rfl⟩
theorem fl_ArrayList_63 : ab_FL "java/util/ArrayList" 63 0 0 RJx4a65c TJx4a65c 3 := ⟨ab_k0, by decide, "java/util/ArrayList", lw_g_of (i := 130) (by decide +kernel) (by decide +kernel), Or.inr (lw_g_of (i := 131) (by decide +kernel) (by decide +kernel))⟩
theorem fl_FileRow_12 : ab_FL "LevelStore$FileRow" 12 2 0 RX1 TX1 1 := ⟨ab_k2, by decide, "LevelStore$FileRow", lw_g_of (i := 139) (by decide +kernel) (by decide +kernel), Or.inl rfl⟩
theorem cl_LevelStore_33 : Cond.classLink "LevelStore" 33 "LevelStore$Field" ∈ lw_g := lw_g_of (i := 143) (by decide +kernel) (by decide +kernel)
theorem in_Field : Cond.instantiable "LevelStore$Field" 4 ∈ lw_g := lw_g_of (i := 144) (by decide +kernel) (by decide +kernel)
theorem ml_LevelStore_35 : Cond.methodLink "LevelStore" 35 yX0_init ∈ lw_g := lw_g_of (i := 145) (by decide +kernel) (by decide +kernel)
theorem im_X0_init : Cond.instanceMethod yX0_init ∈ lw_g := lw_g_of (i := 146) (by decide +kernel) (by decide +kernel)
theorem ml_Field_3 : Cond.methodLink "LevelStore$Field" 3 Lib.objectInit ∈ lw_g := lw_g_of (i := 148) (by decide +kernel) (by decide +kernel)
theorem fl_Field_9 : ab_FL "LevelStore$Field" 9 1 0 RX0 TX0 4 := ⟨ab_k1, by decide, "LevelStore$Field", lw_g_of (i := 149) (by decide +kernel) (by decide +kernel), Or.inl rfl⟩
theorem fl_LevelStore_235 : ab_FL "LevelStore" 235 1 0 RX0 TX0 4 := ⟨ab_k1, by decide, "LevelStore$Field", lw_g_of (i := 150) (by decide +kernel) (by decide +kernel), Or.inl rfl⟩
theorem fl_Field_15 : ab_FL "LevelStore$Field" 15 1 1 RX0 TX0 4 := ⟨ab_k1, by decide, "LevelStore$Field", lw_g_of (i := 151) (by decide +kernel) (by decide +kernel), Or.inl rfl⟩
theorem fl_Field_19 : ab_FL "LevelStore$Field" 19 1 2 RX0 TX0 4 := ⟨ab_k1, by decide, "LevelStore$Field", lw_g_of (i := 152) (by decide +kernel) (by decide +kernel), Or.inl rfl⟩
theorem fl_Field_32 : ab_FL "LevelStore$Field" 32 1 3 RX0 TX0 4 := ⟨ab_k1, by decide, "LevelStore$Field", lw_g_of (i := 153) (by decide +kernel) (by decide +kernel), Or.inl rfl⟩
theorem ac_boolean : Cond.arrayClass .boolean ∈ lw_g := lw_g_of (i := 163) (by decide +kernel) (by decide +kernel)
theorem cl_LevelStore_40 : Cond.classLink "LevelStore" 40 "LevelStore$Reading" ∈ lw_g := lw_g_of (i := 164) (by decide +kernel) (by decide +kernel)
theorem in_Reading : Cond.instantiable "LevelStore$Reading" 5 ∈ lw_g := lw_g_of (i := 165) (by decide +kernel) (by decide +kernel)
theorem ml_LevelStore_42 : Cond.methodLink "LevelStore" 42 yX3_init ∈ lw_g := lw_g_of (i := 166) (by decide +kernel) (by decide +kernel)
theorem im_X3_init : Cond.instanceMethod yX3_init ∈ lw_g := lw_g_of (i := 167) (by decide +kernel) (by decide +kernel)
theorem ml_Reading_3 : Cond.methodLink "LevelStore$Reading" 3 Lib.objectInit ∈ lw_g := lw_g_of (i := 169) (by decide +kernel) (by decide +kernel)
theorem fl_Reading_9 : ab_FL "LevelStore$Reading" 9 4 0 RX3 TX3 5 := ⟨ab_k4, by decide, "LevelStore$Reading", lw_g_of (i := 170) (by decide +kernel) (by decide +kernel), Or.inl rfl⟩
theorem fl_Reading_15 : ab_FL "LevelStore$Reading" 15 4 1 RX3 TX3 5 := ⟨ab_k4, by decide, "LevelStore$Reading", lw_g_of (i := 171) (by decide +kernel) (by decide +kernel), Or.inl rfl⟩
theorem fl_Reading_24 : ab_FL "LevelStore$Reading" 24 4 2 RX3 TX3 5 := ⟨ab_k4, by decide, "LevelStore$Reading", lw_g_of (i := 172) (by decide +kernel) (by decide +kernel), Or.inl rfl⟩
theorem fl_Reading_31 : ab_FL "LevelStore$Reading" 31 4 3 RX3 TX3 5 := ⟨ab_k4, by decide, "LevelStore$Reading", lw_g_of (i := 173) (by decide +kernel) (by decide +kernel), Or.inl rfl⟩
theorem fl_Reading_34 : ab_FL "LevelStore$Reading" 34 4 4 RX3 TX3 5 := ⟨ab_k4, by decide, "LevelStore$Reading", lw_g_of (i := 174) (by decide +kernel) (by decide +kernel), Or.inl rfl⟩
theorem cl_LevelStore_47 : Cond.classLink "LevelStore" 47 "LevelStore$Job" ∈ lw_g := lw_g_of (i := 186) (by decide +kernel) (by decide +kernel)
theorem in_Job : Cond.instantiable "LevelStore$Job" 12 ∈ lw_g := lw_g_of (i := 187) (by decide +kernel) (by decide +kernel)
theorem ml_LevelStore_49 : Cond.methodLink "LevelStore" 49 yX2_init ∈ lw_g := lw_g_of (i := 188) (by decide +kernel) (by decide +kernel)
theorem im_X2_init : Cond.instanceMethod yX2_init ∈ lw_g := lw_g_of (i := 189) (by decide +kernel) (by decide +kernel)
theorem ml_Job_3 : Cond.methodLink "LevelStore$Job" 3 Lib.objectInit ∈ lw_g := lw_g_of (i := 191) (by decide +kernel) (by decide +kernel)
theorem cl_Job_9 : Cond.classLink "LevelStore$Job" 9 "LevelStore$Row" ∈ lw_g := lw_g_of (i := 192) (by decide +kernel) (by decide +kernel)
theorem ml_Job_11 : Cond.methodLink "LevelStore$Job" 11 yX4_init ∈ lw_g := lw_g_of (i := 193) (by decide +kernel) (by decide +kernel)
theorem cl_Job_27 : Cond.classLink "LevelStore$Job" 27 "LevelStore$FileRow" ∈ lw_g := lw_g_of (i := 194) (by decide +kernel) (by decide +kernel)
theorem ml_Job_29 : Cond.methodLink "LevelStore$Job" 29 yX1_init ∈ lw_g := lw_g_of (i := 195) (by decide +kernel) (by decide +kernel)
theorem fl_Job_34 : ab_FL "LevelStore$Job" 34 3 0 RX2 TX2 12 := ⟨ab_k3, by decide, "LevelStore$Job", lw_g_of (i := 196) (by decide +kernel) (by decide +kernel), Or.inl rfl⟩
theorem fl_LevelStore_108 : ab_FL "LevelStore" 108 3 0 RX2 TX2 12 := ⟨ab_k3, by decide, "LevelStore$Job", lw_g_of (i := 197) (by decide +kernel) (by decide +kernel), Or.inl rfl⟩
theorem fl_Job_38 : ab_FL "LevelStore$Job" 38 3 1 RX2 TX2 12 := ⟨ab_k3, by decide, "LevelStore$Job", lw_g_of (i := 198) (by decide +kernel) (by decide +kernel), Or.inl rfl⟩
theorem fl_LevelStore_189 : ab_FL "LevelStore" 189 3 1 RX2 TX2 12 := ⟨ab_k3, by decide, "LevelStore$Job", lw_g_of (i := 199) (by decide +kernel) (by decide +kernel), Or.inl rfl⟩
theorem fl_LevelStore_156 : ab_FL "LevelStore" 156 3 2 RX2 TX2 12 := ⟨ab_k3, by decide, "LevelStore$Job", lw_g_of (i := 200) (by decide +kernel) (by decide +kernel), Or.inl rfl⟩
theorem fl_LevelStore_159 : ab_FL "LevelStore" 159 3 3 RX2 TX2 12 := ⟨ab_k3, by decide, "LevelStore$Job", lw_g_of (i := 201) (by decide +kernel) (by decide +kernel), Or.inl rfl⟩
theorem fl_Job_42 : ab_FL "LevelStore$Job" 42 3 4 RX2 TX2 12 := ⟨ab_k3, by decide, "LevelStore$Job", lw_g_of (i := 202) (by decide +kernel) (by decide +kernel), Or.inl rfl⟩
theorem fl_LevelStore_196 : ab_FL "LevelStore" 196 3 4 RX2 TX2 12 := ⟨ab_k3, by decide, "LevelStore$Job", lw_g_of (i := 203) (by decide +kernel) (by decide +kernel), Or.inl rfl⟩
theorem fl_LevelStore_118 : ab_FL "LevelStore" 118 3 5 RX2 TX2 12 := ⟨ab_k3, by decide, "LevelStore$Job", lw_g_of (i := 204) (by decide +kernel) (by decide +kernel), Or.inl rfl⟩
theorem fl_LevelStore_121 : ab_FL "LevelStore" 121 3 6 RX2 TX2 12 := ⟨ab_k3, by decide, "LevelStore$Job", lw_g_of (i := 205) (by decide +kernel) (by decide +kernel), Or.inl rfl⟩
theorem fl_Job_14 : ab_FL "LevelStore$Job" 14 3 7 RX2 TX2 12 := ⟨ab_k3, by decide, "LevelStore$Job", lw_g_of (i := 206) (by decide +kernel) (by decide +kernel), Or.inl rfl⟩
theorem fl_LevelStore_124 : ab_FL "LevelStore" 124 3 7 RX2 TX2 12 := ⟨ab_k3, by decide, "LevelStore$Job", lw_g_of (i := 207) (by decide +kernel) (by decide +kernel), Or.inl rfl⟩
theorem fl_Job_20 : ab_FL "LevelStore$Job" 20 3 8 RX2 TX2 12 := ⟨ab_k3, by decide, "LevelStore$Job", lw_g_of (i := 208) (by decide +kernel) (by decide +kernel), Or.inl rfl⟩
theorem fl_Job_48 : ab_FL "LevelStore$Job" 48 3 9 RX2 TX2 12 := ⟨ab_k3, by decide, "LevelStore$Job", lw_g_of (i := 209) (by decide +kernel) (by decide +kernel), Or.inl rfl⟩
theorem fl_LevelStore_281 : ab_FL "LevelStore" 281 3 9 RX2 TX2 12 := ⟨ab_k3, by decide, "LevelStore$Job", lw_g_of (i := 210) (by decide +kernel) (by decide +kernel), Or.inl rfl⟩
theorem fl_Job_24 : ab_FL "LevelStore$Job" 24 3 10 RX2 TX2 12 := ⟨ab_k3, by decide, "LevelStore$Job", lw_g_of (i := 211) (by decide +kernel) (by decide +kernel), Or.inl rfl⟩
theorem fl_LevelStore_290 : ab_FL "LevelStore" 290 3 10 RX2 TX2 12 := ⟨ab_k3, by decide, "LevelStore$Job", lw_g_of (i := 212) (by decide +kernel) (by decide +kernel), Or.inl rfl⟩
theorem fl_Job_30 : ab_FL "LevelStore$Job" 30 3 11 RX2 TX2 12 := ⟨ab_k3, by decide, "LevelStore$Job", lw_g_of (i := 213) (by decide +kernel) (by decide +kernel), Or.inl rfl⟩
theorem fl_LevelStore_186 : ab_FL "LevelStore" 186 3 11 RX2 TX2 12 := ⟨ab_k3, by decide, "LevelStore$Job", lw_g_of (i := 214) (by decide +kernel) (by decide +kernel), Or.inl rfl⟩
theorem fl_LevelStore_14 : ab_FL "LevelStore" 14 7 0 RX6 TX6 10 := ⟨ab_k7, by decide, "LevelStore", lw_g_of (i := 240) (by decide +kernel) (by decide +kernel), Or.inl rfl⟩
theorem fl_LevelStore_70 : ab_FL "LevelStore" 70 7 1 RX6 TX6 10 := ⟨ab_k7, by decide, "LevelStore", lw_g_of (i := 241) (by decide +kernel) (by decide +kernel), Or.inl rfl⟩
theorem fl_LevelStore_80 : ab_FL "LevelStore" 80 7 2 RX6 TX6 10 := ⟨ab_k7, by decide, "LevelStore", lw_g_of (i := 242) (by decide +kernel) (by decide +kernel), Or.inl rfl⟩
theorem fl_LevelStore_18 : ab_FL "LevelStore" 18 7 3 RX6 TX6 10 := ⟨ab_k7, by decide, "LevelStore", lw_g_of (i := 243) (by decide +kernel) (by decide +kernel), Or.inl rfl⟩
theorem fl_LevelStore_25 : ab_FL "LevelStore" 25 7 4 RX6 TX6 10 := ⟨ab_k7, by decide, "LevelStore", lw_g_of (i := 244) (by decide +kernel) (by decide +kernel), Or.inl rfl⟩
theorem fl_LevelStore_29 : ab_FL "LevelStore" 29 7 5 RX6 TX6 10 := ⟨ab_k7, by decide, "LevelStore", lw_g_of (i := 245) (by decide +kernel) (by decide +kernel), Or.inl rfl⟩
theorem fl_LevelStore_36 : ab_FL "LevelStore" 36 7 6 RX6 TX6 10 := ⟨ab_k7, by decide, "LevelStore", lw_g_of (i := 246) (by decide +kernel) (by decide +kernel), Or.inl rfl⟩
theorem fl_LevelStore_43 : ab_FL "LevelStore" 43 7 7 RX6 TX6 10 := ⟨ab_k7, by decide, "LevelStore", lw_g_of (i := 247) (by decide +kernel) (by decide +kernel), Or.inl rfl⟩
theorem fl_LevelStore_50 : ab_FL "LevelStore" 50 7 8 RX6 TX6 10 := ⟨ab_k7, by decide, "LevelStore", lw_g_of (i := 248) (by decide +kernel) (by decide +kernel), Or.inl rfl⟩
theorem fl_LevelStore_244 : ab_FL "LevelStore" 244 7 9 RX6 TX6 10 := ⟨ab_k7, by decide, "LevelStore", lw_g_of (i := 249) (by decide +kernel) (by decide +kernel), Or.inl rfl⟩
theorem ml_LevelStoreLaw_13 : Cond.methodLink "LevelStoreLaw" 13 yX6_put ∈ lw_g := lw_g_of (i := 271) (by decide +kernel) (by decide +kernel)
theorem im_X6_put : Cond.instanceMethod yX6_put ∈ lw_g := lw_g_of (i := 272) (by decide +kernel) (by decide +kernel)
theorem se_X6_put : Cond.selects yX6_put.cls yX6_put yX6_put ∈ lw_g := lw_g_of (i := 273) (by decide +kernel) (by decide +kernel)
theorem ml_LevelStore_54 : Cond.methodLink "LevelStore" 54 yX6_isKey ∈ lw_g := lw_g_of (i := 275) (by decide +kernel) (by decide +kernel)
theorem sm_X6_isKey : Cond.static yX6_isKey ∈ lw_g := lw_g_of (i := 276) (by decide +kernel) (by decide +kernel)
theorem cn_LevelStore_58 : Cond.constant "LevelStore" 58 (-100000 : Int32) ∈ lw_g := lw_g_of (i := 278) (by decide +kernel) (by decide +kernel)
theorem cn_LevelStore_59 : Cond.constant "LevelStore" 59 (100000 : Int32) ∈ lw_g := lw_g_of (i := 279) (by decide +kernel) (by decide +kernel)
theorem cn_LevelStore_60 : Cond.constant "LevelStore" 60 (-1000002 : Int32) ∈ lw_g := lw_g_of (i := 280) (by decide +kernel) (by decide +kernel)
theorem ml_LevelStore_61 : Cond.methodLink "LevelStore" 61 yX6_write ∈ lw_g := lw_g_of (i := 281) (by decide +kernel) (by decide +kernel)
theorem im_X6_write : Cond.instanceMethod yX6_write ∈ lw_g := lw_g_of (i := 283) (by decide +kernel) (by decide +kernel)
theorem cn_LevelStore_254 : Cond.constant "LevelStore" 254 (60000 : Int32) ∈ lw_g := lw_g_of (i := 285) (by decide +kernel) (by decide +kernel)
theorem cn_LevelStore_185 : Cond.constant "LevelStore" 185 (-1000004 : Int32) ∈ lw_g := lw_g_of (i := 286) (by decide +kernel) (by decide +kernel)
theorem ml_LevelStore_255 : Cond.methodLink "LevelStore" 255 yX4_add ∈ lw_g := lw_g_of (i := 287) (by decide +kernel) (by decide +kernel)
theorem im_X4_add : Cond.instanceMethod yX4_add ∈ lw_g := lw_g_of (i := 288) (by decide +kernel) (by decide +kernel)
theorem se_X4_add : Cond.selects yX4_add.cls yX4_add yX4_add ∈ lw_g := lw_g_of (i := 289) (by decide +kernel) (by decide +kernel)
theorem ml_Row_47 : Cond.methodLink "LevelStore$Row" 47 yX4_setAt ∈ lw_g := lw_g_of (i := 291) (by decide +kernel) (by decide +kernel)
theorem im_X4_setAt : Cond.instanceMethod yX4_setAt ∈ lw_g := lw_g_of (i := 292) (by decide +kernel) (by decide +kernel)
theorem se_X4_setAt : Cond.selects yX4_setAt.cls yX4_setAt yX4_setAt ∈ lw_g := lw_g_of (i := 293) (by decide +kernel) (by decide +kernel)
theorem ml_Row_36 : Cond.methodLink "LevelStore$Row" 36 yX4_has ∈ lw_g := lw_g_of (i := 295) (by decide +kernel) (by decide +kernel)
theorem im_X4_has : Cond.instanceMethod yX4_has ∈ lw_g := lw_g_of (i := 296) (by decide +kernel) (by decide +kernel)
theorem se_X4_has : Cond.selects yX4_has.cls yX4_has yX4_has ∈ lw_g := lw_g_of (i := 297) (by decide +kernel) (by decide +kernel)
theorem ml_LevelStoreLaw_18 : Cond.methodLink "LevelStoreLaw" 18 yX6_drop ∈ lw_g := lw_g_of (i := 299) (by decide +kernel) (by decide +kernel)
theorem im_X6_drop : Cond.instanceMethod yX6_drop ∈ lw_g := lw_g_of (i := 300) (by decide +kernel) (by decide +kernel)
theorem se_X6_drop : Cond.selects yX6_drop.cls yX6_drop yX6_drop ∈ lw_g := lw_g_of (i := 301) (by decide +kernel) (by decide +kernel)
theorem cn_LevelStore_65 : Cond.constant "LevelStore" 65 (-1000009 : Int32) ∈ lw_g := lw_g_of (i := 303) (by decide +kernel) (by decide +kernel)
theorem ml_LevelStoreLaw_23 : Cond.methodLink "LevelStoreLaw" 23 yX6_sync ∈ lw_g := lw_g_of (i := 304) (by decide +kernel) (by decide +kernel)
theorem im_X6_sync : Cond.instanceMethod yX6_sync ∈ lw_g := lw_g_of (i := 305) (by decide +kernel) (by decide +kernel)
theorem se_X6_sync : Cond.selects yX6_sync.cls yX6_sync yX6_sync ∈ lw_g := lw_g_of (i := 306) (by decide +kernel) (by decide +kernel)
theorem ml_LevelStoreLaw_28 : Cond.methodLink "LevelStoreLaw" 28 yX6_crash ∈ lw_g := lw_g_of (i := 308) (by decide +kernel) (by decide +kernel)
theorem im_X6_crash : Cond.instanceMethod yX6_crash ∈ lw_g := lw_g_of (i := 309) (by decide +kernel) (by decide +kernel)
theorem se_X6_crash : Cond.selects yX6_crash.cls yX6_crash yX6_crash ∈ lw_g := lw_g_of (i := 310) (by decide +kernel) (by decide +kernel)
theorem ml_LevelStore_73 : Cond.methodLink "LevelStore" 73 yX6_giveUpJob ∈ lw_g := lw_g_of (i := 312) (by decide +kernel) (by decide +kernel)
theorem im_X6_giveUpJob : Cond.instanceMethod yX6_giveUpJob ∈ lw_g := lw_g_of (i := 314) (by decide +kernel) (by decide +kernel)
theorem ml_LevelStore_154 : Cond.methodLink "LevelStore" 154 yX1_size ∈ lw_g := lw_g_of (i := 316) (by decide +kernel) (by decide +kernel)
theorem im_X1_size : Cond.instanceMethod yX1_size ∈ lw_g := lw_g_of (i := 317) (by decide +kernel) (by decide +kernel)
theorem se_X1_size : Cond.selects yX1_size.cls yX1_size yX1_size ∈ lw_g := lw_g_of (i := 318) (by decide +kernel) (by decide +kernel)
theorem ml_FileRow_18 : Cond.methodLink "LevelStore$FileRow" 18 yJx4a65c_size_8abf5 ∈ lw_g := lw_g_of (i := 320) (by decide +kernel) (by decide +kernel)
theorem im_Jx4a65c_size_8abf5 : Cond.instanceMethod yJx4a65c_size_8abf5 ∈ lw_g := lw_g_of (i := 321) (by decide +kernel) (by decide +kernel)
theorem se_Jx4a65c_size_8abf5 : Cond.selects yJx4a65c_size_8abf5.cls yJx4a65c_size_8abf5 yJx4a65c_size_8abf5 ∈ lw_g := lw_g_of (i := 322) (by decide +kernel) (by decide +kernel)
theorem ml_LevelStore_192 : Cond.methodLink "LevelStore" 192 yX6_retire ∈ lw_g := lw_g_of (i := 324) (by decide +kernel) (by decide +kernel)
theorem im_X6_retire : Cond.instanceMethod yX6_retire ∈ lw_g := lw_g_of (i := 326) (by decide +kernel) (by decide +kernel)
theorem ml_LevelStore_306 : Cond.methodLink "LevelStore" 306 yX1_takeOut ∈ lw_g := lw_g_of (i := 328) (by decide +kernel) (by decide +kernel)
theorem im_X1_takeOut : Cond.instanceMethod yX1_takeOut ∈ lw_g := lw_g_of (i := 329) (by decide +kernel) (by decide +kernel)
theorem se_X1_takeOut : Cond.selects yX1_takeOut.cls yX1_takeOut yX1_takeOut ∈ lw_g := lw_g_of (i := 330) (by decide +kernel) (by decide +kernel)
theorem ml_FileRow_36 : Cond.methodLink "LevelStore$FileRow" 36 yJx4a65c_remove_915e3 ∈ lw_g := lw_g_of (i := 332) (by decide +kernel) (by decide +kernel)
theorem im_Jx4a65c_remove_915e3 : Cond.instanceMethod yJx4a65c_remove_915e3 ∈ lw_g := lw_g_of (i := 333) (by decide +kernel) (by decide +kernel)
theorem se_Jx4a65c_remove_915e3 : Cond.selects yJx4a65c_remove_915e3.cls yJx4a65c_remove_915e3 yJx4a65c_remove_915e3 ∈ lw_g := lw_g_of (i := 334) (by decide +kernel) (by decide +kernel)
theorem ml_ArrayList_118 : Cond.methodLink "java/util/ArrayList" 118 yJ15_checkIndex_7cf53 ∈ lw_g := lw_g_of (i := 336) (by decide +kernel) (by decide +kernel)
theorem sm_J15_checkIndex_7cf53 : Cond.static yJ15_checkIndex_7cf53 ∈ lw_g := lw_g_of (i := 337) (by decide +kernel) (by decide +kernel)
theorem ml_Objects_105 : Cond.methodLink "java/util/Objects" 105 yJ3_checkIndex_8e157 ∈ lw_g := lw_g_of (i := 339) (by decide +kernel) (by decide +kernel)
theorem sm_J3_checkIndex_8e157 : Cond.static yJ3_checkIndex_8e157 ∈ lw_g := lw_g_of (i := 340) (by decide +kernel) (by decide +kernel)
theorem ml_ArrayList_144 : Cond.methodLink "java/util/ArrayList" 144 yJx4a65c_fastRemove_b59b0 ∈ lw_g := lw_g_of (i := 342) (by decide +kernel) (by decide +kernel)
theorem im_Jx4a65c_fastRemove_b59b0 : Cond.instanceMethod yJx4a65c_fastRemove_b59b0 ∈ lw_g := lw_g_of (i := 344) (by decide +kernel) (by decide +kernel)
theorem ml_ArrayList_112 : Cond.methodLink "java/util/ArrayList" 112 arraycopyName ∈ lw_g := lw_g_of (i := 346) (by decide +kernel) (by decide +kernel)
theorem sm_arraycopy : Cond.static arraycopyName ∈ lw_g := lw_g_of (i := 347) (by decide +kernel) (by decide +kernel)
theorem nt_arraycopy : Cond.native arraycopyName ∈ lw_g := lw_g_of (i := 348) (by decide +kernel) (by decide +kernel)
theorem cl_FileRow_26 : Cond.classLink "LevelStore$FileRow" 26 "LevelStore$SortedFile" ∈ lw_g := lw_g_of (i := 349) (by decide +kernel) (by decide +kernel)
theorem ml_LevelStore_310 : Cond.methodLink "LevelStore" 310 yX0_free ∈ lw_g := lw_g_of (i := 350) (by decide +kernel) (by decide +kernel)
theorem im_X0_free : Cond.instanceMethod yX0_free ∈ lw_g := lw_g_of (i := 351) (by decide +kernel) (by decide +kernel)
theorem se_X0_free : Cond.selects yX0_free.cls yX0_free yX0_free ∈ lw_g := lw_g_of (i := 352) (by decide +kernel) (by decide +kernel)
theorem ml_Field_50 : Cond.methodLink "LevelStore$Field" 50 yX0_mark ∈ lw_g := lw_g_of (i := 354) (by decide +kernel) (by decide +kernel)
theorem im_X0_mark : Cond.instanceMethod yX0_mark ∈ lw_g := lw_g_of (i := 356) (by decide +kernel) (by decide +kernel)
theorem ml_Field_46 : Cond.methodLink "LevelStore$Field" 46 yX0_has ∈ lw_g := lw_g_of (i := 358) (by decide +kernel) (by decide +kernel)
theorem im_X0_has : Cond.instanceMethod yX0_has ∈ lw_g := lw_g_of (i := 359) (by decide +kernel) (by decide +kernel)
theorem se_X0_has : Cond.selects yX0_has.cls yX0_has yX0_has ∈ lw_g := lw_g_of (i := 360) (by decide +kernel) (by decide +kernel)
theorem ml_LevelStore_303 : Cond.methodLink "LevelStore" 303 yX1_add ∈ lw_g := lw_g_of (i := 362) (by decide +kernel) (by decide +kernel)
theorem im_X1_add : Cond.instanceMethod yX1_add ∈ lw_g := lw_g_of (i := 363) (by decide +kernel) (by decide +kernel)
theorem se_X1_add : Cond.selects yX1_add.cls yX1_add yX1_add ∈ lw_g := lw_g_of (i := 364) (by decide +kernel) (by decide +kernel)
theorem ml_FileRow_28 : Cond.methodLink "LevelStore$FileRow" 28 yX1_insert ∈ lw_g := lw_g_of (i := 366) (by decide +kernel) (by decide +kernel)
theorem im_X1_insert : Cond.instanceMethod yX1_insert ∈ lw_g := lw_g_of (i := 367) (by decide +kernel) (by decide +kernel)
theorem se_X1_insert : Cond.selects yX1_insert.cls yX1_insert yX1_insert ∈ lw_g := lw_g_of (i := 368) (by decide +kernel) (by decide +kernel)
theorem ml_FileRow_32 : Cond.methodLink "LevelStore$FileRow" 32 yJx4a65c_add_7a177 ∈ lw_g := lw_g_of (i := 370) (by decide +kernel) (by decide +kernel)
theorem im_Jx4a65c_add_7a177 : Cond.instanceMethod yJx4a65c_add_7a177 ∈ lw_g := lw_g_of (i := 371) (by decide +kernel) (by decide +kernel)
theorem se_Jx4a65c_add_7a177 : Cond.selects yJx4a65c_add_7a177.cls yJx4a65c_add_7a177 yJx4a65c_add_7a177 ∈ lw_g := lw_g_of (i := 372) (by decide +kernel) (by decide +kernel)
theorem ml_ArrayList_135 : Cond.methodLink "java/util/ArrayList" 135 yJx4a65c_rangeCheckForAdd_d00df ∈ lw_g := lw_g_of (i := 374) (by decide +kernel) (by decide +kernel)
theorem im_Jx4a65c_rangeCheckForAdd_d00df : Cond.instanceMethod yJx4a65c_rangeCheckForAdd_d00df ∈ lw_g := lw_g_of (i := 376) (by decide +kernel) (by decide +kernel)
theorem ml_ArrayList_129 : Cond.methodLink "java/util/ArrayList" 129 yJx4a65c_grow_d5877 ∈ lw_g := lw_g_of (i := 378) (by decide +kernel) (by decide +kernel)
theorem im_Jx4a65c_grow_d5877 : Cond.instanceMethod yJx4a65c_grow_d5877 ∈ lw_g := lw_g_of (i := 380) (by decide +kernel) (by decide +kernel)
theorem ml_ArrayList_69 : Cond.methodLink "java/util/ArrayList" 69 yJx4a65c_grow_92f84 ∈ lw_g := lw_g_of (i := 382) (by decide +kernel) (by decide +kernel)
theorem im_Jx4a65c_grow_92f84 : Cond.instanceMethod yJx4a65c_grow_92f84 ∈ lw_g := lw_g_of (i := 384) (by decide +kernel) (by decide +kernel)
theorem ml_ArrayList_73 : Cond.methodLink "java/util/ArrayList" 73 yJ8_newLength_cabcc ∈ lw_g := lw_g_of (i := 386) (by decide +kernel) (by decide +kernel)
theorem sm_J8_newLength_cabcc : Cond.static yJ8_newLength_cabcc ∈ lw_g := lw_g_of (i := 387) (by decide +kernel) (by decide +kernel)
theorem ml_ArraysSupport_194 : Cond.methodLink "jdk/internal/util/ArraysSupport" 194 yJ9_max_7cf53 ∈ lw_g := lw_g_of (i := 389) (by decide +kernel) (by decide +kernel)
theorem cn_ArraysSupport_200 : Cond.constant "jdk/internal/util/ArraysSupport" 200 (2147483639 : Int32) ∈ lw_g := lw_g_of (i := 390) (by decide +kernel) (by decide +kernel)
theorem ml_ArraysSupport_201 : Cond.methodLink "jdk/internal/util/ArraysSupport" 201 yJ8_hugeLength_7cf53 ∈ lw_g := lw_g_of (i := 391) (by decide +kernel) (by decide +kernel)
theorem sm_J8_hugeLength_7cf53 : Cond.static yJ8_hugeLength_7cf53 ∈ lw_g := lw_g_of (i := 392) (by decide +kernel) (by decide +kernel)
theorem ml_ArrayList_66 : Cond.methodLink "java/util/ArrayList" 66 yJ7_copyOf_1904c ∈ lw_g := lw_g_of (i := 394) (by decide +kernel) (by decide +kernel)
theorem sm_J7_copyOf_1904c : Cond.static yJ7_copyOf_1904c ∈ lw_g := lw_g_of (i := 395) (by decide +kernel) (by decide +kernel)
theorem ml_Arrays_86 : Cond.methodLink "java/util/Arrays" 86 ⟨"java/lang/Object", "getClass", "()Ljava/lang/Class;"⟩ ∈ lw_g := lw_g_of (i := 397) (by decide +kernel) (by decide +kernel)
theorem im_getClass : Cond.instanceMethod ⟨"java/lang/Object", "getClass", "()Ljava/lang/Class;"⟩ ∈ lw_g := lw_g_of (i := 398) (by decide +kernel) (by decide +kernel)
theorem nt_getClass : Cond.native ⟨"java/lang/Object", "getClass", "()Ljava/lang/Class;"⟩ ∈ lw_g := lw_g_of (i := 409) (by decide +kernel) (by decide +kernel)
theorem ml_Arrays_300 : Cond.methodLink "java/util/Arrays" 300 yJ7_copyOf_6403c ∈ lw_g := lw_g_of (i := 410) (by decide +kernel) (by decide +kernel)
theorem sm_J7_copyOf_6403c : Cond.static yJ7_copyOf_6403c ∈ lw_g := lw_g_of (i := 411) (by decide +kernel) (by decide +kernel)
theorem cl_Arrays_110 : Cond.classLink "java/util/Arrays" 110 "[Ljava/lang/Object;" ∈ lw_g := lw_g_of (i := 413) (by decide +kernel) (by decide +kernel)
theorem cl_Arrays_2 : Cond.classLink "java/util/Arrays" 2 "java/lang/Object" ∈ lw_g := lw_g_of (i := 415) (by decide +kernel) (by decide +kernel)
theorem ml_Arrays_304 : Cond.methodLink "java/util/Arrays" 304 yJ9_min_7cf53 ∈ lw_g := lw_g_of (i := 416) (by decide +kernel) (by decide +kernel)
theorem sm_J9_min_7cf53 : Cond.static yJ9_min_7cf53 ∈ lw_g := lw_g_of (i := 417) (by decide +kernel) (by decide +kernel)
theorem ml_Arrays_150 : Cond.methodLink "java/util/Arrays" 150 arraycopyName ∈ lw_g := lw_g_of (i := 419) (by decide +kernel) (by decide +kernel)
theorem ml_ArrayList_79 : Cond.methodLink "java/util/ArrayList" 79 yJ9_max_7cf53 ∈ lw_g := lw_g_of (i := 420) (by decide +kernel) (by decide +kernel)
theorem cl_ArrayList_7 : Cond.classLink "java/util/ArrayList" 7 "java/lang/Object" ∈ lw_g := lw_g_of (i := 421) (by decide +kernel) (by decide +kernel)
theorem ml_LevelStore_205 : Cond.methodLink "LevelStore" 205 yX2_end ∈ lw_g := lw_g_of (i := 422) (by decide +kernel) (by decide +kernel)
theorem im_X2_end : Cond.instanceMethod yX2_end ∈ lw_g := lw_g_of (i := 423) (by decide +kernel) (by decide +kernel)
theorem se_X2_end : Cond.selects yX2_end.cls yX2_end yX2_end ∈ lw_g := lw_g_of (i := 424) (by decide +kernel) (by decide +kernel)
theorem ml_Job_51 : Cond.methodLink "LevelStore$Job" 51 yX1_empty ∈ lw_g := lw_g_of (i := 426) (by decide +kernel) (by decide +kernel)
theorem im_X1_empty : Cond.instanceMethod yX1_empty ∈ lw_g := lw_g_of (i := 427) (by decide +kernel) (by decide +kernel)
theorem se_X1_empty : Cond.selects yX1_empty.cls yX1_empty yX1_empty ∈ lw_g := lw_g_of (i := 428) (by decide +kernel) (by decide +kernel)
theorem ml_FileRow_39 : Cond.methodLink "LevelStore$FileRow" 39 yJx4a65c_clear_da8c8 ∈ lw_g := lw_g_of (i := 430) (by decide +kernel) (by decide +kernel)
theorem im_Jx4a65c_clear_da8c8 : Cond.instanceMethod yJx4a65c_clear_da8c8 ∈ lw_g := lw_g_of (i := 431) (by decide +kernel) (by decide +kernel)
theorem se_Jx4a65c_clear_da8c8 : Cond.selects yJx4a65c_clear_da8c8.cls yJx4a65c_clear_da8c8 yJx4a65c_clear_da8c8 ∈ lw_g := lw_g_of (i := 432) (by decide +kernel) (by decide +kernel)
theorem ml_LevelStore_77 : Cond.methodLink "LevelStore" 77 yX6_greatestNumberLeft ∈ lw_g := lw_g_of (i := 434) (by decide +kernel) (by decide +kernel)
theorem im_X6_greatestNumberLeft : Cond.instanceMethod yX6_greatestNumberLeft ∈ lw_g := lw_g_of (i := 436) (by decide +kernel) (by decide +kernel)
theorem ml_LevelStore_266 : Cond.methodLink "LevelStore" 266 yX4_greatestNumber ∈ lw_g := lw_g_of (i := 438) (by decide +kernel) (by decide +kernel)
theorem im_X4_greatestNumber : Cond.instanceMethod yX4_greatestNumber ∈ lw_g := lw_g_of (i := 439) (by decide +kernel) (by decide +kernel)
theorem se_X4_greatestNumber : Cond.selects yX4_greatestNumber.cls yX4_greatestNumber yX4_greatestNumber ∈ lw_g := lw_g_of (i := 440) (by decide +kernel) (by decide +kernel)
theorem ml_Row_44 : Cond.methodLink "LevelStore$Row" 44 yX4_number ∈ lw_g := lw_g_of (i := 442) (by decide +kernel) (by decide +kernel)
theorem im_X4_number : Cond.instanceMethod yX4_number ∈ lw_g := lw_g_of (i := 443) (by decide +kernel) (by decide +kernel)
theorem se_X4_number : Cond.selects yX4_number.cls yX4_number yX4_number ∈ lw_g := lw_g_of (i := 444) (by decide +kernel) (by decide +kernel)
theorem cn_Row_31 : Cond.constant "LevelStore$Row" 31 (-1000009 : Int32) ∈ lw_g := lw_g_of (i := 446) (by decide +kernel) (by decide +kernel)
theorem ml_LevelStore_269 : Cond.methodLink "LevelStore" 269 yX1_greatestNumber ∈ lw_g := lw_g_of (i := 447) (by decide +kernel) (by decide +kernel)
theorem im_X1_greatestNumber : Cond.instanceMethod yX1_greatestNumber ∈ lw_g := lw_g_of (i := 448) (by decide +kernel) (by decide +kernel)
theorem se_X1_greatestNumber : Cond.selects yX1_greatestNumber.cls yX1_greatestNumber yX1_greatestNumber ∈ lw_g := lw_g_of (i := 449) (by decide +kernel) (by decide +kernel)
theorem ml_FileRow_42 : Cond.methodLink "LevelStore$FileRow" 42 yX1_at ∈ lw_g := lw_g_of (i := 451) (by decide +kernel) (by decide +kernel)
theorem im_X1_at : Cond.instanceMethod yX1_at ∈ lw_g := lw_g_of (i := 452) (by decide +kernel) (by decide +kernel)
theorem se_X1_at : Cond.selects yX1_at.cls yX1_at yX1_at ∈ lw_g := lw_g_of (i := 453) (by decide +kernel) (by decide +kernel)
theorem ml_FileRow_22 : Cond.methodLink "LevelStore$FileRow" 22 yJx4a65c_get_915e3 ∈ lw_g := lw_g_of (i := 455) (by decide +kernel) (by decide +kernel)
theorem im_Jx4a65c_get_915e3 : Cond.instanceMethod yJx4a65c_get_915e3 ∈ lw_g := lw_g_of (i := 456) (by decide +kernel) (by decide +kernel)
theorem se_Jx4a65c_get_915e3 : Cond.selects yJx4a65c_get_915e3.cls yJx4a65c_get_915e3 yJx4a65c_get_915e3 ∈ lw_g := lw_g_of (i := 457) (by decide +kernel) (by decide +kernel)
theorem ml_ArrayList_123 : Cond.methodLink "java/util/ArrayList" 123 yJx4a65c_elementData_915e3 ∈ lw_g := lw_g_of (i := 459) (by decide +kernel) (by decide +kernel)
theorem im_Jx4a65c_elementData_915e3 : Cond.instanceMethod yJx4a65c_elementData_915e3 ∈ lw_g := lw_g_of (i := 460) (by decide +kernel) (by decide +kernel)
theorem se_Jx4a65c_elementData_915e3 : Cond.selects yJx4a65c_elementData_915e3.cls yJx4a65c_elementData_915e3 yJx4a65c_elementData_915e3 ∈ lw_g := lw_g_of (i := 461) (by decide +kernel) (by decide +kernel)
theorem ml_FileRow_86 : Cond.methodLink "LevelStore$FileRow" 86 yX4_greatestNumber ∈ lw_g := lw_g_of (i := 463) (by decide +kernel) (by decide +kernel)
theorem ml_FileRow_58 : Cond.methodLink "LevelStore$FileRow" 58 yJ9_max_7cf53 ∈ lw_g := lw_g_of (i := 464) (by decide +kernel) (by decide +kernel)
theorem ml_LevelStore_261 : Cond.methodLink "LevelStore" 261 yJ9_max_7cf53 ∈ lw_g := lw_g_of (i := 465) (by decide +kernel) (by decide +kernel)
theorem ml_LevelStoreLaw_32 : Cond.methodLink "LevelStoreLaw" 32 yX6_get ∈ lw_g := lw_g_of (i := 466) (by decide +kernel) (by decide +kernel)
theorem im_X6_get : Cond.instanceMethod yX6_get ∈ lw_g := lw_g_of (i := 467) (by decide +kernel) (by decide +kernel)
theorem se_X6_get : Cond.selects yX6_get.cls yX6_get yX6_get ∈ lw_g := lw_g_of (i := 468) (by decide +kernel) (by decide +kernel)
theorem ml_LevelStore_83 : Cond.methodLink "LevelStore" 83 yX6_readUpTo ∈ lw_g := lw_g_of (i := 470) (by decide +kernel) (by decide +kernel)
theorem im_X6_readUpTo : Cond.instanceMethod yX6_readUpTo ∈ lw_g := lw_g_of (i := 472) (by decide +kernel) (by decide +kernel)
theorem ml_LevelStore_94 : Cond.methodLink "LevelStore" 94 yX3_begin ∈ lw_g := lw_g_of (i := 474) (by decide +kernel) (by decide +kernel)
theorem im_X3_begin : Cond.instanceMethod yX3_begin ∈ lw_g := lw_g_of (i := 475) (by decide +kernel) (by decide +kernel)
theorem se_X3_begin : Cond.selects yX3_begin.cls yX3_begin yX3_begin ∈ lw_g := lw_g_of (i := 476) (by decide +kernel) (by decide +kernel)
theorem ml_Reading_18 : Cond.methodLink "LevelStore$Reading" 18 yJ9_max_7cf53 ∈ lw_g := lw_g_of (i := 478) (by decide +kernel) (by decide +kernel)
theorem ml_Reading_28 : Cond.methodLink "LevelStore$Reading" 28 yJ9_min_7cf53 ∈ lw_g := lw_g_of (i := 479) (by decide +kernel) (by decide +kernel)
theorem cn_Reading_37 : Cond.constant "LevelStore$Reading" 37 (-1000009 : Int32) ∈ lw_g := lw_g_of (i := 480) (by decide +kernel) (by decide +kernel)
theorem ml_LevelStore_98 : Cond.methodLink "LevelStore" 98 yX6_readAll ∈ lw_g := lw_g_of (i := 481) (by decide +kernel) (by decide +kernel)
theorem im_X6_readAll : Cond.instanceMethod yX6_readAll ∈ lw_g := lw_g_of (i := 483) (by decide +kernel) (by decide +kernel)
theorem ml_LevelStore_273 : Cond.methodLink "LevelStore" 273 yX3_take ∈ lw_g := lw_g_of (i := 485) (by decide +kernel) (by decide +kernel)
theorem im_X3_take : Cond.instanceMethod yX3_take ∈ lw_g := lw_g_of (i := 486) (by decide +kernel) (by decide +kernel)
theorem se_X3_take : Cond.selects yX3_take.cls yX3_take yX3_take ∈ lw_g := lw_g_of (i := 487) (by decide +kernel) (by decide +kernel)
theorem ml_Reading_52 : Cond.methodLink "LevelStore$Reading" 52 yX4_key ∈ lw_g := lw_g_of (i := 489) (by decide +kernel) (by decide +kernel)
theorem im_X4_key : Cond.instanceMethod yX4_key ∈ lw_g := lw_g_of (i := 490) (by decide +kernel) (by decide +kernel)
theorem se_X4_key : Cond.selects yX4_key.cls yX4_key yX4_key ∈ lw_g := lw_g_of (i := 491) (by decide +kernel) (by decide +kernel)
theorem ml_Reading_56 : Cond.methodLink "LevelStore$Reading" 56 yX4_number ∈ lw_g := lw_g_of (i := 493) (by decide +kernel) (by decide +kernel)
theorem ml_Reading_59 : Cond.methodLink "LevelStore$Reading" 59 yX4_value ∈ lw_g := lw_g_of (i := 494) (by decide +kernel) (by decide +kernel)
theorem im_X4_value : Cond.instanceMethod yX4_value ∈ lw_g := lw_g_of (i := 495) (by decide +kernel) (by decide +kernel)
theorem se_X4_value : Cond.selects yX4_value.cls yX4_value yX4_value ∈ lw_g := lw_g_of (i := 496) (by decide +kernel) (by decide +kernel)
theorem ml_LevelStore_277 : Cond.methodLink "LevelStore" 277 yX1_letRead ∈ lw_g := lw_g_of (i := 498) (by decide +kernel) (by decide +kernel)
theorem im_X1_letRead : Cond.instanceMethod yX1_letRead ∈ lw_g := lw_g_of (i := 499) (by decide +kernel) (by decide +kernel)
theorem se_X1_letRead : Cond.selects yX1_letRead.cls yX1_letRead yX1_letRead ∈ lw_g := lw_g_of (i := 500) (by decide +kernel) (by decide +kernel)
theorem ml_FileRow_71 : Cond.methodLink "LevelStore$FileRow" 71 yX3_concerns ∈ lw_g := lw_g_of (i := 502) (by decide +kernel) (by decide +kernel)
theorem im_X3_concerns : Cond.instanceMethod yX3_concerns ∈ lw_g := lw_g_of (i := 503) (by decide +kernel) (by decide +kernel)
theorem se_X3_concerns : Cond.selects yX3_concerns.cls yX3_concerns yX3_concerns ∈ lw_g := lw_g_of (i := 504) (by decide +kernel) (by decide +kernel)
theorem ml_Reading_38 : Cond.methodLink "LevelStore$Reading" 38 yX5_leastKey ∈ lw_g := lw_g_of (i := 506) (by decide +kernel) (by decide +kernel)
theorem im_X5_leastKey : Cond.instanceMethod yX5_leastKey ∈ lw_g := lw_g_of (i := 507) (by decide +kernel) (by decide +kernel)
theorem se_X5_leastKey : Cond.selects yX5_leastKey.cls yX5_leastKey yX5_leastKey ∈ lw_g := lw_g_of (i := 508) (by decide +kernel) (by decide +kernel)
theorem ml_SortedFile_20 : Cond.methodLink "LevelStore$SortedFile" 20 yX4_key ∈ lw_g := lw_g_of (i := 510) (by decide +kernel) (by decide +kernel)
theorem ml_Reading_44 : Cond.methodLink "LevelStore$Reading" 44 yX5_greatestKey ∈ lw_g := lw_g_of (i := 511) (by decide +kernel) (by decide +kernel)
theorem im_X5_greatestKey : Cond.instanceMethod yX5_greatestKey ∈ lw_g := lw_g_of (i := 512) (by decide +kernel) (by decide +kernel)
theorem se_X5_greatestKey : Cond.selects yX5_greatestKey.cls yX5_greatestKey yX5_greatestKey ∈ lw_g := lw_g_of (i := 513) (by decide +kernel) (by decide +kernel)
theorem ml_FileRow_77 : Cond.methodLink "LevelStore$FileRow" 77 yX3_take ∈ lw_g := lw_g_of (i := 515) (by decide +kernel) (by decide +kernel)
theorem ml_LevelStore_270 : Cond.methodLink "LevelStore" 270 yX3_valueOf ∈ lw_g := lw_g_of (i := 516) (by decide +kernel) (by decide +kernel)
theorem im_X3_valueOf : Cond.instanceMethod yX3_valueOf ∈ lw_g := lw_g_of (i := 517) (by decide +kernel) (by decide +kernel)
theorem se_X3_valueOf : Cond.selects yX3_valueOf.cls yX3_valueOf yX3_valueOf ∈ lw_g := lw_g_of (i := 518) (by decide +kernel) (by decide +kernel)
theorem ml_LevelStoreLaw_36 : Cond.methodLink "LevelStoreLaw" 36 yX6_view ∈ lw_g := lw_g_of (i := 520) (by decide +kernel) (by decide +kernel)
theorem im_X6_view : Cond.instanceMethod yX6_view ∈ lw_g := lw_g_of (i := 521) (by decide +kernel) (by decide +kernel)
theorem se_X6_view : Cond.selects yX6_view.cls yX6_view yX6_view ∈ lw_g := lw_g_of (i := 522) (by decide +kernel) (by decide +kernel)
theorem ml_LevelStore_86 : Cond.methodLink "LevelStore" 86 yX6_isHeld ∈ lw_g := lw_g_of (i := 524) (by decide +kernel) (by decide +kernel)
theorem im_X6_isHeld : Cond.instanceMethod yX6_isHeld ∈ lw_g := lw_g_of (i := 526) (by decide +kernel) (by decide +kernel)
theorem ml_LevelStore_90 : Cond.methodLink "LevelStore" 90 yX6_numberOfView ∈ lw_g := lw_g_of (i := 528) (by decide +kernel) (by decide +kernel)
theorem im_X6_numberOfView : Cond.instanceMethod yX6_numberOfView ∈ lw_g := lw_g_of (i := 530) (by decide +kernel) (by decide +kernel)
theorem ml_LevelStore_104 : Cond.methodLink "LevelStore" 104 yX6_isView ∈ lw_g := lw_g_of (i := 532) (by decide +kernel) (by decide +kernel)
theorem im_X6_isView : Cond.instanceMethod yX6_isView ∈ lw_g := lw_g_of (i := 534) (by decide +kernel) (by decide +kernel)
theorem cn_LevelStore_89 : Cond.constant "LevelStore" 89 (-1000001 : Int32) ∈ lw_g := lw_g_of (i := 536) (by decide +kernel) (by decide +kernel)
theorem ml_LevelStoreLaw_40 : Cond.methodLink "LevelStoreLaw" 40 yX6_next ∈ lw_g := lw_g_of (i := 537) (by decide +kernel) (by decide +kernel)
theorem im_X6_next : Cond.instanceMethod yX6_next ∈ lw_g := lw_g_of (i := 538) (by decide +kernel) (by decide +kernel)
theorem se_X6_next : Cond.selects yX6_next.cls yX6_next yX6_next ∈ lw_g := lw_g_of (i := 539) (by decide +kernel) (by decide +kernel)
theorem ml_LevelStore_101 : Cond.methodLink "LevelStore" 101 yX3_leastKeyWithValue ∈ lw_g := lw_g_of (i := 541) (by decide +kernel) (by decide +kernel)
theorem im_X3_leastKeyWithValue : Cond.instanceMethod yX3_leastKeyWithValue ∈ lw_g := lw_g_of (i := 542) (by decide +kernel) (by decide +kernel)
theorem se_X3_leastKeyWithValue : Cond.selects yX3_leastKeyWithValue.cls yX3_leastKeyWithValue yX3_leastKeyWithValue ∈ lw_g := lw_g_of (i := 543) (by decide +kernel) (by decide +kernel)
theorem ml_LevelStoreLaw_44 : Cond.methodLink "LevelStoreLaw" 44 yX6_hold ∈ lw_g := lw_g_of (i := 545) (by decide +kernel) (by decide +kernel)
theorem im_X6_hold : Cond.instanceMethod yX6_hold ∈ lw_g := lw_g_of (i := 546) (by decide +kernel) (by decide +kernel)
theorem se_X6_hold : Cond.selects yX6_hold.cls yX6_hold yX6_hold ∈ lw_g := lw_g_of (i := 547) (by decide +kernel) (by decide +kernel)
theorem cn_LevelStore_107 : Cond.constant "LevelStore" 107 (-1000003 : Int32) ∈ lw_g := lw_g_of (i := 549) (by decide +kernel) (by decide +kernel)
theorem ml_LevelStoreLaw_48 : Cond.methodLink "LevelStoreLaw" 48 yX6_release ∈ lw_g := lw_g_of (i := 550) (by decide +kernel) (by decide +kernel)
theorem im_X6_release : Cond.instanceMethod yX6_release ∈ lw_g := lw_g_of (i := 551) (by decide +kernel) (by decide +kernel)
theorem se_X6_release : Cond.selects yX6_release.cls yX6_release yX6_release ∈ lw_g := lw_g_of (i := 552) (by decide +kernel) (by decide +kernel)
theorem ml_LevelStoreLaw_52 : Cond.methodLink "LevelStoreLaw" 52 yX6_flush ∈ lw_g := lw_g_of (i := 554) (by decide +kernel) (by decide +kernel)
theorem im_X6_flush : Cond.instanceMethod yX6_flush ∈ lw_g := lw_g_of (i := 555) (by decide +kernel) (by decide +kernel)
theorem se_X6_flush : Cond.selects yX6_flush.cls yX6_flush yX6_flush ∈ lw_g := lw_g_of (i := 556) (by decide +kernel) (by decide +kernel)
theorem ml_LevelStore_112 : Cond.methodLink "LevelStore" 112 yX2_begin ∈ lw_g := lw_g_of (i := 558) (by decide +kernel) (by decide +kernel)
theorem im_X2_begin : Cond.instanceMethod yX2_begin ∈ lw_g := lw_g_of (i := 559) (by decide +kernel) (by decide +kernel)
theorem se_X2_begin : Cond.selects yX2_begin.cls yX2_begin yX2_begin ∈ lw_g := lw_g_of (i := 560) (by decide +kernel) (by decide +kernel)
theorem ml_LevelStore_115 : Cond.methodLink "LevelStore" 115 yX6_files ∈ lw_g := lw_g_of (i := 562) (by decide +kernel) (by decide +kernel)
theorem im_X6_files : Cond.instanceMethod yX6_files ∈ lw_g := lw_g_of (i := 563) (by decide +kernel) (by decide +kernel)
theorem se_X6_files : Cond.selects yX6_files.cls yX6_files yX6_files ∈ lw_g := lw_g_of (i := 564) (by decide +kernel) (by decide +kernel)
theorem ml_LevelStore_146 : Cond.methodLink "LevelStore" 146 yX6_levelAt ∈ lw_g := lw_g_of (i := 566) (by decide +kernel) (by decide +kernel)
theorem im_X6_levelAt : Cond.instanceMethod yX6_levelAt ∈ lw_g := lw_g_of (i := 568) (by decide +kernel) (by decide +kernel)
theorem ml_LevelStore_127 : Cond.methodLink "LevelStore" 127 yX4_key ∈ lw_g := lw_g_of (i := 570) (by decide +kernel) (by decide +kernel)
theorem ml_LevelStore_130 : Cond.methodLink "LevelStore" 130 yX4_number ∈ lw_g := lw_g_of (i := 571) (by decide +kernel) (by decide +kernel)
theorem ml_LevelStore_133 : Cond.methodLink "LevelStore" 133 yX4_value ∈ lw_g := lw_g_of (i := 572) (by decide +kernel) (by decide +kernel)
theorem ml_LevelStore_136 : Cond.methodLink "LevelStore" 136 yX4_insert ∈ lw_g := lw_g_of (i := 573) (by decide +kernel) (by decide +kernel)
theorem im_X4_insert : Cond.instanceMethod yX4_insert ∈ lw_g := lw_g_of (i := 574) (by decide +kernel) (by decide +kernel)
theorem se_X4_insert : Cond.selects yX4_insert.cls yX4_insert yX4_insert ∈ lw_g := lw_g_of (i := 575) (by decide +kernel) (by decide +kernel)
theorem ml_Row_58 : Cond.methodLink "LevelStore$Row" 58 yX4_standsBehind ∈ lw_g := lw_g_of (i := 577) (by decide +kernel) (by decide +kernel)
theorem im_X4_standsBehind : Cond.instanceMethod yX4_standsBehind ∈ lw_g := lw_g_of (i := 578) (by decide +kernel) (by decide +kernel)
theorem se_X4_standsBehind : Cond.selects yX4_standsBehind.cls yX4_standsBehind yX4_standsBehind ∈ lw_g := lw_g_of (i := 579) (by decide +kernel) (by decide +kernel)
theorem ml_Row_41 : Cond.methodLink "LevelStore$Row" 41 yX4_key ∈ lw_g := lw_g_of (i := 581) (by decide +kernel) (by decide +kernel)
theorem ml_Row_54 : Cond.methodLink "LevelStore$Row" 54 yX4_copyTo ∈ lw_g := lw_g_of (i := 582) (by decide +kernel) (by decide +kernel)
theorem im_X4_copyTo : Cond.instanceMethod yX4_copyTo ∈ lw_g := lw_g_of (i := 583) (by decide +kernel) (by decide +kernel)
theorem se_X4_copyTo : Cond.selects yX4_copyTo.cls yX4_copyTo yX4_copyTo ∈ lw_g := lw_g_of (i := 584) (by decide +kernel) (by decide +kernel)
theorem ml_Row_32 : Cond.methodLink "LevelStore$Row" 32 yX4_value ∈ lw_g := lw_g_of (i := 586) (by decide +kernel) (by decide +kernel)
theorem ml_LevelStore_139 : Cond.methodLink "LevelStore" 139 yX2_decide ∈ lw_g := lw_g_of (i := 587) (by decide +kernel) (by decide +kernel)
theorem im_X2_decide : Cond.instanceMethod yX2_decide ∈ lw_g := lw_g_of (i := 588) (by decide +kernel) (by decide +kernel)
theorem se_X2_decide : Cond.selects yX2_decide.cls yX2_decide yX2_decide ∈ lw_g := lw_g_of (i := 589) (by decide +kernel) (by decide +kernel)
theorem ml_Job_54 : Cond.methodLink "LevelStore$Job" 54 yX2_isFirstOfKey ∈ lw_g := lw_g_of (i := 591) (by decide +kernel) (by decide +kernel)
theorem im_X2_isFirstOfKey : Cond.instanceMethod yX2_isFirstOfKey ∈ lw_g := lw_g_of (i := 593) (by decide +kernel) (by decide +kernel)
theorem ml_Job_77 : Cond.methodLink "LevelStore$Job" 77 yX4_key ∈ lw_g := lw_g_of (i := 595) (by decide +kernel) (by decide +kernel)
theorem ml_Job_58 : Cond.methodLink "LevelStore$Job" 58 yX2_isSeen ∈ lw_g := lw_g_of (i := 596) (by decide +kernel) (by decide +kernel)
theorem im_X2_isSeen : Cond.instanceMethod yX2_isSeen ∈ lw_g := lw_g_of (i := 598) (by decide +kernel) (by decide +kernel)
theorem ml_Job_81 : Cond.methodLink "LevelStore$Job" 81 yX4_number ∈ lw_g := lw_g_of (i := 600) (by decide +kernel) (by decide +kernel)
theorem ml_Job_62 : Cond.methodLink "LevelStore$Job" 62 yX2_leaveOutGraves ∈ lw_g := lw_g_of (i := 601) (by decide +kernel) (by decide +kernel)
theorem im_X2_leaveOutGraves : Cond.instanceMethod yX2_leaveOutGraves ∈ lw_g := lw_g_of (i := 603) (by decide +kernel) (by decide +kernel)
theorem ml_Job_65 : Cond.methodLink "LevelStore$Job" 65 yJ9_min_7cf53 ∈ lw_g := lw_g_of (i := 605) (by decide +kernel) (by decide +kernel)
theorem ml_Job_71 : Cond.methodLink "LevelStore$Job" 71 yX2_isLastOfKey ∈ lw_g := lw_g_of (i := 606) (by decide +kernel) (by decide +kernel)
theorem im_X2_isLastOfKey : Cond.instanceMethod yX2_isLastOfKey ∈ lw_g := lw_g_of (i := 608) (by decide +kernel) (by decide +kernel)
theorem ml_Job_74 : Cond.methodLink "LevelStore$Job" 74 yX4_isGrave ∈ lw_g := lw_g_of (i := 610) (by decide +kernel) (by decide +kernel)
theorem im_X4_isGrave : Cond.instanceMethod yX4_isGrave ∈ lw_g := lw_g_of (i := 611) (by decide +kernel) (by decide +kernel)
theorem se_X4_isGrave : Cond.selects yX4_isGrave.cls yX4_isGrave yX4_isGrave ∈ lw_g := lw_g_of (i := 612) (by decide +kernel) (by decide +kernel)
theorem ml_LevelStore_143 : Cond.methodLink "LevelStore" 143 yX2_left ∈ lw_g := lw_g_of (i := 614) (by decide +kernel) (by decide +kernel)
theorem im_X2_left : Cond.instanceMethod yX2_left ∈ lw_g := lw_g_of (i := 615) (by decide +kernel) (by decide +kernel)
theorem se_X2_left : Cond.selects yX2_left.cls yX2_left yX2_left ∈ lw_g := lw_g_of (i := 616) (by decide +kernel) (by decide +kernel)
theorem ml_LevelStoreLaw_56 : Cond.methodLink "LevelStoreLaw" 56 yX6_merge ∈ lw_g := lw_g_of (i := 618) (by decide +kernel) (by decide +kernel)
theorem im_X6_merge : Cond.instanceMethod yX6_merge ∈ lw_g := lw_g_of (i := 619) (by decide +kernel) (by decide +kernel)
theorem se_X6_merge : Cond.selects yX6_merge.cls yX6_merge yX6_merge ∈ lw_g := lw_g_of (i := 620) (by decide +kernel) (by decide +kernel)
theorem ml_LevelStore_150 : Cond.methodLink "LevelStore" 150 yX1_at ∈ lw_g := lw_g_of (i := 622) (by decide +kernel) (by decide +kernel)
theorem ml_LevelStore_162 : Cond.methodLink "LevelStore" 162 yX1_leastKey ∈ lw_g := lw_g_of (i := 623) (by decide +kernel) (by decide +kernel)
theorem im_X1_leastKey : Cond.instanceMethod yX1_leastKey ∈ lw_g := lw_g_of (i := 624) (by decide +kernel) (by decide +kernel)
theorem se_X1_leastKey : Cond.selects yX1_leastKey.cls yX1_leastKey yX1_leastKey ∈ lw_g := lw_g_of (i := 625) (by decide +kernel) (by decide +kernel)
theorem ml_FileRow_46 : Cond.methodLink "LevelStore$FileRow" 46 yX5_leastKey ∈ lw_g := lw_g_of (i := 627) (by decide +kernel) (by decide +kernel)
theorem ml_FileRow_49 : Cond.methodLink "LevelStore$FileRow" 49 yJ9_min_7cf53 ∈ lw_g := lw_g_of (i := 628) (by decide +kernel) (by decide +kernel)
theorem ml_LevelStore_165 : Cond.methodLink "LevelStore" 165 yX1_howManyEndBelow ∈ lw_g := lw_g_of (i := 629) (by decide +kernel) (by decide +kernel)
theorem im_X1_howManyEndBelow : Cond.instanceMethod yX1_howManyEndBelow ∈ lw_g := lw_g_of (i := 630) (by decide +kernel) (by decide +kernel)
theorem se_X1_howManyEndBelow : Cond.selects yX1_howManyEndBelow.cls yX1_howManyEndBelow yX1_howManyEndBelow ∈ lw_g := lw_g_of (i := 631) (by decide +kernel) (by decide +kernel)
theorem ml_FileRow_55 : Cond.methodLink "LevelStore$FileRow" 55 yX5_greatestKey ∈ lw_g := lw_g_of (i := 633) (by decide +kernel) (by decide +kernel)
theorem ml_LevelStore_168 : Cond.methodLink "LevelStore" 168 yX1_greatestKey ∈ lw_g := lw_g_of (i := 634) (by decide +kernel) (by decide +kernel)
theorem im_X1_greatestKey : Cond.instanceMethod yX1_greatestKey ∈ lw_g := lw_g_of (i := 635) (by decide +kernel) (by decide +kernel)
theorem se_X1_greatestKey : Cond.selects yX1_greatestKey.cls yX1_greatestKey yX1_greatestKey ∈ lw_g := lw_g_of (i := 636) (by decide +kernel) (by decide +kernel)
theorem ml_LevelStore_171 : Cond.methodLink "LevelStore" 171 yX1_howManyBeginUpTo ∈ lw_g := lw_g_of (i := 638) (by decide +kernel) (by decide +kernel)
theorem im_X1_howManyBeginUpTo : Cond.instanceMethod yX1_howManyBeginUpTo ∈ lw_g := lw_g_of (i := 639) (by decide +kernel) (by decide +kernel)
theorem se_X1_howManyBeginUpTo : Cond.selects yX1_howManyBeginUpTo.cls yX1_howManyBeginUpTo yX1_howManyBeginUpTo ∈ lw_g := lw_g_of (i := 640) (by decide +kernel) (by decide +kernel)
theorem ml_LevelStore_174 : Cond.methodLink "LevelStore" 174 yX1_mergeInto ∈ lw_g := lw_g_of (i := 642) (by decide +kernel) (by decide +kernel)
theorem im_X1_mergeInto : Cond.instanceMethod yX1_mergeInto ∈ lw_g := lw_g_of (i := 643) (by decide +kernel) (by decide +kernel)
theorem se_X1_mergeInto : Cond.selects yX1_mergeInto.cls yX1_mergeInto yX1_mergeInto ∈ lw_g := lw_g_of (i := 644) (by decide +kernel) (by decide +kernel)
theorem ml_FileRow_65 : Cond.methodLink "LevelStore$FileRow" 65 yX4_mergeIn ∈ lw_g := lw_g_of (i := 646) (by decide +kernel) (by decide +kernel)
theorem im_X4_mergeIn : Cond.instanceMethod yX4_mergeIn ∈ lw_g := lw_g_of (i := 647) (by decide +kernel) (by decide +kernel)
theorem se_X4_mergeIn : Cond.selects yX4_mergeIn.cls yX4_mergeIn yX4_mergeIn ∈ lw_g := lw_g_of (i := 648) (by decide +kernel) (by decide +kernel)
theorem ml_LevelStoreLaw_60 : Cond.methodLink "LevelStoreLaw" 60 yX6_work ∈ lw_g := lw_g_of (i := 650) (by decide +kernel) (by decide +kernel)
theorem im_X6_work : Cond.instanceMethod yX6_work ∈ lw_g := lw_g_of (i := 651) (by decide +kernel) (by decide +kernel)
theorem se_X6_work : Cond.selects yX6_work.cls yX6_work yX6_work ∈ lw_g := lw_g_of (i := 652) (by decide +kernel) (by decide +kernel)
theorem ml_LevelStore_178 : Cond.methodLink "LevelStore" 178 yX6_doOneEntry ∈ lw_g := lw_g_of (i := 654) (by decide +kernel) (by decide +kernel)
theorem im_X6_doOneEntry : Cond.instanceMethod yX6_doOneEntry ∈ lw_g := lw_g_of (i := 656) (by decide +kernel) (by decide +kernel)
theorem ml_LevelStore_284 : Cond.methodLink "LevelStore" 284 yX2_isLeftOut ∈ lw_g := lw_g_of (i := 658) (by decide +kernel) (by decide +kernel)
theorem im_X2_isLeftOut : Cond.instanceMethod yX2_isLeftOut ∈ lw_g := lw_g_of (i := 659) (by decide +kernel) (by decide +kernel)
theorem se_X2_isLeftOut : Cond.selects yX2_isLeftOut.cls yX2_isLeftOut yX2_isLeftOut ∈ lw_g := lw_g_of (i := 660) (by decide +kernel) (by decide +kernel)
theorem ml_LevelStore_287 : Cond.methodLink "LevelStore" 287 yX2_endsFileAhead ∈ lw_g := lw_g_of (i := 662) (by decide +kernel) (by decide +kernel)
theorem im_X2_endsFileAhead : Cond.instanceMethod yX2_endsFileAhead ∈ lw_g := lw_g_of (i := 663) (by decide +kernel) (by decide +kernel)
theorem se_X2_endsFileAhead : Cond.selects yX2_endsFileAhead.cls yX2_endsFileAhead yX2_endsFileAhead ∈ lw_g := lw_g_of (i := 664) (by decide +kernel) (by decide +kernel)
theorem ml_LevelStore_182 : Cond.methodLink "LevelStore" 182 yX6_endFile ∈ lw_g := lw_g_of (i := 666) (by decide +kernel) (by decide +kernel)
theorem im_X6_endFile : Cond.instanceMethod yX6_endFile ∈ lw_g := lw_g_of (i := 668) (by decide +kernel) (by decide +kernel)
theorem ml_LevelStore_293 : Cond.methodLink "LevelStore" 293 yX6_freshFile ∈ lw_g := lw_g_of (i := 670) (by decide +kernel) (by decide +kernel)
theorem im_X6_freshFile : Cond.instanceMethod yX6_freshFile ∈ lw_g := lw_g_of (i := 672) (by decide +kernel) (by decide +kernel)
theorem cl_LevelStore_213 : Cond.classLink "LevelStore" 213 "LevelStore$SortedFile" ∈ lw_g := lw_g_of (i := 674) (by decide +kernel) (by decide +kernel)
theorem in_SortedFile : Cond.instantiable "LevelStore$SortedFile" 4 ∈ lw_g := lw_g_of (i := 675) (by decide +kernel) (by decide +kernel)
theorem ml_LevelStore_309 : Cond.methodLink "LevelStore" 309 yX5_init ∈ lw_g := lw_g_of (i := 676) (by decide +kernel) (by decide +kernel)
theorem im_X5_init : Cond.instanceMethod yX5_init ∈ lw_g := lw_g_of (i := 677) (by decide +kernel) (by decide +kernel)
theorem ml_SortedFile_3 : Cond.methodLink "LevelStore$SortedFile" 3 Lib.objectInit ∈ lw_g := lw_g_of (i := 679) (by decide +kernel) (by decide +kernel)
theorem cl_SortedFile_9 : Cond.classLink "LevelStore$SortedFile" 9 "LevelStore$Row" ∈ lw_g := lw_g_of (i := 680) (by decide +kernel) (by decide +kernel)
theorem ml_SortedFile_11 : Cond.methodLink "LevelStore$SortedFile" 11 yX4_init ∈ lw_g := lw_g_of (i := 681) (by decide +kernel) (by decide +kernel)
theorem fl_SortedFile_14 : ab_FL "LevelStore$SortedFile" 14 6 0 RX5 TX5 4 := ⟨ab_k6, by decide, "LevelStore$SortedFile", lw_g_of (i := 682) (by decide +kernel) (by decide +kernel), Or.inl rfl⟩
theorem fl_Field_22 : ab_FL "LevelStore$Field" 22 6 0 RX5 TX5 4 := ⟨ab_k6, by decide, "LevelStore$SortedFile", lw_g_of (i := 683) (by decide +kernel) (by decide +kernel), Or.inl rfl⟩
theorem fl_FileRow_61 : ab_FL "LevelStore$FileRow" 61 6 0 RX5 TX5 4 := ⟨ab_k6, by decide, "LevelStore$SortedFile", lw_g_of (i := 684) (by decide +kernel) (by decide +kernel), Or.inl rfl⟩
theorem fl_LevelStore_216 : ab_FL "LevelStore" 216 6 0 RX5 TX5 4 := ⟨ab_k6, by decide, "LevelStore$SortedFile", lw_g_of (i := 685) (by decide +kernel) (by decide +kernel), Or.inl rfl⟩
theorem fl_LevelStore_212 : ab_FL "LevelStore" 212 6 1 RX5 TX5 4 := ⟨ab_k6, by decide, "LevelStore$SortedFile", lw_g_of (i := 686) (by decide +kernel) (by decide +kernel), Or.inl rfl⟩
theorem fl_Field_40 : ab_FL "LevelStore$Field" 40 6 2 RX5 TX5 4 := ⟨ab_k6, by decide, "LevelStore$SortedFile", lw_g_of (i := 687) (by decide +kernel) (by decide +kernel), Or.inl rfl⟩
theorem fl_LevelStore_223 : ab_FL "LevelStore" 223 6 2 RX5 TX5 4 := ⟨ab_k6, by decide, "LevelStore$SortedFile", lw_g_of (i := 688) (by decide +kernel) (by decide +kernel), Or.inl rfl⟩
theorem fl_Field_43 : ab_FL "LevelStore$Field" 43 6 3 RX5 TX5 4 := ⟨ab_k6, by decide, "LevelStore$SortedFile", lw_g_of (i := 689) (by decide +kernel) (by decide +kernel), Or.inl rfl⟩
theorem fl_FileRow_80 : ab_FL "LevelStore$FileRow" 80 6 3 RX5 TX5 4 := ⟨ab_k6, by decide, "LevelStore$SortedFile", lw_g_of (i := 690) (by decide +kernel) (by decide +kernel), Or.inl rfl⟩
theorem fl_LevelStore_226 : ab_FL "LevelStore" 226 6 3 RX5 TX5 4 := ⟨ab_k6, by decide, "LevelStore$SortedFile", lw_g_of (i := 691) (by decide +kernel) (by decide +kernel), Or.inl rfl⟩
theorem ml_LevelStore_297 : Cond.methodLink "LevelStore" 297 yX4_takeAll ∈ lw_g := lw_g_of (i := 701) (by decide +kernel) (by decide +kernel)
theorem im_X4_takeAll : Cond.instanceMethod yX4_takeAll ∈ lw_g := lw_g_of (i := 702) (by decide +kernel) (by decide +kernel)
theorem se_X4_takeAll : Cond.selects yX4_takeAll.cls yX4_takeAll yX4_takeAll ∈ lw_g := lw_g_of (i := 703) (by decide +kernel) (by decide +kernel)
theorem ml_Row_51 : Cond.methodLink "LevelStore$Row" 51 yJ9_min_7cf53 ∈ lw_g := lw_g_of (i := 705) (by decide +kernel) (by decide +kernel)
theorem ml_LevelStore_300 : Cond.methodLink "LevelStore" 300 yX0_lay ∈ lw_g := lw_g_of (i := 706) (by decide +kernel) (by decide +kernel)
theorem im_X0_lay : Cond.instanceMethod yX0_lay ∈ lw_g := lw_g_of (i := 707) (by decide +kernel) (by decide +kernel)
theorem se_X0_lay : Cond.selects yX0_lay.cls yX0_lay yX0_lay ∈ lw_g := lw_g_of (i := 708) (by decide +kernel) (by decide +kernel)
theorem ml_Field_28 : Cond.methodLink "LevelStore$Field" 28 yX0_encode ∈ lw_g := lw_g_of (i := 710) (by decide +kernel) (by decide +kernel)
theorem im_X0_encode : Cond.instanceMethod yX0_encode ∈ lw_g := lw_g_of (i := 712) (by decide +kernel) (by decide +kernel)
theorem ml_Field_59 : Cond.methodLink "LevelStore$Field" 59 yX0_emit ∈ lw_g := lw_g_of (i := 714) (by decide +kernel) (by decide +kernel)
theorem im_X0_emit : Cond.instanceMethod yX0_emit ∈ lw_g := lw_g_of (i := 716) (by decide +kernel) (by decide +kernel)
theorem ml_Field_63 : Cond.methodLink "LevelStore$Field" 63 yX4_key ∈ lw_g := lw_g_of (i := 718) (by decide +kernel) (by decide +kernel)
theorem ml_Field_66 : Cond.methodLink "LevelStore$Field" 66 yX0_emitShort ∈ lw_g := lw_g_of (i := 719) (by decide +kernel) (by decide +kernel)
theorem im_X0_emitShort : Cond.instanceMethod yX0_emitShort ∈ lw_g := lw_g_of (i := 721) (by decide +kernel) (by decide +kernel)
theorem ml_Field_69 : Cond.methodLink "LevelStore$Field" 69 yX4_number ∈ lw_g := lw_g_of (i := 723) (by decide +kernel) (by decide +kernel)
theorem ml_Field_72 : Cond.methodLink "LevelStore$Field" 72 yX4_isGrave ∈ lw_g := lw_g_of (i := 724) (by decide +kernel) (by decide +kernel)
theorem ml_Field_75 : Cond.methodLink "LevelStore$Field" 75 yX4_value ∈ lw_g := lw_g_of (i := 725) (by decide +kernel) (by decide +kernel)
theorem ml_Field_78 : Cond.methodLink "LevelStore$Field" 78 yX0_folded ∈ lw_g := lw_g_of (i := 726) (by decide +kernel) (by decide +kernel)
theorem sm_X0_folded : Cond.static yX0_folded ∈ lw_g := lw_g_of (i := 727) (by decide +kernel) (by decide +kernel)
theorem ml_Field_81 : Cond.methodLink "LevelStore$Field" 81 yX0_sumOfCode ∈ lw_g := lw_g_of (i := 729) (by decide +kernel) (by decide +kernel)
theorem im_X0_sumOfCode : Cond.instanceMethod yX0_sumOfCode ∈ lw_g := lw_g_of (i := 731) (by decide +kernel) (by decide +kernel)
theorem ml_Field_36 : Cond.methodLink "LevelStore$Field" 36 yX0_firstRoom ∈ lw_g := lw_g_of (i := 733) (by decide +kernel) (by decide +kernel)
theorem im_X0_firstRoom : Cond.instanceMethod yX0_firstRoom ∈ lw_g := lw_g_of (i := 735) (by decide +kernel) (by decide +kernel)
theorem ml_LevelStoreLaw_64 : Cond.methodLink "LevelStoreLaw" 64 yX6_install ∈ lw_g := lw_g_of (i := 737) (by decide +kernel) (by decide +kernel)
theorem im_X6_install : Cond.instanceMethod yX6_install ∈ lw_g := lw_g_of (i := 738) (by decide +kernel) (by decide +kernel)
theorem se_X6_install : Cond.selects yX6_install.cls yX6_install yX6_install ∈ lw_g := lw_g_of (i := 739) (by decide +kernel) (by decide +kernel)
theorem ml_LevelStore_199 : Cond.methodLink "LevelStore" 199 yX1_insert ∈ lw_g := lw_g_of (i := 741) (by decide +kernel) (by decide +kernel)
theorem ml_LevelStore_202 : Cond.methodLink "LevelStore" 202 yX6_loseFirstLogged ∈ lw_g := lw_g_of (i := 742) (by decide +kernel) (by decide +kernel)
theorem im_X6_loseFirstLogged : Cond.instanceMethod yX6_loseFirstLogged ∈ lw_g := lw_g_of (i := 744) (by decide +kernel) (by decide +kernel)
theorem ml_LevelStore_258 : Cond.methodLink "LevelStore" 258 yX4_loseFirst ∈ lw_g := lw_g_of (i := 746) (by decide +kernel) (by decide +kernel)
theorem im_X4_loseFirst : Cond.instanceMethod yX4_loseFirst ∈ lw_g := lw_g_of (i := 747) (by decide +kernel) (by decide +kernel)
theorem se_X4_loseFirst : Cond.selects yX4_loseFirst.cls yX4_loseFirst yX4_loseFirst ∈ lw_g := lw_g_of (i := 748) (by decide +kernel) (by decide +kernel)
theorem ml_LevelStoreLaw_68 : Cond.methodLink "LevelStoreLaw" 68 yX6_stop ∈ lw_g := lw_g_of (i := 750) (by decide +kernel) (by decide +kernel)
theorem im_X6_stop : Cond.instanceMethod yX6_stop ∈ lw_g := lw_g_of (i := 751) (by decide +kernel) (by decide +kernel)
theorem se_X6_stop : Cond.selects yX6_stop.cls yX6_stop yX6_stop ∈ lw_g := lw_g_of (i := 752) (by decide +kernel) (by decide +kernel)
theorem ml_LevelStoreLaw_72 : Cond.methodLink "LevelStoreLaw" 72 yX6_high ∈ lw_g := lw_g_of (i := 754) (by decide +kernel) (by decide +kernel)
theorem im_X6_high : Cond.instanceMethod yX6_high ∈ lw_g := lw_g_of (i := 755) (by decide +kernel) (by decide +kernel)
theorem se_X6_high : Cond.selects yX6_high.cls yX6_high yX6_high ∈ lw_g := lw_g_of (i := 756) (by decide +kernel) (by decide +kernel)
theorem ml_LevelStoreLaw_76 : Cond.methodLink "LevelStoreLaw" 76 yX6_files ∈ lw_g := lw_g_of (i := 758) (by decide +kernel) (by decide +kernel)
theorem ml_LevelStoreLaw_80 : Cond.methodLink "LevelStoreLaw" 80 yX6_file ∈ lw_g := lw_g_of (i := 759) (by decide +kernel) (by decide +kernel)
theorem im_X6_file : Cond.instanceMethod yX6_file ∈ lw_g := lw_g_of (i := 760) (by decide +kernel) (by decide +kernel)
theorem se_X6_file : Cond.selects yX6_file.cls yX6_file yX6_file ∈ lw_g := lw_g_of (i := 761) (by decide +kernel) (by decide +kernel)
theorem ml_LevelStore_208 : Cond.methodLink "LevelStore" 208 yX6_fileAt ∈ lw_g := lw_g_of (i := 763) (by decide +kernel) (by decide +kernel)
theorem im_X6_fileAt : Cond.instanceMethod yX6_fileAt ∈ lw_g := lw_g_of (i := 765) (by decide +kernel) (by decide +kernel)
theorem ml_LevelStore_219 : Cond.methodLink "LevelStore" 219 yX5_leastKey ∈ lw_g := lw_g_of (i := 767) (by decide +kernel) (by decide +kernel)
theorem ml_LevelStore_221 : Cond.methodLink "LevelStore" 221 yX5_greatestKey ∈ lw_g := lw_g_of (i := 768) (by decide +kernel) (by decide +kernel)
theorem ml_LevelStoreLaw_85 : Cond.methodLink "LevelStoreLaw" 85 yX6_entry ∈ lw_g := lw_g_of (i := 769) (by decide +kernel) (by decide +kernel)
theorem im_X6_entry : Cond.instanceMethod yX6_entry ∈ lw_g := lw_g_of (i := 770) (by decide +kernel) (by decide +kernel)
theorem se_X6_entry : Cond.selects yX6_entry.cls yX6_entry yX6_entry ∈ lw_g := lw_g_of (i := 771) (by decide +kernel) (by decide +kernel)
theorem ml_LevelStore_229 : Cond.methodLink "LevelStore" 229 yX4_told ∈ lw_g := lw_g_of (i := 773) (by decide +kernel) (by decide +kernel)
theorem im_X4_told : Cond.instanceMethod yX4_told ∈ lw_g := lw_g_of (i := 774) (by decide +kernel) (by decide +kernel)
theorem se_X4_told : Cond.selects yX4_told.cls yX4_told yX4_told ∈ lw_g := lw_g_of (i := 775) (by decide +kernel) (by decide +kernel)
theorem cn_Row_40 : Cond.constant "LevelStore$Row" 40 (-1000002 : Int32) ∈ lw_g := lw_g_of (i := 777) (by decide +kernel) (by decide +kernel)
theorem ml_LevelStoreLaw_90 : Cond.methodLink "LevelStoreLaw" 90 yX6_byteAt ∈ lw_g := lw_g_of (i := 778) (by decide +kernel) (by decide +kernel)
theorem im_X6_byteAt : Cond.instanceMethod yX6_byteAt ∈ lw_g := lw_g_of (i := 779) (by decide +kernel) (by decide +kernel)
theorem se_X6_byteAt : Cond.selects yX6_byteAt.cls yX6_byteAt yX6_byteAt ∈ lw_g := lw_g_of (i := 780) (by decide +kernel) (by decide +kernel)
theorem ml_LevelStore_232 : Cond.methodLink "LevelStore" 232 yX0_has ∈ lw_g := lw_g_of (i := 782) (by decide +kernel) (by decide +kernel)
theorem ml_LevelStoreLaw_94 : Cond.methodLink "LevelStoreLaw" 94 yX6_log ∈ lw_g := lw_g_of (i := 783) (by decide +kernel) (by decide +kernel)
theorem im_X6_log : Cond.instanceMethod yX6_log ∈ lw_g := lw_g_of (i := 784) (by decide +kernel) (by decide +kernel)
theorem se_X6_log : Cond.selects yX6_log.cls yX6_log yX6_log ∈ lw_g := lw_g_of (i := 785) (by decide +kernel) (by decide +kernel)
theorem ml_LevelStoreLaw_98 : Cond.methodLink "LevelStoreLaw" 98 yX6_count ∈ lw_g := lw_g_of (i := 787) (by decide +kernel) (by decide +kernel)
theorem im_X6_count : Cond.instanceMethod yX6_count ∈ lw_g := lw_g_of (i := 788) (by decide +kernel) (by decide +kernel)
theorem se_X6_count : Cond.selects yX6_count.cls yX6_count yX6_count ∈ lw_g := lw_g_of (i := 789) (by decide +kernel) (by decide +kernel)
theorem ml_LevelStore_238 : Cond.methodLink "LevelStore" 238 yX6_filesInForce ∈ lw_g := lw_g_of (i := 791) (by decide +kernel) (by decide +kernel)
theorem im_X6_filesInForce : Cond.instanceMethod yX6_filesInForce ∈ lw_g := lw_g_of (i := 793) (by decide +kernel) (by decide +kernel)
theorem ml_LevelStore_241 : Cond.methodLink "LevelStore" 241 yX6_bytesInForce ∈ lw_g := lw_g_of (i := 795) (by decide +kernel) (by decide +kernel)
theorem im_X6_bytesInForce : Cond.instanceMethod yX6_bytesInForce ∈ lw_g := lw_g_of (i := 797) (by decide +kernel) (by decide +kernel)
theorem ml_LevelStore_313 : Cond.methodLink "LevelStore" 313 yX1_bytes ∈ lw_g := lw_g_of (i := 799) (by decide +kernel) (by decide +kernel)
theorem im_X1_bytes : Cond.instanceMethod yX1_bytes ∈ lw_g := lw_g_of (i := 800) (by decide +kernel) (by decide +kernel)
theorem se_X1_bytes : Cond.selects yX1_bytes.cls yX1_bytes yX1_bytes ∈ lw_g := lw_g_of (i := 801) (by decide +kernel) (by decide +kernel)
theorem ml_LevelStore_247 : Cond.methodLink "LevelStore" 247 yX6_entriesInForce ∈ lw_g := lw_g_of (i := 803) (by decide +kernel) (by decide +kernel)
theorem im_X6_entriesInForce : Cond.instanceMethod yX6_entriesInForce ∈ lw_g := lw_g_of (i := 805) (by decide +kernel) (by decide +kernel)
theorem ml_LevelStore_315 : Cond.methodLink "LevelStore" 315 yX1_entries ∈ lw_g := lw_g_of (i := 807) (by decide +kernel) (by decide +kernel)
theorem im_X1_entries : Cond.instanceMethod yX1_entries ∈ lw_g := lw_g_of (i := 808) (by decide +kernel) (by decide +kernel)
theorem se_X1_entries : Cond.selects yX1_entries.cls yX1_entries yX1_entries ∈ lw_g := lw_g_of (i := 809) (by decide +kernel) (by decide +kernel)
theorem ml_LevelStoreLaw_102 : Cond.methodLink "LevelStoreLaw" 102 yX6_check ∈ lw_g := lw_g_of (i := 811) (by decide +kernel) (by decide +kernel)
theorem im_X6_check : Cond.instanceMethod yX6_check ∈ lw_g := lw_g_of (i := 812) (by decide +kernel) (by decide +kernel)
theorem se_X6_check : Cond.selects yX6_check.cls yX6_check yX6_check ∈ lw_g := lw_g_of (i := 813) (by decide +kernel) (by decide +kernel)
theorem ml_LevelStore_250 : Cond.methodLink "LevelStore" 250 yX0_holds ∈ lw_g := lw_g_of (i := 815) (by decide +kernel) (by decide +kernel)
theorem im_X0_holds : Cond.instanceMethod yX0_holds ∈ lw_g := lw_g_of (i := 816) (by decide +kernel) (by decide +kernel)
theorem se_X0_holds : Cond.selects yX0_holds.cls yX0_holds yX0_holds ∈ lw_g := lw_g_of (i := 817) (by decide +kernel) (by decide +kernel)
theorem cl_LevelStoreLaw_10 : Cond.classLink "LevelStoreLaw" 10 "LevelStoreModel" ∈ lw_g := lw_g_of (i := 819) (by decide +kernel) (by decide +kernel)
theorem in_LevelStoreModel : Cond.instantiable "LevelStoreModel" 41 ∈ lw_g := lw_g_of (i := 820) (by decide +kernel) (by decide +kernel)
theorem ml_LevelStoreLaw_12 : Cond.methodLink "LevelStoreLaw" 12 yX7_init ∈ lw_g := lw_g_of (i := 821) (by decide +kernel) (by decide +kernel)
theorem im_X7_init : Cond.instanceMethod yX7_init ∈ lw_g := lw_g_of (i := 822) (by decide +kernel) (by decide +kernel)
theorem ml_LevelStoreModel_1 : Cond.methodLink "LevelStoreModel" 1 Lib.objectInit ∈ lw_g := lw_g_of (i := 824) (by decide +kernel) (by decide +kernel)
theorem fl_LevelStoreModel_89 : ab_FL "LevelStoreModel" 89 8 0 RX7 TX7 41 := ⟨ab_k8, by decide, "LevelStoreModel", lw_g_of (i := 825) (by decide +kernel) (by decide +kernel), Or.inl rfl⟩
theorem fl_LevelStoreModel_93 : ab_FL "LevelStoreModel" 93 8 1 RX7 TX7 41 := ⟨ab_k8, by decide, "LevelStoreModel", lw_g_of (i := 826) (by decide +kernel) (by decide +kernel), Or.inl rfl⟩
theorem fl_LevelStoreModel_117 : ab_FL "LevelStoreModel" 117 8 2 RX7 TX7 41 := ⟨ab_k8, by decide, "LevelStoreModel", lw_g_of (i := 827) (by decide +kernel) (by decide +kernel), Or.inl rfl⟩
theorem fl_LevelStoreModel_7 : ab_FL "LevelStoreModel" 7 8 3 RX7 TX7 41 := ⟨ab_k8, by decide, "LevelStoreModel", lw_g_of (i := 828) (by decide +kernel) (by decide +kernel), Or.inl rfl⟩
theorem fl_LevelStoreModel_13 : ab_FL "LevelStoreModel" 13 8 4 RX7 TX7 41 := ⟨ab_k8, by decide, "LevelStoreModel", lw_g_of (i := 829) (by decide +kernel) (by decide +kernel), Or.inl rfl⟩
theorem fl_LevelStoreModel_16 : ab_FL "LevelStoreModel" 16 8 5 RX7 TX7 41 := ⟨ab_k8, by decide, "LevelStoreModel", lw_g_of (i := 830) (by decide +kernel) (by decide +kernel), Or.inl rfl⟩
theorem fl_LevelStoreModel_96 : ab_FL "LevelStoreModel" 96 8 6 RX7 TX7 41 := ⟨ab_k8, by decide, "LevelStoreModel", lw_g_of (i := 831) (by decide +kernel) (by decide +kernel), Or.inl rfl⟩
theorem fl_LevelStoreModel_19 : ab_FL "LevelStoreModel" 19 8 7 RX7 TX7 41 := ⟨ab_k8, by decide, "LevelStoreModel", lw_g_of (i := 832) (by decide +kernel) (by decide +kernel), Or.inl rfl⟩
theorem fl_LevelStoreModel_22 : ab_FL "LevelStoreModel" 22 8 8 RX7 TX7 41 := ⟨ab_k8, by decide, "LevelStoreModel", lw_g_of (i := 833) (by decide +kernel) (by decide +kernel), Or.inl rfl⟩
theorem fl_LevelStoreModel_25 : ab_FL "LevelStoreModel" 25 8 9 RX7 TX7 41 := ⟨ab_k8, by decide, "LevelStoreModel", lw_g_of (i := 834) (by decide +kernel) (by decide +kernel), Or.inl rfl⟩
theorem fl_LevelStoreModel_28 : ab_FL "LevelStoreModel" 28 8 10 RX7 TX7 41 := ⟨ab_k8, by decide, "LevelStoreModel", lw_g_of (i := 835) (by decide +kernel) (by decide +kernel), Or.inl rfl⟩
theorem fl_LevelStoreModel_31 : ab_FL "LevelStoreModel" 31 8 11 RX7 TX7 41 := ⟨ab_k8, by decide, "LevelStoreModel", lw_g_of (i := 836) (by decide +kernel) (by decide +kernel), Or.inl rfl⟩
theorem fl_LevelStoreModel_34 : ab_FL "LevelStoreModel" 34 8 12 RX7 TX7 41 := ⟨ab_k8, by decide, "LevelStoreModel", lw_g_of (i := 837) (by decide +kernel) (by decide +kernel), Or.inl rfl⟩
theorem fl_LevelStoreModel_37 : ab_FL "LevelStoreModel" 37 8 13 RX7 TX7 41 := ⟨ab_k8, by decide, "LevelStoreModel", lw_g_of (i := 838) (by decide +kernel) (by decide +kernel), Or.inl rfl⟩
theorem fl_LevelStoreModel_40 : ab_FL "LevelStoreModel" 40 8 14 RX7 TX7 41 := ⟨ab_k8, by decide, "LevelStoreModel", lw_g_of (i := 839) (by decide +kernel) (by decide +kernel), Or.inl rfl⟩
theorem fl_LevelStoreModel_43 : ab_FL "LevelStoreModel" 43 8 15 RX7 TX7 41 := ⟨ab_k8, by decide, "LevelStoreModel", lw_g_of (i := 840) (by decide +kernel) (by decide +kernel), Or.inl rfl⟩
theorem fl_LevelStoreModel_201 : ab_FL "LevelStoreModel" 201 8 16 RX7 TX7 41 := ⟨ab_k8, by decide, "LevelStoreModel", lw_g_of (i := 841) (by decide +kernel) (by decide +kernel), Or.inl rfl⟩
theorem fl_LevelStoreModel_46 : ab_FL "LevelStoreModel" 46 8 17 RX7 TX7 41 := ⟨ab_k8, by decide, "LevelStoreModel", lw_g_of (i := 842) (by decide +kernel) (by decide +kernel), Or.inl rfl⟩
theorem fl_LevelStoreModel_137 : ab_FL "LevelStoreModel" 137 8 18 RX7 TX7 41 := ⟨ab_k8, by decide, "LevelStoreModel", lw_g_of (i := 843) (by decide +kernel) (by decide +kernel), Or.inl rfl⟩
theorem fl_LevelStoreModel_49 : ab_FL "LevelStoreModel" 49 8 19 RX7 TX7 41 := ⟨ab_k8, by decide, "LevelStoreModel", lw_g_of (i := 844) (by decide +kernel) (by decide +kernel), Or.inl rfl⟩
theorem fl_LevelStoreModel_143 : ab_FL "LevelStoreModel" 143 8 20 RX7 TX7 41 := ⟨ab_k8, by decide, "LevelStoreModel", lw_g_of (i := 845) (by decide +kernel) (by decide +kernel), Or.inl rfl⟩
theorem fl_LevelStoreModel_150 : ab_FL "LevelStoreModel" 150 8 21 RX7 TX7 41 := ⟨ab_k8, by decide, "LevelStoreModel", lw_g_of (i := 846) (by decide +kernel) (by decide +kernel), Or.inl rfl⟩
theorem fl_LevelStoreModel_140 : ab_FL "LevelStoreModel" 140 8 22 RX7 TX7 41 := ⟨ab_k8, by decide, "LevelStoreModel", lw_g_of (i := 847) (by decide +kernel) (by decide +kernel), Or.inl rfl⟩
theorem fl_LevelStoreModel_153 : ab_FL "LevelStoreModel" 153 8 23 RX7 TX7 41 := ⟨ab_k8, by decide, "LevelStoreModel", lw_g_of (i := 848) (by decide +kernel) (by decide +kernel), Or.inl rfl⟩
theorem fl_LevelStoreModel_52 : ab_FL "LevelStoreModel" 52 8 24 RX7 TX7 41 := ⟨ab_k8, by decide, "LevelStoreModel", lw_g_of (i := 849) (by decide +kernel) (by decide +kernel), Or.inl rfl⟩
theorem fl_LevelStoreModel_55 : ab_FL "LevelStoreModel" 55 8 25 RX7 TX7 41 := ⟨ab_k8, by decide, "LevelStoreModel", lw_g_of (i := 850) (by decide +kernel) (by decide +kernel), Or.inl rfl⟩
theorem fl_LevelStoreModel_58 : ab_FL "LevelStoreModel" 58 8 26 RX7 TX7 41 := ⟨ab_k8, by decide, "LevelStoreModel", lw_g_of (i := 851) (by decide +kernel) (by decide +kernel), Or.inl rfl⟩
theorem fl_LevelStoreModel_61 : ab_FL "LevelStoreModel" 61 8 27 RX7 TX7 41 := ⟨ab_k8, by decide, "LevelStoreModel", lw_g_of (i := 852) (by decide +kernel) (by decide +kernel), Or.inl rfl⟩
theorem fl_LevelStoreModel_65 : ab_FL "LevelStoreModel" 65 8 28 RX7 TX7 41 := ⟨ab_k8, by decide, "LevelStoreModel", lw_g_of (i := 853) (by decide +kernel) (by decide +kernel), Or.inl rfl⟩
theorem fl_LevelStoreModel_166 : ab_FL "LevelStoreModel" 166 8 29 RX7 TX7 41 := ⟨ab_k8, by decide, "LevelStoreModel", lw_g_of (i := 854) (by decide +kernel) (by decide +kernel), Or.inl rfl⟩
theorem fl_LevelStoreModel_156 : ab_FL "LevelStoreModel" 156 8 30 RX7 TX7 41 := ⟨ab_k8, by decide, "LevelStoreModel", lw_g_of (i := 855) (by decide +kernel) (by decide +kernel), Or.inl rfl⟩
theorem fl_LevelStoreModel_147 : ab_FL "LevelStoreModel" 147 8 31 RX7 TX7 41 := ⟨ab_k8, by decide, "LevelStoreModel", lw_g_of (i := 856) (by decide +kernel) (by decide +kernel), Or.inl rfl⟩
theorem fl_LevelStoreModel_159 : ab_FL "LevelStoreModel" 159 8 32 RX7 TX7 41 := ⟨ab_k8, by decide, "LevelStoreModel", lw_g_of (i := 857) (by decide +kernel) (by decide +kernel), Or.inl rfl⟩
theorem fl_LevelStoreModel_68 : ab_FL "LevelStoreModel" 68 8 33 RX7 TX7 41 := ⟨ab_k8, by decide, "LevelStoreModel", lw_g_of (i := 858) (by decide +kernel) (by decide +kernel), Or.inl rfl⟩
theorem fl_LevelStoreModel_71 : ab_FL "LevelStoreModel" 71 8 34 RX7 TX7 41 := ⟨ab_k8, by decide, "LevelStoreModel", lw_g_of (i := 859) (by decide +kernel) (by decide +kernel), Or.inl rfl⟩
theorem fl_LevelStoreModel_74 : ab_FL "LevelStoreModel" 74 8 35 RX7 TX7 41 := ⟨ab_k8, by decide, "LevelStoreModel", lw_g_of (i := 860) (by decide +kernel) (by decide +kernel), Or.inl rfl⟩
theorem fl_LevelStoreModel_189 : ab_FL "LevelStoreModel" 189 8 36 RX7 TX7 41 := ⟨ab_k8, by decide, "LevelStoreModel", lw_g_of (i := 861) (by decide +kernel) (by decide +kernel), Or.inl rfl⟩
theorem fl_LevelStoreModel_77 : ab_FL "LevelStoreModel" 77 8 37 RX7 TX7 41 := ⟨ab_k8, by decide, "LevelStoreModel", lw_g_of (i := 862) (by decide +kernel) (by decide +kernel), Or.inl rfl⟩
theorem fl_LevelStoreModel_80 : ab_FL "LevelStoreModel" 80 8 38 RX7 TX7 41 := ⟨ab_k8, by decide, "LevelStoreModel", lw_g_of (i := 863) (by decide +kernel) (by decide +kernel), Or.inl rfl⟩
theorem fl_LevelStoreModel_83 : ab_FL "LevelStoreModel" 83 8 39 RX7 TX7 41 := ⟨ab_k8, by decide, "LevelStoreModel", lw_g_of (i := 864) (by decide +kernel) (by decide +kernel), Or.inl rfl⟩
theorem fl_LevelStoreModel_86 : ab_FL "LevelStoreModel" 86 8 40 RX7 TX7 41 := ⟨ab_k8, by decide, "LevelStoreModel", lw_g_of (i := 865) (by decide +kernel) (by decide +kernel), Or.inl rfl⟩
theorem ml_LevelStoreLaw_17 : Cond.methodLink "LevelStoreLaw" 17 yX7_put ∈ lw_g := lw_g_of (i := 949) (by decide +kernel) (by decide +kernel)
theorem im_X7_put : Cond.instanceMethod yX7_put ∈ lw_g := lw_g_of (i := 950) (by decide +kernel) (by decide +kernel)
theorem se_X7_put : Cond.selects yX7_put.cls yX7_put yX7_put ∈ lw_g := lw_g_of (i := 951) (by decide +kernel) (by decide +kernel)
theorem cl2_LevelStoreModel_101 : Cond.constantLong "LevelStoreModel" 101 (999 : Int64) ∈ lw_g := lw_g_of (i := 953) (by decide +kernel) (by decide +kernel)
theorem ml_LevelStoreModel_103 : Cond.methodLink "LevelStoreModel" 103 yX7_in ∈ lw_g := lw_g_of (i := 954) (by decide +kernel) (by decide +kernel)
theorem sm_X7_in : Cond.static yX7_in ∈ lw_g := lw_g_of (i := 955) (by decide +kernel) (by decide +kernel)
theorem cl2_LevelStoreModel_107 : Cond.constantLong "LevelStoreModel" 107 (-100000 : Int64) ∈ lw_g := lw_g_of (i := 957) (by decide +kernel) (by decide +kernel)
theorem cl2_LevelStoreModel_109 : Cond.constantLong "LevelStoreModel" 109 (100000 : Int64) ∈ lw_g := lw_g_of (i := 958) (by decide +kernel) (by decide +kernel)
theorem cn_LevelStoreModel_111 : Cond.constant "LevelStoreModel" 111 (-1000002 : Int32) ∈ lw_g := lw_g_of (i := 959) (by decide +kernel) (by decide +kernel)
theorem ml_LevelStoreModel_112 : Cond.methodLink "LevelStoreModel" 112 yX7_write ∈ lw_g := lw_g_of (i := 960) (by decide +kernel) (by decide +kernel)
theorem im_X7_write : Cond.instanceMethod yX7_write ∈ lw_g := lw_g_of (i := 962) (by decide +kernel) (by decide +kernel)
theorem cn_LevelStoreModel_99 : Cond.constant "LevelStoreModel" 99 (60000 : Int32) ∈ lw_g := lw_g_of (i := 964) (by decide +kernel) (by decide +kernel)
theorem cn_LevelStoreModel_100 : Cond.constant "LevelStoreModel" 100 (-1000004 : Int32) ∈ lw_g := lw_g_of (i := 965) (by decide +kernel) (by decide +kernel)
theorem ml_LevelStoreLaw_22 : Cond.methodLink "LevelStoreLaw" 22 yX7_drop ∈ lw_g := lw_g_of (i := 966) (by decide +kernel) (by decide +kernel)
theorem im_X7_drop : Cond.instanceMethod yX7_drop ∈ lw_g := lw_g_of (i := 967) (by decide +kernel) (by decide +kernel)
theorem se_X7_drop : Cond.selects yX7_drop.cls yX7_drop yX7_drop ∈ lw_g := lw_g_of (i := 968) (by decide +kernel) (by decide +kernel)
theorem cn_LevelStoreModel_116 : Cond.constant "LevelStoreModel" 116 (-1000009 : Int32) ∈ lw_g := lw_g_of (i := 970) (by decide +kernel) (by decide +kernel)
theorem ml_LevelStoreLaw_27 : Cond.methodLink "LevelStoreLaw" 27 yX7_sync ∈ lw_g := lw_g_of (i := 971) (by decide +kernel) (by decide +kernel)
theorem im_X7_sync : Cond.instanceMethod yX7_sync ∈ lw_g := lw_g_of (i := 972) (by decide +kernel) (by decide +kernel)
theorem se_X7_sync : Cond.selects yX7_sync.cls yX7_sync yX7_sync ∈ lw_g := lw_g_of (i := 973) (by decide +kernel) (by decide +kernel)
theorem ml_LevelStoreLaw_31 : Cond.methodLink "LevelStoreLaw" 31 yX7_crash ∈ lw_g := lw_g_of (i := 975) (by decide +kernel) (by decide +kernel)
theorem im_X7_crash : Cond.instanceMethod yX7_crash ∈ lw_g := lw_g_of (i := 976) (by decide +kernel) (by decide +kernel)
theorem se_X7_crash : Cond.selects yX7_crash.cls yX7_crash yX7_crash ∈ lw_g := lw_g_of (i := 977) (by decide +kernel) (by decide +kernel)
theorem ml_LevelStoreModel_120 : Cond.methodLink "LevelStoreModel" 120 yX7_giveUp ∈ lw_g := lw_g_of (i := 979) (by decide +kernel) (by decide +kernel)
theorem im_X7_giveUp : Cond.instanceMethod yX7_giveUp ∈ lw_g := lw_g_of (i := 981) (by decide +kernel) (by decide +kernel)
theorem ml_LevelStoreLaw_35 : Cond.methodLink "LevelStoreLaw" 35 yX7_get ∈ lw_g := lw_g_of (i := 983) (by decide +kernel) (by decide +kernel)
theorem im_X7_get : Cond.instanceMethod yX7_get ∈ lw_g := lw_g_of (i := 984) (by decide +kernel) (by decide +kernel)
theorem se_X7_get : Cond.selects yX7_get.cls yX7_get yX7_get ∈ lw_g := lw_g_of (i := 985) (by decide +kernel) (by decide +kernel)
theorem ml_LevelStoreModel_128 : Cond.methodLink "LevelStoreModel" 128 yX7_read ∈ lw_g := lw_g_of (i := 987) (by decide +kernel) (by decide +kernel)
theorem im_X7_read : Cond.instanceMethod yX7_read ∈ lw_g := lw_g_of (i := 989) (by decide +kernel) (by decide +kernel)
theorem cl2_LevelStoreModel_124 : Cond.constantLong "LevelStoreModel" 124 (3 : Int64) ∈ lw_g := lw_g_of (i := 991) (by decide +kernel) (by decide +kernel)
theorem ml_LevelStoreLaw_39 : Cond.methodLink "LevelStoreLaw" 39 yX7_view ∈ lw_g := lw_g_of (i := 992) (by decide +kernel) (by decide +kernel)
theorem im_X7_view : Cond.instanceMethod yX7_view ∈ lw_g := lw_g_of (i := 993) (by decide +kernel) (by decide +kernel)
theorem se_X7_view : Cond.selects yX7_view.cls yX7_view yX7_view ∈ lw_g := lw_g_of (i := 994) (by decide +kernel) (by decide +kernel)
theorem ml_LevelStoreModel_131 : Cond.methodLink "LevelStoreModel" 131 yX7_noView ∈ lw_g := lw_g_of (i := 996) (by decide +kernel) (by decide +kernel)
theorem im_X7_noView : Cond.instanceMethod yX7_noView ∈ lw_g := lw_g_of (i := 998) (by decide +kernel) (by decide +kernel)
theorem cl2_LevelStoreModel_126 : Cond.constantLong "LevelStoreModel" 126 (2 : Int64) ∈ lw_g := lw_g_of (i := 1000) (by decide +kernel) (by decide +kernel)
theorem cn_LevelStoreModel_135 : Cond.constant "LevelStoreModel" 135 (-1000001 : Int32) ∈ lw_g := lw_g_of (i := 1001) (by decide +kernel) (by decide +kernel)
theorem ml_LevelStoreLaw_43 : Cond.methodLink "LevelStoreLaw" 43 yX7_next ∈ lw_g := lw_g_of (i := 1002) (by decide +kernel) (by decide +kernel)
theorem im_X7_next : Cond.instanceMethod yX7_next ∈ lw_g := lw_g_of (i := 1003) (by decide +kernel) (by decide +kernel)
theorem se_X7_next : Cond.selects yX7_next.cls yX7_next yX7_next ∈ lw_g := lw_g_of (i := 1004) (by decide +kernel) (by decide +kernel)
theorem ml_LevelStoreLaw_47 : Cond.methodLink "LevelStoreLaw" 47 yX7_hold ∈ lw_g := lw_g_of (i := 1006) (by decide +kernel) (by decide +kernel)
theorem im_X7_hold : Cond.instanceMethod yX7_hold ∈ lw_g := lw_g_of (i := 1007) (by decide +kernel) (by decide +kernel)
theorem se_X7_hold : Cond.selects yX7_hold.cls yX7_hold yX7_hold ∈ lw_g := lw_g_of (i := 1008) (by decide +kernel) (by decide +kernel)
theorem cn_LevelStoreModel_136 : Cond.constant "LevelStoreModel" 136 (-1000003 : Int32) ∈ lw_g := lw_g_of (i := 1010) (by decide +kernel) (by decide +kernel)
theorem ml_LevelStoreLaw_51 : Cond.methodLink "LevelStoreLaw" 51 yX7_release ∈ lw_g := lw_g_of (i := 1011) (by decide +kernel) (by decide +kernel)
theorem im_X7_release : Cond.instanceMethod yX7_release ∈ lw_g := lw_g_of (i := 1012) (by decide +kernel) (by decide +kernel)
theorem se_X7_release : Cond.selects yX7_release.cls yX7_release yX7_release ∈ lw_g := lw_g_of (i := 1013) (by decide +kernel) (by decide +kernel)
theorem ml_LevelStoreLaw_55 : Cond.methodLink "LevelStoreLaw" 55 yX7_flush ∈ lw_g := lw_g_of (i := 1015) (by decide +kernel) (by decide +kernel)
theorem im_X7_flush : Cond.instanceMethod yX7_flush ∈ lw_g := lw_g_of (i := 1016) (by decide +kernel) (by decide +kernel)
theorem se_X7_flush : Cond.selects yX7_flush.cls yX7_flush yX7_flush ∈ lw_g := lw_g_of (i := 1017) (by decide +kernel) (by decide +kernel)
theorem ml_LevelStoreModel_162 : Cond.methodLink "LevelStoreModel" 162 yX7_begin ∈ lw_g := lw_g_of (i := 1019) (by decide +kernel) (by decide +kernel)
theorem im_X7_begin : Cond.instanceMethod yX7_begin ∈ lw_g := lw_g_of (i := 1021) (by decide +kernel) (by decide +kernel)
theorem ml_LevelStoreModel_169 : Cond.methodLink "LevelStoreModel" 169 yX7_source ∈ lw_g := lw_g_of (i := 1023) (by decide +kernel) (by decide +kernel)
theorem im_X7_source : Cond.instanceMethod yX7_source ∈ lw_g := lw_g_of (i := 1025) (by decide +kernel) (by decide +kernel)
theorem ml_LevelStoreLaw_59 : Cond.methodLink "LevelStoreLaw" 59 yX7_merge ∈ lw_g := lw_g_of (i := 1027) (by decide +kernel) (by decide +kernel)
theorem im_X7_merge : Cond.instanceMethod yX7_merge ∈ lw_g := lw_g_of (i := 1028) (by decide +kernel) (by decide +kernel)
theorem se_X7_merge : Cond.selects yX7_merge.cls yX7_merge yX7_merge ∈ lw_g := lw_g_of (i := 1029) (by decide +kernel) (by decide +kernel)
theorem ml_LevelStoreModel_173 : Cond.methodLink "LevelStoreModel" 173 yX7_listLevel ∈ lw_g := lw_g_of (i := 1031) (by decide +kernel) (by decide +kernel)
theorem im_X7_listLevel : Cond.instanceMethod yX7_listLevel ∈ lw_g := lw_g_of (i := 1033) (by decide +kernel) (by decide +kernel)
theorem ml_LevelStoreModel_176 : Cond.methodLink "LevelStoreModel" 176 yX7_least ∈ lw_g := lw_g_of (i := 1035) (by decide +kernel) (by decide +kernel)
theorem im_X7_least : Cond.instanceMethod yX7_least ∈ lw_g := lw_g_of (i := 1037) (by decide +kernel) (by decide +kernel)
theorem ml_LevelStoreModel_180 : Cond.methodLink "LevelStoreModel" 180 yX7_greatest ∈ lw_g := lw_g_of (i := 1039) (by decide +kernel) (by decide +kernel)
theorem im_X7_greatest : Cond.instanceMethod yX7_greatest ∈ lw_g := lw_g_of (i := 1041) (by decide +kernel) (by decide +kernel)
theorem ml_LevelStoreModel_183 : Cond.methodLink "LevelStoreModel" 183 yX7_sourceFile ∈ lw_g := lw_g_of (i := 1043) (by decide +kernel) (by decide +kernel)
theorem im_X7_sourceFile : Cond.instanceMethod yX7_sourceFile ∈ lw_g := lw_g_of (i := 1045) (by decide +kernel) (by decide +kernel)
theorem ml_LevelStoreLaw_63 : Cond.methodLink "LevelStoreLaw" 63 yX7_work ∈ lw_g := lw_g_of (i := 1047) (by decide +kernel) (by decide +kernel)
theorem im_X7_work : Cond.instanceMethod yX7_work ∈ lw_g := lw_g_of (i := 1048) (by decide +kernel) (by decide +kernel)
theorem se_X7_work : Cond.selects yX7_work.cls yX7_work yX7_work ∈ lw_g := lw_g_of (i := 1049) (by decide +kernel) (by decide +kernel)
theorem cl2_LevelStoreModel_211 : Cond.constantLong "LevelStoreModel" 211 (500 : Int64) ∈ lw_g := lw_g_of (i := 1051) (by decide +kernel) (by decide +kernel)
theorem ml_LevelStoreModel_213 : Cond.methodLink "LevelStoreModel" 213 yX7_does ∈ lw_g := lw_g_of (i := 1052) (by decide +kernel) (by decide +kernel)
theorem im_X7_does : Cond.instanceMethod yX7_does ∈ lw_g := lw_g_of (i := 1054) (by decide +kernel) (by decide +kernel)
theorem ml_LevelStoreModel_204 : Cond.methodLink "LevelStoreModel" 204 yX7_isLeftOut ∈ lw_g := lw_g_of (i := 1056) (by decide +kernel) (by decide +kernel)
theorem im_X7_isLeftOut : Cond.instanceMethod yX7_isLeftOut ∈ lw_g := lw_g_of (i := 1058) (by decide +kernel) (by decide +kernel)
theorem ml_LevelStoreModel_186 : Cond.methodLink "LevelStoreModel" 186 yX7_isUnseen ∈ lw_g := lw_g_of (i := 1060) (by decide +kernel) (by decide +kernel)
theorem im_X7_isUnseen : Cond.instanceMethod yX7_isUnseen ∈ lw_g := lw_g_of (i := 1062) (by decide +kernel) (by decide +kernel)
theorem ml_LevelStoreModel_207 : Cond.methodLink "LevelStoreModel" 207 yX7_ends ∈ lw_g := lw_g_of (i := 1064) (by decide +kernel) (by decide +kernel)
theorem im_X7_ends : Cond.instanceMethod yX7_ends ∈ lw_g := lw_g_of (i := 1066) (by decide +kernel) (by decide +kernel)
theorem ml_LevelStoreModel_195 : Cond.methodLink "LevelStoreModel" 195 yX7_encode ∈ lw_g := lw_g_of (i := 1068) (by decide +kernel) (by decide +kernel)
theorem im_X7_encode : Cond.instanceMethod yX7_encode ∈ lw_g := lw_g_of (i := 1070) (by decide +kernel) (by decide +kernel)
theorem ml_LevelStoreModel_192 : Cond.methodLink "LevelStoreModel" 192 yX7_shortNumber ∈ lw_g := lw_g_of (i := 1072) (by decide +kernel) (by decide +kernel)
theorem im_X7_shortNumber : Cond.instanceMethod yX7_shortNumber ∈ lw_g := lw_g_of (i := 1074) (by decide +kernel) (by decide +kernel)
theorem ml_LevelStoreModel_198 : Cond.methodLink "LevelStoreModel" 198 yX7_room ∈ lw_g := lw_g_of (i := 1076) (by decide +kernel) (by decide +kernel)
theorem im_X7_room : Cond.instanceMethod yX7_room ∈ lw_g := lw_g_of (i := 1078) (by decide +kernel) (by decide +kernel)
theorem ml_LevelStoreLaw_67 : Cond.methodLink "LevelStoreLaw" 67 yX7_install ∈ lw_g := lw_g_of (i := 1080) (by decide +kernel) (by decide +kernel)
theorem im_X7_install : Cond.instanceMethod yX7_install ∈ lw_g := lw_g_of (i := 1081) (by decide +kernel) (by decide +kernel)
theorem se_X7_install : Cond.selects yX7_install.cls yX7_install yX7_install ∈ lw_g := lw_g_of (i := 1082) (by decide +kernel) (by decide +kernel)
theorem ml_LevelStoreLaw_71 : Cond.methodLink "LevelStoreLaw" 71 yX7_stop ∈ lw_g := lw_g_of (i := 1084) (by decide +kernel) (by decide +kernel)
theorem im_X7_stop : Cond.instanceMethod yX7_stop ∈ lw_g := lw_g_of (i := 1085) (by decide +kernel) (by decide +kernel)
theorem se_X7_stop : Cond.selects yX7_stop.cls yX7_stop yX7_stop ∈ lw_g := lw_g_of (i := 1086) (by decide +kernel) (by decide +kernel)
theorem ml_LevelStoreLaw_75 : Cond.methodLink "LevelStoreLaw" 75 yX7_high ∈ lw_g := lw_g_of (i := 1088) (by decide +kernel) (by decide +kernel)
theorem im_X7_high : Cond.instanceMethod yX7_high ∈ lw_g := lw_g_of (i := 1089) (by decide +kernel) (by decide +kernel)
theorem se_X7_high : Cond.selects yX7_high.cls yX7_high yX7_high ∈ lw_g := lw_g_of (i := 1090) (by decide +kernel) (by decide +kernel)
theorem ml_LevelStoreLaw_79 : Cond.methodLink "LevelStoreLaw" 79 yX7_files ∈ lw_g := lw_g_of (i := 1092) (by decide +kernel) (by decide +kernel)
theorem im_X7_files : Cond.instanceMethod yX7_files ∈ lw_g := lw_g_of (i := 1093) (by decide +kernel) (by decide +kernel)
theorem se_X7_files : Cond.selects yX7_files.cls yX7_files yX7_files ∈ lw_g := lw_g_of (i := 1094) (by decide +kernel) (by decide +kernel)
theorem ml_LevelStoreLaw_84 : Cond.methodLink "LevelStoreLaw" 84 yX7_file ∈ lw_g := lw_g_of (i := 1096) (by decide +kernel) (by decide +kernel)
theorem im_X7_file : Cond.instanceMethod yX7_file ∈ lw_g := lw_g_of (i := 1097) (by decide +kernel) (by decide +kernel)
theorem se_X7_file : Cond.selects yX7_file.cls yX7_file yX7_file ∈ lw_g := lw_g_of (i := 1098) (by decide +kernel) (by decide +kernel)
theorem ml_LevelStoreModel_216 : Cond.methodLink "LevelStoreModel" 216 yX7_slot ∈ lw_g := lw_g_of (i := 1100) (by decide +kernel) (by decide +kernel)
theorem im_X7_slot : Cond.instanceMethod yX7_slot ∈ lw_g := lw_g_of (i := 1102) (by decide +kernel) (by decide +kernel)
theorem ml_LevelStoreLaw_89 : Cond.methodLink "LevelStoreLaw" 89 yX7_entry ∈ lw_g := lw_g_of (i := 1104) (by decide +kernel) (by decide +kernel)
theorem im_X7_entry : Cond.instanceMethod yX7_entry ∈ lw_g := lw_g_of (i := 1105) (by decide +kernel) (by decide +kernel)
theorem se_X7_entry : Cond.selects yX7_entry.cls yX7_entry yX7_entry ∈ lw_g := lw_g_of (i := 1106) (by decide +kernel) (by decide +kernel)
theorem ml_LevelStoreLaw_93 : Cond.methodLink "LevelStoreLaw" 93 yX7_byteAt ∈ lw_g := lw_g_of (i := 1108) (by decide +kernel) (by decide +kernel)
theorem im_X7_byteAt : Cond.instanceMethod yX7_byteAt ∈ lw_g := lw_g_of (i := 1109) (by decide +kernel) (by decide +kernel)
theorem se_X7_byteAt : Cond.selects yX7_byteAt.cls yX7_byteAt yX7_byteAt ∈ lw_g := lw_g_of (i := 1110) (by decide +kernel) (by decide +kernel)
theorem cl2_LevelStoreModel_219 : Cond.constantLong "LevelStoreModel" 219 (1499 : Int64) ∈ lw_g := lw_g_of (i := 1112) (by decide +kernel) (by decide +kernel)
theorem ml_LevelStoreLaw_97 : Cond.methodLink "LevelStoreLaw" 97 yX7_log ∈ lw_g := lw_g_of (i := 1113) (by decide +kernel) (by decide +kernel)
theorem im_X7_log : Cond.instanceMethod yX7_log ∈ lw_g := lw_g_of (i := 1114) (by decide +kernel) (by decide +kernel)
theorem se_X7_log : Cond.selects yX7_log.cls yX7_log yX7_log ∈ lw_g := lw_g_of (i := 1115) (by decide +kernel) (by decide +kernel)
theorem ml_LevelStoreLaw_101 : Cond.methodLink "LevelStoreLaw" 101 yX7_count ∈ lw_g := lw_g_of (i := 1117) (by decide +kernel) (by decide +kernel)
theorem im_X7_count : Cond.instanceMethod yX7_count ∈ lw_g := lw_g_of (i := 1118) (by decide +kernel) (by decide +kernel)
theorem se_X7_count : Cond.selects yX7_count.cls yX7_count yX7_count ∈ lw_g := lw_g_of (i := 1119) (by decide +kernel) (by decide +kernel)
theorem ml_LevelStoreLaw_105 : Cond.methodLink "LevelStoreLaw" 105 yX7_check ∈ lw_g := lw_g_of (i := 1121) (by decide +kernel) (by decide +kernel)
theorem im_X7_check : Cond.instanceMethod yX7_check ∈ lw_g := lw_g_of (i := 1122) (by decide +kernel) (by decide +kernel)
theorem se_X7_check : Cond.selects yX7_check.cls yX7_check yX7_check ∈ lw_g := lw_g_of (i := 1123) (by decide +kernel) (by decide +kernel)
theorem ml_LevelStoreModel_221 : Cond.methodLink "LevelStoreModel" 221 yX7_codesAs ∈ lw_g := lw_g_of (i := 1125) (by decide +kernel) (by decide +kernel)
theorem im_X7_codesAs : Cond.instanceMethod yX7_codesAs ∈ lw_g := lw_g_of (i := 1127) (by decide +kernel) (by decide +kernel)
theorem se_getClass : Cond.selects "[Ljava/lang/Object;" ⟨"java/lang/Object", "getClass", "()Ljava/lang/Class;"⟩ ⟨"java/lang/Object", "getClass", "()Ljava/lang/Class;"⟩ ∈ lw_g := lw_g_of (i := 1139) (by decide +kernel) (by decide +kernel)
theorem se_X6_write : Cond.selects yX6_write.cls yX6_write yX6_write ∈ lw_g := lw_g_of (i := 0) (by decide +kernel) (by decide +kernel)
theorem se_X6_giveUpJob : Cond.selects yX6_giveUpJob.cls yX6_giveUpJob yX6_giveUpJob ∈ lw_g := lw_g_of (i := 1) (by decide +kernel) (by decide +kernel)
theorem se_X6_retire : Cond.selects yX6_retire.cls yX6_retire yX6_retire ∈ lw_g := lw_g_of (i := 2) (by decide +kernel) (by decide +kernel)
theorem se_Jx4a65c_fastRemove_b59b0 : Cond.selects yJx4a65c_fastRemove_b59b0.cls yJx4a65c_fastRemove_b59b0 yJx4a65c_fastRemove_b59b0 ∈ lw_g := lw_g_of (i := 3) (by decide +kernel) (by decide +kernel)
theorem se_X0_mark : Cond.selects yX0_mark.cls yX0_mark yX0_mark ∈ lw_g := lw_g_of (i := 4) (by decide +kernel) (by decide +kernel)
theorem se_Jx4a65c_rangeCheckForAdd_d00df : Cond.selects yJx4a65c_rangeCheckForAdd_d00df.cls yJx4a65c_rangeCheckForAdd_d00df yJx4a65c_rangeCheckForAdd_d00df ∈ lw_g := lw_g_of (i := 5) (by decide +kernel) (by decide +kernel)
theorem se_Jx4a65c_grow_d5877 : Cond.selects yJx4a65c_grow_d5877.cls yJx4a65c_grow_d5877 yJx4a65c_grow_d5877 ∈ lw_g := lw_g_of (i := 6) (by decide +kernel) (by decide +kernel)
theorem se_Jx4a65c_grow_92f84 : Cond.selects yJx4a65c_grow_92f84.cls yJx4a65c_grow_92f84 yJx4a65c_grow_92f84 ∈ lw_g := lw_g_of (i := 7) (by decide +kernel) (by decide +kernel)
theorem se_X6_greatestNumberLeft : Cond.selects yX6_greatestNumberLeft.cls yX6_greatestNumberLeft yX6_greatestNumberLeft ∈ lw_g := lw_g_of (i := 8) (by decide +kernel) (by decide +kernel)
theorem se_X6_readUpTo : Cond.selects yX6_readUpTo.cls yX6_readUpTo yX6_readUpTo ∈ lw_g := lw_g_of (i := 9) (by decide +kernel) (by decide +kernel)
theorem se_X6_readAll : Cond.selects yX6_readAll.cls yX6_readAll yX6_readAll ∈ lw_g := lw_g_of (i := 10) (by decide +kernel) (by decide +kernel)
theorem se_X6_isHeld : Cond.selects yX6_isHeld.cls yX6_isHeld yX6_isHeld ∈ lw_g := lw_g_of (i := 11) (by decide +kernel) (by decide +kernel)
theorem se_X6_numberOfView : Cond.selects yX6_numberOfView.cls yX6_numberOfView yX6_numberOfView ∈ lw_g := lw_g_of (i := 12) (by decide +kernel) (by decide +kernel)
theorem se_X6_isView : Cond.selects yX6_isView.cls yX6_isView yX6_isView ∈ lw_g := lw_g_of (i := 13) (by decide +kernel) (by decide +kernel)
theorem se_X6_levelAt : Cond.selects yX6_levelAt.cls yX6_levelAt yX6_levelAt ∈ lw_g := lw_g_of (i := 14) (by decide +kernel) (by decide +kernel)
theorem se_X2_isFirstOfKey : Cond.selects yX2_isFirstOfKey.cls yX2_isFirstOfKey yX2_isFirstOfKey ∈ lw_g := lw_g_of (i := 15) (by decide +kernel) (by decide +kernel)
theorem se_X2_isSeen : Cond.selects yX2_isSeen.cls yX2_isSeen yX2_isSeen ∈ lw_g := lw_g_of (i := 16) (by decide +kernel) (by decide +kernel)
theorem se_X2_leaveOutGraves : Cond.selects yX2_leaveOutGraves.cls yX2_leaveOutGraves yX2_leaveOutGraves ∈ lw_g := lw_g_of (i := 17) (by decide +kernel) (by decide +kernel)
theorem se_X2_isLastOfKey : Cond.selects yX2_isLastOfKey.cls yX2_isLastOfKey yX2_isLastOfKey ∈ lw_g := lw_g_of (i := 18) (by decide +kernel) (by decide +kernel)
theorem se_X6_doOneEntry : Cond.selects yX6_doOneEntry.cls yX6_doOneEntry yX6_doOneEntry ∈ lw_g := lw_g_of (i := 19) (by decide +kernel) (by decide +kernel)
theorem se_X6_endFile : Cond.selects yX6_endFile.cls yX6_endFile yX6_endFile ∈ lw_g := lw_g_of (i := 20) (by decide +kernel) (by decide +kernel)
theorem se_X6_freshFile : Cond.selects yX6_freshFile.cls yX6_freshFile yX6_freshFile ∈ lw_g := lw_g_of (i := 21) (by decide +kernel) (by decide +kernel)
theorem se_X0_encode : Cond.selects yX0_encode.cls yX0_encode yX0_encode ∈ lw_g := lw_g_of (i := 22) (by decide +kernel) (by decide +kernel)
theorem se_X0_emit : Cond.selects yX0_emit.cls yX0_emit yX0_emit ∈ lw_g := lw_g_of (i := 23) (by decide +kernel) (by decide +kernel)
theorem se_X0_emitShort : Cond.selects yX0_emitShort.cls yX0_emitShort yX0_emitShort ∈ lw_g := lw_g_of (i := 24) (by decide +kernel) (by decide +kernel)
theorem se_X0_sumOfCode : Cond.selects yX0_sumOfCode.cls yX0_sumOfCode yX0_sumOfCode ∈ lw_g := lw_g_of (i := 25) (by decide +kernel) (by decide +kernel)
theorem se_X0_firstRoom : Cond.selects yX0_firstRoom.cls yX0_firstRoom yX0_firstRoom ∈ lw_g := lw_g_of (i := 26) (by decide +kernel) (by decide +kernel)
theorem se_X6_loseFirstLogged : Cond.selects yX6_loseFirstLogged.cls yX6_loseFirstLogged yX6_loseFirstLogged ∈ lw_g := lw_g_of (i := 27) (by decide +kernel) (by decide +kernel)
theorem se_X6_fileAt : Cond.selects yX6_fileAt.cls yX6_fileAt yX6_fileAt ∈ lw_g := lw_g_of (i := 28) (by decide +kernel) (by decide +kernel)
theorem se_X6_filesInForce : Cond.selects yX6_filesInForce.cls yX6_filesInForce yX6_filesInForce ∈ lw_g := lw_g_of (i := 29) (by decide +kernel) (by decide +kernel)
theorem se_X6_bytesInForce : Cond.selects yX6_bytesInForce.cls yX6_bytesInForce yX6_bytesInForce ∈ lw_g := lw_g_of (i := 30) (by decide +kernel) (by decide +kernel)
theorem se_X6_entriesInForce : Cond.selects yX6_entriesInForce.cls yX6_entriesInForce yX6_entriesInForce ∈ lw_g := lw_g_of (i := 31) (by decide +kernel) (by decide +kernel)
theorem se_X7_write : Cond.selects yX7_write.cls yX7_write yX7_write ∈ lw_g := lw_g_of (i := 32) (by decide +kernel) (by decide +kernel)
theorem se_X7_giveUp : Cond.selects yX7_giveUp.cls yX7_giveUp yX7_giveUp ∈ lw_g := lw_g_of (i := 33) (by decide +kernel) (by decide +kernel)
theorem se_X7_read : Cond.selects yX7_read.cls yX7_read yX7_read ∈ lw_g := lw_g_of (i := 34) (by decide +kernel) (by decide +kernel)
theorem se_X7_noView : Cond.selects yX7_noView.cls yX7_noView yX7_noView ∈ lw_g := lw_g_of (i := 35) (by decide +kernel) (by decide +kernel)
theorem se_X7_begin : Cond.selects yX7_begin.cls yX7_begin yX7_begin ∈ lw_g := lw_g_of (i := 36) (by decide +kernel) (by decide +kernel)
theorem se_X7_source : Cond.selects yX7_source.cls yX7_source yX7_source ∈ lw_g := lw_g_of (i := 37) (by decide +kernel) (by decide +kernel)
theorem se_X7_listLevel : Cond.selects yX7_listLevel.cls yX7_listLevel yX7_listLevel ∈ lw_g := lw_g_of (i := 38) (by decide +kernel) (by decide +kernel)
theorem se_X7_least : Cond.selects yX7_least.cls yX7_least yX7_least ∈ lw_g := lw_g_of (i := 39) (by decide +kernel) (by decide +kernel)
theorem se_X7_greatest : Cond.selects yX7_greatest.cls yX7_greatest yX7_greatest ∈ lw_g := lw_g_of (i := 40) (by decide +kernel) (by decide +kernel)
theorem se_X7_sourceFile : Cond.selects yX7_sourceFile.cls yX7_sourceFile yX7_sourceFile ∈ lw_g := lw_g_of (i := 41) (by decide +kernel) (by decide +kernel)
theorem se_X7_does : Cond.selects yX7_does.cls yX7_does yX7_does ∈ lw_g := lw_g_of (i := 42) (by decide +kernel) (by decide +kernel)
theorem se_X7_isLeftOut : Cond.selects yX7_isLeftOut.cls yX7_isLeftOut yX7_isLeftOut ∈ lw_g := lw_g_of (i := 43) (by decide +kernel) (by decide +kernel)
theorem se_X7_isUnseen : Cond.selects yX7_isUnseen.cls yX7_isUnseen yX7_isUnseen ∈ lw_g := lw_g_of (i := 44) (by decide +kernel) (by decide +kernel)
theorem se_X7_ends : Cond.selects yX7_ends.cls yX7_ends yX7_ends ∈ lw_g := lw_g_of (i := 45) (by decide +kernel) (by decide +kernel)
theorem se_X7_encode : Cond.selects yX7_encode.cls yX7_encode yX7_encode ∈ lw_g := lw_g_of (i := 46) (by decide +kernel) (by decide +kernel)
theorem se_X7_shortNumber : Cond.selects yX7_shortNumber.cls yX7_shortNumber yX7_shortNumber ∈ lw_g := lw_g_of (i := 47) (by decide +kernel) (by decide +kernel)
theorem se_X7_room : Cond.selects yX7_room.cls yX7_room yX7_room ∈ lw_g := lw_g_of (i := 48) (by decide +kernel) (by decide +kernel)
theorem se_X7_slot : Cond.selects yX7_slot.cls yX7_slot yX7_slot ∈ lw_g := lw_g_of (i := 49) (by decide +kernel) (by decide +kernel)
theorem se_X7_codesAs : Cond.selects yX7_codesAs.cls yX7_codesAs yX7_codesAs ∈ lw_g := lw_g_of (i := 50) (by decide +kernel) (by decide +kernel)
theorem co_objInit : Cond.code Lib.objectInit ⟨#[0xb1]⟩ 1 none ∈ lw_g := lw_g_of (i := 76) (by decide +kernel) (by decide +kernel)
theorem mk_X6_init : ab_MK MX6_init 0 := ⟨lw_g_of (i := 73) (by decide +kernel) (by decide +kernel), ini_LevelStore, by decide +kernel, by decide +kernel, by decide +kernel, by decide +kernel⟩
theorem mk_X4_init : ab_MK MX4_init 1 := ⟨lw_g_of (i := 81) (by decide +kernel) (by decide +kernel), ini_Row, by decide +kernel, by decide +kernel, by decide +kernel, by decide +kernel⟩
theorem mk_X1_init : ab_MK MX1_init 0 := ⟨lw_g_of (i := 111) (by decide +kernel) (by decide +kernel), ini_FileRow, by decide +kernel, by decide +kernel, by decide +kernel, by decide +kernel⟩
theorem mk_Jx4a65c_init_da8c8 : ab_MK MJx4a65c_init_da8c8 0 := ⟨lw_g_of (i := 117) (by decide +kernel) (by decide +kernel), ini_ArrayList, by decide +kernel, by decide +kernel, by decide +kernel, by decide +kernel⟩
theorem mk_Jxc12de_init_da8c8 : ab_MK MJxc12de_init_da8c8 0 := ⟨lw_g_of (i := 120) (by decide +kernel) (by decide +kernel), ini_AbstractList, by decide +kernel, by decide +kernel, by decide +kernel, by decide +kernel⟩
theorem mk_Jxa1e45_init_da8c8 : ab_MK MJxa1e45_init_da8c8 0 := ⟨lw_g_of (i := 123) (by decide +kernel) (by decide +kernel), ini_AbstractCollection, by decide +kernel, by decide +kernel, by decide +kernel, by decide +kernel⟩
theorem mk_X0_init : ab_MK MX0_init 0 := ⟨lw_g_of (i := 147) (by decide +kernel) (by decide +kernel), ini_Field, by decide +kernel, by decide +kernel, by decide +kernel, by decide +kernel⟩
theorem mk_X3_init : ab_MK MX3_init 0 := ⟨lw_g_of (i := 168) (by decide +kernel) (by decide +kernel), ini_Reading, by decide +kernel, by decide +kernel, by decide +kernel, by decide +kernel⟩
theorem mk_X2_init : ab_MK MX2_init 0 := ⟨lw_g_of (i := 190) (by decide +kernel) (by decide +kernel), ini_Job, by decide +kernel, by decide +kernel, by decide +kernel, by decide +kernel⟩
theorem mk_X6_put : ab_MK MX6_put 2 := ⟨lw_g_of (i := 274) (by decide +kernel) (by decide +kernel), ini_LevelStore, by decide +kernel, by decide +kernel, by decide +kernel, by decide +kernel⟩
theorem mk_X6_isKey : ab_MK MX6_isKey 1 := ⟨lw_g_of (i := 277) (by decide +kernel) (by decide +kernel), ini_LevelStore, by decide +kernel, by decide +kernel, by decide +kernel, by decide +kernel⟩
theorem mk_X6_write : ab_MK MX6_write 2 := ⟨lw_g_of (i := 284) (by decide +kernel) (by decide +kernel), ini_LevelStore, by decide +kernel, by decide +kernel, by decide +kernel, by decide +kernel⟩
theorem mk_X4_add : ab_MK MX4_add 3 := ⟨lw_g_of (i := 290) (by decide +kernel) (by decide +kernel), ini_Row, by decide +kernel, by decide +kernel, by decide +kernel, by decide +kernel⟩
theorem mk_X4_setAt : ab_MK MX4_setAt 4 := ⟨lw_g_of (i := 294) (by decide +kernel) (by decide +kernel), ini_Row, by decide +kernel, by decide +kernel, by decide +kernel, by decide +kernel⟩
theorem mk_X4_has : ab_MK MX4_has 1 := ⟨lw_g_of (i := 298) (by decide +kernel) (by decide +kernel), ini_Row, by decide +kernel, by decide +kernel, by decide +kernel, by decide +kernel⟩
theorem mk_X6_drop : ab_MK MX6_drop 1 := ⟨lw_g_of (i := 302) (by decide +kernel) (by decide +kernel), ini_LevelStore, by decide +kernel, by decide +kernel, by decide +kernel, by decide +kernel⟩
theorem mk_X6_sync : ab_MK MX6_sync 0 := ⟨lw_g_of (i := 307) (by decide +kernel) (by decide +kernel), ini_LevelStore, by decide +kernel, by decide +kernel, by decide +kernel, by decide +kernel⟩
theorem mk_X6_crash : ab_MK MX6_crash 1 := ⟨lw_g_of (i := 311) (by decide +kernel) (by decide +kernel), ini_LevelStore, by decide +kernel, by decide +kernel, by decide +kernel, by decide +kernel⟩
theorem mk_X6_giveUpJob : ab_MK MX6_giveUpJob 0 := ⟨lw_g_of (i := 315) (by decide +kernel) (by decide +kernel), ini_LevelStore, by decide +kernel, by decide +kernel, by decide +kernel, by decide +kernel⟩
theorem mk_X1_size : ab_MK MX1_size 0 := ⟨lw_g_of (i := 319) (by decide +kernel) (by decide +kernel), ini_FileRow, by decide +kernel, by decide +kernel, by decide +kernel, by decide +kernel⟩
theorem mk_Jx4a65c_size_8abf5 : ab_MK MJx4a65c_size_8abf5 0 := ⟨lw_g_of (i := 323) (by decide +kernel) (by decide +kernel), ini_ArrayList, by decide +kernel, by decide +kernel, by decide +kernel, by decide +kernel⟩
theorem mk_X6_retire : ab_MK MX6_retire 3 := ⟨lw_g_of (i := 327) (by decide +kernel) (by decide +kernel), ini_LevelStore, by decide +kernel, by decide +kernel, by decide +kernel, by decide +kernel⟩
theorem mk_X1_takeOut : ab_MK MX1_takeOut 1 := ⟨lw_g_of (i := 331) (by decide +kernel) (by decide +kernel), ini_FileRow, by decide +kernel, by decide +kernel, by decide +kernel, by decide +kernel⟩
theorem mk_Jx4a65c_remove_915e3 : ab_MK MJx4a65c_remove_915e3 1 := ⟨lw_g_of (i := 335) (by decide +kernel) (by decide +kernel), ini_ArrayList, by decide +kernel, by decide +kernel, by decide +kernel, by decide +kernel⟩
theorem mk_J15_checkIndex_7cf53 : ab_MK MJ15_checkIndex_7cf53 2 := ⟨lw_g_of (i := 338) (by decide +kernel) (by decide +kernel), ini_Objects, by decide +kernel, by decide +kernel, by decide +kernel, by decide +kernel⟩
theorem mk_J3_checkIndex_8e157 : ab_MK MJ3_checkIndex_8e157 3 := ⟨lw_g_of (i := 341) (by decide +kernel) (by decide +kernel), ini_Preconditions, by decide +kernel, by decide +kernel, by decide +kernel, by decide +kernel⟩
theorem mk_Jx4a65c_fastRemove_b59b0 : ab_MK MJx4a65c_fastRemove_b59b0 2 := ⟨lw_g_of (i := 345) (by decide +kernel) (by decide +kernel), ini_ArrayList, by decide +kernel, by decide +kernel, by decide +kernel, by decide +kernel⟩
theorem mk_X0_free : ab_MK MX0_free 1 := ⟨lw_g_of (i := 353) (by decide +kernel) (by decide +kernel), ini_Field, by decide +kernel, by decide +kernel, by decide +kernel, by decide +kernel⟩
theorem mk_X0_mark : ab_MK MX0_mark 2 := ⟨lw_g_of (i := 357) (by decide +kernel) (by decide +kernel), ini_Field, by decide +kernel, by decide +kernel, by decide +kernel, by decide +kernel⟩
theorem mk_X0_has : ab_MK MX0_has 1 := ⟨lw_g_of (i := 361) (by decide +kernel) (by decide +kernel), ini_Field, by decide +kernel, by decide +kernel, by decide +kernel, by decide +kernel⟩
theorem mk_X1_add : ab_MK MX1_add 1 := ⟨lw_g_of (i := 365) (by decide +kernel) (by decide +kernel), ini_FileRow, by decide +kernel, by decide +kernel, by decide +kernel, by decide +kernel⟩
theorem mk_X1_insert : ab_MK MX1_insert 2 := ⟨lw_g_of (i := 369) (by decide +kernel) (by decide +kernel), ini_FileRow, by decide +kernel, by decide +kernel, by decide +kernel, by decide +kernel⟩
theorem mk_Jx4a65c_add_7a177 : ab_MK MJx4a65c_add_7a177 2 := ⟨lw_g_of (i := 373) (by decide +kernel) (by decide +kernel), ini_ArrayList, by decide +kernel, by decide +kernel, by decide +kernel, by decide +kernel⟩
theorem mk_Jx4a65c_rangeCheckForAdd_d00df : ab_MK MJx4a65c_rangeCheckForAdd_d00df 1 := ⟨lw_g_of (i := 377) (by decide +kernel) (by decide +kernel), ini_ArrayList, by decide +kernel, by decide +kernel, by decide +kernel, by decide +kernel⟩
theorem mk_Jx4a65c_grow_d5877 : ab_MK MJx4a65c_grow_d5877 0 := ⟨lw_g_of (i := 381) (by decide +kernel) (by decide +kernel), ini_ArrayList, by decide +kernel, by decide +kernel, by decide +kernel, by decide +kernel⟩
theorem mk_Jx4a65c_grow_92f84 : ab_MK MJx4a65c_grow_92f84 1 := ⟨lw_g_of (i := 385) (by decide +kernel) (by decide +kernel), ini_ArrayList, by decide +kernel, by decide +kernel, by decide +kernel, by decide +kernel⟩
theorem mk_J8_newLength_cabcc : ab_MK MJ8_newLength_cabcc 3 := ⟨lw_g_of (i := 388) (by decide +kernel) (by decide +kernel), ini_ArraysSupport, by decide +kernel, by decide +kernel, by decide +kernel, by decide +kernel⟩
theorem mk_J8_hugeLength_7cf53 : ab_MK MJ8_hugeLength_7cf53 2 := ⟨lw_g_of (i := 393) (by decide +kernel) (by decide +kernel), ini_ArraysSupport, by decide +kernel, by decide +kernel, by decide +kernel, by decide +kernel⟩
theorem mk_J7_copyOf_1904c : ab_MK MJ7_copyOf_1904c 2 := ⟨lw_g_of (i := 396) (by decide +kernel) (by decide +kernel), ini_Arrays, by decide +kernel, by decide +kernel, by decide +kernel, by decide +kernel⟩
theorem mk_J7_copyOf_6403c : ab_MK MJ7_copyOf_6403c 3 := ⟨lw_g_of (i := 412) (by decide +kernel) (by decide +kernel), ini_Arrays, by decide +kernel, by decide +kernel, by decide +kernel, by decide +kernel⟩
theorem mk_X2_end : ab_MK MX2_end 0 := ⟨lw_g_of (i := 425) (by decide +kernel) (by decide +kernel), ini_Job, by decide +kernel, by decide +kernel, by decide +kernel, by decide +kernel⟩
theorem mk_X1_empty : ab_MK MX1_empty 0 := ⟨lw_g_of (i := 429) (by decide +kernel) (by decide +kernel), ini_FileRow, by decide +kernel, by decide +kernel, by decide +kernel, by decide +kernel⟩
theorem mk_Jx4a65c_clear_da8c8 : ab_MK MJx4a65c_clear_da8c8 0 := ⟨lw_g_of (i := 433) (by decide +kernel) (by decide +kernel), ini_ArrayList, by decide +kernel, by decide +kernel, by decide +kernel, by decide +kernel⟩
theorem mk_X6_greatestNumberLeft : ab_MK MX6_greatestNumberLeft 0 := ⟨lw_g_of (i := 437) (by decide +kernel) (by decide +kernel), ini_LevelStore, by decide +kernel, by decide +kernel, by decide +kernel, by decide +kernel⟩
theorem mk_X4_greatestNumber : ab_MK MX4_greatestNumber 0 := ⟨lw_g_of (i := 441) (by decide +kernel) (by decide +kernel), ini_Row, by decide +kernel, by decide +kernel, by decide +kernel, by decide +kernel⟩
theorem mk_X4_number : ab_MK MX4_number 1 := ⟨lw_g_of (i := 445) (by decide +kernel) (by decide +kernel), ini_Row, by decide +kernel, by decide +kernel, by decide +kernel, by decide +kernel⟩
theorem mk_X1_greatestNumber : ab_MK MX1_greatestNumber 0 := ⟨lw_g_of (i := 450) (by decide +kernel) (by decide +kernel), ini_FileRow, by decide +kernel, by decide +kernel, by decide +kernel, by decide +kernel⟩
theorem mk_X1_at : ab_MK MX1_at 1 := ⟨lw_g_of (i := 454) (by decide +kernel) (by decide +kernel), ini_FileRow, by decide +kernel, by decide +kernel, by decide +kernel, by decide +kernel⟩
theorem mk_Jx4a65c_get_915e3 : ab_MK MJx4a65c_get_915e3 1 := ⟨lw_g_of (i := 458) (by decide +kernel) (by decide +kernel), ini_ArrayList, by decide +kernel, by decide +kernel, by decide +kernel, by decide +kernel⟩
theorem mk_Jx4a65c_elementData_915e3 : ab_MK MJx4a65c_elementData_915e3 1 := ⟨lw_g_of (i := 462) (by decide +kernel) (by decide +kernel), ini_ArrayList, by decide +kernel, by decide +kernel, by decide +kernel, by decide +kernel⟩
theorem mk_X6_get : ab_MK MX6_get 1 := ⟨lw_g_of (i := 469) (by decide +kernel) (by decide +kernel), ini_LevelStore, by decide +kernel, by decide +kernel, by decide +kernel, by decide +kernel⟩
theorem mk_X6_readUpTo : ab_MK MX6_readUpTo 2 := ⟨lw_g_of (i := 473) (by decide +kernel) (by decide +kernel), ini_LevelStore, by decide +kernel, by decide +kernel, by decide +kernel, by decide +kernel⟩
theorem mk_X3_begin : ab_MK MX3_begin 3 := ⟨lw_g_of (i := 477) (by decide +kernel) (by decide +kernel), ini_Reading, by decide +kernel, by decide +kernel, by decide +kernel, by decide +kernel⟩
theorem mk_X6_readAll : ab_MK MX6_readAll 0 := ⟨lw_g_of (i := 484) (by decide +kernel) (by decide +kernel), ini_LevelStore, by decide +kernel, by decide +kernel, by decide +kernel, by decide +kernel⟩
theorem mk_X3_take : ab_MK MX3_take 1 := ⟨lw_g_of (i := 488) (by decide +kernel) (by decide +kernel), ini_Reading, by decide +kernel, by decide +kernel, by decide +kernel, by decide +kernel⟩
theorem mk_X4_key : ab_MK MX4_key 1 := ⟨lw_g_of (i := 492) (by decide +kernel) (by decide +kernel), ini_Row, by decide +kernel, by decide +kernel, by decide +kernel, by decide +kernel⟩
theorem mk_X4_value : ab_MK MX4_value 1 := ⟨lw_g_of (i := 497) (by decide +kernel) (by decide +kernel), ini_Row, by decide +kernel, by decide +kernel, by decide +kernel, by decide +kernel⟩
theorem mk_X1_letRead : ab_MK MX1_letRead 1 := ⟨lw_g_of (i := 501) (by decide +kernel) (by decide +kernel), ini_FileRow, by decide +kernel, by decide +kernel, by decide +kernel, by decide +kernel⟩
theorem mk_X3_concerns : ab_MK MX3_concerns 1 := ⟨lw_g_of (i := 505) (by decide +kernel) (by decide +kernel), ini_Reading, by decide +kernel, by decide +kernel, by decide +kernel, by decide +kernel⟩
theorem mk_X5_leastKey : ab_MK MX5_leastKey 0 := ⟨lw_g_of (i := 509) (by decide +kernel) (by decide +kernel), ini_SortedFile, by decide +kernel, by decide +kernel, by decide +kernel, by decide +kernel⟩
theorem mk_X5_greatestKey : ab_MK MX5_greatestKey 0 := ⟨lw_g_of (i := 514) (by decide +kernel) (by decide +kernel), ini_SortedFile, by decide +kernel, by decide +kernel, by decide +kernel, by decide +kernel⟩
theorem mk_X3_valueOf : ab_MK MX3_valueOf 1 := ⟨lw_g_of (i := 519) (by decide +kernel) (by decide +kernel), ini_Reading, by decide +kernel, by decide +kernel, by decide +kernel, by decide +kernel⟩
theorem mk_X6_view : ab_MK MX6_view 2 := ⟨lw_g_of (i := 523) (by decide +kernel) (by decide +kernel), ini_LevelStore, by decide +kernel, by decide +kernel, by decide +kernel, by decide +kernel⟩
theorem mk_X6_isHeld : ab_MK MX6_isHeld 1 := ⟨lw_g_of (i := 527) (by decide +kernel) (by decide +kernel), ini_LevelStore, by decide +kernel, by decide +kernel, by decide +kernel, by decide +kernel⟩
theorem mk_X6_numberOfView : ab_MK MX6_numberOfView 1 := ⟨lw_g_of (i := 531) (by decide +kernel) (by decide +kernel), ini_LevelStore, by decide +kernel, by decide +kernel, by decide +kernel, by decide +kernel⟩
theorem mk_X6_isView : ab_MK MX6_isView 1 := ⟨lw_g_of (i := 535) (by decide +kernel) (by decide +kernel), ini_LevelStore, by decide +kernel, by decide +kernel, by decide +kernel, by decide +kernel⟩
theorem mk_X6_next : ab_MK MX6_next 2 := ⟨lw_g_of (i := 540) (by decide +kernel) (by decide +kernel), ini_LevelStore, by decide +kernel, by decide +kernel, by decide +kernel, by decide +kernel⟩
theorem mk_X3_leastKeyWithValue : ab_MK MX3_leastKeyWithValue 0 := ⟨lw_g_of (i := 544) (by decide +kernel) (by decide +kernel), ini_Reading, by decide +kernel, by decide +kernel, by decide +kernel, by decide +kernel⟩
theorem mk_X6_hold : ab_MK MX6_hold 1 := ⟨lw_g_of (i := 548) (by decide +kernel) (by decide +kernel), ini_LevelStore, by decide +kernel, by decide +kernel, by decide +kernel, by decide +kernel⟩
theorem mk_X6_release : ab_MK MX6_release 1 := ⟨lw_g_of (i := 553) (by decide +kernel) (by decide +kernel), ini_LevelStore, by decide +kernel, by decide +kernel, by decide +kernel, by decide +kernel⟩
theorem mk_X6_flush : ab_MK MX6_flush 0 := ⟨lw_g_of (i := 557) (by decide +kernel) (by decide +kernel), ini_LevelStore, by decide +kernel, by decide +kernel, by decide +kernel, by decide +kernel⟩
theorem mk_X2_begin : ab_MK MX2_begin 2 := ⟨lw_g_of (i := 561) (by decide +kernel) (by decide +kernel), ini_Job, by decide +kernel, by decide +kernel, by decide +kernel, by decide +kernel⟩
theorem mk_X6_files : ab_MK MX6_files 1 := ⟨lw_g_of (i := 565) (by decide +kernel) (by decide +kernel), ini_LevelStore, by decide +kernel, by decide +kernel, by decide +kernel, by decide +kernel⟩
theorem mk_X6_levelAt : ab_MK MX6_levelAt 1 := ⟨lw_g_of (i := 569) (by decide +kernel) (by decide +kernel), ini_LevelStore, by decide +kernel, by decide +kernel, by decide +kernel, by decide +kernel⟩
theorem mk_X4_insert : ab_MK MX4_insert 3 := ⟨lw_g_of (i := 576) (by decide +kernel) (by decide +kernel), ini_Row, by decide +kernel, by decide +kernel, by decide +kernel, by decide +kernel⟩
theorem mk_X4_standsBehind : ab_MK MX4_standsBehind 3 := ⟨lw_g_of (i := 580) (by decide +kernel) (by decide +kernel), ini_Row, by decide +kernel, by decide +kernel, by decide +kernel, by decide +kernel⟩
theorem mk_X4_copyTo : ab_MK MX4_copyTo 3 := ⟨lw_g_of (i := 585) (by decide +kernel) (by decide +kernel), ini_Row, by decide +kernel, by decide +kernel, by decide +kernel, by decide +kernel⟩
theorem mk_X2_decide : ab_MK MX2_decide 1 := ⟨lw_g_of (i := 590) (by decide +kernel) (by decide +kernel), ini_Job, by decide +kernel, by decide +kernel, by decide +kernel, by decide +kernel⟩
theorem mk_X2_isFirstOfKey : ab_MK MX2_isFirstOfKey 1 := ⟨lw_g_of (i := 594) (by decide +kernel) (by decide +kernel), ini_Job, by decide +kernel, by decide +kernel, by decide +kernel, by decide +kernel⟩
theorem mk_X2_isSeen : ab_MK MX2_isSeen 2 := ⟨lw_g_of (i := 599) (by decide +kernel) (by decide +kernel), ini_Job, by decide +kernel, by decide +kernel, by decide +kernel, by decide +kernel⟩
theorem mk_X2_leaveOutGraves : ab_MK MX2_leaveOutGraves 0 := ⟨lw_g_of (i := 604) (by decide +kernel) (by decide +kernel), ini_Job, by decide +kernel, by decide +kernel, by decide +kernel, by decide +kernel⟩
theorem mk_X2_isLastOfKey : ab_MK MX2_isLastOfKey 1 := ⟨lw_g_of (i := 609) (by decide +kernel) (by decide +kernel), ini_Job, by decide +kernel, by decide +kernel, by decide +kernel, by decide +kernel⟩
theorem mk_X4_isGrave : ab_MK MX4_isGrave 1 := ⟨lw_g_of (i := 613) (by decide +kernel) (by decide +kernel), ini_Row, by decide +kernel, by decide +kernel, by decide +kernel, by decide +kernel⟩
theorem mk_X2_left : ab_MK MX2_left 0 := ⟨lw_g_of (i := 617) (by decide +kernel) (by decide +kernel), ini_Job, by decide +kernel, by decide +kernel, by decide +kernel, by decide +kernel⟩
theorem mk_X6_merge : ab_MK MX6_merge 2 := ⟨lw_g_of (i := 621) (by decide +kernel) (by decide +kernel), ini_LevelStore, by decide +kernel, by decide +kernel, by decide +kernel, by decide +kernel⟩
theorem mk_X1_leastKey : ab_MK MX1_leastKey 2 := ⟨lw_g_of (i := 626) (by decide +kernel) (by decide +kernel), ini_FileRow, by decide +kernel, by decide +kernel, by decide +kernel, by decide +kernel⟩
theorem mk_X1_howManyEndBelow : ab_MK MX1_howManyEndBelow 1 := ⟨lw_g_of (i := 632) (by decide +kernel) (by decide +kernel), ini_FileRow, by decide +kernel, by decide +kernel, by decide +kernel, by decide +kernel⟩
theorem mk_X1_greatestKey : ab_MK MX1_greatestKey 2 := ⟨lw_g_of (i := 637) (by decide +kernel) (by decide +kernel), ini_FileRow, by decide +kernel, by decide +kernel, by decide +kernel, by decide +kernel⟩
theorem mk_X1_howManyBeginUpTo : ab_MK MX1_howManyBeginUpTo 1 := ⟨lw_g_of (i := 641) (by decide +kernel) (by decide +kernel), ini_FileRow, by decide +kernel, by decide +kernel, by decide +kernel, by decide +kernel⟩
theorem mk_X1_mergeInto : ab_MK MX1_mergeInto 3 := ⟨lw_g_of (i := 645) (by decide +kernel) (by decide +kernel), ini_FileRow, by decide +kernel, by decide +kernel, by decide +kernel, by decide +kernel⟩
theorem mk_X4_mergeIn : ab_MK MX4_mergeIn 1 := ⟨lw_g_of (i := 649) (by decide +kernel) (by decide +kernel), ini_Row, by decide +kernel, by decide +kernel, by decide +kernel, by decide +kernel⟩
theorem mk_X6_work : ab_MK MX6_work 1 := ⟨lw_g_of (i := 653) (by decide +kernel) (by decide +kernel), ini_LevelStore, by decide +kernel, by decide +kernel, by decide +kernel, by decide +kernel⟩
theorem mk_X6_doOneEntry : ab_MK MX6_doOneEntry 0 := ⟨lw_g_of (i := 657) (by decide +kernel) (by decide +kernel), ini_LevelStore, by decide +kernel, by decide +kernel, by decide +kernel, by decide +kernel⟩
theorem mk_X2_isLeftOut : ab_MK MX2_isLeftOut 1 := ⟨lw_g_of (i := 661) (by decide +kernel) (by decide +kernel), ini_Job, by decide +kernel, by decide +kernel, by decide +kernel, by decide +kernel⟩
theorem mk_X2_endsFileAhead : ab_MK MX2_endsFileAhead 1 := ⟨lw_g_of (i := 665) (by decide +kernel) (by decide +kernel), ini_Job, by decide +kernel, by decide +kernel, by decide +kernel, by decide +kernel⟩
theorem mk_X6_endFile : ab_MK MX6_endFile 0 := ⟨lw_g_of (i := 669) (by decide +kernel) (by decide +kernel), ini_LevelStore, by decide +kernel, by decide +kernel, by decide +kernel, by decide +kernel⟩
theorem mk_X6_freshFile : ab_MK MX6_freshFile 0 := ⟨lw_g_of (i := 673) (by decide +kernel) (by decide +kernel), ini_LevelStore, by decide +kernel, by decide +kernel, by decide +kernel, by decide +kernel⟩
theorem mk_X5_init : ab_MK MX5_init 0 := ⟨lw_g_of (i := 678) (by decide +kernel) (by decide +kernel), ini_SortedFile, by decide +kernel, by decide +kernel, by decide +kernel, by decide +kernel⟩
theorem mk_X4_takeAll : ab_MK MX4_takeAll 1 := ⟨lw_g_of (i := 704) (by decide +kernel) (by decide +kernel), ini_Row, by decide +kernel, by decide +kernel, by decide +kernel, by decide +kernel⟩
theorem mk_X0_lay : ab_MK MX0_lay 1 := ⟨lw_g_of (i := 709) (by decide +kernel) (by decide +kernel), ini_Field, by decide +kernel, by decide +kernel, by decide +kernel, by decide +kernel⟩
theorem mk_X0_encode : ab_MK MX0_encode 1 := ⟨lw_g_of (i := 713) (by decide +kernel) (by decide +kernel), ini_Field, by decide +kernel, by decide +kernel, by decide +kernel, by decide +kernel⟩
theorem mk_X0_emit : ab_MK MX0_emit 1 := ⟨lw_g_of (i := 717) (by decide +kernel) (by decide +kernel), ini_Field, by decide +kernel, by decide +kernel, by decide +kernel, by decide +kernel⟩
theorem mk_X0_emitShort : ab_MK MX0_emitShort 1 := ⟨lw_g_of (i := 722) (by decide +kernel) (by decide +kernel), ini_Field, by decide +kernel, by decide +kernel, by decide +kernel, by decide +kernel⟩
theorem mk_X0_folded : ab_MK MX0_folded 1 := ⟨lw_g_of (i := 728) (by decide +kernel) (by decide +kernel), ini_Field, by decide +kernel, by decide +kernel, by decide +kernel, by decide +kernel⟩
theorem mk_X0_sumOfCode : ab_MK MX0_sumOfCode 0 := ⟨lw_g_of (i := 732) (by decide +kernel) (by decide +kernel), ini_Field, by decide +kernel, by decide +kernel, by decide +kernel, by decide +kernel⟩
theorem mk_X0_firstRoom : ab_MK MX0_firstRoom 1 := ⟨lw_g_of (i := 736) (by decide +kernel) (by decide +kernel), ini_Field, by decide +kernel, by decide +kernel, by decide +kernel, by decide +kernel⟩
theorem mk_X6_install : ab_MK MX6_install 0 := ⟨lw_g_of (i := 740) (by decide +kernel) (by decide +kernel), ini_LevelStore, by decide +kernel, by decide +kernel, by decide +kernel, by decide +kernel⟩
theorem mk_X6_loseFirstLogged : ab_MK MX6_loseFirstLogged 1 := ⟨lw_g_of (i := 745) (by decide +kernel) (by decide +kernel), ini_LevelStore, by decide +kernel, by decide +kernel, by decide +kernel, by decide +kernel⟩
theorem mk_X4_loseFirst : ab_MK MX4_loseFirst 1 := ⟨lw_g_of (i := 749) (by decide +kernel) (by decide +kernel), ini_Row, by decide +kernel, by decide +kernel, by decide +kernel, by decide +kernel⟩
theorem mk_X6_stop : ab_MK MX6_stop 0 := ⟨lw_g_of (i := 753) (by decide +kernel) (by decide +kernel), ini_LevelStore, by decide +kernel, by decide +kernel, by decide +kernel, by decide +kernel⟩
theorem mk_X6_high : ab_MK MX6_high 0 := ⟨lw_g_of (i := 757) (by decide +kernel) (by decide +kernel), ini_LevelStore, by decide +kernel, by decide +kernel, by decide +kernel, by decide +kernel⟩
theorem mk_X6_file : ab_MK MX6_file 3 := ⟨lw_g_of (i := 762) (by decide +kernel) (by decide +kernel), ini_LevelStore, by decide +kernel, by decide +kernel, by decide +kernel, by decide +kernel⟩
theorem mk_X6_fileAt : ab_MK MX6_fileAt 2 := ⟨lw_g_of (i := 766) (by decide +kernel) (by decide +kernel), ini_LevelStore, by decide +kernel, by decide +kernel, by decide +kernel, by decide +kernel⟩
theorem mk_X6_entry : ab_MK MX6_entry 4 := ⟨lw_g_of (i := 772) (by decide +kernel) (by decide +kernel), ini_LevelStore, by decide +kernel, by decide +kernel, by decide +kernel, by decide +kernel⟩
theorem mk_X4_told : ab_MK MX4_told 2 := ⟨lw_g_of (i := 776) (by decide +kernel) (by decide +kernel), ini_Row, by decide +kernel, by decide +kernel, by decide +kernel, by decide +kernel⟩
theorem mk_X6_byteAt : ab_MK MX6_byteAt 1 := ⟨lw_g_of (i := 781) (by decide +kernel) (by decide +kernel), ini_LevelStore, by decide +kernel, by decide +kernel, by decide +kernel, by decide +kernel⟩
theorem mk_X6_log : ab_MK MX6_log 2 := ⟨lw_g_of (i := 786) (by decide +kernel) (by decide +kernel), ini_LevelStore, by decide +kernel, by decide +kernel, by decide +kernel, by decide +kernel⟩
theorem mk_X6_count : ab_MK MX6_count 1 := ⟨lw_g_of (i := 790) (by decide +kernel) (by decide +kernel), ini_LevelStore, by decide +kernel, by decide +kernel, by decide +kernel, by decide +kernel⟩
theorem mk_X6_filesInForce : ab_MK MX6_filesInForce 0 := ⟨lw_g_of (i := 794) (by decide +kernel) (by decide +kernel), ini_LevelStore, by decide +kernel, by decide +kernel, by decide +kernel, by decide +kernel⟩
theorem mk_X6_bytesInForce : ab_MK MX6_bytesInForce 0 := ⟨lw_g_of (i := 798) (by decide +kernel) (by decide +kernel), ini_LevelStore, by decide +kernel, by decide +kernel, by decide +kernel, by decide +kernel⟩
theorem mk_X1_bytes : ab_MK MX1_bytes 0 := ⟨lw_g_of (i := 802) (by decide +kernel) (by decide +kernel), ini_FileRow, by decide +kernel, by decide +kernel, by decide +kernel, by decide +kernel⟩
theorem mk_X6_entriesInForce : ab_MK MX6_entriesInForce 0 := ⟨lw_g_of (i := 806) (by decide +kernel) (by decide +kernel), ini_LevelStore, by decide +kernel, by decide +kernel, by decide +kernel, by decide +kernel⟩
theorem mk_X1_entries : ab_MK MX1_entries 0 := ⟨lw_g_of (i := 810) (by decide +kernel) (by decide +kernel), ini_FileRow, by decide +kernel, by decide +kernel, by decide +kernel, by decide +kernel⟩
theorem mk_X6_check : ab_MK MX6_check 0 := ⟨lw_g_of (i := 814) (by decide +kernel) (by decide +kernel), ini_LevelStore, by decide +kernel, by decide +kernel, by decide +kernel, by decide +kernel⟩
theorem mk_X0_holds : ab_MK MX0_holds 1 := ⟨lw_g_of (i := 818) (by decide +kernel) (by decide +kernel), ini_Field, by decide +kernel, by decide +kernel, by decide +kernel, by decide +kernel⟩
theorem mk_X7_init : ab_MK MX7_init 0 := ⟨lw_g_of (i := 823) (by decide +kernel) (by decide +kernel), ini_LevelStoreModel, by decide +kernel, by decide +kernel, by decide +kernel, by decide +kernel⟩
theorem mk_X7_put : ab_MK MX7_put 2 := ⟨lw_g_of (i := 952) (by decide +kernel) (by decide +kernel), ini_LevelStoreModel, by decide +kernel, by decide +kernel, by decide +kernel, by decide +kernel⟩
theorem mk_X7_in : ab_MK MX7_in 3 := ⟨lw_g_of (i := 956) (by decide +kernel) (by decide +kernel), ini_LevelStoreModel, by decide +kernel, by decide +kernel, by decide +kernel, by decide +kernel⟩
theorem mk_X7_write : ab_MK MX7_write 2 := ⟨lw_g_of (i := 963) (by decide +kernel) (by decide +kernel), ini_LevelStoreModel, by decide +kernel, by decide +kernel, by decide +kernel, by decide +kernel⟩
theorem mk_X7_drop : ab_MK MX7_drop 1 := ⟨lw_g_of (i := 969) (by decide +kernel) (by decide +kernel), ini_LevelStoreModel, by decide +kernel, by decide +kernel, by decide +kernel, by decide +kernel⟩
theorem mk_X7_sync : ab_MK MX7_sync 0 := ⟨lw_g_of (i := 974) (by decide +kernel) (by decide +kernel), ini_LevelStoreModel, by decide +kernel, by decide +kernel, by decide +kernel, by decide +kernel⟩
theorem mk_X7_crash : ab_MK MX7_crash 1 := ⟨lw_g_of (i := 978) (by decide +kernel) (by decide +kernel), ini_LevelStoreModel, by decide +kernel, by decide +kernel, by decide +kernel, by decide +kernel⟩
theorem mk_X7_giveUp : ab_MK MX7_giveUp 0 := ⟨lw_g_of (i := 982) (by decide +kernel) (by decide +kernel), ini_LevelStoreModel, by decide +kernel, by decide +kernel, by decide +kernel, by decide +kernel⟩
theorem mk_X7_get : ab_MK MX7_get 1 := ⟨lw_g_of (i := 986) (by decide +kernel) (by decide +kernel), ini_LevelStoreModel, by decide +kernel, by decide +kernel, by decide +kernel, by decide +kernel⟩
theorem mk_X7_read : ab_MK MX7_read 2 := ⟨lw_g_of (i := 990) (by decide +kernel) (by decide +kernel), ini_LevelStoreModel, by decide +kernel, by decide +kernel, by decide +kernel, by decide +kernel⟩
theorem mk_X7_view : ab_MK MX7_view 2 := ⟨lw_g_of (i := 995) (by decide +kernel) (by decide +kernel), ini_LevelStoreModel, by decide +kernel, by decide +kernel, by decide +kernel, by decide +kernel⟩
theorem mk_X7_noView : ab_MK MX7_noView 1 := ⟨lw_g_of (i := 999) (by decide +kernel) (by decide +kernel), ini_LevelStoreModel, by decide +kernel, by decide +kernel, by decide +kernel, by decide +kernel⟩
theorem mk_X7_next : ab_MK MX7_next 2 := ⟨lw_g_of (i := 1005) (by decide +kernel) (by decide +kernel), ini_LevelStoreModel, by decide +kernel, by decide +kernel, by decide +kernel, by decide +kernel⟩
theorem mk_X7_hold : ab_MK MX7_hold 1 := ⟨lw_g_of (i := 1009) (by decide +kernel) (by decide +kernel), ini_LevelStoreModel, by decide +kernel, by decide +kernel, by decide +kernel, by decide +kernel⟩
theorem mk_X7_release : ab_MK MX7_release 1 := ⟨lw_g_of (i := 1014) (by decide +kernel) (by decide +kernel), ini_LevelStoreModel, by decide +kernel, by decide +kernel, by decide +kernel, by decide +kernel⟩
theorem mk_X7_flush : ab_MK MX7_flush 0 := ⟨lw_g_of (i := 1018) (by decide +kernel) (by decide +kernel), ini_LevelStoreModel, by decide +kernel, by decide +kernel, by decide +kernel, by decide +kernel⟩
theorem mk_X7_begin : ab_MK MX7_begin 1 := ⟨lw_g_of (i := 1022) (by decide +kernel) (by decide +kernel), ini_LevelStoreModel, by decide +kernel, by decide +kernel, by decide +kernel, by decide +kernel⟩
theorem mk_X7_source : ab_MK MX7_source 3 := ⟨lw_g_of (i := 1026) (by decide +kernel) (by decide +kernel), ini_LevelStoreModel, by decide +kernel, by decide +kernel, by decide +kernel, by decide +kernel⟩
theorem mk_X7_merge : ab_MK MX7_merge 2 := ⟨lw_g_of (i := 1030) (by decide +kernel) (by decide +kernel), ini_LevelStoreModel, by decide +kernel, by decide +kernel, by decide +kernel, by decide +kernel⟩
theorem mk_X7_listLevel : ab_MK MX7_listLevel 1 := ⟨lw_g_of (i := 1034) (by decide +kernel) (by decide +kernel), ini_LevelStoreModel, by decide +kernel, by decide +kernel, by decide +kernel, by decide +kernel⟩
theorem mk_X7_least : ab_MK MX7_least 1 := ⟨lw_g_of (i := 1038) (by decide +kernel) (by decide +kernel), ini_LevelStoreModel, by decide +kernel, by decide +kernel, by decide +kernel, by decide +kernel⟩
theorem mk_X7_greatest : ab_MK MX7_greatest 1 := ⟨lw_g_of (i := 1042) (by decide +kernel) (by decide +kernel), ini_LevelStoreModel, by decide +kernel, by decide +kernel, by decide +kernel, by decide +kernel⟩
theorem mk_X7_sourceFile : ab_MK MX7_sourceFile 1 := ⟨lw_g_of (i := 1046) (by decide +kernel) (by decide +kernel), ini_LevelStoreModel, by decide +kernel, by decide +kernel, by decide +kernel, by decide +kernel⟩
theorem mk_X7_work : ab_MK MX7_work 1 := ⟨lw_g_of (i := 1050) (by decide +kernel) (by decide +kernel), ini_LevelStoreModel, by decide +kernel, by decide +kernel, by decide +kernel, by decide +kernel⟩
theorem mk_X7_does : ab_MK MX7_does 1 := ⟨lw_g_of (i := 1055) (by decide +kernel) (by decide +kernel), ini_LevelStoreModel, by decide +kernel, by decide +kernel, by decide +kernel, by decide +kernel⟩
theorem mk_X7_isLeftOut : ab_MK MX7_isLeftOut 1 := ⟨lw_g_of (i := 1059) (by decide +kernel) (by decide +kernel), ini_LevelStoreModel, by decide +kernel, by decide +kernel, by decide +kernel, by decide +kernel⟩
theorem mk_X7_isUnseen : ab_MK MX7_isUnseen 1 := ⟨lw_g_of (i := 1063) (by decide +kernel) (by decide +kernel), ini_LevelStoreModel, by decide +kernel, by decide +kernel, by decide +kernel, by decide +kernel⟩
theorem mk_X7_ends : ab_MK MX7_ends 0 := ⟨lw_g_of (i := 1067) (by decide +kernel) (by decide +kernel), ini_LevelStoreModel, by decide +kernel, by decide +kernel, by decide +kernel, by decide +kernel⟩
theorem mk_X7_encode : ab_MK MX7_encode 0 := ⟨lw_g_of (i := 1071) (by decide +kernel) (by decide +kernel), ini_LevelStoreModel, by decide +kernel, by decide +kernel, by decide +kernel, by decide +kernel⟩
theorem mk_X7_shortNumber : ab_MK MX7_shortNumber 1 := ⟨lw_g_of (i := 1075) (by decide +kernel) (by decide +kernel), ini_LevelStoreModel, by decide +kernel, by decide +kernel, by decide +kernel, by decide +kernel⟩
theorem mk_X7_room : ab_MK MX7_room 1 := ⟨lw_g_of (i := 1079) (by decide +kernel) (by decide +kernel), ini_LevelStoreModel, by decide +kernel, by decide +kernel, by decide +kernel, by decide +kernel⟩
theorem mk_X7_install : ab_MK MX7_install 0 := ⟨lw_g_of (i := 1083) (by decide +kernel) (by decide +kernel), ini_LevelStoreModel, by decide +kernel, by decide +kernel, by decide +kernel, by decide +kernel⟩
theorem mk_X7_stop : ab_MK MX7_stop 0 := ⟨lw_g_of (i := 1087) (by decide +kernel) (by decide +kernel), ini_LevelStoreModel, by decide +kernel, by decide +kernel, by decide +kernel, by decide +kernel⟩
theorem mk_X7_high : ab_MK MX7_high 0 := ⟨lw_g_of (i := 1091) (by decide +kernel) (by decide +kernel), ini_LevelStoreModel, by decide +kernel, by decide +kernel, by decide +kernel, by decide +kernel⟩
theorem mk_X7_files : ab_MK MX7_files 1 := ⟨lw_g_of (i := 1095) (by decide +kernel) (by decide +kernel), ini_LevelStoreModel, by decide +kernel, by decide +kernel, by decide +kernel, by decide +kernel⟩
theorem mk_X7_file : ab_MK MX7_file 3 := ⟨lw_g_of (i := 1099) (by decide +kernel) (by decide +kernel), ini_LevelStoreModel, by decide +kernel, by decide +kernel, by decide +kernel, by decide +kernel⟩
theorem mk_X7_slot : ab_MK MX7_slot 2 := ⟨lw_g_of (i := 1103) (by decide +kernel) (by decide +kernel), ini_LevelStoreModel, by decide +kernel, by decide +kernel, by decide +kernel, by decide +kernel⟩
theorem mk_X7_entry : ab_MK MX7_entry 4 := ⟨lw_g_of (i := 1107) (by decide +kernel) (by decide +kernel), ini_LevelStoreModel, by decide +kernel, by decide +kernel, by decide +kernel, by decide +kernel⟩
theorem mk_X7_byteAt : ab_MK MX7_byteAt 1 := ⟨lw_g_of (i := 1111) (by decide +kernel) (by decide +kernel), ini_LevelStoreModel, by decide +kernel, by decide +kernel, by decide +kernel, by decide +kernel⟩
theorem mk_X7_log : ab_MK MX7_log 2 := ⟨lw_g_of (i := 1116) (by decide +kernel) (by decide +kernel), ini_LevelStoreModel, by decide +kernel, by decide +kernel, by decide +kernel, by decide +kernel⟩
theorem mk_X7_count : ab_MK MX7_count 1 := ⟨lw_g_of (i := 1120) (by decide +kernel) (by decide +kernel), ini_LevelStoreModel, by decide +kernel, by decide +kernel, by decide +kernel, by decide +kernel⟩
theorem mk_X7_check : ab_MK MX7_check 0 := ⟨lw_g_of (i := 1124) (by decide +kernel) (by decide +kernel), ini_LevelStoreModel, by decide +kernel, by decide +kernel, by decide +kernel, by decide +kernel⟩
theorem mk_X7_codesAs : ab_MK MX7_codesAs 1 := ⟨lw_g_of (i := 1128) (by decide +kernel) (by decide +kernel), ini_LevelStoreModel, by decide +kernel, by decide +kernel, by decide +kernel, by decide +kernel⟩
end
section
theorem dX0_init_0 : decode cX0_init 0 = .ok (.aload_n 0, 1) := by decide +kernel
theorem dX0_init_1 : decode cX0_init 1 = .ok (.invokespecial 3, 3) := by decide +kernel
theorem dX0_init_4 : decode cX0_init 4 = .ok (.aload_n 0, 1) := by decide +kernel
theorem dX0_init_5 : decode cX0_init 5 = .ok (.sipush 1500, 3) := by decide +kernel
theorem dX0_init_8 : decode cX0_init 8 = .ok (.newarray .int, 2) := by decide +kernel
theorem dX0_init_10 : decode cX0_init 10 = .ok (.putfield 9, 3) := by decide +kernel
theorem dX0_init_13 : decode cX0_init 13 = .ok (.aload_n 0, 1) := by decide +kernel
theorem dX0_init_14 : decode cX0_init 14 = .ok (.sipush 1500, 3) := by decide +kernel
theorem dX0_init_17 : decode cX0_init 17 = .ok (.newarray .boolean, 2) := by decide +kernel
theorem dX0_init_19 : decode cX0_init 19 = .ok (.putfield 15, 3) := by decide +kernel
theorem dX0_init_22 : decode cX0_init 22 = .ok (.aload_n 0, 1) := by decide +kernel
theorem dX0_init_23 : decode cX0_init 23 = .ok (.sipush 194, 3) := by decide +kernel
theorem dX0_init_26 : decode cX0_init 26 = .ok (.newarray .int, 2) := by decide +kernel
theorem dX0_init_28 : decode cX0_init 28 = .ok (.putfield 19, 3) := by decide +kernel
theorem dX0_init_31 : decode cX0_init 31 = .ok (.return_, 1) := by decide +kernel
theorem dX0_has_0 : decode cX0_has 0 = .ok (.iload_n 1, 1) := by decide +kernel
theorem dX0_has_1 : decode cX0_has 1 = .ok (.ifCond .lt 32, 3) := by decide +kernel
theorem dX0_has_4 : decode cX0_has 4 = .ok (.iload_n 1, 1) := by decide +kernel
theorem dX0_has_5 : decode cX0_has 5 = .ok (.sipush 1500, 3) := by decide +kernel
theorem dX0_has_8 : decode cX0_has 8 = .ok (.if_icmp .ge 25, 3) := by decide +kernel
theorem dX0_has_11 : decode cX0_has 11 = .ok (.iload_n 1, 1) := by decide +kernel
theorem dX0_has_12 : decode cX0_has 12 = .ok (.aload_n 0, 1) := by decide +kernel
theorem dX0_has_13 : decode cX0_has 13 = .ok (.getfield 9, 3) := by decide +kernel
theorem dX0_has_16 : decode cX0_has 16 = .ok (.arraylength, 1) := by decide +kernel
theorem dX0_has_17 : decode cX0_has 17 = .ok (.if_icmp .ge 16, 3) := by decide +kernel
theorem dX0_has_20 : decode cX0_has 20 = .ok (.iload_n 1, 1) := by decide +kernel
theorem dX0_has_21 : decode cX0_has 21 = .ok (.aload_n 0, 1) := by decide +kernel
theorem dX0_has_22 : decode cX0_has 22 = .ok (.getfield 15, 3) := by decide +kernel
theorem dX0_has_25 : decode cX0_has 25 = .ok (.arraylength, 1) := by decide +kernel
theorem dX0_has_26 : decode cX0_has 26 = .ok (.if_icmp .ge 7, 3) := by decide +kernel
theorem dX0_has_29 : decode cX0_has 29 = .ok (.iconst 1, 1) := by decide +kernel
theorem dX0_has_30 : decode cX0_has 30 = .ok (.goto 4, 3) := by decide +kernel
theorem dX0_has_33 : decode cX0_has 33 = .ok (.iconst 0, 1) := by decide +kernel
theorem dX0_has_34 : decode cX0_has 34 = .ok (.ireturn, 1) := by decide +kernel
theorem dX0_lay_0 : decode cX0_lay 0 = .ok (.aload_n 0, 1) := by decide +kernel
theorem dX0_lay_1 : decode cX0_lay 1 = .ok (.aload_n 1, 1) := by decide +kernel
theorem dX0_lay_2 : decode cX0_lay 2 = .ok (.getfield 22, 3) := by decide +kernel
theorem dX0_lay_5 : decode cX0_lay 5 = .ok (.invokevirtual 28, 3) := by decide +kernel
theorem dX0_lay_8 : decode cX0_lay 8 = .ok (.aload_n 0, 1) := by decide +kernel
theorem dX0_lay_9 : decode cX0_lay 9 = .ok (.aload_n 0, 1) := by decide +kernel
theorem dX0_lay_10 : decode cX0_lay 10 = .ok (.getfield 32, 3) := by decide +kernel
theorem dX0_lay_13 : decode cX0_lay 13 = .ok (.invokevirtual 36, 3) := by decide +kernel
theorem dX0_lay_16 : decode cX0_lay 16 = .ok (.istore_n 2, 1) := by decide +kernel
theorem dX0_lay_17 : decode cX0_lay 17 = .ok (.iload_n 2, 1) := by decide +kernel
theorem dX0_lay_18 : decode cX0_lay 18 = .ok (.iconst (-1), 1) := by decide +kernel
theorem dX0_lay_19 : decode cX0_lay 19 = .ok (.if_icmp .ne 5, 3) := by decide +kernel
theorem dX0_lay_22 : decode cX0_lay 22 = .ok (.iconst 0, 1) := by decide +kernel
theorem dX0_lay_23 : decode cX0_lay 23 = .ok (.ireturn, 1) := by decide +kernel
theorem dX0_lay_24 : decode cX0_lay 24 = .ok (.aload_n 1, 1) := by decide +kernel
theorem dX0_lay_25 : decode cX0_lay 25 = .ok (.iload_n 2, 1) := by decide +kernel
theorem dX0_lay_26 : decode cX0_lay 26 = .ok (.putfield 40, 3) := by decide +kernel
theorem dX0_lay_29 : decode cX0_lay 29 = .ok (.aload_n 1, 1) := by decide +kernel
theorem dX0_lay_30 : decode cX0_lay 30 = .ok (.aload_n 0, 1) := by decide +kernel
theorem dX0_lay_31 : decode cX0_lay 31 = .ok (.getfield 32, 3) := by decide +kernel
theorem dX0_lay_34 : decode cX0_lay 34 = .ok (.putfield 43, 3) := by decide +kernel
theorem dX0_lay_37 : decode cX0_lay 37 = .ok (.iconst 0, 1) := by decide +kernel
theorem dX0_lay_38 : decode cX0_lay 38 = .ok (.istore_n 3, 1) := by decide +kernel
theorem dX0_lay_39 : decode cX0_lay 39 = .ok (.iload_n 3, 1) := by decide +kernel
theorem dX0_lay_40 : decode cX0_lay 40 = .ok (.aload_n 0, 1) := by decide +kernel
theorem dX0_lay_41 : decode cX0_lay 41 = .ok (.getfield 32, 3) := by decide +kernel
theorem dX0_lay_44 : decode cX0_lay 44 = .ok (.if_icmp .ge 42, 3) := by decide +kernel
theorem dX0_lay_47 : decode cX0_lay 47 = .ok (.iload_n 3, 1) := by decide +kernel
theorem dX0_lay_48 : decode cX0_lay 48 = .ok (.aload_n 0, 1) := by decide +kernel
theorem dX0_lay_49 : decode cX0_lay 49 = .ok (.getfield 19, 3) := by decide +kernel
theorem dX0_lay_52 : decode cX0_lay 52 = .ok (.arraylength, 1) := by decide +kernel
theorem dX0_lay_53 : decode cX0_lay 53 = .ok (.if_icmp .ge 33, 3) := by decide +kernel
theorem dX0_lay_56 : decode cX0_lay 56 = .ok (.aload_n 0, 1) := by decide +kernel
theorem dX0_lay_57 : decode cX0_lay 57 = .ok (.iload_n 2, 1) := by decide +kernel
theorem dX0_lay_58 : decode cX0_lay 58 = .ok (.iload_n 3, 1) := by decide +kernel
theorem dX0_lay_59 : decode cX0_lay 59 = .ok (.iadd, 1) := by decide +kernel
theorem dX0_lay_60 : decode cX0_lay 60 = .ok (.invokevirtual 46, 3) := by decide +kernel
theorem dX0_lay_63 : decode cX0_lay 63 = .ok (.ifCond .eq 17, 3) := by decide +kernel
theorem dX0_lay_66 : decode cX0_lay 66 = .ok (.aload_n 0, 1) := by decide +kernel
theorem dX0_lay_67 : decode cX0_lay 67 = .ok (.getfield 9, 3) := by decide +kernel
theorem dX0_lay_70 : decode cX0_lay 70 = .ok (.iload_n 2, 1) := by decide +kernel
theorem dX0_lay_71 : decode cX0_lay 71 = .ok (.iload_n 3, 1) := by decide +kernel
theorem dX0_lay_72 : decode cX0_lay 72 = .ok (.iadd, 1) := by decide +kernel
theorem dX0_lay_73 : decode cX0_lay 73 = .ok (.aload_n 0, 1) := by decide +kernel
theorem dX0_lay_74 : decode cX0_lay 74 = .ok (.getfield 19, 3) := by decide +kernel
theorem dX0_lay_77 : decode cX0_lay 77 = .ok (.iload_n 3, 1) := by decide +kernel
theorem dX0_lay_78 : decode cX0_lay 78 = .ok (.iaload, 1) := by decide +kernel
theorem dX0_lay_79 : decode cX0_lay 79 = .ok (.iastore, 1) := by decide +kernel
theorem dX0_lay_80 : decode cX0_lay 80 = .ok (.iinc 3 1, 3) := by decide +kernel
theorem dX0_lay_83 : decode cX0_lay 83 = .ok (.goto (-44), 3) := by decide +kernel
theorem dX0_lay_86 : decode cX0_lay 86 = .ok (.aload_n 0, 1) := by decide +kernel
theorem dX0_lay_87 : decode cX0_lay 87 = .ok (.aload_n 1, 1) := by decide +kernel
theorem dX0_lay_88 : decode cX0_lay 88 = .ok (.iconst 1, 1) := by decide +kernel
theorem dX0_lay_89 : decode cX0_lay 89 = .ok (.invokevirtual 50, 3) := by decide +kernel
theorem dX0_lay_92 : decode cX0_lay 92 = .ok (.iconst 1, 1) := by decide +kernel
theorem dX0_lay_93 : decode cX0_lay 93 = .ok (.ireturn, 1) := by decide +kernel
theorem dX0_free_0 : decode cX0_free 0 = .ok (.aload_n 0, 1) := by decide +kernel
theorem dX0_free_1 : decode cX0_free 1 = .ok (.aload_n 1, 1) := by decide +kernel
theorem dX0_free_2 : decode cX0_free 2 = .ok (.iconst 0, 1) := by decide +kernel
theorem dX0_free_3 : decode cX0_free 3 = .ok (.invokevirtual 50, 3) := by decide +kernel
theorem dX0_free_6 : decode cX0_free 6 = .ok (.return_, 1) := by decide +kernel
theorem dX0_holds_0 : decode cX0_holds 0 = .ok (.aload_n 0, 1) := by decide +kernel
theorem dX0_holds_1 : decode cX0_holds 1 = .ok (.aload_n 1, 1) := by decide +kernel
theorem dX0_holds_2 : decode cX0_holds 2 = .ok (.getfield 22, 3) := by decide +kernel
theorem dX0_holds_5 : decode cX0_holds 5 = .ok (.invokevirtual 28, 3) := by decide +kernel
theorem dX0_holds_8 : decode cX0_holds 8 = .ok (.aload_n 0, 1) := by decide +kernel
theorem dX0_holds_9 : decode cX0_holds 9 = .ok (.getfield 32, 3) := by decide +kernel
theorem dX0_holds_12 : decode cX0_holds 12 = .ok (.aload_n 1, 1) := by decide +kernel
theorem dX0_holds_13 : decode cX0_holds 13 = .ok (.getfield 43, 3) := by decide +kernel
theorem dX0_holds_16 : decode cX0_holds 16 = .ok (.if_icmp .ne 7, 3) := by decide +kernel
theorem dX0_holds_19 : decode cX0_holds 19 = .ok (.iconst 1, 1) := by decide +kernel
theorem dX0_holds_20 : decode cX0_holds 20 = .ok (.goto 4, 3) := by decide +kernel
theorem dX0_holds_23 : decode cX0_holds 23 = .ok (.iconst 0, 1) := by decide +kernel
theorem dX0_holds_24 : decode cX0_holds 24 = .ok (.istore_n 2, 1) := by decide +kernel
theorem dX0_holds_25 : decode cX0_holds 25 = .ok (.iconst 0, 1) := by decide +kernel
theorem dX0_holds_26 : decode cX0_holds 26 = .ok (.istore_n 3, 1) := by decide +kernel
theorem dX0_holds_27 : decode cX0_holds 27 = .ok (.iload_n 2, 1) := by decide +kernel
theorem dX0_holds_28 : decode cX0_holds 28 = .ok (.ifCond .eq 65, 3) := by decide +kernel
theorem dX0_holds_31 : decode cX0_holds 31 = .ok (.iload_n 3, 1) := by decide +kernel
theorem dX0_holds_32 : decode cX0_holds 32 = .ok (.aload_n 0, 1) := by decide +kernel
theorem dX0_holds_33 : decode cX0_holds 33 = .ok (.getfield 32, 3) := by decide +kernel
theorem dX0_holds_36 : decode cX0_holds 36 = .ok (.if_icmp .ge 57, 3) := by decide +kernel
theorem dX0_holds_39 : decode cX0_holds 39 = .ok (.iload_n 3, 1) := by decide +kernel
theorem dX0_holds_40 : decode cX0_holds 40 = .ok (.aload_n 0, 1) := by decide +kernel
theorem dX0_holds_41 : decode cX0_holds 41 = .ok (.getfield 19, 3) := by decide +kernel
theorem dX0_holds_44 : decode cX0_holds 44 = .ok (.arraylength, 1) := by decide +kernel
theorem dX0_holds_45 : decode cX0_holds 45 = .ok (.if_icmp .ge 48, 3) := by decide +kernel
theorem dX0_holds_48 : decode cX0_holds 48 = .ok (.aload_n 0, 1) := by decide +kernel
theorem dX0_holds_49 : decode cX0_holds 49 = .ok (.aload_n 1, 1) := by decide +kernel
theorem dX0_holds_50 : decode cX0_holds 50 = .ok (.getfield 40, 3) := by decide +kernel
theorem dX0_holds_53 : decode cX0_holds 53 = .ok (.iload_n 3, 1) := by decide +kernel
theorem dX0_holds_54 : decode cX0_holds 54 = .ok (.iadd, 1) := by decide +kernel
theorem dX0_holds_55 : decode cX0_holds 55 = .ok (.invokevirtual 46, 3) := by decide +kernel
theorem dX0_holds_58 : decode cX0_holds 58 = .ok (.ifCond .eq 27, 3) := by decide +kernel
theorem dX0_holds_61 : decode cX0_holds 61 = .ok (.aload_n 0, 1) := by decide +kernel
theorem dX0_holds_62 : decode cX0_holds 62 = .ok (.getfield 9, 3) := by decide +kernel
theorem dX0_holds_65 : decode cX0_holds 65 = .ok (.aload_n 1, 1) := by decide +kernel
theorem dX0_holds_66 : decode cX0_holds 66 = .ok (.getfield 40, 3) := by decide +kernel
theorem dX0_holds_69 : decode cX0_holds 69 = .ok (.iload_n 3, 1) := by decide +kernel
theorem dX0_holds_70 : decode cX0_holds 70 = .ok (.iadd, 1) := by decide +kernel
theorem dX0_holds_71 : decode cX0_holds 71 = .ok (.iaload, 1) := by decide +kernel
theorem dX0_holds_72 : decode cX0_holds 72 = .ok (.aload_n 0, 1) := by decide +kernel
theorem dX0_holds_73 : decode cX0_holds 73 = .ok (.getfield 19, 3) := by decide +kernel
theorem dX0_holds_76 : decode cX0_holds 76 = .ok (.iload_n 3, 1) := by decide +kernel
theorem dX0_holds_77 : decode cX0_holds 77 = .ok (.iaload, 1) := by decide +kernel
theorem dX0_holds_78 : decode cX0_holds 78 = .ok (.if_icmp .ne 7, 3) := by decide +kernel
theorem dX0_holds_81 : decode cX0_holds 81 = .ok (.iconst 1, 1) := by decide +kernel
theorem dX0_holds_82 : decode cX0_holds 82 = .ok (.goto 4, 3) := by decide +kernel
theorem dX0_holds_85 : decode cX0_holds 85 = .ok (.iconst 0, 1) := by decide +kernel
theorem dX0_holds_86 : decode cX0_holds 86 = .ok (.istore_n 2, 1) := by decide +kernel
theorem dX0_holds_87 : decode cX0_holds 87 = .ok (.iinc 3 1, 3) := by decide +kernel
theorem dX0_holds_90 : decode cX0_holds 90 = .ok (.goto (-63), 3) := by decide +kernel
theorem dX0_holds_93 : decode cX0_holds 93 = .ok (.iload_n 2, 1) := by decide +kernel
theorem dX0_holds_94 : decode cX0_holds 94 = .ok (.ireturn, 1) := by decide +kernel
theorem dX0_mark_0 : decode cX0_mark 0 = .ok (.iconst 0, 1) := by decide +kernel
theorem dX0_mark_1 : decode cX0_mark 1 = .ok (.istore_n 3, 1) := by decide +kernel
theorem dX0_mark_2 : decode cX0_mark 2 = .ok (.iload_n 3, 1) := by decide +kernel
theorem dX0_mark_3 : decode cX0_mark 3 = .ok (.aload_n 1, 1) := by decide +kernel
theorem dX0_mark_4 : decode cX0_mark 4 = .ok (.getfield 43, 3) := by decide +kernel
theorem dX0_mark_7 : decode cX0_mark 7 = .ok (.if_icmp .ge 34, 3) := by decide +kernel
theorem dX0_mark_10 : decode cX0_mark 10 = .ok (.aload_n 0, 1) := by decide +kernel
theorem dX0_mark_11 : decode cX0_mark 11 = .ok (.aload_n 1, 1) := by decide +kernel
theorem dX0_mark_12 : decode cX0_mark 12 = .ok (.getfield 40, 3) := by decide +kernel
theorem dX0_mark_15 : decode cX0_mark 15 = .ok (.iload_n 3, 1) := by decide +kernel
theorem dX0_mark_16 : decode cX0_mark 16 = .ok (.iadd, 1) := by decide +kernel
theorem dX0_mark_17 : decode cX0_mark 17 = .ok (.invokevirtual 46, 3) := by decide +kernel
theorem dX0_mark_20 : decode cX0_mark 20 = .ok (.ifCond .eq 15, 3) := by decide +kernel
theorem dX0_mark_23 : decode cX0_mark 23 = .ok (.aload_n 0, 1) := by decide +kernel
theorem dX0_mark_24 : decode cX0_mark 24 = .ok (.getfield 15, 3) := by decide +kernel
theorem dX0_mark_27 : decode cX0_mark 27 = .ok (.aload_n 1, 1) := by decide +kernel
theorem dX0_mark_28 : decode cX0_mark 28 = .ok (.getfield 40, 3) := by decide +kernel
theorem dX0_mark_31 : decode cX0_mark 31 = .ok (.iload_n 3, 1) := by decide +kernel
theorem dX0_mark_32 : decode cX0_mark 32 = .ok (.iadd, 1) := by decide +kernel
theorem dX0_mark_33 : decode cX0_mark 33 = .ok (.iload_n 2, 1) := by decide +kernel
theorem dX0_mark_34 : decode cX0_mark 34 = .ok (.bastore, 1) := by decide +kernel
theorem dX0_mark_35 : decode cX0_mark 35 = .ok (.iinc 3 1, 3) := by decide +kernel
theorem dX0_mark_38 : decode cX0_mark 38 = .ok (.goto (-36), 3) := by decide +kernel
theorem dX0_mark_41 : decode cX0_mark 41 = .ok (.return_, 1) := by decide +kernel
theorem dX0_firstRoom_0 : decode cX0_firstRoom 0 = .ok (.iconst 0, 1) := by decide +kernel
theorem dX0_firstRoom_1 : decode cX0_firstRoom 1 = .ok (.istore_n 2, 1) := by decide +kernel
theorem dX0_firstRoom_2 : decode cX0_firstRoom 2 = .ok (.iconst 0, 1) := by decide +kernel
theorem dX0_firstRoom_3 : decode cX0_firstRoom 3 = .ok (.istore_n 3, 1) := by decide +kernel
theorem dX0_firstRoom_4 : decode cX0_firstRoom 4 = .ok (.iload_n 3, 1) := by decide +kernel
theorem dX0_firstRoom_5 : decode cX0_firstRoom 5 = .ok (.aload_n 0, 1) := by decide +kernel
theorem dX0_firstRoom_6 : decode cX0_firstRoom 6 = .ok (.getfield 15, 3) := by decide +kernel
theorem dX0_firstRoom_9 : decode cX0_firstRoom 9 = .ok (.arraylength, 1) := by decide +kernel
theorem dX0_firstRoom_10 : decode cX0_firstRoom 10 = .ok (.if_icmp .ge 37, 3) := by decide +kernel
theorem dX0_firstRoom_13 : decode cX0_firstRoom 13 = .ok (.aload_n 0, 1) := by decide +kernel
theorem dX0_firstRoom_14 : decode cX0_firstRoom 14 = .ok (.getfield 15, 3) := by decide +kernel
theorem dX0_firstRoom_17 : decode cX0_firstRoom 17 = .ok (.iload_n 3, 1) := by decide +kernel
theorem dX0_firstRoom_18 : decode cX0_firstRoom 18 = .ok (.baload, 1) := by decide +kernel
theorem dX0_firstRoom_19 : decode cX0_firstRoom 19 = .ok (.ifCond .eq 7, 3) := by decide +kernel
theorem dX0_firstRoom_22 : decode cX0_firstRoom 22 = .ok (.iconst 0, 1) := by decide +kernel
theorem dX0_firstRoom_23 : decode cX0_firstRoom 23 = .ok (.goto 6, 3) := by decide +kernel
theorem dX0_firstRoom_26 : decode cX0_firstRoom 26 = .ok (.iload_n 2, 1) := by decide +kernel
theorem dX0_firstRoom_27 : decode cX0_firstRoom 27 = .ok (.iconst 1, 1) := by decide +kernel
theorem dX0_firstRoom_28 : decode cX0_firstRoom 28 = .ok (.iadd, 1) := by decide +kernel
theorem dX0_firstRoom_29 : decode cX0_firstRoom 29 = .ok (.istore_n 2, 1) := by decide +kernel
theorem dX0_firstRoom_30 : decode cX0_firstRoom 30 = .ok (.iload_n 2, 1) := by decide +kernel
theorem dX0_firstRoom_31 : decode cX0_firstRoom 31 = .ok (.iload_n 1, 1) := by decide +kernel
theorem dX0_firstRoom_32 : decode cX0_firstRoom 32 = .ok (.if_icmp .ne 9, 3) := by decide +kernel
theorem dX0_firstRoom_35 : decode cX0_firstRoom 35 = .ok (.iload_n 3, 1) := by decide +kernel
theorem dX0_firstRoom_36 : decode cX0_firstRoom 36 = .ok (.iconst 1, 1) := by decide +kernel
theorem dX0_firstRoom_37 : decode cX0_firstRoom 37 = .ok (.iadd, 1) := by decide +kernel
theorem dX0_firstRoom_38 : decode cX0_firstRoom 38 = .ok (.iload_n 1, 1) := by decide +kernel
theorem dX0_firstRoom_39 : decode cX0_firstRoom 39 = .ok (.isub, 1) := by decide +kernel
theorem dX0_firstRoom_40 : decode cX0_firstRoom 40 = .ok (.ireturn, 1) := by decide +kernel
theorem dX0_firstRoom_41 : decode cX0_firstRoom 41 = .ok (.iinc 3 1, 3) := by decide +kernel
theorem dX0_firstRoom_44 : decode cX0_firstRoom 44 = .ok (.goto (-40), 3) := by decide +kernel
theorem dX0_firstRoom_47 : decode cX0_firstRoom 47 = .ok (.iconst (-1), 1) := by decide +kernel
theorem dX0_firstRoom_48 : decode cX0_firstRoom 48 = .ok (.ireturn, 1) := by decide +kernel
theorem dX0_encode_0 : decode cX0_encode 0 = .ok (.aload_n 0, 1) := by decide +kernel
theorem dX0_encode_1 : decode cX0_encode 1 = .ok (.iconst 0, 1) := by decide +kernel
theorem dX0_encode_2 : decode cX0_encode 2 = .ok (.putfield 32, 3) := by decide +kernel
theorem dX0_encode_5 : decode cX0_encode 5 = .ok (.aload_n 0, 1) := by decide +kernel
theorem dX0_encode_6 : decode cX0_encode 6 = .ok (.aload_n 1, 1) := by decide +kernel
theorem dX0_encode_7 : decode cX0_encode 7 = .ok (.getfield 54, 3) := by decide +kernel
theorem dX0_encode_10 : decode cX0_encode 10 = .ok (.invokevirtual 59, 3) := by decide +kernel
theorem dX0_encode_13 : decode cX0_encode 13 = .ok (.iconst 0, 1) := by decide +kernel
theorem dX0_encode_14 : decode cX0_encode 14 = .ok (.istore_n 2, 1) := by decide +kernel
theorem dX0_encode_15 : decode cX0_encode 15 = .ok (.iconst 0, 1) := by decide +kernel
theorem dX0_encode_16 : decode cX0_encode 16 = .ok (.istore_n 3, 1) := by decide +kernel
theorem dX0_encode_17 : decode cX0_encode 17 = .ok (.iload_n 3, 1) := by decide +kernel
theorem dX0_encode_18 : decode cX0_encode 18 = .ok (.aload_n 1, 1) := by decide +kernel
theorem dX0_encode_19 : decode cX0_encode 19 = .ok (.getfield 54, 3) := by decide +kernel
theorem dX0_encode_22 : decode cX0_encode 22 = .ok (.if_icmp .ge 72, 3) := by decide +kernel
theorem dX0_encode_25 : decode cX0_encode 25 = .ok (.aload_n 0, 1) := by decide +kernel
theorem dX0_encode_26 : decode cX0_encode 26 = .ok (.aload_n 1, 1) := by decide +kernel
theorem dX0_encode_27 : decode cX0_encode 27 = .ok (.iload_n 3, 1) := by decide +kernel
theorem dX0_encode_28 : decode cX0_encode 28 = .ok (.invokevirtual 63, 3) := by decide +kernel
theorem dX0_encode_31 : decode cX0_encode 31 = .ok (.iload_n 2, 1) := by decide +kernel
theorem dX0_encode_32 : decode cX0_encode 32 = .ok (.isub, 1) := by decide +kernel
theorem dX0_encode_33 : decode cX0_encode 33 = .ok (.invokevirtual 66, 3) := by decide +kernel
theorem dX0_encode_36 : decode cX0_encode 36 = .ok (.aload_n 1, 1) := by decide +kernel
theorem dX0_encode_37 : decode cX0_encode 37 = .ok (.iload_n 3, 1) := by decide +kernel
theorem dX0_encode_38 : decode cX0_encode 38 = .ok (.invokevirtual 63, 3) := by decide +kernel
theorem dX0_encode_41 : decode cX0_encode 41 = .ok (.istore_n 2, 1) := by decide +kernel
theorem dX0_encode_42 : decode cX0_encode 42 = .ok (.iconst 2, 1) := by decide +kernel
theorem dX0_encode_43 : decode cX0_encode 43 = .ok (.aload_n 1, 1) := by decide +kernel
theorem dX0_encode_44 : decode cX0_encode 44 = .ok (.iload_n 3, 1) := by decide +kernel
theorem dX0_encode_45 : decode cX0_encode 45 = .ok (.invokevirtual 69, 3) := by decide +kernel
theorem dX0_encode_48 : decode cX0_encode 48 = .ok (.imul, 1) := by decide +kernel
theorem dX0_encode_49 : decode cX0_encode 49 = .ok (.istore 4, 2) := by decide +kernel
theorem dX0_encode_51 : decode cX0_encode 51 = .ok (.aload_n 1, 1) := by decide +kernel
theorem dX0_encode_52 : decode cX0_encode 52 = .ok (.iload_n 3, 1) := by decide +kernel
theorem dX0_encode_53 : decode cX0_encode 53 = .ok (.invokevirtual 72, 3) := by decide +kernel
theorem dX0_encode_56 : decode cX0_encode 56 = .ok (.ifCond .eq 14, 3) := by decide +kernel
theorem dX0_encode_59 : decode cX0_encode 59 = .ok (.aload_n 0, 1) := by decide +kernel
theorem dX0_encode_60 : decode cX0_encode 60 = .ok (.iload 4, 2) := by decide +kernel
theorem dX0_encode_62 : decode cX0_encode 62 = .ok (.iconst 1, 1) := by decide +kernel
theorem dX0_encode_63 : decode cX0_encode 63 = .ok (.iadd, 1) := by decide +kernel
theorem dX0_encode_64 : decode cX0_encode 64 = .ok (.invokevirtual 66, 3) := by decide +kernel
theorem dX0_encode_67 : decode cX0_encode 67 = .ok (.goto 21, 3) := by decide +kernel
theorem dX0_encode_70 : decode cX0_encode 70 = .ok (.aload_n 0, 1) := by decide +kernel
theorem dX0_encode_71 : decode cX0_encode 71 = .ok (.iload 4, 2) := by decide +kernel
theorem dX0_encode_73 : decode cX0_encode 73 = .ok (.invokevirtual 66, 3) := by decide +kernel
theorem dX0_encode_76 : decode cX0_encode 76 = .ok (.aload_n 0, 1) := by decide +kernel
theorem dX0_encode_77 : decode cX0_encode 77 = .ok (.aload_n 1, 1) := by decide +kernel
theorem dX0_encode_78 : decode cX0_encode 78 = .ok (.iload_n 3, 1) := by decide +kernel
theorem dX0_encode_79 : decode cX0_encode 79 = .ok (.invokevirtual 75, 3) := by decide +kernel
theorem dX0_encode_82 : decode cX0_encode 82 = .ok (.invokestatic 78, 3) := by decide +kernel
theorem dX0_encode_85 : decode cX0_encode 85 = .ok (.invokevirtual 66, 3) := by decide +kernel
theorem dX0_encode_88 : decode cX0_encode 88 = .ok (.iinc 3 1, 3) := by decide +kernel
theorem dX0_encode_91 : decode cX0_encode 91 = .ok (.goto (-74), 3) := by decide +kernel
theorem dX0_encode_94 : decode cX0_encode 94 = .ok (.aload_n 0, 1) := by decide +kernel
theorem dX0_encode_95 : decode cX0_encode 95 = .ok (.aload_n 0, 1) := by decide +kernel
theorem dX0_encode_96 : decode cX0_encode 96 = .ok (.invokevirtual 81, 3) := by decide +kernel
theorem dX0_encode_99 : decode cX0_encode 99 = .ok (.sipush 251, 3) := by decide +kernel
theorem dX0_encode_102 : decode cX0_encode 102 = .ok (.irem, 1) := by decide +kernel
theorem dX0_encode_103 : decode cX0_encode 103 = .ok (.invokevirtual 59, 3) := by decide +kernel
theorem dX0_encode_106 : decode cX0_encode 106 = .ok (.return_, 1) := by decide +kernel
theorem dX0_folded_0 : decode cX0_folded 0 = .ok (.iload_n 0, 1) := by decide +kernel
theorem dX0_folded_1 : decode cX0_folded 1 = .ok (.ifCond .lt 9, 3) := by decide +kernel
theorem dX0_folded_4 : decode cX0_folded 4 = .ok (.iconst 2, 1) := by decide +kernel
theorem dX0_folded_5 : decode cX0_folded 5 = .ok (.iload_n 0, 1) := by decide +kernel
theorem dX0_folded_6 : decode cX0_folded 6 = .ok (.imul, 1) := by decide +kernel
theorem dX0_folded_7 : decode cX0_folded 7 = .ok (.goto 9, 3) := by decide +kernel
theorem dX0_folded_10 : decode cX0_folded 10 = .ok (.bipush (-2), 2) := by decide +kernel
theorem dX0_folded_12 : decode cX0_folded 12 = .ok (.iload_n 0, 1) := by decide +kernel
theorem dX0_folded_13 : decode cX0_folded 13 = .ok (.imul, 1) := by decide +kernel
theorem dX0_folded_14 : decode cX0_folded 14 = .ok (.iconst 1, 1) := by decide +kernel
theorem dX0_folded_15 : decode cX0_folded 15 = .ok (.isub, 1) := by decide +kernel
theorem dX0_folded_16 : decode cX0_folded 16 = .ok (.ireturn, 1) := by decide +kernel
theorem dX0_emitShort_0 : decode cX0_emitShort 0 = .ok (.iload_n 1, 1) := by decide +kernel
theorem dX0_emitShort_1 : decode cX0_emitShort 1 = .ok (.istore_n 2, 1) := by decide +kernel
theorem dX0_emitShort_2 : decode cX0_emitShort 2 = .ok (.iconst 0, 1) := by decide +kernel
theorem dX0_emitShort_3 : decode cX0_emitShort 3 = .ok (.istore_n 3, 1) := by decide +kernel
theorem dX0_emitShort_4 : decode cX0_emitShort 4 = .ok (.iload_n 3, 1) := by decide +kernel
theorem dX0_emitShort_5 : decode cX0_emitShort 5 = .ok (.iconst 4, 1) := by decide +kernel
theorem dX0_emitShort_6 : decode cX0_emitShort 6 = .ok (.if_icmp .ge 32, 3) := by decide +kernel
theorem dX0_emitShort_9 : decode cX0_emitShort 9 = .ok (.iload_n 2, 1) := by decide +kernel
theorem dX0_emitShort_10 : decode cX0_emitShort 10 = .ok (.bipush 127, 2) := by decide +kernel
theorem dX0_emitShort_12 : decode cX0_emitShort 12 = .ok (.if_icmp .le 26, 3) := by decide +kernel
theorem dX0_emitShort_15 : decode cX0_emitShort 15 = .ok (.aload_n 0, 1) := by decide +kernel
theorem dX0_emitShort_16 : decode cX0_emitShort 16 = .ok (.sipush 128, 3) := by decide +kernel
theorem dX0_emitShort_19 : decode cX0_emitShort 19 = .ok (.iload_n 2, 1) := by decide +kernel
theorem dX0_emitShort_20 : decode cX0_emitShort 20 = .ok (.bipush 127, 2) := by decide +kernel
theorem dX0_emitShort_22 : decode cX0_emitShort 22 = .ok (.iand, 1) := by decide +kernel
theorem dX0_emitShort_23 : decode cX0_emitShort 23 = .ok (.iadd, 1) := by decide +kernel
theorem dX0_emitShort_24 : decode cX0_emitShort 24 = .ok (.invokevirtual 59, 3) := by decide +kernel
theorem dX0_emitShort_27 : decode cX0_emitShort 27 = .ok (.iload_n 2, 1) := by decide +kernel
theorem dX0_emitShort_28 : decode cX0_emitShort 28 = .ok (.bipush 7, 2) := by decide +kernel
theorem dX0_emitShort_30 : decode cX0_emitShort 30 = .ok (.ishr, 1) := by decide +kernel
theorem dX0_emitShort_31 : decode cX0_emitShort 31 = .ok (.istore_n 2, 1) := by decide +kernel
theorem dX0_emitShort_32 : decode cX0_emitShort 32 = .ok (.iinc 3 1, 3) := by decide +kernel
theorem dX0_emitShort_35 : decode cX0_emitShort 35 = .ok (.goto (-31), 3) := by decide +kernel
theorem dX0_emitShort_38 : decode cX0_emitShort 38 = .ok (.aload_n 0, 1) := by decide +kernel
theorem dX0_emitShort_39 : decode cX0_emitShort 39 = .ok (.iload_n 2, 1) := by decide +kernel
theorem dX0_emitShort_40 : decode cX0_emitShort 40 = .ok (.invokevirtual 59, 3) := by decide +kernel
theorem dX0_emitShort_43 : decode cX0_emitShort 43 = .ok (.return_, 1) := by decide +kernel
theorem dX0_emit_0 : decode cX0_emit 0 = .ok (.aload_n 0, 1) := by decide +kernel
theorem dX0_emit_1 : decode cX0_emit 1 = .ok (.getfield 32, 3) := by decide +kernel
theorem dX0_emit_4 : decode cX0_emit 4 = .ok (.aload_n 0, 1) := by decide +kernel
theorem dX0_emit_5 : decode cX0_emit 5 = .ok (.getfield 19, 3) := by decide +kernel
theorem dX0_emit_8 : decode cX0_emit 8 = .ok (.arraylength, 1) := by decide +kernel
theorem dX0_emit_9 : decode cX0_emit 9 = .ok (.if_icmp .ge 23, 3) := by decide +kernel
theorem dX0_emit_12 : decode cX0_emit 12 = .ok (.aload_n 0, 1) := by decide +kernel
theorem dX0_emit_13 : decode cX0_emit 13 = .ok (.getfield 19, 3) := by decide +kernel
theorem dX0_emit_16 : decode cX0_emit 16 = .ok (.aload_n 0, 1) := by decide +kernel
theorem dX0_emit_17 : decode cX0_emit 17 = .ok (.getfield 32, 3) := by decide +kernel
theorem dX0_emit_20 : decode cX0_emit 20 = .ok (.iload_n 1, 1) := by decide +kernel
theorem dX0_emit_21 : decode cX0_emit 21 = .ok (.iastore, 1) := by decide +kernel
theorem dX0_emit_22 : decode cX0_emit 22 = .ok (.aload_n 0, 1) := by decide +kernel
theorem dX0_emit_23 : decode cX0_emit 23 = .ok (.dup, 1) := by decide +kernel
theorem dX0_emit_24 : decode cX0_emit 24 = .ok (.getfield 32, 3) := by decide +kernel
theorem dX0_emit_27 : decode cX0_emit 27 = .ok (.iconst 1, 1) := by decide +kernel
theorem dX0_emit_28 : decode cX0_emit 28 = .ok (.iadd, 1) := by decide +kernel
theorem dX0_emit_29 : decode cX0_emit 29 = .ok (.putfield 32, 3) := by decide +kernel
theorem dX0_emit_32 : decode cX0_emit 32 = .ok (.return_, 1) := by decide +kernel
theorem dX0_sumOfCode_0 : decode cX0_sumOfCode 0 = .ok (.iconst 0, 1) := by decide +kernel
theorem dX0_sumOfCode_1 : decode cX0_sumOfCode 1 = .ok (.istore_n 1, 1) := by decide +kernel
theorem dX0_sumOfCode_2 : decode cX0_sumOfCode 2 = .ok (.iconst 0, 1) := by decide +kernel
theorem dX0_sumOfCode_3 : decode cX0_sumOfCode 3 = .ok (.istore_n 2, 1) := by decide +kernel
theorem dX0_sumOfCode_4 : decode cX0_sumOfCode 4 = .ok (.iload_n 2, 1) := by decide +kernel
theorem dX0_sumOfCode_5 : decode cX0_sumOfCode 5 = .ok (.aload_n 0, 1) := by decide +kernel
theorem dX0_sumOfCode_6 : decode cX0_sumOfCode 6 = .ok (.getfield 32, 3) := by decide +kernel
theorem dX0_sumOfCode_9 : decode cX0_sumOfCode 9 = .ok (.if_icmp .ge 27, 3) := by decide +kernel
theorem dX0_sumOfCode_12 : decode cX0_sumOfCode 12 = .ok (.iload_n 2, 1) := by decide +kernel
theorem dX0_sumOfCode_13 : decode cX0_sumOfCode 13 = .ok (.aload_n 0, 1) := by decide +kernel
theorem dX0_sumOfCode_14 : decode cX0_sumOfCode 14 = .ok (.getfield 19, 3) := by decide +kernel
theorem dX0_sumOfCode_17 : decode cX0_sumOfCode 17 = .ok (.arraylength, 1) := by decide +kernel
theorem dX0_sumOfCode_18 : decode cX0_sumOfCode 18 = .ok (.if_icmp .ge 18, 3) := by decide +kernel
theorem dX0_sumOfCode_21 : decode cX0_sumOfCode 21 = .ok (.iload_n 1, 1) := by decide +kernel
theorem dX0_sumOfCode_22 : decode cX0_sumOfCode 22 = .ok (.aload_n 0, 1) := by decide +kernel
theorem dX0_sumOfCode_23 : decode cX0_sumOfCode 23 = .ok (.getfield 19, 3) := by decide +kernel
theorem dX0_sumOfCode_26 : decode cX0_sumOfCode 26 = .ok (.iload_n 2, 1) := by decide +kernel
theorem dX0_sumOfCode_27 : decode cX0_sumOfCode 27 = .ok (.iaload, 1) := by decide +kernel
theorem dX0_sumOfCode_28 : decode cX0_sumOfCode 28 = .ok (.iadd, 1) := by decide +kernel
theorem dX0_sumOfCode_29 : decode cX0_sumOfCode 29 = .ok (.istore_n 1, 1) := by decide +kernel
theorem dX0_sumOfCode_30 : decode cX0_sumOfCode 30 = .ok (.iinc 2 1, 3) := by decide +kernel
theorem dX0_sumOfCode_33 : decode cX0_sumOfCode 33 = .ok (.goto (-29), 3) := by decide +kernel
theorem dX0_sumOfCode_36 : decode cX0_sumOfCode 36 = .ok (.iload_n 1, 1) := by decide +kernel
theorem dX0_sumOfCode_37 : decode cX0_sumOfCode 37 = .ok (.ireturn, 1) := by decide +kernel
theorem dX1_init_0 : decode cX1_init 0 = .ok (.aload_n 0, 1) := by decide +kernel
theorem dX1_init_1 : decode cX1_init 1 = .ok (.invokespecial 3, 3) := by decide +kernel
theorem dX1_init_4 : decode cX1_init 4 = .ok (.aload_n 0, 1) := by decide +kernel
theorem dX1_init_5 : decode cX1_init 5 = .ok (.new 9, 3) := by decide +kernel
theorem dX1_init_8 : decode cX1_init 8 = .ok (.dup, 1) := by decide +kernel
theorem dX1_init_9 : decode cX1_init 9 = .ok (.invokespecial 11, 3) := by decide +kernel
theorem dX1_init_12 : decode cX1_init 12 = .ok (.putfield 12, 3) := by decide +kernel
theorem dX1_init_15 : decode cX1_init 15 = .ok (.return_, 1) := by decide +kernel
theorem dX1_size_0 : decode cX1_size 0 = .ok (.aload_n 0, 1) := by decide +kernel
theorem dX1_size_1 : decode cX1_size 1 = .ok (.getfield 12, 3) := by decide +kernel
theorem dX1_size_4 : decode cX1_size 4 = .ok (.invokevirtual 18, 3) := by decide +kernel
theorem dX1_size_7 : decode cX1_size 7 = .ok (.ireturn, 1) := by decide +kernel
theorem dX1_at_0 : decode cX1_at 0 = .ok (.iload_n 1, 1) := by decide +kernel
theorem dX1_at_1 : decode cX1_at 1 = .ok (.ifCond .lt 28, 3) := by decide +kernel
theorem dX1_at_4 : decode cX1_at 4 = .ok (.iload_n 1, 1) := by decide +kernel
theorem dX1_at_5 : decode cX1_at 5 = .ok (.aload_n 0, 1) := by decide +kernel
theorem dX1_at_6 : decode cX1_at 6 = .ok (.getfield 12, 3) := by decide +kernel
theorem dX1_at_9 : decode cX1_at 9 = .ok (.invokevirtual 18, 3) := by decide +kernel
theorem dX1_at_12 : decode cX1_at 12 = .ok (.if_icmp .ge 17, 3) := by decide +kernel
theorem dX1_at_15 : decode cX1_at 15 = .ok (.aload_n 0, 1) := by decide +kernel
theorem dX1_at_16 : decode cX1_at 16 = .ok (.getfield 12, 3) := by decide +kernel
theorem dX1_at_19 : decode cX1_at 19 = .ok (.iload_n 1, 1) := by decide +kernel
theorem dX1_at_20 : decode cX1_at 20 = .ok (.invokevirtual 22, 3) := by decide +kernel
theorem dX1_at_23 : decode cX1_at 23 = .ok (.checkcast 26, 3) := by decide +kernel
theorem dX1_at_26 : decode cX1_at 26 = .ok (.goto 4, 3) := by decide +kernel
theorem dX1_at_29 : decode cX1_at 29 = .ok (.aconst_null, 1) := by decide +kernel
theorem dX1_at_30 : decode cX1_at 30 = .ok (.areturn, 1) := by decide +kernel
theorem dX1_add_0 : decode cX1_add 0 = .ok (.aload_n 0, 1) := by decide +kernel
theorem dX1_add_1 : decode cX1_add 1 = .ok (.aload_n 0, 1) := by decide +kernel
theorem dX1_add_2 : decode cX1_add 2 = .ok (.getfield 12, 3) := by decide +kernel
theorem dX1_add_5 : decode cX1_add 5 = .ok (.invokevirtual 18, 3) := by decide +kernel
theorem dX1_add_8 : decode cX1_add 8 = .ok (.aload_n 1, 1) := by decide +kernel
theorem dX1_add_9 : decode cX1_add 9 = .ok (.invokevirtual 28, 3) := by decide +kernel
theorem dX1_add_12 : decode cX1_add 12 = .ok (.return_, 1) := by decide +kernel
theorem dX1_insert_0 : decode cX1_insert 0 = .ok (.aload_n 2, 1) := by decide +kernel
theorem dX1_insert_1 : decode cX1_insert 1 = .ok (.ifnull 27, 3) := by decide +kernel
theorem dX1_insert_4 : decode cX1_insert 4 = .ok (.iload_n 1, 1) := by decide +kernel
theorem dX1_insert_5 : decode cX1_insert 5 = .ok (.ifCond .lt 23, 3) := by decide +kernel
theorem dX1_insert_8 : decode cX1_insert 8 = .ok (.iload_n 1, 1) := by decide +kernel
theorem dX1_insert_9 : decode cX1_insert 9 = .ok (.aload_n 0, 1) := by decide +kernel
theorem dX1_insert_10 : decode cX1_insert 10 = .ok (.getfield 12, 3) := by decide +kernel
theorem dX1_insert_13 : decode cX1_insert 13 = .ok (.invokevirtual 18, 3) := by decide +kernel
theorem dX1_insert_16 : decode cX1_insert 16 = .ok (.if_icmp .gt 12, 3) := by decide +kernel
theorem dX1_insert_19 : decode cX1_insert 19 = .ok (.aload_n 0, 1) := by decide +kernel
theorem dX1_insert_20 : decode cX1_insert 20 = .ok (.getfield 12, 3) := by decide +kernel
theorem dX1_insert_23 : decode cX1_insert 23 = .ok (.iload_n 1, 1) := by decide +kernel
theorem dX1_insert_24 : decode cX1_insert 24 = .ok (.aload_n 2, 1) := by decide +kernel
theorem dX1_insert_25 : decode cX1_insert 25 = .ok (.invokevirtual 32, 3) := by decide +kernel
theorem dX1_insert_28 : decode cX1_insert 28 = .ok (.return_, 1) := by decide +kernel
theorem dX1_takeOut_0 : decode cX1_takeOut 0 = .ok (.iload_n 1, 1) := by decide +kernel
theorem dX1_takeOut_1 : decode cX1_takeOut 1 = .ok (.ifCond .lt 28, 3) := by decide +kernel
theorem dX1_takeOut_4 : decode cX1_takeOut 4 = .ok (.iload_n 1, 1) := by decide +kernel
theorem dX1_takeOut_5 : decode cX1_takeOut 5 = .ok (.aload_n 0, 1) := by decide +kernel
theorem dX1_takeOut_6 : decode cX1_takeOut 6 = .ok (.getfield 12, 3) := by decide +kernel
theorem dX1_takeOut_9 : decode cX1_takeOut 9 = .ok (.invokevirtual 18, 3) := by decide +kernel
theorem dX1_takeOut_12 : decode cX1_takeOut 12 = .ok (.if_icmp .ge 17, 3) := by decide +kernel
theorem dX1_takeOut_15 : decode cX1_takeOut 15 = .ok (.aload_n 0, 1) := by decide +kernel
theorem dX1_takeOut_16 : decode cX1_takeOut 16 = .ok (.getfield 12, 3) := by decide +kernel
theorem dX1_takeOut_19 : decode cX1_takeOut 19 = .ok (.iload_n 1, 1) := by decide +kernel
theorem dX1_takeOut_20 : decode cX1_takeOut 20 = .ok (.invokevirtual 36, 3) := by decide +kernel
theorem dX1_takeOut_23 : decode cX1_takeOut 23 = .ok (.checkcast 26, 3) := by decide +kernel
theorem dX1_takeOut_26 : decode cX1_takeOut 26 = .ok (.goto 4, 3) := by decide +kernel
theorem dX1_takeOut_29 : decode cX1_takeOut 29 = .ok (.aconst_null, 1) := by decide +kernel
theorem dX1_takeOut_30 : decode cX1_takeOut 30 = .ok (.areturn, 1) := by decide +kernel
theorem dX1_empty_0 : decode cX1_empty 0 = .ok (.aload_n 0, 1) := by decide +kernel
theorem dX1_empty_1 : decode cX1_empty 1 = .ok (.getfield 12, 3) := by decide +kernel
theorem dX1_empty_4 : decode cX1_empty 4 = .ok (.invokevirtual 39, 3) := by decide +kernel
theorem dX1_empty_7 : decode cX1_empty 7 = .ok (.return_, 1) := by decide +kernel
theorem dX1_leastKey_0 : decode cX1_leastKey 0 = .ok (.sipush 1000, 3) := by decide +kernel
theorem dX1_leastKey_3 : decode cX1_leastKey 3 = .ok (.istore_n 3, 1) := by decide +kernel
theorem dX1_leastKey_4 : decode cX1_leastKey 4 = .ok (.iload_n 1, 1) := by decide +kernel
theorem dX1_leastKey_5 : decode cX1_leastKey 5 = .ok (.istore 4, 2) := by decide +kernel
theorem dX1_leastKey_7 : decode cX1_leastKey 7 = .ok (.iload 4, 2) := by decide +kernel
theorem dX1_leastKey_9 : decode cX1_leastKey 9 = .ok (.iload_n 2, 1) := by decide +kernel
theorem dX1_leastKey_10 : decode cX1_leastKey 10 = .ok (.if_icmp .ge 32, 3) := by decide +kernel
theorem dX1_leastKey_13 : decode cX1_leastKey 13 = .ok (.aload_n 0, 1) := by decide +kernel
theorem dX1_leastKey_14 : decode cX1_leastKey 14 = .ok (.iload 4, 2) := by decide +kernel
theorem dX1_leastKey_16 : decode cX1_leastKey 16 = .ok (.invokevirtual 42, 3) := by decide +kernel
theorem dX1_leastKey_19 : decode cX1_leastKey 19 = .ok (.astore 5, 2) := by decide +kernel
theorem dX1_leastKey_21 : decode cX1_leastKey 21 = .ok (.aload 5, 2) := by decide +kernel
theorem dX1_leastKey_23 : decode cX1_leastKey 23 = .ok (.ifnull 13, 3) := by decide +kernel
theorem dX1_leastKey_26 : decode cX1_leastKey 26 = .ok (.iload_n 3, 1) := by decide +kernel
theorem dX1_leastKey_27 : decode cX1_leastKey 27 = .ok (.aload 5, 2) := by decide +kernel
theorem dX1_leastKey_29 : decode cX1_leastKey 29 = .ok (.invokevirtual 46, 3) := by decide +kernel
theorem dX1_leastKey_32 : decode cX1_leastKey 32 = .ok (.invokestatic 49, 3) := by decide +kernel
theorem dX1_leastKey_35 : decode cX1_leastKey 35 = .ok (.istore_n 3, 1) := by decide +kernel
theorem dX1_leastKey_36 : decode cX1_leastKey 36 = .ok (.iinc 4 1, 3) := by decide +kernel
theorem dX1_leastKey_39 : decode cX1_leastKey 39 = .ok (.goto (-32), 3) := by decide +kernel
theorem dX1_leastKey_42 : decode cX1_leastKey 42 = .ok (.iload_n 3, 1) := by decide +kernel
theorem dX1_leastKey_43 : decode cX1_leastKey 43 = .ok (.ireturn, 1) := by decide +kernel
theorem dX1_greatestKey_0 : decode cX1_greatestKey 0 = .ok (.iconst (-1), 1) := by decide +kernel
theorem dX1_greatestKey_1 : decode cX1_greatestKey 1 = .ok (.istore_n 3, 1) := by decide +kernel
theorem dX1_greatestKey_2 : decode cX1_greatestKey 2 = .ok (.iload_n 1, 1) := by decide +kernel
theorem dX1_greatestKey_3 : decode cX1_greatestKey 3 = .ok (.istore 4, 2) := by decide +kernel
theorem dX1_greatestKey_5 : decode cX1_greatestKey 5 = .ok (.iload 4, 2) := by decide +kernel
theorem dX1_greatestKey_7 : decode cX1_greatestKey 7 = .ok (.iload_n 2, 1) := by decide +kernel
theorem dX1_greatestKey_8 : decode cX1_greatestKey 8 = .ok (.if_icmp .ge 32, 3) := by decide +kernel
theorem dX1_greatestKey_11 : decode cX1_greatestKey 11 = .ok (.aload_n 0, 1) := by decide +kernel
theorem dX1_greatestKey_12 : decode cX1_greatestKey 12 = .ok (.iload 4, 2) := by decide +kernel
theorem dX1_greatestKey_14 : decode cX1_greatestKey 14 = .ok (.invokevirtual 42, 3) := by decide +kernel
theorem dX1_greatestKey_17 : decode cX1_greatestKey 17 = .ok (.astore 5, 2) := by decide +kernel
theorem dX1_greatestKey_19 : decode cX1_greatestKey 19 = .ok (.aload 5, 2) := by decide +kernel
theorem dX1_greatestKey_21 : decode cX1_greatestKey 21 = .ok (.ifnull 13, 3) := by decide +kernel
theorem dX1_greatestKey_24 : decode cX1_greatestKey 24 = .ok (.iload_n 3, 1) := by decide +kernel
theorem dX1_greatestKey_25 : decode cX1_greatestKey 25 = .ok (.aload 5, 2) := by decide +kernel
theorem dX1_greatestKey_27 : decode cX1_greatestKey 27 = .ok (.invokevirtual 55, 3) := by decide +kernel
theorem dX1_greatestKey_30 : decode cX1_greatestKey 30 = .ok (.invokestatic 58, 3) := by decide +kernel
theorem dX1_greatestKey_33 : decode cX1_greatestKey 33 = .ok (.istore_n 3, 1) := by decide +kernel
theorem dX1_greatestKey_34 : decode cX1_greatestKey 34 = .ok (.iinc 4 1, 3) := by decide +kernel
theorem dX1_greatestKey_37 : decode cX1_greatestKey 37 = .ok (.goto (-32), 3) := by decide +kernel
theorem dX1_greatestKey_40 : decode cX1_greatestKey 40 = .ok (.iload_n 3, 1) := by decide +kernel
theorem dX1_greatestKey_41 : decode cX1_greatestKey 41 = .ok (.ireturn, 1) := by decide +kernel
theorem dX1_howManyEndBelow_0 : decode cX1_howManyEndBelow 0 = .ok (.iconst 0, 1) := by decide +kernel
theorem dX1_howManyEndBelow_1 : decode cX1_howManyEndBelow 1 = .ok (.istore_n 2, 1) := by decide +kernel
theorem dX1_howManyEndBelow_2 : decode cX1_howManyEndBelow 2 = .ok (.iconst 0, 1) := by decide +kernel
theorem dX1_howManyEndBelow_3 : decode cX1_howManyEndBelow 3 = .ok (.istore_n 3, 1) := by decide +kernel
theorem dX1_howManyEndBelow_4 : decode cX1_howManyEndBelow 4 = .ok (.iload_n 3, 1) := by decide +kernel
theorem dX1_howManyEndBelow_5 : decode cX1_howManyEndBelow 5 = .ok (.aload_n 0, 1) := by decide +kernel
theorem dX1_howManyEndBelow_6 : decode cX1_howManyEndBelow 6 = .ok (.getfield 12, 3) := by decide +kernel
theorem dX1_howManyEndBelow_9 : decode cX1_howManyEndBelow 9 = .ok (.invokevirtual 18, 3) := by decide +kernel
theorem dX1_howManyEndBelow_12 : decode cX1_howManyEndBelow 12 = .ok (.if_icmp .ge 33, 3) := by decide +kernel
theorem dX1_howManyEndBelow_15 : decode cX1_howManyEndBelow 15 = .ok (.aload_n 0, 1) := by decide +kernel
theorem dX1_howManyEndBelow_16 : decode cX1_howManyEndBelow 16 = .ok (.iload_n 3, 1) := by decide +kernel
theorem dX1_howManyEndBelow_17 : decode cX1_howManyEndBelow 17 = .ok (.invokevirtual 42, 3) := by decide +kernel
theorem dX1_howManyEndBelow_20 : decode cX1_howManyEndBelow 20 = .ok (.astore 4, 2) := by decide +kernel
theorem dX1_howManyEndBelow_22 : decode cX1_howManyEndBelow 22 = .ok (.aload 4, 2) := by decide +kernel
theorem dX1_howManyEndBelow_24 : decode cX1_howManyEndBelow 24 = .ok (.ifnull 15, 3) := by decide +kernel
theorem dX1_howManyEndBelow_27 : decode cX1_howManyEndBelow 27 = .ok (.aload 4, 2) := by decide +kernel
theorem dX1_howManyEndBelow_29 : decode cX1_howManyEndBelow 29 = .ok (.invokevirtual 55, 3) := by decide +kernel
theorem dX1_howManyEndBelow_32 : decode cX1_howManyEndBelow 32 = .ok (.iload_n 1, 1) := by decide +kernel
theorem dX1_howManyEndBelow_33 : decode cX1_howManyEndBelow 33 = .ok (.if_icmp .ge 6, 3) := by decide +kernel
theorem dX1_howManyEndBelow_36 : decode cX1_howManyEndBelow 36 = .ok (.iinc 2 1, 3) := by decide +kernel
theorem dX1_howManyEndBelow_39 : decode cX1_howManyEndBelow 39 = .ok (.iinc 3 1, 3) := by decide +kernel
theorem dX1_howManyEndBelow_42 : decode cX1_howManyEndBelow 42 = .ok (.goto (-38), 3) := by decide +kernel
theorem dX1_howManyEndBelow_45 : decode cX1_howManyEndBelow 45 = .ok (.iload_n 2, 1) := by decide +kernel
theorem dX1_howManyEndBelow_46 : decode cX1_howManyEndBelow 46 = .ok (.ireturn, 1) := by decide +kernel
theorem dX1_howManyBeginUpTo_0 : decode cX1_howManyBeginUpTo 0 = .ok (.iconst 0, 1) := by decide +kernel
theorem dX1_howManyBeginUpTo_1 : decode cX1_howManyBeginUpTo 1 = .ok (.istore_n 2, 1) := by decide +kernel
theorem dX1_howManyBeginUpTo_2 : decode cX1_howManyBeginUpTo 2 = .ok (.iconst 0, 1) := by decide +kernel
theorem dX1_howManyBeginUpTo_3 : decode cX1_howManyBeginUpTo 3 = .ok (.istore_n 3, 1) := by decide +kernel
theorem dX1_howManyBeginUpTo_4 : decode cX1_howManyBeginUpTo 4 = .ok (.iload_n 3, 1) := by decide +kernel
theorem dX1_howManyBeginUpTo_5 : decode cX1_howManyBeginUpTo 5 = .ok (.aload_n 0, 1) := by decide +kernel
theorem dX1_howManyBeginUpTo_6 : decode cX1_howManyBeginUpTo 6 = .ok (.getfield 12, 3) := by decide +kernel
theorem dX1_howManyBeginUpTo_9 : decode cX1_howManyBeginUpTo 9 = .ok (.invokevirtual 18, 3) := by decide +kernel
theorem dX1_howManyBeginUpTo_12 : decode cX1_howManyBeginUpTo 12 = .ok (.if_icmp .ge 33, 3) := by decide +kernel
theorem dX1_howManyBeginUpTo_15 : decode cX1_howManyBeginUpTo 15 = .ok (.aload_n 0, 1) := by decide +kernel
theorem dX1_howManyBeginUpTo_16 : decode cX1_howManyBeginUpTo 16 = .ok (.iload_n 3, 1) := by decide +kernel
theorem dX1_howManyBeginUpTo_17 : decode cX1_howManyBeginUpTo 17 = .ok (.invokevirtual 42, 3) := by decide +kernel
theorem dX1_howManyBeginUpTo_20 : decode cX1_howManyBeginUpTo 20 = .ok (.astore 4, 2) := by decide +kernel
theorem dX1_howManyBeginUpTo_22 : decode cX1_howManyBeginUpTo 22 = .ok (.aload 4, 2) := by decide +kernel
theorem dX1_howManyBeginUpTo_24 : decode cX1_howManyBeginUpTo 24 = .ok (.ifnull 15, 3) := by decide +kernel
theorem dX1_howManyBeginUpTo_27 : decode cX1_howManyBeginUpTo 27 = .ok (.aload 4, 2) := by decide +kernel
theorem dX1_howManyBeginUpTo_29 : decode cX1_howManyBeginUpTo 29 = .ok (.invokevirtual 46, 3) := by decide +kernel
theorem dX1_howManyBeginUpTo_32 : decode cX1_howManyBeginUpTo 32 = .ok (.iload_n 1, 1) := by decide +kernel
theorem dX1_howManyBeginUpTo_33 : decode cX1_howManyBeginUpTo 33 = .ok (.if_icmp .gt 6, 3) := by decide +kernel
theorem dX1_howManyBeginUpTo_36 : decode cX1_howManyBeginUpTo 36 = .ok (.iinc 2 1, 3) := by decide +kernel
theorem dX1_howManyBeginUpTo_39 : decode cX1_howManyBeginUpTo 39 = .ok (.iinc 3 1, 3) := by decide +kernel
theorem dX1_howManyBeginUpTo_42 : decode cX1_howManyBeginUpTo 42 = .ok (.goto (-38), 3) := by decide +kernel
theorem dX1_howManyBeginUpTo_45 : decode cX1_howManyBeginUpTo 45 = .ok (.iload_n 2, 1) := by decide +kernel
theorem dX1_howManyBeginUpTo_46 : decode cX1_howManyBeginUpTo 46 = .ok (.ireturn, 1) := by decide +kernel
theorem dX1_mergeInto_0 : decode cX1_mergeInto 0 = .ok (.iload_n 2, 1) := by decide +kernel
theorem dX1_mergeInto_1 : decode cX1_mergeInto 1 = .ok (.istore 4, 2) := by decide +kernel
theorem dX1_mergeInto_3 : decode cX1_mergeInto 3 = .ok (.iload 4, 2) := by decide +kernel
theorem dX1_mergeInto_5 : decode cX1_mergeInto 5 = .ok (.iload_n 3, 1) := by decide +kernel
theorem dX1_mergeInto_6 : decode cX1_mergeInto 6 = .ok (.if_icmp .ge 31, 3) := by decide +kernel
theorem dX1_mergeInto_9 : decode cX1_mergeInto 9 = .ok (.aload_n 0, 1) := by decide +kernel
theorem dX1_mergeInto_10 : decode cX1_mergeInto 10 = .ok (.iload 4, 2) := by decide +kernel
theorem dX1_mergeInto_12 : decode cX1_mergeInto 12 = .ok (.invokevirtual 42, 3) := by decide +kernel
theorem dX1_mergeInto_15 : decode cX1_mergeInto 15 = .ok (.astore 5, 2) := by decide +kernel
theorem dX1_mergeInto_17 : decode cX1_mergeInto 17 = .ok (.aload 5, 2) := by decide +kernel
theorem dX1_mergeInto_19 : decode cX1_mergeInto 19 = .ok (.ifnull 12, 3) := by decide +kernel
theorem dX1_mergeInto_22 : decode cX1_mergeInto 22 = .ok (.aload_n 1, 1) := by decide +kernel
theorem dX1_mergeInto_23 : decode cX1_mergeInto 23 = .ok (.aload 5, 2) := by decide +kernel
theorem dX1_mergeInto_25 : decode cX1_mergeInto 25 = .ok (.getfield 61, 3) := by decide +kernel
theorem dX1_mergeInto_28 : decode cX1_mergeInto 28 = .ok (.invokevirtual 65, 3) := by decide +kernel
theorem dX1_mergeInto_31 : decode cX1_mergeInto 31 = .ok (.iinc 4 1, 3) := by decide +kernel
theorem dX1_mergeInto_34 : decode cX1_mergeInto 34 = .ok (.goto (-31), 3) := by decide +kernel
theorem dX1_mergeInto_37 : decode cX1_mergeInto 37 = .ok (.return_, 1) := by decide +kernel
theorem dX1_letRead_0 : decode cX1_letRead 0 = .ok (.iconst 0, 1) := by decide +kernel
theorem dX1_letRead_1 : decode cX1_letRead 1 = .ok (.istore_n 2, 1) := by decide +kernel
theorem dX1_letRead_2 : decode cX1_letRead 2 = .ok (.iload_n 2, 1) := by decide +kernel
theorem dX1_letRead_3 : decode cX1_letRead 3 = .ok (.aload_n 0, 1) := by decide +kernel
theorem dX1_letRead_4 : decode cX1_letRead 4 = .ok (.getfield 12, 3) := by decide +kernel
theorem dX1_letRead_7 : decode cX1_letRead 7 = .ok (.invokevirtual 18, 3) := by decide +kernel
theorem dX1_letRead_10 : decode cX1_letRead 10 = .ok (.if_icmp .ge 35, 3) := by decide +kernel
theorem dX1_letRead_13 : decode cX1_letRead 13 = .ok (.aload_n 0, 1) := by decide +kernel
theorem dX1_letRead_14 : decode cX1_letRead 14 = .ok (.iload_n 2, 1) := by decide +kernel
theorem dX1_letRead_15 : decode cX1_letRead 15 = .ok (.invokevirtual 42, 3) := by decide +kernel
theorem dX1_letRead_18 : decode cX1_letRead 18 = .ok (.astore_n 3, 1) := by decide +kernel
theorem dX1_letRead_19 : decode cX1_letRead 19 = .ok (.aload_n 3, 1) := by decide +kernel
theorem dX1_letRead_20 : decode cX1_letRead 20 = .ok (.ifnull 19, 3) := by decide +kernel
theorem dX1_letRead_23 : decode cX1_letRead 23 = .ok (.aload_n 1, 1) := by decide +kernel
theorem dX1_letRead_24 : decode cX1_letRead 24 = .ok (.aload_n 3, 1) := by decide +kernel
theorem dX1_letRead_25 : decode cX1_letRead 25 = .ok (.invokevirtual 71, 3) := by decide +kernel
theorem dX1_letRead_28 : decode cX1_letRead 28 = .ok (.ifCond .eq 11, 3) := by decide +kernel
theorem dX1_letRead_31 : decode cX1_letRead 31 = .ok (.aload_n 1, 1) := by decide +kernel
theorem dX1_letRead_32 : decode cX1_letRead 32 = .ok (.aload_n 3, 1) := by decide +kernel
theorem dX1_letRead_33 : decode cX1_letRead 33 = .ok (.getfield 61, 3) := by decide +kernel
theorem dX1_letRead_36 : decode cX1_letRead 36 = .ok (.invokevirtual 77, 3) := by decide +kernel
theorem dX1_letRead_39 : decode cX1_letRead 39 = .ok (.iinc 2 1, 3) := by decide +kernel
theorem dX1_letRead_42 : decode cX1_letRead 42 = .ok (.goto (-40), 3) := by decide +kernel
theorem dX1_letRead_45 : decode cX1_letRead 45 = .ok (.return_, 1) := by decide +kernel
theorem dX1_bytes_0 : decode cX1_bytes 0 = .ok (.iconst 0, 1) := by decide +kernel
theorem dX1_bytes_1 : decode cX1_bytes 1 = .ok (.istore_n 1, 1) := by decide +kernel
theorem dX1_bytes_2 : decode cX1_bytes 2 = .ok (.iconst 0, 1) := by decide +kernel
theorem dX1_bytes_3 : decode cX1_bytes 3 = .ok (.istore_n 2, 1) := by decide +kernel
theorem dX1_bytes_4 : decode cX1_bytes 4 = .ok (.iload_n 2, 1) := by decide +kernel
theorem dX1_bytes_5 : decode cX1_bytes 5 = .ok (.aload_n 0, 1) := by decide +kernel
theorem dX1_bytes_6 : decode cX1_bytes 6 = .ok (.getfield 12, 3) := by decide +kernel
theorem dX1_bytes_9 : decode cX1_bytes 9 = .ok (.invokevirtual 18, 3) := by decide +kernel
theorem dX1_bytes_12 : decode cX1_bytes 12 = .ok (.if_icmp .ge 30, 3) := by decide +kernel
theorem dX1_bytes_15 : decode cX1_bytes 15 = .ok (.aload_n 0, 1) := by decide +kernel
theorem dX1_bytes_16 : decode cX1_bytes 16 = .ok (.iload_n 2, 1) := by decide +kernel
theorem dX1_bytes_17 : decode cX1_bytes 17 = .ok (.invokevirtual 42, 3) := by decide +kernel
theorem dX1_bytes_20 : decode cX1_bytes 20 = .ok (.astore_n 3, 1) := by decide +kernel
theorem dX1_bytes_21 : decode cX1_bytes 21 = .ok (.iload_n 1, 1) := by decide +kernel
theorem dX1_bytes_22 : decode cX1_bytes 22 = .ok (.aload_n 3, 1) := by decide +kernel
theorem dX1_bytes_23 : decode cX1_bytes 23 = .ok (.ifnonnull 7, 3) := by decide +kernel
theorem dX1_bytes_26 : decode cX1_bytes 26 = .ok (.iconst 0, 1) := by decide +kernel
theorem dX1_bytes_27 : decode cX1_bytes 27 = .ok (.goto 7, 3) := by decide +kernel
theorem dX1_bytes_30 : decode cX1_bytes 30 = .ok (.aload_n 3, 1) := by decide +kernel
theorem dX1_bytes_31 : decode cX1_bytes 31 = .ok (.getfield 80, 3) := by decide +kernel
theorem dX1_bytes_34 : decode cX1_bytes 34 = .ok (.iadd, 1) := by decide +kernel
theorem dX1_bytes_35 : decode cX1_bytes 35 = .ok (.istore_n 1, 1) := by decide +kernel
theorem dX1_bytes_36 : decode cX1_bytes 36 = .ok (.iinc 2 1, 3) := by decide +kernel
theorem dX1_bytes_39 : decode cX1_bytes 39 = .ok (.goto (-35), 3) := by decide +kernel
theorem dX1_bytes_42 : decode cX1_bytes 42 = .ok (.iload_n 1, 1) := by decide +kernel
theorem dX1_bytes_43 : decode cX1_bytes 43 = .ok (.ireturn, 1) := by decide +kernel
theorem dX1_entries_0 : decode cX1_entries 0 = .ok (.iconst 0, 1) := by decide +kernel
theorem dX1_entries_1 : decode cX1_entries 1 = .ok (.istore_n 1, 1) := by decide +kernel
theorem dX1_entries_2 : decode cX1_entries 2 = .ok (.iconst 0, 1) := by decide +kernel
theorem dX1_entries_3 : decode cX1_entries 3 = .ok (.istore_n 2, 1) := by decide +kernel
theorem dX1_entries_4 : decode cX1_entries 4 = .ok (.iload_n 2, 1) := by decide +kernel
theorem dX1_entries_5 : decode cX1_entries 5 = .ok (.aload_n 0, 1) := by decide +kernel
theorem dX1_entries_6 : decode cX1_entries 6 = .ok (.getfield 12, 3) := by decide +kernel
theorem dX1_entries_9 : decode cX1_entries 9 = .ok (.invokevirtual 18, 3) := by decide +kernel
theorem dX1_entries_12 : decode cX1_entries 12 = .ok (.if_icmp .ge 33, 3) := by decide +kernel
theorem dX1_entries_15 : decode cX1_entries 15 = .ok (.aload_n 0, 1) := by decide +kernel
theorem dX1_entries_16 : decode cX1_entries 16 = .ok (.iload_n 2, 1) := by decide +kernel
theorem dX1_entries_17 : decode cX1_entries 17 = .ok (.invokevirtual 42, 3) := by decide +kernel
theorem dX1_entries_20 : decode cX1_entries 20 = .ok (.astore_n 3, 1) := by decide +kernel
theorem dX1_entries_21 : decode cX1_entries 21 = .ok (.iload_n 1, 1) := by decide +kernel
theorem dX1_entries_22 : decode cX1_entries 22 = .ok (.aload_n 3, 1) := by decide +kernel
theorem dX1_entries_23 : decode cX1_entries 23 = .ok (.ifnonnull 7, 3) := by decide +kernel
theorem dX1_entries_26 : decode cX1_entries 26 = .ok (.iconst 0, 1) := by decide +kernel
theorem dX1_entries_27 : decode cX1_entries 27 = .ok (.goto 10, 3) := by decide +kernel
theorem dX1_entries_30 : decode cX1_entries 30 = .ok (.aload_n 3, 1) := by decide +kernel
theorem dX1_entries_31 : decode cX1_entries 31 = .ok (.getfield 61, 3) := by decide +kernel
theorem dX1_entries_34 : decode cX1_entries 34 = .ok (.getfield 84, 3) := by decide +kernel
theorem dX1_entries_37 : decode cX1_entries 37 = .ok (.iadd, 1) := by decide +kernel
theorem dX1_entries_38 : decode cX1_entries 38 = .ok (.istore_n 1, 1) := by decide +kernel
theorem dX1_entries_39 : decode cX1_entries 39 = .ok (.iinc 2 1, 3) := by decide +kernel
theorem dX1_entries_42 : decode cX1_entries 42 = .ok (.goto (-38), 3) := by decide +kernel
theorem dX1_entries_45 : decode cX1_entries 45 = .ok (.iload_n 1, 1) := by decide +kernel
theorem dX1_entries_46 : decode cX1_entries 46 = .ok (.ireturn, 1) := by decide +kernel
theorem dX1_greatestNumber_0 : decode cX1_greatestNumber 0 = .ok (.iconst 0, 1) := by decide +kernel
theorem dX1_greatestNumber_1 : decode cX1_greatestNumber 1 = .ok (.istore_n 1, 1) := by decide +kernel
theorem dX1_greatestNumber_2 : decode cX1_greatestNumber 2 = .ok (.iconst 0, 1) := by decide +kernel
theorem dX1_greatestNumber_3 : decode cX1_greatestNumber 3 = .ok (.istore_n 2, 1) := by decide +kernel
theorem dX1_greatestNumber_4 : decode cX1_greatestNumber 4 = .ok (.iload_n 2, 1) := by decide +kernel
theorem dX1_greatestNumber_5 : decode cX1_greatestNumber 5 = .ok (.aload_n 0, 1) := by decide +kernel
theorem dX1_greatestNumber_6 : decode cX1_greatestNumber 6 = .ok (.getfield 12, 3) := by decide +kernel
theorem dX1_greatestNumber_9 : decode cX1_greatestNumber 9 = .ok (.invokevirtual 18, 3) := by decide +kernel
theorem dX1_greatestNumber_12 : decode cX1_greatestNumber 12 = .ok (.if_icmp .ge 31, 3) := by decide +kernel
theorem dX1_greatestNumber_15 : decode cX1_greatestNumber 15 = .ok (.aload_n 0, 1) := by decide +kernel
theorem dX1_greatestNumber_16 : decode cX1_greatestNumber 16 = .ok (.iload_n 2, 1) := by decide +kernel
theorem dX1_greatestNumber_17 : decode cX1_greatestNumber 17 = .ok (.invokevirtual 42, 3) := by decide +kernel
theorem dX1_greatestNumber_20 : decode cX1_greatestNumber 20 = .ok (.astore_n 3, 1) := by decide +kernel
theorem dX1_greatestNumber_21 : decode cX1_greatestNumber 21 = .ok (.aload_n 3, 1) := by decide +kernel
theorem dX1_greatestNumber_22 : decode cX1_greatestNumber 22 = .ok (.ifnull 15, 3) := by decide +kernel
theorem dX1_greatestNumber_25 : decode cX1_greatestNumber 25 = .ok (.iload_n 1, 1) := by decide +kernel
theorem dX1_greatestNumber_26 : decode cX1_greatestNumber 26 = .ok (.aload_n 3, 1) := by decide +kernel
theorem dX1_greatestNumber_27 : decode cX1_greatestNumber 27 = .ok (.getfield 61, 3) := by decide +kernel
theorem dX1_greatestNumber_30 : decode cX1_greatestNumber 30 = .ok (.invokevirtual 86, 3) := by decide +kernel
theorem dX1_greatestNumber_33 : decode cX1_greatestNumber 33 = .ok (.invokestatic 58, 3) := by decide +kernel
theorem dX1_greatestNumber_36 : decode cX1_greatestNumber 36 = .ok (.istore_n 1, 1) := by decide +kernel
theorem dX1_greatestNumber_37 : decode cX1_greatestNumber 37 = .ok (.iinc 2 1, 3) := by decide +kernel
theorem dX1_greatestNumber_40 : decode cX1_greatestNumber 40 = .ok (.goto (-36), 3) := by decide +kernel
theorem dX1_greatestNumber_43 : decode cX1_greatestNumber 43 = .ok (.iload_n 1, 1) := by decide +kernel
theorem dX1_greatestNumber_44 : decode cX1_greatestNumber 44 = .ok (.ireturn, 1) := by decide +kernel
theorem dX2_init_0 : decode cX2_init 0 = .ok (.aload_n 0, 1) := by decide +kernel
theorem dX2_init_1 : decode cX2_init 1 = .ok (.invokespecial 3, 3) := by decide +kernel
theorem dX2_init_4 : decode cX2_init 4 = .ok (.aload_n 0, 1) := by decide +kernel
theorem dX2_init_5 : decode cX2_init 5 = .ok (.new 9, 3) := by decide +kernel
theorem dX2_init_8 : decode cX2_init 8 = .ok (.dup, 1) := by decide +kernel
theorem dX2_init_9 : decode cX2_init 9 = .ok (.sipush 750, 3) := by decide +kernel
theorem dX2_init_12 : decode cX2_init 12 = .ok (.invokespecial 11, 3) := by decide +kernel
theorem dX2_init_15 : decode cX2_init 15 = .ok (.putfield 14, 3) := by decide +kernel
theorem dX2_init_18 : decode cX2_init 18 = .ok (.aload_n 0, 1) := by decide +kernel
theorem dX2_init_19 : decode cX2_init 19 = .ok (.sipush 750, 3) := by decide +kernel
theorem dX2_init_22 : decode cX2_init 22 = .ok (.newarray .boolean, 2) := by decide +kernel
theorem dX2_init_24 : decode cX2_init 24 = .ok (.putfield 20, 3) := by decide +kernel
theorem dX2_init_27 : decode cX2_init 27 = .ok (.aload_n 0, 1) := by decide +kernel
theorem dX2_init_28 : decode cX2_init 28 = .ok (.new 9, 3) := by decide +kernel
theorem dX2_init_31 : decode cX2_init 31 = .ok (.dup, 1) := by decide +kernel
theorem dX2_init_32 : decode cX2_init 32 = .ok (.bipush 24, 2) := by decide +kernel
theorem dX2_init_34 : decode cX2_init 34 = .ok (.invokespecial 11, 3) := by decide +kernel
theorem dX2_init_37 : decode cX2_init 37 = .ok (.putfield 24, 3) := by decide +kernel
theorem dX2_init_40 : decode cX2_init 40 = .ok (.aload_n 0, 1) := by decide +kernel
theorem dX2_init_41 : decode cX2_init 41 = .ok (.new 27, 3) := by decide +kernel
theorem dX2_init_44 : decode cX2_init 44 = .ok (.dup, 1) := by decide +kernel
theorem dX2_init_45 : decode cX2_init 45 = .ok (.invokespecial 29, 3) := by decide +kernel
theorem dX2_init_48 : decode cX2_init 48 = .ok (.putfield 30, 3) := by decide +kernel
theorem dX2_init_51 : decode cX2_init 51 = .ok (.return_, 1) := by decide +kernel
theorem dX2_begin_0 : decode cX2_begin 0 = .ok (.aload_n 0, 1) := by decide +kernel
theorem dX2_begin_1 : decode cX2_begin 1 = .ok (.iconst 1, 1) := by decide +kernel
theorem dX2_begin_2 : decode cX2_begin 2 = .ok (.putfield 34, 3) := by decide +kernel
theorem dX2_begin_5 : decode cX2_begin 5 = .ok (.aload_n 0, 1) := by decide +kernel
theorem dX2_begin_6 : decode cX2_begin 6 = .ok (.iload_n 1, 1) := by decide +kernel
theorem dX2_begin_7 : decode cX2_begin 7 = .ok (.putfield 38, 3) := by decide +kernel
theorem dX2_begin_10 : decode cX2_begin 10 = .ok (.aload_n 0, 1) := by decide +kernel
theorem dX2_begin_11 : decode cX2_begin 11 = .ok (.iload_n 2, 1) := by decide +kernel
theorem dX2_begin_12 : decode cX2_begin 12 = .ok (.putfield 42, 3) := by decide +kernel
theorem dX2_begin_15 : decode cX2_begin 15 = .ok (.return_, 1) := by decide +kernel
theorem dX2_end_0 : decode cX2_end 0 = .ok (.aload_n 0, 1) := by decide +kernel
theorem dX2_end_1 : decode cX2_end 1 = .ok (.iconst 0, 1) := by decide +kernel
theorem dX2_end_2 : decode cX2_end 2 = .ok (.putfield 34, 3) := by decide +kernel
theorem dX2_end_5 : decode cX2_end 5 = .ok (.aload_n 0, 1) := by decide +kernel
theorem dX2_end_6 : decode cX2_end 6 = .ok (.getfield 14, 3) := by decide +kernel
theorem dX2_end_9 : decode cX2_end 9 = .ok (.iconst 0, 1) := by decide +kernel
theorem dX2_end_10 : decode cX2_end 10 = .ok (.putfield 45, 3) := by decide +kernel
theorem dX2_end_13 : decode cX2_end 13 = .ok (.aload_n 0, 1) := by decide +kernel
theorem dX2_end_14 : decode cX2_end 14 = .ok (.iconst 0, 1) := by decide +kernel
theorem dX2_end_15 : decode cX2_end 15 = .ok (.putfield 48, 3) := by decide +kernel
theorem dX2_end_18 : decode cX2_end 18 = .ok (.aload_n 0, 1) := by decide +kernel
theorem dX2_end_19 : decode cX2_end 19 = .ok (.getfield 24, 3) := by decide +kernel
theorem dX2_end_22 : decode cX2_end 22 = .ok (.iconst 0, 1) := by decide +kernel
theorem dX2_end_23 : decode cX2_end 23 = .ok (.putfield 45, 3) := by decide +kernel
theorem dX2_end_26 : decode cX2_end 26 = .ok (.aload_n 0, 1) := by decide +kernel
theorem dX2_end_27 : decode cX2_end 27 = .ok (.getfield 30, 3) := by decide +kernel
theorem dX2_end_30 : decode cX2_end 30 = .ok (.invokevirtual 51, 3) := by decide +kernel
theorem dX2_end_33 : decode cX2_end 33 = .ok (.return_, 1) := by decide +kernel
theorem dX2_left_0 : decode cX2_left 0 = .ok (.aload_n 0, 1) := by decide +kernel
theorem dX2_left_1 : decode cX2_left 1 = .ok (.getfield 14, 3) := by decide +kernel
theorem dX2_left_4 : decode cX2_left 4 = .ok (.getfield 45, 3) := by decide +kernel
theorem dX2_left_7 : decode cX2_left 7 = .ok (.aload_n 0, 1) := by decide +kernel
theorem dX2_left_8 : decode cX2_left 8 = .ok (.getfield 48, 3) := by decide +kernel
theorem dX2_left_11 : decode cX2_left 11 = .ok (.isub, 1) := by decide +kernel
theorem dX2_left_12 : decode cX2_left 12 = .ok (.ireturn, 1) := by decide +kernel
theorem dX2_isLeftOut_0 : decode cX2_isLeftOut 0 = .ok (.iload_n 1, 1) := by decide +kernel
theorem dX2_isLeftOut_1 : decode cX2_isLeftOut 1 = .ok (.ifCond .lt 25, 3) := by decide +kernel
theorem dX2_isLeftOut_4 : decode cX2_isLeftOut 4 = .ok (.iload_n 1, 1) := by decide +kernel
theorem dX2_isLeftOut_5 : decode cX2_isLeftOut 5 = .ok (.aload_n 0, 1) := by decide +kernel
theorem dX2_isLeftOut_6 : decode cX2_isLeftOut 6 = .ok (.getfield 20, 3) := by decide +kernel
theorem dX2_isLeftOut_9 : decode cX2_isLeftOut 9 = .ok (.arraylength, 1) := by decide +kernel
theorem dX2_isLeftOut_10 : decode cX2_isLeftOut 10 = .ok (.if_icmp .ge 16, 3) := by decide +kernel
theorem dX2_isLeftOut_13 : decode cX2_isLeftOut 13 = .ok (.aload_n 0, 1) := by decide +kernel
theorem dX2_isLeftOut_14 : decode cX2_isLeftOut 14 = .ok (.getfield 20, 3) := by decide +kernel
theorem dX2_isLeftOut_17 : decode cX2_isLeftOut 17 = .ok (.iload_n 1, 1) := by decide +kernel
theorem dX2_isLeftOut_18 : decode cX2_isLeftOut 18 = .ok (.baload, 1) := by decide +kernel
theorem dX2_isLeftOut_19 : decode cX2_isLeftOut 19 = .ok (.ifCond .eq 7, 3) := by decide +kernel
theorem dX2_isLeftOut_22 : decode cX2_isLeftOut 22 = .ok (.iconst 1, 1) := by decide +kernel
theorem dX2_isLeftOut_23 : decode cX2_isLeftOut 23 = .ok (.goto 4, 3) := by decide +kernel
theorem dX2_isLeftOut_26 : decode cX2_isLeftOut 26 = .ok (.iconst 0, 1) := by decide +kernel
theorem dX2_isLeftOut_27 : decode cX2_isLeftOut 27 = .ok (.ireturn, 1) := by decide +kernel
theorem dX2_decide_0 : decode cX2_decide 0 = .ok (.iconst 0, 1) := by decide +kernel
theorem dX2_decide_1 : decode cX2_decide 1 = .ok (.istore_n 2, 1) := by decide +kernel
theorem dX2_decide_2 : decode cX2_decide 2 = .ok (.iload_n 2, 1) := by decide +kernel
theorem dX2_decide_3 : decode cX2_decide 3 = .ok (.aload_n 0, 1) := by decide +kernel
theorem dX2_decide_4 : decode cX2_decide 4 = .ok (.getfield 14, 3) := by decide +kernel
theorem dX2_decide_7 : decode cX2_decide 7 = .ok (.getfield 45, 3) := by decide +kernel
theorem dX2_decide_10 : decode cX2_decide 10 = .ok (.if_icmp .ge 46, 3) := by decide +kernel
theorem dX2_decide_13 : decode cX2_decide 13 = .ok (.iload_n 2, 1) := by decide +kernel
theorem dX2_decide_14 : decode cX2_decide 14 = .ok (.aload_n 0, 1) := by decide +kernel
theorem dX2_decide_15 : decode cX2_decide 15 = .ok (.getfield 20, 3) := by decide +kernel
theorem dX2_decide_18 : decode cX2_decide 18 = .ok (.arraylength, 1) := by decide +kernel
theorem dX2_decide_19 : decode cX2_decide 19 = .ok (.if_icmp .ge 37, 3) := by decide +kernel
theorem dX2_decide_22 : decode cX2_decide 22 = .ok (.aload_n 0, 1) := by decide +kernel
theorem dX2_decide_23 : decode cX2_decide 23 = .ok (.getfield 20, 3) := by decide +kernel
theorem dX2_decide_26 : decode cX2_decide 26 = .ok (.iload_n 2, 1) := by decide +kernel
theorem dX2_decide_27 : decode cX2_decide 27 = .ok (.aload_n 0, 1) := by decide +kernel
theorem dX2_decide_28 : decode cX2_decide 28 = .ok (.iload_n 2, 1) := by decide +kernel
theorem dX2_decide_29 : decode cX2_decide 29 = .ok (.invokevirtual 54, 3) := by decide +kernel
theorem dX2_decide_32 : decode cX2_decide 32 = .ok (.ifCond .ne 16, 3) := by decide +kernel
theorem dX2_decide_35 : decode cX2_decide 35 = .ok (.aload_n 0, 1) := by decide +kernel
theorem dX2_decide_36 : decode cX2_decide 36 = .ok (.iload_n 2, 1) := by decide +kernel
theorem dX2_decide_37 : decode cX2_decide 37 = .ok (.aload_n 1, 1) := by decide +kernel
theorem dX2_decide_38 : decode cX2_decide 38 = .ok (.invokevirtual 58, 3) := by decide +kernel
theorem dX2_decide_41 : decode cX2_decide 41 = .ok (.ifCond .ne 7, 3) := by decide +kernel
theorem dX2_decide_44 : decode cX2_decide 44 = .ok (.iconst 1, 1) := by decide +kernel
theorem dX2_decide_45 : decode cX2_decide 45 = .ok (.goto 4, 3) := by decide +kernel
theorem dX2_decide_48 : decode cX2_decide 48 = .ok (.iconst 0, 1) := by decide +kernel
theorem dX2_decide_49 : decode cX2_decide 49 = .ok (.bastore, 1) := by decide +kernel
theorem dX2_decide_50 : decode cX2_decide 50 = .ok (.iinc 2 1, 3) := by decide +kernel
theorem dX2_decide_53 : decode cX2_decide 53 = .ok (.goto (-51), 3) := by decide +kernel
theorem dX2_decide_56 : decode cX2_decide 56 = .ok (.aload_n 0, 1) := by decide +kernel
theorem dX2_decide_57 : decode cX2_decide 57 = .ok (.getfield 42, 3) := by decide +kernel
theorem dX2_decide_60 : decode cX2_decide 60 = .ok (.iconst 3, 1) := by decide +kernel
theorem dX2_decide_61 : decode cX2_decide 61 = .ok (.if_icmp .ne 7, 3) := by decide +kernel
theorem dX2_decide_64 : decode cX2_decide 64 = .ok (.aload_n 0, 1) := by decide +kernel
theorem dX2_decide_65 : decode cX2_decide 65 = .ok (.invokevirtual 62, 3) := by decide +kernel
theorem dX2_decide_68 : decode cX2_decide 68 = .ok (.return_, 1) := by decide +kernel
theorem dX2_leaveOutGraves_0 : decode cX2_leaveOutGraves 0 = .ok (.iconst 0, 1) := by decide +kernel
theorem dX2_leaveOutGraves_1 : decode cX2_leaveOutGraves 1 = .ok (.istore_n 1, 1) := by decide +kernel
theorem dX2_leaveOutGraves_2 : decode cX2_leaveOutGraves 2 = .ok (.aload_n 0, 1) := by decide +kernel
theorem dX2_leaveOutGraves_3 : decode cX2_leaveOutGraves 3 = .ok (.getfield 14, 3) := by decide +kernel
theorem dX2_leaveOutGraves_6 : decode cX2_leaveOutGraves 6 = .ok (.getfield 45, 3) := by decide +kernel
theorem dX2_leaveOutGraves_9 : decode cX2_leaveOutGraves 9 = .ok (.aload_n 0, 1) := by decide +kernel
theorem dX2_leaveOutGraves_10 : decode cX2_leaveOutGraves 10 = .ok (.getfield 20, 3) := by decide +kernel
theorem dX2_leaveOutGraves_13 : decode cX2_leaveOutGraves 13 = .ok (.arraylength, 1) := by decide +kernel
theorem dX2_leaveOutGraves_14 : decode cX2_leaveOutGraves 14 = .ok (.invokestatic 65, 3) := by decide +kernel
theorem dX2_leaveOutGraves_17 : decode cX2_leaveOutGraves 17 = .ok (.iconst 1, 1) := by decide +kernel
theorem dX2_leaveOutGraves_18 : decode cX2_leaveOutGraves 18 = .ok (.isub, 1) := by decide +kernel
theorem dX2_leaveOutGraves_19 : decode cX2_leaveOutGraves 19 = .ok (.istore_n 2, 1) := by decide +kernel
theorem dX2_leaveOutGraves_20 : decode cX2_leaveOutGraves 20 = .ok (.iload_n 2, 1) := by decide +kernel
theorem dX2_leaveOutGraves_21 : decode cX2_leaveOutGraves 21 = .ok (.ifCond .lt 68, 3) := by decide +kernel
theorem dX2_leaveOutGraves_24 : decode cX2_leaveOutGraves 24 = .ok (.aload_n 0, 1) := by decide +kernel
theorem dX2_leaveOutGraves_25 : decode cX2_leaveOutGraves 25 = .ok (.iload_n 2, 1) := by decide +kernel
theorem dX2_leaveOutGraves_26 : decode cX2_leaveOutGraves 26 = .ok (.invokevirtual 71, 3) := by decide +kernel
theorem dX2_leaveOutGraves_29 : decode cX2_leaveOutGraves 29 = .ok (.ifCond .eq 5, 3) := by decide +kernel
theorem dX2_leaveOutGraves_32 : decode cX2_leaveOutGraves 32 = .ok (.iconst 0, 1) := by decide +kernel
theorem dX2_leaveOutGraves_33 : decode cX2_leaveOutGraves 33 = .ok (.istore_n 1, 1) := by decide +kernel
theorem dX2_leaveOutGraves_34 : decode cX2_leaveOutGraves 34 = .ok (.aload_n 0, 1) := by decide +kernel
theorem dX2_leaveOutGraves_35 : decode cX2_leaveOutGraves 35 = .ok (.getfield 20, 3) := by decide +kernel
theorem dX2_leaveOutGraves_38 : decode cX2_leaveOutGraves 38 = .ok (.iload_n 2, 1) := by decide +kernel
theorem dX2_leaveOutGraves_39 : decode cX2_leaveOutGraves 39 = .ok (.baload, 1) := by decide +kernel
theorem dX2_leaveOutGraves_40 : decode cX2_leaveOutGraves 40 = .ok (.ifCond .ne 32, 3) := by decide +kernel
theorem dX2_leaveOutGraves_43 : decode cX2_leaveOutGraves 43 = .ok (.aload_n 0, 1) := by decide +kernel
theorem dX2_leaveOutGraves_44 : decode cX2_leaveOutGraves 44 = .ok (.getfield 14, 3) := by decide +kernel
theorem dX2_leaveOutGraves_47 : decode cX2_leaveOutGraves 47 = .ok (.iload_n 2, 1) := by decide +kernel
theorem dX2_leaveOutGraves_48 : decode cX2_leaveOutGraves 48 = .ok (.invokevirtual 74, 3) := by decide +kernel
theorem dX2_leaveOutGraves_51 : decode cX2_leaveOutGraves 51 = .ok (.ifCond .eq 21, 3) := by decide +kernel
theorem dX2_leaveOutGraves_54 : decode cX2_leaveOutGraves 54 = .ok (.aload_n 0, 1) := by decide +kernel
theorem dX2_leaveOutGraves_55 : decode cX2_leaveOutGraves 55 = .ok (.getfield 20, 3) := by decide +kernel
theorem dX2_leaveOutGraves_58 : decode cX2_leaveOutGraves 58 = .ok (.iload_n 2, 1) := by decide +kernel
theorem dX2_leaveOutGraves_59 : decode cX2_leaveOutGraves 59 = .ok (.iload_n 1, 1) := by decide +kernel
theorem dX2_leaveOutGraves_60 : decode cX2_leaveOutGraves 60 = .ok (.ifCond .ne 7, 3) := by decide +kernel
theorem dX2_leaveOutGraves_63 : decode cX2_leaveOutGraves 63 = .ok (.iconst 1, 1) := by decide +kernel
theorem dX2_leaveOutGraves_64 : decode cX2_leaveOutGraves 64 = .ok (.goto 4, 3) := by decide +kernel
theorem dX2_leaveOutGraves_67 : decode cX2_leaveOutGraves 67 = .ok (.iconst 0, 1) := by decide +kernel
theorem dX2_leaveOutGraves_68 : decode cX2_leaveOutGraves 68 = .ok (.bastore, 1) := by decide +kernel
theorem dX2_leaveOutGraves_69 : decode cX2_leaveOutGraves 69 = .ok (.goto 14, 3) := by decide +kernel
theorem dX2_leaveOutGraves_72 : decode cX2_leaveOutGraves 72 = .ok (.aload_n 0, 1) := by decide +kernel
theorem dX2_leaveOutGraves_73 : decode cX2_leaveOutGraves 73 = .ok (.getfield 20, 3) := by decide +kernel
theorem dX2_leaveOutGraves_76 : decode cX2_leaveOutGraves 76 = .ok (.iload_n 2, 1) := by decide +kernel
theorem dX2_leaveOutGraves_77 : decode cX2_leaveOutGraves 77 = .ok (.baload, 1) := by decide +kernel
theorem dX2_leaveOutGraves_78 : decode cX2_leaveOutGraves 78 = .ok (.ifCond .ne 5, 3) := by decide +kernel
theorem dX2_leaveOutGraves_81 : decode cX2_leaveOutGraves 81 = .ok (.iconst 1, 1) := by decide +kernel
theorem dX2_leaveOutGraves_82 : decode cX2_leaveOutGraves 82 = .ok (.istore_n 1, 1) := by decide +kernel
theorem dX2_leaveOutGraves_83 : decode cX2_leaveOutGraves 83 = .ok (.iinc 2 (-1), 3) := by decide +kernel
theorem dX2_leaveOutGraves_86 : decode cX2_leaveOutGraves 86 = .ok (.goto (-66), 3) := by decide +kernel
theorem dX2_leaveOutGraves_89 : decode cX2_leaveOutGraves 89 = .ok (.return_, 1) := by decide +kernel
theorem dX2_isFirstOfKey_0 : decode cX2_isFirstOfKey 0 = .ok (.iload_n 1, 1) := by decide +kernel
theorem dX2_isFirstOfKey_1 : decode cX2_isFirstOfKey 1 = .ok (.ifCond .eq 24, 3) := by decide +kernel
theorem dX2_isFirstOfKey_4 : decode cX2_isFirstOfKey 4 = .ok (.aload_n 0, 1) := by decide +kernel
theorem dX2_isFirstOfKey_5 : decode cX2_isFirstOfKey 5 = .ok (.getfield 14, 3) := by decide +kernel
theorem dX2_isFirstOfKey_8 : decode cX2_isFirstOfKey 8 = .ok (.iload_n 1, 1) := by decide +kernel
theorem dX2_isFirstOfKey_9 : decode cX2_isFirstOfKey 9 = .ok (.iconst 1, 1) := by decide +kernel
theorem dX2_isFirstOfKey_10 : decode cX2_isFirstOfKey 10 = .ok (.isub, 1) := by decide +kernel
theorem dX2_isFirstOfKey_11 : decode cX2_isFirstOfKey 11 = .ok (.invokevirtual 77, 3) := by decide +kernel
theorem dX2_isFirstOfKey_14 : decode cX2_isFirstOfKey 14 = .ok (.aload_n 0, 1) := by decide +kernel
theorem dX2_isFirstOfKey_15 : decode cX2_isFirstOfKey 15 = .ok (.getfield 14, 3) := by decide +kernel
theorem dX2_isFirstOfKey_18 : decode cX2_isFirstOfKey 18 = .ok (.iload_n 1, 1) := by decide +kernel
theorem dX2_isFirstOfKey_19 : decode cX2_isFirstOfKey 19 = .ok (.invokevirtual 77, 3) := by decide +kernel
theorem dX2_isFirstOfKey_22 : decode cX2_isFirstOfKey 22 = .ok (.if_icmp .eq 7, 3) := by decide +kernel
theorem dX2_isFirstOfKey_25 : decode cX2_isFirstOfKey 25 = .ok (.iconst 1, 1) := by decide +kernel
theorem dX2_isFirstOfKey_26 : decode cX2_isFirstOfKey 26 = .ok (.goto 4, 3) := by decide +kernel
theorem dX2_isFirstOfKey_29 : decode cX2_isFirstOfKey 29 = .ok (.iconst 0, 1) := by decide +kernel
theorem dX2_isFirstOfKey_30 : decode cX2_isFirstOfKey 30 = .ok (.ireturn, 1) := by decide +kernel
theorem dX2_isLastOfKey_0 : decode cX2_isLastOfKey 0 = .ok (.iload_n 1, 1) := by decide +kernel
theorem dX2_isLastOfKey_1 : decode cX2_isLastOfKey 1 = .ok (.aload_n 0, 1) := by decide +kernel
theorem dX2_isLastOfKey_2 : decode cX2_isLastOfKey 2 = .ok (.getfield 14, 3) := by decide +kernel
theorem dX2_isLastOfKey_5 : decode cX2_isLastOfKey 5 = .ok (.getfield 45, 3) := by decide +kernel
theorem dX2_isLastOfKey_8 : decode cX2_isLastOfKey 8 = .ok (.iconst 1, 1) := by decide +kernel
theorem dX2_isLastOfKey_9 : decode cX2_isLastOfKey 9 = .ok (.isub, 1) := by decide +kernel
theorem dX2_isLastOfKey_10 : decode cX2_isLastOfKey 10 = .ok (.if_icmp .eq 13, 3) := by decide +kernel
theorem dX2_isLastOfKey_13 : decode cX2_isLastOfKey 13 = .ok (.aload_n 0, 1) := by decide +kernel
theorem dX2_isLastOfKey_14 : decode cX2_isLastOfKey 14 = .ok (.iload_n 1, 1) := by decide +kernel
theorem dX2_isLastOfKey_15 : decode cX2_isLastOfKey 15 = .ok (.iconst 1, 1) := by decide +kernel
theorem dX2_isLastOfKey_16 : decode cX2_isLastOfKey 16 = .ok (.iadd, 1) := by decide +kernel
theorem dX2_isLastOfKey_17 : decode cX2_isLastOfKey 17 = .ok (.invokevirtual 54, 3) := by decide +kernel
theorem dX2_isLastOfKey_20 : decode cX2_isLastOfKey 20 = .ok (.ifCond .eq 7, 3) := by decide +kernel
theorem dX2_isLastOfKey_23 : decode cX2_isLastOfKey 23 = .ok (.iconst 1, 1) := by decide +kernel
theorem dX2_isLastOfKey_24 : decode cX2_isLastOfKey 24 = .ok (.goto 4, 3) := by decide +kernel
theorem dX2_isLastOfKey_27 : decode cX2_isLastOfKey 27 = .ok (.iconst 0, 1) := by decide +kernel
theorem dX2_isLastOfKey_28 : decode cX2_isLastOfKey 28 = .ok (.ireturn, 1) := by decide +kernel
theorem dX2_isSeen_0 : decode cX2_isSeen 0 = .ok (.aload_n 2, 1) := by decide +kernel
theorem dX2_isSeen_1 : decode cX2_isSeen 1 = .ok (.astore_n 3, 1) := by decide +kernel
theorem dX2_isSeen_2 : decode cX2_isSeen 2 = .ok (.aload_n 3, 1) := by decide +kernel
theorem dX2_isSeen_3 : decode cX2_isSeen 3 = .ok (.arraylength, 1) := by decide +kernel
theorem dX2_isSeen_4 : decode cX2_isSeen 4 = .ok (.istore 4, 2) := by decide +kernel
theorem dX2_isSeen_6 : decode cX2_isSeen 6 = .ok (.iconst 0, 1) := by decide +kernel
theorem dX2_isSeen_7 : decode cX2_isSeen 7 = .ok (.istore 5, 2) := by decide +kernel
theorem dX2_isSeen_9 : decode cX2_isSeen 9 = .ok (.iload 5, 2) := by decide +kernel
theorem dX2_isSeen_11 : decode cX2_isSeen 11 = .ok (.iload 4, 2) := by decide +kernel
theorem dX2_isSeen_13 : decode cX2_isSeen 13 = .ok (.if_icmp .ge 45, 3) := by decide +kernel
theorem dX2_isSeen_16 : decode cX2_isSeen 16 = .ok (.aload_n 3, 1) := by decide +kernel
theorem dX2_isSeen_17 : decode cX2_isSeen 17 = .ok (.iload 5, 2) := by decide +kernel
theorem dX2_isSeen_19 : decode cX2_isSeen 19 = .ok (.iaload, 1) := by decide +kernel
theorem dX2_isSeen_20 : decode cX2_isSeen 20 = .ok (.istore 6, 2) := by decide +kernel
theorem dX2_isSeen_22 : decode cX2_isSeen 22 = .ok (.iload 6, 2) := by decide +kernel
theorem dX2_isSeen_24 : decode cX2_isSeen 24 = .ok (.aload_n 0, 1) := by decide +kernel
theorem dX2_isSeen_25 : decode cX2_isSeen 25 = .ok (.getfield 14, 3) := by decide +kernel
theorem dX2_isSeen_28 : decode cX2_isSeen 28 = .ok (.iload_n 1, 1) := by decide +kernel
theorem dX2_isSeen_29 : decode cX2_isSeen 29 = .ok (.invokevirtual 81, 3) := by decide +kernel
theorem dX2_isSeen_32 : decode cX2_isSeen 32 = .ok (.if_icmp .lt 20, 3) := by decide +kernel
theorem dX2_isSeen_35 : decode cX2_isSeen 35 = .ok (.iload 6, 2) := by decide +kernel
theorem dX2_isSeen_37 : decode cX2_isSeen 37 = .ok (.aload_n 0, 1) := by decide +kernel
theorem dX2_isSeen_38 : decode cX2_isSeen 38 = .ok (.getfield 14, 3) := by decide +kernel
theorem dX2_isSeen_41 : decode cX2_isSeen 41 = .ok (.iload_n 1, 1) := by decide +kernel
theorem dX2_isSeen_42 : decode cX2_isSeen 42 = .ok (.iconst 1, 1) := by decide +kernel
theorem dX2_isSeen_43 : decode cX2_isSeen 43 = .ok (.isub, 1) := by decide +kernel
theorem dX2_isSeen_44 : decode cX2_isSeen 44 = .ok (.invokevirtual 81, 3) := by decide +kernel
theorem dX2_isSeen_47 : decode cX2_isSeen 47 = .ok (.if_icmp .ge 5, 3) := by decide +kernel
theorem dX2_isSeen_50 : decode cX2_isSeen 50 = .ok (.iconst 1, 1) := by decide +kernel
theorem dX2_isSeen_51 : decode cX2_isSeen 51 = .ok (.ireturn, 1) := by decide +kernel
theorem dX2_isSeen_52 : decode cX2_isSeen 52 = .ok (.iinc 5 1, 3) := by decide +kernel
theorem dX2_isSeen_55 : decode cX2_isSeen 55 = .ok (.goto (-46), 3) := by decide +kernel
theorem dX2_isSeen_58 : decode cX2_isSeen 58 = .ok (.iconst 0, 1) := by decide +kernel
theorem dX2_isSeen_59 : decode cX2_isSeen 59 = .ok (.ireturn, 1) := by decide +kernel
theorem dX2_endsFileAhead_0 : decode cX2_endsFileAhead 0 = .ok (.aload_n 0, 1) := by decide +kernel
theorem dX2_endsFileAhead_1 : decode cX2_endsFileAhead 1 = .ok (.getfield 38, 3) := by decide +kernel
theorem dX2_endsFileAhead_4 : decode cX2_endsFileAhead 4 = .ok (.iconst (-1), 1) := by decide +kernel
theorem dX2_endsFileAhead_5 : decode cX2_endsFileAhead 5 = .ok (.if_icmp .eq 46, 3) := by decide +kernel
theorem dX2_endsFileAhead_8 : decode cX2_endsFileAhead 8 = .ok (.aload_n 0, 1) := by decide +kernel
theorem dX2_endsFileAhead_9 : decode cX2_endsFileAhead 9 = .ok (.getfield 24, 3) := by decide +kernel
theorem dX2_endsFileAhead_12 : decode cX2_endsFileAhead 12 = .ok (.getfield 45, 3) := by decide +kernel
theorem dX2_endsFileAhead_15 : decode cX2_endsFileAhead 15 = .ok (.bipush 8, 2) := by decide +kernel
theorem dX2_endsFileAhead_17 : decode cX2_endsFileAhead 17 = .ok (.if_icmp .lt 34, 3) := by decide +kernel
theorem dX2_endsFileAhead_20 : decode cX2_endsFileAhead 20 = .ok (.aload_n 0, 1) := by decide +kernel
theorem dX2_endsFileAhead_21 : decode cX2_endsFileAhead 21 = .ok (.getfield 24, 3) := by decide +kernel
theorem dX2_endsFileAhead_24 : decode cX2_endsFileAhead 24 = .ok (.aload_n 0, 1) := by decide +kernel
theorem dX2_endsFileAhead_25 : decode cX2_endsFileAhead 25 = .ok (.getfield 24, 3) := by decide +kernel
theorem dX2_endsFileAhead_28 : decode cX2_endsFileAhead 28 = .ok (.getfield 45, 3) := by decide +kernel
theorem dX2_endsFileAhead_31 : decode cX2_endsFileAhead 31 = .ok (.iconst 1, 1) := by decide +kernel
theorem dX2_endsFileAhead_32 : decode cX2_endsFileAhead 32 = .ok (.isub, 1) := by decide +kernel
theorem dX2_endsFileAhead_33 : decode cX2_endsFileAhead 33 = .ok (.invokevirtual 77, 3) := by decide +kernel
theorem dX2_endsFileAhead_36 : decode cX2_endsFileAhead 36 = .ok (.aload_n 0, 1) := by decide +kernel
theorem dX2_endsFileAhead_37 : decode cX2_endsFileAhead 37 = .ok (.getfield 14, 3) := by decide +kernel
theorem dX2_endsFileAhead_40 : decode cX2_endsFileAhead 40 = .ok (.iload_n 1, 1) := by decide +kernel
theorem dX2_endsFileAhead_41 : decode cX2_endsFileAhead 41 = .ok (.invokevirtual 77, 3) := by decide +kernel
theorem dX2_endsFileAhead_44 : decode cX2_endsFileAhead 44 = .ok (.if_icmp .eq 7, 3) := by decide +kernel
theorem dX2_endsFileAhead_47 : decode cX2_endsFileAhead 47 = .ok (.iconst 1, 1) := by decide +kernel
theorem dX2_endsFileAhead_48 : decode cX2_endsFileAhead 48 = .ok (.goto 4, 3) := by decide +kernel
theorem dX2_endsFileAhead_51 : decode cX2_endsFileAhead 51 = .ok (.iconst 0, 1) := by decide +kernel
theorem dX2_endsFileAhead_52 : decode cX2_endsFileAhead 52 = .ok (.ireturn, 1) := by decide +kernel
theorem dX3_init_0 : decode cX3_init 0 = .ok (.aload_n 0, 1) := by decide +kernel
theorem dX3_init_1 : decode cX3_init 1 = .ok (.invokespecial 3, 3) := by decide +kernel
theorem dX3_init_4 : decode cX3_init 4 = .ok (.aload_n 0, 1) := by decide +kernel
theorem dX3_init_5 : decode cX3_init 5 = .ok (.sipush 1000, 3) := by decide +kernel
theorem dX3_init_8 : decode cX3_init 8 = .ok (.newarray .int, 2) := by decide +kernel
theorem dX3_init_10 : decode cX3_init 10 = .ok (.putfield 9, 3) := by decide +kernel
theorem dX3_init_13 : decode cX3_init 13 = .ok (.aload_n 0, 1) := by decide +kernel
theorem dX3_init_14 : decode cX3_init 14 = .ok (.sipush 1000, 3) := by decide +kernel
theorem dX3_init_17 : decode cX3_init 17 = .ok (.newarray .int, 2) := by decide +kernel
theorem dX3_init_19 : decode cX3_init 19 = .ok (.putfield 15, 3) := by decide +kernel
theorem dX3_init_22 : decode cX3_init 22 = .ok (.return_, 1) := by decide +kernel
theorem dX3_begin_0 : decode cX3_begin 0 = .ok (.aload_n 0, 1) := by decide +kernel
theorem dX3_begin_1 : decode cX3_begin 1 = .ok (.iconst 0, 1) := by decide +kernel
theorem dX3_begin_2 : decode cX3_begin 2 = .ok (.iload_n 1, 1) := by decide +kernel
theorem dX3_begin_3 : decode cX3_begin 3 = .ok (.invokestatic 18, 3) := by decide +kernel
theorem dX3_begin_6 : decode cX3_begin 6 = .ok (.putfield 24, 3) := by decide +kernel
theorem dX3_begin_9 : decode cX3_begin 9 = .ok (.aload_n 0, 1) := by decide +kernel
theorem dX3_begin_10 : decode cX3_begin 10 = .ok (.sipush 999, 3) := by decide +kernel
theorem dX3_begin_13 : decode cX3_begin 13 = .ok (.iload_n 2, 1) := by decide +kernel
theorem dX3_begin_14 : decode cX3_begin 14 = .ok (.invokestatic 28, 3) := by decide +kernel
theorem dX3_begin_17 : decode cX3_begin 17 = .ok (.putfield 31, 3) := by decide +kernel
theorem dX3_begin_20 : decode cX3_begin 20 = .ok (.aload_n 0, 1) := by decide +kernel
theorem dX3_begin_21 : decode cX3_begin 21 = .ok (.iload_n 3, 1) := by decide +kernel
theorem dX3_begin_22 : decode cX3_begin 22 = .ok (.putfield 34, 3) := by decide +kernel
theorem dX3_begin_25 : decode cX3_begin 25 = .ok (.aload_n 0, 1) := by decide +kernel
theorem dX3_begin_26 : decode cX3_begin 26 = .ok (.getfield 24, 3) := by decide +kernel
theorem dX3_begin_29 : decode cX3_begin 29 = .ok (.istore 4, 2) := by decide +kernel
theorem dX3_begin_31 : decode cX3_begin 31 = .ok (.iload 4, 2) := by decide +kernel
theorem dX3_begin_33 : decode cX3_begin 33 = .ok (.aload_n 0, 1) := by decide +kernel
theorem dX3_begin_34 : decode cX3_begin 34 = .ok (.getfield 31, 3) := by decide +kernel
theorem dX3_begin_37 : decode cX3_begin 37 = .ok (.if_icmp .gt 26, 3) := by decide +kernel
theorem dX3_begin_40 : decode cX3_begin 40 = .ok (.aload_n 0, 1) := by decide +kernel
theorem dX3_begin_41 : decode cX3_begin 41 = .ok (.getfield 9, 3) := by decide +kernel
theorem dX3_begin_44 : decode cX3_begin 44 = .ok (.iload 4, 2) := by decide +kernel
theorem dX3_begin_46 : decode cX3_begin 46 = .ok (.iconst 0, 1) := by decide +kernel
theorem dX3_begin_47 : decode cX3_begin 47 = .ok (.iastore, 1) := by decide +kernel
theorem dX3_begin_48 : decode cX3_begin 48 = .ok (.aload_n 0, 1) := by decide +kernel
theorem dX3_begin_49 : decode cX3_begin 49 = .ok (.getfield 15, 3) := by decide +kernel
theorem dX3_begin_52 : decode cX3_begin 52 = .ok (.iload 4, 2) := by decide +kernel
theorem dX3_begin_54 : decode cX3_begin 54 = .ok (.ldc 37, 2) := by decide +kernel
theorem dX3_begin_56 : decode cX3_begin 56 = .ok (.iastore, 1) := by decide +kernel
theorem dX3_begin_57 : decode cX3_begin 57 = .ok (.iinc 4 1, 3) := by decide +kernel
theorem dX3_begin_60 : decode cX3_begin 60 = .ok (.goto (-29), 3) := by decide +kernel
theorem dX3_begin_63 : decode cX3_begin 63 = .ok (.return_, 1) := by decide +kernel
theorem dX3_concerns_0 : decode cX3_concerns 0 = .ok (.aload_n 1, 1) := by decide +kernel
theorem dX3_concerns_1 : decode cX3_concerns 1 = .ok (.invokevirtual 38, 3) := by decide +kernel
theorem dX3_concerns_4 : decode cX3_concerns 4 = .ok (.aload_n 0, 1) := by decide +kernel
theorem dX3_concerns_5 : decode cX3_concerns 5 = .ok (.getfield 31, 3) := by decide +kernel
theorem dX3_concerns_8 : decode cX3_concerns 8 = .ok (.if_icmp .gt 18, 3) := by decide +kernel
theorem dX3_concerns_11 : decode cX3_concerns 11 = .ok (.aload_n 1, 1) := by decide +kernel
theorem dX3_concerns_12 : decode cX3_concerns 12 = .ok (.invokevirtual 44, 3) := by decide +kernel
theorem dX3_concerns_15 : decode cX3_concerns 15 = .ok (.aload_n 0, 1) := by decide +kernel
theorem dX3_concerns_16 : decode cX3_concerns 16 = .ok (.getfield 24, 3) := by decide +kernel
theorem dX3_concerns_19 : decode cX3_concerns 19 = .ok (.if_icmp .lt 7, 3) := by decide +kernel
theorem dX3_concerns_22 : decode cX3_concerns 22 = .ok (.iconst 1, 1) := by decide +kernel
theorem dX3_concerns_23 : decode cX3_concerns 23 = .ok (.goto 4, 3) := by decide +kernel
theorem dX3_concerns_26 : decode cX3_concerns 26 = .ok (.iconst 0, 1) := by decide +kernel
theorem dX3_concerns_27 : decode cX3_concerns 27 = .ok (.ireturn, 1) := by decide +kernel
theorem dX3_take_0 : decode cX3_take 0 = .ok (.iconst 0, 1) := by decide +kernel
theorem dX3_take_1 : decode cX3_take 1 = .ok (.istore_n 2, 1) := by decide +kernel
theorem dX3_take_2 : decode cX3_take 2 = .ok (.iload_n 2, 1) := by decide +kernel
theorem dX3_take_3 : decode cX3_take 3 = .ok (.aload_n 1, 1) := by decide +kernel
theorem dX3_take_4 : decode cX3_take 4 = .ok (.getfield 47, 3) := by decide +kernel
theorem dX3_take_7 : decode cX3_take 7 = .ok (.if_icmp .ge 77, 3) := by decide +kernel
theorem dX3_take_10 : decode cX3_take 10 = .ok (.aload_n 1, 1) := by decide +kernel
theorem dX3_take_11 : decode cX3_take 11 = .ok (.iload_n 2, 1) := by decide +kernel
theorem dX3_take_12 : decode cX3_take 12 = .ok (.invokevirtual 52, 3) := by decide +kernel
theorem dX3_take_15 : decode cX3_take 15 = .ok (.istore_n 3, 1) := by decide +kernel
theorem dX3_take_16 : decode cX3_take 16 = .ok (.aload_n 1, 1) := by decide +kernel
theorem dX3_take_17 : decode cX3_take 17 = .ok (.iload_n 2, 1) := by decide +kernel
theorem dX3_take_18 : decode cX3_take 18 = .ok (.invokevirtual 56, 3) := by decide +kernel
theorem dX3_take_21 : decode cX3_take 21 = .ok (.istore 4, 2) := by decide +kernel
theorem dX3_take_23 : decode cX3_take 23 = .ok (.iload_n 3, 1) := by decide +kernel
theorem dX3_take_24 : decode cX3_take 24 = .ok (.aload_n 0, 1) := by decide +kernel
theorem dX3_take_25 : decode cX3_take 25 = .ok (.getfield 24, 3) := by decide +kernel
theorem dX3_take_28 : decode cX3_take 28 = .ok (.if_icmp .lt 50, 3) := by decide +kernel
theorem dX3_take_31 : decode cX3_take 31 = .ok (.iload_n 3, 1) := by decide +kernel
theorem dX3_take_32 : decode cX3_take 32 = .ok (.aload_n 0, 1) := by decide +kernel
theorem dX3_take_33 : decode cX3_take 33 = .ok (.getfield 31, 3) := by decide +kernel
theorem dX3_take_36 : decode cX3_take 36 = .ok (.if_icmp .gt 42, 3) := by decide +kernel
theorem dX3_take_39 : decode cX3_take 39 = .ok (.iload 4, 2) := by decide +kernel
theorem dX3_take_41 : decode cX3_take 41 = .ok (.aload_n 0, 1) := by decide +kernel
theorem dX3_take_42 : decode cX3_take 42 = .ok (.getfield 34, 3) := by decide +kernel
theorem dX3_take_45 : decode cX3_take 45 = .ok (.if_icmp .gt 33, 3) := by decide +kernel
theorem dX3_take_48 : decode cX3_take 48 = .ok (.iload 4, 2) := by decide +kernel
theorem dX3_take_50 : decode cX3_take 50 = .ok (.aload_n 0, 1) := by decide +kernel
theorem dX3_take_51 : decode cX3_take 51 = .ok (.getfield 9, 3) := by decide +kernel
theorem dX3_take_54 : decode cX3_take 54 = .ok (.iload_n 3, 1) := by decide +kernel
theorem dX3_take_55 : decode cX3_take 55 = .ok (.iaload, 1) := by decide +kernel
theorem dX3_take_56 : decode cX3_take 56 = .ok (.if_icmp .le 22, 3) := by decide +kernel
theorem dX3_take_59 : decode cX3_take 59 = .ok (.aload_n 0, 1) := by decide +kernel
theorem dX3_take_60 : decode cX3_take 60 = .ok (.getfield 9, 3) := by decide +kernel
theorem dX3_take_63 : decode cX3_take 63 = .ok (.iload_n 3, 1) := by decide +kernel
theorem dX3_take_64 : decode cX3_take 64 = .ok (.iload 4, 2) := by decide +kernel
theorem dX3_take_66 : decode cX3_take 66 = .ok (.iastore, 1) := by decide +kernel
theorem dX3_take_67 : decode cX3_take 67 = .ok (.aload_n 0, 1) := by decide +kernel
theorem dX3_take_68 : decode cX3_take 68 = .ok (.getfield 15, 3) := by decide +kernel
theorem dX3_take_71 : decode cX3_take 71 = .ok (.iload_n 3, 1) := by decide +kernel
theorem dX3_take_72 : decode cX3_take 72 = .ok (.aload_n 1, 1) := by decide +kernel
theorem dX3_take_73 : decode cX3_take 73 = .ok (.iload_n 2, 1) := by decide +kernel
theorem dX3_take_74 : decode cX3_take 74 = .ok (.invokevirtual 59, 3) := by decide +kernel
theorem dX3_take_77 : decode cX3_take 77 = .ok (.iastore, 1) := by decide +kernel
theorem dX3_take_78 : decode cX3_take 78 = .ok (.iinc 2 1, 3) := by decide +kernel
theorem dX3_take_81 : decode cX3_take 81 = .ok (.goto (-79), 3) := by decide +kernel
theorem dX3_take_84 : decode cX3_take 84 = .ok (.return_, 1) := by decide +kernel
theorem dX3_valueOf_0 : decode cX3_valueOf 0 = .ok (.iload_n 1, 1) := by decide +kernel
theorem dX3_valueOf_1 : decode cX3_valueOf 1 = .ok (.aload_n 0, 1) := by decide +kernel
theorem dX3_valueOf_2 : decode cX3_valueOf 2 = .ok (.getfield 24, 3) := by decide +kernel
theorem dX3_valueOf_5 : decode cX3_valueOf 5 = .ok (.if_icmp .lt 20, 3) := by decide +kernel
theorem dX3_valueOf_8 : decode cX3_valueOf 8 = .ok (.iload_n 1, 1) := by decide +kernel
theorem dX3_valueOf_9 : decode cX3_valueOf 9 = .ok (.aload_n 0, 1) := by decide +kernel
theorem dX3_valueOf_10 : decode cX3_valueOf 10 = .ok (.getfield 31, 3) := by decide +kernel
theorem dX3_valueOf_13 : decode cX3_valueOf 13 = .ok (.if_icmp .gt 12, 3) := by decide +kernel
theorem dX3_valueOf_16 : decode cX3_valueOf 16 = .ok (.aload_n 0, 1) := by decide +kernel
theorem dX3_valueOf_17 : decode cX3_valueOf 17 = .ok (.getfield 15, 3) := by decide +kernel
theorem dX3_valueOf_20 : decode cX3_valueOf 20 = .ok (.iload_n 1, 1) := by decide +kernel
theorem dX3_valueOf_21 : decode cX3_valueOf 21 = .ok (.iaload, 1) := by decide +kernel
end
section
theorem dX3_valueOf_22 : decode cX3_valueOf 22 = .ok (.goto 5, 3) := by decide +kernel
theorem dX3_valueOf_25 : decode cX3_valueOf 25 = .ok (.ldc 37, 2) := by decide +kernel
theorem dX3_valueOf_27 : decode cX3_valueOf 27 = .ok (.ireturn, 1) := by decide +kernel
theorem dX3_leastKeyWithValue_0 : decode cX3_leastKeyWithValue 0 = .ok (.aload_n 0, 1) := by decide +kernel
theorem dX3_leastKeyWithValue_1 : decode cX3_leastKeyWithValue 1 = .ok (.getfield 24, 3) := by decide +kernel
theorem dX3_leastKeyWithValue_4 : decode cX3_leastKeyWithValue 4 = .ok (.istore_n 1, 1) := by decide +kernel
theorem dX3_leastKeyWithValue_5 : decode cX3_leastKeyWithValue 5 = .ok (.iload_n 1, 1) := by decide +kernel
theorem dX3_leastKeyWithValue_6 : decode cX3_leastKeyWithValue 6 = .ok (.aload_n 0, 1) := by decide +kernel
theorem dX3_leastKeyWithValue_7 : decode cX3_leastKeyWithValue 7 = .ok (.getfield 31, 3) := by decide +kernel
theorem dX3_leastKeyWithValue_10 : decode cX3_leastKeyWithValue 10 = .ok (.if_icmp .gt 22, 3) := by decide +kernel
theorem dX3_leastKeyWithValue_13 : decode cX3_leastKeyWithValue 13 = .ok (.aload_n 0, 1) := by decide +kernel
theorem dX3_leastKeyWithValue_14 : decode cX3_leastKeyWithValue 14 = .ok (.getfield 15, 3) := by decide +kernel
theorem dX3_leastKeyWithValue_17 : decode cX3_leastKeyWithValue 17 = .ok (.iload_n 1, 1) := by decide +kernel
theorem dX3_leastKeyWithValue_18 : decode cX3_leastKeyWithValue 18 = .ok (.iaload, 1) := by decide +kernel
theorem dX3_leastKeyWithValue_19 : decode cX3_leastKeyWithValue 19 = .ok (.ldc 37, 2) := by decide +kernel
theorem dX3_leastKeyWithValue_21 : decode cX3_leastKeyWithValue 21 = .ok (.if_icmp .eq 5, 3) := by decide +kernel
theorem dX3_leastKeyWithValue_24 : decode cX3_leastKeyWithValue 24 = .ok (.iload_n 1, 1) := by decide +kernel
theorem dX3_leastKeyWithValue_25 : decode cX3_leastKeyWithValue 25 = .ok (.ireturn, 1) := by decide +kernel
theorem dX3_leastKeyWithValue_26 : decode cX3_leastKeyWithValue 26 = .ok (.iinc 1 1, 3) := by decide +kernel
theorem dX3_leastKeyWithValue_29 : decode cX3_leastKeyWithValue 29 = .ok (.goto (-24), 3) := by decide +kernel
theorem dX3_leastKeyWithValue_32 : decode cX3_leastKeyWithValue 32 = .ok (.ldc 37, 2) := by decide +kernel
theorem dX3_leastKeyWithValue_34 : decode cX3_leastKeyWithValue 34 = .ok (.ireturn, 1) := by decide +kernel
theorem dX4_init_0 : decode cX4_init 0 = .ok (.aload_n 0, 1) := by decide +kernel
theorem dX4_init_1 : decode cX4_init 1 = .ok (.invokespecial 3, 3) := by decide +kernel
theorem dX4_init_4 : decode cX4_init 4 = .ok (.iconst 0, 1) := by decide +kernel
theorem dX4_init_5 : decode cX4_init 5 = .ok (.iload_n 1, 1) := by decide +kernel
theorem dX4_init_6 : decode cX4_init 6 = .ok (.invokestatic 9, 3) := by decide +kernel
theorem dX4_init_9 : decode cX4_init 9 = .ok (.istore_n 2, 1) := by decide +kernel
theorem dX4_init_10 : decode cX4_init 10 = .ok (.aload_n 0, 1) := by decide +kernel
theorem dX4_init_11 : decode cX4_init 11 = .ok (.iload_n 2, 1) := by decide +kernel
theorem dX4_init_12 : decode cX4_init 12 = .ok (.newarray .int, 2) := by decide +kernel
theorem dX4_init_14 : decode cX4_init 14 = .ok (.putfield 15, 3) := by decide +kernel
theorem dX4_init_17 : decode cX4_init 17 = .ok (.aload_n 0, 1) := by decide +kernel
theorem dX4_init_18 : decode cX4_init 18 = .ok (.iload_n 2, 1) := by decide +kernel
theorem dX4_init_19 : decode cX4_init 19 = .ok (.newarray .int, 2) := by decide +kernel
theorem dX4_init_21 : decode cX4_init 21 = .ok (.putfield 21, 3) := by decide +kernel
theorem dX4_init_24 : decode cX4_init 24 = .ok (.aload_n 0, 1) := by decide +kernel
theorem dX4_init_25 : decode cX4_init 25 = .ok (.iload_n 2, 1) := by decide +kernel
theorem dX4_init_26 : decode cX4_init 26 = .ok (.newarray .int, 2) := by decide +kernel
theorem dX4_init_28 : decode cX4_init 28 = .ok (.putfield 24, 3) := by decide +kernel
theorem dX4_init_31 : decode cX4_init 31 = .ok (.return_, 1) := by decide +kernel
theorem dX4_has_0 : decode cX4_has 0 = .ok (.iload_n 1, 1) := by decide +kernel
theorem dX4_has_1 : decode cX4_has 1 = .ok (.ifCond .lt 15, 3) := by decide +kernel
theorem dX4_has_4 : decode cX4_has 4 = .ok (.iload_n 1, 1) := by decide +kernel
theorem dX4_has_5 : decode cX4_has 5 = .ok (.aload_n 0, 1) := by decide +kernel
theorem dX4_has_6 : decode cX4_has 6 = .ok (.getfield 27, 3) := by decide +kernel
theorem dX4_has_9 : decode cX4_has 9 = .ok (.if_icmp .ge 7, 3) := by decide +kernel
theorem dX4_has_12 : decode cX4_has 12 = .ok (.iconst 1, 1) := by decide +kernel
theorem dX4_has_13 : decode cX4_has 13 = .ok (.goto 4, 3) := by decide +kernel
theorem dX4_has_16 : decode cX4_has 16 = .ok (.iconst 0, 1) := by decide +kernel
theorem dX4_has_17 : decode cX4_has 17 = .ok (.ireturn, 1) := by decide +kernel
theorem dX4_key_0 : decode cX4_key 0 = .ok (.iload_n 1, 1) := by decide +kernel
theorem dX4_key_1 : decode cX4_key 1 = .ok (.ifCond .lt 20, 3) := by decide +kernel
theorem dX4_key_4 : decode cX4_key 4 = .ok (.iload_n 1, 1) := by decide +kernel
theorem dX4_key_5 : decode cX4_key 5 = .ok (.aload_n 0, 1) := by decide +kernel
theorem dX4_key_6 : decode cX4_key 6 = .ok (.getfield 27, 3) := by decide +kernel
theorem dX4_key_9 : decode cX4_key 9 = .ok (.if_icmp .ge 12, 3) := by decide +kernel
theorem dX4_key_12 : decode cX4_key 12 = .ok (.aload_n 0, 1) := by decide +kernel
theorem dX4_key_13 : decode cX4_key 13 = .ok (.getfield 15, 3) := by decide +kernel
theorem dX4_key_16 : decode cX4_key 16 = .ok (.iload_n 1, 1) := by decide +kernel
theorem dX4_key_17 : decode cX4_key 17 = .ok (.iaload, 1) := by decide +kernel
theorem dX4_key_18 : decode cX4_key 18 = .ok (.goto 5, 3) := by decide +kernel
theorem dX4_key_21 : decode cX4_key 21 = .ok (.ldc 31, 2) := by decide +kernel
theorem dX4_key_23 : decode cX4_key 23 = .ok (.ireturn, 1) := by decide +kernel
theorem dX4_number_0 : decode cX4_number 0 = .ok (.iload_n 1, 1) := by decide +kernel
theorem dX4_number_1 : decode cX4_number 1 = .ok (.ifCond .lt 20, 3) := by decide +kernel
theorem dX4_number_4 : decode cX4_number 4 = .ok (.iload_n 1, 1) := by decide +kernel
theorem dX4_number_5 : decode cX4_number 5 = .ok (.aload_n 0, 1) := by decide +kernel
theorem dX4_number_6 : decode cX4_number 6 = .ok (.getfield 27, 3) := by decide +kernel
theorem dX4_number_9 : decode cX4_number 9 = .ok (.if_icmp .ge 12, 3) := by decide +kernel
theorem dX4_number_12 : decode cX4_number 12 = .ok (.aload_n 0, 1) := by decide +kernel
theorem dX4_number_13 : decode cX4_number 13 = .ok (.getfield 21, 3) := by decide +kernel
theorem dX4_number_16 : decode cX4_number 16 = .ok (.iload_n 1, 1) := by decide +kernel
theorem dX4_number_17 : decode cX4_number 17 = .ok (.iaload, 1) := by decide +kernel
theorem dX4_number_18 : decode cX4_number 18 = .ok (.goto 5, 3) := by decide +kernel
theorem dX4_number_21 : decode cX4_number 21 = .ok (.ldc 31, 2) := by decide +kernel
theorem dX4_number_23 : decode cX4_number 23 = .ok (.ireturn, 1) := by decide +kernel
theorem dX4_value_0 : decode cX4_value 0 = .ok (.iload_n 1, 1) := by decide +kernel
theorem dX4_value_1 : decode cX4_value 1 = .ok (.ifCond .lt 20, 3) := by decide +kernel
theorem dX4_value_4 : decode cX4_value 4 = .ok (.iload_n 1, 1) := by decide +kernel
theorem dX4_value_5 : decode cX4_value 5 = .ok (.aload_n 0, 1) := by decide +kernel
theorem dX4_value_6 : decode cX4_value 6 = .ok (.getfield 27, 3) := by decide +kernel
theorem dX4_value_9 : decode cX4_value 9 = .ok (.if_icmp .ge 12, 3) := by decide +kernel
theorem dX4_value_12 : decode cX4_value 12 = .ok (.aload_n 0, 1) := by decide +kernel
theorem dX4_value_13 : decode cX4_value 13 = .ok (.getfield 24, 3) := by decide +kernel
theorem dX4_value_16 : decode cX4_value 16 = .ok (.iload_n 1, 1) := by decide +kernel
theorem dX4_value_17 : decode cX4_value 17 = .ok (.iaload, 1) := by decide +kernel
theorem dX4_value_18 : decode cX4_value 18 = .ok (.goto 5, 3) := by decide +kernel
theorem dX4_value_21 : decode cX4_value 21 = .ok (.ldc 31, 2) := by decide +kernel
theorem dX4_value_23 : decode cX4_value 23 = .ok (.ireturn, 1) := by decide +kernel
theorem dX4_isGrave_0 : decode cX4_isGrave 0 = .ok (.aload_n 0, 1) := by decide +kernel
theorem dX4_isGrave_1 : decode cX4_isGrave 1 = .ok (.iload_n 1, 1) := by decide +kernel
theorem dX4_isGrave_2 : decode cX4_isGrave 2 = .ok (.invokevirtual 32, 3) := by decide +kernel
theorem dX4_isGrave_5 : decode cX4_isGrave 5 = .ok (.ldc 31, 2) := by decide +kernel
theorem dX4_isGrave_7 : decode cX4_isGrave 7 = .ok (.if_icmp .ne 7, 3) := by decide +kernel
theorem dX4_isGrave_10 : decode cX4_isGrave 10 = .ok (.iconst 1, 1) := by decide +kernel
theorem dX4_isGrave_11 : decode cX4_isGrave 11 = .ok (.goto 4, 3) := by decide +kernel
theorem dX4_isGrave_14 : decode cX4_isGrave 14 = .ok (.iconst 0, 1) := by decide +kernel
theorem dX4_isGrave_15 : decode cX4_isGrave 15 = .ok (.ireturn, 1) := by decide +kernel
theorem dX4_told_0 : decode cX4_told 0 = .ok (.aload_n 0, 1) := by decide +kernel
theorem dX4_told_1 : decode cX4_told 1 = .ok (.iload_n 1, 1) := by decide +kernel
theorem dX4_told_2 : decode cX4_told 2 = .ok (.invokevirtual 36, 3) := by decide +kernel
theorem dX4_told_5 : decode cX4_told 5 = .ok (.ifCond .ne 6, 3) := by decide +kernel
theorem dX4_told_8 : decode cX4_told 8 = .ok (.ldc 40, 2) := by decide +kernel
theorem dX4_told_10 : decode cX4_told 10 = .ok (.ireturn, 1) := by decide +kernel
theorem dX4_told_11 : decode cX4_told 11 = .ok (.iload_n 2, 1) := by decide +kernel
theorem dX4_told_12 : decode cX4_told 12 = .ok (.tableswitch 46 0 2 #[28, 34, 40], 28) := by decide +kernel
theorem dX4_told_40 : decode cX4_told 40 = .ok (.aload_n 0, 1) := by decide +kernel
theorem dX4_told_41 : decode cX4_told 41 = .ok (.iload_n 1, 1) := by decide +kernel
theorem dX4_told_42 : decode cX4_told 42 = .ok (.invokevirtual 41, 3) := by decide +kernel
theorem dX4_told_45 : decode cX4_told 45 = .ok (.ireturn, 1) := by decide +kernel
theorem dX4_told_46 : decode cX4_told 46 = .ok (.aload_n 0, 1) := by decide +kernel
theorem dX4_told_47 : decode cX4_told 47 = .ok (.iload_n 1, 1) := by decide +kernel
theorem dX4_told_48 : decode cX4_told 48 = .ok (.invokevirtual 44, 3) := by decide +kernel
theorem dX4_told_51 : decode cX4_told 51 = .ok (.ireturn, 1) := by decide +kernel
theorem dX4_told_52 : decode cX4_told 52 = .ok (.aload_n 0, 1) := by decide +kernel
theorem dX4_told_53 : decode cX4_told 53 = .ok (.iload_n 1, 1) := by decide +kernel
theorem dX4_told_54 : decode cX4_told 54 = .ok (.invokevirtual 32, 3) := by decide +kernel
theorem dX4_told_57 : decode cX4_told 57 = .ok (.ireturn, 1) := by decide +kernel
theorem dX4_told_58 : decode cX4_told 58 = .ok (.ldc 40, 2) := by decide +kernel
theorem dX4_told_60 : decode cX4_told 60 = .ok (.ireturn, 1) := by decide +kernel
theorem dX4_setAt_0 : decode cX4_setAt 0 = .ok (.aload_n 0, 1) := by decide +kernel
theorem dX4_setAt_1 : decode cX4_setAt 1 = .ok (.iload_n 1, 1) := by decide +kernel
theorem dX4_setAt_2 : decode cX4_setAt 2 = .ok (.invokevirtual 36, 3) := by decide +kernel
theorem dX4_setAt_5 : decode cX4_setAt 5 = .ok (.ifCond .eq 25, 3) := by decide +kernel
theorem dX4_setAt_8 : decode cX4_setAt 8 = .ok (.aload_n 0, 1) := by decide +kernel
theorem dX4_setAt_9 : decode cX4_setAt 9 = .ok (.getfield 15, 3) := by decide +kernel
theorem dX4_setAt_12 : decode cX4_setAt 12 = .ok (.iload_n 1, 1) := by decide +kernel
theorem dX4_setAt_13 : decode cX4_setAt 13 = .ok (.iload_n 2, 1) := by decide +kernel
theorem dX4_setAt_14 : decode cX4_setAt 14 = .ok (.iastore, 1) := by decide +kernel
theorem dX4_setAt_15 : decode cX4_setAt 15 = .ok (.aload_n 0, 1) := by decide +kernel
theorem dX4_setAt_16 : decode cX4_setAt 16 = .ok (.getfield 21, 3) := by decide +kernel
theorem dX4_setAt_19 : decode cX4_setAt 19 = .ok (.iload_n 1, 1) := by decide +kernel
theorem dX4_setAt_20 : decode cX4_setAt 20 = .ok (.iload_n 3, 1) := by decide +kernel
theorem dX4_setAt_21 : decode cX4_setAt 21 = .ok (.iastore, 1) := by decide +kernel
theorem dX4_setAt_22 : decode cX4_setAt 22 = .ok (.aload_n 0, 1) := by decide +kernel
theorem dX4_setAt_23 : decode cX4_setAt 23 = .ok (.getfield 24, 3) := by decide +kernel
theorem dX4_setAt_26 : decode cX4_setAt 26 = .ok (.iload_n 1, 1) := by decide +kernel
theorem dX4_setAt_27 : decode cX4_setAt 27 = .ok (.iload 4, 2) := by decide +kernel
theorem dX4_setAt_29 : decode cX4_setAt 29 = .ok (.iastore, 1) := by decide +kernel
theorem dX4_setAt_30 : decode cX4_setAt 30 = .ok (.return_, 1) := by decide +kernel
theorem dX4_copyTo_0 : decode cX4_copyTo 0 = .ok (.aload_n 0, 1) := by decide +kernel
theorem dX4_copyTo_1 : decode cX4_copyTo 1 = .ok (.iload_n 1, 1) := by decide +kernel
theorem dX4_copyTo_2 : decode cX4_copyTo 2 = .ok (.aload_n 2, 1) := by decide +kernel
theorem dX4_copyTo_3 : decode cX4_copyTo 3 = .ok (.iload_n 3, 1) := by decide +kernel
theorem dX4_copyTo_4 : decode cX4_copyTo 4 = .ok (.invokevirtual 41, 3) := by decide +kernel
theorem dX4_copyTo_7 : decode cX4_copyTo 7 = .ok (.aload_n 2, 1) := by decide +kernel
theorem dX4_copyTo_8 : decode cX4_copyTo 8 = .ok (.iload_n 3, 1) := by decide +kernel
theorem dX4_copyTo_9 : decode cX4_copyTo 9 = .ok (.invokevirtual 44, 3) := by decide +kernel
theorem dX4_copyTo_12 : decode cX4_copyTo 12 = .ok (.aload_n 2, 1) := by decide +kernel
theorem dX4_copyTo_13 : decode cX4_copyTo 13 = .ok (.iload_n 3, 1) := by decide +kernel
theorem dX4_copyTo_14 : decode cX4_copyTo 14 = .ok (.invokevirtual 32, 3) := by decide +kernel
theorem dX4_copyTo_17 : decode cX4_copyTo 17 = .ok (.invokevirtual 47, 3) := by decide +kernel
theorem dX4_copyTo_20 : decode cX4_copyTo 20 = .ok (.return_, 1) := by decide +kernel
theorem dX4_add_0 : decode cX4_add 0 = .ok (.aload_n 0, 1) := by decide +kernel
theorem dX4_add_1 : decode cX4_add 1 = .ok (.getfield 27, 3) := by decide +kernel
theorem dX4_add_4 : decode cX4_add 4 = .ok (.aload_n 0, 1) := by decide +kernel
theorem dX4_add_5 : decode cX4_add 5 = .ok (.getfield 15, 3) := by decide +kernel
theorem dX4_add_8 : decode cX4_add 8 = .ok (.arraylength, 1) := by decide +kernel
theorem dX4_add_9 : decode cX4_add 9 = .ok (.if_icmp .ge 26, 3) := by decide +kernel
theorem dX4_add_12 : decode cX4_add 12 = .ok (.aload_n 0, 1) := by decide +kernel
theorem dX4_add_13 : decode cX4_add 13 = .ok (.dup, 1) := by decide +kernel
theorem dX4_add_14 : decode cX4_add 14 = .ok (.getfield 27, 3) := by decide +kernel
theorem dX4_add_17 : decode cX4_add 17 = .ok (.iconst 1, 1) := by decide +kernel
theorem dX4_add_18 : decode cX4_add 18 = .ok (.iadd, 1) := by decide +kernel
theorem dX4_add_19 : decode cX4_add 19 = .ok (.putfield 27, 3) := by decide +kernel
theorem dX4_add_22 : decode cX4_add 22 = .ok (.aload_n 0, 1) := by decide +kernel
theorem dX4_add_23 : decode cX4_add 23 = .ok (.aload_n 0, 1) := by decide +kernel
theorem dX4_add_24 : decode cX4_add 24 = .ok (.getfield 27, 3) := by decide +kernel
theorem dX4_add_27 : decode cX4_add 27 = .ok (.iconst 1, 1) := by decide +kernel
theorem dX4_add_28 : decode cX4_add 28 = .ok (.isub, 1) := by decide +kernel
theorem dX4_add_29 : decode cX4_add 29 = .ok (.iload_n 1, 1) := by decide +kernel
theorem dX4_add_30 : decode cX4_add 30 = .ok (.iload_n 2, 1) := by decide +kernel
theorem dX4_add_31 : decode cX4_add 31 = .ok (.iload_n 3, 1) := by decide +kernel
theorem dX4_add_32 : decode cX4_add 32 = .ok (.invokevirtual 47, 3) := by decide +kernel
theorem dX4_add_35 : decode cX4_add 35 = .ok (.return_, 1) := by decide +kernel
theorem dX4_takeAll_0 : decode cX4_takeAll 0 = .ok (.aload_n 0, 1) := by decide +kernel
theorem dX4_takeAll_1 : decode cX4_takeAll 1 = .ok (.aload_n 1, 1) := by decide +kernel
theorem dX4_takeAll_2 : decode cX4_takeAll 2 = .ok (.getfield 27, 3) := by decide +kernel
theorem dX4_takeAll_5 : decode cX4_takeAll 5 = .ok (.aload_n 0, 1) := by decide +kernel
theorem dX4_takeAll_6 : decode cX4_takeAll 6 = .ok (.getfield 15, 3) := by decide +kernel
theorem dX4_takeAll_9 : decode cX4_takeAll 9 = .ok (.arraylength, 1) := by decide +kernel
theorem dX4_takeAll_10 : decode cX4_takeAll 10 = .ok (.invokestatic 51, 3) := by decide +kernel
theorem dX4_takeAll_13 : decode cX4_takeAll 13 = .ok (.putfield 27, 3) := by decide +kernel
theorem dX4_takeAll_16 : decode cX4_takeAll 16 = .ok (.iconst 0, 1) := by decide +kernel
theorem dX4_takeAll_17 : decode cX4_takeAll 17 = .ok (.istore_n 2, 1) := by decide +kernel
theorem dX4_takeAll_18 : decode cX4_takeAll 18 = .ok (.iload_n 2, 1) := by decide +kernel
theorem dX4_takeAll_19 : decode cX4_takeAll 19 = .ok (.aload_n 0, 1) := by decide +kernel
theorem dX4_takeAll_20 : decode cX4_takeAll 20 = .ok (.getfield 27, 3) := by decide +kernel
theorem dX4_takeAll_23 : decode cX4_takeAll 23 = .ok (.if_icmp .ge 16, 3) := by decide +kernel
theorem dX4_takeAll_26 : decode cX4_takeAll 26 = .ok (.aload_n 0, 1) := by decide +kernel
theorem dX4_takeAll_27 : decode cX4_takeAll 27 = .ok (.iload_n 2, 1) := by decide +kernel
theorem dX4_takeAll_28 : decode cX4_takeAll 28 = .ok (.aload_n 1, 1) := by decide +kernel
theorem dX4_takeAll_29 : decode cX4_takeAll 29 = .ok (.iload_n 2, 1) := by decide +kernel
theorem dX4_takeAll_30 : decode cX4_takeAll 30 = .ok (.invokevirtual 54, 3) := by decide +kernel
theorem dX4_takeAll_33 : decode cX4_takeAll 33 = .ok (.iinc 2 1, 3) := by decide +kernel
theorem dX4_takeAll_36 : decode cX4_takeAll 36 = .ok (.goto (-18), 3) := by decide +kernel
theorem dX4_takeAll_39 : decode cX4_takeAll 39 = .ok (.return_, 1) := by decide +kernel
theorem dX4_standsBehind_0 : decode cX4_standsBehind 0 = .ok (.aload_n 0, 1) := by decide +kernel
theorem dX4_standsBehind_1 : decode cX4_standsBehind 1 = .ok (.iload_n 1, 1) := by decide +kernel
theorem dX4_standsBehind_2 : decode cX4_standsBehind 2 = .ok (.invokevirtual 41, 3) := by decide +kernel
theorem dX4_standsBehind_5 : decode cX4_standsBehind 5 = .ok (.iload_n 2, 1) := by decide +kernel
theorem dX4_standsBehind_6 : decode cX4_standsBehind 6 = .ok (.if_icmp .gt 21, 3) := by decide +kernel
theorem dX4_standsBehind_9 : decode cX4_standsBehind 9 = .ok (.aload_n 0, 1) := by decide +kernel
theorem dX4_standsBehind_10 : decode cX4_standsBehind 10 = .ok (.iload_n 1, 1) := by decide +kernel
theorem dX4_standsBehind_11 : decode cX4_standsBehind 11 = .ok (.invokevirtual 41, 3) := by decide +kernel
theorem dX4_standsBehind_14 : decode cX4_standsBehind 14 = .ok (.iload_n 2, 1) := by decide +kernel
theorem dX4_standsBehind_15 : decode cX4_standsBehind 15 = .ok (.if_icmp .ne 16, 3) := by decide +kernel
theorem dX4_standsBehind_18 : decode cX4_standsBehind 18 = .ok (.aload_n 0, 1) := by decide +kernel
theorem dX4_standsBehind_19 : decode cX4_standsBehind 19 = .ok (.iload_n 1, 1) := by decide +kernel
theorem dX4_standsBehind_20 : decode cX4_standsBehind 20 = .ok (.invokevirtual 44, 3) := by decide +kernel
theorem dX4_standsBehind_23 : decode cX4_standsBehind 23 = .ok (.iload_n 3, 1) := by decide +kernel
theorem dX4_standsBehind_24 : decode cX4_standsBehind 24 = .ok (.if_icmp .ge 7, 3) := by decide +kernel
theorem dX4_standsBehind_27 : decode cX4_standsBehind 27 = .ok (.iconst 1, 1) := by decide +kernel
theorem dX4_standsBehind_28 : decode cX4_standsBehind 28 = .ok (.goto 4, 3) := by decide +kernel
theorem dX4_standsBehind_31 : decode cX4_standsBehind 31 = .ok (.iconst 0, 1) := by decide +kernel
theorem dX4_standsBehind_32 : decode cX4_standsBehind 32 = .ok (.ireturn, 1) := by decide +kernel
theorem dX4_insert_0 : decode cX4_insert 0 = .ok (.aload_n 0, 1) := by decide +kernel
theorem dX4_insert_1 : decode cX4_insert 1 = .ok (.getfield 27, 3) := by decide +kernel
theorem dX4_insert_4 : decode cX4_insert 4 = .ok (.aload_n 0, 1) := by decide +kernel
theorem dX4_insert_5 : decode cX4_insert 5 = .ok (.getfield 15, 3) := by decide +kernel
theorem dX4_insert_8 : decode cX4_insert 8 = .ok (.arraylength, 1) := by decide +kernel
theorem dX4_insert_9 : decode cX4_insert 9 = .ok (.if_icmp .lt 4, 3) := by decide +kernel
theorem dX4_insert_12 : decode cX4_insert 12 = .ok (.return_, 1) := by decide +kernel
theorem dX4_insert_13 : decode cX4_insert 13 = .ok (.aload_n 0, 1) := by decide +kernel
theorem dX4_insert_14 : decode cX4_insert 14 = .ok (.dup, 1) := by decide +kernel
theorem dX4_insert_15 : decode cX4_insert 15 = .ok (.getfield 27, 3) := by decide +kernel
theorem dX4_insert_18 : decode cX4_insert 18 = .ok (.iconst 1, 1) := by decide +kernel
theorem dX4_insert_19 : decode cX4_insert 19 = .ok (.iadd, 1) := by decide +kernel
theorem dX4_insert_20 : decode cX4_insert 20 = .ok (.putfield 27, 3) := by decide +kernel
theorem dX4_insert_23 : decode cX4_insert 23 = .ok (.aload_n 0, 1) := by decide +kernel
theorem dX4_insert_24 : decode cX4_insert 24 = .ok (.getfield 27, 3) := by decide +kernel
theorem dX4_insert_27 : decode cX4_insert 27 = .ok (.iconst 1, 1) := by decide +kernel
theorem dX4_insert_28 : decode cX4_insert 28 = .ok (.isub, 1) := by decide +kernel
theorem dX4_insert_29 : decode cX4_insert 29 = .ok (.istore 4, 2) := by decide +kernel
theorem dX4_insert_31 : decode cX4_insert 31 = .ok (.iload 4, 2) := by decide +kernel
theorem dX4_insert_33 : decode cX4_insert 33 = .ok (.ifCond .le 33, 3) := by decide +kernel
theorem dX4_insert_36 : decode cX4_insert 36 = .ok (.aload_n 0, 1) := by decide +kernel
theorem dX4_insert_37 : decode cX4_insert 37 = .ok (.iload 4, 2) := by decide +kernel
theorem dX4_insert_39 : decode cX4_insert 39 = .ok (.iconst 1, 1) := by decide +kernel
theorem dX4_insert_40 : decode cX4_insert 40 = .ok (.isub, 1) := by decide +kernel
theorem dX4_insert_41 : decode cX4_insert 41 = .ok (.iload_n 1, 1) := by decide +kernel
theorem dX4_insert_42 : decode cX4_insert 42 = .ok (.iload_n 2, 1) := by decide +kernel
theorem dX4_insert_43 : decode cX4_insert 43 = .ok (.invokevirtual 58, 3) := by decide +kernel
theorem dX4_insert_46 : decode cX4_insert 46 = .ok (.ifCond .eq 20, 3) := by decide +kernel
theorem dX4_insert_49 : decode cX4_insert 49 = .ok (.aload_n 0, 1) := by decide +kernel
theorem dX4_insert_50 : decode cX4_insert 50 = .ok (.iload 4, 2) := by decide +kernel
theorem dX4_insert_52 : decode cX4_insert 52 = .ok (.aload_n 0, 1) := by decide +kernel
theorem dX4_insert_53 : decode cX4_insert 53 = .ok (.iload 4, 2) := by decide +kernel
theorem dX4_insert_55 : decode cX4_insert 55 = .ok (.iconst 1, 1) := by decide +kernel
theorem dX4_insert_56 : decode cX4_insert 56 = .ok (.isub, 1) := by decide +kernel
theorem dX4_insert_57 : decode cX4_insert 57 = .ok (.invokevirtual 54, 3) := by decide +kernel
theorem dX4_insert_60 : decode cX4_insert 60 = .ok (.iinc 4 (-1), 3) := by decide +kernel
theorem dX4_insert_63 : decode cX4_insert 63 = .ok (.goto (-32), 3) := by decide +kernel
theorem dX4_insert_66 : decode cX4_insert 66 = .ok (.aload_n 0, 1) := by decide +kernel
theorem dX4_insert_67 : decode cX4_insert 67 = .ok (.iload 4, 2) := by decide +kernel
theorem dX4_insert_69 : decode cX4_insert 69 = .ok (.iload_n 1, 1) := by decide +kernel
theorem dX4_insert_70 : decode cX4_insert 70 = .ok (.iload_n 2, 1) := by decide +kernel
theorem dX4_insert_71 : decode cX4_insert 71 = .ok (.iload_n 3, 1) := by decide +kernel
theorem dX4_insert_72 : decode cX4_insert 72 = .ok (.invokevirtual 47, 3) := by decide +kernel
theorem dX4_insert_75 : decode cX4_insert 75 = .ok (.return_, 1) := by decide +kernel
theorem dX4_mergeIn_0 : decode cX4_mergeIn 0 = .ok (.aload_n 0, 1) := by decide +kernel
theorem dX4_mergeIn_1 : decode cX4_mergeIn 1 = .ok (.getfield 27, 3) := by decide +kernel
theorem dX4_mergeIn_4 : decode cX4_mergeIn 4 = .ok (.iconst 1, 1) := by decide +kernel
theorem dX4_mergeIn_5 : decode cX4_mergeIn 5 = .ok (.isub, 1) := by decide +kernel
theorem dX4_mergeIn_6 : decode cX4_mergeIn 6 = .ok (.istore_n 2, 1) := by decide +kernel
theorem dX4_mergeIn_7 : decode cX4_mergeIn 7 = .ok (.aload_n 1, 1) := by decide +kernel
theorem dX4_mergeIn_8 : decode cX4_mergeIn 8 = .ok (.getfield 27, 3) := by decide +kernel
theorem dX4_mergeIn_11 : decode cX4_mergeIn 11 = .ok (.iconst 1, 1) := by decide +kernel
theorem dX4_mergeIn_12 : decode cX4_mergeIn 12 = .ok (.isub, 1) := by decide +kernel
theorem dX4_mergeIn_13 : decode cX4_mergeIn 13 = .ok (.istore_n 3, 1) := by decide +kernel
theorem dX4_mergeIn_14 : decode cX4_mergeIn 14 = .ok (.aload_n 0, 1) := by decide +kernel
theorem dX4_mergeIn_15 : decode cX4_mergeIn 15 = .ok (.getfield 27, 3) := by decide +kernel
theorem dX4_mergeIn_18 : decode cX4_mergeIn 18 = .ok (.aload_n 1, 1) := by decide +kernel
theorem dX4_mergeIn_19 : decode cX4_mergeIn 19 = .ok (.getfield 27, 3) := by decide +kernel
theorem dX4_mergeIn_22 : decode cX4_mergeIn 22 = .ok (.iadd, 1) := by decide +kernel
theorem dX4_mergeIn_23 : decode cX4_mergeIn 23 = .ok (.istore 4, 2) := by decide +kernel
theorem dX4_mergeIn_25 : decode cX4_mergeIn 25 = .ok (.iload 4, 2) := by decide +kernel
theorem dX4_mergeIn_27 : decode cX4_mergeIn 27 = .ok (.aload_n 0, 1) := by decide +kernel
theorem dX4_mergeIn_28 : decode cX4_mergeIn 28 = .ok (.getfield 15, 3) := by decide +kernel
theorem dX4_mergeIn_31 : decode cX4_mergeIn 31 = .ok (.arraylength, 1) := by decide +kernel
theorem dX4_mergeIn_32 : decode cX4_mergeIn 32 = .ok (.if_icmp .le 4, 3) := by decide +kernel
theorem dX4_mergeIn_35 : decode cX4_mergeIn 35 = .ok (.return_, 1) := by decide +kernel
theorem dX4_mergeIn_36 : decode cX4_mergeIn 36 = .ok (.aload_n 0, 1) := by decide +kernel
theorem dX4_mergeIn_37 : decode cX4_mergeIn 37 = .ok (.iload 4, 2) := by decide +kernel
theorem dX4_mergeIn_39 : decode cX4_mergeIn 39 = .ok (.putfield 27, 3) := by decide +kernel
theorem dX4_mergeIn_42 : decode cX4_mergeIn 42 = .ok (.iload 4, 2) := by decide +kernel
theorem dX4_mergeIn_44 : decode cX4_mergeIn 44 = .ok (.iconst 1, 1) := by decide +kernel
theorem dX4_mergeIn_45 : decode cX4_mergeIn 45 = .ok (.isub, 1) := by decide +kernel
theorem dX4_mergeIn_46 : decode cX4_mergeIn 46 = .ok (.istore 5, 2) := by decide +kernel
theorem dX4_mergeIn_48 : decode cX4_mergeIn 48 = .ok (.iload 5, 2) := by decide +kernel
theorem dX4_mergeIn_50 : decode cX4_mergeIn 50 = .ok (.ifCond .lt 60, 3) := by decide +kernel
theorem dX4_mergeIn_53 : decode cX4_mergeIn 53 = .ok (.iload_n 3, 1) := by decide +kernel
theorem dX4_mergeIn_54 : decode cX4_mergeIn 54 = .ok (.ifCond .lt 56, 3) := by decide +kernel
theorem dX4_mergeIn_57 : decode cX4_mergeIn 57 = .ok (.iload_n 2, 1) := by decide +kernel
theorem dX4_mergeIn_58 : decode cX4_mergeIn 58 = .ok (.ifCond .lt 35, 3) := by decide +kernel
theorem dX4_mergeIn_61 : decode cX4_mergeIn 61 = .ok (.aload_n 0, 1) := by decide +kernel
theorem dX4_mergeIn_62 : decode cX4_mergeIn 62 = .ok (.iload_n 2, 1) := by decide +kernel
theorem dX4_mergeIn_63 : decode cX4_mergeIn 63 = .ok (.aload_n 1, 1) := by decide +kernel
theorem dX4_mergeIn_64 : decode cX4_mergeIn 64 = .ok (.iload_n 3, 1) := by decide +kernel
theorem dX4_mergeIn_65 : decode cX4_mergeIn 65 = .ok (.invokevirtual 41, 3) := by decide +kernel
theorem dX4_mergeIn_68 : decode cX4_mergeIn 68 = .ok (.aload_n 1, 1) := by decide +kernel
theorem dX4_mergeIn_69 : decode cX4_mergeIn 69 = .ok (.iload_n 3, 1) := by decide +kernel
theorem dX4_mergeIn_70 : decode cX4_mergeIn 70 = .ok (.invokevirtual 44, 3) := by decide +kernel
theorem dX4_mergeIn_73 : decode cX4_mergeIn 73 = .ok (.invokevirtual 58, 3) := by decide +kernel
theorem dX4_mergeIn_76 : decode cX4_mergeIn 76 = .ok (.ifCond .eq 17, 3) := by decide +kernel
theorem dX4_mergeIn_79 : decode cX4_mergeIn 79 = .ok (.aload_n 0, 1) := by decide +kernel
theorem dX4_mergeIn_80 : decode cX4_mergeIn 80 = .ok (.iload 5, 2) := by decide +kernel
theorem dX4_mergeIn_82 : decode cX4_mergeIn 82 = .ok (.aload_n 0, 1) := by decide +kernel
theorem dX4_mergeIn_83 : decode cX4_mergeIn 83 = .ok (.iload_n 2, 1) := by decide +kernel
theorem dX4_mergeIn_84 : decode cX4_mergeIn 84 = .ok (.invokevirtual 54, 3) := by decide +kernel
theorem dX4_mergeIn_87 : decode cX4_mergeIn 87 = .ok (.iinc 2 (-1), 3) := by decide +kernel
theorem dX4_mergeIn_90 : decode cX4_mergeIn 90 = .ok (.goto 14, 3) := by decide +kernel
theorem dX4_mergeIn_93 : decode cX4_mergeIn 93 = .ok (.aload_n 0, 1) := by decide +kernel
theorem dX4_mergeIn_94 : decode cX4_mergeIn 94 = .ok (.iload 5, 2) := by decide +kernel
theorem dX4_mergeIn_96 : decode cX4_mergeIn 96 = .ok (.aload_n 1, 1) := by decide +kernel
theorem dX4_mergeIn_97 : decode cX4_mergeIn 97 = .ok (.iload_n 3, 1) := by decide +kernel
theorem dX4_mergeIn_98 : decode cX4_mergeIn 98 = .ok (.invokevirtual 54, 3) := by decide +kernel
theorem dX4_mergeIn_101 : decode cX4_mergeIn 101 = .ok (.iinc 3 (-1), 3) := by decide +kernel
theorem dX4_mergeIn_104 : decode cX4_mergeIn 104 = .ok (.iinc 5 (-1), 3) := by decide +kernel
theorem dX4_mergeIn_107 : decode cX4_mergeIn 107 = .ok (.goto (-59), 3) := by decide +kernel
theorem dX4_mergeIn_110 : decode cX4_mergeIn 110 = .ok (.return_, 1) := by decide +kernel
theorem dX4_loseFirst_0 : decode cX4_loseFirst 0 = .ok (.iconst 0, 1) := by decide +kernel
theorem dX4_loseFirst_1 : decode cX4_loseFirst 1 = .ok (.iload_n 1, 1) := by decide +kernel
theorem dX4_loseFirst_2 : decode cX4_loseFirst 2 = .ok (.aload_n 0, 1) := by decide +kernel
theorem dX4_loseFirst_3 : decode cX4_loseFirst 3 = .ok (.getfield 27, 3) := by decide +kernel
theorem dX4_loseFirst_6 : decode cX4_loseFirst 6 = .ok (.invokestatic 51, 3) := by decide +kernel
theorem dX4_loseFirst_9 : decode cX4_loseFirst 9 = .ok (.invokestatic 9, 3) := by decide +kernel
theorem dX4_loseFirst_12 : decode cX4_loseFirst 12 = .ok (.istore_n 2, 1) := by decide +kernel
theorem dX4_loseFirst_13 : decode cX4_loseFirst 13 = .ok (.iload_n 2, 1) := by decide +kernel
theorem dX4_loseFirst_14 : decode cX4_loseFirst 14 = .ok (.istore_n 3, 1) := by decide +kernel
theorem dX4_loseFirst_15 : decode cX4_loseFirst 15 = .ok (.iload_n 3, 1) := by decide +kernel
theorem dX4_loseFirst_16 : decode cX4_loseFirst 16 = .ok (.aload_n 0, 1) := by decide +kernel
theorem dX4_loseFirst_17 : decode cX4_loseFirst 17 = .ok (.getfield 27, 3) := by decide +kernel
theorem dX4_loseFirst_20 : decode cX4_loseFirst 20 = .ok (.if_icmp .ge 18, 3) := by decide +kernel
theorem dX4_loseFirst_23 : decode cX4_loseFirst 23 = .ok (.aload_n 0, 1) := by decide +kernel
theorem dX4_loseFirst_24 : decode cX4_loseFirst 24 = .ok (.iload_n 3, 1) := by decide +kernel
theorem dX4_loseFirst_25 : decode cX4_loseFirst 25 = .ok (.iload_n 2, 1) := by decide +kernel
theorem dX4_loseFirst_26 : decode cX4_loseFirst 26 = .ok (.isub, 1) := by decide +kernel
theorem dX4_loseFirst_27 : decode cX4_loseFirst 27 = .ok (.aload_n 0, 1) := by decide +kernel
theorem dX4_loseFirst_28 : decode cX4_loseFirst 28 = .ok (.iload_n 3, 1) := by decide +kernel
theorem dX4_loseFirst_29 : decode cX4_loseFirst 29 = .ok (.invokevirtual 54, 3) := by decide +kernel
theorem dX4_loseFirst_32 : decode cX4_loseFirst 32 = .ok (.iinc 3 1, 3) := by decide +kernel
theorem dX4_loseFirst_35 : decode cX4_loseFirst 35 = .ok (.goto (-20), 3) := by decide +kernel
theorem dX4_loseFirst_38 : decode cX4_loseFirst 38 = .ok (.aload_n 0, 1) := by decide +kernel
theorem dX4_loseFirst_39 : decode cX4_loseFirst 39 = .ok (.dup, 1) := by decide +kernel
theorem dX4_loseFirst_40 : decode cX4_loseFirst 40 = .ok (.getfield 27, 3) := by decide +kernel
theorem dX4_loseFirst_43 : decode cX4_loseFirst 43 = .ok (.iload_n 2, 1) := by decide +kernel
theorem dX4_loseFirst_44 : decode cX4_loseFirst 44 = .ok (.isub, 1) := by decide +kernel
theorem dX4_loseFirst_45 : decode cX4_loseFirst 45 = .ok (.putfield 27, 3) := by decide +kernel
theorem dX4_loseFirst_48 : decode cX4_loseFirst 48 = .ok (.return_, 1) := by decide +kernel
theorem dX4_greatestNumber_0 : decode cX4_greatestNumber 0 = .ok (.iconst 0, 1) := by decide +kernel
theorem dX4_greatestNumber_1 : decode cX4_greatestNumber 1 = .ok (.istore_n 1, 1) := by decide +kernel
theorem dX4_greatestNumber_2 : decode cX4_greatestNumber 2 = .ok (.iconst 0, 1) := by decide +kernel
theorem dX4_greatestNumber_3 : decode cX4_greatestNumber 3 = .ok (.istore_n 2, 1) := by decide +kernel
theorem dX4_greatestNumber_4 : decode cX4_greatestNumber 4 = .ok (.iload_n 2, 1) := by decide +kernel
theorem dX4_greatestNumber_5 : decode cX4_greatestNumber 5 = .ok (.aload_n 0, 1) := by decide +kernel
theorem dX4_greatestNumber_6 : decode cX4_greatestNumber 6 = .ok (.getfield 27, 3) := by decide +kernel
theorem dX4_greatestNumber_9 : decode cX4_greatestNumber 9 = .ok (.if_icmp .ge 19, 3) := by decide +kernel
theorem dX4_greatestNumber_12 : decode cX4_greatestNumber 12 = .ok (.iload_n 1, 1) := by decide +kernel
theorem dX4_greatestNumber_13 : decode cX4_greatestNumber 13 = .ok (.aload_n 0, 1) := by decide +kernel
theorem dX4_greatestNumber_14 : decode cX4_greatestNumber 14 = .ok (.iload_n 2, 1) := by decide +kernel
theorem dX4_greatestNumber_15 : decode cX4_greatestNumber 15 = .ok (.invokevirtual 44, 3) := by decide +kernel
theorem dX4_greatestNumber_18 : decode cX4_greatestNumber 18 = .ok (.invokestatic 9, 3) := by decide +kernel
theorem dX4_greatestNumber_21 : decode cX4_greatestNumber 21 = .ok (.istore_n 1, 1) := by decide +kernel
theorem dX4_greatestNumber_22 : decode cX4_greatestNumber 22 = .ok (.iinc 2 1, 3) := by decide +kernel
theorem dX4_greatestNumber_25 : decode cX4_greatestNumber 25 = .ok (.goto (-21), 3) := by decide +kernel
theorem dX4_greatestNumber_28 : decode cX4_greatestNumber 28 = .ok (.iload_n 1, 1) := by decide +kernel
theorem dX4_greatestNumber_29 : decode cX4_greatestNumber 29 = .ok (.ireturn, 1) := by decide +kernel
theorem dX5_init_0 : decode cX5_init 0 = .ok (.aload_n 0, 1) := by decide +kernel
theorem dX5_init_1 : decode cX5_init 1 = .ok (.invokespecial 3, 3) := by decide +kernel
theorem dX5_init_4 : decode cX5_init 4 = .ok (.aload_n 0, 1) := by decide +kernel
theorem dX5_init_5 : decode cX5_init 5 = .ok (.new 9, 3) := by decide +kernel
theorem dX5_init_8 : decode cX5_init 8 = .ok (.dup, 1) := by decide +kernel
theorem dX5_init_9 : decode cX5_init 9 = .ok (.bipush 24, 2) := by decide +kernel
theorem dX5_init_11 : decode cX5_init 11 = .ok (.invokespecial 11, 3) := by decide +kernel
theorem dX5_init_14 : decode cX5_init 14 = .ok (.putfield 14, 3) := by decide +kernel
theorem dX5_init_17 : decode cX5_init 17 = .ok (.return_, 1) := by decide +kernel
theorem dX5_leastKey_0 : decode cX5_leastKey 0 = .ok (.aload_n 0, 1) := by decide +kernel
theorem dX5_leastKey_1 : decode cX5_leastKey 1 = .ok (.getfield 14, 3) := by decide +kernel
theorem dX5_leastKey_4 : decode cX5_leastKey 4 = .ok (.iconst 0, 1) := by decide +kernel
theorem dX5_leastKey_5 : decode cX5_leastKey 5 = .ok (.invokevirtual 20, 3) := by decide +kernel
theorem dX5_leastKey_8 : decode cX5_leastKey 8 = .ok (.ireturn, 1) := by decide +kernel
theorem dX5_greatestKey_0 : decode cX5_greatestKey 0 = .ok (.aload_n 0, 1) := by decide +kernel
theorem dX5_greatestKey_1 : decode cX5_greatestKey 1 = .ok (.getfield 14, 3) := by decide +kernel
theorem dX5_greatestKey_4 : decode cX5_greatestKey 4 = .ok (.aload_n 0, 1) := by decide +kernel
theorem dX5_greatestKey_5 : decode cX5_greatestKey 5 = .ok (.getfield 14, 3) := by decide +kernel
theorem dX5_greatestKey_8 : decode cX5_greatestKey 8 = .ok (.getfield 24, 3) := by decide +kernel
theorem dX5_greatestKey_11 : decode cX5_greatestKey 11 = .ok (.iconst 1, 1) := by decide +kernel
theorem dX5_greatestKey_12 : decode cX5_greatestKey 12 = .ok (.isub, 1) := by decide +kernel
theorem dX5_greatestKey_13 : decode cX5_greatestKey 13 = .ok (.invokevirtual 20, 3) := by decide +kernel
theorem dX5_greatestKey_16 : decode cX5_greatestKey 16 = .ok (.ireturn, 1) := by decide +kernel
theorem dX6_init_0 : decode cX6_init 0 = .ok (.aload_n 0, 1) := by decide +kernel
theorem dX6_init_1 : decode cX6_init 1 = .ok (.invokespecial 3, 3) := by decide +kernel
theorem dX6_init_4 : decode cX6_init 4 = .ok (.aload_n 0, 1) := by decide +kernel
theorem dX6_init_5 : decode cX6_init 5 = .ok (.new 9, 3) := by decide +kernel
theorem dX6_init_8 : decode cX6_init 8 = .ok (.dup, 1) := by decide +kernel
theorem dX6_init_9 : decode cX6_init 9 = .ok (.bipush 24, 2) := by decide +kernel
theorem dX6_init_11 : decode cX6_init 11 = .ok (.invokespecial 11, 3) := by decide +kernel
theorem dX6_init_14 : decode cX6_init 14 = .ok (.putfield 14, 3) := by decide +kernel
theorem dX6_init_17 : decode cX6_init 17 = .ok (.aload_n 0, 1) := by decide +kernel
theorem dX6_init_18 : decode cX6_init 18 = .ok (.iconst 3, 1) := by decide +kernel
theorem dX6_init_19 : decode cX6_init 19 = .ok (.newarray .int, 2) := by decide +kernel
theorem dX6_init_21 : decode cX6_init 21 = .ok (.dup, 1) := by decide +kernel
theorem dX6_init_22 : decode cX6_init 22 = .ok (.iconst 0, 1) := by decide +kernel
theorem dX6_init_23 : decode cX6_init 23 = .ok (.iconst (-1), 1) := by decide +kernel
theorem dX6_init_24 : decode cX6_init 24 = .ok (.iastore, 1) := by decide +kernel
theorem dX6_init_25 : decode cX6_init 25 = .ok (.dup, 1) := by decide +kernel
theorem dX6_init_26 : decode cX6_init 26 = .ok (.iconst 1, 1) := by decide +kernel
theorem dX6_init_27 : decode cX6_init 27 = .ok (.iconst (-1), 1) := by decide +kernel
theorem dX6_init_28 : decode cX6_init 28 = .ok (.iastore, 1) := by decide +kernel
theorem dX6_init_29 : decode cX6_init 29 = .ok (.dup, 1) := by decide +kernel
theorem dX6_init_30 : decode cX6_init 30 = .ok (.iconst 2, 1) := by decide +kernel
theorem dX6_init_31 : decode cX6_init 31 = .ok (.iconst (-1), 1) := by decide +kernel
theorem dX6_init_32 : decode cX6_init 32 = .ok (.iastore, 1) := by decide +kernel
theorem dX6_init_33 : decode cX6_init 33 = .ok (.putfield 18, 3) := by decide +kernel
theorem dX6_init_36 : decode cX6_init 36 = .ok (.aload_n 0, 1) := by decide +kernel
theorem dX6_init_37 : decode cX6_init 37 = .ok (.iconst 4, 1) := by decide +kernel
theorem dX6_init_38 : decode cX6_init 38 = .ok (.anewarray 22, 3) := by decide +kernel
theorem dX6_init_41 : decode cX6_init 41 = .ok (.dup, 1) := by decide +kernel
theorem dX6_init_42 : decode cX6_init 42 = .ok (.iconst 0, 1) := by decide +kernel
theorem dX6_init_43 : decode cX6_init 43 = .ok (.new 22, 3) := by decide +kernel
theorem dX6_init_46 : decode cX6_init 46 = .ok (.dup, 1) := by decide +kernel
theorem dX6_init_47 : decode cX6_init 47 = .ok (.invokespecial 24, 3) := by decide +kernel
theorem dX6_init_50 : decode cX6_init 50 = .ok (.aastore, 1) := by decide +kernel
theorem dX6_init_51 : decode cX6_init 51 = .ok (.dup, 1) := by decide +kernel
theorem dX6_init_52 : decode cX6_init 52 = .ok (.iconst 1, 1) := by decide +kernel
theorem dX6_init_53 : decode cX6_init 53 = .ok (.new 22, 3) := by decide +kernel
theorem dX6_init_56 : decode cX6_init 56 = .ok (.dup, 1) := by decide +kernel
theorem dX6_init_57 : decode cX6_init 57 = .ok (.invokespecial 24, 3) := by decide +kernel
theorem dX6_init_60 : decode cX6_init 60 = .ok (.aastore, 1) := by decide +kernel
theorem dX6_init_61 : decode cX6_init 61 = .ok (.dup, 1) := by decide +kernel
theorem dX6_init_62 : decode cX6_init 62 = .ok (.iconst 2, 1) := by decide +kernel
theorem dX6_init_63 : decode cX6_init 63 = .ok (.new 22, 3) := by decide +kernel
theorem dX6_init_66 : decode cX6_init 66 = .ok (.dup, 1) := by decide +kernel
theorem dX6_init_67 : decode cX6_init 67 = .ok (.invokespecial 24, 3) := by decide +kernel
theorem dX6_init_70 : decode cX6_init 70 = .ok (.aastore, 1) := by decide +kernel
theorem dX6_init_71 : decode cX6_init 71 = .ok (.dup, 1) := by decide +kernel
theorem dX6_init_72 : decode cX6_init 72 = .ok (.iconst 3, 1) := by decide +kernel
theorem dX6_init_73 : decode cX6_init 73 = .ok (.new 22, 3) := by decide +kernel
theorem dX6_init_76 : decode cX6_init 76 = .ok (.dup, 1) := by decide +kernel
theorem dX6_init_77 : decode cX6_init 77 = .ok (.invokespecial 24, 3) := by decide +kernel
theorem dX6_init_80 : decode cX6_init 80 = .ok (.aastore, 1) := by decide +kernel
theorem dX6_init_81 : decode cX6_init 81 = .ok (.putfield 25, 3) := by decide +kernel
theorem dX6_init_84 : decode cX6_init 84 = .ok (.aload_n 0, 1) := by decide +kernel
theorem dX6_init_85 : decode cX6_init 85 = .ok (.new 22, 3) := by decide +kernel
theorem dX6_init_88 : decode cX6_init 88 = .ok (.dup, 1) := by decide +kernel
theorem dX6_init_89 : decode cX6_init 89 = .ok (.invokespecial 24, 3) := by decide +kernel
theorem dX6_init_92 : decode cX6_init 92 = .ok (.putfield 29, 3) := by decide +kernel
theorem dX6_init_95 : decode cX6_init 95 = .ok (.aload_n 0, 1) := by decide +kernel
theorem dX6_init_96 : decode cX6_init 96 = .ok (.new 33, 3) := by decide +kernel
theorem dX6_init_99 : decode cX6_init 99 = .ok (.dup, 1) := by decide +kernel
theorem dX6_init_100 : decode cX6_init 100 = .ok (.invokespecial 35, 3) := by decide +kernel
theorem dX6_init_103 : decode cX6_init 103 = .ok (.putfield 36, 3) := by decide +kernel
theorem dX6_init_106 : decode cX6_init 106 = .ok (.aload_n 0, 1) := by decide +kernel
theorem dX6_init_107 : decode cX6_init 107 = .ok (.new 40, 3) := by decide +kernel
theorem dX6_init_110 : decode cX6_init 110 = .ok (.dup, 1) := by decide +kernel
theorem dX6_init_111 : decode cX6_init 111 = .ok (.invokespecial 42, 3) := by decide +kernel
theorem dX6_init_114 : decode cX6_init 114 = .ok (.putfield 43, 3) := by decide +kernel
theorem dX6_init_117 : decode cX6_init 117 = .ok (.aload_n 0, 1) := by decide +kernel
theorem dX6_init_118 : decode cX6_init 118 = .ok (.new 47, 3) := by decide +kernel
theorem dX6_init_121 : decode cX6_init 121 = .ok (.dup, 1) := by decide +kernel
theorem dX6_init_122 : decode cX6_init 122 = .ok (.invokespecial 49, 3) := by decide +kernel
theorem dX6_init_125 : decode cX6_init 125 = .ok (.putfield 50, 3) := by decide +kernel
theorem dX6_init_128 : decode cX6_init 128 = .ok (.return_, 1) := by decide +kernel
theorem dX6_put_0 : decode cX6_put 0 = .ok (.iload_n 1, 1) := by decide +kernel
theorem dX6_put_1 : decode cX6_put 1 = .ok (.invokestatic 54, 3) := by decide +kernel
theorem dX6_put_4 : decode cX6_put 4 = .ok (.ifCond .eq 15, 3) := by decide +kernel
theorem dX6_put_7 : decode cX6_put 7 = .ok (.iload_n 2, 1) := by decide +kernel
theorem dX6_put_8 : decode cX6_put 8 = .ok (.ldc 58, 2) := by decide +kernel
theorem dX6_put_10 : decode cX6_put 10 = .ok (.if_icmp .lt 9, 3) := by decide +kernel
theorem dX6_put_13 : decode cX6_put 13 = .ok (.iload_n 2, 1) := by decide +kernel
theorem dX6_put_14 : decode cX6_put 14 = .ok (.ldc 59, 2) := by decide +kernel
theorem dX6_put_16 : decode cX6_put 16 = .ok (.if_icmp .le 6, 3) := by decide +kernel
theorem dX6_put_19 : decode cX6_put 19 = .ok (.ldc 60, 2) := by decide +kernel
theorem dX6_put_21 : decode cX6_put 21 = .ok (.ireturn, 1) := by decide +kernel
theorem dX6_put_22 : decode cX6_put 22 = .ok (.aload_n 0, 1) := by decide +kernel
theorem dX6_put_23 : decode cX6_put 23 = .ok (.iload_n 1, 1) := by decide +kernel
theorem dX6_put_24 : decode cX6_put 24 = .ok (.iload_n 2, 1) := by decide +kernel
theorem dX6_put_25 : decode cX6_put 25 = .ok (.invokevirtual 61, 3) := by decide +kernel
theorem dX6_put_28 : decode cX6_put 28 = .ok (.ireturn, 1) := by decide +kernel
theorem dX6_drop_0 : decode cX6_drop 0 = .ok (.iload_n 1, 1) := by decide +kernel
theorem dX6_drop_1 : decode cX6_drop 1 = .ok (.invokestatic 54, 3) := by decide +kernel
theorem dX6_drop_4 : decode cX6_drop 4 = .ok (.ifCond .ne 6, 3) := by decide +kernel
theorem dX6_drop_7 : decode cX6_drop 7 = .ok (.ldc 60, 2) := by decide +kernel
theorem dX6_drop_9 : decode cX6_drop 9 = .ok (.ireturn, 1) := by decide +kernel
theorem dX6_drop_10 : decode cX6_drop 10 = .ok (.aload_n 0, 1) := by decide +kernel
theorem dX6_drop_11 : decode cX6_drop 11 = .ok (.iload_n 1, 1) := by decide +kernel
theorem dX6_drop_12 : decode cX6_drop 12 = .ok (.ldc 65, 2) := by decide +kernel
theorem dX6_drop_14 : decode cX6_drop 14 = .ok (.invokevirtual 61, 3) := by decide +kernel
theorem dX6_drop_17 : decode cX6_drop 17 = .ok (.ireturn, 1) := by decide +kernel
theorem dX6_sync_0 : decode cX6_sync 0 = .ok (.aload_n 0, 1) := by decide +kernel
theorem dX6_sync_1 : decode cX6_sync 1 = .ok (.getfield 14, 3) := by decide +kernel
theorem dX6_sync_4 : decode cX6_sync 4 = .ok (.getfield 66, 3) := by decide +kernel
theorem dX6_sync_7 : decode cX6_sync 7 = .ok (.aload_n 0, 1) := by decide +kernel
theorem dX6_sync_8 : decode cX6_sync 8 = .ok (.getfield 70, 3) := by decide +kernel
theorem dX6_sync_11 : decode cX6_sync 11 = .ok (.isub, 1) := by decide +kernel
theorem dX6_sync_12 : decode cX6_sync 12 = .ok (.istore_n 1, 1) := by decide +kernel
theorem dX6_sync_13 : decode cX6_sync 13 = .ok (.aload_n 0, 1) := by decide +kernel
theorem dX6_sync_14 : decode cX6_sync 14 = .ok (.aload_n 0, 1) := by decide +kernel
theorem dX6_sync_15 : decode cX6_sync 15 = .ok (.getfield 14, 3) := by decide +kernel
theorem dX6_sync_18 : decode cX6_sync 18 = .ok (.getfield 66, 3) := by decide +kernel
theorem dX6_sync_21 : decode cX6_sync 21 = .ok (.putfield 70, 3) := by decide +kernel
theorem dX6_sync_24 : decode cX6_sync 24 = .ok (.iload_n 1, 1) := by decide +kernel
theorem dX6_sync_25 : decode cX6_sync 25 = .ok (.ireturn, 1) := by decide +kernel
theorem dX6_crash_0 : decode cX6_crash 0 = .ok (.iload_n 1, 1) := by decide +kernel
theorem dX6_crash_1 : decode cX6_crash 1 = .ok (.ifCond .lt 19, 3) := by decide +kernel
theorem dX6_crash_4 : decode cX6_crash 4 = .ok (.iload_n 1, 1) := by decide +kernel
theorem dX6_crash_5 : decode cX6_crash 5 = .ok (.aload_n 0, 1) := by decide +kernel
theorem dX6_crash_6 : decode cX6_crash 6 = .ok (.getfield 14, 3) := by decide +kernel
theorem dX6_crash_9 : decode cX6_crash 9 = .ok (.getfield 66, 3) := by decide +kernel
theorem dX6_crash_12 : decode cX6_crash 12 = .ok (.aload_n 0, 1) := by decide +kernel
theorem dX6_crash_13 : decode cX6_crash 13 = .ok (.getfield 70, 3) := by decide +kernel
theorem dX6_crash_16 : decode cX6_crash 16 = .ok (.isub, 1) := by decide +kernel
theorem dX6_crash_17 : decode cX6_crash 17 = .ok (.if_icmp .le 6, 3) := by decide +kernel
theorem dX6_crash_20 : decode cX6_crash 20 = .ok (.ldc 60, 2) := by decide +kernel
theorem dX6_crash_22 : decode cX6_crash 22 = .ok (.ireturn, 1) := by decide +kernel
theorem dX6_crash_23 : decode cX6_crash 23 = .ok (.aload_n 0, 1) := by decide +kernel
theorem dX6_crash_24 : decode cX6_crash 24 = .ok (.getfield 14, 3) := by decide +kernel
theorem dX6_crash_27 : decode cX6_crash 27 = .ok (.aload_n 0, 1) := by decide +kernel
theorem dX6_crash_28 : decode cX6_crash 28 = .ok (.getfield 70, 3) := by decide +kernel
theorem dX6_crash_31 : decode cX6_crash 31 = .ok (.iload_n 1, 1) := by decide +kernel
theorem dX6_crash_32 : decode cX6_crash 32 = .ok (.iadd, 1) := by decide +kernel
theorem dX6_crash_33 : decode cX6_crash 33 = .ok (.putfield 66, 3) := by decide +kernel
theorem dX6_crash_36 : decode cX6_crash 36 = .ok (.aload_n 0, 1) := by decide +kernel
theorem dX6_crash_37 : decode cX6_crash 37 = .ok (.invokevirtual 73, 3) := by decide +kernel
theorem dX6_crash_40 : decode cX6_crash 40 = .ok (.pop, 1) := by decide +kernel
theorem dX6_crash_41 : decode cX6_crash 41 = .ok (.iconst 0, 1) := by decide +kernel
theorem dX6_crash_42 : decode cX6_crash 42 = .ok (.istore_n 2, 1) := by decide +kernel
theorem dX6_crash_43 : decode cX6_crash 43 = .ok (.iload_n 2, 1) := by decide +kernel
theorem dX6_crash_44 : decode cX6_crash 44 = .ok (.aload_n 0, 1) := by decide +kernel
theorem dX6_crash_45 : decode cX6_crash 45 = .ok (.getfield 18, 3) := by decide +kernel
theorem dX6_crash_48 : decode cX6_crash 48 = .ok (.arraylength, 1) := by decide +kernel
theorem dX6_crash_49 : decode cX6_crash 49 = .ok (.if_icmp .ge 16, 3) := by decide +kernel
theorem dX6_crash_52 : decode cX6_crash 52 = .ok (.aload_n 0, 1) := by decide +kernel
theorem dX6_crash_53 : decode cX6_crash 53 = .ok (.getfield 18, 3) := by decide +kernel
theorem dX6_crash_56 : decode cX6_crash 56 = .ok (.iload_n 2, 1) := by decide +kernel
theorem dX6_crash_57 : decode cX6_crash 57 = .ok (.iconst (-1), 1) := by decide +kernel
theorem dX6_crash_58 : decode cX6_crash 58 = .ok (.iastore, 1) := by decide +kernel
theorem dX6_crash_59 : decode cX6_crash 59 = .ok (.iinc 2 1, 3) := by decide +kernel
theorem dX6_crash_62 : decode cX6_crash 62 = .ok (.goto (-19), 3) := by decide +kernel
theorem dX6_crash_65 : decode cX6_crash 65 = .ok (.aload_n 0, 1) := by decide +kernel
theorem dX6_crash_66 : decode cX6_crash 66 = .ok (.aload_n 0, 1) := by decide +kernel
theorem dX6_crash_67 : decode cX6_crash 67 = .ok (.invokevirtual 77, 3) := by decide +kernel
theorem dX6_crash_70 : decode cX6_crash 70 = .ok (.putfield 80, 3) := by decide +kernel
theorem dX6_crash_73 : decode cX6_crash 73 = .ok (.aload_n 0, 1) := by decide +kernel
theorem dX6_crash_74 : decode cX6_crash 74 = .ok (.getfield 14, 3) := by decide +kernel
theorem dX6_crash_77 : decode cX6_crash 77 = .ok (.getfield 66, 3) := by decide +kernel
theorem dX6_crash_80 : decode cX6_crash 80 = .ok (.ireturn, 1) := by decide +kernel
theorem dX6_get_0 : decode cX6_get 0 = .ok (.iload_n 1, 1) := by decide +kernel
theorem dX6_get_1 : decode cX6_get 1 = .ok (.invokestatic 54, 3) := by decide +kernel
theorem dX6_get_4 : decode cX6_get 4 = .ok (.ifCond .ne 6, 3) := by decide +kernel
theorem dX6_get_7 : decode cX6_get 7 = .ok (.ldc 60, 2) := by decide +kernel
theorem dX6_get_9 : decode cX6_get 9 = .ok (.ireturn, 1) := by decide +kernel
theorem dX6_get_10 : decode cX6_get 10 = .ok (.aload_n 0, 1) := by decide +kernel
theorem dX6_get_11 : decode cX6_get 11 = .ok (.iload_n 1, 1) := by decide +kernel
theorem dX6_get_12 : decode cX6_get 12 = .ok (.aload_n 0, 1) := by decide +kernel
theorem dX6_get_13 : decode cX6_get 13 = .ok (.getfield 80, 3) := by decide +kernel
theorem dX6_get_16 : decode cX6_get 16 = .ok (.invokevirtual 83, 3) := by decide +kernel
theorem dX6_get_19 : decode cX6_get 19 = .ok (.ireturn, 1) := by decide +kernel
theorem dX6_view_0 : decode cX6_view 0 = .ok (.aload_n 0, 1) := by decide +kernel
theorem dX6_view_1 : decode cX6_view 1 = .ok (.iload_n 1, 1) := by decide +kernel
theorem dX6_view_2 : decode cX6_view 2 = .ok (.invokevirtual 86, 3) := by decide +kernel
theorem dX6_view_5 : decode cX6_view 5 = .ok (.ifCond .ne 6, 3) := by decide +kernel
theorem dX6_view_8 : decode cX6_view 8 = .ok (.ldc 89, 2) := by decide +kernel
theorem dX6_view_10 : decode cX6_view 10 = .ok (.ireturn, 1) := by decide +kernel
theorem dX6_view_11 : decode cX6_view 11 = .ok (.iload_n 2, 1) := by decide +kernel
theorem dX6_view_12 : decode cX6_view 12 = .ok (.invokestatic 54, 3) := by decide +kernel
theorem dX6_view_15 : decode cX6_view 15 = .ok (.ifCond .ne 6, 3) := by decide +kernel
theorem dX6_view_18 : decode cX6_view 18 = .ok (.ldc 60, 2) := by decide +kernel
theorem dX6_view_20 : decode cX6_view 20 = .ok (.ireturn, 1) := by decide +kernel
theorem dX6_view_21 : decode cX6_view 21 = .ok (.aload_n 0, 1) := by decide +kernel
theorem dX6_view_22 : decode cX6_view 22 = .ok (.iload_n 2, 1) := by decide +kernel
theorem dX6_view_23 : decode cX6_view 23 = .ok (.aload_n 0, 1) := by decide +kernel
theorem dX6_view_24 : decode cX6_view 24 = .ok (.iload_n 1, 1) := by decide +kernel
theorem dX6_view_25 : decode cX6_view 25 = .ok (.invokevirtual 90, 3) := by decide +kernel
theorem dX6_view_28 : decode cX6_view 28 = .ok (.invokevirtual 83, 3) := by decide +kernel
theorem dX6_view_31 : decode cX6_view 31 = .ok (.ireturn, 1) := by decide +kernel
theorem dX6_next_0 : decode cX6_next 0 = .ok (.iload_n 1, 1) := by decide +kernel
theorem dX6_next_1 : decode cX6_next 1 = .ok (.iconst (-1), 1) := by decide +kernel
theorem dX6_next_2 : decode cX6_next 2 = .ok (.if_icmp .ne 7, 3) := by decide +kernel
theorem dX6_next_5 : decode cX6_next 5 = .ok (.iconst 1, 1) := by decide +kernel
theorem dX6_next_6 : decode cX6_next 6 = .ok (.goto 4, 3) := by decide +kernel
theorem dX6_next_9 : decode cX6_next 9 = .ok (.iconst 0, 1) := by decide +kernel
theorem dX6_next_10 : decode cX6_next 10 = .ok (.istore_n 3, 1) := by decide +kernel
theorem dX6_next_11 : decode cX6_next 11 = .ok (.iload_n 3, 1) := by decide +kernel
theorem dX6_next_12 : decode cX6_next 12 = .ok (.ifCond .ne 14, 3) := by decide +kernel
theorem dX6_next_15 : decode cX6_next 15 = .ok (.aload_n 0, 1) := by decide +kernel
theorem dX6_next_16 : decode cX6_next 16 = .ok (.iload_n 1, 1) := by decide +kernel
theorem dX6_next_17 : decode cX6_next 17 = .ok (.invokevirtual 86, 3) := by decide +kernel
theorem dX6_next_20 : decode cX6_next 20 = .ok (.ifCond .ne 6, 3) := by decide +kernel
theorem dX6_next_23 : decode cX6_next 23 = .ok (.ldc 89, 2) := by decide +kernel
theorem dX6_next_25 : decode cX6_next 25 = .ok (.ireturn, 1) := by decide +kernel
theorem dX6_next_26 : decode cX6_next 26 = .ok (.iload_n 2, 1) := by decide +kernel
theorem dX6_next_27 : decode cX6_next 27 = .ok (.invokestatic 54, 3) := by decide +kernel
theorem dX6_next_30 : decode cX6_next 30 = .ok (.ifCond .ne 6, 3) := by decide +kernel
theorem dX6_next_33 : decode cX6_next 33 = .ok (.ldc 60, 2) := by decide +kernel
theorem dX6_next_35 : decode cX6_next 35 = .ok (.ireturn, 1) := by decide +kernel
theorem dX6_next_36 : decode cX6_next 36 = .ok (.aload_n 0, 1) := by decide +kernel
theorem dX6_next_37 : decode cX6_next 37 = .ok (.getfield 43, 3) := by decide +kernel
theorem dX6_next_40 : decode cX6_next 40 = .ok (.iload_n 2, 1) := by decide +kernel
theorem dX6_next_41 : decode cX6_next 41 = .ok (.sipush 999, 3) := by decide +kernel
theorem dX6_next_44 : decode cX6_next 44 = .ok (.iload_n 3, 1) := by decide +kernel
theorem dX6_next_45 : decode cX6_next 45 = .ok (.ifCond .eq 10, 3) := by decide +kernel
theorem dX6_next_48 : decode cX6_next 48 = .ok (.aload_n 0, 1) := by decide +kernel
theorem dX6_next_49 : decode cX6_next 49 = .ok (.getfield 80, 3) := by decide +kernel
theorem dX6_next_52 : decode cX6_next 52 = .ok (.goto 8, 3) := by decide +kernel
theorem dX6_next_55 : decode cX6_next 55 = .ok (.aload_n 0, 1) := by decide +kernel
theorem dX6_next_56 : decode cX6_next 56 = .ok (.iload_n 1, 1) := by decide +kernel
theorem dX6_next_57 : decode cX6_next 57 = .ok (.invokevirtual 90, 3) := by decide +kernel
theorem dX6_next_60 : decode cX6_next 60 = .ok (.invokevirtual 94, 3) := by decide +kernel
theorem dX6_next_63 : decode cX6_next 63 = .ok (.aload_n 0, 1) := by decide +kernel
theorem dX6_next_64 : decode cX6_next 64 = .ok (.invokevirtual 98, 3) := by decide +kernel
theorem dX6_next_67 : decode cX6_next 67 = .ok (.aload_n 0, 1) := by decide +kernel
theorem dX6_next_68 : decode cX6_next 68 = .ok (.getfield 43, 3) := by decide +kernel
theorem dX6_next_71 : decode cX6_next 71 = .ok (.invokevirtual 101, 3) := by decide +kernel
theorem dX6_next_74 : decode cX6_next 74 = .ok (.ireturn, 1) := by decide +kernel
theorem dX6_hold_0 : decode cX6_hold 0 = .ok (.aload_n 0, 1) := by decide +kernel
theorem dX6_hold_1 : decode cX6_hold 1 = .ok (.iload_n 1, 1) := by decide +kernel
theorem dX6_hold_2 : decode cX6_hold 2 = .ok (.invokevirtual 104, 3) := by decide +kernel
theorem dX6_hold_5 : decode cX6_hold 5 = .ok (.ifCond .ne 6, 3) := by decide +kernel
theorem dX6_hold_8 : decode cX6_hold 8 = .ok (.ldc 89, 2) := by decide +kernel
theorem dX6_hold_10 : decode cX6_hold 10 = .ok (.ireturn, 1) := by decide +kernel
theorem dX6_hold_11 : decode cX6_hold 11 = .ok (.aload_n 0, 1) := by decide +kernel
theorem dX6_hold_12 : decode cX6_hold 12 = .ok (.iload_n 1, 1) := by decide +kernel
theorem dX6_hold_13 : decode cX6_hold 13 = .ok (.invokevirtual 86, 3) := by decide +kernel
theorem dX6_hold_16 : decode cX6_hold 16 = .ok (.ifCond .eq 6, 3) := by decide +kernel
theorem dX6_hold_19 : decode cX6_hold 19 = .ok (.ldc 107, 2) := by decide +kernel
theorem dX6_hold_21 : decode cX6_hold 21 = .ok (.ireturn, 1) := by decide +kernel
theorem dX6_hold_22 : decode cX6_hold 22 = .ok (.aload_n 0, 1) := by decide +kernel
theorem dX6_hold_23 : decode cX6_hold 23 = .ok (.getfield 18, 3) := by decide +kernel
theorem dX6_hold_26 : decode cX6_hold 26 = .ok (.iload_n 1, 1) := by decide +kernel
theorem dX6_hold_27 : decode cX6_hold 27 = .ok (.aload_n 0, 1) := by decide +kernel
theorem dX6_hold_28 : decode cX6_hold 28 = .ok (.getfield 80, 3) := by decide +kernel
theorem dX6_hold_31 : decode cX6_hold 31 = .ok (.iastore, 1) := by decide +kernel
theorem dX6_hold_32 : decode cX6_hold 32 = .ok (.aload_n 0, 1) := by decide +kernel
theorem dX6_hold_33 : decode cX6_hold 33 = .ok (.getfield 80, 3) := by decide +kernel
theorem dX6_hold_36 : decode cX6_hold 36 = .ok (.ireturn, 1) := by decide +kernel
theorem dX6_release_0 : decode cX6_release 0 = .ok (.aload_n 0, 1) := by decide +kernel
theorem dX6_release_1 : decode cX6_release 1 = .ok (.iload_n 1, 1) := by decide +kernel
theorem dX6_release_2 : decode cX6_release 2 = .ok (.invokevirtual 86, 3) := by decide +kernel
theorem dX6_release_5 : decode cX6_release 5 = .ok (.ifCond .ne 6, 3) := by decide +kernel
theorem dX6_release_8 : decode cX6_release 8 = .ok (.ldc 89, 2) := by decide +kernel
theorem dX6_release_10 : decode cX6_release 10 = .ok (.ireturn, 1) := by decide +kernel
theorem dX6_release_11 : decode cX6_release 11 = .ok (.aload_n 0, 1) := by decide +kernel
theorem dX6_release_12 : decode cX6_release 12 = .ok (.iload_n 1, 1) := by decide +kernel
theorem dX6_release_13 : decode cX6_release 13 = .ok (.invokevirtual 90, 3) := by decide +kernel
theorem dX6_release_16 : decode cX6_release 16 = .ok (.istore_n 2, 1) := by decide +kernel
theorem dX6_release_17 : decode cX6_release 17 = .ok (.aload_n 0, 1) := by decide +kernel
theorem dX6_release_18 : decode cX6_release 18 = .ok (.getfield 18, 3) := by decide +kernel
theorem dX6_release_21 : decode cX6_release 21 = .ok (.iload_n 1, 1) := by decide +kernel
theorem dX6_release_22 : decode cX6_release 22 = .ok (.iconst (-1), 1) := by decide +kernel
theorem dX6_release_23 : decode cX6_release 23 = .ok (.iastore, 1) := by decide +kernel
theorem dX6_release_24 : decode cX6_release 24 = .ok (.iload_n 2, 1) := by decide +kernel
theorem dX6_release_25 : decode cX6_release 25 = .ok (.ireturn, 1) := by decide +kernel
theorem dX6_flush_0 : decode cX6_flush 0 = .ok (.aload_n 0, 1) := by decide +kernel
theorem dX6_flush_1 : decode cX6_flush 1 = .ok (.getfield 50, 3) := by decide +kernel
theorem dX6_flush_4 : decode cX6_flush 4 = .ok (.getfield 108, 3) := by decide +kernel
theorem dX6_flush_7 : decode cX6_flush 7 = .ok (.ifCond .ne 13, 3) := by decide +kernel
theorem dX6_flush_10 : decode cX6_flush 10 = .ok (.aload_n 0, 1) := by decide +kernel
theorem dX6_flush_11 : decode cX6_flush 11 = .ok (.getfield 14, 3) := by decide +kernel
theorem dX6_flush_14 : decode cX6_flush 14 = .ok (.getfield 66, 3) := by decide +kernel
theorem dX6_flush_17 : decode cX6_flush 17 = .ok (.ifCond .ne 6, 3) := by decide +kernel
theorem dX6_flush_20 : decode cX6_flush 20 = .ok (.ldc 107, 2) := by decide +kernel
theorem dX6_flush_22 : decode cX6_flush 22 = .ok (.ireturn, 1) := by decide +kernel
theorem dX6_flush_23 : decode cX6_flush 23 = .ok (.aload_n 0, 1) := by decide +kernel
theorem dX6_flush_24 : decode cX6_flush 24 = .ok (.getfield 50, 3) := by decide +kernel
theorem dX6_flush_27 : decode cX6_flush 27 = .ok (.iconst (-1), 1) := by decide +kernel
theorem dX6_flush_28 : decode cX6_flush 28 = .ok (.iconst 0, 1) := by decide +kernel
theorem dX6_flush_29 : decode cX6_flush 29 = .ok (.invokevirtual 112, 3) := by decide +kernel
theorem dX6_flush_32 : decode cX6_flush 32 = .ok (.aload_n 0, 1) := by decide +kernel
theorem dX6_flush_33 : decode cX6_flush 33 = .ok (.getfield 50, 3) := by decide +kernel
theorem dX6_flush_36 : decode cX6_flush 36 = .ok (.aload_n 0, 1) := by decide +kernel
theorem dX6_flush_37 : decode cX6_flush 37 = .ok (.iconst 0, 1) := by decide +kernel
theorem dX6_flush_38 : decode cX6_flush 38 = .ok (.invokevirtual 115, 3) := by decide +kernel
theorem dX6_flush_41 : decode cX6_flush 41 = .ok (.putfield 118, 3) := by decide +kernel
theorem dX6_flush_44 : decode cX6_flush 44 = .ok (.aload_n 0, 1) := by decide +kernel
theorem dX6_flush_45 : decode cX6_flush 45 = .ok (.getfield 50, 3) := by decide +kernel
theorem dX6_flush_48 : decode cX6_flush 48 = .ok (.aload_n 0, 1) := by decide +kernel
theorem dX6_flush_49 : decode cX6_flush 49 = .ok (.getfield 50, 3) := by decide +kernel
theorem dX6_flush_52 : decode cX6_flush 52 = .ok (.getfield 118, 3) := by decide +kernel
theorem dX6_flush_55 : decode cX6_flush 55 = .ok (.putfield 121, 3) := by decide +kernel
theorem dX6_flush_58 : decode cX6_flush 58 = .ok (.iconst 0, 1) := by decide +kernel
theorem dX6_flush_59 : decode cX6_flush 59 = .ok (.istore_n 1, 1) := by decide +kernel
theorem dX6_flush_60 : decode cX6_flush 60 = .ok (.iload_n 1, 1) := by decide +kernel
theorem dX6_flush_61 : decode cX6_flush 61 = .ok (.aload_n 0, 1) := by decide +kernel
theorem dX6_flush_62 : decode cX6_flush 62 = .ok (.getfield 14, 3) := by decide +kernel
theorem dX6_flush_65 : decode cX6_flush 65 = .ok (.getfield 66, 3) := by decide +kernel
theorem dX6_flush_68 : decode cX6_flush 68 = .ok (.if_icmp .ge 43, 3) := by decide +kernel
theorem dX6_flush_71 : decode cX6_flush 71 = .ok (.aload_n 0, 1) := by decide +kernel
theorem dX6_flush_72 : decode cX6_flush 72 = .ok (.getfield 50, 3) := by decide +kernel
theorem dX6_flush_75 : decode cX6_flush 75 = .ok (.getfield 124, 3) := by decide +kernel
theorem dX6_flush_78 : decode cX6_flush 78 = .ok (.aload_n 0, 1) := by decide +kernel
theorem dX6_flush_79 : decode cX6_flush 79 = .ok (.getfield 14, 3) := by decide +kernel
theorem dX6_flush_82 : decode cX6_flush 82 = .ok (.iload_n 1, 1) := by decide +kernel
theorem dX6_flush_83 : decode cX6_flush 83 = .ok (.invokevirtual 127, 3) := by decide +kernel
theorem dX6_flush_86 : decode cX6_flush 86 = .ok (.aload_n 0, 1) := by decide +kernel
theorem dX6_flush_87 : decode cX6_flush 87 = .ok (.getfield 14, 3) := by decide +kernel
theorem dX6_flush_90 : decode cX6_flush 90 = .ok (.iload_n 1, 1) := by decide +kernel
theorem dX6_flush_91 : decode cX6_flush 91 = .ok (.invokevirtual 130, 3) := by decide +kernel
theorem dX6_flush_94 : decode cX6_flush 94 = .ok (.aload_n 0, 1) := by decide +kernel
theorem dX6_flush_95 : decode cX6_flush 95 = .ok (.getfield 14, 3) := by decide +kernel
theorem dX6_flush_98 : decode cX6_flush 98 = .ok (.iload_n 1, 1) := by decide +kernel
theorem dX6_flush_99 : decode cX6_flush 99 = .ok (.invokevirtual 133, 3) := by decide +kernel
theorem dX6_flush_102 : decode cX6_flush 102 = .ok (.invokevirtual 136, 3) := by decide +kernel
theorem dX6_flush_105 : decode cX6_flush 105 = .ok (.iinc 1 1, 3) := by decide +kernel
theorem dX6_flush_108 : decode cX6_flush 108 = .ok (.goto (-48), 3) := by decide +kernel
theorem dX6_flush_111 : decode cX6_flush 111 = .ok (.aload_n 0, 1) := by decide +kernel
theorem dX6_flush_112 : decode cX6_flush 112 = .ok (.getfield 50, 3) := by decide +kernel
theorem dX6_flush_115 : decode cX6_flush 115 = .ok (.aload_n 0, 1) := by decide +kernel
theorem dX6_flush_116 : decode cX6_flush 116 = .ok (.getfield 18, 3) := by decide +kernel
theorem dX6_flush_119 : decode cX6_flush 119 = .ok (.invokevirtual 139, 3) := by decide +kernel
theorem dX6_flush_122 : decode cX6_flush 122 = .ok (.aload_n 0, 1) := by decide +kernel
theorem dX6_flush_123 : decode cX6_flush 123 = .ok (.getfield 50, 3) := by decide +kernel
theorem dX6_flush_126 : decode cX6_flush 126 = .ok (.invokevirtual 143, 3) := by decide +kernel
theorem dX6_flush_129 : decode cX6_flush 129 = .ok (.ireturn, 1) := by decide +kernel
theorem dX6_merge_0 : decode cX6_merge 0 = .ok (.aload_n 0, 1) := by decide +kernel
theorem dX6_merge_1 : decode cX6_merge 1 = .ok (.iload_n 1, 1) := by decide +kernel
theorem dX6_merge_2 : decode cX6_merge 2 = .ok (.invokevirtual 146, 3) := by decide +kernel
theorem dX6_merge_5 : decode cX6_merge 5 = .ok (.astore_n 3, 1) := by decide +kernel
theorem dX6_merge_6 : decode cX6_merge 6 = .ok (.aload_n 0, 1) := by decide +kernel
theorem dX6_merge_7 : decode cX6_merge 7 = .ok (.iload_n 1, 1) := by decide +kernel
theorem dX6_merge_8 : decode cX6_merge 8 = .ok (.iconst 1, 1) := by decide +kernel
theorem dX6_merge_9 : decode cX6_merge 9 = .ok (.iadd, 1) := by decide +kernel
theorem dX6_merge_10 : decode cX6_merge 10 = .ok (.invokevirtual 146, 3) := by decide +kernel
theorem dX6_merge_13 : decode cX6_merge 13 = .ok (.astore 4, 2) := by decide +kernel
theorem dX6_merge_15 : decode cX6_merge 15 = .ok (.aload_n 3, 1) := by decide +kernel
theorem dX6_merge_16 : decode cX6_merge 16 = .ok (.ifnull 20, 3) := by decide +kernel
theorem dX6_merge_19 : decode cX6_merge 19 = .ok (.aload 4, 2) := by decide +kernel
theorem dX6_merge_21 : decode cX6_merge 21 = .ok (.ifnull 15, 3) := by decide +kernel
theorem dX6_merge_24 : decode cX6_merge 24 = .ok (.iload_n 1, 1) := by decide +kernel
theorem dX6_merge_25 : decode cX6_merge 25 = .ok (.ifCond .le 14, 3) := by decide +kernel
theorem dX6_merge_28 : decode cX6_merge 28 = .ok (.aload_n 3, 1) := by decide +kernel
theorem dX6_merge_29 : decode cX6_merge 29 = .ok (.iload_n 2, 1) := by decide +kernel
theorem dX6_merge_30 : decode cX6_merge 30 = .ok (.invokevirtual 150, 3) := by decide +kernel
theorem dX6_merge_33 : decode cX6_merge 33 = .ok (.ifnonnull 6, 3) := by decide +kernel
theorem dX6_merge_36 : decode cX6_merge 36 = .ok (.ldc 89, 2) := by decide +kernel
theorem dX6_merge_38 : decode cX6_merge 38 = .ok (.ireturn, 1) := by decide +kernel
theorem dX6_merge_39 : decode cX6_merge 39 = .ok (.aload_n 0, 1) := by decide +kernel
theorem dX6_merge_40 : decode cX6_merge 40 = .ok (.getfield 50, 3) := by decide +kernel
theorem dX6_merge_43 : decode cX6_merge 43 = .ok (.getfield 108, 3) := by decide +kernel
theorem dX6_merge_46 : decode cX6_merge 46 = .ok (.ifCond .ne 10, 3) := by decide +kernel
theorem dX6_merge_49 : decode cX6_merge 49 = .ok (.aload_n 3, 1) := by decide +kernel
theorem dX6_merge_50 : decode cX6_merge 50 = .ok (.invokevirtual 154, 3) := by decide +kernel
theorem dX6_merge_53 : decode cX6_merge 53 = .ok (.ifCond .ne 6, 3) := by decide +kernel
theorem dX6_merge_56 : decode cX6_merge 56 = .ok (.ldc 107, 2) := by decide +kernel
theorem dX6_merge_58 : decode cX6_merge 58 = .ok (.ireturn, 1) := by decide +kernel
theorem dX6_merge_59 : decode cX6_merge 59 = .ok (.aload_n 0, 1) := by decide +kernel
theorem dX6_merge_60 : decode cX6_merge 60 = .ok (.getfield 50, 3) := by decide +kernel
theorem dX6_merge_63 : decode cX6_merge 63 = .ok (.iload_n 1, 1) := by decide +kernel
theorem dX6_merge_64 : decode cX6_merge 64 = .ok (.iload_n 1, 1) := by decide +kernel
theorem dX6_merge_65 : decode cX6_merge 65 = .ok (.iconst 1, 1) := by decide +kernel
theorem dX6_merge_66 : decode cX6_merge 66 = .ok (.iadd, 1) := by decide +kernel
theorem dX6_merge_67 : decode cX6_merge 67 = .ok (.invokevirtual 112, 3) := by decide +kernel
theorem dX6_merge_70 : decode cX6_merge 70 = .ok (.aload_n 0, 1) := by decide +kernel
theorem dX6_merge_71 : decode cX6_merge 71 = .ok (.getfield 50, 3) := by decide +kernel
theorem dX6_merge_74 : decode cX6_merge 74 = .ok (.iload_n 1, 1) := by decide +kernel
theorem dX6_merge_75 : decode cX6_merge 75 = .ok (.ifCond .ne 7, 3) := by decide +kernel
theorem dX6_merge_78 : decode cX6_merge 78 = .ok (.iconst 0, 1) := by decide +kernel
theorem dX6_merge_79 : decode cX6_merge 79 = .ok (.goto 4, 3) := by decide +kernel
theorem dX6_merge_82 : decode cX6_merge 82 = .ok (.iload_n 2, 1) := by decide +kernel
theorem dX6_merge_83 : decode cX6_merge 83 = .ok (.putfield 156, 3) := by decide +kernel
theorem dX6_merge_86 : decode cX6_merge 86 = .ok (.aload_n 0, 1) := by decide +kernel
theorem dX6_merge_87 : decode cX6_merge 87 = .ok (.getfield 50, 3) := by decide +kernel
theorem dX6_merge_90 : decode cX6_merge 90 = .ok (.iload_n 1, 1) := by decide +kernel
theorem dX6_merge_91 : decode cX6_merge 91 = .ok (.ifCond .ne 10, 3) := by decide +kernel
theorem dX6_merge_94 : decode cX6_merge 94 = .ok (.aload_n 3, 1) := by decide +kernel
theorem dX6_merge_95 : decode cX6_merge 95 = .ok (.invokevirtual 154, 3) := by decide +kernel
theorem dX6_merge_98 : decode cX6_merge 98 = .ok (.goto 6, 3) := by decide +kernel
theorem dX6_merge_101 : decode cX6_merge 101 = .ok (.iload_n 2, 1) := by decide +kernel
theorem dX6_merge_102 : decode cX6_merge 102 = .ok (.iconst 1, 1) := by decide +kernel
theorem dX6_merge_103 : decode cX6_merge 103 = .ok (.iadd, 1) := by decide +kernel
theorem dX6_merge_104 : decode cX6_merge 104 = .ok (.putfield 159, 3) := by decide +kernel
theorem dX6_merge_107 : decode cX6_merge 107 = .ok (.aload_n 0, 1) := by decide +kernel
theorem dX6_merge_108 : decode cX6_merge 108 = .ok (.getfield 50, 3) := by decide +kernel
theorem dX6_merge_111 : decode cX6_merge 111 = .ok (.aload 4, 2) := by decide +kernel
theorem dX6_merge_113 : decode cX6_merge 113 = .ok (.aload_n 3, 1) := by decide +kernel
theorem dX6_merge_114 : decode cX6_merge 114 = .ok (.aload_n 0, 1) := by decide +kernel
theorem dX6_merge_115 : decode cX6_merge 115 = .ok (.getfield 50, 3) := by decide +kernel
theorem dX6_merge_118 : decode cX6_merge 118 = .ok (.getfield 156, 3) := by decide +kernel
theorem dX6_merge_121 : decode cX6_merge 121 = .ok (.aload_n 0, 1) := by decide +kernel
theorem dX6_merge_122 : decode cX6_merge 122 = .ok (.getfield 50, 3) := by decide +kernel
theorem dX6_merge_125 : decode cX6_merge 125 = .ok (.getfield 159, 3) := by decide +kernel
theorem dX6_merge_128 : decode cX6_merge 128 = .ok (.invokevirtual 162, 3) := by decide +kernel
theorem dX6_merge_131 : decode cX6_merge 131 = .ok (.invokevirtual 165, 3) := by decide +kernel
theorem dX6_merge_134 : decode cX6_merge 134 = .ok (.putfield 118, 3) := by decide +kernel
theorem dX6_merge_137 : decode cX6_merge 137 = .ok (.aload_n 0, 1) := by decide +kernel
theorem dX6_merge_138 : decode cX6_merge 138 = .ok (.getfield 50, 3) := by decide +kernel
theorem dX6_merge_141 : decode cX6_merge 141 = .ok (.aload 4, 2) := by decide +kernel
theorem dX6_merge_143 : decode cX6_merge 143 = .ok (.aload_n 3, 1) := by decide +kernel
theorem dX6_merge_144 : decode cX6_merge 144 = .ok (.aload_n 0, 1) := by decide +kernel
theorem dX6_merge_145 : decode cX6_merge 145 = .ok (.getfield 50, 3) := by decide +kernel
theorem dX6_merge_148 : decode cX6_merge 148 = .ok (.getfield 156, 3) := by decide +kernel
theorem dX6_merge_151 : decode cX6_merge 151 = .ok (.aload_n 0, 1) := by decide +kernel
theorem dX6_merge_152 : decode cX6_merge 152 = .ok (.getfield 50, 3) := by decide +kernel
theorem dX6_merge_155 : decode cX6_merge 155 = .ok (.getfield 159, 3) := by decide +kernel
theorem dX6_merge_158 : decode cX6_merge 158 = .ok (.invokevirtual 168, 3) := by decide +kernel
theorem dX6_merge_161 : decode cX6_merge 161 = .ok (.invokevirtual 171, 3) := by decide +kernel
theorem dX6_merge_164 : decode cX6_merge 164 = .ok (.putfield 121, 3) := by decide +kernel
theorem dX6_merge_167 : decode cX6_merge 167 = .ok (.aload 4, 2) := by decide +kernel
theorem dX6_merge_169 : decode cX6_merge 169 = .ok (.aload_n 0, 1) := by decide +kernel
theorem dX6_merge_170 : decode cX6_merge 170 = .ok (.getfield 50, 3) := by decide +kernel
theorem dX6_merge_173 : decode cX6_merge 173 = .ok (.getfield 124, 3) := by decide +kernel
theorem dX6_merge_176 : decode cX6_merge 176 = .ok (.aload_n 0, 1) := by decide +kernel
theorem dX6_merge_177 : decode cX6_merge 177 = .ok (.getfield 50, 3) := by decide +kernel
theorem dX6_merge_180 : decode cX6_merge 180 = .ok (.getfield 118, 3) := by decide +kernel
theorem dX6_merge_183 : decode cX6_merge 183 = .ok (.aload_n 0, 1) := by decide +kernel
theorem dX6_merge_184 : decode cX6_merge 184 = .ok (.getfield 50, 3) := by decide +kernel
theorem dX6_merge_187 : decode cX6_merge 187 = .ok (.getfield 121, 3) := by decide +kernel
theorem dX6_merge_190 : decode cX6_merge 190 = .ok (.invokevirtual 174, 3) := by decide +kernel
theorem dX6_merge_193 : decode cX6_merge 193 = .ok (.aload_n 3, 1) := by decide +kernel
theorem dX6_merge_194 : decode cX6_merge 194 = .ok (.aload_n 0, 1) := by decide +kernel
theorem dX6_merge_195 : decode cX6_merge 195 = .ok (.getfield 50, 3) := by decide +kernel
theorem dX6_merge_198 : decode cX6_merge 198 = .ok (.getfield 124, 3) := by decide +kernel
theorem dX6_merge_201 : decode cX6_merge 201 = .ok (.aload_n 0, 1) := by decide +kernel
theorem dX6_merge_202 : decode cX6_merge 202 = .ok (.getfield 50, 3) := by decide +kernel
theorem dX6_merge_205 : decode cX6_merge 205 = .ok (.getfield 156, 3) := by decide +kernel
theorem dX6_merge_208 : decode cX6_merge 208 = .ok (.aload_n 0, 1) := by decide +kernel
theorem dX6_merge_209 : decode cX6_merge 209 = .ok (.getfield 50, 3) := by decide +kernel
theorem dX6_merge_212 : decode cX6_merge 212 = .ok (.getfield 159, 3) := by decide +kernel
theorem dX6_merge_215 : decode cX6_merge 215 = .ok (.invokevirtual 174, 3) := by decide +kernel
theorem dX6_merge_218 : decode cX6_merge 218 = .ok (.aload_n 0, 1) := by decide +kernel
theorem dX6_merge_219 : decode cX6_merge 219 = .ok (.getfield 50, 3) := by decide +kernel
theorem dX6_merge_222 : decode cX6_merge 222 = .ok (.aload_n 0, 1) := by decide +kernel
theorem dX6_merge_223 : decode cX6_merge 223 = .ok (.getfield 18, 3) := by decide +kernel
theorem dX6_merge_226 : decode cX6_merge 226 = .ok (.invokevirtual 139, 3) := by decide +kernel
theorem dX6_merge_229 : decode cX6_merge 229 = .ok (.aload_n 0, 1) := by decide +kernel
theorem dX6_merge_230 : decode cX6_merge 230 = .ok (.getfield 50, 3) := by decide +kernel
theorem dX6_merge_233 : decode cX6_merge 233 = .ok (.invokevirtual 143, 3) := by decide +kernel
theorem dX6_merge_236 : decode cX6_merge 236 = .ok (.ireturn, 1) := by decide +kernel
theorem dX6_work_0 : decode cX6_work 0 = .ok (.iload_n 1, 1) := by decide +kernel
theorem dX6_work_1 : decode cX6_work 1 = .ok (.iconst 1, 1) := by decide +kernel
theorem dX6_work_2 : decode cX6_work 2 = .ok (.if_icmp .lt 10, 3) := by decide +kernel
theorem dX6_work_5 : decode cX6_work 5 = .ok (.iload_n 1, 1) := by decide +kernel
theorem dX6_work_6 : decode cX6_work 6 = .ok (.sipush 500, 3) := by decide +kernel
theorem dX6_work_9 : decode cX6_work 9 = .ok (.if_icmp .le 6, 3) := by decide +kernel
theorem dX6_work_12 : decode cX6_work 12 = .ok (.ldc 60, 2) := by decide +kernel
theorem dX6_work_14 : decode cX6_work 14 = .ok (.ireturn, 1) := by decide +kernel
theorem dX6_work_15 : decode cX6_work 15 = .ok (.aload_n 0, 1) := by decide +kernel
theorem dX6_work_16 : decode cX6_work 16 = .ok (.getfield 50, 3) := by decide +kernel
theorem dX6_work_19 : decode cX6_work 19 = .ok (.getfield 108, 3) := by decide +kernel
theorem dX6_work_22 : decode cX6_work 22 = .ok (.ifCond .eq 13, 3) := by decide +kernel
theorem dX6_work_25 : decode cX6_work 25 = .ok (.aload_n 0, 1) := by decide +kernel
theorem dX6_work_26 : decode cX6_work 26 = .ok (.getfield 50, 3) := by decide +kernel
theorem dX6_work_29 : decode cX6_work 29 = .ok (.invokevirtual 143, 3) := by decide +kernel
theorem dX6_work_32 : decode cX6_work 32 = .ok (.ifCond .ne 6, 3) := by decide +kernel
theorem dX6_work_35 : decode cX6_work 35 = .ok (.ldc 107, 2) := by decide +kernel
theorem dX6_work_37 : decode cX6_work 37 = .ok (.ireturn, 1) := by decide +kernel
theorem dX6_work_38 : decode cX6_work 38 = .ok (.iconst 1, 1) := by decide +kernel
theorem dX6_work_39 : decode cX6_work 39 = .ok (.istore_n 2, 1) := by decide +kernel
theorem dX6_work_40 : decode cX6_work 40 = .ok (.iconst 0, 1) := by decide +kernel
theorem dX6_work_41 : decode cX6_work 41 = .ok (.istore_n 3, 1) := by decide +kernel
theorem dX6_work_42 : decode cX6_work 42 = .ok (.iload_n 3, 1) := by decide +kernel
theorem dX6_work_43 : decode cX6_work 43 = .ok (.iload_n 1, 1) := by decide +kernel
theorem dX6_work_44 : decode cX6_work 44 = .ok (.if_icmp .ge 28, 3) := by decide +kernel
theorem dX6_work_47 : decode cX6_work 47 = .ok (.iload_n 2, 1) := by decide +kernel
theorem dX6_work_48 : decode cX6_work 48 = .ok (.ifCond .eq 24, 3) := by decide +kernel
theorem dX6_work_51 : decode cX6_work 51 = .ok (.aload_n 0, 1) := by decide +kernel
theorem dX6_work_52 : decode cX6_work 52 = .ok (.getfield 50, 3) := by decide +kernel
theorem dX6_work_55 : decode cX6_work 55 = .ok (.invokevirtual 143, 3) := by decide +kernel
theorem dX6_work_58 : decode cX6_work 58 = .ok (.ifCond .le 14, 3) := by decide +kernel
theorem dX6_work_61 : decode cX6_work 61 = .ok (.aload_n 0, 1) := by decide +kernel
theorem dX6_work_62 : decode cX6_work 62 = .ok (.invokevirtual 178, 3) := by decide +kernel
theorem dX6_work_65 : decode cX6_work 65 = .ok (.istore_n 2, 1) := by decide +kernel
theorem dX6_work_66 : decode cX6_work 66 = .ok (.iinc 3 1, 3) := by decide +kernel
theorem dX6_work_69 : decode cX6_work 69 = .ok (.goto (-27), 3) := by decide +kernel
theorem dX6_work_72 : decode cX6_work 72 = .ok (.iload_n 2, 1) := by decide +kernel
theorem dX6_work_73 : decode cX6_work 73 = .ok (.ifCond .eq 18, 3) := by decide +kernel
theorem dX6_work_76 : decode cX6_work 76 = .ok (.aload_n 0, 1) := by decide +kernel
theorem dX6_work_77 : decode cX6_work 77 = .ok (.getfield 50, 3) := by decide +kernel
theorem dX6_work_80 : decode cX6_work 80 = .ok (.invokevirtual 143, 3) := by decide +kernel
theorem dX6_work_83 : decode cX6_work 83 = .ok (.ifCond .ne 8, 3) := by decide +kernel
theorem dX6_work_86 : decode cX6_work 86 = .ok (.aload_n 0, 1) := by decide +kernel
theorem dX6_work_87 : decode cX6_work 87 = .ok (.invokevirtual 182, 3) := by decide +kernel
theorem dX6_work_90 : decode cX6_work 90 = .ok (.istore_n 2, 1) := by decide +kernel
theorem dX6_work_91 : decode cX6_work 91 = .ok (.iload_n 2, 1) := by decide +kernel
theorem dX6_work_92 : decode cX6_work 92 = .ok (.ifCond .ne 11, 3) := by decide +kernel
theorem dX6_work_95 : decode cX6_work 95 = .ok (.aload_n 0, 1) := by decide +kernel
theorem dX6_work_96 : decode cX6_work 96 = .ok (.invokevirtual 73, 3) := by decide +kernel
theorem dX6_work_99 : decode cX6_work 99 = .ok (.pop, 1) := by decide +kernel
theorem dX6_work_100 : decode cX6_work 100 = .ok (.ldc 185, 2) := by decide +kernel
theorem dX6_work_102 : decode cX6_work 102 = .ok (.ireturn, 1) := by decide +kernel
theorem dX6_work_103 : decode cX6_work 103 = .ok (.aload_n 0, 1) := by decide +kernel
theorem dX6_work_104 : decode cX6_work 104 = .ok (.getfield 50, 3) := by decide +kernel
theorem dX6_work_107 : decode cX6_work 107 = .ok (.invokevirtual 143, 3) := by decide +kernel
theorem dX6_work_110 : decode cX6_work 110 = .ok (.ireturn, 1) := by decide +kernel
theorem dX6_install_0 : decode cX6_install 0 = .ok (.aload_n 0, 1) := by decide +kernel
theorem dX6_install_1 : decode cX6_install 1 = .ok (.getfield 50, 3) := by decide +kernel
theorem dX6_install_4 : decode cX6_install 4 = .ok (.getfield 108, 3) := by decide +kernel
theorem dX6_install_7 : decode cX6_install 7 = .ok (.ifCond .eq 13, 3) := by decide +kernel
theorem dX6_install_10 : decode cX6_install 10 = .ok (.aload_n 0, 1) := by decide +kernel
theorem dX6_install_11 : decode cX6_install 11 = .ok (.getfield 50, 3) := by decide +kernel
theorem dX6_install_14 : decode cX6_install 14 = .ok (.invokevirtual 143, 3) := by decide +kernel
theorem dX6_install_17 : decode cX6_install 17 = .ok (.ifCond .le 6, 3) := by decide +kernel
theorem dX6_install_20 : decode cX6_install 20 = .ok (.ldc 107, 2) := by decide +kernel
theorem dX6_install_22 : decode cX6_install 22 = .ok (.ireturn, 1) := by decide +kernel
theorem dX6_install_23 : decode cX6_install 23 = .ok (.aload_n 0, 1) := by decide +kernel
theorem dX6_install_24 : decode cX6_install 24 = .ok (.getfield 50, 3) := by decide +kernel
theorem dX6_install_27 : decode cX6_install 27 = .ok (.getfield 186, 3) := by decide +kernel
theorem dX6_install_30 : decode cX6_install 30 = .ok (.invokevirtual 154, 3) := by decide +kernel
theorem dX6_install_33 : decode cX6_install 33 = .ok (.istore_n 1, 1) := by decide +kernel
theorem dX6_install_34 : decode cX6_install 34 = .ok (.aload_n 0, 1) := by decide +kernel
theorem dX6_install_35 : decode cX6_install 35 = .ok (.aload_n 0, 1) := by decide +kernel
theorem dX6_install_36 : decode cX6_install 36 = .ok (.aload_n 0, 1) := by decide +kernel
theorem dX6_install_37 : decode cX6_install 37 = .ok (.getfield 50, 3) := by decide +kernel
theorem dX6_install_40 : decode cX6_install 40 = .ok (.getfield 189, 3) := by decide +kernel
theorem dX6_install_43 : decode cX6_install 43 = .ok (.invokevirtual 146, 3) := by decide +kernel
theorem dX6_install_46 : decode cX6_install 46 = .ok (.aload_n 0, 1) := by decide +kernel
theorem dX6_install_47 : decode cX6_install 47 = .ok (.getfield 50, 3) := by decide +kernel
theorem dX6_install_50 : decode cX6_install 50 = .ok (.getfield 156, 3) := by decide +kernel
theorem dX6_install_53 : decode cX6_install 53 = .ok (.aload_n 0, 1) := by decide +kernel
theorem dX6_install_54 : decode cX6_install 54 = .ok (.getfield 50, 3) := by decide +kernel
theorem dX6_install_57 : decode cX6_install 57 = .ok (.getfield 159, 3) := by decide +kernel
theorem dX6_install_60 : decode cX6_install 60 = .ok (.invokevirtual 192, 3) := by decide +kernel
theorem dX6_install_63 : decode cX6_install 63 = .ok (.aload_n 0, 1) := by decide +kernel
theorem dX6_install_64 : decode cX6_install 64 = .ok (.aload_n 0, 1) := by decide +kernel
theorem dX6_install_65 : decode cX6_install 65 = .ok (.getfield 50, 3) := by decide +kernel
theorem dX6_install_68 : decode cX6_install 68 = .ok (.getfield 196, 3) := by decide +kernel
theorem dX6_install_71 : decode cX6_install 71 = .ok (.invokevirtual 146, 3) := by decide +kernel
theorem dX6_install_74 : decode cX6_install 74 = .ok (.astore_n 2, 1) := by decide +kernel
theorem dX6_install_75 : decode cX6_install 75 = .ok (.aload_n 0, 1) := by decide +kernel
theorem dX6_install_76 : decode cX6_install 76 = .ok (.aload_n 2, 1) := by decide +kernel
theorem dX6_install_77 : decode cX6_install 77 = .ok (.aload_n 0, 1) := by decide +kernel
theorem dX6_install_78 : decode cX6_install 78 = .ok (.getfield 50, 3) := by decide +kernel
theorem dX6_install_81 : decode cX6_install 81 = .ok (.getfield 118, 3) := by decide +kernel
theorem dX6_install_84 : decode cX6_install 84 = .ok (.aload_n 0, 1) := by decide +kernel
theorem dX6_install_85 : decode cX6_install 85 = .ok (.getfield 50, 3) := by decide +kernel
theorem dX6_install_88 : decode cX6_install 88 = .ok (.getfield 121, 3) := by decide +kernel
theorem dX6_install_91 : decode cX6_install 91 = .ok (.invokevirtual 192, 3) := by decide +kernel
theorem dX6_install_94 : decode cX6_install 94 = .ok (.iconst 0, 1) := by decide +kernel
theorem dX6_install_95 : decode cX6_install 95 = .ok (.istore_n 3, 1) := by decide +kernel
theorem dX6_install_96 : decode cX6_install 96 = .ok (.iload_n 3, 1) := by decide +kernel
theorem dX6_install_97 : decode cX6_install 97 = .ok (.iload_n 1, 1) := by decide +kernel
theorem dX6_install_98 : decode cX6_install 98 = .ok (.if_icmp .ge 37, 3) := by decide +kernel
theorem dX6_install_101 : decode cX6_install 101 = .ok (.aload_n 2, 1) := by decide +kernel
theorem dX6_install_102 : decode cX6_install 102 = .ok (.ifnull 33, 3) := by decide +kernel
theorem dX6_install_105 : decode cX6_install 105 = .ok (.aload_n 2, 1) := by decide +kernel
theorem dX6_install_106 : decode cX6_install 106 = .ok (.aload_n 0, 1) := by decide +kernel
theorem dX6_install_107 : decode cX6_install 107 = .ok (.getfield 50, 3) := by decide +kernel
theorem dX6_install_110 : decode cX6_install 110 = .ok (.getfield 118, 3) := by decide +kernel
theorem dX6_install_113 : decode cX6_install 113 = .ok (.iload_n 3, 1) := by decide +kernel
theorem dX6_install_114 : decode cX6_install 114 = .ok (.iadd, 1) := by decide +kernel
theorem dX6_install_115 : decode cX6_install 115 = .ok (.aload_n 0, 1) := by decide +kernel
theorem dX6_install_116 : decode cX6_install 116 = .ok (.getfield 50, 3) := by decide +kernel
theorem dX6_install_119 : decode cX6_install 119 = .ok (.getfield 186, 3) := by decide +kernel
theorem dX6_install_122 : decode cX6_install 122 = .ok (.iload_n 3, 1) := by decide +kernel
theorem dX6_install_123 : decode cX6_install 123 = .ok (.invokevirtual 150, 3) := by decide +kernel
theorem dX6_install_126 : decode cX6_install 126 = .ok (.invokevirtual 199, 3) := by decide +kernel
theorem dX6_install_129 : decode cX6_install 129 = .ok (.iinc 3 1, 3) := by decide +kernel
theorem dX6_install_132 : decode cX6_install 132 = .ok (.goto (-36), 3) := by decide +kernel
theorem dX6_install_135 : decode cX6_install 135 = .ok (.aload_n 0, 1) := by decide +kernel
theorem dX6_install_136 : decode cX6_install 136 = .ok (.getfield 50, 3) := by decide +kernel
theorem dX6_install_139 : decode cX6_install 139 = .ok (.getfield 189, 3) := by decide +kernel
theorem dX6_install_142 : decode cX6_install 142 = .ok (.iconst (-1), 1) := by decide +kernel
theorem dX6_install_143 : decode cX6_install 143 = .ok (.if_icmp .ne 17, 3) := by decide +kernel
theorem dX6_install_146 : decode cX6_install 146 = .ok (.aload_n 0, 1) := by decide +kernel
theorem dX6_install_147 : decode cX6_install 147 = .ok (.aload_n 0, 1) := by decide +kernel
theorem dX6_install_148 : decode cX6_install 148 = .ok (.getfield 50, 3) := by decide +kernel
theorem dX6_install_151 : decode cX6_install 151 = .ok (.getfield 124, 3) := by decide +kernel
theorem dX6_install_154 : decode cX6_install 154 = .ok (.getfield 66, 3) := by decide +kernel
theorem dX6_install_157 : decode cX6_install 157 = .ok (.invokevirtual 202, 3) := by decide +kernel
theorem dX6_install_160 : decode cX6_install 160 = .ok (.aload_n 0, 1) := by decide +kernel
theorem dX6_install_161 : decode cX6_install 161 = .ok (.getfield 50, 3) := by decide +kernel
theorem dX6_install_164 : decode cX6_install 164 = .ok (.invokevirtual 205, 3) := by decide +kernel
theorem dX6_install_167 : decode cX6_install 167 = .ok (.iload_n 1, 1) := by decide +kernel
theorem dX6_install_168 : decode cX6_install 168 = .ok (.ireturn, 1) := by decide +kernel
theorem dX6_stop_0 : decode cX6_stop 0 = .ok (.aload_n 0, 1) := by decide +kernel
theorem dX6_stop_1 : decode cX6_stop 1 = .ok (.getfield 50, 3) := by decide +kernel
theorem dX6_stop_4 : decode cX6_stop 4 = .ok (.getfield 108, 3) := by decide +kernel
theorem dX6_stop_7 : decode cX6_stop 7 = .ok (.ifCond .ne 6, 3) := by decide +kernel
theorem dX6_stop_10 : decode cX6_stop 10 = .ok (.ldc 107, 2) := by decide +kernel
theorem dX6_stop_12 : decode cX6_stop 12 = .ok (.ireturn, 1) := by decide +kernel
theorem dX6_stop_13 : decode cX6_stop 13 = .ok (.aload_n 0, 1) := by decide +kernel
theorem dX6_stop_14 : decode cX6_stop 14 = .ok (.invokevirtual 73, 3) := by decide +kernel
theorem dX6_stop_17 : decode cX6_stop 17 = .ok (.ireturn, 1) := by decide +kernel
theorem dX6_high_0 : decode cX6_high 0 = .ok (.iconst 0, 1) := by decide +kernel
theorem dX6_high_1 : decode cX6_high 1 = .ok (.istore_n 1, 1) := by decide +kernel
theorem dX6_high_2 : decode cX6_high 2 = .ok (.iload_n 1, 1) := by decide +kernel
theorem dX6_high_3 : decode cX6_high 3 = .ok (.iconst 3, 1) := by decide +kernel
theorem dX6_high_4 : decode cX6_high 4 = .ok (.if_icmp .ge 32, 3) := by decide +kernel
theorem dX6_high_7 : decode cX6_high 7 = .ok (.iload_n 1, 1) := by decide +kernel
theorem dX6_high_8 : decode cX6_high 8 = .ok (.iconst 2, 1) := by decide +kernel
theorem dX6_high_9 : decode cX6_high 9 = .ok (.if_icmp .ne 8, 3) := by decide +kernel
theorem dX6_high_12 : decode cX6_high 12 = .ok (.bipush 6, 2) := by decide +kernel
theorem dX6_high_14 : decode cX6_high 14 = .ok (.goto 4, 3) := by decide +kernel
theorem dX6_high_17 : decode cX6_high 17 = .ok (.iconst 3, 1) := by decide +kernel
theorem dX6_high_18 : decode cX6_high 18 = .ok (.istore_n 2, 1) := by decide +kernel
theorem dX6_high_19 : decode cX6_high 19 = .ok (.aload_n 0, 1) := by decide +kernel
theorem dX6_high_20 : decode cX6_high 20 = .ok (.iload_n 1, 1) := by decide +kernel
theorem dX6_high_21 : decode cX6_high 21 = .ok (.invokevirtual 115, 3) := by decide +kernel
theorem dX6_high_24 : decode cX6_high 24 = .ok (.iload_n 2, 1) := by decide +kernel
theorem dX6_high_25 : decode cX6_high 25 = .ok (.if_icmp .le 5, 3) := by decide +kernel
theorem dX6_high_28 : decode cX6_high 28 = .ok (.iload_n 1, 1) := by decide +kernel
theorem dX6_high_29 : decode cX6_high 29 = .ok (.ireturn, 1) := by decide +kernel
theorem dX6_high_30 : decode cX6_high 30 = .ok (.iinc 1 1, 3) := by decide +kernel
theorem dX6_high_33 : decode cX6_high 33 = .ok (.goto (-31), 3) := by decide +kernel
theorem dX6_high_36 : decode cX6_high 36 = .ok (.ldc 65, 2) := by decide +kernel
theorem dX6_high_38 : decode cX6_high 38 = .ok (.ireturn, 1) := by decide +kernel
theorem dX6_files_0 : decode cX6_files 0 = .ok (.aload_n 0, 1) := by decide +kernel
theorem dX6_files_1 : decode cX6_files 1 = .ok (.iload_n 1, 1) := by decide +kernel
end
section
theorem dX6_files_2 : decode cX6_files 2 = .ok (.invokevirtual 146, 3) := by decide +kernel
theorem dX6_files_5 : decode cX6_files 5 = .ok (.astore_n 2, 1) := by decide +kernel
theorem dX6_files_6 : decode cX6_files 6 = .ok (.aload_n 2, 1) := by decide +kernel
theorem dX6_files_7 : decode cX6_files 7 = .ok (.ifnonnull 8, 3) := by decide +kernel
theorem dX6_files_10 : decode cX6_files 10 = .ok (.ldc 89, 2) := by decide +kernel
theorem dX6_files_12 : decode cX6_files 12 = .ok (.goto 7, 3) := by decide +kernel
theorem dX6_files_15 : decode cX6_files 15 = .ok (.aload_n 2, 1) := by decide +kernel
theorem dX6_files_16 : decode cX6_files 16 = .ok (.invokevirtual 154, 3) := by decide +kernel
theorem dX6_files_19 : decode cX6_files 19 = .ok (.ireturn, 1) := by decide +kernel
theorem dX6_file_0 : decode cX6_file 0 = .ok (.aload_n 0, 1) := by decide +kernel
theorem dX6_file_1 : decode cX6_file 1 = .ok (.iload_n 1, 1) := by decide +kernel
theorem dX6_file_2 : decode cX6_file 2 = .ok (.iload_n 2, 1) := by decide +kernel
theorem dX6_file_3 : decode cX6_file 3 = .ok (.invokevirtual 208, 3) := by decide +kernel
theorem dX6_file_6 : decode cX6_file 6 = .ok (.astore 4, 2) := by decide +kernel
theorem dX6_file_8 : decode cX6_file 8 = .ok (.aload 4, 2) := by decide +kernel
theorem dX6_file_10 : decode cX6_file 10 = .ok (.ifnonnull 6, 3) := by decide +kernel
theorem dX6_file_13 : decode cX6_file 13 = .ok (.ldc 89, 2) := by decide +kernel
theorem dX6_file_15 : decode cX6_file 15 = .ok (.ireturn, 1) := by decide +kernel
theorem dX6_file_16 : decode cX6_file 16 = .ok (.iload_n 3, 1) := by decide +kernel
theorem dX6_file_17 : decode cX6_file 17 = .ok (.tableswitch 78 0 5 #[39, 45, 54, 60, 66, 72], 39) := by decide +kernel
theorem dX6_file_56 : decode cX6_file 56 = .ok (.aload 4, 2) := by decide +kernel
theorem dX6_file_58 : decode cX6_file 58 = .ok (.getfield 212, 3) := by decide +kernel
theorem dX6_file_61 : decode cX6_file 61 = .ok (.ireturn, 1) := by decide +kernel
theorem dX6_file_62 : decode cX6_file 62 = .ok (.aload 4, 2) := by decide +kernel
theorem dX6_file_64 : decode cX6_file 64 = .ok (.getfield 216, 3) := by decide +kernel
theorem dX6_file_67 : decode cX6_file 67 = .ok (.getfield 66, 3) := by decide +kernel
theorem dX6_file_70 : decode cX6_file 70 = .ok (.ireturn, 1) := by decide +kernel
theorem dX6_file_71 : decode cX6_file 71 = .ok (.aload 4, 2) := by decide +kernel
theorem dX6_file_73 : decode cX6_file 73 = .ok (.invokevirtual 219, 3) := by decide +kernel
theorem dX6_file_76 : decode cX6_file 76 = .ok (.ireturn, 1) := by decide +kernel
theorem dX6_file_77 : decode cX6_file 77 = .ok (.aload 4, 2) := by decide +kernel
theorem dX6_file_79 : decode cX6_file 79 = .ok (.invokevirtual 221, 3) := by decide +kernel
theorem dX6_file_82 : decode cX6_file 82 = .ok (.ireturn, 1) := by decide +kernel
theorem dX6_file_83 : decode cX6_file 83 = .ok (.aload 4, 2) := by decide +kernel
theorem dX6_file_85 : decode cX6_file 85 = .ok (.getfield 223, 3) := by decide +kernel
theorem dX6_file_88 : decode cX6_file 88 = .ok (.ireturn, 1) := by decide +kernel
theorem dX6_file_89 : decode cX6_file 89 = .ok (.aload 4, 2) := by decide +kernel
theorem dX6_file_91 : decode cX6_file 91 = .ok (.getfield 226, 3) := by decide +kernel
theorem dX6_file_94 : decode cX6_file 94 = .ok (.ireturn, 1) := by decide +kernel
theorem dX6_file_95 : decode cX6_file 95 = .ok (.ldc 60, 2) := by decide +kernel
theorem dX6_file_97 : decode cX6_file 97 = .ok (.ireturn, 1) := by decide +kernel
theorem dX6_entry_0 : decode cX6_entry 0 = .ok (.aload_n 0, 1) := by decide +kernel
theorem dX6_entry_1 : decode cX6_entry 1 = .ok (.iload_n 1, 1) := by decide +kernel
theorem dX6_entry_2 : decode cX6_entry 2 = .ok (.iload_n 2, 1) := by decide +kernel
theorem dX6_entry_3 : decode cX6_entry 3 = .ok (.invokevirtual 208, 3) := by decide +kernel
theorem dX6_entry_6 : decode cX6_entry 6 = .ok (.astore 5, 2) := by decide +kernel
theorem dX6_entry_8 : decode cX6_entry 8 = .ok (.aload 5, 2) := by decide +kernel
theorem dX6_entry_10 : decode cX6_entry 10 = .ok (.ifnonnull 8, 3) := by decide +kernel
theorem dX6_entry_13 : decode cX6_entry 13 = .ok (.ldc 89, 2) := by decide +kernel
theorem dX6_entry_15 : decode cX6_entry 15 = .ok (.goto 14, 3) := by decide +kernel
theorem dX6_entry_18 : decode cX6_entry 18 = .ok (.aload 5, 2) := by decide +kernel
theorem dX6_entry_20 : decode cX6_entry 20 = .ok (.getfield 216, 3) := by decide +kernel
theorem dX6_entry_23 : decode cX6_entry 23 = .ok (.iload_n 3, 1) := by decide +kernel
theorem dX6_entry_24 : decode cX6_entry 24 = .ok (.iload 4, 2) := by decide +kernel
theorem dX6_entry_26 : decode cX6_entry 26 = .ok (.invokevirtual 229, 3) := by decide +kernel
theorem dX6_entry_29 : decode cX6_entry 29 = .ok (.ireturn, 1) := by decide +kernel
theorem dX6_byteAt_0 : decode cX6_byteAt 0 = .ok (.aload_n 0, 1) := by decide +kernel
theorem dX6_byteAt_1 : decode cX6_byteAt 1 = .ok (.getfield 36, 3) := by decide +kernel
theorem dX6_byteAt_4 : decode cX6_byteAt 4 = .ok (.iload_n 1, 1) := by decide +kernel
theorem dX6_byteAt_5 : decode cX6_byteAt 5 = .ok (.invokevirtual 232, 3) := by decide +kernel
theorem dX6_byteAt_8 : decode cX6_byteAt 8 = .ok (.ifCond .eq 15, 3) := by decide +kernel
theorem dX6_byteAt_11 : decode cX6_byteAt 11 = .ok (.aload_n 0, 1) := by decide +kernel
theorem dX6_byteAt_12 : decode cX6_byteAt 12 = .ok (.getfield 36, 3) := by decide +kernel
theorem dX6_byteAt_15 : decode cX6_byteAt 15 = .ok (.getfield 235, 3) := by decide +kernel
theorem dX6_byteAt_18 : decode cX6_byteAt 18 = .ok (.iload_n 1, 1) := by decide +kernel
theorem dX6_byteAt_19 : decode cX6_byteAt 19 = .ok (.iaload, 1) := by decide +kernel
theorem dX6_byteAt_20 : decode cX6_byteAt 20 = .ok (.goto 5, 3) := by decide +kernel
theorem dX6_byteAt_23 : decode cX6_byteAt 23 = .ok (.ldc 60, 2) := by decide +kernel
theorem dX6_byteAt_25 : decode cX6_byteAt 25 = .ok (.ireturn, 1) := by decide +kernel
theorem dX6_log_0 : decode cX6_log 0 = .ok (.aload_n 0, 1) := by decide +kernel
theorem dX6_log_1 : decode cX6_log 1 = .ok (.getfield 14, 3) := by decide +kernel
theorem dX6_log_4 : decode cX6_log 4 = .ok (.iload_n 1, 1) := by decide +kernel
theorem dX6_log_5 : decode cX6_log 5 = .ok (.iload_n 2, 1) := by decide +kernel
theorem dX6_log_6 : decode cX6_log 6 = .ok (.invokevirtual 229, 3) := by decide +kernel
theorem dX6_log_9 : decode cX6_log 9 = .ok (.ireturn, 1) := by decide +kernel
theorem dX6_count_0 : decode cX6_count 0 = .ok (.iload_n 1, 1) := by decide +kernel
theorem dX6_count_1 : decode cX6_count 1 = .ok (.tableswitch 123 0 8 #[51, 59, 64, 69, 74, 79, 102, 113, 118], 51) := by decide +kernel
theorem dX6_count_52 : decode cX6_count 52 = .ok (.aload_n 0, 1) := by decide +kernel
theorem dX6_count_53 : decode cX6_count 53 = .ok (.getfield 14, 3) := by decide +kernel
theorem dX6_count_56 : decode cX6_count 56 = .ok (.getfield 66, 3) := by decide +kernel
theorem dX6_count_59 : decode cX6_count 59 = .ok (.ireturn, 1) := by decide +kernel
theorem dX6_count_60 : decode cX6_count 60 = .ok (.aload_n 0, 1) := by decide +kernel
theorem dX6_count_61 : decode cX6_count 61 = .ok (.getfield 70, 3) := by decide +kernel
theorem dX6_count_64 : decode cX6_count 64 = .ok (.ireturn, 1) := by decide +kernel
theorem dX6_count_65 : decode cX6_count 65 = .ok (.aload_n 0, 1) := by decide +kernel
theorem dX6_count_66 : decode cX6_count 66 = .ok (.getfield 80, 3) := by decide +kernel
theorem dX6_count_69 : decode cX6_count 69 = .ok (.ireturn, 1) := by decide +kernel
theorem dX6_count_70 : decode cX6_count 70 = .ok (.aload_n 0, 1) := by decide +kernel
theorem dX6_count_71 : decode cX6_count 71 = .ok (.invokevirtual 238, 3) := by decide +kernel
theorem dX6_count_74 : decode cX6_count 74 = .ok (.ireturn, 1) := by decide +kernel
theorem dX6_count_75 : decode cX6_count 75 = .ok (.aload_n 0, 1) := by decide +kernel
theorem dX6_count_76 : decode cX6_count 76 = .ok (.invokevirtual 241, 3) := by decide +kernel
theorem dX6_count_79 : decode cX6_count 79 = .ok (.ireturn, 1) := by decide +kernel
theorem dX6_count_80 : decode cX6_count 80 = .ok (.aload_n 0, 1) := by decide +kernel
theorem dX6_count_81 : decode cX6_count 81 = .ok (.getfield 50, 3) := by decide +kernel
theorem dX6_count_84 : decode cX6_count 84 = .ok (.getfield 108, 3) := by decide +kernel
theorem dX6_count_87 : decode cX6_count 87 = .ok (.ifCond .eq 13, 3) := by decide +kernel
theorem dX6_count_90 : decode cX6_count 90 = .ok (.aload_n 0, 1) := by decide +kernel
theorem dX6_count_91 : decode cX6_count 91 = .ok (.getfield 50, 3) := by decide +kernel
theorem dX6_count_94 : decode cX6_count 94 = .ok (.invokevirtual 143, 3) := by decide +kernel
theorem dX6_count_97 : decode cX6_count 97 = .ok (.goto 5, 3) := by decide +kernel
theorem dX6_count_100 : decode cX6_count 100 = .ok (.ldc 65, 2) := by decide +kernel
theorem dX6_count_102 : decode cX6_count 102 = .ok (.ireturn, 1) := by decide +kernel
theorem dX6_count_103 : decode cX6_count 103 = .ok (.aload_n 0, 1) := by decide +kernel
theorem dX6_count_104 : decode cX6_count 104 = .ok (.getfield 50, 3) := by decide +kernel
theorem dX6_count_107 : decode cX6_count 107 = .ok (.getfield 186, 3) := by decide +kernel
theorem dX6_count_110 : decode cX6_count 110 = .ok (.invokevirtual 154, 3) := by decide +kernel
theorem dX6_count_113 : decode cX6_count 113 = .ok (.ireturn, 1) := by decide +kernel
theorem dX6_count_114 : decode cX6_count 114 = .ok (.aload_n 0, 1) := by decide +kernel
theorem dX6_count_115 : decode cX6_count 115 = .ok (.getfield 244, 3) := by decide +kernel
theorem dX6_count_118 : decode cX6_count 118 = .ok (.ireturn, 1) := by decide +kernel
theorem dX6_count_119 : decode cX6_count 119 = .ok (.aload_n 0, 1) := by decide +kernel
theorem dX6_count_120 : decode cX6_count 120 = .ok (.invokevirtual 247, 3) := by decide +kernel
theorem dX6_count_123 : decode cX6_count 123 = .ok (.ireturn, 1) := by decide +kernel
theorem dX6_count_124 : decode cX6_count 124 = .ok (.ldc 60, 2) := by decide +kernel
theorem dX6_count_126 : decode cX6_count 126 = .ok (.ireturn, 1) := by decide +kernel
theorem dX6_check_0 : decode cX6_check 0 = .ok (.iconst 0, 1) := by decide +kernel
theorem dX6_check_1 : decode cX6_check 1 = .ok (.istore_n 1, 1) := by decide +kernel
theorem dX6_check_2 : decode cX6_check 2 = .ok (.aload_n 0, 1) := by decide +kernel
theorem dX6_check_3 : decode cX6_check 3 = .ok (.getfield 25, 3) := by decide +kernel
theorem dX6_check_6 : decode cX6_check 6 = .ok (.astore_n 2, 1) := by decide +kernel
theorem dX6_check_7 : decode cX6_check 7 = .ok (.aload_n 2, 1) := by decide +kernel
theorem dX6_check_8 : decode cX6_check 8 = .ok (.arraylength, 1) := by decide +kernel
theorem dX6_check_9 : decode cX6_check 9 = .ok (.istore_n 3, 1) := by decide +kernel
theorem dX6_check_10 : decode cX6_check 10 = .ok (.iconst 0, 1) := by decide +kernel
theorem dX6_check_11 : decode cX6_check 11 = .ok (.istore 4, 2) := by decide +kernel
theorem dX6_check_13 : decode cX6_check 13 = .ok (.iload 4, 2) := by decide +kernel
theorem dX6_check_15 : decode cX6_check 15 = .ok (.iload_n 3, 1) := by decide +kernel
theorem dX6_check_16 : decode cX6_check 16 = .ok (.if_icmp .ge 63, 3) := by decide +kernel
theorem dX6_check_19 : decode cX6_check 19 = .ok (.aload_n 2, 1) := by decide +kernel
theorem dX6_check_20 : decode cX6_check 20 = .ok (.iload 4, 2) := by decide +kernel
theorem dX6_check_22 : decode cX6_check 22 = .ok (.aaload, 1) := by decide +kernel
theorem dX6_check_23 : decode cX6_check 23 = .ok (.astore 5, 2) := by decide +kernel
theorem dX6_check_25 : decode cX6_check 25 = .ok (.iconst 0, 1) := by decide +kernel
theorem dX6_check_26 : decode cX6_check 26 = .ok (.istore 6, 2) := by decide +kernel
theorem dX6_check_28 : decode cX6_check 28 = .ok (.iload 6, 2) := by decide +kernel
theorem dX6_check_30 : decode cX6_check 30 = .ok (.aload 5, 2) := by decide +kernel
theorem dX6_check_32 : decode cX6_check 32 = .ok (.invokevirtual 154, 3) := by decide +kernel
theorem dX6_check_35 : decode cX6_check 35 = .ok (.if_icmp .ge 38, 3) := by decide +kernel
theorem dX6_check_38 : decode cX6_check 38 = .ok (.aload 5, 2) := by decide +kernel
theorem dX6_check_40 : decode cX6_check 40 = .ok (.iload 6, 2) := by decide +kernel
theorem dX6_check_42 : decode cX6_check 42 = .ok (.invokevirtual 150, 3) := by decide +kernel
theorem dX6_check_45 : decode cX6_check 45 = .ok (.astore 7, 2) := by decide +kernel
theorem dX6_check_47 : decode cX6_check 47 = .ok (.aload 7, 2) := by decide +kernel
theorem dX6_check_49 : decode cX6_check 49 = .ok (.ifnull 18, 3) := by decide +kernel
theorem dX6_check_52 : decode cX6_check 52 = .ok (.aload_n 0, 1) := by decide +kernel
theorem dX6_check_53 : decode cX6_check 53 = .ok (.getfield 36, 3) := by decide +kernel
theorem dX6_check_56 : decode cX6_check 56 = .ok (.aload 7, 2) := by decide +kernel
theorem dX6_check_58 : decode cX6_check 58 = .ok (.invokevirtual 250, 3) := by decide +kernel
theorem dX6_check_61 : decode cX6_check 61 = .ok (.ifCond .ne 6, 3) := by decide +kernel
theorem dX6_check_64 : decode cX6_check 64 = .ok (.iinc 1 1, 3) := by decide +kernel
theorem dX6_check_67 : decode cX6_check 67 = .ok (.iinc 6 1, 3) := by decide +kernel
theorem dX6_check_70 : decode cX6_check 70 = .ok (.goto (-42), 3) := by decide +kernel
theorem dX6_check_73 : decode cX6_check 73 = .ok (.iinc 4 1, 3) := by decide +kernel
theorem dX6_check_76 : decode cX6_check 76 = .ok (.goto (-63), 3) := by decide +kernel
theorem dX6_check_79 : decode cX6_check 79 = .ok (.iload_n 1, 1) := by decide +kernel
theorem dX6_check_80 : decode cX6_check 80 = .ok (.ireturn, 1) := by decide +kernel
theorem dX6_isKey_0 : decode cX6_isKey 0 = .ok (.iload_n 0, 1) := by decide +kernel
theorem dX6_isKey_1 : decode cX6_isKey 1 = .ok (.ifCond .lt 14, 3) := by decide +kernel
theorem dX6_isKey_4 : decode cX6_isKey 4 = .ok (.iload_n 0, 1) := by decide +kernel
theorem dX6_isKey_5 : decode cX6_isKey 5 = .ok (.sipush 1000, 3) := by decide +kernel
theorem dX6_isKey_8 : decode cX6_isKey 8 = .ok (.if_icmp .ge 7, 3) := by decide +kernel
theorem dX6_isKey_11 : decode cX6_isKey 11 = .ok (.iconst 1, 1) := by decide +kernel
theorem dX6_isKey_12 : decode cX6_isKey 12 = .ok (.goto 4, 3) := by decide +kernel
theorem dX6_isKey_15 : decode cX6_isKey 15 = .ok (.iconst 0, 1) := by decide +kernel
theorem dX6_isKey_16 : decode cX6_isKey 16 = .ok (.ireturn, 1) := by decide +kernel
theorem dX6_write_0 : decode cX6_write 0 = .ok (.aload_n 0, 1) := by decide +kernel
theorem dX6_write_1 : decode cX6_write 1 = .ok (.getfield 14, 3) := by decide +kernel
theorem dX6_write_4 : decode cX6_write 4 = .ok (.getfield 66, 3) := by decide +kernel
theorem dX6_write_7 : decode cX6_write 7 = .ok (.bipush 24, 2) := by decide +kernel
theorem dX6_write_9 : decode cX6_write 9 = .ok (.if_icmp .ge 12, 3) := by decide +kernel
theorem dX6_write_12 : decode cX6_write 12 = .ok (.aload_n 0, 1) := by decide +kernel
theorem dX6_write_13 : decode cX6_write 13 = .ok (.getfield 80, 3) := by decide +kernel
theorem dX6_write_16 : decode cX6_write 16 = .ok (.ldc 254, 2) := by decide +kernel
theorem dX6_write_18 : decode cX6_write 18 = .ok (.if_icmp .lt 6, 3) := by decide +kernel
theorem dX6_write_21 : decode cX6_write 21 = .ok (.ldc 185, 2) := by decide +kernel
theorem dX6_write_23 : decode cX6_write 23 = .ok (.ireturn, 1) := by decide +kernel
theorem dX6_write_24 : decode cX6_write 24 = .ok (.aload_n 0, 1) := by decide +kernel
theorem dX6_write_25 : decode cX6_write 25 = .ok (.dup, 1) := by decide +kernel
theorem dX6_write_26 : decode cX6_write 26 = .ok (.getfield 80, 3) := by decide +kernel
theorem dX6_write_29 : decode cX6_write 29 = .ok (.iconst 1, 1) := by decide +kernel
theorem dX6_write_30 : decode cX6_write 30 = .ok (.iadd, 1) := by decide +kernel
theorem dX6_write_31 : decode cX6_write 31 = .ok (.putfield 80, 3) := by decide +kernel
theorem dX6_write_34 : decode cX6_write 34 = .ok (.aload_n 0, 1) := by decide +kernel
theorem dX6_write_35 : decode cX6_write 35 = .ok (.getfield 14, 3) := by decide +kernel
theorem dX6_write_38 : decode cX6_write 38 = .ok (.iload_n 1, 1) := by decide +kernel
theorem dX6_write_39 : decode cX6_write 39 = .ok (.aload_n 0, 1) := by decide +kernel
theorem dX6_write_40 : decode cX6_write 40 = .ok (.getfield 80, 3) := by decide +kernel
theorem dX6_write_43 : decode cX6_write 43 = .ok (.iload_n 2, 1) := by decide +kernel
theorem dX6_write_44 : decode cX6_write 44 = .ok (.invokevirtual 255, 3) := by decide +kernel
theorem dX6_write_47 : decode cX6_write 47 = .ok (.aload_n 0, 1) := by decide +kernel
theorem dX6_write_48 : decode cX6_write 48 = .ok (.getfield 80, 3) := by decide +kernel
theorem dX6_write_51 : decode cX6_write 51 = .ok (.ireturn, 1) := by decide +kernel
theorem dX6_loseFirstLogged_0 : decode cX6_loseFirstLogged 0 = .ok (.aload_n 0, 1) := by decide +kernel
theorem dX6_loseFirstLogged_1 : decode cX6_loseFirstLogged 1 = .ok (.getfield 14, 3) := by decide +kernel
theorem dX6_loseFirstLogged_4 : decode cX6_loseFirstLogged 4 = .ok (.iload_n 1, 1) := by decide +kernel
theorem dX6_loseFirstLogged_5 : decode cX6_loseFirstLogged 5 = .ok (.invokevirtual 258, 3) := by decide +kernel
theorem dX6_loseFirstLogged_8 : decode cX6_loseFirstLogged 8 = .ok (.aload_n 0, 1) := by decide +kernel
theorem dX6_loseFirstLogged_9 : decode cX6_loseFirstLogged 9 = .ok (.iconst 0, 1) := by decide +kernel
theorem dX6_loseFirstLogged_10 : decode cX6_loseFirstLogged 10 = .ok (.aload_n 0, 1) := by decide +kernel
theorem dX6_loseFirstLogged_11 : decode cX6_loseFirstLogged 11 = .ok (.getfield 70, 3) := by decide +kernel
theorem dX6_loseFirstLogged_14 : decode cX6_loseFirstLogged 14 = .ok (.iload_n 1, 1) := by decide +kernel
theorem dX6_loseFirstLogged_15 : decode cX6_loseFirstLogged 15 = .ok (.isub, 1) := by decide +kernel
theorem dX6_loseFirstLogged_16 : decode cX6_loseFirstLogged 16 = .ok (.invokestatic 261, 3) := by decide +kernel
theorem dX6_loseFirstLogged_19 : decode cX6_loseFirstLogged 19 = .ok (.putfield 70, 3) := by decide +kernel
theorem dX6_loseFirstLogged_22 : decode cX6_loseFirstLogged 22 = .ok (.return_, 1) := by decide +kernel
theorem dX6_greatestNumberLeft_0 : decode cX6_greatestNumberLeft 0 = .ok (.aload_n 0, 1) := by decide +kernel
theorem dX6_greatestNumberLeft_1 : decode cX6_greatestNumberLeft 1 = .ok (.getfield 14, 3) := by decide +kernel
theorem dX6_greatestNumberLeft_4 : decode cX6_greatestNumberLeft 4 = .ok (.invokevirtual 266, 3) := by decide +kernel
theorem dX6_greatestNumberLeft_7 : decode cX6_greatestNumberLeft 7 = .ok (.istore_n 1, 1) := by decide +kernel
theorem dX6_greatestNumberLeft_8 : decode cX6_greatestNumberLeft 8 = .ok (.aload_n 0, 1) := by decide +kernel
theorem dX6_greatestNumberLeft_9 : decode cX6_greatestNumberLeft 9 = .ok (.getfield 25, 3) := by decide +kernel
theorem dX6_greatestNumberLeft_12 : decode cX6_greatestNumberLeft 12 = .ok (.astore_n 2, 1) := by decide +kernel
theorem dX6_greatestNumberLeft_13 : decode cX6_greatestNumberLeft 13 = .ok (.aload_n 2, 1) := by decide +kernel
theorem dX6_greatestNumberLeft_14 : decode cX6_greatestNumberLeft 14 = .ok (.arraylength, 1) := by decide +kernel
theorem dX6_greatestNumberLeft_15 : decode cX6_greatestNumberLeft 15 = .ok (.istore_n 3, 1) := by decide +kernel
theorem dX6_greatestNumberLeft_16 : decode cX6_greatestNumberLeft 16 = .ok (.iconst 0, 1) := by decide +kernel
theorem dX6_greatestNumberLeft_17 : decode cX6_greatestNumberLeft 17 = .ok (.istore 4, 2) := by decide +kernel
theorem dX6_greatestNumberLeft_19 : decode cX6_greatestNumberLeft 19 = .ok (.iload 4, 2) := by decide +kernel
theorem dX6_greatestNumberLeft_21 : decode cX6_greatestNumberLeft 21 = .ok (.iload_n 3, 1) := by decide +kernel
theorem dX6_greatestNumberLeft_22 : decode cX6_greatestNumberLeft 22 = .ok (.if_icmp .ge 25, 3) := by decide +kernel
theorem dX6_greatestNumberLeft_25 : decode cX6_greatestNumberLeft 25 = .ok (.aload_n 2, 1) := by decide +kernel
theorem dX6_greatestNumberLeft_26 : decode cX6_greatestNumberLeft 26 = .ok (.iload 4, 2) := by decide +kernel
theorem dX6_greatestNumberLeft_28 : decode cX6_greatestNumberLeft 28 = .ok (.aaload, 1) := by decide +kernel
theorem dX6_greatestNumberLeft_29 : decode cX6_greatestNumberLeft 29 = .ok (.astore 5, 2) := by decide +kernel
theorem dX6_greatestNumberLeft_31 : decode cX6_greatestNumberLeft 31 = .ok (.iload_n 1, 1) := by decide +kernel
theorem dX6_greatestNumberLeft_32 : decode cX6_greatestNumberLeft 32 = .ok (.aload 5, 2) := by decide +kernel
theorem dX6_greatestNumberLeft_34 : decode cX6_greatestNumberLeft 34 = .ok (.invokevirtual 269, 3) := by decide +kernel
theorem dX6_greatestNumberLeft_37 : decode cX6_greatestNumberLeft 37 = .ok (.invokestatic 261, 3) := by decide +kernel
theorem dX6_greatestNumberLeft_40 : decode cX6_greatestNumberLeft 40 = .ok (.istore_n 1, 1) := by decide +kernel
theorem dX6_greatestNumberLeft_41 : decode cX6_greatestNumberLeft 41 = .ok (.iinc 4 1, 3) := by decide +kernel
theorem dX6_greatestNumberLeft_44 : decode cX6_greatestNumberLeft 44 = .ok (.goto (-25), 3) := by decide +kernel
theorem dX6_greatestNumberLeft_47 : decode cX6_greatestNumberLeft 47 = .ok (.iload_n 1, 1) := by decide +kernel
theorem dX6_greatestNumberLeft_48 : decode cX6_greatestNumberLeft 48 = .ok (.ireturn, 1) := by decide +kernel
theorem dX6_isView_0 : decode cX6_isView 0 = .ok (.iload_n 1, 1) := by decide +kernel
theorem dX6_isView_1 : decode cX6_isView 1 = .ok (.ifCond .lt 16, 3) := by decide +kernel
theorem dX6_isView_4 : decode cX6_isView 4 = .ok (.iload_n 1, 1) := by decide +kernel
theorem dX6_isView_5 : decode cX6_isView 5 = .ok (.aload_n 0, 1) := by decide +kernel
theorem dX6_isView_6 : decode cX6_isView 6 = .ok (.getfield 18, 3) := by decide +kernel
theorem dX6_isView_9 : decode cX6_isView 9 = .ok (.arraylength, 1) := by decide +kernel
theorem dX6_isView_10 : decode cX6_isView 10 = .ok (.if_icmp .ge 7, 3) := by decide +kernel
theorem dX6_isView_13 : decode cX6_isView 13 = .ok (.iconst 1, 1) := by decide +kernel
theorem dX6_isView_14 : decode cX6_isView 14 = .ok (.goto 4, 3) := by decide +kernel
theorem dX6_isView_17 : decode cX6_isView 17 = .ok (.iconst 0, 1) := by decide +kernel
theorem dX6_isView_18 : decode cX6_isView 18 = .ok (.ireturn, 1) := by decide +kernel
theorem dX6_numberOfView_0 : decode cX6_numberOfView 0 = .ok (.aload_n 0, 1) := by decide +kernel
theorem dX6_numberOfView_1 : decode cX6_numberOfView 1 = .ok (.iload_n 1, 1) := by decide +kernel
theorem dX6_numberOfView_2 : decode cX6_numberOfView 2 = .ok (.invokevirtual 104, 3) := by decide +kernel
theorem dX6_numberOfView_5 : decode cX6_numberOfView 5 = .ok (.ifCond .eq 12, 3) := by decide +kernel
theorem dX6_numberOfView_8 : decode cX6_numberOfView 8 = .ok (.aload_n 0, 1) := by decide +kernel
theorem dX6_numberOfView_9 : decode cX6_numberOfView 9 = .ok (.getfield 18, 3) := by decide +kernel
theorem dX6_numberOfView_12 : decode cX6_numberOfView 12 = .ok (.iload_n 1, 1) := by decide +kernel
theorem dX6_numberOfView_13 : decode cX6_numberOfView 13 = .ok (.iaload, 1) := by decide +kernel
theorem dX6_numberOfView_14 : decode cX6_numberOfView 14 = .ok (.goto 4, 3) := by decide +kernel
theorem dX6_numberOfView_17 : decode cX6_numberOfView 17 = .ok (.iconst (-1), 1) := by decide +kernel
theorem dX6_numberOfView_18 : decode cX6_numberOfView 18 = .ok (.ireturn, 1) := by decide +kernel
theorem dX6_isHeld_0 : decode cX6_isHeld 0 = .ok (.aload_n 0, 1) := by decide +kernel
theorem dX6_isHeld_1 : decode cX6_isHeld 1 = .ok (.iload_n 1, 1) := by decide +kernel
theorem dX6_isHeld_2 : decode cX6_isHeld 2 = .ok (.invokevirtual 90, 3) := by decide +kernel
theorem dX6_isHeld_5 : decode cX6_isHeld 5 = .ok (.iconst (-1), 1) := by decide +kernel
theorem dX6_isHeld_6 : decode cX6_isHeld 6 = .ok (.if_icmp .eq 7, 3) := by decide +kernel
theorem dX6_isHeld_9 : decode cX6_isHeld 9 = .ok (.iconst 1, 1) := by decide +kernel
theorem dX6_isHeld_10 : decode cX6_isHeld 10 = .ok (.goto 4, 3) := by decide +kernel
theorem dX6_isHeld_13 : decode cX6_isHeld 13 = .ok (.iconst 0, 1) := by decide +kernel
theorem dX6_isHeld_14 : decode cX6_isHeld 14 = .ok (.ireturn, 1) := by decide +kernel
theorem dX6_readUpTo_0 : decode cX6_readUpTo 0 = .ok (.aload_n 0, 1) := by decide +kernel
theorem dX6_readUpTo_1 : decode cX6_readUpTo 1 = .ok (.getfield 43, 3) := by decide +kernel
theorem dX6_readUpTo_4 : decode cX6_readUpTo 4 = .ok (.iload_n 1, 1) := by decide +kernel
theorem dX6_readUpTo_5 : decode cX6_readUpTo 5 = .ok (.iload_n 1, 1) := by decide +kernel
theorem dX6_readUpTo_6 : decode cX6_readUpTo 6 = .ok (.iload_n 2, 1) := by decide +kernel
theorem dX6_readUpTo_7 : decode cX6_readUpTo 7 = .ok (.invokevirtual 94, 3) := by decide +kernel
theorem dX6_readUpTo_10 : decode cX6_readUpTo 10 = .ok (.aload_n 0, 1) := by decide +kernel
theorem dX6_readUpTo_11 : decode cX6_readUpTo 11 = .ok (.invokevirtual 98, 3) := by decide +kernel
theorem dX6_readUpTo_14 : decode cX6_readUpTo 14 = .ok (.aload_n 0, 1) := by decide +kernel
theorem dX6_readUpTo_15 : decode cX6_readUpTo 15 = .ok (.getfield 43, 3) := by decide +kernel
theorem dX6_readUpTo_18 : decode cX6_readUpTo 18 = .ok (.iload_n 1, 1) := by decide +kernel
theorem dX6_readUpTo_19 : decode cX6_readUpTo 19 = .ok (.invokevirtual 270, 3) := by decide +kernel
theorem dX6_readUpTo_22 : decode cX6_readUpTo 22 = .ok (.ireturn, 1) := by decide +kernel
theorem dX6_readAll_0 : decode cX6_readAll 0 = .ok (.aload_n 0, 1) := by decide +kernel
theorem dX6_readAll_1 : decode cX6_readAll 1 = .ok (.getfield 43, 3) := by decide +kernel
theorem dX6_readAll_4 : decode cX6_readAll 4 = .ok (.aload_n 0, 1) := by decide +kernel
theorem dX6_readAll_5 : decode cX6_readAll 5 = .ok (.getfield 14, 3) := by decide +kernel
theorem dX6_readAll_8 : decode cX6_readAll 8 = .ok (.invokevirtual 273, 3) := by decide +kernel
theorem dX6_readAll_11 : decode cX6_readAll 11 = .ok (.aload_n 0, 1) := by decide +kernel
theorem dX6_readAll_12 : decode cX6_readAll 12 = .ok (.getfield 25, 3) := by decide +kernel
theorem dX6_readAll_15 : decode cX6_readAll 15 = .ok (.astore_n 1, 1) := by decide +kernel
theorem dX6_readAll_16 : decode cX6_readAll 16 = .ok (.aload_n 1, 1) := by decide +kernel
theorem dX6_readAll_17 : decode cX6_readAll 17 = .ok (.arraylength, 1) := by decide +kernel
theorem dX6_readAll_18 : decode cX6_readAll 18 = .ok (.istore_n 2, 1) := by decide +kernel
theorem dX6_readAll_19 : decode cX6_readAll 19 = .ok (.iconst 0, 1) := by decide +kernel
theorem dX6_readAll_20 : decode cX6_readAll 20 = .ok (.istore_n 3, 1) := by decide +kernel
theorem dX6_readAll_21 : decode cX6_readAll 21 = .ok (.iload_n 3, 1) := by decide +kernel
theorem dX6_readAll_22 : decode cX6_readAll 22 = .ok (.iload_n 2, 1) := by decide +kernel
theorem dX6_readAll_23 : decode cX6_readAll 23 = .ok (.if_icmp .ge 23, 3) := by decide +kernel
theorem dX6_readAll_26 : decode cX6_readAll 26 = .ok (.aload_n 1, 1) := by decide +kernel
theorem dX6_readAll_27 : decode cX6_readAll 27 = .ok (.iload_n 3, 1) := by decide +kernel
theorem dX6_readAll_28 : decode cX6_readAll 28 = .ok (.aaload, 1) := by decide +kernel
theorem dX6_readAll_29 : decode cX6_readAll 29 = .ok (.astore 4, 2) := by decide +kernel
theorem dX6_readAll_31 : decode cX6_readAll 31 = .ok (.aload 4, 2) := by decide +kernel
theorem dX6_readAll_33 : decode cX6_readAll 33 = .ok (.aload_n 0, 1) := by decide +kernel
theorem dX6_readAll_34 : decode cX6_readAll 34 = .ok (.getfield 43, 3) := by decide +kernel
theorem dX6_readAll_37 : decode cX6_readAll 37 = .ok (.invokevirtual 277, 3) := by decide +kernel
theorem dX6_readAll_40 : decode cX6_readAll 40 = .ok (.iinc 3 1, 3) := by decide +kernel
theorem dX6_readAll_43 : decode cX6_readAll 43 = .ok (.goto (-22), 3) := by decide +kernel
theorem dX6_readAll_46 : decode cX6_readAll 46 = .ok (.return_, 1) := by decide +kernel
theorem dX6_doOneEntry_0 : decode cX6_doOneEntry 0 = .ok (.aload_n 0, 1) := by decide +kernel
theorem dX6_doOneEntry_1 : decode cX6_doOneEntry 1 = .ok (.getfield 50, 3) := by decide +kernel
theorem dX6_doOneEntry_4 : decode cX6_doOneEntry 4 = .ok (.getfield 281, 3) := by decide +kernel
theorem dX6_doOneEntry_7 : decode cX6_doOneEntry 7 = .ok (.istore_n 1, 1) := by decide +kernel
theorem dX6_doOneEntry_8 : decode cX6_doOneEntry 8 = .ok (.aload_n 0, 1) := by decide +kernel
theorem dX6_doOneEntry_9 : decode cX6_doOneEntry 9 = .ok (.getfield 50, 3) := by decide +kernel
theorem dX6_doOneEntry_12 : decode cX6_doOneEntry 12 = .ok (.dup, 1) := by decide +kernel
theorem dX6_doOneEntry_13 : decode cX6_doOneEntry 13 = .ok (.getfield 281, 3) := by decide +kernel
theorem dX6_doOneEntry_16 : decode cX6_doOneEntry 16 = .ok (.iconst 1, 1) := by decide +kernel
theorem dX6_doOneEntry_17 : decode cX6_doOneEntry 17 = .ok (.iadd, 1) := by decide +kernel
theorem dX6_doOneEntry_18 : decode cX6_doOneEntry 18 = .ok (.putfield 281, 3) := by decide +kernel
theorem dX6_doOneEntry_21 : decode cX6_doOneEntry 21 = .ok (.aload_n 0, 1) := by decide +kernel
theorem dX6_doOneEntry_22 : decode cX6_doOneEntry 22 = .ok (.getfield 50, 3) := by decide +kernel
theorem dX6_doOneEntry_25 : decode cX6_doOneEntry 25 = .ok (.iload_n 1, 1) := by decide +kernel
theorem dX6_doOneEntry_26 : decode cX6_doOneEntry 26 = .ok (.invokevirtual 284, 3) := by decide +kernel
theorem dX6_doOneEntry_29 : decode cX6_doOneEntry 29 = .ok (.ifCond .eq 5, 3) := by decide +kernel
theorem dX6_doOneEntry_32 : decode cX6_doOneEntry 32 = .ok (.iconst 1, 1) := by decide +kernel
theorem dX6_doOneEntry_33 : decode cX6_doOneEntry 33 = .ok (.ireturn, 1) := by decide +kernel
theorem dX6_doOneEntry_34 : decode cX6_doOneEntry 34 = .ok (.aload_n 0, 1) := by decide +kernel
theorem dX6_doOneEntry_35 : decode cX6_doOneEntry 35 = .ok (.getfield 50, 3) := by decide +kernel
theorem dX6_doOneEntry_38 : decode cX6_doOneEntry 38 = .ok (.iload_n 1, 1) := by decide +kernel
theorem dX6_doOneEntry_39 : decode cX6_doOneEntry 39 = .ok (.invokevirtual 287, 3) := by decide +kernel
theorem dX6_doOneEntry_42 : decode cX6_doOneEntry 42 = .ok (.ifCond .eq 12, 3) := by decide +kernel
theorem dX6_doOneEntry_45 : decode cX6_doOneEntry 45 = .ok (.aload_n 0, 1) := by decide +kernel
theorem dX6_doOneEntry_46 : decode cX6_doOneEntry 46 = .ok (.invokevirtual 182, 3) := by decide +kernel
theorem dX6_doOneEntry_49 : decode cX6_doOneEntry 49 = .ok (.ifCond .ne 5, 3) := by decide +kernel
theorem dX6_doOneEntry_52 : decode cX6_doOneEntry 52 = .ok (.iconst 0, 1) := by decide +kernel
theorem dX6_doOneEntry_53 : decode cX6_doOneEntry 53 = .ok (.ireturn, 1) := by decide +kernel
theorem dX6_doOneEntry_54 : decode cX6_doOneEntry 54 = .ok (.aload_n 0, 1) := by decide +kernel
theorem dX6_doOneEntry_55 : decode cX6_doOneEntry 55 = .ok (.getfield 50, 3) := by decide +kernel
theorem dX6_doOneEntry_58 : decode cX6_doOneEntry 58 = .ok (.getfield 290, 3) := by decide +kernel
theorem dX6_doOneEntry_61 : decode cX6_doOneEntry 61 = .ok (.aload_n 0, 1) := by decide +kernel
theorem dX6_doOneEntry_62 : decode cX6_doOneEntry 62 = .ok (.getfield 50, 3) := by decide +kernel
theorem dX6_doOneEntry_65 : decode cX6_doOneEntry 65 = .ok (.getfield 124, 3) := by decide +kernel
theorem dX6_doOneEntry_68 : decode cX6_doOneEntry 68 = .ok (.iload_n 1, 1) := by decide +kernel
theorem dX6_doOneEntry_69 : decode cX6_doOneEntry 69 = .ok (.invokevirtual 127, 3) := by decide +kernel
theorem dX6_doOneEntry_72 : decode cX6_doOneEntry 72 = .ok (.aload_n 0, 1) := by decide +kernel
theorem dX6_doOneEntry_73 : decode cX6_doOneEntry 73 = .ok (.getfield 50, 3) := by decide +kernel
theorem dX6_doOneEntry_76 : decode cX6_doOneEntry 76 = .ok (.getfield 124, 3) := by decide +kernel
theorem dX6_doOneEntry_79 : decode cX6_doOneEntry 79 = .ok (.iload_n 1, 1) := by decide +kernel
theorem dX6_doOneEntry_80 : decode cX6_doOneEntry 80 = .ok (.invokevirtual 130, 3) := by decide +kernel
theorem dX6_doOneEntry_83 : decode cX6_doOneEntry 83 = .ok (.aload_n 0, 1) := by decide +kernel
theorem dX6_doOneEntry_84 : decode cX6_doOneEntry 84 = .ok (.getfield 50, 3) := by decide +kernel
theorem dX6_doOneEntry_87 : decode cX6_doOneEntry 87 = .ok (.getfield 124, 3) := by decide +kernel
theorem dX6_doOneEntry_90 : decode cX6_doOneEntry 90 = .ok (.iload_n 1, 1) := by decide +kernel
theorem dX6_doOneEntry_91 : decode cX6_doOneEntry 91 = .ok (.invokevirtual 133, 3) := by decide +kernel
theorem dX6_doOneEntry_94 : decode cX6_doOneEntry 94 = .ok (.invokevirtual 255, 3) := by decide +kernel
theorem dX6_doOneEntry_97 : decode cX6_doOneEntry 97 = .ok (.iconst 1, 1) := by decide +kernel
theorem dX6_doOneEntry_98 : decode cX6_doOneEntry 98 = .ok (.ireturn, 1) := by decide +kernel
theorem dX6_endFile_0 : decode cX6_endFile 0 = .ok (.aload_n 0, 1) := by decide +kernel
theorem dX6_endFile_1 : decode cX6_endFile 1 = .ok (.getfield 50, 3) := by decide +kernel
theorem dX6_endFile_4 : decode cX6_endFile 4 = .ok (.getfield 290, 3) := by decide +kernel
theorem dX6_endFile_7 : decode cX6_endFile 7 = .ok (.getfield 66, 3) := by decide +kernel
theorem dX6_endFile_10 : decode cX6_endFile 10 = .ok (.ifCond .ne 5, 3) := by decide +kernel
theorem dX6_endFile_13 : decode cX6_endFile 13 = .ok (.iconst 1, 1) := by decide +kernel
theorem dX6_endFile_14 : decode cX6_endFile 14 = .ok (.ireturn, 1) := by decide +kernel
theorem dX6_endFile_15 : decode cX6_endFile 15 = .ok (.aload_n 0, 1) := by decide +kernel
theorem dX6_endFile_16 : decode cX6_endFile 16 = .ok (.invokevirtual 293, 3) := by decide +kernel
theorem dX6_endFile_19 : decode cX6_endFile 19 = .ok (.astore_n 1, 1) := by decide +kernel
theorem dX6_endFile_20 : decode cX6_endFile 20 = .ok (.aload_n 1, 1) := by decide +kernel
theorem dX6_endFile_21 : decode cX6_endFile 21 = .ok (.getfield 216, 3) := by decide +kernel
theorem dX6_endFile_24 : decode cX6_endFile 24 = .ok (.aload_n 0, 1) := by decide +kernel
theorem dX6_endFile_25 : decode cX6_endFile 25 = .ok (.getfield 50, 3) := by decide +kernel
theorem dX6_endFile_28 : decode cX6_endFile 28 = .ok (.getfield 290, 3) := by decide +kernel
theorem dX6_endFile_31 : decode cX6_endFile 31 = .ok (.invokevirtual 297, 3) := by decide +kernel
theorem dX6_endFile_34 : decode cX6_endFile 34 = .ok (.aload_n 0, 1) := by decide +kernel
theorem dX6_endFile_35 : decode cX6_endFile 35 = .ok (.getfield 50, 3) := by decide +kernel
theorem dX6_endFile_38 : decode cX6_endFile 38 = .ok (.getfield 290, 3) := by decide +kernel
theorem dX6_endFile_41 : decode cX6_endFile 41 = .ok (.iconst 0, 1) := by decide +kernel
theorem dX6_endFile_42 : decode cX6_endFile 42 = .ok (.putfield 66, 3) := by decide +kernel
theorem dX6_endFile_45 : decode cX6_endFile 45 = .ok (.aload_n 0, 1) := by decide +kernel
theorem dX6_endFile_46 : decode cX6_endFile 46 = .ok (.getfield 36, 3) := by decide +kernel
theorem dX6_endFile_49 : decode cX6_endFile 49 = .ok (.aload_n 1, 1) := by decide +kernel
theorem dX6_endFile_50 : decode cX6_endFile 50 = .ok (.invokevirtual 300, 3) := by decide +kernel
theorem dX6_endFile_53 : decode cX6_endFile 53 = .ok (.ifCond .ne 13, 3) := by decide +kernel
theorem dX6_endFile_56 : decode cX6_endFile 56 = .ok (.aload_n 0, 1) := by decide +kernel
theorem dX6_endFile_57 : decode cX6_endFile 57 = .ok (.getfield 29, 3) := by decide +kernel
theorem dX6_endFile_60 : decode cX6_endFile 60 = .ok (.aload_n 1, 1) := by decide +kernel
theorem dX6_endFile_61 : decode cX6_endFile 61 = .ok (.invokevirtual 303, 3) := by decide +kernel
theorem dX6_endFile_64 : decode cX6_endFile 64 = .ok (.iconst 0, 1) := by decide +kernel
theorem dX6_endFile_65 : decode cX6_endFile 65 = .ok (.ireturn, 1) := by decide +kernel
theorem dX6_endFile_66 : decode cX6_endFile 66 = .ok (.aload_n 1, 1) := by decide +kernel
theorem dX6_endFile_67 : decode cX6_endFile 67 = .ok (.aload_n 0, 1) := by decide +kernel
theorem dX6_endFile_68 : decode cX6_endFile 68 = .ok (.getfield 244, 3) := by decide +kernel
theorem dX6_endFile_71 : decode cX6_endFile 71 = .ok (.putfield 212, 3) := by decide +kernel
theorem dX6_endFile_74 : decode cX6_endFile 74 = .ok (.aload_n 0, 1) := by decide +kernel
theorem dX6_endFile_75 : decode cX6_endFile 75 = .ok (.dup, 1) := by decide +kernel
theorem dX6_endFile_76 : decode cX6_endFile 76 = .ok (.getfield 244, 3) := by decide +kernel
theorem dX6_endFile_79 : decode cX6_endFile 79 = .ok (.iconst 1, 1) := by decide +kernel
theorem dX6_endFile_80 : decode cX6_endFile 80 = .ok (.iadd, 1) := by decide +kernel
theorem dX6_endFile_81 : decode cX6_endFile 81 = .ok (.putfield 244, 3) := by decide +kernel
theorem dX6_endFile_84 : decode cX6_endFile 84 = .ok (.aload_n 0, 1) := by decide +kernel
theorem dX6_endFile_85 : decode cX6_endFile 85 = .ok (.getfield 50, 3) := by decide +kernel
theorem dX6_endFile_88 : decode cX6_endFile 88 = .ok (.getfield 186, 3) := by decide +kernel
theorem dX6_endFile_91 : decode cX6_endFile 91 = .ok (.aload_n 1, 1) := by decide +kernel
theorem dX6_endFile_92 : decode cX6_endFile 92 = .ok (.invokevirtual 303, 3) := by decide +kernel
theorem dX6_endFile_95 : decode cX6_endFile 95 = .ok (.iconst 1, 1) := by decide +kernel
theorem dX6_endFile_96 : decode cX6_endFile 96 = .ok (.ireturn, 1) := by decide +kernel
theorem dX6_freshFile_0 : decode cX6_freshFile 0 = .ok (.aload_n 0, 1) := by decide +kernel
theorem dX6_freshFile_1 : decode cX6_freshFile 1 = .ok (.getfield 29, 3) := by decide +kernel
theorem dX6_freshFile_4 : decode cX6_freshFile 4 = .ok (.aload_n 0, 1) := by decide +kernel
theorem dX6_freshFile_5 : decode cX6_freshFile 5 = .ok (.getfield 29, 3) := by decide +kernel
theorem dX6_freshFile_8 : decode cX6_freshFile 8 = .ok (.invokevirtual 154, 3) := by decide +kernel
theorem dX6_freshFile_11 : decode cX6_freshFile 11 = .ok (.iconst 1, 1) := by decide +kernel
theorem dX6_freshFile_12 : decode cX6_freshFile 12 = .ok (.isub, 1) := by decide +kernel
theorem dX6_freshFile_13 : decode cX6_freshFile 13 = .ok (.invokevirtual 306, 3) := by decide +kernel
theorem dX6_freshFile_16 : decode cX6_freshFile 16 = .ok (.astore_n 1, 1) := by decide +kernel
theorem dX6_freshFile_17 : decode cX6_freshFile 17 = .ok (.aload_n 1, 1) := by decide +kernel
theorem dX6_freshFile_18 : decode cX6_freshFile 18 = .ok (.ifnonnull 13, 3) := by decide +kernel
theorem dX6_freshFile_21 : decode cX6_freshFile 21 = .ok (.new 213, 3) := by decide +kernel
theorem dX6_freshFile_24 : decode cX6_freshFile 24 = .ok (.dup, 1) := by decide +kernel
theorem dX6_freshFile_25 : decode cX6_freshFile 25 = .ok (.invokespecial 309, 3) := by decide +kernel
theorem dX6_freshFile_28 : decode cX6_freshFile 28 = .ok (.goto 4, 3) := by decide +kernel
theorem dX6_freshFile_31 : decode cX6_freshFile 31 = .ok (.aload_n 1, 1) := by decide +kernel
theorem dX6_freshFile_32 : decode cX6_freshFile 32 = .ok (.areturn, 1) := by decide +kernel
theorem dX6_giveUpJob_0 : decode cX6_giveUpJob 0 = .ok (.aload_n 0, 1) := by decide +kernel
theorem dX6_giveUpJob_1 : decode cX6_giveUpJob 1 = .ok (.getfield 50, 3) := by decide +kernel
theorem dX6_giveUpJob_4 : decode cX6_giveUpJob 4 = .ok (.getfield 186, 3) := by decide +kernel
theorem dX6_giveUpJob_7 : decode cX6_giveUpJob 7 = .ok (.invokevirtual 154, 3) := by decide +kernel
theorem dX6_giveUpJob_10 : decode cX6_giveUpJob 10 = .ok (.istore_n 1, 1) := by decide +kernel
theorem dX6_giveUpJob_11 : decode cX6_giveUpJob 11 = .ok (.aload_n 0, 1) := by decide +kernel
theorem dX6_giveUpJob_12 : decode cX6_giveUpJob 12 = .ok (.aload_n 0, 1) := by decide +kernel
theorem dX6_giveUpJob_13 : decode cX6_giveUpJob 13 = .ok (.getfield 50, 3) := by decide +kernel
theorem dX6_giveUpJob_16 : decode cX6_giveUpJob 16 = .ok (.getfield 186, 3) := by decide +kernel
theorem dX6_giveUpJob_19 : decode cX6_giveUpJob 19 = .ok (.iconst 0, 1) := by decide +kernel
theorem dX6_giveUpJob_20 : decode cX6_giveUpJob 20 = .ok (.iload_n 1, 1) := by decide +kernel
theorem dX6_giveUpJob_21 : decode cX6_giveUpJob 21 = .ok (.invokevirtual 192, 3) := by decide +kernel
theorem dX6_giveUpJob_24 : decode cX6_giveUpJob 24 = .ok (.aload_n 0, 1) := by decide +kernel
theorem dX6_giveUpJob_25 : decode cX6_giveUpJob 25 = .ok (.dup, 1) := by decide +kernel
theorem dX6_giveUpJob_26 : decode cX6_giveUpJob 26 = .ok (.getfield 244, 3) := by decide +kernel
theorem dX6_giveUpJob_29 : decode cX6_giveUpJob 29 = .ok (.iload_n 1, 1) := by decide +kernel
theorem dX6_giveUpJob_30 : decode cX6_giveUpJob 30 = .ok (.isub, 1) := by decide +kernel
theorem dX6_giveUpJob_31 : decode cX6_giveUpJob 31 = .ok (.putfield 244, 3) := by decide +kernel
theorem dX6_giveUpJob_34 : decode cX6_giveUpJob 34 = .ok (.aload_n 0, 1) := by decide +kernel
theorem dX6_giveUpJob_35 : decode cX6_giveUpJob 35 = .ok (.getfield 50, 3) := by decide +kernel
theorem dX6_giveUpJob_38 : decode cX6_giveUpJob 38 = .ok (.invokevirtual 205, 3) := by decide +kernel
theorem dX6_giveUpJob_41 : decode cX6_giveUpJob 41 = .ok (.iload_n 1, 1) := by decide +kernel
theorem dX6_giveUpJob_42 : decode cX6_giveUpJob 42 = .ok (.ireturn, 1) := by decide +kernel
theorem dX6_retire_0 : decode cX6_retire 0 = .ok (.aload_n 1, 1) := by decide +kernel
theorem dX6_retire_1 : decode cX6_retire 1 = .ok (.ifnonnull 4, 3) := by decide +kernel
theorem dX6_retire_4 : decode cX6_retire 4 = .ok (.return_, 1) := by decide +kernel
theorem dX6_retire_5 : decode cX6_retire 5 = .ok (.iload_n 3, 1) := by decide +kernel
theorem dX6_retire_6 : decode cX6_retire 6 = .ok (.iconst 1, 1) := by decide +kernel
theorem dX6_retire_7 : decode cX6_retire 7 = .ok (.isub, 1) := by decide +kernel
theorem dX6_retire_8 : decode cX6_retire 8 = .ok (.istore 4, 2) := by decide +kernel
theorem dX6_retire_10 : decode cX6_retire 10 = .ok (.iload 4, 2) := by decide +kernel
theorem dX6_retire_12 : decode cX6_retire 12 = .ok (.iload_n 2, 1) := by decide +kernel
theorem dX6_retire_13 : decode cX6_retire 13 = .ok (.if_icmp .lt 40, 3) := by decide +kernel
theorem dX6_retire_16 : decode cX6_retire 16 = .ok (.aload_n 1, 1) := by decide +kernel
theorem dX6_retire_17 : decode cX6_retire 17 = .ok (.iload 4, 2) := by decide +kernel
theorem dX6_retire_19 : decode cX6_retire 19 = .ok (.invokevirtual 306, 3) := by decide +kernel
theorem dX6_retire_22 : decode cX6_retire 22 = .ok (.astore 5, 2) := by decide +kernel
theorem dX6_retire_24 : decode cX6_retire 24 = .ok (.aload 5, 2) := by decide +kernel
theorem dX6_retire_26 : decode cX6_retire 26 = .ok (.ifnull 21, 3) := by decide +kernel
theorem dX6_retire_29 : decode cX6_retire 29 = .ok (.aload_n 0, 1) := by decide +kernel
theorem dX6_retire_30 : decode cX6_retire 30 = .ok (.getfield 36, 3) := by decide +kernel
theorem dX6_retire_33 : decode cX6_retire 33 = .ok (.aload 5, 2) := by decide +kernel
theorem dX6_retire_35 : decode cX6_retire 35 = .ok (.invokevirtual 310, 3) := by decide +kernel
theorem dX6_retire_38 : decode cX6_retire 38 = .ok (.aload_n 0, 1) := by decide +kernel
theorem dX6_retire_39 : decode cX6_retire 39 = .ok (.getfield 29, 3) := by decide +kernel
theorem dX6_retire_42 : decode cX6_retire 42 = .ok (.aload 5, 2) := by decide +kernel
theorem dX6_retire_44 : decode cX6_retire 44 = .ok (.invokevirtual 303, 3) := by decide +kernel
theorem dX6_retire_47 : decode cX6_retire 47 = .ok (.iinc 4 (-1), 3) := by decide +kernel
theorem dX6_retire_50 : decode cX6_retire 50 = .ok (.goto (-40), 3) := by decide +kernel
theorem dX6_retire_53 : decode cX6_retire 53 = .ok (.return_, 1) := by decide +kernel
theorem dX6_levelAt_0 : decode cX6_levelAt 0 = .ok (.iload_n 1, 1) := by decide +kernel
theorem dX6_levelAt_1 : decode cX6_levelAt 1 = .ok (.ifCond .lt 21, 3) := by decide +kernel
theorem dX6_levelAt_4 : decode cX6_levelAt 4 = .ok (.iload_n 1, 1) := by decide +kernel
theorem dX6_levelAt_5 : decode cX6_levelAt 5 = .ok (.aload_n 0, 1) := by decide +kernel
theorem dX6_levelAt_6 : decode cX6_levelAt 6 = .ok (.getfield 25, 3) := by decide +kernel
theorem dX6_levelAt_9 : decode cX6_levelAt 9 = .ok (.arraylength, 1) := by decide +kernel
theorem dX6_levelAt_10 : decode cX6_levelAt 10 = .ok (.if_icmp .ge 12, 3) := by decide +kernel
theorem dX6_levelAt_13 : decode cX6_levelAt 13 = .ok (.aload_n 0, 1) := by decide +kernel
theorem dX6_levelAt_14 : decode cX6_levelAt 14 = .ok (.getfield 25, 3) := by decide +kernel
theorem dX6_levelAt_17 : decode cX6_levelAt 17 = .ok (.iload_n 1, 1) := by decide +kernel
theorem dX6_levelAt_18 : decode cX6_levelAt 18 = .ok (.aaload, 1) := by decide +kernel
theorem dX6_levelAt_19 : decode cX6_levelAt 19 = .ok (.goto 4, 3) := by decide +kernel
theorem dX6_levelAt_22 : decode cX6_levelAt 22 = .ok (.aconst_null, 1) := by decide +kernel
theorem dX6_levelAt_23 : decode cX6_levelAt 23 = .ok (.areturn, 1) := by decide +kernel
theorem dX6_fileAt_0 : decode cX6_fileAt 0 = .ok (.aload_n 0, 1) := by decide +kernel
theorem dX6_fileAt_1 : decode cX6_fileAt 1 = .ok (.iload_n 1, 1) := by decide +kernel
theorem dX6_fileAt_2 : decode cX6_fileAt 2 = .ok (.invokevirtual 146, 3) := by decide +kernel
theorem dX6_fileAt_5 : decode cX6_fileAt 5 = .ok (.astore_n 3, 1) := by decide +kernel
theorem dX6_fileAt_6 : decode cX6_fileAt 6 = .ok (.aload_n 3, 1) := by decide +kernel
theorem dX6_fileAt_7 : decode cX6_fileAt 7 = .ok (.ifnonnull 7, 3) := by decide +kernel
theorem dX6_fileAt_10 : decode cX6_fileAt 10 = .ok (.aconst_null, 1) := by decide +kernel
theorem dX6_fileAt_11 : decode cX6_fileAt 11 = .ok (.goto 8, 3) := by decide +kernel
theorem dX6_fileAt_14 : decode cX6_fileAt 14 = .ok (.aload_n 3, 1) := by decide +kernel
theorem dX6_fileAt_15 : decode cX6_fileAt 15 = .ok (.iload_n 2, 1) := by decide +kernel
theorem dX6_fileAt_16 : decode cX6_fileAt 16 = .ok (.invokevirtual 150, 3) := by decide +kernel
theorem dX6_fileAt_19 : decode cX6_fileAt 19 = .ok (.areturn, 1) := by decide +kernel
theorem dX6_filesInForce_0 : decode cX6_filesInForce 0 = .ok (.iconst 0, 1) := by decide +kernel
theorem dX6_filesInForce_1 : decode cX6_filesInForce 1 = .ok (.istore_n 1, 1) := by decide +kernel
theorem dX6_filesInForce_2 : decode cX6_filesInForce 2 = .ok (.aload_n 0, 1) := by decide +kernel
theorem dX6_filesInForce_3 : decode cX6_filesInForce 3 = .ok (.getfield 25, 3) := by decide +kernel
theorem dX6_filesInForce_6 : decode cX6_filesInForce 6 = .ok (.astore_n 2, 1) := by decide +kernel
theorem dX6_filesInForce_7 : decode cX6_filesInForce 7 = .ok (.aload_n 2, 1) := by decide +kernel
theorem dX6_filesInForce_8 : decode cX6_filesInForce 8 = .ok (.arraylength, 1) := by decide +kernel
theorem dX6_filesInForce_9 : decode cX6_filesInForce 9 = .ok (.istore_n 3, 1) := by decide +kernel
theorem dX6_filesInForce_10 : decode cX6_filesInForce 10 = .ok (.iconst 0, 1) := by decide +kernel
theorem dX6_filesInForce_11 : decode cX6_filesInForce 11 = .ok (.istore 4, 2) := by decide +kernel
theorem dX6_filesInForce_13 : decode cX6_filesInForce 13 = .ok (.iload 4, 2) := by decide +kernel
theorem dX6_filesInForce_15 : decode cX6_filesInForce 15 = .ok (.iload_n 3, 1) := by decide +kernel
theorem dX6_filesInForce_16 : decode cX6_filesInForce 16 = .ok (.if_icmp .ge 23, 3) := by decide +kernel
theorem dX6_filesInForce_19 : decode cX6_filesInForce 19 = .ok (.aload_n 2, 1) := by decide +kernel
theorem dX6_filesInForce_20 : decode cX6_filesInForce 20 = .ok (.iload 4, 2) := by decide +kernel
theorem dX6_filesInForce_22 : decode cX6_filesInForce 22 = .ok (.aaload, 1) := by decide +kernel
theorem dX6_filesInForce_23 : decode cX6_filesInForce 23 = .ok (.astore 5, 2) := by decide +kernel
theorem dX6_filesInForce_25 : decode cX6_filesInForce 25 = .ok (.iload_n 1, 1) := by decide +kernel
theorem dX6_filesInForce_26 : decode cX6_filesInForce 26 = .ok (.aload 5, 2) := by decide +kernel
theorem dX6_filesInForce_28 : decode cX6_filesInForce 28 = .ok (.invokevirtual 154, 3) := by decide +kernel
theorem dX6_filesInForce_31 : decode cX6_filesInForce 31 = .ok (.iadd, 1) := by decide +kernel
theorem dX6_filesInForce_32 : decode cX6_filesInForce 32 = .ok (.istore_n 1, 1) := by decide +kernel
theorem dX6_filesInForce_33 : decode cX6_filesInForce 33 = .ok (.iinc 4 1, 3) := by decide +kernel
theorem dX6_filesInForce_36 : decode cX6_filesInForce 36 = .ok (.goto (-23), 3) := by decide +kernel
theorem dX6_filesInForce_39 : decode cX6_filesInForce 39 = .ok (.iload_n 1, 1) := by decide +kernel
theorem dX6_filesInForce_40 : decode cX6_filesInForce 40 = .ok (.ireturn, 1) := by decide +kernel
theorem dX6_bytesInForce_0 : decode cX6_bytesInForce 0 = .ok (.iconst 0, 1) := by decide +kernel
theorem dX6_bytesInForce_1 : decode cX6_bytesInForce 1 = .ok (.istore_n 1, 1) := by decide +kernel
theorem dX6_bytesInForce_2 : decode cX6_bytesInForce 2 = .ok (.aload_n 0, 1) := by decide +kernel
theorem dX6_bytesInForce_3 : decode cX6_bytesInForce 3 = .ok (.getfield 25, 3) := by decide +kernel
theorem dX6_bytesInForce_6 : decode cX6_bytesInForce 6 = .ok (.astore_n 2, 1) := by decide +kernel
theorem dX6_bytesInForce_7 : decode cX6_bytesInForce 7 = .ok (.aload_n 2, 1) := by decide +kernel
theorem dX6_bytesInForce_8 : decode cX6_bytesInForce 8 = .ok (.arraylength, 1) := by decide +kernel
theorem dX6_bytesInForce_9 : decode cX6_bytesInForce 9 = .ok (.istore_n 3, 1) := by decide +kernel
theorem dX6_bytesInForce_10 : decode cX6_bytesInForce 10 = .ok (.iconst 0, 1) := by decide +kernel
theorem dX6_bytesInForce_11 : decode cX6_bytesInForce 11 = .ok (.istore 4, 2) := by decide +kernel
theorem dX6_bytesInForce_13 : decode cX6_bytesInForce 13 = .ok (.iload 4, 2) := by decide +kernel
theorem dX6_bytesInForce_15 : decode cX6_bytesInForce 15 = .ok (.iload_n 3, 1) := by decide +kernel
theorem dX6_bytesInForce_16 : decode cX6_bytesInForce 16 = .ok (.if_icmp .ge 23, 3) := by decide +kernel
theorem dX6_bytesInForce_19 : decode cX6_bytesInForce 19 = .ok (.aload_n 2, 1) := by decide +kernel
theorem dX6_bytesInForce_20 : decode cX6_bytesInForce 20 = .ok (.iload 4, 2) := by decide +kernel
theorem dX6_bytesInForce_22 : decode cX6_bytesInForce 22 = .ok (.aaload, 1) := by decide +kernel
theorem dX6_bytesInForce_23 : decode cX6_bytesInForce 23 = .ok (.astore 5, 2) := by decide +kernel
theorem dX6_bytesInForce_25 : decode cX6_bytesInForce 25 = .ok (.iload_n 1, 1) := by decide +kernel
theorem dX6_bytesInForce_26 : decode cX6_bytesInForce 26 = .ok (.aload 5, 2) := by decide +kernel
theorem dX6_bytesInForce_28 : decode cX6_bytesInForce 28 = .ok (.invokevirtual 313, 3) := by decide +kernel
theorem dX6_bytesInForce_31 : decode cX6_bytesInForce 31 = .ok (.iadd, 1) := by decide +kernel
theorem dX6_bytesInForce_32 : decode cX6_bytesInForce 32 = .ok (.istore_n 1, 1) := by decide +kernel
theorem dX6_bytesInForce_33 : decode cX6_bytesInForce 33 = .ok (.iinc 4 1, 3) := by decide +kernel
theorem dX6_bytesInForce_36 : decode cX6_bytesInForce 36 = .ok (.goto (-23), 3) := by decide +kernel
theorem dX6_bytesInForce_39 : decode cX6_bytesInForce 39 = .ok (.iload_n 1, 1) := by decide +kernel
theorem dX6_bytesInForce_40 : decode cX6_bytesInForce 40 = .ok (.ireturn, 1) := by decide +kernel
theorem dX6_entriesInForce_0 : decode cX6_entriesInForce 0 = .ok (.iconst 0, 1) := by decide +kernel
theorem dX6_entriesInForce_1 : decode cX6_entriesInForce 1 = .ok (.istore_n 1, 1) := by decide +kernel
theorem dX6_entriesInForce_2 : decode cX6_entriesInForce 2 = .ok (.aload_n 0, 1) := by decide +kernel
theorem dX6_entriesInForce_3 : decode cX6_entriesInForce 3 = .ok (.getfield 25, 3) := by decide +kernel
theorem dX6_entriesInForce_6 : decode cX6_entriesInForce 6 = .ok (.astore_n 2, 1) := by decide +kernel
theorem dX6_entriesInForce_7 : decode cX6_entriesInForce 7 = .ok (.aload_n 2, 1) := by decide +kernel
theorem dX6_entriesInForce_8 : decode cX6_entriesInForce 8 = .ok (.arraylength, 1) := by decide +kernel
theorem dX6_entriesInForce_9 : decode cX6_entriesInForce 9 = .ok (.istore_n 3, 1) := by decide +kernel
theorem dX6_entriesInForce_10 : decode cX6_entriesInForce 10 = .ok (.iconst 0, 1) := by decide +kernel
theorem dX6_entriesInForce_11 : decode cX6_entriesInForce 11 = .ok (.istore 4, 2) := by decide +kernel
theorem dX6_entriesInForce_13 : decode cX6_entriesInForce 13 = .ok (.iload 4, 2) := by decide +kernel
theorem dX6_entriesInForce_15 : decode cX6_entriesInForce 15 = .ok (.iload_n 3, 1) := by decide +kernel
theorem dX6_entriesInForce_16 : decode cX6_entriesInForce 16 = .ok (.if_icmp .ge 23, 3) := by decide +kernel
theorem dX6_entriesInForce_19 : decode cX6_entriesInForce 19 = .ok (.aload_n 2, 1) := by decide +kernel
theorem dX6_entriesInForce_20 : decode cX6_entriesInForce 20 = .ok (.iload 4, 2) := by decide +kernel
theorem dX6_entriesInForce_22 : decode cX6_entriesInForce 22 = .ok (.aaload, 1) := by decide +kernel
theorem dX6_entriesInForce_23 : decode cX6_entriesInForce 23 = .ok (.astore 5, 2) := by decide +kernel
theorem dX6_entriesInForce_25 : decode cX6_entriesInForce 25 = .ok (.iload_n 1, 1) := by decide +kernel
theorem dX6_entriesInForce_26 : decode cX6_entriesInForce 26 = .ok (.aload 5, 2) := by decide +kernel
theorem dX6_entriesInForce_28 : decode cX6_entriesInForce 28 = .ok (.invokevirtual 315, 3) := by decide +kernel
theorem dX6_entriesInForce_31 : decode cX6_entriesInForce 31 = .ok (.iadd, 1) := by decide +kernel
theorem dX6_entriesInForce_32 : decode cX6_entriesInForce 32 = .ok (.istore_n 1, 1) := by decide +kernel
theorem dX6_entriesInForce_33 : decode cX6_entriesInForce 33 = .ok (.iinc 4 1, 3) := by decide +kernel
theorem dX6_entriesInForce_36 : decode cX6_entriesInForce 36 = .ok (.goto (-23), 3) := by decide +kernel
theorem dX6_entriesInForce_39 : decode cX6_entriesInForce 39 = .ok (.iload_n 1, 1) := by decide +kernel
theorem dX6_entriesInForce_40 : decode cX6_entriesInForce 40 = .ok (.ireturn, 1) := by decide +kernel
theorem dX7_init_0 : decode cX7_init 0 = .ok (.aload_n 0, 1) := by decide +kernel
theorem dX7_init_1 : decode cX7_init 1 = .ok (.invokespecial 1, 3) := by decide +kernel
theorem dX7_init_4 : decode cX7_init 4 = .ok (.aload_n 0, 1) := by decide +kernel
theorem dX7_init_5 : decode cX7_init 5 = .ok (.bipush 24, 2) := by decide +kernel
theorem dX7_init_7 : decode cX7_init 7 = .ok (.newarray .int, 2) := by decide +kernel
theorem dX7_init_9 : decode cX7_init 9 = .ok (.putfield 7, 3) := by decide +kernel
theorem dX7_init_12 : decode cX7_init 12 = .ok (.aload_n 0, 1) := by decide +kernel
theorem dX7_init_13 : decode cX7_init 13 = .ok (.bipush 24, 2) := by decide +kernel
theorem dX7_init_15 : decode cX7_init 15 = .ok (.newarray .int, 2) := by decide +kernel
theorem dX7_init_17 : decode cX7_init 17 = .ok (.putfield 13, 3) := by decide +kernel
theorem dX7_init_20 : decode cX7_init 20 = .ok (.aload_n 0, 1) := by decide +kernel
theorem dX7_init_21 : decode cX7_init 21 = .ok (.bipush 24, 2) := by decide +kernel
theorem dX7_init_23 : decode cX7_init 23 = .ok (.newarray .int, 2) := by decide +kernel
theorem dX7_init_25 : decode cX7_init 25 = .ok (.putfield 16, 3) := by decide +kernel
theorem dX7_init_28 : decode cX7_init 28 = .ok (.aload_n 0, 1) := by decide +kernel
theorem dX7_init_29 : decode cX7_init 29 = .ok (.iconst 3, 1) := by decide +kernel
theorem dX7_init_30 : decode cX7_init 30 = .ok (.newarray .int, 2) := by decide +kernel
theorem dX7_init_32 : decode cX7_init 32 = .ok (.dup, 1) := by decide +kernel
theorem dX7_init_33 : decode cX7_init 33 = .ok (.iconst 0, 1) := by decide +kernel
theorem dX7_init_34 : decode cX7_init 34 = .ok (.iconst (-1), 1) := by decide +kernel
theorem dX7_init_35 : decode cX7_init 35 = .ok (.iastore, 1) := by decide +kernel
theorem dX7_init_36 : decode cX7_init 36 = .ok (.dup, 1) := by decide +kernel
theorem dX7_init_37 : decode cX7_init 37 = .ok (.iconst 1, 1) := by decide +kernel
theorem dX7_init_38 : decode cX7_init 38 = .ok (.iconst (-1), 1) := by decide +kernel
theorem dX7_init_39 : decode cX7_init 39 = .ok (.iastore, 1) := by decide +kernel
theorem dX7_init_40 : decode cX7_init 40 = .ok (.dup, 1) := by decide +kernel
theorem dX7_init_41 : decode cX7_init 41 = .ok (.iconst 2, 1) := by decide +kernel
theorem dX7_init_42 : decode cX7_init 42 = .ok (.iconst (-1), 1) := by decide +kernel
theorem dX7_init_43 : decode cX7_init 43 = .ok (.iastore, 1) := by decide +kernel
theorem dX7_init_44 : decode cX7_init 44 = .ok (.putfield 19, 3) := by decide +kernel
theorem dX7_init_47 : decode cX7_init 47 = .ok (.aload_n 0, 1) := by decide +kernel
theorem dX7_init_48 : decode cX7_init 48 = .ok (.sipush 330, 3) := by decide +kernel
theorem dX7_init_51 : decode cX7_init 51 = .ok (.newarray .int, 2) := by decide +kernel
theorem dX7_init_53 : decode cX7_init 53 = .ok (.putfield 22, 3) := by decide +kernel
theorem dX7_init_56 : decode cX7_init 56 = .ok (.aload_n 0, 1) := by decide +kernel
theorem dX7_init_57 : decode cX7_init 57 = .ok (.sipush 330, 3) := by decide +kernel
theorem dX7_init_60 : decode cX7_init 60 = .ok (.newarray .int, 2) := by decide +kernel
theorem dX7_init_62 : decode cX7_init 62 = .ok (.putfield 25, 3) := by decide +kernel
theorem dX7_init_65 : decode cX7_init 65 = .ok (.aload_n 0, 1) := by decide +kernel
theorem dX7_init_66 : decode cX7_init 66 = .ok (.sipush 330, 3) := by decide +kernel
theorem dX7_init_69 : decode cX7_init 69 = .ok (.newarray .int, 2) := by decide +kernel
theorem dX7_init_71 : decode cX7_init 71 = .ok (.putfield 28, 3) := by decide +kernel
theorem dX7_init_74 : decode cX7_init 74 = .ok (.aload_n 0, 1) := by decide +kernel
theorem dX7_init_75 : decode cX7_init 75 = .ok (.sipush 330, 3) := by decide +kernel
theorem dX7_init_78 : decode cX7_init 78 = .ok (.newarray .int, 2) := by decide +kernel
theorem dX7_init_80 : decode cX7_init 80 = .ok (.putfield 31, 3) := by decide +kernel
theorem dX7_init_83 : decode cX7_init 83 = .ok (.aload_n 0, 1) := by decide +kernel
theorem dX7_init_84 : decode cX7_init 84 = .ok (.sipush 330, 3) := by decide +kernel
theorem dX7_init_87 : decode cX7_init 87 = .ok (.newarray .int, 2) := by decide +kernel
theorem dX7_init_89 : decode cX7_init 89 = .ok (.putfield 34, 3) := by decide +kernel
theorem dX7_init_92 : decode cX7_init 92 = .ok (.aload_n 0, 1) := by decide +kernel
theorem dX7_init_93 : decode cX7_init 93 = .ok (.sipush 9900, 3) := by decide +kernel
theorem dX7_init_96 : decode cX7_init 96 = .ok (.newarray .int, 2) := by decide +kernel
theorem dX7_init_98 : decode cX7_init 98 = .ok (.putfield 37, 3) := by decide +kernel
theorem dX7_init_101 : decode cX7_init 101 = .ok (.aload_n 0, 1) := by decide +kernel
theorem dX7_init_102 : decode cX7_init 102 = .ok (.sipush 9900, 3) := by decide +kernel
theorem dX7_init_105 : decode cX7_init 105 = .ok (.newarray .int, 2) := by decide +kernel
theorem dX7_init_107 : decode cX7_init 107 = .ok (.putfield 40, 3) := by decide +kernel
theorem dX7_init_110 : decode cX7_init 110 = .ok (.aload_n 0, 1) := by decide +kernel
theorem dX7_init_111 : decode cX7_init 111 = .ok (.sipush 9900, 3) := by decide +kernel
theorem dX7_init_114 : decode cX7_init 114 = .ok (.newarray .int, 2) := by decide +kernel
theorem dX7_init_116 : decode cX7_init 116 = .ok (.putfield 43, 3) := by decide +kernel
theorem dX7_init_119 : decode cX7_init 119 = .ok (.aload_n 0, 1) := by decide +kernel
theorem dX7_init_120 : decode cX7_init 120 = .ok (.sipush 1500, 3) := by decide +kernel
theorem dX7_init_123 : decode cX7_init 123 = .ok (.newarray .int, 2) := by decide +kernel
theorem dX7_init_125 : decode cX7_init 125 = .ok (.putfield 46, 3) := by decide +kernel
theorem dX7_init_128 : decode cX7_init 128 = .ok (.aload_n 0, 1) := by decide +kernel
theorem dX7_init_129 : decode cX7_init 129 = .ok (.sipush 330, 3) := by decide +kernel
theorem dX7_init_132 : decode cX7_init 132 = .ok (.newarray .int, 2) := by decide +kernel
theorem dX7_init_134 : decode cX7_init 134 = .ok (.putfield 49, 3) := by decide +kernel
theorem dX7_init_137 : decode cX7_init 137 = .ok (.aload_n 0, 1) := by decide +kernel
theorem dX7_init_138 : decode cX7_init 138 = .ok (.sipush 1200, 3) := by decide +kernel
theorem dX7_init_141 : decode cX7_init 141 = .ok (.newarray .int, 2) := by decide +kernel
theorem dX7_init_143 : decode cX7_init 143 = .ok (.putfield 52, 3) := by decide +kernel
theorem dX7_init_146 : decode cX7_init 146 = .ok (.aload_n 0, 1) := by decide +kernel
theorem dX7_init_147 : decode cX7_init 147 = .ok (.sipush 1200, 3) := by decide +kernel
theorem dX7_init_150 : decode cX7_init 150 = .ok (.newarray .int, 2) := by decide +kernel
theorem dX7_init_152 : decode cX7_init 152 = .ok (.putfield 55, 3) := by decide +kernel
theorem dX7_init_155 : decode cX7_init 155 = .ok (.aload_n 0, 1) := by decide +kernel
theorem dX7_init_156 : decode cX7_init 156 = .ok (.sipush 1200, 3) := by decide +kernel
theorem dX7_init_159 : decode cX7_init 159 = .ok (.newarray .int, 2) := by decide +kernel
theorem dX7_init_161 : decode cX7_init 161 = .ok (.putfield 58, 3) := by decide +kernel
theorem dX7_init_164 : decode cX7_init 164 = .ok (.aload_n 0, 1) := by decide +kernel
theorem dX7_init_165 : decode cX7_init 165 = .ok (.sipush 330, 3) := by decide +kernel
theorem dX7_init_168 : decode cX7_init 168 = .ok (.newarray .boolean, 2) := by decide +kernel
theorem dX7_init_170 : decode cX7_init 170 = .ok (.putfield 61, 3) := by decide +kernel
theorem dX7_init_173 : decode cX7_init 173 = .ok (.aload_n 0, 1) := by decide +kernel
theorem dX7_init_174 : decode cX7_init 174 = .ok (.iconst 3, 1) := by decide +kernel
theorem dX7_init_175 : decode cX7_init 175 = .ok (.newarray .int, 2) := by decide +kernel
theorem dX7_init_177 : decode cX7_init 177 = .ok (.putfield 65, 3) := by decide +kernel
theorem dX7_init_180 : decode cX7_init 180 = .ok (.aload_n 0, 1) := by decide +kernel
theorem dX7_init_181 : decode cX7_init 181 = .ok (.bipush 40, 2) := by decide +kernel
theorem dX7_init_183 : decode cX7_init 183 = .ok (.newarray .int, 2) := by decide +kernel
theorem dX7_init_185 : decode cX7_init 185 = .ok (.putfield 68, 3) := by decide +kernel
theorem dX7_init_188 : decode cX7_init 188 = .ok (.aload_n 0, 1) := by decide +kernel
theorem dX7_init_189 : decode cX7_init 189 = .ok (.bipush 40, 2) := by decide +kernel
theorem dX7_init_191 : decode cX7_init 191 = .ok (.newarray .int, 2) := by decide +kernel
theorem dX7_init_193 : decode cX7_init 193 = .ok (.putfield 71, 3) := by decide +kernel
theorem dX7_init_196 : decode cX7_init 196 = .ok (.aload_n 0, 1) := by decide +kernel
theorem dX7_init_197 : decode cX7_init 197 = .ok (.bipush 40, 2) := by decide +kernel
theorem dX7_init_199 : decode cX7_init 199 = .ok (.newarray .int, 2) := by decide +kernel
theorem dX7_init_201 : decode cX7_init 201 = .ok (.putfield 74, 3) := by decide +kernel
theorem dX7_init_204 : decode cX7_init 204 = .ok (.aload_n 0, 1) := by decide +kernel
theorem dX7_init_205 : decode cX7_init 205 = .ok (.sipush 600, 3) := by decide +kernel
theorem dX7_init_208 : decode cX7_init 208 = .ok (.newarray .int, 2) := by decide +kernel
theorem dX7_init_210 : decode cX7_init 210 = .ok (.putfield 77, 3) := by decide +kernel
theorem dX7_init_213 : decode cX7_init 213 = .ok (.aload_n 0, 1) := by decide +kernel
theorem dX7_init_214 : decode cX7_init 214 = .ok (.bipush 40, 2) := by decide +kernel
theorem dX7_init_216 : decode cX7_init 216 = .ok (.newarray .int, 2) := by decide +kernel
theorem dX7_init_218 : decode cX7_init 218 = .ok (.putfield 80, 3) := by decide +kernel
theorem dX7_init_221 : decode cX7_init 221 = .ok (.aload_n 0, 1) := by decide +kernel
theorem dX7_init_222 : decode cX7_init 222 = .ok (.bipush 40, 2) := by decide +kernel
theorem dX7_init_224 : decode cX7_init 224 = .ok (.newarray .int, 2) := by decide +kernel
theorem dX7_init_226 : decode cX7_init 226 = .ok (.putfield 83, 3) := by decide +kernel
theorem dX7_init_229 : decode cX7_init 229 = .ok (.aload_n 0, 1) := by decide +kernel
theorem dX7_init_230 : decode cX7_init 230 = .ok (.bipush 40, 2) := by decide +kernel
theorem dX7_init_232 : decode cX7_init 232 = .ok (.newarray .int, 2) := by decide +kernel
theorem dX7_init_234 : decode cX7_init 234 = .ok (.putfield 86, 3) := by decide +kernel
theorem dX7_init_237 : decode cX7_init 237 = .ok (.iconst 0, 1) := by decide +kernel
theorem dX7_init_238 : decode cX7_init 238 = .ok (.istore_n 1, 1) := by decide +kernel
theorem dX7_init_239 : decode cX7_init 239 = .ok (.iload_n 1, 1) := by decide +kernel
theorem dX7_init_240 : decode cX7_init 240 = .ok (.sipush 330, 3) := by decide +kernel
theorem dX7_init_243 : decode cX7_init 243 = .ok (.if_icmp .ge 16, 3) := by decide +kernel
theorem dX7_init_246 : decode cX7_init 246 = .ok (.aload_n 0, 1) := by decide +kernel
theorem dX7_init_247 : decode cX7_init 247 = .ok (.getfield 22, 3) := by decide +kernel
theorem dX7_init_250 : decode cX7_init 250 = .ok (.iload_n 1, 1) := by decide +kernel
theorem dX7_init_251 : decode cX7_init 251 = .ok (.iconst (-1), 1) := by decide +kernel
theorem dX7_init_252 : decode cX7_init 252 = .ok (.iastore, 1) := by decide +kernel
theorem dX7_init_253 : decode cX7_init 253 = .ok (.iinc 1 1, 3) := by decide +kernel
theorem dX7_init_256 : decode cX7_init 256 = .ok (.goto (-17), 3) := by decide +kernel
theorem dX7_init_259 : decode cX7_init 259 = .ok (.return_, 1) := by decide +kernel
theorem dX7_in_0 : decode cX7_in 0 = .ok (.lload_n 0, 1) := by decide +kernel
theorem dX7_in_1 : decode cX7_in 1 = .ok (.lload_n 2, 1) := by decide +kernel
theorem dX7_in_2 : decode cX7_in 2 = .ok (.lcmp, 1) := by decide +kernel
theorem dX7_in_3 : decode cX7_in 3 = .ok (.ifCond .lt 14, 3) := by decide +kernel
theorem dX7_in_6 : decode cX7_in 6 = .ok (.lload_n 0, 1) := by decide +kernel
theorem dX7_in_7 : decode cX7_in 7 = .ok (.lload 4, 2) := by decide +kernel
theorem dX7_in_9 : decode cX7_in 9 = .ok (.lcmp, 1) := by decide +kernel
theorem dX7_in_10 : decode cX7_in 10 = .ok (.ifCond .gt 7, 3) := by decide +kernel
theorem dX7_in_13 : decode cX7_in 13 = .ok (.iconst 1, 1) := by decide +kernel
theorem dX7_in_14 : decode cX7_in 14 = .ok (.goto 4, 3) := by decide +kernel
theorem dX7_in_17 : decode cX7_in 17 = .ok (.iconst 0, 1) := by decide +kernel
theorem dX7_in_18 : decode cX7_in 18 = .ok (.ireturn, 1) := by decide +kernel
theorem dX7_write_0 : decode cX7_write 0 = .ok (.aload_n 0, 1) := by decide +kernel
theorem dX7_write_1 : decode cX7_write 1 = .ok (.getfield 93, 3) := by decide +kernel
theorem dX7_write_4 : decode cX7_write 4 = .ok (.bipush 24, 2) := by decide +kernel
theorem dX7_write_6 : decode cX7_write 6 = .ok (.if_icmp .eq 12, 3) := by decide +kernel
theorem dX7_write_9 : decode cX7_write 9 = .ok (.aload_n 0, 1) := by decide +kernel
theorem dX7_write_10 : decode cX7_write 10 = .ok (.getfield 96, 3) := by decide +kernel
theorem dX7_write_13 : decode cX7_write 13 = .ok (.ldc 99, 2) := by decide +kernel
theorem dX7_write_15 : decode cX7_write 15 = .ok (.if_icmp .ne 6, 3) := by decide +kernel
theorem dX7_write_18 : decode cX7_write 18 = .ok (.ldc 100, 2) := by decide +kernel
theorem dX7_write_20 : decode cX7_write 20 = .ok (.ireturn, 1) := by decide +kernel
theorem dX7_write_21 : decode cX7_write 21 = .ok (.aload_n 0, 1) := by decide +kernel
theorem dX7_write_22 : decode cX7_write 22 = .ok (.dup, 1) := by decide +kernel
theorem dX7_write_23 : decode cX7_write 23 = .ok (.getfield 96, 3) := by decide +kernel
theorem dX7_write_26 : decode cX7_write 26 = .ok (.iconst 1, 1) := by decide +kernel
theorem dX7_write_27 : decode cX7_write 27 = .ok (.iadd, 1) := by decide +kernel
theorem dX7_write_28 : decode cX7_write 28 = .ok (.putfield 96, 3) := by decide +kernel
theorem dX7_write_31 : decode cX7_write 31 = .ok (.aload_n 0, 1) := by decide +kernel
theorem dX7_write_32 : decode cX7_write 32 = .ok (.getfield 7, 3) := by decide +kernel
theorem dX7_write_35 : decode cX7_write 35 = .ok (.aload_n 0, 1) := by decide +kernel
theorem dX7_write_36 : decode cX7_write 36 = .ok (.getfield 93, 3) := by decide +kernel
theorem dX7_write_39 : decode cX7_write 39 = .ok (.iload_n 1, 1) := by decide +kernel
theorem dX7_write_40 : decode cX7_write 40 = .ok (.iastore, 1) := by decide +kernel
theorem dX7_write_41 : decode cX7_write 41 = .ok (.aload_n 0, 1) := by decide +kernel
theorem dX7_write_42 : decode cX7_write 42 = .ok (.getfield 13, 3) := by decide +kernel
theorem dX7_write_45 : decode cX7_write 45 = .ok (.aload_n 0, 1) := by decide +kernel
theorem dX7_write_46 : decode cX7_write 46 = .ok (.getfield 93, 3) := by decide +kernel
theorem dX7_write_49 : decode cX7_write 49 = .ok (.aload_n 0, 1) := by decide +kernel
theorem dX7_write_50 : decode cX7_write 50 = .ok (.getfield 96, 3) := by decide +kernel
theorem dX7_write_53 : decode cX7_write 53 = .ok (.iastore, 1) := by decide +kernel
theorem dX7_write_54 : decode cX7_write 54 = .ok (.aload_n 0, 1) := by decide +kernel
theorem dX7_write_55 : decode cX7_write 55 = .ok (.getfield 16, 3) := by decide +kernel
theorem dX7_write_58 : decode cX7_write 58 = .ok (.aload_n 0, 1) := by decide +kernel
theorem dX7_write_59 : decode cX7_write 59 = .ok (.getfield 93, 3) := by decide +kernel
theorem dX7_write_62 : decode cX7_write 62 = .ok (.iload_n 2, 1) := by decide +kernel
theorem dX7_write_63 : decode cX7_write 63 = .ok (.iastore, 1) := by decide +kernel
theorem dX7_write_64 : decode cX7_write 64 = .ok (.aload_n 0, 1) := by decide +kernel
theorem dX7_write_65 : decode cX7_write 65 = .ok (.dup, 1) := by decide +kernel
theorem dX7_write_66 : decode cX7_write 66 = .ok (.getfield 93, 3) := by decide +kernel
theorem dX7_write_69 : decode cX7_write 69 = .ok (.iconst 1, 1) := by decide +kernel
theorem dX7_write_70 : decode cX7_write 70 = .ok (.iadd, 1) := by decide +kernel
theorem dX7_write_71 : decode cX7_write 71 = .ok (.putfield 93, 3) := by decide +kernel
theorem dX7_write_74 : decode cX7_write 74 = .ok (.aload_n 0, 1) := by decide +kernel
theorem dX7_write_75 : decode cX7_write 75 = .ok (.getfield 96, 3) := by decide +kernel
theorem dX7_write_78 : decode cX7_write 78 = .ok (.ireturn, 1) := by decide +kernel
theorem dX7_put_0 : decode cX7_put 0 = .ok (.aload_n 0, 1) := by decide +kernel
theorem dX7_put_1 : decode cX7_put 1 = .ok (.iconst 0, 1) := by decide +kernel
theorem dX7_put_2 : decode cX7_put 2 = .ok (.putfield 89, 3) := by decide +kernel
theorem dX7_put_5 : decode cX7_put 5 = .ok (.iload_n 1, 1) := by decide +kernel
theorem dX7_put_6 : decode cX7_put 6 = .ok (.i2l, 1) := by decide +kernel
theorem dX7_put_7 : decode cX7_put 7 = .ok (.lconst 0, 1) := by decide +kernel
theorem dX7_put_8 : decode cX7_put 8 = .ok (.ldc2_w 101, 3) := by decide +kernel
theorem dX7_put_11 : decode cX7_put 11 = .ok (.invokestatic 103, 3) := by decide +kernel
theorem dX7_put_14 : decode cX7_put 14 = .ok (.ifCond .eq 17, 3) := by decide +kernel
theorem dX7_put_17 : decode cX7_put 17 = .ok (.iload_n 2, 1) := by decide +kernel
theorem dX7_put_18 : decode cX7_put 18 = .ok (.i2l, 1) := by decide +kernel
theorem dX7_put_19 : decode cX7_put 19 = .ok (.ldc2_w 107, 3) := by decide +kernel
theorem dX7_put_22 : decode cX7_put 22 = .ok (.ldc2_w 109, 3) := by decide +kernel
theorem dX7_put_25 : decode cX7_put 25 = .ok (.invokestatic 103, 3) := by decide +kernel
theorem dX7_put_28 : decode cX7_put 28 = .ok (.ifCond .ne 8, 3) := by decide +kernel
theorem dX7_put_31 : decode cX7_put 31 = .ok (.ldc 111, 2) := by decide +kernel
theorem dX7_put_33 : decode cX7_put 33 = .ok (.goto 9, 3) := by decide +kernel
theorem dX7_put_36 : decode cX7_put 36 = .ok (.aload_n 0, 1) := by decide +kernel
theorem dX7_put_37 : decode cX7_put 37 = .ok (.iload_n 1, 1) := by decide +kernel
theorem dX7_put_38 : decode cX7_put 38 = .ok (.iload_n 2, 1) := by decide +kernel
theorem dX7_put_39 : decode cX7_put 39 = .ok (.invokevirtual 112, 3) := by decide +kernel
theorem dX7_put_42 : decode cX7_put 42 = .ok (.ireturn, 1) := by decide +kernel
theorem dX7_drop_0 : decode cX7_drop 0 = .ok (.aload_n 0, 1) := by decide +kernel
theorem dX7_drop_1 : decode cX7_drop 1 = .ok (.iconst 0, 1) := by decide +kernel
theorem dX7_drop_2 : decode cX7_drop 2 = .ok (.putfield 89, 3) := by decide +kernel
theorem dX7_drop_5 : decode cX7_drop 5 = .ok (.iload_n 1, 1) := by decide +kernel
theorem dX7_drop_6 : decode cX7_drop 6 = .ok (.i2l, 1) := by decide +kernel
theorem dX7_drop_7 : decode cX7_drop 7 = .ok (.lconst 0, 1) := by decide +kernel
theorem dX7_drop_8 : decode cX7_drop 8 = .ok (.ldc2_w 101, 3) := by decide +kernel
theorem dX7_drop_11 : decode cX7_drop 11 = .ok (.invokestatic 103, 3) := by decide +kernel
theorem dX7_drop_14 : decode cX7_drop 14 = .ok (.ifCond .ne 8, 3) := by decide +kernel
theorem dX7_drop_17 : decode cX7_drop 17 = .ok (.ldc 111, 2) := by decide +kernel
theorem dX7_drop_19 : decode cX7_drop 19 = .ok (.goto 10, 3) := by decide +kernel
theorem dX7_drop_22 : decode cX7_drop 22 = .ok (.aload_n 0, 1) := by decide +kernel
theorem dX7_drop_23 : decode cX7_drop 23 = .ok (.iload_n 1, 1) := by decide +kernel
theorem dX7_drop_24 : decode cX7_drop 24 = .ok (.ldc 116, 2) := by decide +kernel
theorem dX7_drop_26 : decode cX7_drop 26 = .ok (.invokevirtual 112, 3) := by decide +kernel
theorem dX7_drop_29 : decode cX7_drop 29 = .ok (.ireturn, 1) := by decide +kernel
theorem dX7_sync_0 : decode cX7_sync 0 = .ok (.aload_n 0, 1) := by decide +kernel
theorem dX7_sync_1 : decode cX7_sync 1 = .ok (.iconst 0, 1) := by decide +kernel
theorem dX7_sync_2 : decode cX7_sync 2 = .ok (.putfield 89, 3) := by decide +kernel
theorem dX7_sync_5 : decode cX7_sync 5 = .ok (.aload_n 0, 1) := by decide +kernel
theorem dX7_sync_6 : decode cX7_sync 6 = .ok (.getfield 93, 3) := by decide +kernel
theorem dX7_sync_9 : decode cX7_sync 9 = .ok (.aload_n 0, 1) := by decide +kernel
theorem dX7_sync_10 : decode cX7_sync 10 = .ok (.getfield 117, 3) := by decide +kernel
theorem dX7_sync_13 : decode cX7_sync 13 = .ok (.isub, 1) := by decide +kernel
theorem dX7_sync_14 : decode cX7_sync 14 = .ok (.istore_n 1, 1) := by decide +kernel
theorem dX7_sync_15 : decode cX7_sync 15 = .ok (.aload_n 0, 1) := by decide +kernel
theorem dX7_sync_16 : decode cX7_sync 16 = .ok (.aload_n 0, 1) := by decide +kernel
theorem dX7_sync_17 : decode cX7_sync 17 = .ok (.getfield 93, 3) := by decide +kernel
theorem dX7_sync_20 : decode cX7_sync 20 = .ok (.putfield 117, 3) := by decide +kernel
theorem dX7_sync_23 : decode cX7_sync 23 = .ok (.iload_n 1, 1) := by decide +kernel
theorem dX7_sync_24 : decode cX7_sync 24 = .ok (.ireturn, 1) := by decide +kernel
theorem dX7_crash_0 : decode cX7_crash 0 = .ok (.aload_n 0, 1) := by decide +kernel
theorem dX7_crash_1 : decode cX7_crash 1 = .ok (.iconst 0, 1) := by decide +kernel
theorem dX7_crash_2 : decode cX7_crash 2 = .ok (.putfield 89, 3) := by decide +kernel
theorem dX7_crash_5 : decode cX7_crash 5 = .ok (.iload_n 1, 1) := by decide +kernel
theorem dX7_crash_6 : decode cX7_crash 6 = .ok (.i2l, 1) := by decide +kernel
theorem dX7_crash_7 : decode cX7_crash 7 = .ok (.lconst 0, 1) := by decide +kernel
theorem dX7_crash_8 : decode cX7_crash 8 = .ok (.aload_n 0, 1) := by decide +kernel
theorem dX7_crash_9 : decode cX7_crash 9 = .ok (.getfield 93, 3) := by decide +kernel
theorem dX7_crash_12 : decode cX7_crash 12 = .ok (.aload_n 0, 1) := by decide +kernel
theorem dX7_crash_13 : decode cX7_crash 13 = .ok (.getfield 117, 3) := by decide +kernel
theorem dX7_crash_16 : decode cX7_crash 16 = .ok (.isub, 1) := by decide +kernel
theorem dX7_crash_17 : decode cX7_crash 17 = .ok (.i2l, 1) := by decide +kernel
theorem dX7_crash_18 : decode cX7_crash 18 = .ok (.invokestatic 103, 3) := by decide +kernel
theorem dX7_crash_21 : decode cX7_crash 21 = .ok (.ifCond .ne 6, 3) := by decide +kernel
theorem dX7_crash_24 : decode cX7_crash 24 = .ok (.ldc 111, 2) := by decide +kernel
theorem dX7_crash_26 : decode cX7_crash 26 = .ok (.ireturn, 1) := by decide +kernel
theorem dX7_crash_27 : decode cX7_crash 27 = .ok (.aload_n 0, 1) := by decide +kernel
theorem dX7_crash_28 : decode cX7_crash 28 = .ok (.aload_n 0, 1) := by decide +kernel
theorem dX7_crash_29 : decode cX7_crash 29 = .ok (.getfield 117, 3) := by decide +kernel
theorem dX7_crash_32 : decode cX7_crash 32 = .ok (.iload_n 1, 1) := by decide +kernel
theorem dX7_crash_33 : decode cX7_crash 33 = .ok (.iadd, 1) := by decide +kernel
theorem dX7_crash_34 : decode cX7_crash 34 = .ok (.putfield 93, 3) := by decide +kernel
theorem dX7_crash_37 : decode cX7_crash 37 = .ok (.aload_n 0, 1) := by decide +kernel
theorem dX7_crash_38 : decode cX7_crash 38 = .ok (.invokevirtual 120, 3) := by decide +kernel
theorem dX7_crash_41 : decode cX7_crash 41 = .ok (.pop, 1) := by decide +kernel
theorem dX7_crash_42 : decode cX7_crash 42 = .ok (.aload_n 0, 1) := by decide +kernel
theorem dX7_crash_43 : decode cX7_crash 43 = .ok (.iconst 0, 1) := by decide +kernel
theorem dX7_crash_44 : decode cX7_crash 44 = .ok (.putfield 96, 3) := by decide +kernel
theorem dX7_crash_47 : decode cX7_crash 47 = .ok (.iconst 0, 1) := by decide +kernel
theorem dX7_crash_48 : decode cX7_crash 48 = .ok (.istore_n 2, 1) := by decide +kernel
theorem dX7_crash_49 : decode cX7_crash 49 = .ok (.iload_n 2, 1) := by decide +kernel
theorem dX7_crash_50 : decode cX7_crash 50 = .ok (.aload_n 0, 1) := by decide +kernel
theorem dX7_crash_51 : decode cX7_crash 51 = .ok (.getfield 93, 3) := by decide +kernel
theorem dX7_crash_54 : decode cX7_crash 54 = .ok (.if_icmp .ge 39, 3) := by decide +kernel
theorem dX7_crash_57 : decode cX7_crash 57 = .ok (.aload_n 0, 1) := by decide +kernel
theorem dX7_crash_58 : decode cX7_crash 58 = .ok (.aload_n 0, 1) := by decide +kernel
theorem dX7_crash_59 : decode cX7_crash 59 = .ok (.getfield 13, 3) := by decide +kernel
theorem dX7_crash_62 : decode cX7_crash 62 = .ok (.iload_n 2, 1) := by decide +kernel
theorem dX7_crash_63 : decode cX7_crash 63 = .ok (.iaload, 1) := by decide +kernel
theorem dX7_crash_64 : decode cX7_crash 64 = .ok (.aload_n 0, 1) := by decide +kernel
theorem dX7_crash_65 : decode cX7_crash 65 = .ok (.getfield 96, 3) := by decide +kernel
theorem dX7_crash_68 : decode cX7_crash 68 = .ok (.if_icmp .le 12, 3) := by decide +kernel
theorem dX7_crash_71 : decode cX7_crash 71 = .ok (.aload_n 0, 1) := by decide +kernel
theorem dX7_crash_72 : decode cX7_crash 72 = .ok (.getfield 13, 3) := by decide +kernel
theorem dX7_crash_75 : decode cX7_crash 75 = .ok (.iload_n 2, 1) := by decide +kernel
theorem dX7_crash_76 : decode cX7_crash 76 = .ok (.iaload, 1) := by decide +kernel
theorem dX7_crash_77 : decode cX7_crash 77 = .ok (.goto 7, 3) := by decide +kernel
theorem dX7_crash_80 : decode cX7_crash 80 = .ok (.aload_n 0, 1) := by decide +kernel
theorem dX7_crash_81 : decode cX7_crash 81 = .ok (.getfield 96, 3) := by decide +kernel
theorem dX7_crash_84 : decode cX7_crash 84 = .ok (.putfield 96, 3) := by decide +kernel
theorem dX7_crash_87 : decode cX7_crash 87 = .ok (.iinc 2 1, 3) := by decide +kernel
theorem dX7_crash_90 : decode cX7_crash 90 = .ok (.goto (-41), 3) := by decide +kernel
theorem dX7_crash_93 : decode cX7_crash 93 = .ok (.iconst 0, 1) := by decide +kernel
theorem dX7_crash_94 : decode cX7_crash 94 = .ok (.istore_n 2, 1) := by decide +kernel
theorem dX7_crash_95 : decode cX7_crash 95 = .ok (.iload_n 2, 1) := by decide +kernel
theorem dX7_crash_96 : decode cX7_crash 96 = .ok (.sipush 330, 3) := by decide +kernel
theorem dX7_crash_99 : decode cX7_crash 99 = .ok (.if_icmp .ge 74, 3) := by decide +kernel
theorem dX7_crash_102 : decode cX7_crash 102 = .ok (.bipush 30, 2) := by decide +kernel
theorem dX7_crash_104 : decode cX7_crash 104 = .ok (.iload_n 2, 1) := by decide +kernel
theorem dX7_crash_105 : decode cX7_crash 105 = .ok (.imul, 1) := by decide +kernel
theorem dX7_crash_106 : decode cX7_crash 106 = .ok (.istore_n 3, 1) := by decide +kernel
theorem dX7_crash_107 : decode cX7_crash 107 = .ok (.aload_n 0, 1) := by decide +kernel
theorem dX7_crash_108 : decode cX7_crash 108 = .ok (.getfield 22, 3) := by decide +kernel
theorem dX7_crash_111 : decode cX7_crash 111 = .ok (.iload_n 2, 1) := by decide +kernel
theorem dX7_crash_112 : decode cX7_crash 112 = .ok (.iaload, 1) := by decide +kernel
theorem dX7_crash_113 : decode cX7_crash 113 = .ok (.ifCond .lt 54, 3) := by decide +kernel
theorem dX7_crash_116 : decode cX7_crash 116 = .ok (.iload_n 3, 1) := by decide +kernel
theorem dX7_crash_117 : decode cX7_crash 117 = .ok (.bipush 30, 2) := by decide +kernel
theorem dX7_crash_119 : decode cX7_crash 119 = .ok (.iload_n 2, 1) := by decide +kernel
theorem dX7_crash_120 : decode cX7_crash 120 = .ok (.imul, 1) := by decide +kernel
theorem dX7_crash_121 : decode cX7_crash 121 = .ok (.aload_n 0, 1) := by decide +kernel
theorem dX7_crash_122 : decode cX7_crash 122 = .ok (.getfield 34, 3) := by decide +kernel
theorem dX7_crash_125 : decode cX7_crash 125 = .ok (.iload_n 2, 1) := by decide +kernel
theorem dX7_crash_126 : decode cX7_crash 126 = .ok (.iaload, 1) := by decide +kernel
theorem dX7_crash_127 : decode cX7_crash 127 = .ok (.iadd, 1) := by decide +kernel
theorem dX7_crash_128 : decode cX7_crash 128 = .ok (.if_icmp .ge 39, 3) := by decide +kernel
theorem dX7_crash_131 : decode cX7_crash 131 = .ok (.aload_n 0, 1) := by decide +kernel
theorem dX7_crash_132 : decode cX7_crash 132 = .ok (.aload_n 0, 1) := by decide +kernel
theorem dX7_crash_133 : decode cX7_crash 133 = .ok (.getfield 40, 3) := by decide +kernel
theorem dX7_crash_136 : decode cX7_crash 136 = .ok (.iload_n 3, 1) := by decide +kernel
theorem dX7_crash_137 : decode cX7_crash 137 = .ok (.iaload, 1) := by decide +kernel
theorem dX7_crash_138 : decode cX7_crash 138 = .ok (.aload_n 0, 1) := by decide +kernel
theorem dX7_crash_139 : decode cX7_crash 139 = .ok (.getfield 96, 3) := by decide +kernel
theorem dX7_crash_142 : decode cX7_crash 142 = .ok (.if_icmp .le 12, 3) := by decide +kernel
theorem dX7_crash_145 : decode cX7_crash 145 = .ok (.aload_n 0, 1) := by decide +kernel
theorem dX7_crash_146 : decode cX7_crash 146 = .ok (.getfield 40, 3) := by decide +kernel
theorem dX7_crash_149 : decode cX7_crash 149 = .ok (.iload_n 3, 1) := by decide +kernel
theorem dX7_crash_150 : decode cX7_crash 150 = .ok (.iaload, 1) := by decide +kernel
theorem dX7_crash_151 : decode cX7_crash 151 = .ok (.goto 7, 3) := by decide +kernel
theorem dX7_crash_154 : decode cX7_crash 154 = .ok (.aload_n 0, 1) := by decide +kernel
theorem dX7_crash_155 : decode cX7_crash 155 = .ok (.getfield 96, 3) := by decide +kernel
theorem dX7_crash_158 : decode cX7_crash 158 = .ok (.putfield 96, 3) := by decide +kernel
theorem dX7_crash_161 : decode cX7_crash 161 = .ok (.iinc 3 1, 3) := by decide +kernel
theorem dX7_crash_164 : decode cX7_crash 164 = .ok (.goto (-57), 3) := by decide +kernel
theorem dX7_crash_167 : decode cX7_crash 167 = .ok (.iinc 2 1, 3) := by decide +kernel
theorem dX7_crash_170 : decode cX7_crash 170 = .ok (.goto (-75), 3) := by decide +kernel
theorem dX7_crash_173 : decode cX7_crash 173 = .ok (.iconst 0, 1) := by decide +kernel
theorem dX7_crash_174 : decode cX7_crash 174 = .ok (.istore_n 2, 1) := by decide +kernel
theorem dX7_crash_175 : decode cX7_crash 175 = .ok (.iload_n 2, 1) := by decide +kernel
theorem dX7_crash_176 : decode cX7_crash 176 = .ok (.iconst 3, 1) := by decide +kernel
theorem dX7_crash_177 : decode cX7_crash 177 = .ok (.if_icmp .ge 16, 3) := by decide +kernel
theorem dX7_crash_180 : decode cX7_crash 180 = .ok (.aload_n 0, 1) := by decide +kernel
theorem dX7_crash_181 : decode cX7_crash 181 = .ok (.getfield 19, 3) := by decide +kernel
theorem dX7_crash_184 : decode cX7_crash 184 = .ok (.iload_n 2, 1) := by decide +kernel
theorem dX7_crash_185 : decode cX7_crash 185 = .ok (.iconst (-1), 1) := by decide +kernel
theorem dX7_crash_186 : decode cX7_crash 186 = .ok (.iastore, 1) := by decide +kernel
theorem dX7_crash_187 : decode cX7_crash 187 = .ok (.iinc 2 1, 3) := by decide +kernel
theorem dX7_crash_190 : decode cX7_crash 190 = .ok (.goto (-15), 3) := by decide +kernel
theorem dX7_crash_193 : decode cX7_crash 193 = .ok (.aload_n 0, 1) := by decide +kernel
theorem dX7_crash_194 : decode cX7_crash 194 = .ok (.getfield 93, 3) := by decide +kernel
theorem dX7_crash_197 : decode cX7_crash 197 = .ok (.ireturn, 1) := by decide +kernel
theorem dX7_read_0 : decode cX7_read 0 = .ok (.iconst 0, 1) := by decide +kernel
theorem dX7_read_1 : decode cX7_read 1 = .ok (.istore_n 3, 1) := by decide +kernel
theorem dX7_read_2 : decode cX7_read 2 = .ok (.ldc 116, 2) := by decide +kernel
theorem dX7_read_4 : decode cX7_read 4 = .ok (.istore 4, 2) := by decide +kernel
theorem dX7_read_6 : decode cX7_read 6 = .ok (.iconst 0, 1) := by decide +kernel
theorem dX7_read_7 : decode cX7_read 7 = .ok (.istore 5, 2) := by decide +kernel
theorem dX7_read_9 : decode cX7_read 9 = .ok (.iload 5, 2) := by decide +kernel
theorem dX7_read_11 : decode cX7_read 11 = .ok (.aload_n 0, 1) := by decide +kernel
theorem dX7_read_12 : decode cX7_read 12 = .ok (.getfield 93, 3) := by decide +kernel
theorem dX7_read_15 : decode cX7_read 15 = .ok (.if_icmp .ge 59, 3) := by decide +kernel
theorem dX7_read_18 : decode cX7_read 18 = .ok (.aload_n 0, 1) := by decide +kernel
theorem dX7_read_19 : decode cX7_read 19 = .ok (.getfield 7, 3) := by decide +kernel
theorem dX7_read_22 : decode cX7_read 22 = .ok (.iload 5, 2) := by decide +kernel
theorem dX7_read_24 : decode cX7_read 24 = .ok (.iaload, 1) := by decide +kernel
theorem dX7_read_25 : decode cX7_read 25 = .ok (.iload_n 1, 1) := by decide +kernel
theorem dX7_read_26 : decode cX7_read 26 = .ok (.if_icmp .ne 42, 3) := by decide +kernel
theorem dX7_read_29 : decode cX7_read 29 = .ok (.aload_n 0, 1) := by decide +kernel
theorem dX7_read_30 : decode cX7_read 30 = .ok (.getfield 13, 3) := by decide +kernel
theorem dX7_read_33 : decode cX7_read 33 = .ok (.iload 5, 2) := by decide +kernel
theorem dX7_read_35 : decode cX7_read 35 = .ok (.iaload, 1) := by decide +kernel
theorem dX7_read_36 : decode cX7_read 36 = .ok (.iload_n 2, 1) := by decide +kernel
theorem dX7_read_37 : decode cX7_read 37 = .ok (.if_icmp .gt 31, 3) := by decide +kernel
theorem dX7_read_40 : decode cX7_read 40 = .ok (.aload_n 0, 1) := by decide +kernel
theorem dX7_read_41 : decode cX7_read 41 = .ok (.getfield 13, 3) := by decide +kernel
theorem dX7_read_44 : decode cX7_read 44 = .ok (.iload 5, 2) := by decide +kernel
theorem dX7_read_46 : decode cX7_read 46 = .ok (.iaload, 1) := by decide +kernel
theorem dX7_read_47 : decode cX7_read 47 = .ok (.iload_n 3, 1) := by decide +kernel
theorem dX7_read_48 : decode cX7_read 48 = .ok (.if_icmp .le 20, 3) := by decide +kernel
theorem dX7_read_51 : decode cX7_read 51 = .ok (.aload_n 0, 1) := by decide +kernel
theorem dX7_read_52 : decode cX7_read 52 = .ok (.getfield 13, 3) := by decide +kernel
theorem dX7_read_55 : decode cX7_read 55 = .ok (.iload 5, 2) := by decide +kernel
theorem dX7_read_57 : decode cX7_read 57 = .ok (.iaload, 1) := by decide +kernel
theorem dX7_read_58 : decode cX7_read 58 = .ok (.istore_n 3, 1) := by decide +kernel
theorem dX7_read_59 : decode cX7_read 59 = .ok (.aload_n 0, 1) := by decide +kernel
theorem dX7_read_60 : decode cX7_read 60 = .ok (.getfield 16, 3) := by decide +kernel
theorem dX7_read_63 : decode cX7_read 63 = .ok (.iload 5, 2) := by decide +kernel
theorem dX7_read_65 : decode cX7_read 65 = .ok (.iaload, 1) := by decide +kernel
theorem dX7_read_66 : decode cX7_read 66 = .ok (.istore 4, 2) := by decide +kernel
theorem dX7_read_68 : decode cX7_read 68 = .ok (.iinc 5 1, 3) := by decide +kernel
theorem dX7_read_71 : decode cX7_read 71 = .ok (.goto (-62), 3) := by decide +kernel
theorem dX7_read_74 : decode cX7_read 74 = .ok (.iconst 0, 1) := by decide +kernel
theorem dX7_read_75 : decode cX7_read 75 = .ok (.istore 5, 2) := by decide +kernel
theorem dX7_read_77 : decode cX7_read 77 = .ok (.iload 5, 2) := by decide +kernel
theorem dX7_read_79 : decode cX7_read 79 = .ok (.sipush 330, 3) := by decide +kernel
theorem dX7_read_82 : decode cX7_read 82 = .ok (.if_icmp .ge 108, 3) := by decide +kernel
theorem dX7_read_85 : decode cX7_read 85 = .ok (.bipush 30, 2) := by decide +kernel
theorem dX7_read_87 : decode cX7_read 87 = .ok (.iload 5, 2) := by decide +kernel
theorem dX7_read_89 : decode cX7_read 89 = .ok (.imul, 1) := by decide +kernel
theorem dX7_read_90 : decode cX7_read 90 = .ok (.istore 6, 2) := by decide +kernel
theorem dX7_read_92 : decode cX7_read 92 = .ok (.aload_n 0, 1) := by decide +kernel
theorem dX7_read_93 : decode cX7_read 93 = .ok (.getfield 22, 3) := by decide +kernel
theorem dX7_read_96 : decode cX7_read 96 = .ok (.iload 5, 2) := by decide +kernel
theorem dX7_read_98 : decode cX7_read 98 = .ok (.iaload, 1) := by decide +kernel
theorem dX7_read_99 : decode cX7_read 99 = .ok (.i2l, 1) := by decide +kernel
theorem dX7_read_100 : decode cX7_read 100 = .ok (.lconst 0, 1) := by decide +kernel
theorem dX7_read_101 : decode cX7_read 101 = .ok (.ldc2_w 124, 3) := by decide +kernel
theorem dX7_read_104 : decode cX7_read 104 = .ok (.invokestatic 103, 3) := by decide +kernel
theorem dX7_read_107 : decode cX7_read 107 = .ok (.ifCond .eq 77, 3) := by decide +kernel
theorem dX7_read_110 : decode cX7_read 110 = .ok (.iload 6, 2) := by decide +kernel
theorem dX7_read_112 : decode cX7_read 112 = .ok (.bipush 30, 2) := by decide +kernel
theorem dX7_read_114 : decode cX7_read 114 = .ok (.iload 5, 2) := by decide +kernel
theorem dX7_read_116 : decode cX7_read 116 = .ok (.imul, 1) := by decide +kernel
theorem dX7_read_117 : decode cX7_read 117 = .ok (.aload_n 0, 1) := by decide +kernel
theorem dX7_read_118 : decode cX7_read 118 = .ok (.getfield 34, 3) := by decide +kernel
theorem dX7_read_121 : decode cX7_read 121 = .ok (.iload 5, 2) := by decide +kernel
theorem dX7_read_123 : decode cX7_read 123 = .ok (.iaload, 1) := by decide +kernel
theorem dX7_read_124 : decode cX7_read 124 = .ok (.iadd, 1) := by decide +kernel
theorem dX7_read_125 : decode cX7_read 125 = .ok (.if_icmp .ge 59, 3) := by decide +kernel
theorem dX7_read_128 : decode cX7_read 128 = .ok (.aload_n 0, 1) := by decide +kernel
theorem dX7_read_129 : decode cX7_read 129 = .ok (.getfield 37, 3) := by decide +kernel
theorem dX7_read_132 : decode cX7_read 132 = .ok (.iload 6, 2) := by decide +kernel
theorem dX7_read_134 : decode cX7_read 134 = .ok (.iaload, 1) := by decide +kernel
theorem dX7_read_135 : decode cX7_read 135 = .ok (.iload_n 1, 1) := by decide +kernel
theorem dX7_read_136 : decode cX7_read 136 = .ok (.if_icmp .ne 42, 3) := by decide +kernel
theorem dX7_read_139 : decode cX7_read 139 = .ok (.aload_n 0, 1) := by decide +kernel
end
section
theorem dX7_read_140 : decode cX7_read 140 = .ok (.getfield 40, 3) := by decide +kernel
theorem dX7_read_143 : decode cX7_read 143 = .ok (.iload 6, 2) := by decide +kernel
theorem dX7_read_145 : decode cX7_read 145 = .ok (.iaload, 1) := by decide +kernel
theorem dX7_read_146 : decode cX7_read 146 = .ok (.iload_n 2, 1) := by decide +kernel
theorem dX7_read_147 : decode cX7_read 147 = .ok (.if_icmp .gt 31, 3) := by decide +kernel
theorem dX7_read_150 : decode cX7_read 150 = .ok (.aload_n 0, 1) := by decide +kernel
theorem dX7_read_151 : decode cX7_read 151 = .ok (.getfield 40, 3) := by decide +kernel
theorem dX7_read_154 : decode cX7_read 154 = .ok (.iload 6, 2) := by decide +kernel
theorem dX7_read_156 : decode cX7_read 156 = .ok (.iaload, 1) := by decide +kernel
theorem dX7_read_157 : decode cX7_read 157 = .ok (.iload_n 3, 1) := by decide +kernel
theorem dX7_read_158 : decode cX7_read 158 = .ok (.if_icmp .le 20, 3) := by decide +kernel
theorem dX7_read_161 : decode cX7_read 161 = .ok (.aload_n 0, 1) := by decide +kernel
theorem dX7_read_162 : decode cX7_read 162 = .ok (.getfield 40, 3) := by decide +kernel
theorem dX7_read_165 : decode cX7_read 165 = .ok (.iload 6, 2) := by decide +kernel
theorem dX7_read_167 : decode cX7_read 167 = .ok (.iaload, 1) := by decide +kernel
theorem dX7_read_168 : decode cX7_read 168 = .ok (.istore_n 3, 1) := by decide +kernel
theorem dX7_read_169 : decode cX7_read 169 = .ok (.aload_n 0, 1) := by decide +kernel
theorem dX7_read_170 : decode cX7_read 170 = .ok (.getfield 43, 3) := by decide +kernel
theorem dX7_read_173 : decode cX7_read 173 = .ok (.iload 6, 2) := by decide +kernel
theorem dX7_read_175 : decode cX7_read 175 = .ok (.iaload, 1) := by decide +kernel
theorem dX7_read_176 : decode cX7_read 176 = .ok (.istore 4, 2) := by decide +kernel
theorem dX7_read_178 : decode cX7_read 178 = .ok (.iinc 6 1, 3) := by decide +kernel
theorem dX7_read_181 : decode cX7_read 181 = .ok (.goto (-89), 3) := by decide +kernel
theorem dX7_read_184 : decode cX7_read 184 = .ok (.iinc 5 1, 3) := by decide +kernel
theorem dX7_read_187 : decode cX7_read 187 = .ok (.goto (-110), 3) := by decide +kernel
theorem dX7_read_190 : decode cX7_read 190 = .ok (.iload 4, 2) := by decide +kernel
theorem dX7_read_192 : decode cX7_read 192 = .ok (.ireturn, 1) := by decide +kernel
theorem dX7_noView_0 : decode cX7_noView 0 = .ok (.iload_n 1, 1) := by decide +kernel
theorem dX7_noView_1 : decode cX7_noView 1 = .ok (.i2l, 1) := by decide +kernel
theorem dX7_noView_2 : decode cX7_noView 2 = .ok (.lconst 0, 1) := by decide +kernel
theorem dX7_noView_3 : decode cX7_noView 3 = .ok (.ldc2_w 126, 3) := by decide +kernel
theorem dX7_noView_6 : decode cX7_noView 6 = .ok (.invokestatic 103, 3) := by decide +kernel
theorem dX7_noView_9 : decode cX7_noView 9 = .ok (.ifCond .eq 12, 3) := by decide +kernel
theorem dX7_noView_12 : decode cX7_noView 12 = .ok (.aload_n 0, 1) := by decide +kernel
theorem dX7_noView_13 : decode cX7_noView 13 = .ok (.getfield 19, 3) := by decide +kernel
theorem dX7_noView_16 : decode cX7_noView 16 = .ok (.iload_n 1, 1) := by decide +kernel
theorem dX7_noView_17 : decode cX7_noView 17 = .ok (.iaload, 1) := by decide +kernel
theorem dX7_noView_18 : decode cX7_noView 18 = .ok (.ifCond .ge 7, 3) := by decide +kernel
theorem dX7_noView_21 : decode cX7_noView 21 = .ok (.iconst 1, 1) := by decide +kernel
theorem dX7_noView_22 : decode cX7_noView 22 = .ok (.goto 4, 3) := by decide +kernel
theorem dX7_noView_25 : decode cX7_noView 25 = .ok (.iconst 0, 1) := by decide +kernel
theorem dX7_noView_26 : decode cX7_noView 26 = .ok (.ireturn, 1) := by decide +kernel
theorem dX7_get_0 : decode cX7_get 0 = .ok (.aload_n 0, 1) := by decide +kernel
theorem dX7_get_1 : decode cX7_get 1 = .ok (.iconst 0, 1) := by decide +kernel
theorem dX7_get_2 : decode cX7_get 2 = .ok (.putfield 89, 3) := by decide +kernel
theorem dX7_get_5 : decode cX7_get 5 = .ok (.iload_n 1, 1) := by decide +kernel
theorem dX7_get_6 : decode cX7_get 6 = .ok (.i2l, 1) := by decide +kernel
theorem dX7_get_7 : decode cX7_get 7 = .ok (.lconst 0, 1) := by decide +kernel
theorem dX7_get_8 : decode cX7_get 8 = .ok (.ldc2_w 101, 3) := by decide +kernel
theorem dX7_get_11 : decode cX7_get 11 = .ok (.invokestatic 103, 3) := by decide +kernel
theorem dX7_get_14 : decode cX7_get 14 = .ok (.ifCond .eq 13, 3) := by decide +kernel
theorem dX7_get_17 : decode cX7_get 17 = .ok (.aload_n 0, 1) := by decide +kernel
theorem dX7_get_18 : decode cX7_get 18 = .ok (.iload_n 1, 1) := by decide +kernel
theorem dX7_get_19 : decode cX7_get 19 = .ok (.ldc 99, 2) := by decide +kernel
theorem dX7_get_21 : decode cX7_get 21 = .ok (.invokevirtual 128, 3) := by decide +kernel
theorem dX7_get_24 : decode cX7_get 24 = .ok (.goto 5, 3) := by decide +kernel
theorem dX7_get_27 : decode cX7_get 27 = .ok (.ldc 111, 2) := by decide +kernel
theorem dX7_get_29 : decode cX7_get 29 = .ok (.ireturn, 1) := by decide +kernel
theorem dX7_view_0 : decode cX7_view 0 = .ok (.aload_n 0, 1) := by decide +kernel
theorem dX7_view_1 : decode cX7_view 1 = .ok (.iconst 0, 1) := by decide +kernel
theorem dX7_view_2 : decode cX7_view 2 = .ok (.putfield 89, 3) := by decide +kernel
theorem dX7_view_5 : decode cX7_view 5 = .ok (.aload_n 0, 1) := by decide +kernel
theorem dX7_view_6 : decode cX7_view 6 = .ok (.iload_n 1, 1) := by decide +kernel
theorem dX7_view_7 : decode cX7_view 7 = .ok (.invokevirtual 131, 3) := by decide +kernel
theorem dX7_view_10 : decode cX7_view 10 = .ok (.ifCond .eq 8, 3) := by decide +kernel
theorem dX7_view_13 : decode cX7_view 13 = .ok (.ldc 135, 2) := by decide +kernel
theorem dX7_view_15 : decode cX7_view 15 = .ok (.goto 31, 3) := by decide +kernel
theorem dX7_view_18 : decode cX7_view 18 = .ok (.iload_n 2, 1) := by decide +kernel
theorem dX7_view_19 : decode cX7_view 19 = .ok (.i2l, 1) := by decide +kernel
theorem dX7_view_20 : decode cX7_view 20 = .ok (.lconst 0, 1) := by decide +kernel
theorem dX7_view_21 : decode cX7_view 21 = .ok (.ldc2_w 101, 3) := by decide +kernel
theorem dX7_view_24 : decode cX7_view 24 = .ok (.invokestatic 103, 3) := by decide +kernel
theorem dX7_view_27 : decode cX7_view 27 = .ok (.ifCond .eq 17, 3) := by decide +kernel
theorem dX7_view_30 : decode cX7_view 30 = .ok (.aload_n 0, 1) := by decide +kernel
theorem dX7_view_31 : decode cX7_view 31 = .ok (.iload_n 2, 1) := by decide +kernel
theorem dX7_view_32 : decode cX7_view 32 = .ok (.aload_n 0, 1) := by decide +kernel
theorem dX7_view_33 : decode cX7_view 33 = .ok (.getfield 19, 3) := by decide +kernel
theorem dX7_view_36 : decode cX7_view 36 = .ok (.iload_n 1, 1) := by decide +kernel
theorem dX7_view_37 : decode cX7_view 37 = .ok (.iaload, 1) := by decide +kernel
theorem dX7_view_38 : decode cX7_view 38 = .ok (.invokevirtual 128, 3) := by decide +kernel
theorem dX7_view_41 : decode cX7_view 41 = .ok (.goto 5, 3) := by decide +kernel
theorem dX7_view_44 : decode cX7_view 44 = .ok (.ldc 111, 2) := by decide +kernel
theorem dX7_view_46 : decode cX7_view 46 = .ok (.ireturn, 1) := by decide +kernel
theorem dX7_next_0 : decode cX7_next 0 = .ok (.aload_n 0, 1) := by decide +kernel
theorem dX7_next_1 : decode cX7_next 1 = .ok (.iconst 0, 1) := by decide +kernel
theorem dX7_next_2 : decode cX7_next 2 = .ok (.putfield 89, 3) := by decide +kernel
theorem dX7_next_5 : decode cX7_next 5 = .ok (.iload_n 1, 1) := by decide +kernel
theorem dX7_next_6 : decode cX7_next 6 = .ok (.iconst (-1), 1) := by decide +kernel
theorem dX7_next_7 : decode cX7_next 7 = .ok (.if_icmp .eq 14, 3) := by decide +kernel
theorem dX7_next_10 : decode cX7_next 10 = .ok (.aload_n 0, 1) := by decide +kernel
theorem dX7_next_11 : decode cX7_next 11 = .ok (.iload_n 1, 1) := by decide +kernel
theorem dX7_next_12 : decode cX7_next 12 = .ok (.invokevirtual 131, 3) := by decide +kernel
theorem dX7_next_15 : decode cX7_next 15 = .ok (.ifCond .eq 6, 3) := by decide +kernel
theorem dX7_next_18 : decode cX7_next 18 = .ok (.ldc 135, 2) := by decide +kernel
theorem dX7_next_20 : decode cX7_next 20 = .ok (.ireturn, 1) := by decide +kernel
theorem dX7_next_21 : decode cX7_next 21 = .ok (.iload_n 2, 1) := by decide +kernel
theorem dX7_next_22 : decode cX7_next 22 = .ok (.i2l, 1) := by decide +kernel
theorem dX7_next_23 : decode cX7_next 23 = .ok (.lconst 0, 1) := by decide +kernel
theorem dX7_next_24 : decode cX7_next 24 = .ok (.ldc2_w 101, 3) := by decide +kernel
theorem dX7_next_27 : decode cX7_next 27 = .ok (.invokestatic 103, 3) := by decide +kernel
theorem dX7_next_30 : decode cX7_next 30 = .ok (.ifCond .ne 6, 3) := by decide +kernel
theorem dX7_next_33 : decode cX7_next 33 = .ok (.ldc 111, 2) := by decide +kernel
theorem dX7_next_35 : decode cX7_next 35 = .ok (.ireturn, 1) := by decide +kernel
theorem dX7_next_36 : decode cX7_next 36 = .ok (.iload_n 1, 1) := by decide +kernel
theorem dX7_next_37 : decode cX7_next 37 = .ok (.iconst (-1), 1) := by decide +kernel
theorem dX7_next_38 : decode cX7_next 38 = .ok (.if_icmp .ne 8, 3) := by decide +kernel
theorem dX7_next_41 : decode cX7_next 41 = .ok (.ldc 99, 2) := by decide +kernel
theorem dX7_next_43 : decode cX7_next 43 = .ok (.goto 9, 3) := by decide +kernel
theorem dX7_next_46 : decode cX7_next 46 = .ok (.aload_n 0, 1) := by decide +kernel
theorem dX7_next_47 : decode cX7_next 47 = .ok (.getfield 19, 3) := by decide +kernel
theorem dX7_next_50 : decode cX7_next 50 = .ok (.iload_n 1, 1) := by decide +kernel
theorem dX7_next_51 : decode cX7_next 51 = .ok (.iaload, 1) := by decide +kernel
theorem dX7_next_52 : decode cX7_next 52 = .ok (.istore_n 3, 1) := by decide +kernel
theorem dX7_next_53 : decode cX7_next 53 = .ok (.iload_n 2, 1) := by decide +kernel
theorem dX7_next_54 : decode cX7_next 54 = .ok (.istore 4, 2) := by decide +kernel
theorem dX7_next_56 : decode cX7_next 56 = .ok (.iload 4, 2) := by decide +kernel
theorem dX7_next_58 : decode cX7_next 58 = .ok (.sipush 1000, 3) := by decide +kernel
theorem dX7_next_61 : decode cX7_next 61 = .ok (.if_icmp .ge 24, 3) := by decide +kernel
theorem dX7_next_64 : decode cX7_next 64 = .ok (.aload_n 0, 1) := by decide +kernel
theorem dX7_next_65 : decode cX7_next 65 = .ok (.iload 4, 2) := by decide +kernel
theorem dX7_next_67 : decode cX7_next 67 = .ok (.iload_n 3, 1) := by decide +kernel
theorem dX7_next_68 : decode cX7_next 68 = .ok (.invokevirtual 128, 3) := by decide +kernel
theorem dX7_next_71 : decode cX7_next 71 = .ok (.ldc 116, 2) := by decide +kernel
theorem dX7_next_73 : decode cX7_next 73 = .ok (.if_icmp .eq 6, 3) := by decide +kernel
theorem dX7_next_76 : decode cX7_next 76 = .ok (.iload 4, 2) := by decide +kernel
theorem dX7_next_78 : decode cX7_next 78 = .ok (.ireturn, 1) := by decide +kernel
theorem dX7_next_79 : decode cX7_next 79 = .ok (.iinc 4 1, 3) := by decide +kernel
theorem dX7_next_82 : decode cX7_next 82 = .ok (.goto (-26), 3) := by decide +kernel
theorem dX7_next_85 : decode cX7_next 85 = .ok (.ldc 116, 2) := by decide +kernel
theorem dX7_next_87 : decode cX7_next 87 = .ok (.ireturn, 1) := by decide +kernel
theorem dX7_hold_0 : decode cX7_hold 0 = .ok (.aload_n 0, 1) := by decide +kernel
theorem dX7_hold_1 : decode cX7_hold 1 = .ok (.iconst 0, 1) := by decide +kernel
theorem dX7_hold_2 : decode cX7_hold 2 = .ok (.putfield 89, 3) := by decide +kernel
theorem dX7_hold_5 : decode cX7_hold 5 = .ok (.iload_n 1, 1) := by decide +kernel
theorem dX7_hold_6 : decode cX7_hold 6 = .ok (.i2l, 1) := by decide +kernel
theorem dX7_hold_7 : decode cX7_hold 7 = .ok (.lconst 0, 1) := by decide +kernel
theorem dX7_hold_8 : decode cX7_hold 8 = .ok (.ldc2_w 126, 3) := by decide +kernel
theorem dX7_hold_11 : decode cX7_hold 11 = .ok (.invokestatic 103, 3) := by decide +kernel
theorem dX7_hold_14 : decode cX7_hold 14 = .ok (.ifCond .ne 6, 3) := by decide +kernel
theorem dX7_hold_17 : decode cX7_hold 17 = .ok (.ldc 135, 2) := by decide +kernel
theorem dX7_hold_19 : decode cX7_hold 19 = .ok (.ireturn, 1) := by decide +kernel
theorem dX7_hold_20 : decode cX7_hold 20 = .ok (.aload_n 0, 1) := by decide +kernel
theorem dX7_hold_21 : decode cX7_hold 21 = .ok (.getfield 19, 3) := by decide +kernel
theorem dX7_hold_24 : decode cX7_hold 24 = .ok (.iload_n 1, 1) := by decide +kernel
theorem dX7_hold_25 : decode cX7_hold 25 = .ok (.iaload, 1) := by decide +kernel
theorem dX7_hold_26 : decode cX7_hold 26 = .ok (.ifCond .lt 6, 3) := by decide +kernel
theorem dX7_hold_29 : decode cX7_hold 29 = .ok (.ldc 136, 2) := by decide +kernel
theorem dX7_hold_31 : decode cX7_hold 31 = .ok (.ireturn, 1) := by decide +kernel
theorem dX7_hold_32 : decode cX7_hold 32 = .ok (.aload_n 0, 1) := by decide +kernel
theorem dX7_hold_33 : decode cX7_hold 33 = .ok (.getfield 19, 3) := by decide +kernel
theorem dX7_hold_36 : decode cX7_hold 36 = .ok (.iload_n 1, 1) := by decide +kernel
theorem dX7_hold_37 : decode cX7_hold 37 = .ok (.aload_n 0, 1) := by decide +kernel
theorem dX7_hold_38 : decode cX7_hold 38 = .ok (.getfield 96, 3) := by decide +kernel
theorem dX7_hold_41 : decode cX7_hold 41 = .ok (.iastore, 1) := by decide +kernel
theorem dX7_hold_42 : decode cX7_hold 42 = .ok (.aload_n 0, 1) := by decide +kernel
theorem dX7_hold_43 : decode cX7_hold 43 = .ok (.getfield 96, 3) := by decide +kernel
theorem dX7_hold_46 : decode cX7_hold 46 = .ok (.ireturn, 1) := by decide +kernel
theorem dX7_release_0 : decode cX7_release 0 = .ok (.aload_n 0, 1) := by decide +kernel
theorem dX7_release_1 : decode cX7_release 1 = .ok (.iconst 0, 1) := by decide +kernel
theorem dX7_release_2 : decode cX7_release 2 = .ok (.putfield 89, 3) := by decide +kernel
theorem dX7_release_5 : decode cX7_release 5 = .ok (.aload_n 0, 1) := by decide +kernel
theorem dX7_release_6 : decode cX7_release 6 = .ok (.iload_n 1, 1) := by decide +kernel
theorem dX7_release_7 : decode cX7_release 7 = .ok (.invokevirtual 131, 3) := by decide +kernel
theorem dX7_release_10 : decode cX7_release 10 = .ok (.ifCond .eq 6, 3) := by decide +kernel
theorem dX7_release_13 : decode cX7_release 13 = .ok (.ldc 135, 2) := by decide +kernel
theorem dX7_release_15 : decode cX7_release 15 = .ok (.ireturn, 1) := by decide +kernel
theorem dX7_release_16 : decode cX7_release 16 = .ok (.aload_n 0, 1) := by decide +kernel
theorem dX7_release_17 : decode cX7_release 17 = .ok (.getfield 19, 3) := by decide +kernel
theorem dX7_release_20 : decode cX7_release 20 = .ok (.iload_n 1, 1) := by decide +kernel
theorem dX7_release_21 : decode cX7_release 21 = .ok (.iaload, 1) := by decide +kernel
theorem dX7_release_22 : decode cX7_release 22 = .ok (.istore_n 2, 1) := by decide +kernel
theorem dX7_release_23 : decode cX7_release 23 = .ok (.aload_n 0, 1) := by decide +kernel
theorem dX7_release_24 : decode cX7_release 24 = .ok (.getfield 19, 3) := by decide +kernel
theorem dX7_release_27 : decode cX7_release 27 = .ok (.iload_n 1, 1) := by decide +kernel
theorem dX7_release_28 : decode cX7_release 28 = .ok (.iconst (-1), 1) := by decide +kernel
theorem dX7_release_29 : decode cX7_release 29 = .ok (.iastore, 1) := by decide +kernel
theorem dX7_release_30 : decode cX7_release 30 = .ok (.iload_n 2, 1) := by decide +kernel
theorem dX7_release_31 : decode cX7_release 31 = .ok (.ireturn, 1) := by decide +kernel
theorem dX7_listLevel_0 : decode cX7_listLevel 0 = .ok (.aload_n 0, 1) := by decide +kernel
theorem dX7_listLevel_1 : decode cX7_listLevel 1 = .ok (.iconst 0, 1) := by decide +kernel
theorem dX7_listLevel_2 : decode cX7_listLevel 2 = .ok (.putfield 137, 3) := by decide +kernel
theorem dX7_listLevel_5 : decode cX7_listLevel 5 = .ok (.iconst 0, 1) := by decide +kernel
theorem dX7_listLevel_6 : decode cX7_listLevel 6 = .ok (.istore_n 2, 1) := by decide +kernel
theorem dX7_listLevel_7 : decode cX7_listLevel 7 = .ok (.iload_n 2, 1) := by decide +kernel
theorem dX7_listLevel_8 : decode cX7_listLevel 8 = .ok (.sipush 330, 3) := by decide +kernel
theorem dX7_listLevel_11 : decode cX7_listLevel 11 = .ok (.if_icmp .ge 122, 3) := by decide +kernel
theorem dX7_listLevel_14 : decode cX7_listLevel 14 = .ok (.aload_n 0, 1) := by decide +kernel
theorem dX7_listLevel_15 : decode cX7_listLevel 15 = .ok (.getfield 22, 3) := by decide +kernel
theorem dX7_listLevel_18 : decode cX7_listLevel 18 = .ok (.iload_n 2, 1) := by decide +kernel
theorem dX7_listLevel_19 : decode cX7_listLevel 19 = .ok (.iaload, 1) := by decide +kernel
theorem dX7_listLevel_20 : decode cX7_listLevel 20 = .ok (.iload_n 1, 1) := by decide +kernel
theorem dX7_listLevel_21 : decode cX7_listLevel 21 = .ok (.if_icmp .ne 106, 3) := by decide +kernel
theorem dX7_listLevel_24 : decode cX7_listLevel 24 = .ok (.aload_n 0, 1) := by decide +kernel
theorem dX7_listLevel_25 : decode cX7_listLevel 25 = .ok (.getfield 137, 3) := by decide +kernel
theorem dX7_listLevel_28 : decode cX7_listLevel 28 = .ok (.istore_n 3, 1) := by decide +kernel
theorem dX7_listLevel_29 : decode cX7_listLevel 29 = .ok (.iload_n 3, 1) := by decide +kernel
theorem dX7_listLevel_30 : decode cX7_listLevel 30 = .ok (.ifCond .le 80, 3) := by decide +kernel
theorem dX7_listLevel_33 : decode cX7_listLevel 33 = .ok (.iload_n 1, 1) := by decide +kernel
theorem dX7_listLevel_34 : decode cX7_listLevel 34 = .ok (.ifCond .ne 28, 3) := by decide +kernel
theorem dX7_listLevel_37 : decode cX7_listLevel 37 = .ok (.aload_n 0, 1) := by decide +kernel
theorem dX7_listLevel_38 : decode cX7_listLevel 38 = .ok (.getfield 25, 3) := by decide +kernel
theorem dX7_listLevel_41 : decode cX7_listLevel 41 = .ok (.aload_n 0, 1) := by decide +kernel
theorem dX7_listLevel_42 : decode cX7_listLevel 42 = .ok (.getfield 49, 3) := by decide +kernel
theorem dX7_listLevel_45 : decode cX7_listLevel 45 = .ok (.iload_n 3, 1) := by decide +kernel
theorem dX7_listLevel_46 : decode cX7_listLevel 46 = .ok (.iconst 1, 1) := by decide +kernel
theorem dX7_listLevel_47 : decode cX7_listLevel 47 = .ok (.isub, 1) := by decide +kernel
theorem dX7_listLevel_48 : decode cX7_listLevel 48 = .ok (.iaload, 1) := by decide +kernel
theorem dX7_listLevel_49 : decode cX7_listLevel 49 = .ok (.iaload, 1) := by decide +kernel
theorem dX7_listLevel_50 : decode cX7_listLevel 50 = .ok (.aload_n 0, 1) := by decide +kernel
theorem dX7_listLevel_51 : decode cX7_listLevel 51 = .ok (.getfield 25, 3) := by decide +kernel
theorem dX7_listLevel_54 : decode cX7_listLevel 54 = .ok (.iload_n 2, 1) := by decide +kernel
theorem dX7_listLevel_55 : decode cX7_listLevel 55 = .ok (.iaload, 1) := by decide +kernel
theorem dX7_listLevel_56 : decode cX7_listLevel 56 = .ok (.if_icmp .le 54, 3) := by decide +kernel
theorem dX7_listLevel_59 : decode cX7_listLevel 59 = .ok (.goto 31, 3) := by decide +kernel
theorem dX7_listLevel_62 : decode cX7_listLevel 62 = .ok (.aload_n 0, 1) := by decide +kernel
theorem dX7_listLevel_63 : decode cX7_listLevel 63 = .ok (.getfield 37, 3) := by decide +kernel
theorem dX7_listLevel_66 : decode cX7_listLevel 66 = .ok (.bipush 30, 2) := by decide +kernel
theorem dX7_listLevel_68 : decode cX7_listLevel 68 = .ok (.aload_n 0, 1) := by decide +kernel
theorem dX7_listLevel_69 : decode cX7_listLevel 69 = .ok (.getfield 49, 3) := by decide +kernel
theorem dX7_listLevel_72 : decode cX7_listLevel 72 = .ok (.iload_n 3, 1) := by decide +kernel
theorem dX7_listLevel_73 : decode cX7_listLevel 73 = .ok (.iconst 1, 1) := by decide +kernel
theorem dX7_listLevel_74 : decode cX7_listLevel 74 = .ok (.isub, 1) := by decide +kernel
theorem dX7_listLevel_75 : decode cX7_listLevel 75 = .ok (.iaload, 1) := by decide +kernel
theorem dX7_listLevel_76 : decode cX7_listLevel 76 = .ok (.imul, 1) := by decide +kernel
theorem dX7_listLevel_77 : decode cX7_listLevel 77 = .ok (.iaload, 1) := by decide +kernel
theorem dX7_listLevel_78 : decode cX7_listLevel 78 = .ok (.aload_n 0, 1) := by decide +kernel
theorem dX7_listLevel_79 : decode cX7_listLevel 79 = .ok (.getfield 37, 3) := by decide +kernel
theorem dX7_listLevel_82 : decode cX7_listLevel 82 = .ok (.bipush 30, 2) := by decide +kernel
theorem dX7_listLevel_84 : decode cX7_listLevel 84 = .ok (.iload_n 2, 1) := by decide +kernel
theorem dX7_listLevel_85 : decode cX7_listLevel 85 = .ok (.imul, 1) := by decide +kernel
theorem dX7_listLevel_86 : decode cX7_listLevel 86 = .ok (.iaload, 1) := by decide +kernel
theorem dX7_listLevel_87 : decode cX7_listLevel 87 = .ok (.if_icmp .le 23, 3) := by decide +kernel
theorem dX7_listLevel_90 : decode cX7_listLevel 90 = .ok (.aload_n 0, 1) := by decide +kernel
theorem dX7_listLevel_91 : decode cX7_listLevel 91 = .ok (.getfield 49, 3) := by decide +kernel
theorem dX7_listLevel_94 : decode cX7_listLevel 94 = .ok (.iload_n 3, 1) := by decide +kernel
theorem dX7_listLevel_95 : decode cX7_listLevel 95 = .ok (.aload_n 0, 1) := by decide +kernel
theorem dX7_listLevel_96 : decode cX7_listLevel 96 = .ok (.getfield 49, 3) := by decide +kernel
theorem dX7_listLevel_99 : decode cX7_listLevel 99 = .ok (.iload_n 3, 1) := by decide +kernel
theorem dX7_listLevel_100 : decode cX7_listLevel 100 = .ok (.iconst 1, 1) := by decide +kernel
theorem dX7_listLevel_101 : decode cX7_listLevel 101 = .ok (.isub, 1) := by decide +kernel
theorem dX7_listLevel_102 : decode cX7_listLevel 102 = .ok (.iaload, 1) := by decide +kernel
theorem dX7_listLevel_103 : decode cX7_listLevel 103 = .ok (.iastore, 1) := by decide +kernel
theorem dX7_listLevel_104 : decode cX7_listLevel 104 = .ok (.iinc 3 (-1), 3) := by decide +kernel
theorem dX7_listLevel_107 : decode cX7_listLevel 107 = .ok (.goto (-78), 3) := by decide +kernel
theorem dX7_listLevel_110 : decode cX7_listLevel 110 = .ok (.aload_n 0, 1) := by decide +kernel
theorem dX7_listLevel_111 : decode cX7_listLevel 111 = .ok (.getfield 49, 3) := by decide +kernel
theorem dX7_listLevel_114 : decode cX7_listLevel 114 = .ok (.iload_n 3, 1) := by decide +kernel
theorem dX7_listLevel_115 : decode cX7_listLevel 115 = .ok (.iload_n 2, 1) := by decide +kernel
theorem dX7_listLevel_116 : decode cX7_listLevel 116 = .ok (.iastore, 1) := by decide +kernel
theorem dX7_listLevel_117 : decode cX7_listLevel 117 = .ok (.aload_n 0, 1) := by decide +kernel
theorem dX7_listLevel_118 : decode cX7_listLevel 118 = .ok (.dup, 1) := by decide +kernel
theorem dX7_listLevel_119 : decode cX7_listLevel 119 = .ok (.getfield 137, 3) := by decide +kernel
theorem dX7_listLevel_122 : decode cX7_listLevel 122 = .ok (.iconst 1, 1) := by decide +kernel
theorem dX7_listLevel_123 : decode cX7_listLevel 123 = .ok (.iadd, 1) := by decide +kernel
theorem dX7_listLevel_124 : decode cX7_listLevel 124 = .ok (.putfield 137, 3) := by decide +kernel
theorem dX7_listLevel_127 : decode cX7_listLevel 127 = .ok (.iinc 2 1, 3) := by decide +kernel
theorem dX7_listLevel_130 : decode cX7_listLevel 130 = .ok (.goto (-123), 3) := by decide +kernel
theorem dX7_listLevel_133 : decode cX7_listLevel 133 = .ok (.return_, 1) := by decide +kernel
theorem dX7_source_0 : decode cX7_source 0 = .ok (.aload_n 0, 1) := by decide +kernel
theorem dX7_source_1 : decode cX7_source 1 = .ok (.getfield 140, 3) := by decide +kernel
theorem dX7_source_4 : decode cX7_source 4 = .ok (.istore 4, 2) := by decide +kernel
theorem dX7_source_6 : decode cX7_source 6 = .ok (.iload 4, 2) := by decide +kernel
theorem dX7_source_8 : decode cX7_source 8 = .ok (.ifCond .le 96, 3) := by decide +kernel
theorem dX7_source_11 : decode cX7_source 11 = .ok (.aload_n 0, 1) := by decide +kernel
theorem dX7_source_12 : decode cX7_source 12 = .ok (.getfield 52, 3) := by decide +kernel
theorem dX7_source_15 : decode cX7_source 15 = .ok (.iload 4, 2) := by decide +kernel
theorem dX7_source_17 : decode cX7_source 17 = .ok (.iconst 1, 1) := by decide +kernel
theorem dX7_source_18 : decode cX7_source 18 = .ok (.isub, 1) := by decide +kernel
theorem dX7_source_19 : decode cX7_source 19 = .ok (.iaload, 1) := by decide +kernel
theorem dX7_source_20 : decode cX7_source 20 = .ok (.iload_n 1, 1) := by decide +kernel
theorem dX7_source_21 : decode cX7_source 21 = .ok (.if_icmp .gt 29, 3) := by decide +kernel
theorem dX7_source_24 : decode cX7_source 24 = .ok (.aload_n 0, 1) := by decide +kernel
theorem dX7_source_25 : decode cX7_source 25 = .ok (.getfield 52, 3) := by decide +kernel
theorem dX7_source_28 : decode cX7_source 28 = .ok (.iload 4, 2) := by decide +kernel
theorem dX7_source_30 : decode cX7_source 30 = .ok (.iconst 1, 1) := by decide +kernel
theorem dX7_source_31 : decode cX7_source 31 = .ok (.isub, 1) := by decide +kernel
theorem dX7_source_32 : decode cX7_source 32 = .ok (.iaload, 1) := by decide +kernel
theorem dX7_source_33 : decode cX7_source 33 = .ok (.iload_n 1, 1) := by decide +kernel
theorem dX7_source_34 : decode cX7_source 34 = .ok (.if_icmp .ne 70, 3) := by decide +kernel
theorem dX7_source_37 : decode cX7_source 37 = .ok (.aload_n 0, 1) := by decide +kernel
theorem dX7_source_38 : decode cX7_source 38 = .ok (.getfield 55, 3) := by decide +kernel
theorem dX7_source_41 : decode cX7_source 41 = .ok (.iload 4, 2) := by decide +kernel
theorem dX7_source_43 : decode cX7_source 43 = .ok (.iconst 1, 1) := by decide +kernel
theorem dX7_source_44 : decode cX7_source 44 = .ok (.isub, 1) := by decide +kernel
theorem dX7_source_45 : decode cX7_source 45 = .ok (.iaload, 1) := by decide +kernel
theorem dX7_source_46 : decode cX7_source 46 = .ok (.iload_n 2, 1) := by decide +kernel
theorem dX7_source_47 : decode cX7_source 47 = .ok (.if_icmp .ge 57, 3) := by decide +kernel
theorem dX7_source_50 : decode cX7_source 50 = .ok (.aload_n 0, 1) := by decide +kernel
theorem dX7_source_51 : decode cX7_source 51 = .ok (.getfield 52, 3) := by decide +kernel
theorem dX7_source_54 : decode cX7_source 54 = .ok (.iload 4, 2) := by decide +kernel
theorem dX7_source_56 : decode cX7_source 56 = .ok (.aload_n 0, 1) := by decide +kernel
theorem dX7_source_57 : decode cX7_source 57 = .ok (.getfield 52, 3) := by decide +kernel
theorem dX7_source_60 : decode cX7_source 60 = .ok (.iload 4, 2) := by decide +kernel
theorem dX7_source_62 : decode cX7_source 62 = .ok (.iconst 1, 1) := by decide +kernel
theorem dX7_source_63 : decode cX7_source 63 = .ok (.isub, 1) := by decide +kernel
theorem dX7_source_64 : decode cX7_source 64 = .ok (.iaload, 1) := by decide +kernel
theorem dX7_source_65 : decode cX7_source 65 = .ok (.iastore, 1) := by decide +kernel
theorem dX7_source_66 : decode cX7_source 66 = .ok (.aload_n 0, 1) := by decide +kernel
theorem dX7_source_67 : decode cX7_source 67 = .ok (.getfield 55, 3) := by decide +kernel
theorem dX7_source_70 : decode cX7_source 70 = .ok (.iload 4, 2) := by decide +kernel
theorem dX7_source_72 : decode cX7_source 72 = .ok (.aload_n 0, 1) := by decide +kernel
theorem dX7_source_73 : decode cX7_source 73 = .ok (.getfield 55, 3) := by decide +kernel
theorem dX7_source_76 : decode cX7_source 76 = .ok (.iload 4, 2) := by decide +kernel
theorem dX7_source_78 : decode cX7_source 78 = .ok (.iconst 1, 1) := by decide +kernel
theorem dX7_source_79 : decode cX7_source 79 = .ok (.isub, 1) := by decide +kernel
theorem dX7_source_80 : decode cX7_source 80 = .ok (.iaload, 1) := by decide +kernel
theorem dX7_source_81 : decode cX7_source 81 = .ok (.iastore, 1) := by decide +kernel
theorem dX7_source_82 : decode cX7_source 82 = .ok (.aload_n 0, 1) := by decide +kernel
theorem dX7_source_83 : decode cX7_source 83 = .ok (.getfield 58, 3) := by decide +kernel
theorem dX7_source_86 : decode cX7_source 86 = .ok (.iload 4, 2) := by decide +kernel
theorem dX7_source_88 : decode cX7_source 88 = .ok (.aload_n 0, 1) := by decide +kernel
theorem dX7_source_89 : decode cX7_source 89 = .ok (.getfield 58, 3) := by decide +kernel
theorem dX7_source_92 : decode cX7_source 92 = .ok (.iload 4, 2) := by decide +kernel
theorem dX7_source_94 : decode cX7_source 94 = .ok (.iconst 1, 1) := by decide +kernel
theorem dX7_source_95 : decode cX7_source 95 = .ok (.isub, 1) := by decide +kernel
theorem dX7_source_96 : decode cX7_source 96 = .ok (.iaload, 1) := by decide +kernel
theorem dX7_source_97 : decode cX7_source 97 = .ok (.iastore, 1) := by decide +kernel
theorem dX7_source_98 : decode cX7_source 98 = .ok (.iinc 4 (-1), 3) := by decide +kernel
theorem dX7_source_101 : decode cX7_source 101 = .ok (.goto (-95), 3) := by decide +kernel
theorem dX7_source_104 : decode cX7_source 104 = .ok (.aload_n 0, 1) := by decide +kernel
theorem dX7_source_105 : decode cX7_source 105 = .ok (.getfield 52, 3) := by decide +kernel
theorem dX7_source_108 : decode cX7_source 108 = .ok (.iload 4, 2) := by decide +kernel
theorem dX7_source_110 : decode cX7_source 110 = .ok (.iload_n 1, 1) := by decide +kernel
theorem dX7_source_111 : decode cX7_source 111 = .ok (.iastore, 1) := by decide +kernel
theorem dX7_source_112 : decode cX7_source 112 = .ok (.aload_n 0, 1) := by decide +kernel
theorem dX7_source_113 : decode cX7_source 113 = .ok (.getfield 55, 3) := by decide +kernel
theorem dX7_source_116 : decode cX7_source 116 = .ok (.iload 4, 2) := by decide +kernel
theorem dX7_source_118 : decode cX7_source 118 = .ok (.iload_n 2, 1) := by decide +kernel
theorem dX7_source_119 : decode cX7_source 119 = .ok (.iastore, 1) := by decide +kernel
theorem dX7_source_120 : decode cX7_source 120 = .ok (.aload_n 0, 1) := by decide +kernel
theorem dX7_source_121 : decode cX7_source 121 = .ok (.getfield 58, 3) := by decide +kernel
theorem dX7_source_124 : decode cX7_source 124 = .ok (.iload 4, 2) := by decide +kernel
theorem dX7_source_126 : decode cX7_source 126 = .ok (.iload_n 3, 1) := by decide +kernel
theorem dX7_source_127 : decode cX7_source 127 = .ok (.iastore, 1) := by decide +kernel
theorem dX7_source_128 : decode cX7_source 128 = .ok (.aload_n 0, 1) := by decide +kernel
theorem dX7_source_129 : decode cX7_source 129 = .ok (.dup, 1) := by decide +kernel
theorem dX7_source_130 : decode cX7_source 130 = .ok (.getfield 140, 3) := by decide +kernel
theorem dX7_source_133 : decode cX7_source 133 = .ok (.iconst 1, 1) := by decide +kernel
theorem dX7_source_134 : decode cX7_source 134 = .ok (.iadd, 1) := by decide +kernel
theorem dX7_source_135 : decode cX7_source 135 = .ok (.putfield 140, 3) := by decide +kernel
theorem dX7_source_138 : decode cX7_source 138 = .ok (.return_, 1) := by decide +kernel
theorem dX7_begin_0 : decode cX7_begin 0 = .ok (.aload_n 0, 1) := by decide +kernel
theorem dX7_begin_1 : decode cX7_begin 1 = .ok (.iconst 1, 1) := by decide +kernel
theorem dX7_begin_2 : decode cX7_begin 2 = .ok (.putfield 143, 3) := by decide +kernel
theorem dX7_begin_5 : decode cX7_begin 5 = .ok (.aload_n 0, 1) := by decide +kernel
theorem dX7_begin_6 : decode cX7_begin 6 = .ok (.iconst 0, 1) := by decide +kernel
theorem dX7_begin_7 : decode cX7_begin 7 = .ok (.putfield 147, 3) := by decide +kernel
theorem dX7_begin_10 : decode cX7_begin 10 = .ok (.aload_n 0, 1) := by decide +kernel
theorem dX7_begin_11 : decode cX7_begin 11 = .ok (.iload_n 1, 1) := by decide +kernel
theorem dX7_begin_12 : decode cX7_begin 12 = .ok (.putfield 150, 3) := by decide +kernel
theorem dX7_begin_15 : decode cX7_begin 15 = .ok (.aload_n 0, 1) := by decide +kernel
theorem dX7_begin_16 : decode cX7_begin 16 = .ok (.iconst 0, 1) := by decide +kernel
theorem dX7_begin_17 : decode cX7_begin 17 = .ok (.putfield 140, 3) := by decide +kernel
theorem dX7_begin_20 : decode cX7_begin 20 = .ok (.aload_n 0, 1) := by decide +kernel
theorem dX7_begin_21 : decode cX7_begin 21 = .ok (.iconst 0, 1) := by decide +kernel
theorem dX7_begin_22 : decode cX7_begin 22 = .ok (.putfield 153, 3) := by decide +kernel
theorem dX7_begin_25 : decode cX7_begin 25 = .ok (.aload_n 0, 1) := by decide +kernel
theorem dX7_begin_26 : decode cX7_begin 26 = .ok (.iconst 0, 1) := by decide +kernel
theorem dX7_begin_27 : decode cX7_begin 27 = .ok (.putfield 156, 3) := by decide +kernel
theorem dX7_begin_30 : decode cX7_begin 30 = .ok (.aload_n 0, 1) := by decide +kernel
theorem dX7_begin_31 : decode cX7_begin 31 = .ok (.iconst 0, 1) := by decide +kernel
theorem dX7_begin_32 : decode cX7_begin 32 = .ok (.putfield 159, 3) := by decide +kernel
theorem dX7_begin_35 : decode cX7_begin 35 = .ok (.iconst 0, 1) := by decide +kernel
theorem dX7_begin_36 : decode cX7_begin 36 = .ok (.istore_n 2, 1) := by decide +kernel
theorem dX7_begin_37 : decode cX7_begin 37 = .ok (.iload_n 2, 1) := by decide +kernel
theorem dX7_begin_38 : decode cX7_begin 38 = .ok (.sipush 330, 3) := by decide +kernel
theorem dX7_begin_41 : decode cX7_begin 41 = .ok (.if_icmp .ge 16, 3) := by decide +kernel
theorem dX7_begin_44 : decode cX7_begin 44 = .ok (.aload_n 0, 1) := by decide +kernel
theorem dX7_begin_45 : decode cX7_begin 45 = .ok (.getfield 61, 3) := by decide +kernel
theorem dX7_begin_48 : decode cX7_begin 48 = .ok (.iload_n 2, 1) := by decide +kernel
theorem dX7_begin_49 : decode cX7_begin 49 = .ok (.iconst 0, 1) := by decide +kernel
theorem dX7_begin_50 : decode cX7_begin 50 = .ok (.bastore, 1) := by decide +kernel
theorem dX7_begin_51 : decode cX7_begin 51 = .ok (.iinc 2 1, 3) := by decide +kernel
theorem dX7_begin_54 : decode cX7_begin 54 = .ok (.goto (-17), 3) := by decide +kernel
theorem dX7_begin_57 : decode cX7_begin 57 = .ok (.iconst 0, 1) := by decide +kernel
theorem dX7_begin_58 : decode cX7_begin 58 = .ok (.istore_n 2, 1) := by decide +kernel
theorem dX7_begin_59 : decode cX7_begin 59 = .ok (.iload_n 2, 1) := by decide +kernel
theorem dX7_begin_60 : decode cX7_begin 60 = .ok (.iconst 3, 1) := by decide +kernel
theorem dX7_begin_61 : decode cX7_begin 61 = .ok (.if_icmp .ge 21, 3) := by decide +kernel
theorem dX7_begin_64 : decode cX7_begin 64 = .ok (.aload_n 0, 1) := by decide +kernel
theorem dX7_begin_65 : decode cX7_begin 65 = .ok (.getfield 65, 3) := by decide +kernel
theorem dX7_begin_68 : decode cX7_begin 68 = .ok (.iload_n 2, 1) := by decide +kernel
theorem dX7_begin_69 : decode cX7_begin 69 = .ok (.aload_n 0, 1) := by decide +kernel
theorem dX7_begin_70 : decode cX7_begin 70 = .ok (.getfield 19, 3) := by decide +kernel
theorem dX7_begin_73 : decode cX7_begin 73 = .ok (.iload_n 2, 1) := by decide +kernel
theorem dX7_begin_74 : decode cX7_begin 74 = .ok (.iaload, 1) := by decide +kernel
theorem dX7_begin_75 : decode cX7_begin 75 = .ok (.iastore, 1) := by decide +kernel
theorem dX7_begin_76 : decode cX7_begin 76 = .ok (.iinc 2 1, 3) := by decide +kernel
theorem dX7_begin_79 : decode cX7_begin 79 = .ok (.goto (-20), 3) := by decide +kernel
theorem dX7_begin_82 : decode cX7_begin 82 = .ok (.return_, 1) := by decide +kernel
theorem dX7_flush_0 : decode cX7_flush 0 = .ok (.aload_n 0, 1) := by decide +kernel
theorem dX7_flush_1 : decode cX7_flush 1 = .ok (.iconst 0, 1) := by decide +kernel
theorem dX7_flush_2 : decode cX7_flush 2 = .ok (.putfield 89, 3) := by decide +kernel
theorem dX7_flush_5 : decode cX7_flush 5 = .ok (.aload_n 0, 1) := by decide +kernel
theorem dX7_flush_6 : decode cX7_flush 6 = .ok (.getfield 143, 3) := by decide +kernel
theorem dX7_flush_9 : decode cX7_flush 9 = .ok (.ifCond .ne 10, 3) := by decide +kernel
theorem dX7_flush_12 : decode cX7_flush 12 = .ok (.aload_n 0, 1) := by decide +kernel
theorem dX7_flush_13 : decode cX7_flush 13 = .ok (.getfield 93, 3) := by decide +kernel
theorem dX7_flush_16 : decode cX7_flush 16 = .ok (.ifCond .ne 6, 3) := by decide +kernel
theorem dX7_flush_19 : decode cX7_flush 19 = .ok (.ldc 136, 2) := by decide +kernel
theorem dX7_flush_21 : decode cX7_flush 21 = .ok (.ireturn, 1) := by decide +kernel
theorem dX7_flush_22 : decode cX7_flush 22 = .ok (.aload_n 0, 1) := by decide +kernel
theorem dX7_flush_23 : decode cX7_flush 23 = .ok (.iconst (-1), 1) := by decide +kernel
theorem dX7_flush_24 : decode cX7_flush 24 = .ok (.invokevirtual 162, 3) := by decide +kernel
theorem dX7_flush_27 : decode cX7_flush 27 = .ok (.aload_n 0, 1) := by decide +kernel
theorem dX7_flush_28 : decode cX7_flush 28 = .ok (.aload_n 0, 1) := by decide +kernel
theorem dX7_flush_29 : decode cX7_flush 29 = .ok (.getfield 93, 3) := by decide +kernel
theorem dX7_flush_32 : decode cX7_flush 32 = .ok (.putfield 166, 3) := by decide +kernel
theorem dX7_flush_35 : decode cX7_flush 35 = .ok (.iconst 0, 1) := by decide +kernel
theorem dX7_flush_36 : decode cX7_flush 36 = .ok (.istore_n 1, 1) := by decide +kernel
theorem dX7_flush_37 : decode cX7_flush 37 = .ok (.iload_n 1, 1) := by decide +kernel
theorem dX7_flush_38 : decode cX7_flush 38 = .ok (.aload_n 0, 1) := by decide +kernel
theorem dX7_flush_39 : decode cX7_flush 39 = .ok (.getfield 93, 3) := by decide +kernel
theorem dX7_flush_42 : decode cX7_flush 42 = .ok (.if_icmp .ge 31, 3) := by decide +kernel
theorem dX7_flush_45 : decode cX7_flush 45 = .ok (.aload_n 0, 1) := by decide +kernel
theorem dX7_flush_46 : decode cX7_flush 46 = .ok (.aload_n 0, 1) := by decide +kernel
theorem dX7_flush_47 : decode cX7_flush 47 = .ok (.getfield 7, 3) := by decide +kernel
theorem dX7_flush_50 : decode cX7_flush 50 = .ok (.iload_n 1, 1) := by decide +kernel
theorem dX7_flush_51 : decode cX7_flush 51 = .ok (.iaload, 1) := by decide +kernel
theorem dX7_flush_52 : decode cX7_flush 52 = .ok (.aload_n 0, 1) := by decide +kernel
theorem dX7_flush_53 : decode cX7_flush 53 = .ok (.getfield 13, 3) := by decide +kernel
theorem dX7_flush_56 : decode cX7_flush 56 = .ok (.iload_n 1, 1) := by decide +kernel
theorem dX7_flush_57 : decode cX7_flush 57 = .ok (.iaload, 1) := by decide +kernel
theorem dX7_flush_58 : decode cX7_flush 58 = .ok (.aload_n 0, 1) := by decide +kernel
theorem dX7_flush_59 : decode cX7_flush 59 = .ok (.getfield 16, 3) := by decide +kernel
theorem dX7_flush_62 : decode cX7_flush 62 = .ok (.iload_n 1, 1) := by decide +kernel
theorem dX7_flush_63 : decode cX7_flush 63 = .ok (.iaload, 1) := by decide +kernel
theorem dX7_flush_64 : decode cX7_flush 64 = .ok (.invokevirtual 169, 3) := by decide +kernel
theorem dX7_flush_67 : decode cX7_flush 67 = .ok (.iinc 1 1, 3) := by decide +kernel
theorem dX7_flush_70 : decode cX7_flush 70 = .ok (.goto (-33), 3) := by decide +kernel
theorem dX7_flush_73 : decode cX7_flush 73 = .ok (.aload_n 0, 1) := by decide +kernel
theorem dX7_flush_74 : decode cX7_flush 74 = .ok (.getfield 140, 3) := by decide +kernel
theorem dX7_flush_77 : decode cX7_flush 77 = .ok (.ireturn, 1) := by decide +kernel
theorem dX7_sourceFile_0 : decode cX7_sourceFile 0 = .ok (.aload_n 0, 1) := by decide +kernel
theorem dX7_sourceFile_1 : decode cX7_sourceFile 1 = .ok (.getfield 61, 3) := by decide +kernel
theorem dX7_sourceFile_4 : decode cX7_sourceFile 4 = .ok (.iload_n 1, 1) := by decide +kernel
theorem dX7_sourceFile_5 : decode cX7_sourceFile 5 = .ok (.iconst 1, 1) := by decide +kernel
theorem dX7_sourceFile_6 : decode cX7_sourceFile 6 = .ok (.bastore, 1) := by decide +kernel
theorem dX7_sourceFile_7 : decode cX7_sourceFile 7 = .ok (.bipush 30, 2) := by decide +kernel
theorem dX7_sourceFile_9 : decode cX7_sourceFile 9 = .ok (.iload_n 1, 1) := by decide +kernel
theorem dX7_sourceFile_10 : decode cX7_sourceFile 10 = .ok (.imul, 1) := by decide +kernel
theorem dX7_sourceFile_11 : decode cX7_sourceFile 11 = .ok (.istore_n 2, 1) := by decide +kernel
theorem dX7_sourceFile_12 : decode cX7_sourceFile 12 = .ok (.iload_n 2, 1) := by decide +kernel
theorem dX7_sourceFile_13 : decode cX7_sourceFile 13 = .ok (.bipush 30, 2) := by decide +kernel
theorem dX7_sourceFile_15 : decode cX7_sourceFile 15 = .ok (.iload_n 1, 1) := by decide +kernel
theorem dX7_sourceFile_16 : decode cX7_sourceFile 16 = .ok (.imul, 1) := by decide +kernel
theorem dX7_sourceFile_17 : decode cX7_sourceFile 17 = .ok (.aload_n 0, 1) := by decide +kernel
theorem dX7_sourceFile_18 : decode cX7_sourceFile 18 = .ok (.getfield 34, 3) := by decide +kernel
theorem dX7_sourceFile_21 : decode cX7_sourceFile 21 = .ok (.iload_n 1, 1) := by decide +kernel
theorem dX7_sourceFile_22 : decode cX7_sourceFile 22 = .ok (.iaload, 1) := by decide +kernel
theorem dX7_sourceFile_23 : decode cX7_sourceFile 23 = .ok (.iadd, 1) := by decide +kernel
theorem dX7_sourceFile_24 : decode cX7_sourceFile 24 = .ok (.if_icmp .ge 31, 3) := by decide +kernel
theorem dX7_sourceFile_27 : decode cX7_sourceFile 27 = .ok (.aload_n 0, 1) := by decide +kernel
theorem dX7_sourceFile_28 : decode cX7_sourceFile 28 = .ok (.aload_n 0, 1) := by decide +kernel
theorem dX7_sourceFile_29 : decode cX7_sourceFile 29 = .ok (.getfield 37, 3) := by decide +kernel
theorem dX7_sourceFile_32 : decode cX7_sourceFile 32 = .ok (.iload_n 2, 1) := by decide +kernel
theorem dX7_sourceFile_33 : decode cX7_sourceFile 33 = .ok (.iaload, 1) := by decide +kernel
theorem dX7_sourceFile_34 : decode cX7_sourceFile 34 = .ok (.aload_n 0, 1) := by decide +kernel
theorem dX7_sourceFile_35 : decode cX7_sourceFile 35 = .ok (.getfield 40, 3) := by decide +kernel
theorem dX7_sourceFile_38 : decode cX7_sourceFile 38 = .ok (.iload_n 2, 1) := by decide +kernel
theorem dX7_sourceFile_39 : decode cX7_sourceFile 39 = .ok (.iaload, 1) := by decide +kernel
theorem dX7_sourceFile_40 : decode cX7_sourceFile 40 = .ok (.aload_n 0, 1) := by decide +kernel
theorem dX7_sourceFile_41 : decode cX7_sourceFile 41 = .ok (.getfield 43, 3) := by decide +kernel
theorem dX7_sourceFile_44 : decode cX7_sourceFile 44 = .ok (.iload_n 2, 1) := by decide +kernel
theorem dX7_sourceFile_45 : decode cX7_sourceFile 45 = .ok (.iaload, 1) := by decide +kernel
theorem dX7_sourceFile_46 : decode cX7_sourceFile 46 = .ok (.invokevirtual 169, 3) := by decide +kernel
theorem dX7_sourceFile_49 : decode cX7_sourceFile 49 = .ok (.iinc 2 1, 3) := by decide +kernel
theorem dX7_sourceFile_52 : decode cX7_sourceFile 52 = .ok (.goto (-40), 3) := by decide +kernel
theorem dX7_sourceFile_55 : decode cX7_sourceFile 55 = .ok (.return_, 1) := by decide +kernel
theorem dX7_least_0 : decode cX7_least 0 = .ok (.aload_n 0, 1) := by decide +kernel
theorem dX7_least_1 : decode cX7_least 1 = .ok (.getfield 37, 3) := by decide +kernel
theorem dX7_least_4 : decode cX7_least 4 = .ok (.bipush 30, 2) := by decide +kernel
theorem dX7_least_6 : decode cX7_least 6 = .ok (.iload_n 1, 1) := by decide +kernel
theorem dX7_least_7 : decode cX7_least 7 = .ok (.imul, 1) := by decide +kernel
theorem dX7_least_8 : decode cX7_least 8 = .ok (.iaload, 1) := by decide +kernel
theorem dX7_least_9 : decode cX7_least 9 = .ok (.ireturn, 1) := by decide +kernel
theorem dX7_greatest_0 : decode cX7_greatest 0 = .ok (.aload_n 0, 1) := by decide +kernel
theorem dX7_greatest_1 : decode cX7_greatest 1 = .ok (.getfield 37, 3) := by decide +kernel
theorem dX7_greatest_4 : decode cX7_greatest 4 = .ok (.bipush 30, 2) := by decide +kernel
theorem dX7_greatest_6 : decode cX7_greatest 6 = .ok (.iload_n 1, 1) := by decide +kernel
theorem dX7_greatest_7 : decode cX7_greatest 7 = .ok (.imul, 1) := by decide +kernel
theorem dX7_greatest_8 : decode cX7_greatest 8 = .ok (.aload_n 0, 1) := by decide +kernel
theorem dX7_greatest_9 : decode cX7_greatest 9 = .ok (.getfield 34, 3) := by decide +kernel
theorem dX7_greatest_12 : decode cX7_greatest 12 = .ok (.iload_n 1, 1) := by decide +kernel
theorem dX7_greatest_13 : decode cX7_greatest 13 = .ok (.iaload, 1) := by decide +kernel
theorem dX7_greatest_14 : decode cX7_greatest 14 = .ok (.iadd, 1) := by decide +kernel
theorem dX7_greatest_15 : decode cX7_greatest 15 = .ok (.iconst 1, 1) := by decide +kernel
theorem dX7_greatest_16 : decode cX7_greatest 16 = .ok (.isub, 1) := by decide +kernel
theorem dX7_greatest_17 : decode cX7_greatest 17 = .ok (.iaload, 1) := by decide +kernel
theorem dX7_greatest_18 : decode cX7_greatest 18 = .ok (.ireturn, 1) := by decide +kernel
theorem dX7_merge_0 : decode cX7_merge 0 = .ok (.aload_n 0, 1) := by decide +kernel
theorem dX7_merge_1 : decode cX7_merge 1 = .ok (.iconst 0, 1) := by decide +kernel
theorem dX7_merge_2 : decode cX7_merge 2 = .ok (.putfield 89, 3) := by decide +kernel
theorem dX7_merge_5 : decode cX7_merge 5 = .ok (.iload_n 1, 1) := by decide +kernel
theorem dX7_merge_6 : decode cX7_merge 6 = .ok (.i2l, 1) := by decide +kernel
theorem dX7_merge_7 : decode cX7_merge 7 = .ok (.lconst 0, 1) := by decide +kernel
theorem dX7_merge_8 : decode cX7_merge 8 = .ok (.ldc2_w 126, 3) := by decide +kernel
theorem dX7_merge_11 : decode cX7_merge 11 = .ok (.invokestatic 103, 3) := by decide +kernel
theorem dX7_merge_14 : decode cX7_merge 14 = .ok (.ifCond .ne 6, 3) := by decide +kernel
theorem dX7_merge_17 : decode cX7_merge 17 = .ok (.ldc 135, 2) := by decide +kernel
theorem dX7_merge_19 : decode cX7_merge 19 = .ok (.ireturn, 1) := by decide +kernel
theorem dX7_merge_20 : decode cX7_merge 20 = .ok (.aload_n 0, 1) := by decide +kernel
theorem dX7_merge_21 : decode cX7_merge 21 = .ok (.iload_n 1, 1) := by decide +kernel
theorem dX7_merge_22 : decode cX7_merge 22 = .ok (.invokevirtual 173, 3) := by decide +kernel
theorem dX7_merge_25 : decode cX7_merge 25 = .ok (.iload_n 1, 1) := by decide +kernel
theorem dX7_merge_26 : decode cX7_merge 26 = .ok (.ifCond .le 22, 3) := by decide +kernel
theorem dX7_merge_29 : decode cX7_merge 29 = .ok (.iload_n 2, 1) := by decide +kernel
theorem dX7_merge_30 : decode cX7_merge 30 = .ok (.i2l, 1) := by decide +kernel
theorem dX7_merge_31 : decode cX7_merge 31 = .ok (.lconst 0, 1) := by decide +kernel
theorem dX7_merge_32 : decode cX7_merge 32 = .ok (.aload_n 0, 1) := by decide +kernel
theorem dX7_merge_33 : decode cX7_merge 33 = .ok (.getfield 137, 3) := by decide +kernel
theorem dX7_merge_36 : decode cX7_merge 36 = .ok (.iconst 1, 1) := by decide +kernel
theorem dX7_merge_37 : decode cX7_merge 37 = .ok (.isub, 1) := by decide +kernel
theorem dX7_merge_38 : decode cX7_merge 38 = .ok (.i2l, 1) := by decide +kernel
theorem dX7_merge_39 : decode cX7_merge 39 = .ok (.invokestatic 103, 3) := by decide +kernel
theorem dX7_merge_42 : decode cX7_merge 42 = .ok (.ifCond .ne 6, 3) := by decide +kernel
theorem dX7_merge_45 : decode cX7_merge 45 = .ok (.ldc 135, 2) := by decide +kernel
theorem dX7_merge_47 : decode cX7_merge 47 = .ok (.ireturn, 1) := by decide +kernel
theorem dX7_merge_48 : decode cX7_merge 48 = .ok (.aload_n 0, 1) := by decide +kernel
theorem dX7_merge_49 : decode cX7_merge 49 = .ok (.getfield 143, 3) := by decide +kernel
theorem dX7_merge_52 : decode cX7_merge 52 = .ok (.ifCond .ne 10, 3) := by decide +kernel
theorem dX7_merge_55 : decode cX7_merge 55 = .ok (.aload_n 0, 1) := by decide +kernel
theorem dX7_merge_56 : decode cX7_merge 56 = .ok (.getfield 137, 3) := by decide +kernel
theorem dX7_merge_59 : decode cX7_merge 59 = .ok (.ifCond .ne 6, 3) := by decide +kernel
theorem dX7_merge_62 : decode cX7_merge 62 = .ok (.ldc 136, 2) := by decide +kernel
theorem dX7_merge_64 : decode cX7_merge 64 = .ok (.ireturn, 1) := by decide +kernel
theorem dX7_merge_65 : decode cX7_merge 65 = .ok (.aload_n 0, 1) := by decide +kernel
theorem dX7_merge_66 : decode cX7_merge 66 = .ok (.iload_n 1, 1) := by decide +kernel
theorem dX7_merge_67 : decode cX7_merge 67 = .ok (.invokevirtual 162, 3) := by decide +kernel
theorem dX7_merge_70 : decode cX7_merge 70 = .ok (.sipush 1000, 3) := by decide +kernel
theorem dX7_merge_73 : decode cX7_merge 73 = .ok (.istore_n 3, 1) := by decide +kernel
theorem dX7_merge_74 : decode cX7_merge 74 = .ok (.iconst (-1), 1) := by decide +kernel
theorem dX7_merge_75 : decode cX7_merge 75 = .ok (.istore 4, 2) := by decide +kernel
theorem dX7_merge_77 : decode cX7_merge 77 = .ok (.iconst 0, 1) := by decide +kernel
theorem dX7_merge_78 : decode cX7_merge 78 = .ok (.istore 5, 2) := by decide +kernel
theorem dX7_merge_80 : decode cX7_merge 80 = .ok (.iload 5, 2) := by decide +kernel
theorem dX7_merge_82 : decode cX7_merge 82 = .ok (.aload_n 0, 1) := by decide +kernel
theorem dX7_merge_83 : decode cX7_merge 83 = .ok (.getfield 137, 3) := by decide +kernel
theorem dX7_merge_86 : decode cX7_merge 86 = .ok (.if_icmp .ge 95, 3) := by decide +kernel
theorem dX7_merge_89 : decode cX7_merge 89 = .ok (.iload_n 1, 1) := by decide +kernel
theorem dX7_merge_90 : decode cX7_merge 90 = .ok (.ifCond .eq 9, 3) := by decide +kernel
theorem dX7_merge_93 : decode cX7_merge 93 = .ok (.iload 5, 2) := by decide +kernel
theorem dX7_merge_95 : decode cX7_merge 95 = .ok (.iload_n 2, 1) := by decide +kernel
theorem dX7_merge_96 : decode cX7_merge 96 = .ok (.if_icmp .ne 79, 3) := by decide +kernel
theorem dX7_merge_99 : decode cX7_merge 99 = .ok (.aload_n 0, 1) := by decide +kernel
theorem dX7_merge_100 : decode cX7_merge 100 = .ok (.aload_n 0, 1) := by decide +kernel
theorem dX7_merge_101 : decode cX7_merge 101 = .ok (.getfield 49, 3) := by decide +kernel
theorem dX7_merge_104 : decode cX7_merge 104 = .ok (.iload 5, 2) := by decide +kernel
theorem dX7_merge_106 : decode cX7_merge 106 = .ok (.iaload, 1) := by decide +kernel
theorem dX7_merge_107 : decode cX7_merge 107 = .ok (.invokevirtual 176, 3) := by decide +kernel
theorem dX7_merge_110 : decode cX7_merge 110 = .ok (.iload_n 3, 1) := by decide +kernel
theorem dX7_merge_111 : decode cX7_merge 111 = .ok (.if_icmp .ge 17, 3) := by decide +kernel
theorem dX7_merge_114 : decode cX7_merge 114 = .ok (.aload_n 0, 1) := by decide +kernel
theorem dX7_merge_115 : decode cX7_merge 115 = .ok (.aload_n 0, 1) := by decide +kernel
theorem dX7_merge_116 : decode cX7_merge 116 = .ok (.getfield 49, 3) := by decide +kernel
theorem dX7_merge_119 : decode cX7_merge 119 = .ok (.iload 5, 2) := by decide +kernel
theorem dX7_merge_121 : decode cX7_merge 121 = .ok (.iaload, 1) := by decide +kernel
theorem dX7_merge_122 : decode cX7_merge 122 = .ok (.invokevirtual 176, 3) := by decide +kernel
theorem dX7_merge_125 : decode cX7_merge 125 = .ok (.goto 4, 3) := by decide +kernel
theorem dX7_merge_128 : decode cX7_merge 128 = .ok (.iload_n 3, 1) := by decide +kernel
theorem dX7_merge_129 : decode cX7_merge 129 = .ok (.istore_n 3, 1) := by decide +kernel
theorem dX7_merge_130 : decode cX7_merge 130 = .ok (.aload_n 0, 1) := by decide +kernel
theorem dX7_merge_131 : decode cX7_merge 131 = .ok (.aload_n 0, 1) := by decide +kernel
theorem dX7_merge_132 : decode cX7_merge 132 = .ok (.getfield 49, 3) := by decide +kernel
theorem dX7_merge_135 : decode cX7_merge 135 = .ok (.iload 5, 2) := by decide +kernel
theorem dX7_merge_137 : decode cX7_merge 137 = .ok (.iaload, 1) := by decide +kernel
theorem dX7_merge_138 : decode cX7_merge 138 = .ok (.invokevirtual 180, 3) := by decide +kernel
theorem dX7_merge_141 : decode cX7_merge 141 = .ok (.iload 4, 2) := by decide +kernel
theorem dX7_merge_143 : decode cX7_merge 143 = .ok (.if_icmp .le 17, 3) := by decide +kernel
theorem dX7_merge_146 : decode cX7_merge 146 = .ok (.aload_n 0, 1) := by decide +kernel
theorem dX7_merge_147 : decode cX7_merge 147 = .ok (.aload_n 0, 1) := by decide +kernel
theorem dX7_merge_148 : decode cX7_merge 148 = .ok (.getfield 49, 3) := by decide +kernel
theorem dX7_merge_151 : decode cX7_merge 151 = .ok (.iload 5, 2) := by decide +kernel
theorem dX7_merge_153 : decode cX7_merge 153 = .ok (.iaload, 1) := by decide +kernel
theorem dX7_merge_154 : decode cX7_merge 154 = .ok (.invokevirtual 180, 3) := by decide +kernel
theorem dX7_merge_157 : decode cX7_merge 157 = .ok (.goto 5, 3) := by decide +kernel
theorem dX7_merge_160 : decode cX7_merge 160 = .ok (.iload 4, 2) := by decide +kernel
theorem dX7_merge_162 : decode cX7_merge 162 = .ok (.istore 4, 2) := by decide +kernel
theorem dX7_merge_164 : decode cX7_merge 164 = .ok (.aload_n 0, 1) := by decide +kernel
theorem dX7_merge_165 : decode cX7_merge 165 = .ok (.aload_n 0, 1) := by decide +kernel
theorem dX7_merge_166 : decode cX7_merge 166 = .ok (.getfield 49, 3) := by decide +kernel
theorem dX7_merge_169 : decode cX7_merge 169 = .ok (.iload 5, 2) := by decide +kernel
theorem dX7_merge_171 : decode cX7_merge 171 = .ok (.iaload, 1) := by decide +kernel
theorem dX7_merge_172 : decode cX7_merge 172 = .ok (.invokevirtual 183, 3) := by decide +kernel
theorem dX7_merge_175 : decode cX7_merge 175 = .ok (.iinc 5 1, 3) := by decide +kernel
theorem dX7_merge_178 : decode cX7_merge 178 = .ok (.goto (-98), 3) := by decide +kernel
theorem dX7_merge_181 : decode cX7_merge 181 = .ok (.iconst 0, 1) := by decide +kernel
theorem dX7_merge_182 : decode cX7_merge 182 = .ok (.istore 5, 2) := by decide +kernel
theorem dX7_merge_184 : decode cX7_merge 184 = .ok (.iload 5, 2) := by decide +kernel
theorem dX7_merge_186 : decode cX7_merge 186 = .ok (.sipush 330, 3) := by decide +kernel
theorem dX7_merge_189 : decode cX7_merge 189 = .ok (.if_icmp .ge 49, 3) := by decide +kernel
theorem dX7_merge_192 : decode cX7_merge 192 = .ok (.aload_n 0, 1) := by decide +kernel
theorem dX7_merge_193 : decode cX7_merge 193 = .ok (.getfield 22, 3) := by decide +kernel
theorem dX7_merge_196 : decode cX7_merge 196 = .ok (.iload 5, 2) := by decide +kernel
theorem dX7_merge_198 : decode cX7_merge 198 = .ok (.iaload, 1) := by decide +kernel
theorem dX7_merge_199 : decode cX7_merge 199 = .ok (.iload_n 1, 1) := by decide +kernel
theorem dX7_merge_200 : decode cX7_merge 200 = .ok (.iconst 1, 1) := by decide +kernel
theorem dX7_merge_201 : decode cX7_merge 201 = .ok (.iadd, 1) := by decide +kernel
theorem dX7_merge_202 : decode cX7_merge 202 = .ok (.if_icmp .ne 30, 3) := by decide +kernel
theorem dX7_merge_205 : decode cX7_merge 205 = .ok (.aload_n 0, 1) := by decide +kernel
theorem dX7_merge_206 : decode cX7_merge 206 = .ok (.iload 5, 2) := by decide +kernel
theorem dX7_merge_208 : decode cX7_merge 208 = .ok (.invokevirtual 176, 3) := by decide +kernel
theorem dX7_merge_211 : decode cX7_merge 211 = .ok (.iload 4, 2) := by decide +kernel
theorem dX7_merge_213 : decode cX7_merge 213 = .ok (.if_icmp .gt 19, 3) := by decide +kernel
theorem dX7_merge_216 : decode cX7_merge 216 = .ok (.aload_n 0, 1) := by decide +kernel
theorem dX7_merge_217 : decode cX7_merge 217 = .ok (.iload 5, 2) := by decide +kernel
theorem dX7_merge_219 : decode cX7_merge 219 = .ok (.invokevirtual 180, 3) := by decide +kernel
theorem dX7_merge_222 : decode cX7_merge 222 = .ok (.iload_n 3, 1) := by decide +kernel
theorem dX7_merge_223 : decode cX7_merge 223 = .ok (.if_icmp .lt 9, 3) := by decide +kernel
theorem dX7_merge_226 : decode cX7_merge 226 = .ok (.aload_n 0, 1) := by decide +kernel
theorem dX7_merge_227 : decode cX7_merge 227 = .ok (.iload 5, 2) := by decide +kernel
theorem dX7_merge_229 : decode cX7_merge 229 = .ok (.invokevirtual 183, 3) := by decide +kernel
theorem dX7_merge_232 : decode cX7_merge 232 = .ok (.iinc 5 1, 3) := by decide +kernel
theorem dX7_merge_235 : decode cX7_merge 235 = .ok (.goto (-51), 3) := by decide +kernel
theorem dX7_merge_238 : decode cX7_merge 238 = .ok (.aload_n 0, 1) := by decide +kernel
theorem dX7_merge_239 : decode cX7_merge 239 = .ok (.getfield 140, 3) := by decide +kernel
theorem dX7_merge_242 : decode cX7_merge 242 = .ok (.ireturn, 1) := by decide +kernel
theorem dX7_isUnseen_0 : decode cX7_isUnseen 0 = .ok (.iload_n 1, 1) := by decide +kernel
theorem dX7_isUnseen_1 : decode cX7_isUnseen 1 = .ok (.ifCond .eq 20, 3) := by decide +kernel
theorem dX7_isUnseen_4 : decode cX7_isUnseen 4 = .ok (.aload_n 0, 1) := by decide +kernel
theorem dX7_isUnseen_5 : decode cX7_isUnseen 5 = .ok (.getfield 52, 3) := by decide +kernel
theorem dX7_isUnseen_8 : decode cX7_isUnseen 8 = .ok (.iload_n 1, 1) := by decide +kernel
theorem dX7_isUnseen_9 : decode cX7_isUnseen 9 = .ok (.iconst 1, 1) := by decide +kernel
theorem dX7_isUnseen_10 : decode cX7_isUnseen 10 = .ok (.isub, 1) := by decide +kernel
theorem dX7_isUnseen_11 : decode cX7_isUnseen 11 = .ok (.iaload, 1) := by decide +kernel
theorem dX7_isUnseen_12 : decode cX7_isUnseen 12 = .ok (.aload_n 0, 1) := by decide +kernel
theorem dX7_isUnseen_13 : decode cX7_isUnseen 13 = .ok (.getfield 52, 3) := by decide +kernel
theorem dX7_isUnseen_16 : decode cX7_isUnseen 16 = .ok (.iload_n 1, 1) := by decide +kernel
theorem dX7_isUnseen_17 : decode cX7_isUnseen 17 = .ok (.iaload, 1) := by decide +kernel
theorem dX7_isUnseen_18 : decode cX7_isUnseen 18 = .ok (.if_icmp .eq 5, 3) := by decide +kernel
theorem dX7_isUnseen_21 : decode cX7_isUnseen 21 = .ok (.iconst 0, 1) := by decide +kernel
theorem dX7_isUnseen_22 : decode cX7_isUnseen 22 = .ok (.ireturn, 1) := by decide +kernel
theorem dX7_isUnseen_23 : decode cX7_isUnseen 23 = .ok (.iconst 1, 1) := by decide +kernel
theorem dX7_isUnseen_24 : decode cX7_isUnseen 24 = .ok (.istore_n 2, 1) := by decide +kernel
theorem dX7_isUnseen_25 : decode cX7_isUnseen 25 = .ok (.iconst 0, 1) := by decide +kernel
theorem dX7_isUnseen_26 : decode cX7_isUnseen 26 = .ok (.istore_n 3, 1) := by decide +kernel
theorem dX7_isUnseen_27 : decode cX7_isUnseen 27 = .ok (.iload_n 3, 1) := by decide +kernel
theorem dX7_isUnseen_28 : decode cX7_isUnseen 28 = .ok (.iconst 3, 1) := by decide +kernel
theorem dX7_isUnseen_29 : decode cX7_isUnseen 29 = .ok (.if_icmp .ge 51, 3) := by decide +kernel
theorem dX7_isUnseen_32 : decode cX7_isUnseen 32 = .ok (.iload_n 2, 1) := by decide +kernel
theorem dX7_isUnseen_33 : decode cX7_isUnseen 33 = .ok (.ifCond .eq 39, 3) := by decide +kernel
theorem dX7_isUnseen_36 : decode cX7_isUnseen 36 = .ok (.aload_n 0, 1) := by decide +kernel
theorem dX7_isUnseen_37 : decode cX7_isUnseen 37 = .ok (.getfield 65, 3) := by decide +kernel
theorem dX7_isUnseen_40 : decode cX7_isUnseen 40 = .ok (.iload_n 3, 1) := by decide +kernel
theorem dX7_isUnseen_41 : decode cX7_isUnseen 41 = .ok (.iaload, 1) := by decide +kernel
theorem dX7_isUnseen_42 : decode cX7_isUnseen 42 = .ok (.aload_n 0, 1) := by decide +kernel
theorem dX7_isUnseen_43 : decode cX7_isUnseen 43 = .ok (.getfield 55, 3) := by decide +kernel
theorem dX7_isUnseen_46 : decode cX7_isUnseen 46 = .ok (.iload_n 1, 1) := by decide +kernel
theorem dX7_isUnseen_47 : decode cX7_isUnseen 47 = .ok (.iaload, 1) := by decide +kernel
theorem dX7_isUnseen_48 : decode cX7_isUnseen 48 = .ok (.if_icmp .lt 20, 3) := by decide +kernel
theorem dX7_isUnseen_51 : decode cX7_isUnseen 51 = .ok (.aload_n 0, 1) := by decide +kernel
theorem dX7_isUnseen_52 : decode cX7_isUnseen 52 = .ok (.getfield 65, 3) := by decide +kernel
theorem dX7_isUnseen_55 : decode cX7_isUnseen 55 = .ok (.iload_n 3, 1) := by decide +kernel
theorem dX7_isUnseen_56 : decode cX7_isUnseen 56 = .ok (.iaload, 1) := by decide +kernel
theorem dX7_isUnseen_57 : decode cX7_isUnseen 57 = .ok (.aload_n 0, 1) := by decide +kernel
theorem dX7_isUnseen_58 : decode cX7_isUnseen 58 = .ok (.getfield 55, 3) := by decide +kernel
theorem dX7_isUnseen_61 : decode cX7_isUnseen 61 = .ok (.iload_n 1, 1) := by decide +kernel
theorem dX7_isUnseen_62 : decode cX7_isUnseen 62 = .ok (.iconst 1, 1) := by decide +kernel
theorem dX7_isUnseen_63 : decode cX7_isUnseen 63 = .ok (.isub, 1) := by decide +kernel
theorem dX7_isUnseen_64 : decode cX7_isUnseen 64 = .ok (.iaload, 1) := by decide +kernel
theorem dX7_isUnseen_65 : decode cX7_isUnseen 65 = .ok (.if_icmp .lt 7, 3) := by decide +kernel
theorem dX7_isUnseen_68 : decode cX7_isUnseen 68 = .ok (.iconst 1, 1) := by decide +kernel
theorem dX7_isUnseen_69 : decode cX7_isUnseen 69 = .ok (.goto 4, 3) := by decide +kernel
theorem dX7_isUnseen_72 : decode cX7_isUnseen 72 = .ok (.iconst 0, 1) := by decide +kernel
theorem dX7_isUnseen_73 : decode cX7_isUnseen 73 = .ok (.istore_n 2, 1) := by decide +kernel
theorem dX7_isUnseen_74 : decode cX7_isUnseen 74 = .ok (.iinc 3 1, 3) := by decide +kernel
theorem dX7_isUnseen_77 : decode cX7_isUnseen 77 = .ok (.goto (-50), 3) := by decide +kernel
theorem dX7_isUnseen_80 : decode cX7_isUnseen 80 = .ok (.iload_n 2, 1) := by decide +kernel
theorem dX7_isUnseen_81 : decode cX7_isUnseen 81 = .ok (.ireturn, 1) := by decide +kernel
theorem dX7_isLeftOut_0 : decode cX7_isLeftOut 0 = .ok (.aload_n 0, 1) := by decide +kernel
theorem dX7_isLeftOut_1 : decode cX7_isLeftOut 1 = .ok (.iload_n 1, 1) := by decide +kernel
theorem dX7_isLeftOut_2 : decode cX7_isLeftOut 2 = .ok (.invokevirtual 186, 3) := by decide +kernel
theorem dX7_isLeftOut_5 : decode cX7_isLeftOut 5 = .ok (.ifCond .eq 5, 3) := by decide +kernel
theorem dX7_isLeftOut_8 : decode cX7_isLeftOut 8 = .ok (.iconst 1, 1) := by decide +kernel
theorem dX7_isLeftOut_9 : decode cX7_isLeftOut 9 = .ok (.ireturn, 1) := by decide +kernel
theorem dX7_isLeftOut_10 : decode cX7_isLeftOut 10 = .ok (.aload_n 0, 1) := by decide +kernel
theorem dX7_isLeftOut_11 : decode cX7_isLeftOut 11 = .ok (.getfield 150, 3) := by decide +kernel
theorem dX7_isLeftOut_14 : decode cX7_isLeftOut 14 = .ok (.iconst 2, 1) := by decide +kernel
theorem dX7_isLeftOut_15 : decode cX7_isLeftOut 15 = .ok (.if_icmp .ne 18, 3) := by decide +kernel
theorem dX7_isLeftOut_18 : decode cX7_isLeftOut 18 = .ok (.aload_n 0, 1) := by decide +kernel
theorem dX7_isLeftOut_19 : decode cX7_isLeftOut 19 = .ok (.getfield 58, 3) := by decide +kernel
theorem dX7_isLeftOut_22 : decode cX7_isLeftOut 22 = .ok (.iload_n 1, 1) := by decide +kernel
theorem dX7_isLeftOut_23 : decode cX7_isLeftOut 23 = .ok (.iaload, 1) := by decide +kernel
theorem dX7_isLeftOut_24 : decode cX7_isLeftOut 24 = .ok (.ldc 116, 2) := by decide +kernel
theorem dX7_isLeftOut_26 : decode cX7_isLeftOut 26 = .ok (.if_icmp .ne 7, 3) := by decide +kernel
theorem dX7_isLeftOut_29 : decode cX7_isLeftOut 29 = .ok (.iconst 1, 1) := by decide +kernel
theorem dX7_isLeftOut_30 : decode cX7_isLeftOut 30 = .ok (.goto 4, 3) := by decide +kernel
theorem dX7_isLeftOut_33 : decode cX7_isLeftOut 33 = .ok (.iconst 0, 1) := by decide +kernel
theorem dX7_isLeftOut_34 : decode cX7_isLeftOut 34 = .ok (.istore_n 2, 1) := by decide +kernel
theorem dX7_isLeftOut_35 : decode cX7_isLeftOut 35 = .ok (.iload_n 1, 1) := by decide +kernel
theorem dX7_isLeftOut_36 : decode cX7_isLeftOut 36 = .ok (.iconst 1, 1) := by decide +kernel
theorem dX7_isLeftOut_37 : decode cX7_isLeftOut 37 = .ok (.iadd, 1) := by decide +kernel
theorem dX7_isLeftOut_38 : decode cX7_isLeftOut 38 = .ok (.istore_n 3, 1) := by decide +kernel
theorem dX7_isLeftOut_39 : decode cX7_isLeftOut 39 = .ok (.iload_n 3, 1) := by decide +kernel
theorem dX7_isLeftOut_40 : decode cX7_isLeftOut 40 = .ok (.aload_n 0, 1) := by decide +kernel
theorem dX7_isLeftOut_41 : decode cX7_isLeftOut 41 = .ok (.getfield 140, 3) := by decide +kernel
theorem dX7_isLeftOut_44 : decode cX7_isLeftOut 44 = .ok (.if_icmp .ge 53, 3) := by decide +kernel
theorem dX7_isLeftOut_47 : decode cX7_isLeftOut 47 = .ok (.aload_n 0, 1) := by decide +kernel
theorem dX7_isLeftOut_48 : decode cX7_isLeftOut 48 = .ok (.getfield 52, 3) := by decide +kernel
theorem dX7_isLeftOut_51 : decode cX7_isLeftOut 51 = .ok (.iload_n 3, 1) := by decide +kernel
theorem dX7_isLeftOut_52 : decode cX7_isLeftOut 52 = .ok (.iaload, 1) := by decide +kernel
theorem dX7_isLeftOut_53 : decode cX7_isLeftOut 53 = .ok (.aload_n 0, 1) := by decide +kernel
theorem dX7_isLeftOut_54 : decode cX7_isLeftOut 54 = .ok (.getfield 52, 3) := by decide +kernel
theorem dX7_isLeftOut_57 : decode cX7_isLeftOut 57 = .ok (.iload_n 1, 1) := by decide +kernel
theorem dX7_isLeftOut_58 : decode cX7_isLeftOut 58 = .ok (.iaload, 1) := by decide +kernel
theorem dX7_isLeftOut_59 : decode cX7_isLeftOut 59 = .ok (.if_icmp .ne 38, 3) := by decide +kernel
theorem dX7_isLeftOut_62 : decode cX7_isLeftOut 62 = .ok (.iload_n 2, 1) := by decide +kernel
theorem dX7_isLeftOut_63 : decode cX7_isLeftOut 63 = .ok (.ifCond .eq 34, 3) := by decide +kernel
theorem dX7_isLeftOut_66 : decode cX7_isLeftOut 66 = .ok (.aload_n 0, 1) := by decide +kernel
theorem dX7_isLeftOut_67 : decode cX7_isLeftOut 67 = .ok (.iload_n 3, 1) := by decide +kernel
theorem dX7_isLeftOut_68 : decode cX7_isLeftOut 68 = .ok (.invokevirtual 186, 3) := by decide +kernel
theorem dX7_isLeftOut_71 : decode cX7_isLeftOut 71 = .ok (.ifCond .ne 14, 3) := by decide +kernel
theorem dX7_isLeftOut_74 : decode cX7_isLeftOut 74 = .ok (.aload_n 0, 1) := by decide +kernel
theorem dX7_isLeftOut_75 : decode cX7_isLeftOut 75 = .ok (.getfield 58, 3) := by decide +kernel
theorem dX7_isLeftOut_78 : decode cX7_isLeftOut 78 = .ok (.iload_n 3, 1) := by decide +kernel
theorem dX7_isLeftOut_79 : decode cX7_isLeftOut 79 = .ok (.iaload, 1) := by decide +kernel
theorem dX7_isLeftOut_80 : decode cX7_isLeftOut 80 = .ok (.ldc 116, 2) := by decide +kernel
theorem dX7_isLeftOut_82 : decode cX7_isLeftOut 82 = .ok (.if_icmp .ne 7, 3) := by decide +kernel
theorem dX7_isLeftOut_85 : decode cX7_isLeftOut 85 = .ok (.iconst 1, 1) := by decide +kernel
theorem dX7_isLeftOut_86 : decode cX7_isLeftOut 86 = .ok (.goto 4, 3) := by decide +kernel
theorem dX7_isLeftOut_89 : decode cX7_isLeftOut 89 = .ok (.iconst 0, 1) := by decide +kernel
theorem dX7_isLeftOut_90 : decode cX7_isLeftOut 90 = .ok (.istore_n 2, 1) := by decide +kernel
theorem dX7_isLeftOut_91 : decode cX7_isLeftOut 91 = .ok (.iinc 3 1, 3) := by decide +kernel
theorem dX7_isLeftOut_94 : decode cX7_isLeftOut 94 = .ok (.goto (-55), 3) := by decide +kernel
theorem dX7_isLeftOut_97 : decode cX7_isLeftOut 97 = .ok (.iload_n 2, 1) := by decide +kernel
theorem dX7_isLeftOut_98 : decode cX7_isLeftOut 98 = .ok (.ireturn, 1) := by decide +kernel
theorem dX7_shortNumber_0 : decode cX7_shortNumber 0 = .ok (.iload_n 1, 1) := by decide +kernel
theorem dX7_shortNumber_1 : decode cX7_shortNumber 1 = .ok (.istore_n 2, 1) := by decide +kernel
theorem dX7_shortNumber_2 : decode cX7_shortNumber 2 = .ok (.iload_n 2, 1) := by decide +kernel
theorem dX7_shortNumber_3 : decode cX7_shortNumber 3 = .ok (.bipush 127, 2) := by decide +kernel
theorem dX7_shortNumber_5 : decode cX7_shortNumber 5 = .ok (.if_icmp .le 40, 3) := by decide +kernel
theorem dX7_shortNumber_8 : decode cX7_shortNumber 8 = .ok (.aload_n 0, 1) := by decide +kernel
theorem dX7_shortNumber_9 : decode cX7_shortNumber 9 = .ok (.getfield 77, 3) := by decide +kernel
theorem dX7_shortNumber_12 : decode cX7_shortNumber 12 = .ok (.aload_n 0, 1) := by decide +kernel
theorem dX7_shortNumber_13 : decode cX7_shortNumber 13 = .ok (.getfield 189, 3) := by decide +kernel
theorem dX7_shortNumber_16 : decode cX7_shortNumber 16 = .ok (.iload_n 2, 1) := by decide +kernel
theorem dX7_shortNumber_17 : decode cX7_shortNumber 17 = .ok (.sipush 128, 3) := by decide +kernel
theorem dX7_shortNumber_20 : decode cX7_shortNumber 20 = .ok (.irem, 1) := by decide +kernel
theorem dX7_shortNumber_21 : decode cX7_shortNumber 21 = .ok (.sipush 128, 3) := by decide +kernel
theorem dX7_shortNumber_24 : decode cX7_shortNumber 24 = .ok (.iadd, 1) := by decide +kernel
theorem dX7_shortNumber_25 : decode cX7_shortNumber 25 = .ok (.iastore, 1) := by decide +kernel
theorem dX7_shortNumber_26 : decode cX7_shortNumber 26 = .ok (.aload_n 0, 1) := by decide +kernel
theorem dX7_shortNumber_27 : decode cX7_shortNumber 27 = .ok (.dup, 1) := by decide +kernel
theorem dX7_shortNumber_28 : decode cX7_shortNumber 28 = .ok (.getfield 189, 3) := by decide +kernel
theorem dX7_shortNumber_31 : decode cX7_shortNumber 31 = .ok (.iconst 1, 1) := by decide +kernel
theorem dX7_shortNumber_32 : decode cX7_shortNumber 32 = .ok (.iadd, 1) := by decide +kernel
theorem dX7_shortNumber_33 : decode cX7_shortNumber 33 = .ok (.putfield 189, 3) := by decide +kernel
theorem dX7_shortNumber_36 : decode cX7_shortNumber 36 = .ok (.iload_n 2, 1) := by decide +kernel
theorem dX7_shortNumber_37 : decode cX7_shortNumber 37 = .ok (.sipush 128, 3) := by decide +kernel
theorem dX7_shortNumber_40 : decode cX7_shortNumber 40 = .ok (.idiv, 1) := by decide +kernel
theorem dX7_shortNumber_41 : decode cX7_shortNumber 41 = .ok (.istore_n 2, 1) := by decide +kernel
theorem dX7_shortNumber_42 : decode cX7_shortNumber 42 = .ok (.goto (-40), 3) := by decide +kernel
theorem dX7_shortNumber_45 : decode cX7_shortNumber 45 = .ok (.aload_n 0, 1) := by decide +kernel
theorem dX7_shortNumber_46 : decode cX7_shortNumber 46 = .ok (.getfield 77, 3) := by decide +kernel
theorem dX7_shortNumber_49 : decode cX7_shortNumber 49 = .ok (.aload_n 0, 1) := by decide +kernel
theorem dX7_shortNumber_50 : decode cX7_shortNumber 50 = .ok (.getfield 189, 3) := by decide +kernel
theorem dX7_shortNumber_53 : decode cX7_shortNumber 53 = .ok (.iload_n 2, 1) := by decide +kernel
theorem dX7_shortNumber_54 : decode cX7_shortNumber 54 = .ok (.iastore, 1) := by decide +kernel
theorem dX7_shortNumber_55 : decode cX7_shortNumber 55 = .ok (.aload_n 0, 1) := by decide +kernel
theorem dX7_shortNumber_56 : decode cX7_shortNumber 56 = .ok (.dup, 1) := by decide +kernel
theorem dX7_shortNumber_57 : decode cX7_shortNumber 57 = .ok (.getfield 189, 3) := by decide +kernel
theorem dX7_shortNumber_60 : decode cX7_shortNumber 60 = .ok (.iconst 1, 1) := by decide +kernel
theorem dX7_shortNumber_61 : decode cX7_shortNumber 61 = .ok (.iadd, 1) := by decide +kernel
theorem dX7_shortNumber_62 : decode cX7_shortNumber 62 = .ok (.putfield 189, 3) := by decide +kernel
theorem dX7_shortNumber_65 : decode cX7_shortNumber 65 = .ok (.return_, 1) := by decide +kernel
theorem dX7_encode_0 : decode cX7_encode 0 = .ok (.aload_n 0, 1) := by decide +kernel
theorem dX7_encode_1 : decode cX7_encode 1 = .ok (.iconst 0, 1) := by decide +kernel
theorem dX7_encode_2 : decode cX7_encode 2 = .ok (.putfield 189, 3) := by decide +kernel
theorem dX7_encode_5 : decode cX7_encode 5 = .ok (.aload_n 0, 1) := by decide +kernel
theorem dX7_encode_6 : decode cX7_encode 6 = .ok (.getfield 77, 3) := by decide +kernel
theorem dX7_encode_9 : decode cX7_encode 9 = .ok (.aload_n 0, 1) := by decide +kernel
theorem dX7_encode_10 : decode cX7_encode 10 = .ok (.getfield 189, 3) := by decide +kernel
theorem dX7_encode_13 : decode cX7_encode 13 = .ok (.aload_n 0, 1) := by decide +kernel
theorem dX7_encode_14 : decode cX7_encode 14 = .ok (.getfield 159, 3) := by decide +kernel
theorem dX7_encode_17 : decode cX7_encode 17 = .ok (.iastore, 1) := by decide +kernel
theorem dX7_encode_18 : decode cX7_encode 18 = .ok (.aload_n 0, 1) := by decide +kernel
theorem dX7_encode_19 : decode cX7_encode 19 = .ok (.dup, 1) := by decide +kernel
theorem dX7_encode_20 : decode cX7_encode 20 = .ok (.getfield 189, 3) := by decide +kernel
theorem dX7_encode_23 : decode cX7_encode 23 = .ok (.iconst 1, 1) := by decide +kernel
theorem dX7_encode_24 : decode cX7_encode 24 = .ok (.iadd, 1) := by decide +kernel
theorem dX7_encode_25 : decode cX7_encode 25 = .ok (.putfield 189, 3) := by decide +kernel
theorem dX7_encode_28 : decode cX7_encode 28 = .ok (.iconst 0, 1) := by decide +kernel
theorem dX7_encode_29 : decode cX7_encode 29 = .ok (.istore_n 1, 1) := by decide +kernel
theorem dX7_encode_30 : decode cX7_encode 30 = .ok (.iload_n 1, 1) := by decide +kernel
theorem dX7_encode_31 : decode cX7_encode 31 = .ok (.aload_n 0, 1) := by decide +kernel
theorem dX7_encode_32 : decode cX7_encode 32 = .ok (.getfield 159, 3) := by decide +kernel
theorem dX7_encode_35 : decode cX7_encode 35 = .ok (.if_icmp .ge 119, 3) := by decide +kernel
theorem dX7_encode_38 : decode cX7_encode 38 = .ok (.aload_n 0, 1) := by decide +kernel
theorem dX7_encode_39 : decode cX7_encode 39 = .ok (.getfield 74, 3) := by decide +kernel
theorem dX7_encode_42 : decode cX7_encode 42 = .ok (.iload_n 1, 1) := by decide +kernel
theorem dX7_encode_43 : decode cX7_encode 43 = .ok (.iaload, 1) := by decide +kernel
theorem dX7_encode_44 : decode cX7_encode 44 = .ok (.ldc 116, 2) := by decide +kernel
theorem dX7_encode_46 : decode cX7_encode 46 = .ok (.if_icmp .ne 7, 3) := by decide +kernel
theorem dX7_encode_49 : decode cX7_encode 49 = .ok (.iconst 1, 1) := by decide +kernel
theorem dX7_encode_50 : decode cX7_encode 50 = .ok (.goto 4, 3) := by decide +kernel
theorem dX7_encode_53 : decode cX7_encode 53 = .ok (.iconst 0, 1) := by decide +kernel
theorem dX7_encode_54 : decode cX7_encode 54 = .ok (.istore_n 2, 1) := by decide +kernel
theorem dX7_encode_55 : decode cX7_encode 55 = .ok (.aload_n 0, 1) := by decide +kernel
theorem dX7_encode_56 : decode cX7_encode 56 = .ok (.iload_n 1, 1) := by decide +kernel
theorem dX7_encode_57 : decode cX7_encode 57 = .ok (.ifCond .ne 12, 3) := by decide +kernel
theorem dX7_encode_60 : decode cX7_encode 60 = .ok (.aload_n 0, 1) := by decide +kernel
theorem dX7_encode_61 : decode cX7_encode 61 = .ok (.getfield 68, 3) := by decide +kernel
theorem dX7_encode_64 : decode cX7_encode 64 = .ok (.iconst 0, 1) := by decide +kernel
theorem dX7_encode_65 : decode cX7_encode 65 = .ok (.iaload, 1) := by decide +kernel
theorem dX7_encode_66 : decode cX7_encode 66 = .ok (.goto 18, 3) := by decide +kernel
theorem dX7_encode_69 : decode cX7_encode 69 = .ok (.aload_n 0, 1) := by decide +kernel
theorem dX7_encode_70 : decode cX7_encode 70 = .ok (.getfield 68, 3) := by decide +kernel
theorem dX7_encode_73 : decode cX7_encode 73 = .ok (.iload_n 1, 1) := by decide +kernel
theorem dX7_encode_74 : decode cX7_encode 74 = .ok (.iaload, 1) := by decide +kernel
theorem dX7_encode_75 : decode cX7_encode 75 = .ok (.aload_n 0, 1) := by decide +kernel
theorem dX7_encode_76 : decode cX7_encode 76 = .ok (.getfield 68, 3) := by decide +kernel
theorem dX7_encode_79 : decode cX7_encode 79 = .ok (.iload_n 1, 1) := by decide +kernel
theorem dX7_encode_80 : decode cX7_encode 80 = .ok (.iconst 1, 1) := by decide +kernel
theorem dX7_encode_81 : decode cX7_encode 81 = .ok (.isub, 1) := by decide +kernel
theorem dX7_encode_82 : decode cX7_encode 82 = .ok (.iaload, 1) := by decide +kernel
theorem dX7_encode_83 : decode cX7_encode 83 = .ok (.isub, 1) := by decide +kernel
theorem dX7_encode_84 : decode cX7_encode 84 = .ok (.invokevirtual 192, 3) := by decide +kernel
theorem dX7_encode_87 : decode cX7_encode 87 = .ok (.aload_n 0, 1) := by decide +kernel
theorem dX7_encode_88 : decode cX7_encode 88 = .ok (.iconst 2, 1) := by decide +kernel
theorem dX7_encode_89 : decode cX7_encode 89 = .ok (.aload_n 0, 1) := by decide +kernel
theorem dX7_encode_90 : decode cX7_encode 90 = .ok (.getfield 71, 3) := by decide +kernel
theorem dX7_encode_93 : decode cX7_encode 93 = .ok (.iload_n 1, 1) := by decide +kernel
theorem dX7_encode_94 : decode cX7_encode 94 = .ok (.iaload, 1) := by decide +kernel
theorem dX7_encode_95 : decode cX7_encode 95 = .ok (.imul, 1) := by decide +kernel
theorem dX7_encode_96 : decode cX7_encode 96 = .ok (.iload_n 2, 1) := by decide +kernel
theorem dX7_encode_97 : decode cX7_encode 97 = .ok (.ifCond .eq 7, 3) := by decide +kernel
theorem dX7_encode_100 : decode cX7_encode 100 = .ok (.iconst 1, 1) := by decide +kernel
theorem dX7_encode_101 : decode cX7_encode 101 = .ok (.goto 4, 3) := by decide +kernel
theorem dX7_encode_104 : decode cX7_encode 104 = .ok (.iconst 0, 1) := by decide +kernel
theorem dX7_encode_105 : decode cX7_encode 105 = .ok (.iadd, 1) := by decide +kernel
theorem dX7_encode_106 : decode cX7_encode 106 = .ok (.invokevirtual 192, 3) := by decide +kernel
theorem dX7_encode_109 : decode cX7_encode 109 = .ok (.iload_n 2, 1) := by decide +kernel
theorem dX7_encode_110 : decode cX7_encode 110 = .ok (.ifCond .ne 38, 3) := by decide +kernel
theorem dX7_encode_113 : decode cX7_encode 113 = .ok (.aload_n 0, 1) := by decide +kernel
theorem dX7_encode_114 : decode cX7_encode 114 = .ok (.aload_n 0, 1) := by decide +kernel
theorem dX7_encode_115 : decode cX7_encode 115 = .ok (.getfield 74, 3) := by decide +kernel
theorem dX7_encode_118 : decode cX7_encode 118 = .ok (.iload_n 1, 1) := by decide +kernel
theorem dX7_encode_119 : decode cX7_encode 119 = .ok (.iaload, 1) := by decide +kernel
theorem dX7_encode_120 : decode cX7_encode 120 = .ok (.ifCond .ge 17, 3) := by decide +kernel
theorem dX7_encode_123 : decode cX7_encode 123 = .ok (.bipush (-2), 2) := by decide +kernel
theorem dX7_encode_125 : decode cX7_encode 125 = .ok (.aload_n 0, 1) := by decide +kernel
theorem dX7_encode_126 : decode cX7_encode 126 = .ok (.getfield 74, 3) := by decide +kernel
theorem dX7_encode_129 : decode cX7_encode 129 = .ok (.iload_n 1, 1) := by decide +kernel
theorem dX7_encode_130 : decode cX7_encode 130 = .ok (.iaload, 1) := by decide +kernel
theorem dX7_encode_131 : decode cX7_encode 131 = .ok (.imul, 1) := by decide +kernel
theorem dX7_encode_132 : decode cX7_encode 132 = .ok (.iconst 1, 1) := by decide +kernel
theorem dX7_encode_133 : decode cX7_encode 133 = .ok (.isub, 1) := by decide +kernel
theorem dX7_encode_134 : decode cX7_encode 134 = .ok (.goto 11, 3) := by decide +kernel
theorem dX7_encode_137 : decode cX7_encode 137 = .ok (.iconst 2, 1) := by decide +kernel
theorem dX7_encode_138 : decode cX7_encode 138 = .ok (.aload_n 0, 1) := by decide +kernel
theorem dX7_encode_139 : decode cX7_encode 139 = .ok (.getfield 74, 3) := by decide +kernel
theorem dX7_encode_142 : decode cX7_encode 142 = .ok (.iload_n 1, 1) := by decide +kernel
theorem dX7_encode_143 : decode cX7_encode 143 = .ok (.iaload, 1) := by decide +kernel
theorem dX7_encode_144 : decode cX7_encode 144 = .ok (.imul, 1) := by decide +kernel
theorem dX7_encode_145 : decode cX7_encode 145 = .ok (.invokevirtual 192, 3) := by decide +kernel
theorem dX7_encode_148 : decode cX7_encode 148 = .ok (.iinc 1 1, 3) := by decide +kernel
theorem dX7_encode_151 : decode cX7_encode 151 = .ok (.goto (-121), 3) := by decide +kernel
theorem dX7_encode_154 : decode cX7_encode 154 = .ok (.iconst 0, 1) := by decide +kernel
theorem dX7_encode_155 : decode cX7_encode 155 = .ok (.istore_n 1, 1) := by decide +kernel
theorem dX7_encode_156 : decode cX7_encode 156 = .ok (.iconst 0, 1) := by decide +kernel
theorem dX7_encode_157 : decode cX7_encode 157 = .ok (.istore_n 2, 1) := by decide +kernel
theorem dX7_encode_158 : decode cX7_encode 158 = .ok (.iload_n 2, 1) := by decide +kernel
theorem dX7_encode_159 : decode cX7_encode 159 = .ok (.aload_n 0, 1) := by decide +kernel
theorem dX7_encode_160 : decode cX7_encode 160 = .ok (.getfield 189, 3) := by decide +kernel
theorem dX7_encode_163 : decode cX7_encode 163 = .ok (.if_icmp .ge 18, 3) := by decide +kernel
theorem dX7_encode_166 : decode cX7_encode 166 = .ok (.iload_n 1, 1) := by decide +kernel
theorem dX7_encode_167 : decode cX7_encode 167 = .ok (.aload_n 0, 1) := by decide +kernel
theorem dX7_encode_168 : decode cX7_encode 168 = .ok (.getfield 77, 3) := by decide +kernel
theorem dX7_encode_171 : decode cX7_encode 171 = .ok (.iload_n 2, 1) := by decide +kernel
theorem dX7_encode_172 : decode cX7_encode 172 = .ok (.iaload, 1) := by decide +kernel
theorem dX7_encode_173 : decode cX7_encode 173 = .ok (.iadd, 1) := by decide +kernel
theorem dX7_encode_174 : decode cX7_encode 174 = .ok (.istore_n 1, 1) := by decide +kernel
theorem dX7_encode_175 : decode cX7_encode 175 = .ok (.iinc 2 1, 3) := by decide +kernel
theorem dX7_encode_178 : decode cX7_encode 178 = .ok (.goto (-20), 3) := by decide +kernel
theorem dX7_encode_181 : decode cX7_encode 181 = .ok (.aload_n 0, 1) := by decide +kernel
theorem dX7_encode_182 : decode cX7_encode 182 = .ok (.getfield 77, 3) := by decide +kernel
theorem dX7_encode_185 : decode cX7_encode 185 = .ok (.aload_n 0, 1) := by decide +kernel
theorem dX7_encode_186 : decode cX7_encode 186 = .ok (.getfield 189, 3) := by decide +kernel
theorem dX7_encode_189 : decode cX7_encode 189 = .ok (.iload_n 1, 1) := by decide +kernel
theorem dX7_encode_190 : decode cX7_encode 190 = .ok (.sipush 251, 3) := by decide +kernel
theorem dX7_encode_193 : decode cX7_encode 193 = .ok (.irem, 1) := by decide +kernel
theorem dX7_encode_194 : decode cX7_encode 194 = .ok (.iastore, 1) := by decide +kernel
theorem dX7_encode_195 : decode cX7_encode 195 = .ok (.aload_n 0, 1) := by decide +kernel
theorem dX7_encode_196 : decode cX7_encode 196 = .ok (.dup, 1) := by decide +kernel
theorem dX7_encode_197 : decode cX7_encode 197 = .ok (.getfield 189, 3) := by decide +kernel
theorem dX7_encode_200 : decode cX7_encode 200 = .ok (.iconst 1, 1) := by decide +kernel
theorem dX7_encode_201 : decode cX7_encode 201 = .ok (.iadd, 1) := by decide +kernel
theorem dX7_encode_202 : decode cX7_encode 202 = .ok (.putfield 189, 3) := by decide +kernel
theorem dX7_encode_205 : decode cX7_encode 205 = .ok (.return_, 1) := by decide +kernel
theorem dX7_room_0 : decode cX7_room 0 = .ok (.iconst 0, 1) := by decide +kernel
theorem dX7_room_1 : decode cX7_room 1 = .ok (.istore_n 2, 1) := by decide +kernel
theorem dX7_room_2 : decode cX7_room 2 = .ok (.iconst 1, 1) := by decide +kernel
theorem dX7_room_3 : decode cX7_room 3 = .ok (.istore_n 3, 1) := by decide +kernel
theorem dX7_room_4 : decode cX7_room 4 = .ok (.iload_n 3, 1) := by decide +kernel
theorem dX7_room_5 : decode cX7_room 5 = .ok (.ifCond .eq 85, 3) := by decide +kernel
theorem dX7_room_8 : decode cX7_room 8 = .ok (.iconst 0, 1) := by decide +kernel
theorem dX7_room_9 : decode cX7_room 9 = .ok (.istore_n 3, 1) := by decide +kernel
theorem dX7_room_10 : decode cX7_room 10 = .ok (.iconst 0, 1) := by decide +kernel
theorem dX7_room_11 : decode cX7_room 11 = .ok (.istore 4, 2) := by decide +kernel
theorem dX7_room_13 : decode cX7_room 13 = .ok (.iload 4, 2) := by decide +kernel
theorem dX7_room_15 : decode cX7_room 15 = .ok (.sipush 330, 3) := by decide +kernel
theorem dX7_room_18 : decode cX7_room 18 = .ok (.if_icmp .ge 69, 3) := by decide +kernel
theorem dX7_room_21 : decode cX7_room 21 = .ok (.aload_n 0, 1) := by decide +kernel
theorem dX7_room_22 : decode cX7_room 22 = .ok (.getfield 22, 3) := by decide +kernel
theorem dX7_room_25 : decode cX7_room 25 = .ok (.iload 4, 2) := by decide +kernel
theorem dX7_room_27 : decode cX7_room 27 = .ok (.iaload, 1) := by decide +kernel
theorem dX7_room_28 : decode cX7_room 28 = .ok (.ifCond .lt 53, 3) := by decide +kernel
theorem dX7_room_31 : decode cX7_room 31 = .ok (.aload_n 0, 1) := by decide +kernel
theorem dX7_room_32 : decode cX7_room 32 = .ok (.getfield 28, 3) := by decide +kernel
theorem dX7_room_35 : decode cX7_room 35 = .ok (.iload 4, 2) := by decide +kernel
theorem dX7_room_37 : decode cX7_room 37 = .ok (.iaload, 1) := by decide +kernel
theorem dX7_room_38 : decode cX7_room 38 = .ok (.iload_n 2, 1) := by decide +kernel
theorem dX7_room_39 : decode cX7_room 39 = .ok (.iload_n 1, 1) := by decide +kernel
theorem dX7_room_40 : decode cX7_room 40 = .ok (.iadd, 1) := by decide +kernel
theorem dX7_room_41 : decode cX7_room 41 = .ok (.if_icmp .ge 40, 3) := by decide +kernel
theorem dX7_room_44 : decode cX7_room 44 = .ok (.aload_n 0, 1) := by decide +kernel
theorem dX7_room_45 : decode cX7_room 45 = .ok (.getfield 28, 3) := by decide +kernel
theorem dX7_room_48 : decode cX7_room 48 = .ok (.iload 4, 2) := by decide +kernel
theorem dX7_room_50 : decode cX7_room 50 = .ok (.iaload, 1) := by decide +kernel
theorem dX7_room_51 : decode cX7_room 51 = .ok (.aload_n 0, 1) := by decide +kernel
theorem dX7_room_52 : decode cX7_room 52 = .ok (.getfield 31, 3) := by decide +kernel
theorem dX7_room_55 : decode cX7_room 55 = .ok (.iload 4, 2) := by decide +kernel
theorem dX7_room_57 : decode cX7_room 57 = .ok (.iaload, 1) := by decide +kernel
theorem dX7_room_58 : decode cX7_room 58 = .ok (.iadd, 1) := by decide +kernel
theorem dX7_room_59 : decode cX7_room 59 = .ok (.iload_n 2, 1) := by decide +kernel
theorem dX7_room_60 : decode cX7_room 60 = .ok (.if_icmp .le 21, 3) := by decide +kernel
theorem dX7_room_63 : decode cX7_room 63 = .ok (.aload_n 0, 1) := by decide +kernel
theorem dX7_room_64 : decode cX7_room 64 = .ok (.getfield 28, 3) := by decide +kernel
theorem dX7_room_67 : decode cX7_room 67 = .ok (.iload 4, 2) := by decide +kernel
theorem dX7_room_69 : decode cX7_room 69 = .ok (.iaload, 1) := by decide +kernel
theorem dX7_room_70 : decode cX7_room 70 = .ok (.aload_n 0, 1) := by decide +kernel
theorem dX7_room_71 : decode cX7_room 71 = .ok (.getfield 31, 3) := by decide +kernel
theorem dX7_room_74 : decode cX7_room 74 = .ok (.iload 4, 2) := by decide +kernel
theorem dX7_room_76 : decode cX7_room 76 = .ok (.iaload, 1) := by decide +kernel
theorem dX7_room_77 : decode cX7_room 77 = .ok (.iadd, 1) := by decide +kernel
theorem dX7_room_78 : decode cX7_room 78 = .ok (.istore_n 2, 1) := by decide +kernel
theorem dX7_room_79 : decode cX7_room 79 = .ok (.iconst 1, 1) := by decide +kernel
theorem dX7_room_80 : decode cX7_room 80 = .ok (.istore_n 3, 1) := by decide +kernel
theorem dX7_room_81 : decode cX7_room 81 = .ok (.iinc 4 1, 3) := by decide +kernel
theorem dX7_room_84 : decode cX7_room 84 = .ok (.goto (-71), 3) := by decide +kernel
theorem dX7_room_87 : decode cX7_room 87 = .ok (.goto (-83), 3) := by decide +kernel
theorem dX7_room_90 : decode cX7_room 90 = .ok (.iload_n 2, 1) := by decide +kernel
theorem dX7_room_91 : decode cX7_room 91 = .ok (.iload_n 1, 1) := by decide +kernel
theorem dX7_room_92 : decode cX7_room 92 = .ok (.iadd, 1) := by decide +kernel
theorem dX7_room_93 : decode cX7_room 93 = .ok (.sipush 1500, 3) := by decide +kernel
theorem dX7_room_96 : decode cX7_room 96 = .ok (.if_icmp .gt 7, 3) := by decide +kernel
theorem dX7_room_99 : decode cX7_room 99 = .ok (.iload_n 2, 1) := by decide +kernel
theorem dX7_room_100 : decode cX7_room 100 = .ok (.goto 4, 3) := by decide +kernel
theorem dX7_room_103 : decode cX7_room 103 = .ok (.iconst (-1), 1) := by decide +kernel
theorem dX7_room_104 : decode cX7_room 104 = .ok (.ireturn, 1) := by decide +kernel
theorem dX7_ends_0 : decode cX7_ends 0 = .ok (.aload_n 0, 1) := by decide +kernel
theorem dX7_ends_1 : decode cX7_ends 1 = .ok (.getfield 159, 3) := by decide +kernel
theorem dX7_ends_4 : decode cX7_ends 4 = .ok (.ifCond .ne 5, 3) := by decide +kernel
theorem dX7_ends_7 : decode cX7_ends 7 = .ok (.iconst 1, 1) := by decide +kernel
theorem dX7_ends_8 : decode cX7_ends 8 = .ok (.ireturn, 1) := by decide +kernel
theorem dX7_ends_9 : decode cX7_ends 9 = .ok (.aload_n 0, 1) := by decide +kernel
theorem dX7_ends_10 : decode cX7_ends 10 = .ok (.invokevirtual 195, 3) := by decide +kernel
theorem dX7_ends_13 : decode cX7_ends 13 = .ok (.aload_n 0, 1) := by decide +kernel
theorem dX7_ends_14 : decode cX7_ends 14 = .ok (.aload_n 0, 1) := by decide +kernel
theorem dX7_ends_15 : decode cX7_ends 15 = .ok (.getfield 189, 3) := by decide +kernel
theorem dX7_ends_18 : decode cX7_ends 18 = .ok (.invokevirtual 198, 3) := by decide +kernel
theorem dX7_ends_21 : decode cX7_ends 21 = .ok (.istore_n 1, 1) := by decide +kernel
theorem dX7_ends_22 : decode cX7_ends 22 = .ok (.iload_n 1, 1) := by decide +kernel
theorem dX7_ends_23 : decode cX7_ends 23 = .ok (.ifCond .ge 5, 3) := by decide +kernel
theorem dX7_ends_26 : decode cX7_ends 26 = .ok (.iconst 0, 1) := by decide +kernel
theorem dX7_ends_27 : decode cX7_ends 27 = .ok (.ireturn, 1) := by decide +kernel
theorem dX7_ends_28 : decode cX7_ends 28 = .ok (.iconst 0, 1) := by decide +kernel
theorem dX7_ends_29 : decode cX7_ends 29 = .ok (.istore_n 2, 1) := by decide +kernel
theorem dX7_ends_30 : decode cX7_ends 30 = .ok (.aload_n 0, 1) := by decide +kernel
theorem dX7_ends_31 : decode cX7_ends 31 = .ok (.getfield 22, 3) := by decide +kernel
theorem dX7_ends_34 : decode cX7_ends 34 = .ok (.iload_n 2, 1) := by decide +kernel
theorem dX7_ends_35 : decode cX7_ends 35 = .ok (.iaload, 1) := by decide +kernel
theorem dX7_ends_36 : decode cX7_ends 36 = .ok (.ifCond .lt 9, 3) := by decide +kernel
theorem dX7_ends_39 : decode cX7_ends 39 = .ok (.iinc 2 1, 3) := by decide +kernel
theorem dX7_ends_42 : decode cX7_ends 42 = .ok (.goto (-12), 3) := by decide +kernel
theorem dX7_ends_45 : decode cX7_ends 45 = .ok (.aload_n 0, 1) := by decide +kernel
theorem dX7_ends_46 : decode cX7_ends 46 = .ok (.getfield 22, 3) := by decide +kernel
theorem dX7_ends_49 : decode cX7_ends 49 = .ok (.iload_n 2, 1) := by decide +kernel
theorem dX7_ends_50 : decode cX7_ends 50 = .ok (.bipush 9, 2) := by decide +kernel
theorem dX7_ends_52 : decode cX7_ends 52 = .ok (.iastore, 1) := by decide +kernel
theorem dX7_ends_53 : decode cX7_ends 53 = .ok (.aload_n 0, 1) := by decide +kernel
theorem dX7_ends_54 : decode cX7_ends 54 = .ok (.getfield 25, 3) := by decide +kernel
theorem dX7_ends_57 : decode cX7_ends 57 = .ok (.iload_n 2, 1) := by decide +kernel
theorem dX7_ends_58 : decode cX7_ends 58 = .ok (.aload_n 0, 1) := by decide +kernel
theorem dX7_ends_59 : decode cX7_ends 59 = .ok (.getfield 201, 3) := by decide +kernel
theorem dX7_ends_62 : decode cX7_ends 62 = .ok (.iastore, 1) := by decide +kernel
theorem dX7_ends_63 : decode cX7_ends 63 = .ok (.aload_n 0, 1) := by decide +kernel
theorem dX7_ends_64 : decode cX7_ends 64 = .ok (.dup, 1) := by decide +kernel
theorem dX7_ends_65 : decode cX7_ends 65 = .ok (.getfield 201, 3) := by decide +kernel
theorem dX7_ends_68 : decode cX7_ends 68 = .ok (.iconst 1, 1) := by decide +kernel
theorem dX7_ends_69 : decode cX7_ends 69 = .ok (.iadd, 1) := by decide +kernel
theorem dX7_ends_70 : decode cX7_ends 70 = .ok (.putfield 201, 3) := by decide +kernel
theorem dX7_ends_73 : decode cX7_ends 73 = .ok (.aload_n 0, 1) := by decide +kernel
theorem dX7_ends_74 : decode cX7_ends 74 = .ok (.getfield 28, 3) := by decide +kernel
theorem dX7_ends_77 : decode cX7_ends 77 = .ok (.iload_n 2, 1) := by decide +kernel
theorem dX7_ends_78 : decode cX7_ends 78 = .ok (.iload_n 1, 1) := by decide +kernel
theorem dX7_ends_79 : decode cX7_ends 79 = .ok (.iastore, 1) := by decide +kernel
theorem dX7_ends_80 : decode cX7_ends 80 = .ok (.aload_n 0, 1) := by decide +kernel
theorem dX7_ends_81 : decode cX7_ends 81 = .ok (.getfield 31, 3) := by decide +kernel
theorem dX7_ends_84 : decode cX7_ends 84 = .ok (.iload_n 2, 1) := by decide +kernel
end
section
theorem dX7_ends_85 : decode cX7_ends 85 = .ok (.aload_n 0, 1) := by decide +kernel
theorem dX7_ends_86 : decode cX7_ends 86 = .ok (.getfield 189, 3) := by decide +kernel
theorem dX7_ends_89 : decode cX7_ends 89 = .ok (.iastore, 1) := by decide +kernel
theorem dX7_ends_90 : decode cX7_ends 90 = .ok (.aload_n 0, 1) := by decide +kernel
theorem dX7_ends_91 : decode cX7_ends 91 = .ok (.getfield 34, 3) := by decide +kernel
theorem dX7_ends_94 : decode cX7_ends 94 = .ok (.iload_n 2, 1) := by decide +kernel
theorem dX7_ends_95 : decode cX7_ends 95 = .ok (.aload_n 0, 1) := by decide +kernel
theorem dX7_ends_96 : decode cX7_ends 96 = .ok (.getfield 159, 3) := by decide +kernel
theorem dX7_ends_99 : decode cX7_ends 99 = .ok (.iastore, 1) := by decide +kernel
theorem dX7_ends_100 : decode cX7_ends 100 = .ok (.iconst 0, 1) := by decide +kernel
theorem dX7_ends_101 : decode cX7_ends 101 = .ok (.istore_n 3, 1) := by decide +kernel
theorem dX7_ends_102 : decode cX7_ends 102 = .ok (.iload_n 3, 1) := by decide +kernel
theorem dX7_ends_103 : decode cX7_ends 103 = .ok (.aload_n 0, 1) := by decide +kernel
theorem dX7_ends_104 : decode cX7_ends 104 = .ok (.getfield 159, 3) := by decide +kernel
theorem dX7_ends_107 : decode cX7_ends 107 = .ok (.if_icmp .ge 60, 3) := by decide +kernel
theorem dX7_ends_110 : decode cX7_ends 110 = .ok (.aload_n 0, 1) := by decide +kernel
theorem dX7_ends_111 : decode cX7_ends 111 = .ok (.getfield 37, 3) := by decide +kernel
theorem dX7_ends_114 : decode cX7_ends 114 = .ok (.bipush 30, 2) := by decide +kernel
theorem dX7_ends_116 : decode cX7_ends 116 = .ok (.iload_n 2, 1) := by decide +kernel
theorem dX7_ends_117 : decode cX7_ends 117 = .ok (.imul, 1) := by decide +kernel
theorem dX7_ends_118 : decode cX7_ends 118 = .ok (.iload_n 3, 1) := by decide +kernel
theorem dX7_ends_119 : decode cX7_ends 119 = .ok (.iadd, 1) := by decide +kernel
theorem dX7_ends_120 : decode cX7_ends 120 = .ok (.aload_n 0, 1) := by decide +kernel
theorem dX7_ends_121 : decode cX7_ends 121 = .ok (.getfield 68, 3) := by decide +kernel
theorem dX7_ends_124 : decode cX7_ends 124 = .ok (.iload_n 3, 1) := by decide +kernel
theorem dX7_ends_125 : decode cX7_ends 125 = .ok (.iaload, 1) := by decide +kernel
theorem dX7_ends_126 : decode cX7_ends 126 = .ok (.iastore, 1) := by decide +kernel
theorem dX7_ends_127 : decode cX7_ends 127 = .ok (.aload_n 0, 1) := by decide +kernel
theorem dX7_ends_128 : decode cX7_ends 128 = .ok (.getfield 40, 3) := by decide +kernel
theorem dX7_ends_131 : decode cX7_ends 131 = .ok (.bipush 30, 2) := by decide +kernel
theorem dX7_ends_133 : decode cX7_ends 133 = .ok (.iload_n 2, 1) := by decide +kernel
theorem dX7_ends_134 : decode cX7_ends 134 = .ok (.imul, 1) := by decide +kernel
theorem dX7_ends_135 : decode cX7_ends 135 = .ok (.iload_n 3, 1) := by decide +kernel
theorem dX7_ends_136 : decode cX7_ends 136 = .ok (.iadd, 1) := by decide +kernel
theorem dX7_ends_137 : decode cX7_ends 137 = .ok (.aload_n 0, 1) := by decide +kernel
theorem dX7_ends_138 : decode cX7_ends 138 = .ok (.getfield 71, 3) := by decide +kernel
theorem dX7_ends_141 : decode cX7_ends 141 = .ok (.iload_n 3, 1) := by decide +kernel
theorem dX7_ends_142 : decode cX7_ends 142 = .ok (.iaload, 1) := by decide +kernel
theorem dX7_ends_143 : decode cX7_ends 143 = .ok (.iastore, 1) := by decide +kernel
theorem dX7_ends_144 : decode cX7_ends 144 = .ok (.aload_n 0, 1) := by decide +kernel
theorem dX7_ends_145 : decode cX7_ends 145 = .ok (.getfield 43, 3) := by decide +kernel
theorem dX7_ends_148 : decode cX7_ends 148 = .ok (.bipush 30, 2) := by decide +kernel
theorem dX7_ends_150 : decode cX7_ends 150 = .ok (.iload_n 2, 1) := by decide +kernel
theorem dX7_ends_151 : decode cX7_ends 151 = .ok (.imul, 1) := by decide +kernel
theorem dX7_ends_152 : decode cX7_ends 152 = .ok (.iload_n 3, 1) := by decide +kernel
theorem dX7_ends_153 : decode cX7_ends 153 = .ok (.iadd, 1) := by decide +kernel
theorem dX7_ends_154 : decode cX7_ends 154 = .ok (.aload_n 0, 1) := by decide +kernel
theorem dX7_ends_155 : decode cX7_ends 155 = .ok (.getfield 74, 3) := by decide +kernel
theorem dX7_ends_158 : decode cX7_ends 158 = .ok (.iload_n 3, 1) := by decide +kernel
theorem dX7_ends_159 : decode cX7_ends 159 = .ok (.iaload, 1) := by decide +kernel
theorem dX7_ends_160 : decode cX7_ends 160 = .ok (.iastore, 1) := by decide +kernel
theorem dX7_ends_161 : decode cX7_ends 161 = .ok (.iinc 3 1, 3) := by decide +kernel
theorem dX7_ends_164 : decode cX7_ends 164 = .ok (.goto (-62), 3) := by decide +kernel
theorem dX7_ends_167 : decode cX7_ends 167 = .ok (.iconst 0, 1) := by decide +kernel
theorem dX7_ends_168 : decode cX7_ends 168 = .ok (.istore_n 3, 1) := by decide +kernel
theorem dX7_ends_169 : decode cX7_ends 169 = .ok (.iload_n 3, 1) := by decide +kernel
theorem dX7_ends_170 : decode cX7_ends 170 = .ok (.aload_n 0, 1) := by decide +kernel
theorem dX7_ends_171 : decode cX7_ends 171 = .ok (.getfield 189, 3) := by decide +kernel
theorem dX7_ends_174 : decode cX7_ends 174 = .ok (.if_icmp .ge 23, 3) := by decide +kernel
theorem dX7_ends_177 : decode cX7_ends 177 = .ok (.aload_n 0, 1) := by decide +kernel
theorem dX7_ends_178 : decode cX7_ends 178 = .ok (.getfield 46, 3) := by decide +kernel
theorem dX7_ends_181 : decode cX7_ends 181 = .ok (.iload_n 1, 1) := by decide +kernel
theorem dX7_ends_182 : decode cX7_ends 182 = .ok (.iload_n 3, 1) := by decide +kernel
theorem dX7_ends_183 : decode cX7_ends 183 = .ok (.iadd, 1) := by decide +kernel
theorem dX7_ends_184 : decode cX7_ends 184 = .ok (.aload_n 0, 1) := by decide +kernel
theorem dX7_ends_185 : decode cX7_ends 185 = .ok (.getfield 77, 3) := by decide +kernel
theorem dX7_ends_188 : decode cX7_ends 188 = .ok (.iload_n 3, 1) := by decide +kernel
theorem dX7_ends_189 : decode cX7_ends 189 = .ok (.iaload, 1) := by decide +kernel
theorem dX7_ends_190 : decode cX7_ends 190 = .ok (.iastore, 1) := by decide +kernel
theorem dX7_ends_191 : decode cX7_ends 191 = .ok (.iinc 3 1, 3) := by decide +kernel
theorem dX7_ends_194 : decode cX7_ends 194 = .ok (.goto (-25), 3) := by decide +kernel
theorem dX7_ends_197 : decode cX7_ends 197 = .ok (.aload_n 0, 1) := by decide +kernel
theorem dX7_ends_198 : decode cX7_ends 198 = .ok (.getfield 61, 3) := by decide +kernel
theorem dX7_ends_201 : decode cX7_ends 201 = .ok (.iload_n 2, 1) := by decide +kernel
theorem dX7_ends_202 : decode cX7_ends 202 = .ok (.iconst 0, 1) := by decide +kernel
theorem dX7_ends_203 : decode cX7_ends 203 = .ok (.bastore, 1) := by decide +kernel
theorem dX7_ends_204 : decode cX7_ends 204 = .ok (.aload_n 0, 1) := by decide +kernel
theorem dX7_ends_205 : decode cX7_ends 205 = .ok (.iconst 0, 1) := by decide +kernel
theorem dX7_ends_206 : decode cX7_ends 206 = .ok (.putfield 159, 3) := by decide +kernel
theorem dX7_ends_209 : decode cX7_ends 209 = .ok (.aload_n 0, 1) := by decide +kernel
theorem dX7_ends_210 : decode cX7_ends 210 = .ok (.dup, 1) := by decide +kernel
theorem dX7_ends_211 : decode cX7_ends 211 = .ok (.getfield 156, 3) := by decide +kernel
theorem dX7_ends_214 : decode cX7_ends 214 = .ok (.iconst 1, 1) := by decide +kernel
theorem dX7_ends_215 : decode cX7_ends 215 = .ok (.iadd, 1) := by decide +kernel
theorem dX7_ends_216 : decode cX7_ends 216 = .ok (.putfield 156, 3) := by decide +kernel
theorem dX7_ends_219 : decode cX7_ends 219 = .ok (.iconst 1, 1) := by decide +kernel
theorem dX7_ends_220 : decode cX7_ends 220 = .ok (.ireturn, 1) := by decide +kernel
theorem dX7_giveUp_0 : decode cX7_giveUp 0 = .ok (.aload_n 0, 1) := by decide +kernel
theorem dX7_giveUp_1 : decode cX7_giveUp 1 = .ok (.getfield 143, 3) := by decide +kernel
theorem dX7_giveUp_4 : decode cX7_giveUp 4 = .ok (.ifCond .ne 5, 3) := by decide +kernel
theorem dX7_giveUp_7 : decode cX7_giveUp 7 = .ok (.iconst 0, 1) := by decide +kernel
theorem dX7_giveUp_8 : decode cX7_giveUp 8 = .ok (.ireturn, 1) := by decide +kernel
theorem dX7_giveUp_9 : decode cX7_giveUp 9 = .ok (.aload_n 0, 1) := by decide +kernel
theorem dX7_giveUp_10 : decode cX7_giveUp 10 = .ok (.getfield 156, 3) := by decide +kernel
theorem dX7_giveUp_13 : decode cX7_giveUp 13 = .ok (.istore_n 1, 1) := by decide +kernel
theorem dX7_giveUp_14 : decode cX7_giveUp 14 = .ok (.iconst 0, 1) := by decide +kernel
theorem dX7_giveUp_15 : decode cX7_giveUp 15 = .ok (.istore_n 2, 1) := by decide +kernel
theorem dX7_giveUp_16 : decode cX7_giveUp 16 = .ok (.iload_n 2, 1) := by decide +kernel
theorem dX7_giveUp_17 : decode cX7_giveUp 17 = .ok (.sipush 330, 3) := by decide +kernel
theorem dX7_giveUp_20 : decode cX7_giveUp 20 = .ok (.if_icmp .ge 37, 3) := by decide +kernel
theorem dX7_giveUp_23 : decode cX7_giveUp 23 = .ok (.aload_n 0, 1) := by decide +kernel
theorem dX7_giveUp_24 : decode cX7_giveUp 24 = .ok (.getfield 22, 3) := by decide +kernel
theorem dX7_giveUp_27 : decode cX7_giveUp 27 = .ok (.iload_n 2, 1) := by decide +kernel
theorem dX7_giveUp_28 : decode cX7_giveUp 28 = .ok (.iaload, 1) := by decide +kernel
theorem dX7_giveUp_29 : decode cX7_giveUp 29 = .ok (.bipush 9, 2) := by decide +kernel
theorem dX7_giveUp_31 : decode cX7_giveUp 31 = .ok (.if_icmp .ne 20, 3) := by decide +kernel
theorem dX7_giveUp_34 : decode cX7_giveUp 34 = .ok (.aload_n 0, 1) := by decide +kernel
theorem dX7_giveUp_35 : decode cX7_giveUp 35 = .ok (.getfield 22, 3) := by decide +kernel
theorem dX7_giveUp_38 : decode cX7_giveUp 38 = .ok (.iload_n 2, 1) := by decide +kernel
theorem dX7_giveUp_39 : decode cX7_giveUp 39 = .ok (.iconst (-1), 1) := by decide +kernel
theorem dX7_giveUp_40 : decode cX7_giveUp 40 = .ok (.iastore, 1) := by decide +kernel
theorem dX7_giveUp_41 : decode cX7_giveUp 41 = .ok (.aload_n 0, 1) := by decide +kernel
theorem dX7_giveUp_42 : decode cX7_giveUp 42 = .ok (.dup, 1) := by decide +kernel
theorem dX7_giveUp_43 : decode cX7_giveUp 43 = .ok (.getfield 201, 3) := by decide +kernel
theorem dX7_giveUp_46 : decode cX7_giveUp 46 = .ok (.iconst 1, 1) := by decide +kernel
theorem dX7_giveUp_47 : decode cX7_giveUp 47 = .ok (.isub, 1) := by decide +kernel
theorem dX7_giveUp_48 : decode cX7_giveUp 48 = .ok (.putfield 201, 3) := by decide +kernel
theorem dX7_giveUp_51 : decode cX7_giveUp 51 = .ok (.iinc 2 1, 3) := by decide +kernel
theorem dX7_giveUp_54 : decode cX7_giveUp 54 = .ok (.goto (-38), 3) := by decide +kernel
theorem dX7_giveUp_57 : decode cX7_giveUp 57 = .ok (.aload_n 0, 1) := by decide +kernel
theorem dX7_giveUp_58 : decode cX7_giveUp 58 = .ok (.iconst 0, 1) := by decide +kernel
theorem dX7_giveUp_59 : decode cX7_giveUp 59 = .ok (.putfield 143, 3) := by decide +kernel
theorem dX7_giveUp_62 : decode cX7_giveUp 62 = .ok (.aload_n 0, 1) := by decide +kernel
theorem dX7_giveUp_63 : decode cX7_giveUp 63 = .ok (.iconst 0, 1) := by decide +kernel
theorem dX7_giveUp_64 : decode cX7_giveUp 64 = .ok (.putfield 156, 3) := by decide +kernel
theorem dX7_giveUp_67 : decode cX7_giveUp 67 = .ok (.iload_n 1, 1) := by decide +kernel
theorem dX7_giveUp_68 : decode cX7_giveUp 68 = .ok (.ireturn, 1) := by decide +kernel
theorem dX7_does_0 : decode cX7_does 0 = .ok (.aload_n 0, 1) := by decide +kernel
theorem dX7_does_1 : decode cX7_does 1 = .ok (.iload_n 1, 1) := by decide +kernel
theorem dX7_does_2 : decode cX7_does 2 = .ok (.invokevirtual 204, 3) := by decide +kernel
theorem dX7_does_5 : decode cX7_does 5 = .ok (.ifCond .eq 5, 3) := by decide +kernel
theorem dX7_does_8 : decode cX7_does 8 = .ok (.iconst 1, 1) := by decide +kernel
theorem dX7_does_9 : decode cX7_does 9 = .ok (.ireturn, 1) := by decide +kernel
theorem dX7_does_10 : decode cX7_does 10 = .ok (.aload_n 0, 1) := by decide +kernel
theorem dX7_does_11 : decode cX7_does 11 = .ok (.getfield 150, 3) := by decide +kernel
theorem dX7_does_14 : decode cX7_does 14 = .ok (.ifCond .lt 41, 3) := by decide +kernel
theorem dX7_does_17 : decode cX7_does 17 = .ok (.aload_n 0, 1) := by decide +kernel
theorem dX7_does_18 : decode cX7_does 18 = .ok (.getfield 159, 3) := by decide +kernel
theorem dX7_does_21 : decode cX7_does 21 = .ok (.bipush 8, 2) := by decide +kernel
theorem dX7_does_23 : decode cX7_does 23 = .ok (.if_icmp .lt 32, 3) := by decide +kernel
theorem dX7_does_26 : decode cX7_does 26 = .ok (.aload_n 0, 1) := by decide +kernel
theorem dX7_does_27 : decode cX7_does 27 = .ok (.getfield 68, 3) := by decide +kernel
theorem dX7_does_30 : decode cX7_does 30 = .ok (.aload_n 0, 1) := by decide +kernel
theorem dX7_does_31 : decode cX7_does 31 = .ok (.getfield 159, 3) := by decide +kernel
theorem dX7_does_34 : decode cX7_does 34 = .ok (.iconst 1, 1) := by decide +kernel
theorem dX7_does_35 : decode cX7_does 35 = .ok (.isub, 1) := by decide +kernel
theorem dX7_does_36 : decode cX7_does 36 = .ok (.iaload, 1) := by decide +kernel
theorem dX7_does_37 : decode cX7_does 37 = .ok (.aload_n 0, 1) := by decide +kernel
theorem dX7_does_38 : decode cX7_does 38 = .ok (.getfield 52, 3) := by decide +kernel
theorem dX7_does_41 : decode cX7_does 41 = .ok (.iload_n 1, 1) := by decide +kernel
theorem dX7_does_42 : decode cX7_does 42 = .ok (.iaload, 1) := by decide +kernel
theorem dX7_does_43 : decode cX7_does 43 = .ok (.if_icmp .eq 12, 3) := by decide +kernel
theorem dX7_does_46 : decode cX7_does 46 = .ok (.aload_n 0, 1) := by decide +kernel
theorem dX7_does_47 : decode cX7_does 47 = .ok (.invokevirtual 207, 3) := by decide +kernel
theorem dX7_does_50 : decode cX7_does 50 = .ok (.ifCond .ne 5, 3) := by decide +kernel
theorem dX7_does_53 : decode cX7_does 53 = .ok (.iconst 0, 1) := by decide +kernel
theorem dX7_does_54 : decode cX7_does 54 = .ok (.ireturn, 1) := by decide +kernel
theorem dX7_does_55 : decode cX7_does 55 = .ok (.aload_n 0, 1) := by decide +kernel
theorem dX7_does_56 : decode cX7_does 56 = .ok (.getfield 68, 3) := by decide +kernel
theorem dX7_does_59 : decode cX7_does 59 = .ok (.aload_n 0, 1) := by decide +kernel
theorem dX7_does_60 : decode cX7_does 60 = .ok (.getfield 159, 3) := by decide +kernel
theorem dX7_does_63 : decode cX7_does 63 = .ok (.aload_n 0, 1) := by decide +kernel
theorem dX7_does_64 : decode cX7_does 64 = .ok (.getfield 52, 3) := by decide +kernel
theorem dX7_does_67 : decode cX7_does 67 = .ok (.iload_n 1, 1) := by decide +kernel
theorem dX7_does_68 : decode cX7_does 68 = .ok (.iaload, 1) := by decide +kernel
theorem dX7_does_69 : decode cX7_does 69 = .ok (.iastore, 1) := by decide +kernel
theorem dX7_does_70 : decode cX7_does 70 = .ok (.aload_n 0, 1) := by decide +kernel
theorem dX7_does_71 : decode cX7_does 71 = .ok (.getfield 71, 3) := by decide +kernel
theorem dX7_does_74 : decode cX7_does 74 = .ok (.aload_n 0, 1) := by decide +kernel
theorem dX7_does_75 : decode cX7_does 75 = .ok (.getfield 159, 3) := by decide +kernel
theorem dX7_does_78 : decode cX7_does 78 = .ok (.aload_n 0, 1) := by decide +kernel
theorem dX7_does_79 : decode cX7_does 79 = .ok (.getfield 55, 3) := by decide +kernel
theorem dX7_does_82 : decode cX7_does 82 = .ok (.iload_n 1, 1) := by decide +kernel
theorem dX7_does_83 : decode cX7_does 83 = .ok (.iaload, 1) := by decide +kernel
theorem dX7_does_84 : decode cX7_does 84 = .ok (.iastore, 1) := by decide +kernel
theorem dX7_does_85 : decode cX7_does 85 = .ok (.aload_n 0, 1) := by decide +kernel
theorem dX7_does_86 : decode cX7_does 86 = .ok (.getfield 74, 3) := by decide +kernel
theorem dX7_does_89 : decode cX7_does 89 = .ok (.aload_n 0, 1) := by decide +kernel
theorem dX7_does_90 : decode cX7_does 90 = .ok (.getfield 159, 3) := by decide +kernel
theorem dX7_does_93 : decode cX7_does 93 = .ok (.aload_n 0, 1) := by decide +kernel
theorem dX7_does_94 : decode cX7_does 94 = .ok (.getfield 58, 3) := by decide +kernel
theorem dX7_does_97 : decode cX7_does 97 = .ok (.iload_n 1, 1) := by decide +kernel
theorem dX7_does_98 : decode cX7_does 98 = .ok (.iaload, 1) := by decide +kernel
theorem dX7_does_99 : decode cX7_does 99 = .ok (.iastore, 1) := by decide +kernel
theorem dX7_does_100 : decode cX7_does 100 = .ok (.aload_n 0, 1) := by decide +kernel
theorem dX7_does_101 : decode cX7_does 101 = .ok (.dup, 1) := by decide +kernel
theorem dX7_does_102 : decode cX7_does 102 = .ok (.getfield 159, 3) := by decide +kernel
theorem dX7_does_105 : decode cX7_does 105 = .ok (.iconst 1, 1) := by decide +kernel
theorem dX7_does_106 : decode cX7_does 106 = .ok (.iadd, 1) := by decide +kernel
theorem dX7_does_107 : decode cX7_does 107 = .ok (.putfield 159, 3) := by decide +kernel
theorem dX7_does_110 : decode cX7_does 110 = .ok (.iconst 1, 1) := by decide +kernel
theorem dX7_does_111 : decode cX7_does 111 = .ok (.ireturn, 1) := by decide +kernel
theorem dX7_work_0 : decode cX7_work 0 = .ok (.aload_n 0, 1) := by decide +kernel
theorem dX7_work_1 : decode cX7_work 1 = .ok (.iconst 0, 1) := by decide +kernel
theorem dX7_work_2 : decode cX7_work 2 = .ok (.putfield 89, 3) := by decide +kernel
theorem dX7_work_5 : decode cX7_work 5 = .ok (.iload_n 1, 1) := by decide +kernel
theorem dX7_work_6 : decode cX7_work 6 = .ok (.i2l, 1) := by decide +kernel
theorem dX7_work_7 : decode cX7_work 7 = .ok (.lconst 1, 1) := by decide +kernel
theorem dX7_work_8 : decode cX7_work 8 = .ok (.ldc2_w 211, 3) := by decide +kernel
theorem dX7_work_11 : decode cX7_work 11 = .ok (.invokestatic 103, 3) := by decide +kernel
theorem dX7_work_14 : decode cX7_work 14 = .ok (.ifCond .ne 6, 3) := by decide +kernel
theorem dX7_work_17 : decode cX7_work 17 = .ok (.ldc 111, 2) := by decide +kernel
theorem dX7_work_19 : decode cX7_work 19 = .ok (.ireturn, 1) := by decide +kernel
theorem dX7_work_20 : decode cX7_work 20 = .ok (.aload_n 0, 1) := by decide +kernel
theorem dX7_work_21 : decode cX7_work 21 = .ok (.getfield 143, 3) := by decide +kernel
theorem dX7_work_24 : decode cX7_work 24 = .ok (.ifCond .eq 10, 3) := by decide +kernel
theorem dX7_work_27 : decode cX7_work 27 = .ok (.aload_n 0, 1) := by decide +kernel
theorem dX7_work_28 : decode cX7_work 28 = .ok (.getfield 147, 3) := by decide +kernel
theorem dX7_work_31 : decode cX7_work 31 = .ok (.ifCond .eq 6, 3) := by decide +kernel
theorem dX7_work_34 : decode cX7_work 34 = .ok (.ldc 136, 2) := by decide +kernel
theorem dX7_work_36 : decode cX7_work 36 = .ok (.ireturn, 1) := by decide +kernel
theorem dX7_work_37 : decode cX7_work 37 = .ok (.iconst 1, 1) := by decide +kernel
theorem dX7_work_38 : decode cX7_work 38 = .ok (.istore_n 2, 1) := by decide +kernel
theorem dX7_work_39 : decode cX7_work 39 = .ok (.iconst 0, 1) := by decide +kernel
theorem dX7_work_40 : decode cX7_work 40 = .ok (.istore_n 3, 1) := by decide +kernel
theorem dX7_work_41 : decode cX7_work 41 = .ok (.iload_n 3, 1) := by decide +kernel
theorem dX7_work_42 : decode cX7_work 42 = .ok (.iload_n 1, 1) := by decide +kernel
theorem dX7_work_43 : decode cX7_work 43 = .ok (.if_icmp .ge 43, 3) := by decide +kernel
theorem dX7_work_46 : decode cX7_work 46 = .ok (.aload_n 0, 1) := by decide +kernel
theorem dX7_work_47 : decode cX7_work 47 = .ok (.getfield 153, 3) := by decide +kernel
theorem dX7_work_50 : decode cX7_work 50 = .ok (.aload_n 0, 1) := by decide +kernel
theorem dX7_work_51 : decode cX7_work 51 = .ok (.getfield 140, 3) := by decide +kernel
theorem dX7_work_54 : decode cX7_work 54 = .ok (.if_icmp .ge 32, 3) := by decide +kernel
theorem dX7_work_57 : decode cX7_work 57 = .ok (.iload_n 2, 1) := by decide +kernel
theorem dX7_work_58 : decode cX7_work 58 = .ok (.ifCond .eq 28, 3) := by decide +kernel
theorem dX7_work_61 : decode cX7_work 61 = .ok (.aload_n 0, 1) := by decide +kernel
theorem dX7_work_62 : decode cX7_work 62 = .ok (.aload_n 0, 1) := by decide +kernel
theorem dX7_work_63 : decode cX7_work 63 = .ok (.getfield 153, 3) := by decide +kernel
theorem dX7_work_66 : decode cX7_work 66 = .ok (.invokevirtual 213, 3) := by decide +kernel
theorem dX7_work_69 : decode cX7_work 69 = .ok (.istore_n 2, 1) := by decide +kernel
theorem dX7_work_70 : decode cX7_work 70 = .ok (.aload_n 0, 1) := by decide +kernel
theorem dX7_work_71 : decode cX7_work 71 = .ok (.dup, 1) := by decide +kernel
theorem dX7_work_72 : decode cX7_work 72 = .ok (.getfield 153, 3) := by decide +kernel
theorem dX7_work_75 : decode cX7_work 75 = .ok (.iconst 1, 1) := by decide +kernel
theorem dX7_work_76 : decode cX7_work 76 = .ok (.iadd, 1) := by decide +kernel
theorem dX7_work_77 : decode cX7_work 77 = .ok (.putfield 153, 3) := by decide +kernel
theorem dX7_work_80 : decode cX7_work 80 = .ok (.iinc 3 1, 3) := by decide +kernel
theorem dX7_work_83 : decode cX7_work 83 = .ok (.goto (-42), 3) := by decide +kernel
theorem dX7_work_86 : decode cX7_work 86 = .ok (.iload_n 2, 1) := by decide +kernel
theorem dX7_work_87 : decode cX7_work 87 = .ok (.ifCond .eq 24, 3) := by decide +kernel
theorem dX7_work_90 : decode cX7_work 90 = .ok (.aload_n 0, 1) := by decide +kernel
theorem dX7_work_91 : decode cX7_work 91 = .ok (.getfield 153, 3) := by decide +kernel
theorem dX7_work_94 : decode cX7_work 94 = .ok (.aload_n 0, 1) := by decide +kernel
theorem dX7_work_95 : decode cX7_work 95 = .ok (.getfield 140, 3) := by decide +kernel
theorem dX7_work_98 : decode cX7_work 98 = .ok (.if_icmp .ne 13, 3) := by decide +kernel
theorem dX7_work_101 : decode cX7_work 101 = .ok (.aload_n 0, 1) := by decide +kernel
theorem dX7_work_102 : decode cX7_work 102 = .ok (.invokevirtual 207, 3) := by decide +kernel
theorem dX7_work_105 : decode cX7_work 105 = .ok (.istore_n 2, 1) := by decide +kernel
theorem dX7_work_106 : decode cX7_work 106 = .ok (.aload_n 0, 1) := by decide +kernel
theorem dX7_work_107 : decode cX7_work 107 = .ok (.iconst 1, 1) := by decide +kernel
theorem dX7_work_108 : decode cX7_work 108 = .ok (.putfield 147, 3) := by decide +kernel
theorem dX7_work_111 : decode cX7_work 111 = .ok (.iload_n 2, 1) := by decide +kernel
theorem dX7_work_112 : decode cX7_work 112 = .ok (.ifCond .ne 11, 3) := by decide +kernel
theorem dX7_work_115 : decode cX7_work 115 = .ok (.aload_n 0, 1) := by decide +kernel
theorem dX7_work_116 : decode cX7_work 116 = .ok (.invokevirtual 120, 3) := by decide +kernel
theorem dX7_work_119 : decode cX7_work 119 = .ok (.istore_n 3, 1) := by decide +kernel
theorem dX7_work_120 : decode cX7_work 120 = .ok (.ldc 100, 2) := by decide +kernel
theorem dX7_work_122 : decode cX7_work 122 = .ok (.ireturn, 1) := by decide +kernel
theorem dX7_work_123 : decode cX7_work 123 = .ok (.aload_n 0, 1) := by decide +kernel
theorem dX7_work_124 : decode cX7_work 124 = .ok (.getfield 140, 3) := by decide +kernel
theorem dX7_work_127 : decode cX7_work 127 = .ok (.aload_n 0, 1) := by decide +kernel
theorem dX7_work_128 : decode cX7_work 128 = .ok (.getfield 153, 3) := by decide +kernel
theorem dX7_work_131 : decode cX7_work 131 = .ok (.isub, 1) := by decide +kernel
theorem dX7_work_132 : decode cX7_work 132 = .ok (.ireturn, 1) := by decide +kernel
theorem dX7_install_0 : decode cX7_install 0 = .ok (.aload_n 0, 1) := by decide +kernel
theorem dX7_install_1 : decode cX7_install 1 = .ok (.iconst 0, 1) := by decide +kernel
theorem dX7_install_2 : decode cX7_install 2 = .ok (.putfield 89, 3) := by decide +kernel
theorem dX7_install_5 : decode cX7_install 5 = .ok (.aload_n 0, 1) := by decide +kernel
theorem dX7_install_6 : decode cX7_install 6 = .ok (.getfield 143, 3) := by decide +kernel
theorem dX7_install_9 : decode cX7_install 9 = .ok (.ifCond .eq 10, 3) := by decide +kernel
theorem dX7_install_12 : decode cX7_install 12 = .ok (.aload_n 0, 1) := by decide +kernel
theorem dX7_install_13 : decode cX7_install 13 = .ok (.getfield 147, 3) := by decide +kernel
theorem dX7_install_16 : decode cX7_install 16 = .ok (.ifCond .ne 6, 3) := by decide +kernel
theorem dX7_install_19 : decode cX7_install 19 = .ok (.ldc 136, 2) := by decide +kernel
theorem dX7_install_21 : decode cX7_install 21 = .ok (.ireturn, 1) := by decide +kernel
theorem dX7_install_22 : decode cX7_install 22 = .ok (.aload_n 0, 1) := by decide +kernel
theorem dX7_install_23 : decode cX7_install 23 = .ok (.getfield 156, 3) := by decide +kernel
theorem dX7_install_26 : decode cX7_install 26 = .ok (.istore_n 1, 1) := by decide +kernel
theorem dX7_install_27 : decode cX7_install 27 = .ok (.iconst 0, 1) := by decide +kernel
theorem dX7_install_28 : decode cX7_install 28 = .ok (.istore_n 2, 1) := by decide +kernel
theorem dX7_install_29 : decode cX7_install 29 = .ok (.iload_n 2, 1) := by decide +kernel
theorem dX7_install_30 : decode cX7_install 30 = .ok (.sipush 330, 3) := by decide +kernel
theorem dX7_install_33 : decode cX7_install 33 = .ok (.if_icmp .ge 58, 3) := by decide +kernel
theorem dX7_install_36 : decode cX7_install 36 = .ok (.aload_n 0, 1) := by decide +kernel
theorem dX7_install_37 : decode cX7_install 37 = .ok (.getfield 22, 3) := by decide +kernel
theorem dX7_install_40 : decode cX7_install 40 = .ok (.iload_n 2, 1) := by decide +kernel
theorem dX7_install_41 : decode cX7_install 41 = .ok (.iaload, 1) := by decide +kernel
theorem dX7_install_42 : decode cX7_install 42 = .ok (.bipush 9, 2) := by decide +kernel
theorem dX7_install_44 : decode cX7_install 44 = .ok (.if_icmp .ne 18, 3) := by decide +kernel
theorem dX7_install_47 : decode cX7_install 47 = .ok (.aload_n 0, 1) := by decide +kernel
theorem dX7_install_48 : decode cX7_install 48 = .ok (.getfield 22, 3) := by decide +kernel
theorem dX7_install_51 : decode cX7_install 51 = .ok (.iload_n 2, 1) := by decide +kernel
theorem dX7_install_52 : decode cX7_install 52 = .ok (.aload_n 0, 1) := by decide +kernel
theorem dX7_install_53 : decode cX7_install 53 = .ok (.getfield 150, 3) := by decide +kernel
theorem dX7_install_56 : decode cX7_install 56 = .ok (.iconst 1, 1) := by decide +kernel
theorem dX7_install_57 : decode cX7_install 57 = .ok (.iadd, 1) := by decide +kernel
theorem dX7_install_58 : decode cX7_install 58 = .ok (.iastore, 1) := by decide +kernel
theorem dX7_install_59 : decode cX7_install 59 = .ok (.goto 19, 3) := by decide +kernel
theorem dX7_install_62 : decode cX7_install 62 = .ok (.aload_n 0, 1) := by decide +kernel
theorem dX7_install_63 : decode cX7_install 63 = .ok (.getfield 61, 3) := by decide +kernel
theorem dX7_install_66 : decode cX7_install 66 = .ok (.iload_n 2, 1) := by decide +kernel
theorem dX7_install_67 : decode cX7_install 67 = .ok (.baload, 1) := by decide +kernel
theorem dX7_install_68 : decode cX7_install 68 = .ok (.ifCond .eq 10, 3) := by decide +kernel
theorem dX7_install_71 : decode cX7_install 71 = .ok (.aload_n 0, 1) := by decide +kernel
theorem dX7_install_72 : decode cX7_install 72 = .ok (.getfield 22, 3) := by decide +kernel
theorem dX7_install_75 : decode cX7_install 75 = .ok (.iload_n 2, 1) := by decide +kernel
theorem dX7_install_76 : decode cX7_install 76 = .ok (.iconst (-1), 1) := by decide +kernel
theorem dX7_install_77 : decode cX7_install 77 = .ok (.iastore, 1) := by decide +kernel
theorem dX7_install_78 : decode cX7_install 78 = .ok (.aload_n 0, 1) := by decide +kernel
theorem dX7_install_79 : decode cX7_install 79 = .ok (.getfield 61, 3) := by decide +kernel
theorem dX7_install_82 : decode cX7_install 82 = .ok (.iload_n 2, 1) := by decide +kernel
theorem dX7_install_83 : decode cX7_install 83 = .ok (.iconst 0, 1) := by decide +kernel
theorem dX7_install_84 : decode cX7_install 84 = .ok (.bastore, 1) := by decide +kernel
theorem dX7_install_85 : decode cX7_install 85 = .ok (.iinc 2 1, 3) := by decide +kernel
theorem dX7_install_88 : decode cX7_install 88 = .ok (.goto (-59), 3) := by decide +kernel
theorem dX7_install_91 : decode cX7_install 91 = .ok (.aload_n 0, 1) := by decide +kernel
theorem dX7_install_92 : decode cX7_install 92 = .ok (.getfield 150, 3) := by decide +kernel
theorem dX7_install_95 : decode cX7_install 95 = .ok (.ifCond .ge 114, 3) := by decide +kernel
theorem dX7_install_98 : decode cX7_install 98 = .ok (.aload_n 0, 1) := by decide +kernel
theorem dX7_install_99 : decode cX7_install 99 = .ok (.getfield 166, 3) := by decide +kernel
theorem dX7_install_102 : decode cX7_install 102 = .ok (.istore_n 2, 1) := by decide +kernel
theorem dX7_install_103 : decode cX7_install 103 = .ok (.iload_n 2, 1) := by decide +kernel
theorem dX7_install_104 : decode cX7_install 104 = .ok (.aload_n 0, 1) := by decide +kernel
theorem dX7_install_105 : decode cX7_install 105 = .ok (.getfield 93, 3) := by decide +kernel
theorem dX7_install_108 : decode cX7_install 108 = .ok (.if_icmp .ge 60, 3) := by decide +kernel
theorem dX7_install_111 : decode cX7_install 111 = .ok (.aload_n 0, 1) := by decide +kernel
theorem dX7_install_112 : decode cX7_install 112 = .ok (.getfield 7, 3) := by decide +kernel
theorem dX7_install_115 : decode cX7_install 115 = .ok (.iload_n 2, 1) := by decide +kernel
theorem dX7_install_116 : decode cX7_install 116 = .ok (.aload_n 0, 1) := by decide +kernel
theorem dX7_install_117 : decode cX7_install 117 = .ok (.getfield 166, 3) := by decide +kernel
theorem dX7_install_120 : decode cX7_install 120 = .ok (.isub, 1) := by decide +kernel
theorem dX7_install_121 : decode cX7_install 121 = .ok (.aload_n 0, 1) := by decide +kernel
theorem dX7_install_122 : decode cX7_install 122 = .ok (.getfield 7, 3) := by decide +kernel
theorem dX7_install_125 : decode cX7_install 125 = .ok (.iload_n 2, 1) := by decide +kernel
theorem dX7_install_126 : decode cX7_install 126 = .ok (.iaload, 1) := by decide +kernel
theorem dX7_install_127 : decode cX7_install 127 = .ok (.iastore, 1) := by decide +kernel
theorem dX7_install_128 : decode cX7_install 128 = .ok (.aload_n 0, 1) := by decide +kernel
theorem dX7_install_129 : decode cX7_install 129 = .ok (.getfield 13, 3) := by decide +kernel
theorem dX7_install_132 : decode cX7_install 132 = .ok (.iload_n 2, 1) := by decide +kernel
theorem dX7_install_133 : decode cX7_install 133 = .ok (.aload_n 0, 1) := by decide +kernel
theorem dX7_install_134 : decode cX7_install 134 = .ok (.getfield 166, 3) := by decide +kernel
theorem dX7_install_137 : decode cX7_install 137 = .ok (.isub, 1) := by decide +kernel
theorem dX7_install_138 : decode cX7_install 138 = .ok (.aload_n 0, 1) := by decide +kernel
theorem dX7_install_139 : decode cX7_install 139 = .ok (.getfield 13, 3) := by decide +kernel
theorem dX7_install_142 : decode cX7_install 142 = .ok (.iload_n 2, 1) := by decide +kernel
theorem dX7_install_143 : decode cX7_install 143 = .ok (.iaload, 1) := by decide +kernel
theorem dX7_install_144 : decode cX7_install 144 = .ok (.iastore, 1) := by decide +kernel
theorem dX7_install_145 : decode cX7_install 145 = .ok (.aload_n 0, 1) := by decide +kernel
theorem dX7_install_146 : decode cX7_install 146 = .ok (.getfield 16, 3) := by decide +kernel
theorem dX7_install_149 : decode cX7_install 149 = .ok (.iload_n 2, 1) := by decide +kernel
theorem dX7_install_150 : decode cX7_install 150 = .ok (.aload_n 0, 1) := by decide +kernel
theorem dX7_install_151 : decode cX7_install 151 = .ok (.getfield 166, 3) := by decide +kernel
theorem dX7_install_154 : decode cX7_install 154 = .ok (.isub, 1) := by decide +kernel
theorem dX7_install_155 : decode cX7_install 155 = .ok (.aload_n 0, 1) := by decide +kernel
theorem dX7_install_156 : decode cX7_install 156 = .ok (.getfield 16, 3) := by decide +kernel
theorem dX7_install_159 : decode cX7_install 159 = .ok (.iload_n 2, 1) := by decide +kernel
theorem dX7_install_160 : decode cX7_install 160 = .ok (.iaload, 1) := by decide +kernel
theorem dX7_install_161 : decode cX7_install 161 = .ok (.iastore, 1) := by decide +kernel
theorem dX7_install_162 : decode cX7_install 162 = .ok (.iinc 2 1, 3) := by decide +kernel
theorem dX7_install_165 : decode cX7_install 165 = .ok (.goto (-62), 3) := by decide +kernel
theorem dX7_install_168 : decode cX7_install 168 = .ok (.aload_n 0, 1) := by decide +kernel
theorem dX7_install_169 : decode cX7_install 169 = .ok (.dup, 1) := by decide +kernel
theorem dX7_install_170 : decode cX7_install 170 = .ok (.getfield 93, 3) := by decide +kernel
theorem dX7_install_173 : decode cX7_install 173 = .ok (.aload_n 0, 1) := by decide +kernel
theorem dX7_install_174 : decode cX7_install 174 = .ok (.getfield 166, 3) := by decide +kernel
theorem dX7_install_177 : decode cX7_install 177 = .ok (.isub, 1) := by decide +kernel
theorem dX7_install_178 : decode cX7_install 178 = .ok (.putfield 93, 3) := by decide +kernel
theorem dX7_install_181 : decode cX7_install 181 = .ok (.aload_n 0, 1) := by decide +kernel
theorem dX7_install_182 : decode cX7_install 182 = .ok (.aload_n 0, 1) := by decide +kernel
theorem dX7_install_183 : decode cX7_install 183 = .ok (.getfield 117, 3) := by decide +kernel
theorem dX7_install_186 : decode cX7_install 186 = .ok (.aload_n 0, 1) := by decide +kernel
theorem dX7_install_187 : decode cX7_install 187 = .ok (.getfield 166, 3) := by decide +kernel
theorem dX7_install_190 : decode cX7_install 190 = .ok (.if_icmp .le 15, 3) := by decide +kernel
theorem dX7_install_193 : decode cX7_install 193 = .ok (.aload_n 0, 1) := by decide +kernel
theorem dX7_install_194 : decode cX7_install 194 = .ok (.getfield 117, 3) := by decide +kernel
theorem dX7_install_197 : decode cX7_install 197 = .ok (.aload_n 0, 1) := by decide +kernel
theorem dX7_install_198 : decode cX7_install 198 = .ok (.getfield 166, 3) := by decide +kernel
theorem dX7_install_201 : decode cX7_install 201 = .ok (.isub, 1) := by decide +kernel
theorem dX7_install_202 : decode cX7_install 202 = .ok (.goto 4, 3) := by decide +kernel
theorem dX7_install_205 : decode cX7_install 205 = .ok (.iconst 0, 1) := by decide +kernel
theorem dX7_install_206 : decode cX7_install 206 = .ok (.putfield 117, 3) := by decide +kernel
theorem dX7_install_209 : decode cX7_install 209 = .ok (.aload_n 0, 1) := by decide +kernel
theorem dX7_install_210 : decode cX7_install 210 = .ok (.iconst 0, 1) := by decide +kernel
theorem dX7_install_211 : decode cX7_install 211 = .ok (.putfield 143, 3) := by decide +kernel
theorem dX7_install_214 : decode cX7_install 214 = .ok (.aload_n 0, 1) := by decide +kernel
theorem dX7_install_215 : decode cX7_install 215 = .ok (.iconst 0, 1) := by decide +kernel
theorem dX7_install_216 : decode cX7_install 216 = .ok (.putfield 156, 3) := by decide +kernel
theorem dX7_install_219 : decode cX7_install 219 = .ok (.iload_n 1, 1) := by decide +kernel
theorem dX7_install_220 : decode cX7_install 220 = .ok (.ireturn, 1) := by decide +kernel
theorem dX7_stop_0 : decode cX7_stop 0 = .ok (.aload_n 0, 1) := by decide +kernel
theorem dX7_stop_1 : decode cX7_stop 1 = .ok (.iconst 0, 1) := by decide +kernel
theorem dX7_stop_2 : decode cX7_stop 2 = .ok (.putfield 89, 3) := by decide +kernel
theorem dX7_stop_5 : decode cX7_stop 5 = .ok (.aload_n 0, 1) := by decide +kernel
theorem dX7_stop_6 : decode cX7_stop 6 = .ok (.getfield 143, 3) := by decide +kernel
theorem dX7_stop_9 : decode cX7_stop 9 = .ok (.ifCond .eq 10, 3) := by decide +kernel
theorem dX7_stop_12 : decode cX7_stop 12 = .ok (.aload_n 0, 1) := by decide +kernel
theorem dX7_stop_13 : decode cX7_stop 13 = .ok (.invokevirtual 120, 3) := by decide +kernel
theorem dX7_stop_16 : decode cX7_stop 16 = .ok (.goto 5, 3) := by decide +kernel
theorem dX7_stop_19 : decode cX7_stop 19 = .ok (.ldc 136, 2) := by decide +kernel
theorem dX7_stop_21 : decode cX7_stop 21 = .ok (.ireturn, 1) := by decide +kernel
theorem dX7_high_0 : decode cX7_high 0 = .ok (.aload_n 0, 1) := by decide +kernel
theorem dX7_high_1 : decode cX7_high 1 = .ok (.iconst 0, 1) := by decide +kernel
theorem dX7_high_2 : decode cX7_high 2 = .ok (.putfield 89, 3) := by decide +kernel
theorem dX7_high_5 : decode cX7_high 5 = .ok (.iconst 0, 1) := by decide +kernel
theorem dX7_high_6 : decode cX7_high 6 = .ok (.istore_n 1, 1) := by decide +kernel
theorem dX7_high_7 : decode cX7_high 7 = .ok (.iload_n 1, 1) := by decide +kernel
theorem dX7_high_8 : decode cX7_high 8 = .ok (.iconst 3, 1) := by decide +kernel
theorem dX7_high_9 : decode cX7_high 9 = .ok (.if_icmp .ge 34, 3) := by decide +kernel
theorem dX7_high_12 : decode cX7_high 12 = .ok (.aload_n 0, 1) := by decide +kernel
theorem dX7_high_13 : decode cX7_high 13 = .ok (.iload_n 1, 1) := by decide +kernel
theorem dX7_high_14 : decode cX7_high 14 = .ok (.invokevirtual 173, 3) := by decide +kernel
theorem dX7_high_17 : decode cX7_high 17 = .ok (.aload_n 0, 1) := by decide +kernel
theorem dX7_high_18 : decode cX7_high 18 = .ok (.getfield 137, 3) := by decide +kernel
theorem dX7_high_21 : decode cX7_high 21 = .ok (.iload_n 1, 1) := by decide +kernel
theorem dX7_high_22 : decode cX7_high 22 = .ok (.iconst 2, 1) := by decide +kernel
theorem dX7_high_23 : decode cX7_high 23 = .ok (.if_icmp .ne 8, 3) := by decide +kernel
theorem dX7_high_26 : decode cX7_high 26 = .ok (.bipush 6, 2) := by decide +kernel
theorem dX7_high_28 : decode cX7_high 28 = .ok (.goto 4, 3) := by decide +kernel
theorem dX7_high_31 : decode cX7_high 31 = .ok (.iconst 3, 1) := by decide +kernel
theorem dX7_high_32 : decode cX7_high 32 = .ok (.if_icmp .le 5, 3) := by decide +kernel
theorem dX7_high_35 : decode cX7_high 35 = .ok (.iload_n 1, 1) := by decide +kernel
theorem dX7_high_36 : decode cX7_high 36 = .ok (.ireturn, 1) := by decide +kernel
theorem dX7_high_37 : decode cX7_high 37 = .ok (.iinc 1 1, 3) := by decide +kernel
theorem dX7_high_40 : decode cX7_high 40 = .ok (.goto (-33), 3) := by decide +kernel
theorem dX7_high_43 : decode cX7_high 43 = .ok (.ldc 116, 2) := by decide +kernel
theorem dX7_high_45 : decode cX7_high 45 = .ok (.ireturn, 1) := by decide +kernel
theorem dX7_files_0 : decode cX7_files 0 = .ok (.aload_n 0, 1) := by decide +kernel
theorem dX7_files_1 : decode cX7_files 1 = .ok (.iconst 0, 1) := by decide +kernel
theorem dX7_files_2 : decode cX7_files 2 = .ok (.putfield 89, 3) := by decide +kernel
theorem dX7_files_5 : decode cX7_files 5 = .ok (.iload_n 1, 1) := by decide +kernel
theorem dX7_files_6 : decode cX7_files 6 = .ok (.i2l, 1) := by decide +kernel
theorem dX7_files_7 : decode cX7_files 7 = .ok (.lconst 0, 1) := by decide +kernel
theorem dX7_files_8 : decode cX7_files 8 = .ok (.ldc2_w 124, 3) := by decide +kernel
theorem dX7_files_11 : decode cX7_files 11 = .ok (.invokestatic 103, 3) := by decide +kernel
theorem dX7_files_14 : decode cX7_files 14 = .ok (.ifCond .ne 6, 3) := by decide +kernel
theorem dX7_files_17 : decode cX7_files 17 = .ok (.ldc 135, 2) := by decide +kernel
theorem dX7_files_19 : decode cX7_files 19 = .ok (.ireturn, 1) := by decide +kernel
theorem dX7_files_20 : decode cX7_files 20 = .ok (.aload_n 0, 1) := by decide +kernel
theorem dX7_files_21 : decode cX7_files 21 = .ok (.iload_n 1, 1) := by decide +kernel
theorem dX7_files_22 : decode cX7_files 22 = .ok (.invokevirtual 173, 3) := by decide +kernel
theorem dX7_files_25 : decode cX7_files 25 = .ok (.aload_n 0, 1) := by decide +kernel
theorem dX7_files_26 : decode cX7_files 26 = .ok (.getfield 137, 3) := by decide +kernel
theorem dX7_files_29 : decode cX7_files 29 = .ok (.ireturn, 1) := by decide +kernel
theorem dX7_slot_0 : decode cX7_slot 0 = .ok (.iload_n 1, 1) := by decide +kernel
theorem dX7_slot_1 : decode cX7_slot 1 = .ok (.i2l, 1) := by decide +kernel
theorem dX7_slot_2 : decode cX7_slot 2 = .ok (.lconst 0, 1) := by decide +kernel
theorem dX7_slot_3 : decode cX7_slot 3 = .ok (.ldc2_w 124, 3) := by decide +kernel
theorem dX7_slot_6 : decode cX7_slot 6 = .ok (.invokestatic 103, 3) := by decide +kernel
theorem dX7_slot_9 : decode cX7_slot 9 = .ok (.ifCond .ne 5, 3) := by decide +kernel
theorem dX7_slot_12 : decode cX7_slot 12 = .ok (.iconst (-1), 1) := by decide +kernel
theorem dX7_slot_13 : decode cX7_slot 13 = .ok (.ireturn, 1) := by decide +kernel
theorem dX7_slot_14 : decode cX7_slot 14 = .ok (.aload_n 0, 1) := by decide +kernel
theorem dX7_slot_15 : decode cX7_slot 15 = .ok (.iload_n 1, 1) := by decide +kernel
theorem dX7_slot_16 : decode cX7_slot 16 = .ok (.invokevirtual 173, 3) := by decide +kernel
theorem dX7_slot_19 : decode cX7_slot 19 = .ok (.iload_n 2, 1) := by decide +kernel
theorem dX7_slot_20 : decode cX7_slot 20 = .ok (.i2l, 1) := by decide +kernel
theorem dX7_slot_21 : decode cX7_slot 21 = .ok (.lconst 0, 1) := by decide +kernel
theorem dX7_slot_22 : decode cX7_slot 22 = .ok (.aload_n 0, 1) := by decide +kernel
theorem dX7_slot_23 : decode cX7_slot 23 = .ok (.getfield 137, 3) := by decide +kernel
theorem dX7_slot_26 : decode cX7_slot 26 = .ok (.iconst 1, 1) := by decide +kernel
theorem dX7_slot_27 : decode cX7_slot 27 = .ok (.isub, 1) := by decide +kernel
theorem dX7_slot_28 : decode cX7_slot 28 = .ok (.i2l, 1) := by decide +kernel
theorem dX7_slot_29 : decode cX7_slot 29 = .ok (.invokestatic 103, 3) := by decide +kernel
theorem dX7_slot_32 : decode cX7_slot 32 = .ok (.ifCond .eq 12, 3) := by decide +kernel
theorem dX7_slot_35 : decode cX7_slot 35 = .ok (.aload_n 0, 1) := by decide +kernel
theorem dX7_slot_36 : decode cX7_slot 36 = .ok (.getfield 49, 3) := by decide +kernel
theorem dX7_slot_39 : decode cX7_slot 39 = .ok (.iload_n 2, 1) := by decide +kernel
theorem dX7_slot_40 : decode cX7_slot 40 = .ok (.iaload, 1) := by decide +kernel
theorem dX7_slot_41 : decode cX7_slot 41 = .ok (.goto 4, 3) := by decide +kernel
theorem dX7_slot_44 : decode cX7_slot 44 = .ok (.iconst (-1), 1) := by decide +kernel
theorem dX7_slot_45 : decode cX7_slot 45 = .ok (.ireturn, 1) := by decide +kernel
theorem dX7_file_0 : decode cX7_file 0 = .ok (.aload_n 0, 1) := by decide +kernel
theorem dX7_file_1 : decode cX7_file 1 = .ok (.iconst 0, 1) := by decide +kernel
theorem dX7_file_2 : decode cX7_file 2 = .ok (.putfield 89, 3) := by decide +kernel
theorem dX7_file_5 : decode cX7_file 5 = .ok (.aload_n 0, 1) := by decide +kernel
theorem dX7_file_6 : decode cX7_file 6 = .ok (.iload_n 1, 1) := by decide +kernel
theorem dX7_file_7 : decode cX7_file 7 = .ok (.iload_n 2, 1) := by decide +kernel
theorem dX7_file_8 : decode cX7_file 8 = .ok (.invokevirtual 216, 3) := by decide +kernel
theorem dX7_file_11 : decode cX7_file 11 = .ok (.istore 4, 2) := by decide +kernel
theorem dX7_file_13 : decode cX7_file 13 = .ok (.iload 4, 2) := by decide +kernel
theorem dX7_file_15 : decode cX7_file 15 = .ok (.ifCond .ge 6, 3) := by decide +kernel
theorem dX7_file_18 : decode cX7_file 18 = .ok (.ldc 135, 2) := by decide +kernel
theorem dX7_file_20 : decode cX7_file 20 = .ok (.ireturn, 1) := by decide +kernel
theorem dX7_file_21 : decode cX7_file 21 = .ok (.iload_n 3, 1) := by decide +kernel
theorem dX7_file_22 : decode cX7_file 22 = .ok (.tableswitch 84 0 5 #[38, 46, 54, 61, 68, 76], 38) := by decide +kernel
theorem dX7_file_60 : decode cX7_file 60 = .ok (.aload_n 0, 1) := by decide +kernel
theorem dX7_file_61 : decode cX7_file 61 = .ok (.getfield 25, 3) := by decide +kernel
theorem dX7_file_64 : decode cX7_file 64 = .ok (.iload 4, 2) := by decide +kernel
theorem dX7_file_66 : decode cX7_file 66 = .ok (.iaload, 1) := by decide +kernel
theorem dX7_file_67 : decode cX7_file 67 = .ok (.ireturn, 1) := by decide +kernel
theorem dX7_file_68 : decode cX7_file 68 = .ok (.aload_n 0, 1) := by decide +kernel
theorem dX7_file_69 : decode cX7_file 69 = .ok (.getfield 34, 3) := by decide +kernel
theorem dX7_file_72 : decode cX7_file 72 = .ok (.iload 4, 2) := by decide +kernel
theorem dX7_file_74 : decode cX7_file 74 = .ok (.iaload, 1) := by decide +kernel
theorem dX7_file_75 : decode cX7_file 75 = .ok (.ireturn, 1) := by decide +kernel
theorem dX7_file_76 : decode cX7_file 76 = .ok (.aload_n 0, 1) := by decide +kernel
theorem dX7_file_77 : decode cX7_file 77 = .ok (.iload 4, 2) := by decide +kernel
theorem dX7_file_79 : decode cX7_file 79 = .ok (.invokevirtual 176, 3) := by decide +kernel
theorem dX7_file_82 : decode cX7_file 82 = .ok (.ireturn, 1) := by decide +kernel
theorem dX7_file_83 : decode cX7_file 83 = .ok (.aload_n 0, 1) := by decide +kernel
theorem dX7_file_84 : decode cX7_file 84 = .ok (.iload 4, 2) := by decide +kernel
theorem dX7_file_86 : decode cX7_file 86 = .ok (.invokevirtual 180, 3) := by decide +kernel
theorem dX7_file_89 : decode cX7_file 89 = .ok (.ireturn, 1) := by decide +kernel
theorem dX7_file_90 : decode cX7_file 90 = .ok (.aload_n 0, 1) := by decide +kernel
theorem dX7_file_91 : decode cX7_file 91 = .ok (.getfield 28, 3) := by decide +kernel
theorem dX7_file_94 : decode cX7_file 94 = .ok (.iload 4, 2) := by decide +kernel
theorem dX7_file_96 : decode cX7_file 96 = .ok (.iaload, 1) := by decide +kernel
theorem dX7_file_97 : decode cX7_file 97 = .ok (.ireturn, 1) := by decide +kernel
theorem dX7_file_98 : decode cX7_file 98 = .ok (.aload_n 0, 1) := by decide +kernel
theorem dX7_file_99 : decode cX7_file 99 = .ok (.getfield 31, 3) := by decide +kernel
theorem dX7_file_102 : decode cX7_file 102 = .ok (.iload 4, 2) := by decide +kernel
theorem dX7_file_104 : decode cX7_file 104 = .ok (.iaload, 1) := by decide +kernel
theorem dX7_file_105 : decode cX7_file 105 = .ok (.ireturn, 1) := by decide +kernel
theorem dX7_file_106 : decode cX7_file 106 = .ok (.ldc 111, 2) := by decide +kernel
theorem dX7_file_108 : decode cX7_file 108 = .ok (.ireturn, 1) := by decide +kernel
theorem dX7_entry_0 : decode cX7_entry 0 = .ok (.aload_n 0, 1) := by decide +kernel
theorem dX7_entry_1 : decode cX7_entry 1 = .ok (.iconst 0, 1) := by decide +kernel
theorem dX7_entry_2 : decode cX7_entry 2 = .ok (.putfield 89, 3) := by decide +kernel
theorem dX7_entry_5 : decode cX7_entry 5 = .ok (.aload_n 0, 1) := by decide +kernel
theorem dX7_entry_6 : decode cX7_entry 6 = .ok (.iload_n 1, 1) := by decide +kernel
theorem dX7_entry_7 : decode cX7_entry 7 = .ok (.iload_n 2, 1) := by decide +kernel
theorem dX7_entry_8 : decode cX7_entry 8 = .ok (.invokevirtual 216, 3) := by decide +kernel
theorem dX7_entry_11 : decode cX7_entry 11 = .ok (.istore 5, 2) := by decide +kernel
theorem dX7_entry_13 : decode cX7_entry 13 = .ok (.iload 5, 2) := by decide +kernel
theorem dX7_entry_15 : decode cX7_entry 15 = .ok (.ifCond .ge 6, 3) := by decide +kernel
theorem dX7_entry_18 : decode cX7_entry 18 = .ok (.ldc 135, 2) := by decide +kernel
theorem dX7_entry_20 : decode cX7_entry 20 = .ok (.ireturn, 1) := by decide +kernel
theorem dX7_entry_21 : decode cX7_entry 21 = .ok (.iload_n 3, 1) := by decide +kernel
theorem dX7_entry_22 : decode cX7_entry 22 = .ok (.i2l, 1) := by decide +kernel
theorem dX7_entry_23 : decode cX7_entry 23 = .ok (.lconst 0, 1) := by decide +kernel
theorem dX7_entry_24 : decode cX7_entry 24 = .ok (.aload_n 0, 1) := by decide +kernel
theorem dX7_entry_25 : decode cX7_entry 25 = .ok (.getfield 34, 3) := by decide +kernel
theorem dX7_entry_28 : decode cX7_entry 28 = .ok (.iload 5, 2) := by decide +kernel
theorem dX7_entry_30 : decode cX7_entry 30 = .ok (.iaload, 1) := by decide +kernel
theorem dX7_entry_31 : decode cX7_entry 31 = .ok (.iconst 1, 1) := by decide +kernel
theorem dX7_entry_32 : decode cX7_entry 32 = .ok (.isub, 1) := by decide +kernel
theorem dX7_entry_33 : decode cX7_entry 33 = .ok (.i2l, 1) := by decide +kernel
theorem dX7_entry_34 : decode cX7_entry 34 = .ok (.invokestatic 103, 3) := by decide +kernel
theorem dX7_entry_37 : decode cX7_entry 37 = .ok (.ifCond .eq 16, 3) := by decide +kernel
theorem dX7_entry_40 : decode cX7_entry 40 = .ok (.iload 4, 2) := by decide +kernel
theorem dX7_entry_42 : decode cX7_entry 42 = .ok (.i2l, 1) := by decide +kernel
theorem dX7_entry_43 : decode cX7_entry 43 = .ok (.lconst 0, 1) := by decide +kernel
theorem dX7_entry_44 : decode cX7_entry 44 = .ok (.ldc2_w 126, 3) := by decide +kernel
theorem dX7_entry_47 : decode cX7_entry 47 = .ok (.invokestatic 103, 3) := by decide +kernel
theorem dX7_entry_50 : decode cX7_entry 50 = .ok (.ifCond .ne 6, 3) := by decide +kernel
theorem dX7_entry_53 : decode cX7_entry 53 = .ok (.ldc 111, 2) := by decide +kernel
theorem dX7_entry_55 : decode cX7_entry 55 = .ok (.ireturn, 1) := by decide +kernel
theorem dX7_entry_56 : decode cX7_entry 56 = .ok (.bipush 30, 2) := by decide +kernel
theorem dX7_entry_58 : decode cX7_entry 58 = .ok (.iload 5, 2) := by decide +kernel
theorem dX7_entry_60 : decode cX7_entry 60 = .ok (.imul, 1) := by decide +kernel
theorem dX7_entry_61 : decode cX7_entry 61 = .ok (.iload_n 3, 1) := by decide +kernel
theorem dX7_entry_62 : decode cX7_entry 62 = .ok (.iadd, 1) := by decide +kernel
theorem dX7_entry_63 : decode cX7_entry 63 = .ok (.istore 6, 2) := by decide +kernel
theorem dX7_entry_65 : decode cX7_entry 65 = .ok (.iload 4, 2) := by decide +kernel
theorem dX7_entry_67 : decode cX7_entry 67 = .ok (.ifCond .ne 13, 3) := by decide +kernel
theorem dX7_entry_70 : decode cX7_entry 70 = .ok (.aload_n 0, 1) := by decide +kernel
theorem dX7_entry_71 : decode cX7_entry 71 = .ok (.getfield 37, 3) := by decide +kernel
theorem dX7_entry_74 : decode cX7_entry 74 = .ok (.iload 6, 2) := by decide +kernel
theorem dX7_entry_76 : decode cX7_entry 76 = .ok (.iaload, 1) := by decide +kernel
theorem dX7_entry_77 : decode cX7_entry 77 = .ok (.goto 26, 3) := by decide +kernel
theorem dX7_entry_80 : decode cX7_entry 80 = .ok (.iload 4, 2) := by decide +kernel
theorem dX7_entry_82 : decode cX7_entry 82 = .ok (.iconst 1, 1) := by decide +kernel
theorem dX7_entry_83 : decode cX7_entry 83 = .ok (.if_icmp .ne 13, 3) := by decide +kernel
theorem dX7_entry_86 : decode cX7_entry 86 = .ok (.aload_n 0, 1) := by decide +kernel
theorem dX7_entry_87 : decode cX7_entry 87 = .ok (.getfield 40, 3) := by decide +kernel
theorem dX7_entry_90 : decode cX7_entry 90 = .ok (.iload 6, 2) := by decide +kernel
theorem dX7_entry_92 : decode cX7_entry 92 = .ok (.iaload, 1) := by decide +kernel
theorem dX7_entry_93 : decode cX7_entry 93 = .ok (.goto 10, 3) := by decide +kernel
theorem dX7_entry_96 : decode cX7_entry 96 = .ok (.aload_n 0, 1) := by decide +kernel
theorem dX7_entry_97 : decode cX7_entry 97 = .ok (.getfield 43, 3) := by decide +kernel
theorem dX7_entry_100 : decode cX7_entry 100 = .ok (.iload 6, 2) := by decide +kernel
theorem dX7_entry_102 : decode cX7_entry 102 = .ok (.iaload, 1) := by decide +kernel
theorem dX7_entry_103 : decode cX7_entry 103 = .ok (.ireturn, 1) := by decide +kernel
theorem dX7_byteAt_0 : decode cX7_byteAt 0 = .ok (.aload_n 0, 1) := by decide +kernel
theorem dX7_byteAt_1 : decode cX7_byteAt 1 = .ok (.iconst 0, 1) := by decide +kernel
theorem dX7_byteAt_2 : decode cX7_byteAt 2 = .ok (.putfield 89, 3) := by decide +kernel
theorem dX7_byteAt_5 : decode cX7_byteAt 5 = .ok (.iload_n 1, 1) := by decide +kernel
theorem dX7_byteAt_6 : decode cX7_byteAt 6 = .ok (.i2l, 1) := by decide +kernel
theorem dX7_byteAt_7 : decode cX7_byteAt 7 = .ok (.lconst 0, 1) := by decide +kernel
theorem dX7_byteAt_8 : decode cX7_byteAt 8 = .ok (.ldc2_w 219, 3) := by decide +kernel
theorem dX7_byteAt_11 : decode cX7_byteAt 11 = .ok (.invokestatic 103, 3) := by decide +kernel
theorem dX7_byteAt_14 : decode cX7_byteAt 14 = .ok (.ifCond .eq 12, 3) := by decide +kernel
theorem dX7_byteAt_17 : decode cX7_byteAt 17 = .ok (.aload_n 0, 1) := by decide +kernel
theorem dX7_byteAt_18 : decode cX7_byteAt 18 = .ok (.getfield 46, 3) := by decide +kernel
theorem dX7_byteAt_21 : decode cX7_byteAt 21 = .ok (.iload_n 1, 1) := by decide +kernel
theorem dX7_byteAt_22 : decode cX7_byteAt 22 = .ok (.iaload, 1) := by decide +kernel
theorem dX7_byteAt_23 : decode cX7_byteAt 23 = .ok (.goto 5, 3) := by decide +kernel
theorem dX7_byteAt_26 : decode cX7_byteAt 26 = .ok (.ldc 111, 2) := by decide +kernel
theorem dX7_byteAt_28 : decode cX7_byteAt 28 = .ok (.ireturn, 1) := by decide +kernel
theorem dX7_log_0 : decode cX7_log 0 = .ok (.aload_n 0, 1) := by decide +kernel
theorem dX7_log_1 : decode cX7_log 1 = .ok (.iconst 0, 1) := by decide +kernel
theorem dX7_log_2 : decode cX7_log 2 = .ok (.putfield 89, 3) := by decide +kernel
theorem dX7_log_5 : decode cX7_log 5 = .ok (.iload_n 1, 1) := by decide +kernel
theorem dX7_log_6 : decode cX7_log 6 = .ok (.i2l, 1) := by decide +kernel
theorem dX7_log_7 : decode cX7_log 7 = .ok (.lconst 0, 1) := by decide +kernel
theorem dX7_log_8 : decode cX7_log 8 = .ok (.aload_n 0, 1) := by decide +kernel
theorem dX7_log_9 : decode cX7_log 9 = .ok (.getfield 93, 3) := by decide +kernel
theorem dX7_log_12 : decode cX7_log 12 = .ok (.iconst 1, 1) := by decide +kernel
theorem dX7_log_13 : decode cX7_log 13 = .ok (.isub, 1) := by decide +kernel
theorem dX7_log_14 : decode cX7_log 14 = .ok (.i2l, 1) := by decide +kernel
theorem dX7_log_15 : decode cX7_log 15 = .ok (.invokestatic 103, 3) := by decide +kernel
theorem dX7_log_18 : decode cX7_log 18 = .ok (.ifCond .eq 15, 3) := by decide +kernel
theorem dX7_log_21 : decode cX7_log 21 = .ok (.iload_n 2, 1) := by decide +kernel
theorem dX7_log_22 : decode cX7_log 22 = .ok (.i2l, 1) := by decide +kernel
theorem dX7_log_23 : decode cX7_log 23 = .ok (.lconst 0, 1) := by decide +kernel
theorem dX7_log_24 : decode cX7_log 24 = .ok (.ldc2_w 126, 3) := by decide +kernel
theorem dX7_log_27 : decode cX7_log 27 = .ok (.invokestatic 103, 3) := by decide +kernel
theorem dX7_log_30 : decode cX7_log 30 = .ok (.ifCond .ne 6, 3) := by decide +kernel
theorem dX7_log_33 : decode cX7_log 33 = .ok (.ldc 111, 2) := by decide +kernel
theorem dX7_log_35 : decode cX7_log 35 = .ok (.ireturn, 1) := by decide +kernel
theorem dX7_log_36 : decode cX7_log 36 = .ok (.iload_n 2, 1) := by decide +kernel
theorem dX7_log_37 : decode cX7_log 37 = .ok (.ifCond .ne 12, 3) := by decide +kernel
theorem dX7_log_40 : decode cX7_log 40 = .ok (.aload_n 0, 1) := by decide +kernel
theorem dX7_log_41 : decode cX7_log 41 = .ok (.getfield 7, 3) := by decide +kernel
theorem dX7_log_44 : decode cX7_log 44 = .ok (.iload_n 1, 1) := by decide +kernel
theorem dX7_log_45 : decode cX7_log 45 = .ok (.iaload, 1) := by decide +kernel
theorem dX7_log_46 : decode cX7_log 46 = .ok (.goto 23, 3) := by decide +kernel
theorem dX7_log_49 : decode cX7_log 49 = .ok (.iload_n 2, 1) := by decide +kernel
theorem dX7_log_50 : decode cX7_log 50 = .ok (.iconst 1, 1) := by decide +kernel
theorem dX7_log_51 : decode cX7_log 51 = .ok (.if_icmp .ne 12, 3) := by decide +kernel
theorem dX7_log_54 : decode cX7_log 54 = .ok (.aload_n 0, 1) := by decide +kernel
theorem dX7_log_55 : decode cX7_log 55 = .ok (.getfield 13, 3) := by decide +kernel
theorem dX7_log_58 : decode cX7_log 58 = .ok (.iload_n 1, 1) := by decide +kernel
theorem dX7_log_59 : decode cX7_log 59 = .ok (.iaload, 1) := by decide +kernel
theorem dX7_log_60 : decode cX7_log 60 = .ok (.goto 9, 3) := by decide +kernel
theorem dX7_log_63 : decode cX7_log 63 = .ok (.aload_n 0, 1) := by decide +kernel
theorem dX7_log_64 : decode cX7_log 64 = .ok (.getfield 16, 3) := by decide +kernel
theorem dX7_log_67 : decode cX7_log 67 = .ok (.iload_n 1, 1) := by decide +kernel
theorem dX7_log_68 : decode cX7_log 68 = .ok (.iaload, 1) := by decide +kernel
theorem dX7_log_69 : decode cX7_log 69 = .ok (.ireturn, 1) := by decide +kernel
theorem dX7_count_0 : decode cX7_count 0 = .ok (.aload_n 0, 1) := by decide +kernel
theorem dX7_count_1 : decode cX7_count 1 = .ok (.iconst 0, 1) := by decide +kernel
theorem dX7_count_2 : decode cX7_count 2 = .ok (.putfield 89, 3) := by decide +kernel
theorem dX7_count_5 : decode cX7_count 5 = .ok (.iconst 0, 1) := by decide +kernel
theorem dX7_count_6 : decode cX7_count 6 = .ok (.istore_n 2, 1) := by decide +kernel
theorem dX7_count_7 : decode cX7_count 7 = .ok (.iconst 0, 1) := by decide +kernel
theorem dX7_count_8 : decode cX7_count 8 = .ok (.istore_n 3, 1) := by decide +kernel
theorem dX7_count_9 : decode cX7_count 9 = .ok (.iconst 0, 1) := by decide +kernel
theorem dX7_count_10 : decode cX7_count 10 = .ok (.istore 4, 2) := by decide +kernel
theorem dX7_count_12 : decode cX7_count 12 = .ok (.iconst 0, 1) := by decide +kernel
theorem dX7_count_13 : decode cX7_count 13 = .ok (.istore 5, 2) := by decide +kernel
theorem dX7_count_15 : decode cX7_count 15 = .ok (.iload 5, 2) := by decide +kernel
theorem dX7_count_17 : decode cX7_count 17 = .ok (.sipush 330, 3) := by decide +kernel
theorem dX7_count_20 : decode cX7_count 20 = .ok (.if_icmp .ge 52, 3) := by decide +kernel
theorem dX7_count_23 : decode cX7_count 23 = .ok (.aload_n 0, 1) := by decide +kernel
theorem dX7_count_24 : decode cX7_count 24 = .ok (.getfield 22, 3) := by decide +kernel
theorem dX7_count_27 : decode cX7_count 27 = .ok (.iload 5, 2) := by decide +kernel
theorem dX7_count_29 : decode cX7_count 29 = .ok (.iaload, 1) := by decide +kernel
theorem dX7_count_30 : decode cX7_count 30 = .ok (.i2l, 1) := by decide +kernel
theorem dX7_count_31 : decode cX7_count 31 = .ok (.lconst 0, 1) := by decide +kernel
theorem dX7_count_32 : decode cX7_count 32 = .ok (.ldc2_w 124, 3) := by decide +kernel
theorem dX7_count_35 : decode cX7_count 35 = .ok (.invokestatic 103, 3) := by decide +kernel
theorem dX7_count_38 : decode cX7_count 38 = .ok (.ifCond .eq 28, 3) := by decide +kernel
theorem dX7_count_41 : decode cX7_count 41 = .ok (.iinc 2 1, 3) := by decide +kernel
theorem dX7_count_44 : decode cX7_count 44 = .ok (.iload_n 3, 1) := by decide +kernel
theorem dX7_count_45 : decode cX7_count 45 = .ok (.aload_n 0, 1) := by decide +kernel
theorem dX7_count_46 : decode cX7_count 46 = .ok (.getfield 31, 3) := by decide +kernel
theorem dX7_count_49 : decode cX7_count 49 = .ok (.iload 5, 2) := by decide +kernel
theorem dX7_count_51 : decode cX7_count 51 = .ok (.iaload, 1) := by decide +kernel
theorem dX7_count_52 : decode cX7_count 52 = .ok (.iadd, 1) := by decide +kernel
theorem dX7_count_53 : decode cX7_count 53 = .ok (.istore_n 3, 1) := by decide +kernel
theorem dX7_count_54 : decode cX7_count 54 = .ok (.iload 4, 2) := by decide +kernel
theorem dX7_count_56 : decode cX7_count 56 = .ok (.aload_n 0, 1) := by decide +kernel
theorem dX7_count_57 : decode cX7_count 57 = .ok (.getfield 34, 3) := by decide +kernel
theorem dX7_count_60 : decode cX7_count 60 = .ok (.iload 5, 2) := by decide +kernel
theorem dX7_count_62 : decode cX7_count 62 = .ok (.iaload, 1) := by decide +kernel
theorem dX7_count_63 : decode cX7_count 63 = .ok (.iadd, 1) := by decide +kernel
theorem dX7_count_64 : decode cX7_count 64 = .ok (.istore 4, 2) := by decide +kernel
theorem dX7_count_66 : decode cX7_count 66 = .ok (.iinc 5 1, 3) := by decide +kernel
theorem dX7_count_69 : decode cX7_count 69 = .ok (.goto (-54), 3) := by decide +kernel
theorem dX7_count_72 : decode cX7_count 72 = .ok (.iload_n 1, 1) := by decide +kernel
theorem dX7_count_73 : decode cX7_count 73 = .ok (.tableswitch 105 0 8 #[51, 56, 61, 66, 68, 70, 92, 97, 102], 51) := by decide +kernel
theorem dX7_count_124 : decode cX7_count 124 = .ok (.aload_n 0, 1) := by decide +kernel
theorem dX7_count_125 : decode cX7_count 125 = .ok (.getfield 93, 3) := by decide +kernel
theorem dX7_count_128 : decode cX7_count 128 = .ok (.ireturn, 1) := by decide +kernel
theorem dX7_count_129 : decode cX7_count 129 = .ok (.aload_n 0, 1) := by decide +kernel
theorem dX7_count_130 : decode cX7_count 130 = .ok (.getfield 117, 3) := by decide +kernel
theorem dX7_count_133 : decode cX7_count 133 = .ok (.ireturn, 1) := by decide +kernel
theorem dX7_count_134 : decode cX7_count 134 = .ok (.aload_n 0, 1) := by decide +kernel
theorem dX7_count_135 : decode cX7_count 135 = .ok (.getfield 96, 3) := by decide +kernel
theorem dX7_count_138 : decode cX7_count 138 = .ok (.ireturn, 1) := by decide +kernel
theorem dX7_count_139 : decode cX7_count 139 = .ok (.iload_n 2, 1) := by decide +kernel
theorem dX7_count_140 : decode cX7_count 140 = .ok (.ireturn, 1) := by decide +kernel
theorem dX7_count_141 : decode cX7_count 141 = .ok (.iload_n 3, 1) := by decide +kernel
theorem dX7_count_142 : decode cX7_count 142 = .ok (.ireturn, 1) := by decide +kernel
theorem dX7_count_143 : decode cX7_count 143 = .ok (.aload_n 0, 1) := by decide +kernel
theorem dX7_count_144 : decode cX7_count 144 = .ok (.getfield 143, 3) := by decide +kernel
theorem dX7_count_147 : decode cX7_count 147 = .ok (.ifCond .eq 15, 3) := by decide +kernel
theorem dX7_count_150 : decode cX7_count 150 = .ok (.aload_n 0, 1) := by decide +kernel
theorem dX7_count_151 : decode cX7_count 151 = .ok (.getfield 140, 3) := by decide +kernel
theorem dX7_count_154 : decode cX7_count 154 = .ok (.aload_n 0, 1) := by decide +kernel
theorem dX7_count_155 : decode cX7_count 155 = .ok (.getfield 153, 3) := by decide +kernel
theorem dX7_count_158 : decode cX7_count 158 = .ok (.isub, 1) := by decide +kernel
theorem dX7_count_159 : decode cX7_count 159 = .ok (.goto 5, 3) := by decide +kernel
theorem dX7_count_162 : decode cX7_count 162 = .ok (.ldc 116, 2) := by decide +kernel
theorem dX7_count_164 : decode cX7_count 164 = .ok (.ireturn, 1) := by decide +kernel
theorem dX7_count_165 : decode cX7_count 165 = .ok (.aload_n 0, 1) := by decide +kernel
theorem dX7_count_166 : decode cX7_count 166 = .ok (.getfield 156, 3) := by decide +kernel
theorem dX7_count_169 : decode cX7_count 169 = .ok (.ireturn, 1) := by decide +kernel
theorem dX7_count_170 : decode cX7_count 170 = .ok (.aload_n 0, 1) := by decide +kernel
theorem dX7_count_171 : decode cX7_count 171 = .ok (.getfield 201, 3) := by decide +kernel
theorem dX7_count_174 : decode cX7_count 174 = .ok (.ireturn, 1) := by decide +kernel
theorem dX7_count_175 : decode cX7_count 175 = .ok (.iload 4, 2) := by decide +kernel
theorem dX7_count_177 : decode cX7_count 177 = .ok (.ireturn, 1) := by decide +kernel
theorem dX7_count_178 : decode cX7_count 178 = .ok (.ldc 111, 2) := by decide +kernel
theorem dX7_count_180 : decode cX7_count 180 = .ok (.ireturn, 1) := by decide +kernel
theorem dX7_check_0 : decode cX7_check 0 = .ok (.aload_n 0, 1) := by decide +kernel
theorem dX7_check_1 : decode cX7_check 1 = .ok (.iconst 0, 1) := by decide +kernel
theorem dX7_check_2 : decode cX7_check 2 = .ok (.putfield 89, 3) := by decide +kernel
theorem dX7_check_5 : decode cX7_check 5 = .ok (.iconst 0, 1) := by decide +kernel
theorem dX7_check_6 : decode cX7_check 6 = .ok (.istore_n 1, 1) := by decide +kernel
theorem dX7_check_7 : decode cX7_check 7 = .ok (.iconst 0, 1) := by decide +kernel
theorem dX7_check_8 : decode cX7_check 8 = .ok (.istore_n 2, 1) := by decide +kernel
theorem dX7_check_9 : decode cX7_check 9 = .ok (.iload_n 2, 1) := by decide +kernel
theorem dX7_check_10 : decode cX7_check 10 = .ok (.sipush 330, 3) := by decide +kernel
theorem dX7_check_13 : decode cX7_check 13 = .ok (.if_icmp .ge 66, 3) := by decide +kernel
theorem dX7_check_16 : decode cX7_check 16 = .ok (.aload_n 0, 1) := by decide +kernel
theorem dX7_check_17 : decode cX7_check 17 = .ok (.getfield 22, 3) := by decide +kernel
theorem dX7_check_20 : decode cX7_check 20 = .ok (.iload_n 2, 1) := by decide +kernel
theorem dX7_check_21 : decode cX7_check 21 = .ok (.iaload, 1) := by decide +kernel
theorem dX7_check_22 : decode cX7_check 22 = .ok (.i2l, 1) := by decide +kernel
theorem dX7_check_23 : decode cX7_check 23 = .ok (.lconst 0, 1) := by decide +kernel
theorem dX7_check_24 : decode cX7_check 24 = .ok (.ldc2_w 124, 3) := by decide +kernel
theorem dX7_check_27 : decode cX7_check 27 = .ok (.invokestatic 103, 3) := by decide +kernel
theorem dX7_check_30 : decode cX7_check 30 = .ok (.ifCond .eq 43, 3) := by decide +kernel
theorem dX7_check_33 : decode cX7_check 33 = .ok (.aload_n 0, 1) := by decide +kernel
theorem dX7_check_34 : decode cX7_check 34 = .ok (.getfield 159, 3) := by decide +kernel
theorem dX7_check_37 : decode cX7_check 37 = .ok (.istore_n 3, 1) := by decide +kernel
theorem dX7_check_38 : decode cX7_check 38 = .ok (.aload_n 0, 1) := by decide +kernel
theorem dX7_check_39 : decode cX7_check 39 = .ok (.aload_n 0, 1) := by decide +kernel
theorem dX7_check_40 : decode cX7_check 40 = .ok (.getfield 34, 3) := by decide +kernel
theorem dX7_check_43 : decode cX7_check 43 = .ok (.iload_n 2, 1) := by decide +kernel
theorem dX7_check_44 : decode cX7_check 44 = .ok (.iaload, 1) := by decide +kernel
theorem dX7_check_45 : decode cX7_check 45 = .ok (.putfield 159, 3) := by decide +kernel
theorem dX7_check_48 : decode cX7_check 48 = .ok (.aload_n 0, 1) := by decide +kernel
theorem dX7_check_49 : decode cX7_check 49 = .ok (.iload_n 2, 1) := by decide +kernel
theorem dX7_check_50 : decode cX7_check 50 = .ok (.invokevirtual 221, 3) := by decide +kernel
theorem dX7_check_53 : decode cX7_check 53 = .ok (.istore 4, 2) := by decide +kernel
theorem dX7_check_55 : decode cX7_check 55 = .ok (.aload_n 0, 1) := by decide +kernel
theorem dX7_check_56 : decode cX7_check 56 = .ok (.iload_n 3, 1) := by decide +kernel
theorem dX7_check_57 : decode cX7_check 57 = .ok (.putfield 159, 3) := by decide +kernel
theorem dX7_check_60 : decode cX7_check 60 = .ok (.iload_n 1, 1) := by decide +kernel
theorem dX7_check_61 : decode cX7_check 61 = .ok (.iload 4, 2) := by decide +kernel
theorem dX7_check_63 : decode cX7_check 63 = .ok (.ifCond .eq 7, 3) := by decide +kernel
theorem dX7_check_66 : decode cX7_check 66 = .ok (.iconst 0, 1) := by decide +kernel
theorem dX7_check_67 : decode cX7_check 67 = .ok (.goto 4, 3) := by decide +kernel
theorem dX7_check_70 : decode cX7_check 70 = .ok (.iconst 1, 1) := by decide +kernel
theorem dX7_check_71 : decode cX7_check 71 = .ok (.iadd, 1) := by decide +kernel
theorem dX7_check_72 : decode cX7_check 72 = .ok (.istore_n 1, 1) := by decide +kernel
theorem dX7_check_73 : decode cX7_check 73 = .ok (.iinc 2 1, 3) := by decide +kernel
theorem dX7_check_76 : decode cX7_check 76 = .ok (.goto (-67), 3) := by decide +kernel
theorem dX7_check_79 : decode cX7_check 79 = .ok (.iload_n 1, 1) := by decide +kernel
theorem dX7_check_80 : decode cX7_check 80 = .ok (.ireturn, 1) := by decide +kernel
theorem dX7_codesAs_0 : decode cX7_codesAs 0 = .ok (.iconst 0, 1) := by decide +kernel
theorem dX7_codesAs_1 : decode cX7_codesAs 1 = .ok (.istore_n 2, 1) := by decide +kernel
theorem dX7_codesAs_2 : decode cX7_codesAs 2 = .ok (.iload_n 2, 1) := by decide +kernel
theorem dX7_codesAs_3 : decode cX7_codesAs 3 = .ok (.bipush 40, 2) := by decide +kernel
theorem dX7_codesAs_5 : decode cX7_codesAs 5 = .ok (.if_icmp .ge 45, 3) := by decide +kernel
theorem dX7_codesAs_8 : decode cX7_codesAs 8 = .ok (.aload_n 0, 1) := by decide +kernel
theorem dX7_codesAs_9 : decode cX7_codesAs 9 = .ok (.getfield 80, 3) := by decide +kernel
theorem dX7_codesAs_12 : decode cX7_codesAs 12 = .ok (.iload_n 2, 1) := by decide +kernel
theorem dX7_codesAs_13 : decode cX7_codesAs 13 = .ok (.aload_n 0, 1) := by decide +kernel
theorem dX7_codesAs_14 : decode cX7_codesAs 14 = .ok (.getfield 68, 3) := by decide +kernel
theorem dX7_codesAs_17 : decode cX7_codesAs 17 = .ok (.iload_n 2, 1) := by decide +kernel
theorem dX7_codesAs_18 : decode cX7_codesAs 18 = .ok (.iaload, 1) := by decide +kernel
theorem dX7_codesAs_19 : decode cX7_codesAs 19 = .ok (.iastore, 1) := by decide +kernel
theorem dX7_codesAs_20 : decode cX7_codesAs 20 = .ok (.aload_n 0, 1) := by decide +kernel
theorem dX7_codesAs_21 : decode cX7_codesAs 21 = .ok (.getfield 83, 3) := by decide +kernel
theorem dX7_codesAs_24 : decode cX7_codesAs 24 = .ok (.iload_n 2, 1) := by decide +kernel
theorem dX7_codesAs_25 : decode cX7_codesAs 25 = .ok (.aload_n 0, 1) := by decide +kernel
theorem dX7_codesAs_26 : decode cX7_codesAs 26 = .ok (.getfield 71, 3) := by decide +kernel
theorem dX7_codesAs_29 : decode cX7_codesAs 29 = .ok (.iload_n 2, 1) := by decide +kernel
theorem dX7_codesAs_30 : decode cX7_codesAs 30 = .ok (.iaload, 1) := by decide +kernel
theorem dX7_codesAs_31 : decode cX7_codesAs 31 = .ok (.iastore, 1) := by decide +kernel
theorem dX7_codesAs_32 : decode cX7_codesAs 32 = .ok (.aload_n 0, 1) := by decide +kernel
theorem dX7_codesAs_33 : decode cX7_codesAs 33 = .ok (.getfield 86, 3) := by decide +kernel
theorem dX7_codesAs_36 : decode cX7_codesAs 36 = .ok (.iload_n 2, 1) := by decide +kernel
theorem dX7_codesAs_37 : decode cX7_codesAs 37 = .ok (.aload_n 0, 1) := by decide +kernel
theorem dX7_codesAs_38 : decode cX7_codesAs 38 = .ok (.getfield 74, 3) := by decide +kernel
theorem dX7_codesAs_41 : decode cX7_codesAs 41 = .ok (.iload_n 2, 1) := by decide +kernel
theorem dX7_codesAs_42 : decode cX7_codesAs 42 = .ok (.iaload, 1) := by decide +kernel
theorem dX7_codesAs_43 : decode cX7_codesAs 43 = .ok (.iastore, 1) := by decide +kernel
theorem dX7_codesAs_44 : decode cX7_codesAs 44 = .ok (.iinc 2 1, 3) := by decide +kernel
theorem dX7_codesAs_47 : decode cX7_codesAs 47 = .ok (.goto (-45), 3) := by decide +kernel
theorem dX7_codesAs_50 : decode cX7_codesAs 50 = .ok (.iconst 0, 1) := by decide +kernel
theorem dX7_codesAs_51 : decode cX7_codesAs 51 = .ok (.istore_n 2, 1) := by decide +kernel
theorem dX7_codesAs_52 : decode cX7_codesAs 52 = .ok (.iload_n 2, 1) := by decide +kernel
theorem dX7_codesAs_53 : decode cX7_codesAs 53 = .ok (.aload_n 0, 1) := by decide +kernel
theorem dX7_codesAs_54 : decode cX7_codesAs 54 = .ok (.getfield 34, 3) := by decide +kernel
theorem dX7_codesAs_57 : decode cX7_codesAs 57 = .ok (.iload_n 1, 1) := by decide +kernel
theorem dX7_codesAs_58 : decode cX7_codesAs 58 = .ok (.iaload, 1) := by decide +kernel
theorem dX7_codesAs_59 : decode cX7_codesAs 59 = .ok (.if_icmp .ge 60, 3) := by decide +kernel
theorem dX7_codesAs_62 : decode cX7_codesAs 62 = .ok (.aload_n 0, 1) := by decide +kernel
theorem dX7_codesAs_63 : decode cX7_codesAs 63 = .ok (.getfield 68, 3) := by decide +kernel
theorem dX7_codesAs_66 : decode cX7_codesAs 66 = .ok (.iload_n 2, 1) := by decide +kernel
theorem dX7_codesAs_67 : decode cX7_codesAs 67 = .ok (.aload_n 0, 1) := by decide +kernel
theorem dX7_codesAs_68 : decode cX7_codesAs 68 = .ok (.getfield 37, 3) := by decide +kernel
theorem dX7_codesAs_71 : decode cX7_codesAs 71 = .ok (.bipush 30, 2) := by decide +kernel
theorem dX7_codesAs_73 : decode cX7_codesAs 73 = .ok (.iload_n 1, 1) := by decide +kernel
theorem dX7_codesAs_74 : decode cX7_codesAs 74 = .ok (.imul, 1) := by decide +kernel
theorem dX7_codesAs_75 : decode cX7_codesAs 75 = .ok (.iload_n 2, 1) := by decide +kernel
theorem dX7_codesAs_76 : decode cX7_codesAs 76 = .ok (.iadd, 1) := by decide +kernel
theorem dX7_codesAs_77 : decode cX7_codesAs 77 = .ok (.iaload, 1) := by decide +kernel
theorem dX7_codesAs_78 : decode cX7_codesAs 78 = .ok (.iastore, 1) := by decide +kernel
theorem dX7_codesAs_79 : decode cX7_codesAs 79 = .ok (.aload_n 0, 1) := by decide +kernel
theorem dX7_codesAs_80 : decode cX7_codesAs 80 = .ok (.getfield 71, 3) := by decide +kernel
theorem dX7_codesAs_83 : decode cX7_codesAs 83 = .ok (.iload_n 2, 1) := by decide +kernel
theorem dX7_codesAs_84 : decode cX7_codesAs 84 = .ok (.aload_n 0, 1) := by decide +kernel
theorem dX7_codesAs_85 : decode cX7_codesAs 85 = .ok (.getfield 40, 3) := by decide +kernel
theorem dX7_codesAs_88 : decode cX7_codesAs 88 = .ok (.bipush 30, 2) := by decide +kernel
theorem dX7_codesAs_90 : decode cX7_codesAs 90 = .ok (.iload_n 1, 1) := by decide +kernel
theorem dX7_codesAs_91 : decode cX7_codesAs 91 = .ok (.imul, 1) := by decide +kernel
theorem dX7_codesAs_92 : decode cX7_codesAs 92 = .ok (.iload_n 2, 1) := by decide +kernel
theorem dX7_codesAs_93 : decode cX7_codesAs 93 = .ok (.iadd, 1) := by decide +kernel
theorem dX7_codesAs_94 : decode cX7_codesAs 94 = .ok (.iaload, 1) := by decide +kernel
theorem dX7_codesAs_95 : decode cX7_codesAs 95 = .ok (.iastore, 1) := by decide +kernel
theorem dX7_codesAs_96 : decode cX7_codesAs 96 = .ok (.aload_n 0, 1) := by decide +kernel
theorem dX7_codesAs_97 : decode cX7_codesAs 97 = .ok (.getfield 74, 3) := by decide +kernel
theorem dX7_codesAs_100 : decode cX7_codesAs 100 = .ok (.iload_n 2, 1) := by decide +kernel
theorem dX7_codesAs_101 : decode cX7_codesAs 101 = .ok (.aload_n 0, 1) := by decide +kernel
theorem dX7_codesAs_102 : decode cX7_codesAs 102 = .ok (.getfield 43, 3) := by decide +kernel
theorem dX7_codesAs_105 : decode cX7_codesAs 105 = .ok (.bipush 30, 2) := by decide +kernel
theorem dX7_codesAs_107 : decode cX7_codesAs 107 = .ok (.iload_n 1, 1) := by decide +kernel
theorem dX7_codesAs_108 : decode cX7_codesAs 108 = .ok (.imul, 1) := by decide +kernel
theorem dX7_codesAs_109 : decode cX7_codesAs 109 = .ok (.iload_n 2, 1) := by decide +kernel
theorem dX7_codesAs_110 : decode cX7_codesAs 110 = .ok (.iadd, 1) := by decide +kernel
theorem dX7_codesAs_111 : decode cX7_codesAs 111 = .ok (.iaload, 1) := by decide +kernel
theorem dX7_codesAs_112 : decode cX7_codesAs 112 = .ok (.iastore, 1) := by decide +kernel
theorem dX7_codesAs_113 : decode cX7_codesAs 113 = .ok (.iinc 2 1, 3) := by decide +kernel
theorem dX7_codesAs_116 : decode cX7_codesAs 116 = .ok (.goto (-64), 3) := by decide +kernel
theorem dX7_codesAs_119 : decode cX7_codesAs 119 = .ok (.aload_n 0, 1) := by decide +kernel
theorem dX7_codesAs_120 : decode cX7_codesAs 120 = .ok (.invokevirtual 195, 3) := by decide +kernel
theorem dX7_codesAs_123 : decode cX7_codesAs 123 = .ok (.aload_n 0, 1) := by decide +kernel
theorem dX7_codesAs_124 : decode cX7_codesAs 124 = .ok (.getfield 189, 3) := by decide +kernel
theorem dX7_codesAs_127 : decode cX7_codesAs 127 = .ok (.aload_n 0, 1) := by decide +kernel
theorem dX7_codesAs_128 : decode cX7_codesAs 128 = .ok (.getfield 31, 3) := by decide +kernel
theorem dX7_codesAs_131 : decode cX7_codesAs 131 = .ok (.iload_n 1, 1) := by decide +kernel
theorem dX7_codesAs_132 : decode cX7_codesAs 132 = .ok (.iaload, 1) := by decide +kernel
theorem dX7_codesAs_133 : decode cX7_codesAs 133 = .ok (.if_icmp .ne 7, 3) := by decide +kernel
theorem dX7_codesAs_136 : decode cX7_codesAs 136 = .ok (.iconst 1, 1) := by decide +kernel
theorem dX7_codesAs_137 : decode cX7_codesAs 137 = .ok (.goto 4, 3) := by decide +kernel
theorem dX7_codesAs_140 : decode cX7_codesAs 140 = .ok (.iconst 0, 1) := by decide +kernel
theorem dX7_codesAs_141 : decode cX7_codesAs 141 = .ok (.istore_n 2, 1) := by decide +kernel
theorem dX7_codesAs_142 : decode cX7_codesAs 142 = .ok (.iconst 0, 1) := by decide +kernel
theorem dX7_codesAs_143 : decode cX7_codesAs 143 = .ok (.istore_n 3, 1) := by decide +kernel
theorem dX7_codesAs_144 : decode cX7_codesAs 144 = .ok (.iload_n 3, 1) := by decide +kernel
theorem dX7_codesAs_145 : decode cX7_codesAs 145 = .ok (.aload_n 0, 1) := by decide +kernel
theorem dX7_codesAs_146 : decode cX7_codesAs 146 = .ok (.getfield 189, 3) := by decide +kernel
theorem dX7_codesAs_149 : decode cX7_codesAs 149 = .ok (.if_icmp .ge 41, 3) := by decide +kernel
theorem dX7_codesAs_152 : decode cX7_codesAs 152 = .ok (.iload_n 2, 1) := by decide +kernel
theorem dX7_codesAs_153 : decode cX7_codesAs 153 = .ok (.ifCond .eq 37, 3) := by decide +kernel
theorem dX7_codesAs_156 : decode cX7_codesAs 156 = .ok (.aload_n 0, 1) := by decide +kernel
theorem dX7_codesAs_157 : decode cX7_codesAs 157 = .ok (.getfield 46, 3) := by decide +kernel
theorem dX7_codesAs_160 : decode cX7_codesAs 160 = .ok (.aload_n 0, 1) := by decide +kernel
theorem dX7_codesAs_161 : decode cX7_codesAs 161 = .ok (.getfield 28, 3) := by decide +kernel
theorem dX7_codesAs_164 : decode cX7_codesAs 164 = .ok (.iload_n 1, 1) := by decide +kernel
theorem dX7_codesAs_165 : decode cX7_codesAs 165 = .ok (.iaload, 1) := by decide +kernel
theorem dX7_codesAs_166 : decode cX7_codesAs 166 = .ok (.iload_n 3, 1) := by decide +kernel
theorem dX7_codesAs_167 : decode cX7_codesAs 167 = .ok (.iadd, 1) := by decide +kernel
theorem dX7_codesAs_168 : decode cX7_codesAs 168 = .ok (.iaload, 1) := by decide +kernel
theorem dX7_codesAs_169 : decode cX7_codesAs 169 = .ok (.aload_n 0, 1) := by decide +kernel
theorem dX7_codesAs_170 : decode cX7_codesAs 170 = .ok (.getfield 77, 3) := by decide +kernel
theorem dX7_codesAs_173 : decode cX7_codesAs 173 = .ok (.iload_n 3, 1) := by decide +kernel
theorem dX7_codesAs_174 : decode cX7_codesAs 174 = .ok (.iaload, 1) := by decide +kernel
theorem dX7_codesAs_175 : decode cX7_codesAs 175 = .ok (.if_icmp .ne 7, 3) := by decide +kernel
theorem dX7_codesAs_178 : decode cX7_codesAs 178 = .ok (.iconst 1, 1) := by decide +kernel
theorem dX7_codesAs_179 : decode cX7_codesAs 179 = .ok (.goto 4, 3) := by decide +kernel
theorem dX7_codesAs_182 : decode cX7_codesAs 182 = .ok (.iconst 0, 1) := by decide +kernel
theorem dX7_codesAs_183 : decode cX7_codesAs 183 = .ok (.istore_n 2, 1) := by decide +kernel
theorem dX7_codesAs_184 : decode cX7_codesAs 184 = .ok (.iinc 3 1, 3) := by decide +kernel
theorem dX7_codesAs_187 : decode cX7_codesAs 187 = .ok (.goto (-43), 3) := by decide +kernel
theorem dX7_codesAs_190 : decode cX7_codesAs 190 = .ok (.iconst 0, 1) := by decide +kernel
theorem dX7_codesAs_191 : decode cX7_codesAs 191 = .ok (.istore_n 3, 1) := by decide +kernel
theorem dX7_codesAs_192 : decode cX7_codesAs 192 = .ok (.iload_n 3, 1) := by decide +kernel
theorem dX7_codesAs_193 : decode cX7_codesAs 193 = .ok (.bipush 40, 2) := by decide +kernel
theorem dX7_codesAs_195 : decode cX7_codesAs 195 = .ok (.if_icmp .ge 45, 3) := by decide +kernel
theorem dX7_codesAs_198 : decode cX7_codesAs 198 = .ok (.aload_n 0, 1) := by decide +kernel
theorem dX7_codesAs_199 : decode cX7_codesAs 199 = .ok (.getfield 68, 3) := by decide +kernel
theorem dX7_codesAs_202 : decode cX7_codesAs 202 = .ok (.iload_n 3, 1) := by decide +kernel
theorem dX7_codesAs_203 : decode cX7_codesAs 203 = .ok (.aload_n 0, 1) := by decide +kernel
theorem dX7_codesAs_204 : decode cX7_codesAs 204 = .ok (.getfield 80, 3) := by decide +kernel
theorem dX7_codesAs_207 : decode cX7_codesAs 207 = .ok (.iload_n 3, 1) := by decide +kernel
theorem dX7_codesAs_208 : decode cX7_codesAs 208 = .ok (.iaload, 1) := by decide +kernel
theorem dX7_codesAs_209 : decode cX7_codesAs 209 = .ok (.iastore, 1) := by decide +kernel
theorem dX7_codesAs_210 : decode cX7_codesAs 210 = .ok (.aload_n 0, 1) := by decide +kernel
theorem dX7_codesAs_211 : decode cX7_codesAs 211 = .ok (.getfield 71, 3) := by decide +kernel
theorem dX7_codesAs_214 : decode cX7_codesAs 214 = .ok (.iload_n 3, 1) := by decide +kernel
theorem dX7_codesAs_215 : decode cX7_codesAs 215 = .ok (.aload_n 0, 1) := by decide +kernel
theorem dX7_codesAs_216 : decode cX7_codesAs 216 = .ok (.getfield 83, 3) := by decide +kernel
theorem dX7_codesAs_219 : decode cX7_codesAs 219 = .ok (.iload_n 3, 1) := by decide +kernel
theorem dX7_codesAs_220 : decode cX7_codesAs 220 = .ok (.iaload, 1) := by decide +kernel
theorem dX7_codesAs_221 : decode cX7_codesAs 221 = .ok (.iastore, 1) := by decide +kernel
theorem dX7_codesAs_222 : decode cX7_codesAs 222 = .ok (.aload_n 0, 1) := by decide +kernel
theorem dX7_codesAs_223 : decode cX7_codesAs 223 = .ok (.getfield 74, 3) := by decide +kernel
theorem dX7_codesAs_226 : decode cX7_codesAs 226 = .ok (.iload_n 3, 1) := by decide +kernel
theorem dX7_codesAs_227 : decode cX7_codesAs 227 = .ok (.aload_n 0, 1) := by decide +kernel
theorem dX7_codesAs_228 : decode cX7_codesAs 228 = .ok (.getfield 86, 3) := by decide +kernel
theorem dX7_codesAs_231 : decode cX7_codesAs 231 = .ok (.iload_n 3, 1) := by decide +kernel
theorem dX7_codesAs_232 : decode cX7_codesAs 232 = .ok (.iaload, 1) := by decide +kernel
theorem dX7_codesAs_233 : decode cX7_codesAs 233 = .ok (.iastore, 1) := by decide +kernel
theorem dX7_codesAs_234 : decode cX7_codesAs 234 = .ok (.iinc 3 1, 3) := by decide +kernel
theorem dX7_codesAs_237 : decode cX7_codesAs 237 = .ok (.goto (-45), 3) := by decide +kernel
theorem dX7_codesAs_240 : decode cX7_codesAs 240 = .ok (.iload_n 2, 1) := by decide +kernel
theorem dX7_codesAs_241 : decode cX7_codesAs 241 = .ok (.ireturn, 1) := by decide +kernel
theorem dJ9_max_7cf53_0 : decode cJ9_max_7cf53 0 = .ok (.iload_n 0, 1) := by decide +kernel
theorem dJ9_max_7cf53_1 : decode cJ9_max_7cf53 1 = .ok (.iload_n 1, 1) := by decide +kernel
theorem dJ9_max_7cf53_2 : decode cJ9_max_7cf53 2 = .ok (.if_icmp .lt 7, 3) := by decide +kernel
theorem dJ9_max_7cf53_5 : decode cJ9_max_7cf53 5 = .ok (.iload_n 0, 1) := by decide +kernel
theorem dJ9_max_7cf53_6 : decode cJ9_max_7cf53 6 = .ok (.goto 4, 3) := by decide +kernel
theorem dJ9_max_7cf53_9 : decode cJ9_max_7cf53 9 = .ok (.iload_n 1, 1) := by decide +kernel
theorem dJ9_max_7cf53_10 : decode cJ9_max_7cf53 10 = .ok (.ireturn, 1) := by decide +kernel
theorem dJ9_min_7cf53_0 : decode cJ9_min_7cf53 0 = .ok (.iload_n 0, 1) := by decide +kernel
theorem dJ9_min_7cf53_1 : decode cJ9_min_7cf53 1 = .ok (.iload_n 1, 1) := by decide +kernel
theorem dJ9_min_7cf53_2 : decode cJ9_min_7cf53 2 = .ok (.if_icmp .gt 7, 3) := by decide +kernel
theorem dJ9_min_7cf53_5 : decode cJ9_min_7cf53 5 = .ok (.iload_n 0, 1) := by decide +kernel
theorem dJ9_min_7cf53_6 : decode cJ9_min_7cf53 6 = .ok (.goto 4, 3) := by decide +kernel
theorem dJ9_min_7cf53_9 : decode cJ9_min_7cf53 9 = .ok (.iload_n 1, 1) := by decide +kernel
theorem dJ9_min_7cf53_10 : decode cJ9_min_7cf53 10 = .ok (.ireturn, 1) := by decide +kernel
theorem dJxa1e45_init_da8c8_0 : decode cJxa1e45_init_da8c8 0 = .ok (.aload_n 0, 1) := by decide +kernel
theorem dJxa1e45_init_da8c8_1 : decode cJxa1e45_init_da8c8 1 = .ok (.invokespecial 1, 3) := by decide +kernel
theorem dJxa1e45_init_da8c8_4 : decode cJxa1e45_init_da8c8 4 = .ok (.return_, 1) := by decide +kernel
theorem dJxc12de_init_da8c8_0 : decode cJxc12de_init_da8c8 0 = .ok (.aload_n 0, 1) := by decide +kernel
theorem dJxc12de_init_da8c8_1 : decode cJxc12de_init_da8c8 1 = .ok (.invokespecial 1, 3) := by decide +kernel
theorem dJxc12de_init_da8c8_4 : decode cJxc12de_init_da8c8 4 = .ok (.aload_n 0, 1) := by decide +kernel
theorem dJxc12de_init_da8c8_5 : decode cJxc12de_init_da8c8 5 = .ok (.iconst 0, 1) := by decide +kernel
theorem dJxc12de_init_da8c8_6 : decode cJxc12de_init_da8c8 6 = .ok (.putfield 7, 3) := by decide +kernel
theorem dJxc12de_init_da8c8_9 : decode cJxc12de_init_da8c8 9 = .ok (.return_, 1) := by decide +kernel
theorem dJx4a65c_init_da8c8_0 : decode cJx4a65c_init_da8c8 0 = .ok (.aload_n 0, 1) := by decide +kernel
theorem dJx4a65c_init_da8c8_1 : decode cJx4a65c_init_da8c8 1 = .ok (.invokespecial 1, 3) := by decide +kernel
theorem dJx4a65c_init_da8c8_4 : decode cJx4a65c_init_da8c8 4 = .ok (.aload_n 0, 1) := by decide +kernel
theorem dJx4a65c_init_da8c8_5 : decode cJx4a65c_init_da8c8 5 = .ok (.getstatic 39, 3) := by decide +kernel
theorem dJx4a65c_init_da8c8_8 : decode cJx4a65c_init_da8c8 8 = .ok (.putfield 9, 3) := by decide +kernel
theorem dJx4a65c_init_da8c8_11 : decode cJx4a65c_init_da8c8 11 = .ok (.return_, 1) := by decide +kernel
theorem dJx4a65c_grow_92f84_0 : decode cJx4a65c_grow_92f84 0 = .ok (.aload_n 0, 1) := by decide +kernel
theorem dJx4a65c_grow_92f84_1 : decode cJx4a65c_grow_92f84 1 = .ok (.getfield 9, 3) := by decide +kernel
theorem dJx4a65c_grow_92f84_4 : decode cJx4a65c_grow_92f84 4 = .ok (.arraylength, 1) := by decide +kernel
theorem dJx4a65c_grow_92f84_5 : decode cJx4a65c_grow_92f84 5 = .ok (.istore_n 2, 1) := by decide +kernel
theorem dJx4a65c_grow_92f84_6 : decode cJx4a65c_grow_92f84 6 = .ok (.iload_n 2, 1) := by decide +kernel
theorem dJx4a65c_grow_92f84_7 : decode cJx4a65c_grow_92f84 7 = .ok (.ifCond .gt 13, 3) := by decide +kernel
theorem dJx4a65c_grow_92f84_10 : decode cJx4a65c_grow_92f84 10 = .ok (.aload_n 0, 1) := by decide +kernel
theorem dJx4a65c_grow_92f84_11 : decode cJx4a65c_grow_92f84 11 = .ok (.getfield 9, 3) := by decide +kernel
theorem dJx4a65c_grow_92f84_14 : decode cJx4a65c_grow_92f84 14 = .ok (.getstatic 39, 3) := by decide +kernel
theorem dJx4a65c_grow_92f84_17 : decode cJx4a65c_grow_92f84 17 = .ok (.if_acmp .eq 28, 3) := by decide +kernel
theorem dJx4a65c_grow_92f84_20 : decode cJx4a65c_grow_92f84 20 = .ok (.iload_n 2, 1) := by decide +kernel
theorem dJx4a65c_grow_92f84_21 : decode cJx4a65c_grow_92f84 21 = .ok (.iload_n 1, 1) := by decide +kernel
theorem dJx4a65c_grow_92f84_22 : decode cJx4a65c_grow_92f84 22 = .ok (.iload_n 2, 1) := by decide +kernel
theorem dJx4a65c_grow_92f84_23 : decode cJx4a65c_grow_92f84 23 = .ok (.isub, 1) := by decide +kernel
theorem dJx4a65c_grow_92f84_24 : decode cJx4a65c_grow_92f84 24 = .ok (.iload_n 2, 1) := by decide +kernel
theorem dJx4a65c_grow_92f84_25 : decode cJx4a65c_grow_92f84 25 = .ok (.iconst 1, 1) := by decide +kernel
theorem dJx4a65c_grow_92f84_26 : decode cJx4a65c_grow_92f84 26 = .ok (.ishr, 1) := by decide +kernel
theorem dJx4a65c_grow_92f84_27 : decode cJx4a65c_grow_92f84 27 = .ok (.invokestatic 73, 3) := by decide +kernel
theorem dJx4a65c_grow_92f84_30 : decode cJx4a65c_grow_92f84 30 = .ok (.istore_n 3, 1) := by decide +kernel
theorem dJx4a65c_grow_92f84_31 : decode cJx4a65c_grow_92f84 31 = .ok (.aload_n 0, 1) := by decide +kernel
theorem dJx4a65c_grow_92f84_32 : decode cJx4a65c_grow_92f84 32 = .ok (.aload_n 0, 1) := by decide +kernel
theorem dJx4a65c_grow_92f84_33 : decode cJx4a65c_grow_92f84 33 = .ok (.getfield 9, 3) := by decide +kernel
theorem dJx4a65c_grow_92f84_36 : decode cJx4a65c_grow_92f84 36 = .ok (.iload_n 3, 1) := by decide +kernel
theorem dJx4a65c_grow_92f84_37 : decode cJx4a65c_grow_92f84 37 = .ok (.invokestatic 66, 3) := by decide +kernel
theorem dJx4a65c_grow_92f84_40 : decode cJx4a65c_grow_92f84 40 = .ok (.dup_x1, 1) := by decide +kernel
theorem dJx4a65c_grow_92f84_41 : decode cJx4a65c_grow_92f84 41 = .ok (.putfield 9, 3) := by decide +kernel
theorem dJx4a65c_grow_92f84_44 : decode cJx4a65c_grow_92f84 44 = .ok (.areturn, 1) := by decide +kernel
theorem dJx4a65c_grow_92f84_45 : decode cJx4a65c_grow_92f84 45 = .ok (.aload_n 0, 1) := by decide +kernel
theorem dJx4a65c_grow_92f84_46 : decode cJx4a65c_grow_92f84 46 = .ok (.bipush 10, 2) := by decide +kernel
theorem dJx4a65c_grow_92f84_48 : decode cJx4a65c_grow_92f84 48 = .ok (.iload_n 1, 1) := by decide +kernel
theorem dJx4a65c_grow_92f84_49 : decode cJx4a65c_grow_92f84 49 = .ok (.invokestatic 79, 3) := by decide +kernel
theorem dJx4a65c_grow_92f84_52 : decode cJx4a65c_grow_92f84 52 = .ok (.anewarray 7, 3) := by decide +kernel
theorem dJx4a65c_grow_92f84_55 : decode cJx4a65c_grow_92f84 55 = .ok (.dup_x1, 1) := by decide +kernel
theorem dJx4a65c_grow_92f84_56 : decode cJx4a65c_grow_92f84 56 = .ok (.putfield 9, 3) := by decide +kernel
theorem dJx4a65c_grow_92f84_59 : decode cJx4a65c_grow_92f84 59 = .ok (.areturn, 1) := by decide +kernel
theorem dJx4a65c_grow_d5877_0 : decode cJx4a65c_grow_d5877 0 = .ok (.aload_n 0, 1) := by decide +kernel
theorem dJx4a65c_grow_d5877_1 : decode cJx4a65c_grow_d5877 1 = .ok (.aload_n 0, 1) := by decide +kernel
theorem dJx4a65c_grow_d5877_2 : decode cJx4a65c_grow_d5877 2 = .ok (.getfield 48, 3) := by decide +kernel
theorem dJx4a65c_grow_d5877_5 : decode cJx4a65c_grow_d5877 5 = .ok (.iconst 1, 1) := by decide +kernel
theorem dJx4a65c_grow_d5877_6 : decode cJx4a65c_grow_d5877 6 = .ok (.iadd, 1) := by decide +kernel
theorem dJx4a65c_grow_d5877_7 : decode cJx4a65c_grow_d5877 7 = .ok (.invokevirtual 69, 3) := by decide +kernel
theorem dJx4a65c_grow_d5877_10 : decode cJx4a65c_grow_d5877 10 = .ok (.areturn, 1) := by decide +kernel
theorem dJx4a65c_size_8abf5_0 : decode cJx4a65c_size_8abf5 0 = .ok (.aload_n 0, 1) := by decide +kernel
theorem dJx4a65c_size_8abf5_1 : decode cJx4a65c_size_8abf5 1 = .ok (.getfield 48, 3) := by decide +kernel
theorem dJx4a65c_size_8abf5_4 : decode cJx4a65c_size_8abf5 4 = .ok (.ireturn, 1) := by decide +kernel
theorem dJx4a65c_elementData_915e3_0 : decode cJx4a65c_elementData_915e3 0 = .ok (.aload_n 0, 1) := by decide +kernel
theorem dJx4a65c_elementData_915e3_1 : decode cJx4a65c_elementData_915e3 1 = .ok (.getfield 9, 3) := by decide +kernel
theorem dJx4a65c_elementData_915e3_4 : decode cJx4a65c_elementData_915e3 4 = .ok (.iload_n 1, 1) := by decide +kernel
theorem dJx4a65c_elementData_915e3_5 : decode cJx4a65c_elementData_915e3 5 = .ok (.aaload, 1) := by decide +kernel
theorem dJx4a65c_elementData_915e3_6 : decode cJx4a65c_elementData_915e3 6 = .ok (.areturn, 1) := by decide +kernel
theorem dJx4a65c_get_915e3_0 : decode cJx4a65c_get_915e3 0 = .ok (.iload_n 1, 1) := by decide +kernel
theorem dJx4a65c_get_915e3_1 : decode cJx4a65c_get_915e3 1 = .ok (.aload_n 0, 1) := by decide +kernel
theorem dJx4a65c_get_915e3_2 : decode cJx4a65c_get_915e3 2 = .ok (.getfield 48, 3) := by decide +kernel
theorem dJx4a65c_get_915e3_5 : decode cJx4a65c_get_915e3 5 = .ok (.invokestatic 118, 3) := by decide +kernel
theorem dJx4a65c_get_915e3_8 : decode cJx4a65c_get_915e3 8 = .ok (.pop, 1) := by decide +kernel
theorem dJx4a65c_get_915e3_9 : decode cJx4a65c_get_915e3 9 = .ok (.aload_n 0, 1) := by decide +kernel
theorem dJx4a65c_get_915e3_10 : decode cJx4a65c_get_915e3 10 = .ok (.iload_n 1, 1) := by decide +kernel
theorem dJx4a65c_get_915e3_11 : decode cJx4a65c_get_915e3 11 = .ok (.invokevirtual 123, 3) := by decide +kernel
theorem dJx4a65c_get_915e3_14 : decode cJx4a65c_get_915e3 14 = .ok (.areturn, 1) := by decide +kernel
theorem dJx4a65c_add_7a177_0 : decode cJx4a65c_add_7a177 0 = .ok (.aload_n 0, 1) := by decide +kernel
theorem dJx4a65c_add_7a177_1 : decode cJx4a65c_add_7a177 1 = .ok (.iload_n 1, 1) := by decide +kernel
theorem dJx4a65c_add_7a177_2 : decode cJx4a65c_add_7a177 2 = .ok (.invokevirtual 135, 3) := by decide +kernel
theorem dJx4a65c_add_7a177_5 : decode cJx4a65c_add_7a177 5 = .ok (.aload_n 0, 1) := by decide +kernel
theorem dJx4a65c_add_7a177_6 : decode cJx4a65c_add_7a177 6 = .ok (.dup, 1) := by decide +kernel
theorem dJx4a65c_add_7a177_7 : decode cJx4a65c_add_7a177 7 = .ok (.getfield 63, 3) := by decide +kernel
theorem dJx4a65c_add_7a177_10 : decode cJx4a65c_add_7a177 10 = .ok (.iconst 1, 1) := by decide +kernel
theorem dJx4a65c_add_7a177_11 : decode cJx4a65c_add_7a177 11 = .ok (.iadd, 1) := by decide +kernel
end
section
theorem dJx4a65c_add_7a177_12 : decode cJx4a65c_add_7a177 12 = .ok (.putfield 63, 3) := by decide +kernel
theorem dJx4a65c_add_7a177_15 : decode cJx4a65c_add_7a177 15 = .ok (.aload_n 0, 1) := by decide +kernel
theorem dJx4a65c_add_7a177_16 : decode cJx4a65c_add_7a177 16 = .ok (.getfield 48, 3) := by decide +kernel
theorem dJx4a65c_add_7a177_19 : decode cJx4a65c_add_7a177 19 = .ok (.dup, 1) := by decide +kernel
theorem dJx4a65c_add_7a177_20 : decode cJx4a65c_add_7a177 20 = .ok (.istore_n 3, 1) := by decide +kernel
theorem dJx4a65c_add_7a177_21 : decode cJx4a65c_add_7a177 21 = .ok (.aload_n 0, 1) := by decide +kernel
theorem dJx4a65c_add_7a177_22 : decode cJx4a65c_add_7a177 22 = .ok (.getfield 9, 3) := by decide +kernel
theorem dJx4a65c_add_7a177_25 : decode cJx4a65c_add_7a177 25 = .ok (.dup, 1) := by decide +kernel
theorem dJx4a65c_add_7a177_26 : decode cJx4a65c_add_7a177 26 = .ok (.astore 4, 2) := by decide +kernel
theorem dJx4a65c_add_7a177_28 : decode cJx4a65c_add_7a177 28 = .ok (.arraylength, 1) := by decide +kernel
theorem dJx4a65c_add_7a177_29 : decode cJx4a65c_add_7a177 29 = .ok (.if_icmp .ne 9, 3) := by decide +kernel
theorem dJx4a65c_add_7a177_32 : decode cJx4a65c_add_7a177 32 = .ok (.aload_n 0, 1) := by decide +kernel
theorem dJx4a65c_add_7a177_33 : decode cJx4a65c_add_7a177 33 = .ok (.invokevirtual 129, 3) := by decide +kernel
theorem dJx4a65c_add_7a177_36 : decode cJx4a65c_add_7a177 36 = .ok (.astore 4, 2) := by decide +kernel
theorem dJx4a65c_add_7a177_38 : decode cJx4a65c_add_7a177 38 = .ok (.aload 4, 2) := by decide +kernel
theorem dJx4a65c_add_7a177_40 : decode cJx4a65c_add_7a177 40 = .ok (.iload_n 1, 1) := by decide +kernel
theorem dJx4a65c_add_7a177_41 : decode cJx4a65c_add_7a177 41 = .ok (.aload 4, 2) := by decide +kernel
theorem dJx4a65c_add_7a177_43 : decode cJx4a65c_add_7a177 43 = .ok (.iload_n 1, 1) := by decide +kernel
theorem dJx4a65c_add_7a177_44 : decode cJx4a65c_add_7a177 44 = .ok (.iconst 1, 1) := by decide +kernel
theorem dJx4a65c_add_7a177_45 : decode cJx4a65c_add_7a177 45 = .ok (.iadd, 1) := by decide +kernel
theorem dJx4a65c_add_7a177_46 : decode cJx4a65c_add_7a177 46 = .ok (.iload_n 3, 1) := by decide +kernel
theorem dJx4a65c_add_7a177_47 : decode cJx4a65c_add_7a177 47 = .ok (.iload_n 1, 1) := by decide +kernel
theorem dJx4a65c_add_7a177_48 : decode cJx4a65c_add_7a177 48 = .ok (.isub, 1) := by decide +kernel
theorem dJx4a65c_add_7a177_49 : decode cJx4a65c_add_7a177 49 = .ok (.invokestatic 112, 3) := by decide +kernel
theorem dJx4a65c_add_7a177_52 : decode cJx4a65c_add_7a177 52 = .ok (.aload 4, 2) := by decide +kernel
theorem dJx4a65c_add_7a177_54 : decode cJx4a65c_add_7a177 54 = .ok (.iload_n 1, 1) := by decide +kernel
theorem dJx4a65c_add_7a177_55 : decode cJx4a65c_add_7a177 55 = .ok (.aload_n 2, 1) := by decide +kernel
theorem dJx4a65c_add_7a177_56 : decode cJx4a65c_add_7a177 56 = .ok (.aastore, 1) := by decide +kernel
theorem dJx4a65c_add_7a177_57 : decode cJx4a65c_add_7a177 57 = .ok (.aload_n 0, 1) := by decide +kernel
theorem dJx4a65c_add_7a177_58 : decode cJx4a65c_add_7a177 58 = .ok (.iload_n 3, 1) := by decide +kernel
theorem dJx4a65c_add_7a177_59 : decode cJx4a65c_add_7a177 59 = .ok (.iconst 1, 1) := by decide +kernel
theorem dJx4a65c_add_7a177_60 : decode cJx4a65c_add_7a177 60 = .ok (.iadd, 1) := by decide +kernel
theorem dJx4a65c_add_7a177_61 : decode cJx4a65c_add_7a177 61 = .ok (.putfield 48, 3) := by decide +kernel
theorem dJx4a65c_add_7a177_64 : decode cJx4a65c_add_7a177 64 = .ok (.return_, 1) := by decide +kernel
theorem dJx4a65c_remove_915e3_0 : decode cJx4a65c_remove_915e3 0 = .ok (.iload_n 1, 1) := by decide +kernel
theorem dJx4a65c_remove_915e3_1 : decode cJx4a65c_remove_915e3 1 = .ok (.aload_n 0, 1) := by decide +kernel
theorem dJx4a65c_remove_915e3_2 : decode cJx4a65c_remove_915e3 2 = .ok (.getfield 48, 3) := by decide +kernel
theorem dJx4a65c_remove_915e3_5 : decode cJx4a65c_remove_915e3 5 = .ok (.invokestatic 118, 3) := by decide +kernel
theorem dJx4a65c_remove_915e3_8 : decode cJx4a65c_remove_915e3 8 = .ok (.pop, 1) := by decide +kernel
theorem dJx4a65c_remove_915e3_9 : decode cJx4a65c_remove_915e3 9 = .ok (.aload_n 0, 1) := by decide +kernel
theorem dJx4a65c_remove_915e3_10 : decode cJx4a65c_remove_915e3 10 = .ok (.getfield 9, 3) := by decide +kernel
theorem dJx4a65c_remove_915e3_13 : decode cJx4a65c_remove_915e3 13 = .ok (.astore_n 2, 1) := by decide +kernel
theorem dJx4a65c_remove_915e3_14 : decode cJx4a65c_remove_915e3 14 = .ok (.aload_n 2, 1) := by decide +kernel
theorem dJx4a65c_remove_915e3_15 : decode cJx4a65c_remove_915e3 15 = .ok (.iload_n 1, 1) := by decide +kernel
theorem dJx4a65c_remove_915e3_16 : decode cJx4a65c_remove_915e3 16 = .ok (.aaload, 1) := by decide +kernel
theorem dJx4a65c_remove_915e3_17 : decode cJx4a65c_remove_915e3 17 = .ok (.astore_n 3, 1) := by decide +kernel
theorem dJx4a65c_remove_915e3_18 : decode cJx4a65c_remove_915e3 18 = .ok (.aload_n 0, 1) := by decide +kernel
theorem dJx4a65c_remove_915e3_19 : decode cJx4a65c_remove_915e3 19 = .ok (.aload_n 2, 1) := by decide +kernel
theorem dJx4a65c_remove_915e3_20 : decode cJx4a65c_remove_915e3 20 = .ok (.iload_n 1, 1) := by decide +kernel
theorem dJx4a65c_remove_915e3_21 : decode cJx4a65c_remove_915e3 21 = .ok (.invokevirtual 144, 3) := by decide +kernel
theorem dJx4a65c_remove_915e3_24 : decode cJx4a65c_remove_915e3 24 = .ok (.aload_n 3, 1) := by decide +kernel
theorem dJx4a65c_remove_915e3_25 : decode cJx4a65c_remove_915e3 25 = .ok (.areturn, 1) := by decide +kernel
theorem dJx4a65c_fastRemove_b59b0_0 : decode cJx4a65c_fastRemove_b59b0 0 = .ok (.aload_n 0, 1) := by decide +kernel
theorem dJx4a65c_fastRemove_b59b0_1 : decode cJx4a65c_fastRemove_b59b0 1 = .ok (.dup, 1) := by decide +kernel
theorem dJx4a65c_fastRemove_b59b0_2 : decode cJx4a65c_fastRemove_b59b0 2 = .ok (.getfield 63, 3) := by decide +kernel
theorem dJx4a65c_fastRemove_b59b0_5 : decode cJx4a65c_fastRemove_b59b0 5 = .ok (.iconst 1, 1) := by decide +kernel
theorem dJx4a65c_fastRemove_b59b0_6 : decode cJx4a65c_fastRemove_b59b0 6 = .ok (.iadd, 1) := by decide +kernel
theorem dJx4a65c_fastRemove_b59b0_7 : decode cJx4a65c_fastRemove_b59b0 7 = .ok (.putfield 63, 3) := by decide +kernel
theorem dJx4a65c_fastRemove_b59b0_10 : decode cJx4a65c_fastRemove_b59b0 10 = .ok (.aload_n 0, 1) := by decide +kernel
theorem dJx4a65c_fastRemove_b59b0_11 : decode cJx4a65c_fastRemove_b59b0 11 = .ok (.getfield 48, 3) := by decide +kernel
theorem dJx4a65c_fastRemove_b59b0_14 : decode cJx4a65c_fastRemove_b59b0 14 = .ok (.iconst 1, 1) := by decide +kernel
theorem dJx4a65c_fastRemove_b59b0_15 : decode cJx4a65c_fastRemove_b59b0 15 = .ok (.isub, 1) := by decide +kernel
theorem dJx4a65c_fastRemove_b59b0_16 : decode cJx4a65c_fastRemove_b59b0 16 = .ok (.dup, 1) := by decide +kernel
theorem dJx4a65c_fastRemove_b59b0_17 : decode cJx4a65c_fastRemove_b59b0 17 = .ok (.istore_n 3, 1) := by decide +kernel
theorem dJx4a65c_fastRemove_b59b0_18 : decode cJx4a65c_fastRemove_b59b0 18 = .ok (.iload_n 2, 1) := by decide +kernel
theorem dJx4a65c_fastRemove_b59b0_19 : decode cJx4a65c_fastRemove_b59b0 19 = .ok (.if_icmp .le 15, 3) := by decide +kernel
theorem dJx4a65c_fastRemove_b59b0_22 : decode cJx4a65c_fastRemove_b59b0 22 = .ok (.aload_n 1, 1) := by decide +kernel
theorem dJx4a65c_fastRemove_b59b0_23 : decode cJx4a65c_fastRemove_b59b0 23 = .ok (.iload_n 2, 1) := by decide +kernel
theorem dJx4a65c_fastRemove_b59b0_24 : decode cJx4a65c_fastRemove_b59b0 24 = .ok (.iconst 1, 1) := by decide +kernel
theorem dJx4a65c_fastRemove_b59b0_25 : decode cJx4a65c_fastRemove_b59b0 25 = .ok (.iadd, 1) := by decide +kernel
theorem dJx4a65c_fastRemove_b59b0_26 : decode cJx4a65c_fastRemove_b59b0 26 = .ok (.aload_n 1, 1) := by decide +kernel
theorem dJx4a65c_fastRemove_b59b0_27 : decode cJx4a65c_fastRemove_b59b0 27 = .ok (.iload_n 2, 1) := by decide +kernel
theorem dJx4a65c_fastRemove_b59b0_28 : decode cJx4a65c_fastRemove_b59b0 28 = .ok (.iload_n 3, 1) := by decide +kernel
theorem dJx4a65c_fastRemove_b59b0_29 : decode cJx4a65c_fastRemove_b59b0 29 = .ok (.iload_n 2, 1) := by decide +kernel
theorem dJx4a65c_fastRemove_b59b0_30 : decode cJx4a65c_fastRemove_b59b0 30 = .ok (.isub, 1) := by decide +kernel
theorem dJx4a65c_fastRemove_b59b0_31 : decode cJx4a65c_fastRemove_b59b0 31 = .ok (.invokestatic 112, 3) := by decide +kernel
theorem dJx4a65c_fastRemove_b59b0_34 : decode cJx4a65c_fastRemove_b59b0 34 = .ok (.aload_n 1, 1) := by decide +kernel
theorem dJx4a65c_fastRemove_b59b0_35 : decode cJx4a65c_fastRemove_b59b0 35 = .ok (.aload_n 0, 1) := by decide +kernel
theorem dJx4a65c_fastRemove_b59b0_36 : decode cJx4a65c_fastRemove_b59b0 36 = .ok (.iload_n 3, 1) := by decide +kernel
theorem dJx4a65c_fastRemove_b59b0_37 : decode cJx4a65c_fastRemove_b59b0 37 = .ok (.dup_x1, 1) := by decide +kernel
theorem dJx4a65c_fastRemove_b59b0_38 : decode cJx4a65c_fastRemove_b59b0 38 = .ok (.putfield 48, 3) := by decide +kernel
theorem dJx4a65c_fastRemove_b59b0_41 : decode cJx4a65c_fastRemove_b59b0 41 = .ok (.aconst_null, 1) := by decide +kernel
theorem dJx4a65c_fastRemove_b59b0_42 : decode cJx4a65c_fastRemove_b59b0 42 = .ok (.aastore, 1) := by decide +kernel
theorem dJx4a65c_fastRemove_b59b0_43 : decode cJx4a65c_fastRemove_b59b0 43 = .ok (.return_, 1) := by decide +kernel
theorem dJx4a65c_clear_da8c8_0 : decode cJx4a65c_clear_da8c8 0 = .ok (.aload_n 0, 1) := by decide +kernel
theorem dJx4a65c_clear_da8c8_1 : decode cJx4a65c_clear_da8c8 1 = .ok (.dup, 1) := by decide +kernel
theorem dJx4a65c_clear_da8c8_2 : decode cJx4a65c_clear_da8c8 2 = .ok (.getfield 63, 3) := by decide +kernel
theorem dJx4a65c_clear_da8c8_5 : decode cJx4a65c_clear_da8c8 5 = .ok (.iconst 1, 1) := by decide +kernel
theorem dJx4a65c_clear_da8c8_6 : decode cJx4a65c_clear_da8c8 6 = .ok (.iadd, 1) := by decide +kernel
theorem dJx4a65c_clear_da8c8_7 : decode cJx4a65c_clear_da8c8 7 = .ok (.putfield 63, 3) := by decide +kernel
theorem dJx4a65c_clear_da8c8_10 : decode cJx4a65c_clear_da8c8 10 = .ok (.aload_n 0, 1) := by decide +kernel
theorem dJx4a65c_clear_da8c8_11 : decode cJx4a65c_clear_da8c8 11 = .ok (.getfield 9, 3) := by decide +kernel
theorem dJx4a65c_clear_da8c8_14 : decode cJx4a65c_clear_da8c8 14 = .ok (.astore_n 1, 1) := by decide +kernel
theorem dJx4a65c_clear_da8c8_15 : decode cJx4a65c_clear_da8c8 15 = .ok (.aload_n 0, 1) := by decide +kernel
theorem dJx4a65c_clear_da8c8_16 : decode cJx4a65c_clear_da8c8 16 = .ok (.getfield 48, 3) := by decide +kernel
theorem dJx4a65c_clear_da8c8_19 : decode cJx4a65c_clear_da8c8 19 = .ok (.istore_n 2, 1) := by decide +kernel
theorem dJx4a65c_clear_da8c8_20 : decode cJx4a65c_clear_da8c8 20 = .ok (.aload_n 0, 1) := by decide +kernel
theorem dJx4a65c_clear_da8c8_21 : decode cJx4a65c_clear_da8c8 21 = .ok (.iconst 0, 1) := by decide +kernel
theorem dJx4a65c_clear_da8c8_22 : decode cJx4a65c_clear_da8c8 22 = .ok (.dup_x1, 1) := by decide +kernel
theorem dJx4a65c_clear_da8c8_23 : decode cJx4a65c_clear_da8c8 23 = .ok (.putfield 48, 3) := by decide +kernel
theorem dJx4a65c_clear_da8c8_26 : decode cJx4a65c_clear_da8c8 26 = .ok (.istore_n 3, 1) := by decide +kernel
theorem dJx4a65c_clear_da8c8_27 : decode cJx4a65c_clear_da8c8 27 = .ok (.iload_n 3, 1) := by decide +kernel
theorem dJx4a65c_clear_da8c8_28 : decode cJx4a65c_clear_da8c8 28 = .ok (.iload_n 2, 1) := by decide +kernel
theorem dJx4a65c_clear_da8c8_29 : decode cJx4a65c_clear_da8c8 29 = .ok (.if_icmp .ge 13, 3) := by decide +kernel
theorem dJx4a65c_clear_da8c8_32 : decode cJx4a65c_clear_da8c8 32 = .ok (.aload_n 1, 1) := by decide +kernel
theorem dJx4a65c_clear_da8c8_33 : decode cJx4a65c_clear_da8c8 33 = .ok (.iload_n 3, 1) := by decide +kernel
theorem dJx4a65c_clear_da8c8_34 : decode cJx4a65c_clear_da8c8 34 = .ok (.aconst_null, 1) := by decide +kernel
theorem dJx4a65c_clear_da8c8_35 : decode cJx4a65c_clear_da8c8 35 = .ok (.aastore, 1) := by decide +kernel
theorem dJx4a65c_clear_da8c8_36 : decode cJx4a65c_clear_da8c8 36 = .ok (.iinc 3 1, 3) := by decide +kernel
theorem dJx4a65c_clear_da8c8_39 : decode cJx4a65c_clear_da8c8 39 = .ok (.goto (-12), 3) := by decide +kernel
theorem dJx4a65c_clear_da8c8_42 : decode cJx4a65c_clear_da8c8 42 = .ok (.return_, 1) := by decide +kernel
theorem dJx4a65c_rangeCheckForAdd_d00df_0 : decode cJx4a65c_rangeCheckForAdd_d00df 0 = .ok (.iload_n 1, 1) := by decide +kernel
theorem dJx4a65c_rangeCheckForAdd_d00df_1 : decode cJx4a65c_rangeCheckForAdd_d00df 1 = .ok (.aload_n 0, 1) := by decide +kernel
theorem dJx4a65c_rangeCheckForAdd_d00df_2 : decode cJx4a65c_rangeCheckForAdd_d00df 2 = .ok (.getfield 48, 3) := by decide +kernel
theorem dJx4a65c_rangeCheckForAdd_d00df_5 : decode cJx4a65c_rangeCheckForAdd_d00df 5 = .ok (.if_icmp .gt 7, 3) := by decide +kernel
theorem dJx4a65c_rangeCheckForAdd_d00df_8 : decode cJx4a65c_rangeCheckForAdd_d00df 8 = .ok (.iload_n 1, 1) := by decide +kernel
theorem dJx4a65c_rangeCheckForAdd_d00df_9 : decode cJx4a65c_rangeCheckForAdd_d00df 9 = .ok (.ifCond .ge 16, 3) := by decide +kernel
theorem dJx4a65c_rangeCheckForAdd_d00df_12 : decode cJx4a65c_rangeCheckForAdd_d00df 12 = .ok (.new 187, 3) := by decide +kernel
theorem dJx4a65c_rangeCheckForAdd_d00df_15 : decode cJx4a65c_rangeCheckForAdd_d00df 15 = .ok (.dup, 1) := by decide +kernel
theorem dJx4a65c_rangeCheckForAdd_d00df_16 : decode cJx4a65c_rangeCheckForAdd_d00df 16 = .ok (.aload_n 0, 1) := by decide +kernel
theorem dJx4a65c_rangeCheckForAdd_d00df_17 : decode cJx4a65c_rangeCheckForAdd_d00df 17 = .ok (.iload_n 1, 1) := by decide +kernel
theorem dJx4a65c_rangeCheckForAdd_d00df_18 : decode cJx4a65c_rangeCheckForAdd_d00df 18 = .ok (.invokevirtual 198, 3) := by decide +kernel
theorem dJx4a65c_rangeCheckForAdd_d00df_21 : decode cJx4a65c_rangeCheckForAdd_d00df 21 = .ok (.invokespecial 193, 3) := by decide +kernel
theorem dJx4a65c_rangeCheckForAdd_d00df_24 : decode cJx4a65c_rangeCheckForAdd_d00df 24 = .ok (.athrow, 1) := by decide +kernel
theorem dJx4a65c_rangeCheckForAdd_d00df_25 : decode cJx4a65c_rangeCheckForAdd_d00df 25 = .ok (.return_, 1) := by decide +kernel
theorem dJ7_copyOf_1904c_0 : decode cJ7_copyOf_1904c 0 = .ok (.aload_n 0, 1) := by decide +kernel
theorem dJ7_copyOf_1904c_1 : decode cJ7_copyOf_1904c 1 = .ok (.iload_n 1, 1) := by decide +kernel
theorem dJ7_copyOf_1904c_2 : decode cJ7_copyOf_1904c 2 = .ok (.aload_n 0, 1) := by decide +kernel
theorem dJ7_copyOf_1904c_3 : decode cJ7_copyOf_1904c 3 = .ok (.invokevirtual 86, 3) := by decide +kernel
theorem dJ7_copyOf_1904c_6 : decode cJ7_copyOf_1904c 6 = .ok (.invokestatic 300, 3) := by decide +kernel
theorem dJ7_copyOf_1904c_9 : decode cJ7_copyOf_1904c 9 = .ok (.areturn, 1) := by decide +kernel
theorem dJ7_copyOf_6403c_0 : decode cJ7_copyOf_6403c 0 = .ok (.aload_n 2, 1) := by decide +kernel
theorem dJ7_copyOf_6403c_1 : decode cJ7_copyOf_6403c 1 = .ok (.ldc 110, 2) := by decide +kernel
theorem dJ7_copyOf_6403c_3 : decode cJ7_copyOf_6403c 3 = .ok (.if_acmp .ne 10, 3) := by decide +kernel
theorem dJ7_copyOf_6403c_6 : decode cJ7_copyOf_6403c 6 = .ok (.iload_n 1, 1) := by decide +kernel
theorem dJ7_copyOf_6403c_7 : decode cJ7_copyOf_6403c 7 = .ok (.anewarray 2, 3) := by decide +kernel
theorem dJ7_copyOf_6403c_10 : decode cJ7_copyOf_6403c 10 = .ok (.goto 14, 3) := by decide +kernel
theorem dJ7_copyOf_6403c_13 : decode cJ7_copyOf_6403c 13 = .ok (.aload_n 2, 1) := by decide +kernel
theorem dJ7_copyOf_6403c_14 : decode cJ7_copyOf_6403c 14 = .ok (.invokevirtual 90, 3) := by decide +kernel
theorem dJ7_copyOf_6403c_17 : decode cJ7_copyOf_6403c 17 = .ok (.iload_n 1, 1) := by decide +kernel
theorem dJ7_copyOf_6403c_18 : decode cJ7_copyOf_6403c 18 = .ok (.invokestatic 95, 3) := by decide +kernel
theorem dJ7_copyOf_6403c_21 : decode cJ7_copyOf_6403c 21 = .ok (.checkcast 110, 3) := by decide +kernel
theorem dJ7_copyOf_6403c_24 : decode cJ7_copyOf_6403c 24 = .ok (.astore_n 3, 1) := by decide +kernel
theorem dJ7_copyOf_6403c_25 : decode cJ7_copyOf_6403c 25 = .ok (.aload_n 0, 1) := by decide +kernel
theorem dJ7_copyOf_6403c_26 : decode cJ7_copyOf_6403c 26 = .ok (.iconst 0, 1) := by decide +kernel
theorem dJ7_copyOf_6403c_27 : decode cJ7_copyOf_6403c 27 = .ok (.aload_n 3, 1) := by decide +kernel
theorem dJ7_copyOf_6403c_28 : decode cJ7_copyOf_6403c 28 = .ok (.iconst 0, 1) := by decide +kernel
theorem dJ7_copyOf_6403c_29 : decode cJ7_copyOf_6403c 29 = .ok (.aload_n 0, 1) := by decide +kernel
theorem dJ7_copyOf_6403c_30 : decode cJ7_copyOf_6403c 30 = .ok (.arraylength, 1) := by decide +kernel
theorem dJ7_copyOf_6403c_31 : decode cJ7_copyOf_6403c 31 = .ok (.iload_n 1, 1) := by decide +kernel
theorem dJ7_copyOf_6403c_32 : decode cJ7_copyOf_6403c 32 = .ok (.invokestatic 304, 3) := by decide +kernel
theorem dJ7_copyOf_6403c_35 : decode cJ7_copyOf_6403c 35 = .ok (.invokestatic 150, 3) := by decide +kernel
theorem dJ7_copyOf_6403c_38 : decode cJ7_copyOf_6403c 38 = .ok (.aload_n 3, 1) := by decide +kernel
theorem dJ7_copyOf_6403c_39 : decode cJ7_copyOf_6403c 39 = .ok (.areturn, 1) := by decide +kernel
theorem dJ15_checkIndex_7cf53_0 : decode cJ15_checkIndex_7cf53 0 = .ok (.iload_n 0, 1) := by decide +kernel
theorem dJ15_checkIndex_7cf53_1 : decode cJ15_checkIndex_7cf53 1 = .ok (.iload_n 1, 1) := by decide +kernel
theorem dJ15_checkIndex_7cf53_2 : decode cJ15_checkIndex_7cf53 2 = .ok (.aconst_null, 1) := by decide +kernel
theorem dJ15_checkIndex_7cf53_3 : decode cJ15_checkIndex_7cf53 3 = .ok (.invokestatic 105, 3) := by decide +kernel
theorem dJ15_checkIndex_7cf53_6 : decode cJ15_checkIndex_7cf53 6 = .ok (.ireturn, 1) := by decide +kernel
theorem dJ8_newLength_cabcc_0 : decode cJ8_newLength_cabcc 0 = .ok (.iload_n 0, 1) := by decide +kernel
theorem dJ8_newLength_cabcc_1 : decode cJ8_newLength_cabcc 1 = .ok (.iload_n 1, 1) := by decide +kernel
theorem dJ8_newLength_cabcc_2 : decode cJ8_newLength_cabcc 2 = .ok (.iload_n 2, 1) := by decide +kernel
theorem dJ8_newLength_cabcc_3 : decode cJ8_newLength_cabcc 3 = .ok (.invokestatic 194, 3) := by decide +kernel
theorem dJ8_newLength_cabcc_6 : decode cJ8_newLength_cabcc 6 = .ok (.iadd, 1) := by decide +kernel
theorem dJ8_newLength_cabcc_7 : decode cJ8_newLength_cabcc 7 = .ok (.istore_n 3, 1) := by decide +kernel
theorem dJ8_newLength_cabcc_8 : decode cJ8_newLength_cabcc 8 = .ok (.iconst 0, 1) := by decide +kernel
theorem dJ8_newLength_cabcc_9 : decode cJ8_newLength_cabcc 9 = .ok (.iload_n 3, 1) := by decide +kernel
theorem dJ8_newLength_cabcc_10 : decode cJ8_newLength_cabcc 10 = .ok (.if_icmp .ge 11, 3) := by decide +kernel
theorem dJ8_newLength_cabcc_13 : decode cJ8_newLength_cabcc 13 = .ok (.iload_n 3, 1) := by decide +kernel
theorem dJ8_newLength_cabcc_14 : decode cJ8_newLength_cabcc 14 = .ok (.ldc 200, 2) := by decide +kernel
theorem dJ8_newLength_cabcc_16 : decode cJ8_newLength_cabcc 16 = .ok (.if_icmp .gt 5, 3) := by decide +kernel
theorem dJ8_newLength_cabcc_19 : decode cJ8_newLength_cabcc 19 = .ok (.iload_n 3, 1) := by decide +kernel
theorem dJ8_newLength_cabcc_20 : decode cJ8_newLength_cabcc 20 = .ok (.ireturn, 1) := by decide +kernel
theorem dJ8_newLength_cabcc_21 : decode cJ8_newLength_cabcc 21 = .ok (.iload_n 0, 1) := by decide +kernel
theorem dJ8_newLength_cabcc_22 : decode cJ8_newLength_cabcc 22 = .ok (.iload_n 1, 1) := by decide +kernel
theorem dJ8_newLength_cabcc_23 : decode cJ8_newLength_cabcc 23 = .ok (.invokestatic 201, 3) := by decide +kernel
theorem dJ8_newLength_cabcc_26 : decode cJ8_newLength_cabcc 26 = .ok (.ireturn, 1) := by decide +kernel
theorem dJ8_hugeLength_7cf53_0 : decode cJ8_hugeLength_7cf53 0 = .ok (.iload_n 0, 1) := by decide +kernel
theorem dJ8_hugeLength_7cf53_1 : decode cJ8_hugeLength_7cf53 1 = .ok (.iload_n 1, 1) := by decide +kernel
theorem dJ8_hugeLength_7cf53_2 : decode cJ8_hugeLength_7cf53 2 = .ok (.iadd, 1) := by decide +kernel
theorem dJ8_hugeLength_7cf53_3 : decode cJ8_hugeLength_7cf53 3 = .ok (.istore_n 2, 1) := by decide +kernel
theorem dJ8_hugeLength_7cf53_4 : decode cJ8_hugeLength_7cf53 4 = .ok (.iload_n 2, 1) := by decide +kernel
theorem dJ8_hugeLength_7cf53_5 : decode cJ8_hugeLength_7cf53 5 = .ok (.ifCond .ge 44, 3) := by decide +kernel
theorem dJ8_hugeLength_7cf53_8 : decode cJ8_hugeLength_7cf53 8 = .ok (.new 204, 3) := by decide +kernel
theorem dJ8_hugeLength_7cf53_11 : decode cJ8_hugeLength_7cf53 11 = .ok (.dup, 1) := by decide +kernel
theorem dJ8_hugeLength_7cf53_12 : decode cJ8_hugeLength_7cf53 12 = .ok (.new 89, 3) := by decide +kernel
theorem dJ8_hugeLength_7cf53_15 : decode cJ8_hugeLength_7cf53 15 = .ok (.dup, 1) := by decide +kernel
theorem dJ8_hugeLength_7cf53_16 : decode cJ8_hugeLength_7cf53 16 = .ok (.invokespecial 91, 3) := by decide +kernel
theorem dJ8_hugeLength_7cf53_19 : decode cJ8_hugeLength_7cf53 19 = .ok (.ldc 206, 2) := by decide +kernel
theorem dJ8_hugeLength_7cf53_21 : decode cJ8_hugeLength_7cf53 21 = .ok (.invokevirtual 94, 3) := by decide +kernel
theorem dJ8_hugeLength_7cf53_24 : decode cJ8_hugeLength_7cf53 24 = .ok (.iload_n 0, 1) := by decide +kernel
theorem dJ8_hugeLength_7cf53_25 : decode cJ8_hugeLength_7cf53 25 = .ok (.invokevirtual 98, 3) := by decide +kernel
theorem dJ8_hugeLength_7cf53_28 : decode cJ8_hugeLength_7cf53 28 = .ok (.ldc 208, 2) := by decide +kernel
theorem dJ8_hugeLength_7cf53_30 : decode cJ8_hugeLength_7cf53 30 = .ok (.invokevirtual 94, 3) := by decide +kernel
theorem dJ8_hugeLength_7cf53_33 : decode cJ8_hugeLength_7cf53 33 = .ok (.iload_n 1, 1) := by decide +kernel
theorem dJ8_hugeLength_7cf53_34 : decode cJ8_hugeLength_7cf53 34 = .ok (.invokevirtual 98, 3) := by decide +kernel
theorem dJ8_hugeLength_7cf53_37 : decode cJ8_hugeLength_7cf53 37 = .ok (.ldc 210, 2) := by decide +kernel
theorem dJ8_hugeLength_7cf53_39 : decode cJ8_hugeLength_7cf53 39 = .ok (.invokevirtual 94, 3) := by decide +kernel
theorem dJ8_hugeLength_7cf53_42 : decode cJ8_hugeLength_7cf53 42 = .ok (.invokevirtual 101, 3) := by decide +kernel
theorem dJ8_hugeLength_7cf53_45 : decode cJ8_hugeLength_7cf53 45 = .ok (.invokespecial 212, 3) := by decide +kernel
theorem dJ8_hugeLength_7cf53_48 : decode cJ8_hugeLength_7cf53 48 = .ok (.athrow, 1) := by decide +kernel
theorem dJ8_hugeLength_7cf53_49 : decode cJ8_hugeLength_7cf53 49 = .ok (.iload_n 2, 1) := by decide +kernel
theorem dJ8_hugeLength_7cf53_50 : decode cJ8_hugeLength_7cf53 50 = .ok (.ldc 200, 2) := by decide +kernel
theorem dJ8_hugeLength_7cf53_52 : decode cJ8_hugeLength_7cf53 52 = .ok (.if_icmp .gt 6, 3) := by decide +kernel
theorem dJ8_hugeLength_7cf53_55 : decode cJ8_hugeLength_7cf53 55 = .ok (.ldc 200, 2) := by decide +kernel
theorem dJ8_hugeLength_7cf53_57 : decode cJ8_hugeLength_7cf53 57 = .ok (.ireturn, 1) := by decide +kernel
theorem dJ8_hugeLength_7cf53_58 : decode cJ8_hugeLength_7cf53 58 = .ok (.iload_n 2, 1) := by decide +kernel
theorem dJ8_hugeLength_7cf53_59 : decode cJ8_hugeLength_7cf53 59 = .ok (.ireturn, 1) := by decide +kernel
theorem dJ3_checkIndex_8e157_0 : decode cJ3_checkIndex_8e157 0 = .ok (.iload_n 0, 1) := by decide +kernel
theorem dJ3_checkIndex_8e157_1 : decode cJ3_checkIndex_8e157 1 = .ok (.ifCond .lt 8, 3) := by decide +kernel
theorem dJ3_checkIndex_8e157_4 : decode cJ3_checkIndex_8e157 4 = .ok (.iload_n 0, 1) := by decide +kernel
theorem dJ3_checkIndex_8e157_5 : decode cJ3_checkIndex_8e157 5 = .ok (.iload_n 1, 1) := by decide +kernel
theorem dJ3_checkIndex_8e157_6 : decode cJ3_checkIndex_8e157 6 = .ok (.if_icmp .lt 10, 3) := by decide +kernel
theorem dJ3_checkIndex_8e157_9 : decode cJ3_checkIndex_8e157 9 = .ok (.aload_n 2, 1) := by decide +kernel
theorem dJ3_checkIndex_8e157_10 : decode cJ3_checkIndex_8e157 10 = .ok (.iload_n 0, 1) := by decide +kernel
theorem dJ3_checkIndex_8e157_11 : decode cJ3_checkIndex_8e157 11 = .ok (.iload_n 1, 1) := by decide +kernel
theorem dJ3_checkIndex_8e157_12 : decode cJ3_checkIndex_8e157 12 = .ok (.invokestatic 95, 3) := by decide +kernel
theorem dJ3_checkIndex_8e157_15 : decode cJ3_checkIndex_8e157 15 = .ok (.athrow, 1) := by decide +kernel
theorem dJ3_checkIndex_8e157_16 : decode cJ3_checkIndex_8e157 16 = .ok (.iload_n 0, 1) := by decide +kernel
theorem dJ3_checkIndex_8e157_17 : decode cJ3_checkIndex_8e157 17 = .ok (.ireturn, 1) := by decide +kernel
theorem dL_law_0 : decode cL_law 0 = .ok (.new 7, 3) := by decide +kernel
theorem dL_law_3 : decode cL_law 3 = .ok (.dup, 1) := by decide +kernel
theorem dL_law_4 : decode cL_law 4 = .ok (.invokespecial 9, 3) := by decide +kernel
theorem dL_law_7 : decode cL_law 7 = .ok (.astore_n 1, 1) := by decide +kernel
theorem dL_law_8 : decode cL_law 8 = .ok (.new 10, 3) := by decide +kernel
theorem dL_law_11 : decode cL_law 11 = .ok (.dup, 1) := by decide +kernel
theorem dL_law_12 : decode cL_law 12 = .ok (.invokespecial 12, 3) := by decide +kernel
theorem dL_law_15 : decode cL_law 15 = .ok (.astore_n 2, 1) := by decide +kernel
theorem dL_law_16 : decode cL_law 16 = .ok (.iconst 0, 1) := by decide +kernel
theorem dL_law_17 : decode cL_law 17 = .ok (.istore_n 3, 1) := by decide +kernel
theorem dL_law_18 : decode cL_law 18 = .ok (.iload_n 3, 1) := by decide +kernel
theorem dL_law_19 : decode cL_law 19 = .ok (.aload_n 0, 1) := by decide +kernel
theorem dL_law_20 : decode cL_law 20 = .ok (.arraylength, 1) := by decide +kernel
theorem dL_law_21 : decode cL_law 21 = .ok (.iconst 5, 1) := by decide +kernel
theorem dL_law_22 : decode cL_law 22 = .ok (.isub, 1) := by decide +kernel
theorem dL_law_23 : decode cL_law 23 = .ok (.if_icmp .gt 665, 3) := by decide +kernel
theorem dL_law_26 : decode cL_law 26 = .ok (.aload_n 0, 1) := by decide +kernel
theorem dL_law_27 : decode cL_law 27 = .ok (.iload_n 3, 1) := by decide +kernel
theorem dL_law_28 : decode cL_law 28 = .ok (.iaload, 1) := by decide +kernel
theorem dL_law_29 : decode cL_law 29 = .ok (.bipush 31, 2) := by decide +kernel
theorem dL_law_31 : decode cL_law 31 = .ok (.iand, 1) := by decide +kernel
theorem dL_law_32 : decode cL_law 32 = .ok (.tableswitch 650 0 21 #[104, 137, 160, 173, 196, 219, 252, 285, 308, 331, 344, 377, 400, 413, 426, 439, 462, 505, 558, 581, 614, 637], 104) := by decide +kernel
theorem dL_law_136 : decode cL_law 136 = .ok (.aload_n 1, 1) := by decide +kernel
theorem dL_law_137 : decode cL_law 137 = .ok (.aload_n 0, 1) := by decide +kernel
theorem dL_law_138 : decode cL_law 138 = .ok (.iload_n 3, 1) := by decide +kernel
theorem dL_law_139 : decode cL_law 139 = .ok (.iconst 1, 1) := by decide +kernel
theorem dL_law_140 : decode cL_law 140 = .ok (.iadd, 1) := by decide +kernel
theorem dL_law_141 : decode cL_law 141 = .ok (.iaload, 1) := by decide +kernel
theorem dL_law_142 : decode cL_law 142 = .ok (.aload_n 0, 1) := by decide +kernel
theorem dL_law_143 : decode cL_law 143 = .ok (.iload_n 3, 1) := by decide +kernel
theorem dL_law_144 : decode cL_law 144 = .ok (.iconst 2, 1) := by decide +kernel
theorem dL_law_145 : decode cL_law 145 = .ok (.iadd, 1) := by decide +kernel
theorem dL_law_146 : decode cL_law 146 = .ok (.iaload, 1) := by decide +kernel
theorem dL_law_147 : decode cL_law 147 = .ok (.invokevirtual 13, 3) := by decide +kernel
theorem dL_law_150 : decode cL_law 150 = .ok (.aload_n 2, 1) := by decide +kernel
theorem dL_law_151 : decode cL_law 151 = .ok (.aload_n 0, 1) := by decide +kernel
theorem dL_law_152 : decode cL_law 152 = .ok (.iload_n 3, 1) := by decide +kernel
theorem dL_law_153 : decode cL_law 153 = .ok (.iconst 1, 1) := by decide +kernel
theorem dL_law_154 : decode cL_law 154 = .ok (.iadd, 1) := by decide +kernel
theorem dL_law_155 : decode cL_law 155 = .ok (.iaload, 1) := by decide +kernel
theorem dL_law_156 : decode cL_law 156 = .ok (.aload_n 0, 1) := by decide +kernel
theorem dL_law_157 : decode cL_law 157 = .ok (.iload_n 3, 1) := by decide +kernel
theorem dL_law_158 : decode cL_law 158 = .ok (.iconst 2, 1) := by decide +kernel
theorem dL_law_159 : decode cL_law 159 = .ok (.iadd, 1) := by decide +kernel
theorem dL_law_160 : decode cL_law 160 = .ok (.iaload, 1) := by decide +kernel
theorem dL_law_161 : decode cL_law 161 = .ok (.invokevirtual 17, 3) := by decide +kernel
theorem dL_law_164 : decode cL_law 164 = .ok (.if_icmp .eq 518, 3) := by decide +kernel
theorem dL_law_167 : decode cL_law 167 = .ok (.iconst 0, 1) := by decide +kernel
theorem dL_law_168 : decode cL_law 168 = .ok (.ireturn, 1) := by decide +kernel
theorem dL_law_169 : decode cL_law 169 = .ok (.aload_n 1, 1) := by decide +kernel
theorem dL_law_170 : decode cL_law 170 = .ok (.aload_n 0, 1) := by decide +kernel
theorem dL_law_171 : decode cL_law 171 = .ok (.iload_n 3, 1) := by decide +kernel
theorem dL_law_172 : decode cL_law 172 = .ok (.iconst 1, 1) := by decide +kernel
theorem dL_law_173 : decode cL_law 173 = .ok (.iadd, 1) := by decide +kernel
theorem dL_law_174 : decode cL_law 174 = .ok (.iaload, 1) := by decide +kernel
theorem dL_law_175 : decode cL_law 175 = .ok (.invokevirtual 18, 3) := by decide +kernel
theorem dL_law_178 : decode cL_law 178 = .ok (.aload_n 2, 1) := by decide +kernel
theorem dL_law_179 : decode cL_law 179 = .ok (.aload_n 0, 1) := by decide +kernel
theorem dL_law_180 : decode cL_law 180 = .ok (.iload_n 3, 1) := by decide +kernel
theorem dL_law_181 : decode cL_law 181 = .ok (.iconst 1, 1) := by decide +kernel
theorem dL_law_182 : decode cL_law 182 = .ok (.iadd, 1) := by decide +kernel
theorem dL_law_183 : decode cL_law 183 = .ok (.iaload, 1) := by decide +kernel
theorem dL_law_184 : decode cL_law 184 = .ok (.invokevirtual 22, 3) := by decide +kernel
theorem dL_law_187 : decode cL_law 187 = .ok (.if_icmp .eq 495, 3) := by decide +kernel
theorem dL_law_190 : decode cL_law 190 = .ok (.iconst 0, 1) := by decide +kernel
theorem dL_law_191 : decode cL_law 191 = .ok (.ireturn, 1) := by decide +kernel
theorem dL_law_192 : decode cL_law 192 = .ok (.aload_n 1, 1) := by decide +kernel
theorem dL_law_193 : decode cL_law 193 = .ok (.invokevirtual 23, 3) := by decide +kernel
theorem dL_law_196 : decode cL_law 196 = .ok (.aload_n 2, 1) := by decide +kernel
theorem dL_law_197 : decode cL_law 197 = .ok (.invokevirtual 27, 3) := by decide +kernel
theorem dL_law_200 : decode cL_law 200 = .ok (.if_icmp .eq 482, 3) := by decide +kernel
theorem dL_law_203 : decode cL_law 203 = .ok (.iconst 0, 1) := by decide +kernel
theorem dL_law_204 : decode cL_law 204 = .ok (.ireturn, 1) := by decide +kernel
theorem dL_law_205 : decode cL_law 205 = .ok (.aload_n 1, 1) := by decide +kernel
theorem dL_law_206 : decode cL_law 206 = .ok (.aload_n 0, 1) := by decide +kernel
theorem dL_law_207 : decode cL_law 207 = .ok (.iload_n 3, 1) := by decide +kernel
theorem dL_law_208 : decode cL_law 208 = .ok (.iconst 1, 1) := by decide +kernel
theorem dL_law_209 : decode cL_law 209 = .ok (.iadd, 1) := by decide +kernel
theorem dL_law_210 : decode cL_law 210 = .ok (.iaload, 1) := by decide +kernel
theorem dL_law_211 : decode cL_law 211 = .ok (.invokevirtual 28, 3) := by decide +kernel
theorem dL_law_214 : decode cL_law 214 = .ok (.aload_n 2, 1) := by decide +kernel
theorem dL_law_215 : decode cL_law 215 = .ok (.aload_n 0, 1) := by decide +kernel
theorem dL_law_216 : decode cL_law 216 = .ok (.iload_n 3, 1) := by decide +kernel
theorem dL_law_217 : decode cL_law 217 = .ok (.iconst 1, 1) := by decide +kernel
theorem dL_law_218 : decode cL_law 218 = .ok (.iadd, 1) := by decide +kernel
theorem dL_law_219 : decode cL_law 219 = .ok (.iaload, 1) := by decide +kernel
theorem dL_law_220 : decode cL_law 220 = .ok (.invokevirtual 31, 3) := by decide +kernel
theorem dL_law_223 : decode cL_law 223 = .ok (.if_icmp .eq 459, 3) := by decide +kernel
theorem dL_law_226 : decode cL_law 226 = .ok (.iconst 0, 1) := by decide +kernel
theorem dL_law_227 : decode cL_law 227 = .ok (.ireturn, 1) := by decide +kernel
theorem dL_law_228 : decode cL_law 228 = .ok (.aload_n 1, 1) := by decide +kernel
theorem dL_law_229 : decode cL_law 229 = .ok (.aload_n 0, 1) := by decide +kernel
theorem dL_law_230 : decode cL_law 230 = .ok (.iload_n 3, 1) := by decide +kernel
theorem dL_law_231 : decode cL_law 231 = .ok (.iconst 1, 1) := by decide +kernel
theorem dL_law_232 : decode cL_law 232 = .ok (.iadd, 1) := by decide +kernel
theorem dL_law_233 : decode cL_law 233 = .ok (.iaload, 1) := by decide +kernel
theorem dL_law_234 : decode cL_law 234 = .ok (.invokevirtual 32, 3) := by decide +kernel
theorem dL_law_237 : decode cL_law 237 = .ok (.aload_n 2, 1) := by decide +kernel
theorem dL_law_238 : decode cL_law 238 = .ok (.aload_n 0, 1) := by decide +kernel
theorem dL_law_239 : decode cL_law 239 = .ok (.iload_n 3, 1) := by decide +kernel
theorem dL_law_240 : decode cL_law 240 = .ok (.iconst 1, 1) := by decide +kernel
theorem dL_law_241 : decode cL_law 241 = .ok (.iadd, 1) := by decide +kernel
theorem dL_law_242 : decode cL_law 242 = .ok (.iaload, 1) := by decide +kernel
theorem dL_law_243 : decode cL_law 243 = .ok (.invokevirtual 35, 3) := by decide +kernel
theorem dL_law_246 : decode cL_law 246 = .ok (.if_icmp .eq 436, 3) := by decide +kernel
theorem dL_law_249 : decode cL_law 249 = .ok (.iconst 0, 1) := by decide +kernel
theorem dL_law_250 : decode cL_law 250 = .ok (.ireturn, 1) := by decide +kernel
theorem dL_law_251 : decode cL_law 251 = .ok (.aload_n 1, 1) := by decide +kernel
theorem dL_law_252 : decode cL_law 252 = .ok (.aload_n 0, 1) := by decide +kernel
theorem dL_law_253 : decode cL_law 253 = .ok (.iload_n 3, 1) := by decide +kernel
theorem dL_law_254 : decode cL_law 254 = .ok (.iconst 1, 1) := by decide +kernel
theorem dL_law_255 : decode cL_law 255 = .ok (.iadd, 1) := by decide +kernel
theorem dL_law_256 : decode cL_law 256 = .ok (.iaload, 1) := by decide +kernel
theorem dL_law_257 : decode cL_law 257 = .ok (.aload_n 0, 1) := by decide +kernel
theorem dL_law_258 : decode cL_law 258 = .ok (.iload_n 3, 1) := by decide +kernel
theorem dL_law_259 : decode cL_law 259 = .ok (.iconst 2, 1) := by decide +kernel
theorem dL_law_260 : decode cL_law 260 = .ok (.iadd, 1) := by decide +kernel
theorem dL_law_261 : decode cL_law 261 = .ok (.iaload, 1) := by decide +kernel
theorem dL_law_262 : decode cL_law 262 = .ok (.invokevirtual 36, 3) := by decide +kernel
theorem dL_law_265 : decode cL_law 265 = .ok (.aload_n 2, 1) := by decide +kernel
theorem dL_law_266 : decode cL_law 266 = .ok (.aload_n 0, 1) := by decide +kernel
theorem dL_law_267 : decode cL_law 267 = .ok (.iload_n 3, 1) := by decide +kernel
theorem dL_law_268 : decode cL_law 268 = .ok (.iconst 1, 1) := by decide +kernel
theorem dL_law_269 : decode cL_law 269 = .ok (.iadd, 1) := by decide +kernel
theorem dL_law_270 : decode cL_law 270 = .ok (.iaload, 1) := by decide +kernel
theorem dL_law_271 : decode cL_law 271 = .ok (.aload_n 0, 1) := by decide +kernel
theorem dL_law_272 : decode cL_law 272 = .ok (.iload_n 3, 1) := by decide +kernel
theorem dL_law_273 : decode cL_law 273 = .ok (.iconst 2, 1) := by decide +kernel
theorem dL_law_274 : decode cL_law 274 = .ok (.iadd, 1) := by decide +kernel
theorem dL_law_275 : decode cL_law 275 = .ok (.iaload, 1) := by decide +kernel
theorem dL_law_276 : decode cL_law 276 = .ok (.invokevirtual 39, 3) := by decide +kernel
theorem dL_law_279 : decode cL_law 279 = .ok (.if_icmp .eq 403, 3) := by decide +kernel
theorem dL_law_282 : decode cL_law 282 = .ok (.iconst 0, 1) := by decide +kernel
theorem dL_law_283 : decode cL_law 283 = .ok (.ireturn, 1) := by decide +kernel
theorem dL_law_284 : decode cL_law 284 = .ok (.aload_n 1, 1) := by decide +kernel
theorem dL_law_285 : decode cL_law 285 = .ok (.aload_n 0, 1) := by decide +kernel
theorem dL_law_286 : decode cL_law 286 = .ok (.iload_n 3, 1) := by decide +kernel
theorem dL_law_287 : decode cL_law 287 = .ok (.iconst 1, 1) := by decide +kernel
theorem dL_law_288 : decode cL_law 288 = .ok (.iadd, 1) := by decide +kernel
theorem dL_law_289 : decode cL_law 289 = .ok (.iaload, 1) := by decide +kernel
theorem dL_law_290 : decode cL_law 290 = .ok (.aload_n 0, 1) := by decide +kernel
theorem dL_law_291 : decode cL_law 291 = .ok (.iload_n 3, 1) := by decide +kernel
theorem dL_law_292 : decode cL_law 292 = .ok (.iconst 2, 1) := by decide +kernel
theorem dL_law_293 : decode cL_law 293 = .ok (.iadd, 1) := by decide +kernel
theorem dL_law_294 : decode cL_law 294 = .ok (.iaload, 1) := by decide +kernel
theorem dL_law_295 : decode cL_law 295 = .ok (.invokevirtual 40, 3) := by decide +kernel
theorem dL_law_298 : decode cL_law 298 = .ok (.aload_n 2, 1) := by decide +kernel
theorem dL_law_299 : decode cL_law 299 = .ok (.aload_n 0, 1) := by decide +kernel
theorem dL_law_300 : decode cL_law 300 = .ok (.iload_n 3, 1) := by decide +kernel
theorem dL_law_301 : decode cL_law 301 = .ok (.iconst 1, 1) := by decide +kernel
theorem dL_law_302 : decode cL_law 302 = .ok (.iadd, 1) := by decide +kernel
theorem dL_law_303 : decode cL_law 303 = .ok (.iaload, 1) := by decide +kernel
theorem dL_law_304 : decode cL_law 304 = .ok (.aload_n 0, 1) := by decide +kernel
theorem dL_law_305 : decode cL_law 305 = .ok (.iload_n 3, 1) := by decide +kernel
theorem dL_law_306 : decode cL_law 306 = .ok (.iconst 2, 1) := by decide +kernel
theorem dL_law_307 : decode cL_law 307 = .ok (.iadd, 1) := by decide +kernel
theorem dL_law_308 : decode cL_law 308 = .ok (.iaload, 1) := by decide +kernel
theorem dL_law_309 : decode cL_law 309 = .ok (.invokevirtual 43, 3) := by decide +kernel
theorem dL_law_312 : decode cL_law 312 = .ok (.if_icmp .eq 370, 3) := by decide +kernel
theorem dL_law_315 : decode cL_law 315 = .ok (.iconst 0, 1) := by decide +kernel
theorem dL_law_316 : decode cL_law 316 = .ok (.ireturn, 1) := by decide +kernel
theorem dL_law_317 : decode cL_law 317 = .ok (.aload_n 1, 1) := by decide +kernel
theorem dL_law_318 : decode cL_law 318 = .ok (.aload_n 0, 1) := by decide +kernel
theorem dL_law_319 : decode cL_law 319 = .ok (.iload_n 3, 1) := by decide +kernel
theorem dL_law_320 : decode cL_law 320 = .ok (.iconst 1, 1) := by decide +kernel
theorem dL_law_321 : decode cL_law 321 = .ok (.iadd, 1) := by decide +kernel
theorem dL_law_322 : decode cL_law 322 = .ok (.iaload, 1) := by decide +kernel
theorem dL_law_323 : decode cL_law 323 = .ok (.invokevirtual 44, 3) := by decide +kernel
theorem dL_law_326 : decode cL_law 326 = .ok (.aload_n 2, 1) := by decide +kernel
theorem dL_law_327 : decode cL_law 327 = .ok (.aload_n 0, 1) := by decide +kernel
theorem dL_law_328 : decode cL_law 328 = .ok (.iload_n 3, 1) := by decide +kernel
theorem dL_law_329 : decode cL_law 329 = .ok (.iconst 1, 1) := by decide +kernel
theorem dL_law_330 : decode cL_law 330 = .ok (.iadd, 1) := by decide +kernel
theorem dL_law_331 : decode cL_law 331 = .ok (.iaload, 1) := by decide +kernel
theorem dL_law_332 : decode cL_law 332 = .ok (.invokevirtual 47, 3) := by decide +kernel
theorem dL_law_335 : decode cL_law 335 = .ok (.if_icmp .eq 347, 3) := by decide +kernel
theorem dL_law_338 : decode cL_law 338 = .ok (.iconst 0, 1) := by decide +kernel
theorem dL_law_339 : decode cL_law 339 = .ok (.ireturn, 1) := by decide +kernel
theorem dL_law_340 : decode cL_law 340 = .ok (.aload_n 1, 1) := by decide +kernel
theorem dL_law_341 : decode cL_law 341 = .ok (.aload_n 0, 1) := by decide +kernel
theorem dL_law_342 : decode cL_law 342 = .ok (.iload_n 3, 1) := by decide +kernel
theorem dL_law_343 : decode cL_law 343 = .ok (.iconst 1, 1) := by decide +kernel
theorem dL_law_344 : decode cL_law 344 = .ok (.iadd, 1) := by decide +kernel
theorem dL_law_345 : decode cL_law 345 = .ok (.iaload, 1) := by decide +kernel
theorem dL_law_346 : decode cL_law 346 = .ok (.invokevirtual 48, 3) := by decide +kernel
theorem dL_law_349 : decode cL_law 349 = .ok (.aload_n 2, 1) := by decide +kernel
theorem dL_law_350 : decode cL_law 350 = .ok (.aload_n 0, 1) := by decide +kernel
theorem dL_law_351 : decode cL_law 351 = .ok (.iload_n 3, 1) := by decide +kernel
theorem dL_law_352 : decode cL_law 352 = .ok (.iconst 1, 1) := by decide +kernel
theorem dL_law_353 : decode cL_law 353 = .ok (.iadd, 1) := by decide +kernel
theorem dL_law_354 : decode cL_law 354 = .ok (.iaload, 1) := by decide +kernel
theorem dL_law_355 : decode cL_law 355 = .ok (.invokevirtual 51, 3) := by decide +kernel
theorem dL_law_358 : decode cL_law 358 = .ok (.if_icmp .eq 324, 3) := by decide +kernel
theorem dL_law_361 : decode cL_law 361 = .ok (.iconst 0, 1) := by decide +kernel
theorem dL_law_362 : decode cL_law 362 = .ok (.ireturn, 1) := by decide +kernel
theorem dL_law_363 : decode cL_law 363 = .ok (.aload_n 1, 1) := by decide +kernel
theorem dL_law_364 : decode cL_law 364 = .ok (.invokevirtual 52, 3) := by decide +kernel
theorem dL_law_367 : decode cL_law 367 = .ok (.aload_n 2, 1) := by decide +kernel
theorem dL_law_368 : decode cL_law 368 = .ok (.invokevirtual 55, 3) := by decide +kernel
theorem dL_law_371 : decode cL_law 371 = .ok (.if_icmp .eq 311, 3) := by decide +kernel
theorem dL_law_374 : decode cL_law 374 = .ok (.iconst 0, 1) := by decide +kernel
theorem dL_law_375 : decode cL_law 375 = .ok (.ireturn, 1) := by decide +kernel
theorem dL_law_376 : decode cL_law 376 = .ok (.aload_n 1, 1) := by decide +kernel
theorem dL_law_377 : decode cL_law 377 = .ok (.aload_n 0, 1) := by decide +kernel
theorem dL_law_378 : decode cL_law 378 = .ok (.iload_n 3, 1) := by decide +kernel
theorem dL_law_379 : decode cL_law 379 = .ok (.iconst 1, 1) := by decide +kernel
theorem dL_law_380 : decode cL_law 380 = .ok (.iadd, 1) := by decide +kernel
theorem dL_law_381 : decode cL_law 381 = .ok (.iaload, 1) := by decide +kernel
theorem dL_law_382 : decode cL_law 382 = .ok (.aload_n 0, 1) := by decide +kernel
theorem dL_law_383 : decode cL_law 383 = .ok (.iload_n 3, 1) := by decide +kernel
theorem dL_law_384 : decode cL_law 384 = .ok (.iconst 2, 1) := by decide +kernel
theorem dL_law_385 : decode cL_law 385 = .ok (.iadd, 1) := by decide +kernel
theorem dL_law_386 : decode cL_law 386 = .ok (.iaload, 1) := by decide +kernel
theorem dL_law_387 : decode cL_law 387 = .ok (.invokevirtual 56, 3) := by decide +kernel
theorem dL_law_390 : decode cL_law 390 = .ok (.aload_n 2, 1) := by decide +kernel
theorem dL_law_391 : decode cL_law 391 = .ok (.aload_n 0, 1) := by decide +kernel
theorem dL_law_392 : decode cL_law 392 = .ok (.iload_n 3, 1) := by decide +kernel
theorem dL_law_393 : decode cL_law 393 = .ok (.iconst 1, 1) := by decide +kernel
theorem dL_law_394 : decode cL_law 394 = .ok (.iadd, 1) := by decide +kernel
theorem dL_law_395 : decode cL_law 395 = .ok (.iaload, 1) := by decide +kernel
theorem dL_law_396 : decode cL_law 396 = .ok (.aload_n 0, 1) := by decide +kernel
theorem dL_law_397 : decode cL_law 397 = .ok (.iload_n 3, 1) := by decide +kernel
theorem dL_law_398 : decode cL_law 398 = .ok (.iconst 2, 1) := by decide +kernel
theorem dL_law_399 : decode cL_law 399 = .ok (.iadd, 1) := by decide +kernel
theorem dL_law_400 : decode cL_law 400 = .ok (.iaload, 1) := by decide +kernel
theorem dL_law_401 : decode cL_law 401 = .ok (.invokevirtual 59, 3) := by decide +kernel
theorem dL_law_404 : decode cL_law 404 = .ok (.if_icmp .eq 278, 3) := by decide +kernel
theorem dL_law_407 : decode cL_law 407 = .ok (.iconst 0, 1) := by decide +kernel
theorem dL_law_408 : decode cL_law 408 = .ok (.ireturn, 1) := by decide +kernel
theorem dL_law_409 : decode cL_law 409 = .ok (.aload_n 1, 1) := by decide +kernel
theorem dL_law_410 : decode cL_law 410 = .ok (.aload_n 0, 1) := by decide +kernel
theorem dL_law_411 : decode cL_law 411 = .ok (.iload_n 3, 1) := by decide +kernel
theorem dL_law_412 : decode cL_law 412 = .ok (.iconst 1, 1) := by decide +kernel
theorem dL_law_413 : decode cL_law 413 = .ok (.iadd, 1) := by decide +kernel
theorem dL_law_414 : decode cL_law 414 = .ok (.iaload, 1) := by decide +kernel
theorem dL_law_415 : decode cL_law 415 = .ok (.invokevirtual 60, 3) := by decide +kernel
theorem dL_law_418 : decode cL_law 418 = .ok (.aload_n 2, 1) := by decide +kernel
theorem dL_law_419 : decode cL_law 419 = .ok (.aload_n 0, 1) := by decide +kernel
theorem dL_law_420 : decode cL_law 420 = .ok (.iload_n 3, 1) := by decide +kernel
theorem dL_law_421 : decode cL_law 421 = .ok (.iconst 1, 1) := by decide +kernel
theorem dL_law_422 : decode cL_law 422 = .ok (.iadd, 1) := by decide +kernel
theorem dL_law_423 : decode cL_law 423 = .ok (.iaload, 1) := by decide +kernel
theorem dL_law_424 : decode cL_law 424 = .ok (.invokevirtual 63, 3) := by decide +kernel
theorem dL_law_427 : decode cL_law 427 = .ok (.if_icmp .eq 255, 3) := by decide +kernel
theorem dL_law_430 : decode cL_law 430 = .ok (.iconst 0, 1) := by decide +kernel
theorem dL_law_431 : decode cL_law 431 = .ok (.ireturn, 1) := by decide +kernel
theorem dL_law_432 : decode cL_law 432 = .ok (.aload_n 1, 1) := by decide +kernel
theorem dL_law_433 : decode cL_law 433 = .ok (.invokevirtual 64, 3) := by decide +kernel
theorem dL_law_436 : decode cL_law 436 = .ok (.aload_n 2, 1) := by decide +kernel
theorem dL_law_437 : decode cL_law 437 = .ok (.invokevirtual 67, 3) := by decide +kernel
theorem dL_law_440 : decode cL_law 440 = .ok (.if_icmp .eq 242, 3) := by decide +kernel
theorem dL_law_443 : decode cL_law 443 = .ok (.iconst 0, 1) := by decide +kernel
theorem dL_law_444 : decode cL_law 444 = .ok (.ireturn, 1) := by decide +kernel
theorem dL_law_445 : decode cL_law 445 = .ok (.aload_n 1, 1) := by decide +kernel
theorem dL_law_446 : decode cL_law 446 = .ok (.invokevirtual 68, 3) := by decide +kernel
theorem dL_law_449 : decode cL_law 449 = .ok (.aload_n 2, 1) := by decide +kernel
theorem dL_law_450 : decode cL_law 450 = .ok (.invokevirtual 71, 3) := by decide +kernel
theorem dL_law_453 : decode cL_law 453 = .ok (.if_icmp .eq 229, 3) := by decide +kernel
theorem dL_law_456 : decode cL_law 456 = .ok (.iconst 0, 1) := by decide +kernel
theorem dL_law_457 : decode cL_law 457 = .ok (.ireturn, 1) := by decide +kernel
theorem dL_law_458 : decode cL_law 458 = .ok (.aload_n 1, 1) := by decide +kernel
theorem dL_law_459 : decode cL_law 459 = .ok (.invokevirtual 72, 3) := by decide +kernel
theorem dL_law_462 : decode cL_law 462 = .ok (.aload_n 2, 1) := by decide +kernel
theorem dL_law_463 : decode cL_law 463 = .ok (.invokevirtual 75, 3) := by decide +kernel
theorem dL_law_466 : decode cL_law 466 = .ok (.if_icmp .eq 216, 3) := by decide +kernel
theorem dL_law_469 : decode cL_law 469 = .ok (.iconst 0, 1) := by decide +kernel
theorem dL_law_470 : decode cL_law 470 = .ok (.ireturn, 1) := by decide +kernel
theorem dL_law_471 : decode cL_law 471 = .ok (.aload_n 1, 1) := by decide +kernel
theorem dL_law_472 : decode cL_law 472 = .ok (.aload_n 0, 1) := by decide +kernel
theorem dL_law_473 : decode cL_law 473 = .ok (.iload_n 3, 1) := by decide +kernel
theorem dL_law_474 : decode cL_law 474 = .ok (.iconst 1, 1) := by decide +kernel
theorem dL_law_475 : decode cL_law 475 = .ok (.iadd, 1) := by decide +kernel
theorem dL_law_476 : decode cL_law 476 = .ok (.iaload, 1) := by decide +kernel
theorem dL_law_477 : decode cL_law 477 = .ok (.invokevirtual 76, 3) := by decide +kernel
theorem dL_law_480 : decode cL_law 480 = .ok (.aload_n 2, 1) := by decide +kernel
theorem dL_law_481 : decode cL_law 481 = .ok (.aload_n 0, 1) := by decide +kernel
theorem dL_law_482 : decode cL_law 482 = .ok (.iload_n 3, 1) := by decide +kernel
theorem dL_law_483 : decode cL_law 483 = .ok (.iconst 1, 1) := by decide +kernel
theorem dL_law_484 : decode cL_law 484 = .ok (.iadd, 1) := by decide +kernel
theorem dL_law_485 : decode cL_law 485 = .ok (.iaload, 1) := by decide +kernel
theorem dL_law_486 : decode cL_law 486 = .ok (.invokevirtual 79, 3) := by decide +kernel
theorem dL_law_489 : decode cL_law 489 = .ok (.if_icmp .eq 193, 3) := by decide +kernel
theorem dL_law_492 : decode cL_law 492 = .ok (.iconst 0, 1) := by decide +kernel
theorem dL_law_493 : decode cL_law 493 = .ok (.ireturn, 1) := by decide +kernel
theorem dL_law_494 : decode cL_law 494 = .ok (.aload_n 1, 1) := by decide +kernel
theorem dL_law_495 : decode cL_law 495 = .ok (.aload_n 0, 1) := by decide +kernel
theorem dL_law_496 : decode cL_law 496 = .ok (.iload_n 3, 1) := by decide +kernel
theorem dL_law_497 : decode cL_law 497 = .ok (.iconst 1, 1) := by decide +kernel
theorem dL_law_498 : decode cL_law 498 = .ok (.iadd, 1) := by decide +kernel
theorem dL_law_499 : decode cL_law 499 = .ok (.iaload, 1) := by decide +kernel
theorem dL_law_500 : decode cL_law 500 = .ok (.aload_n 0, 1) := by decide +kernel
theorem dL_law_501 : decode cL_law 501 = .ok (.iload_n 3, 1) := by decide +kernel
theorem dL_law_502 : decode cL_law 502 = .ok (.iconst 2, 1) := by decide +kernel
theorem dL_law_503 : decode cL_law 503 = .ok (.iadd, 1) := by decide +kernel
theorem dL_law_504 : decode cL_law 504 = .ok (.iaload, 1) := by decide +kernel
theorem dL_law_505 : decode cL_law 505 = .ok (.aload_n 0, 1) := by decide +kernel
theorem dL_law_506 : decode cL_law 506 = .ok (.iload_n 3, 1) := by decide +kernel
theorem dL_law_507 : decode cL_law 507 = .ok (.iconst 3, 1) := by decide +kernel
theorem dL_law_508 : decode cL_law 508 = .ok (.iadd, 1) := by decide +kernel
theorem dL_law_509 : decode cL_law 509 = .ok (.iaload, 1) := by decide +kernel
theorem dL_law_510 : decode cL_law 510 = .ok (.invokevirtual 80, 3) := by decide +kernel
theorem dL_law_513 : decode cL_law 513 = .ok (.aload_n 2, 1) := by decide +kernel
theorem dL_law_514 : decode cL_law 514 = .ok (.aload_n 0, 1) := by decide +kernel
theorem dL_law_515 : decode cL_law 515 = .ok (.iload_n 3, 1) := by decide +kernel
theorem dL_law_516 : decode cL_law 516 = .ok (.iconst 1, 1) := by decide +kernel
theorem dL_law_517 : decode cL_law 517 = .ok (.iadd, 1) := by decide +kernel
theorem dL_law_518 : decode cL_law 518 = .ok (.iaload, 1) := by decide +kernel
theorem dL_law_519 : decode cL_law 519 = .ok (.aload_n 0, 1) := by decide +kernel
theorem dL_law_520 : decode cL_law 520 = .ok (.iload_n 3, 1) := by decide +kernel
theorem dL_law_521 : decode cL_law 521 = .ok (.iconst 2, 1) := by decide +kernel
theorem dL_law_522 : decode cL_law 522 = .ok (.iadd, 1) := by decide +kernel
theorem dL_law_523 : decode cL_law 523 = .ok (.iaload, 1) := by decide +kernel
theorem dL_law_524 : decode cL_law 524 = .ok (.aload_n 0, 1) := by decide +kernel
theorem dL_law_525 : decode cL_law 525 = .ok (.iload_n 3, 1) := by decide +kernel
theorem dL_law_526 : decode cL_law 526 = .ok (.iconst 3, 1) := by decide +kernel
theorem dL_law_527 : decode cL_law 527 = .ok (.iadd, 1) := by decide +kernel
theorem dL_law_528 : decode cL_law 528 = .ok (.iaload, 1) := by decide +kernel
theorem dL_law_529 : decode cL_law 529 = .ok (.invokevirtual 84, 3) := by decide +kernel
theorem dL_law_532 : decode cL_law 532 = .ok (.if_icmp .eq 150, 3) := by decide +kernel
theorem dL_law_535 : decode cL_law 535 = .ok (.iconst 0, 1) := by decide +kernel
theorem dL_law_536 : decode cL_law 536 = .ok (.ireturn, 1) := by decide +kernel
theorem dL_law_537 : decode cL_law 537 = .ok (.aload_n 1, 1) := by decide +kernel
theorem dL_law_538 : decode cL_law 538 = .ok (.aload_n 0, 1) := by decide +kernel
theorem dL_law_539 : decode cL_law 539 = .ok (.iload_n 3, 1) := by decide +kernel
theorem dL_law_540 : decode cL_law 540 = .ok (.iconst 1, 1) := by decide +kernel
theorem dL_law_541 : decode cL_law 541 = .ok (.iadd, 1) := by decide +kernel
theorem dL_law_542 : decode cL_law 542 = .ok (.iaload, 1) := by decide +kernel
theorem dL_law_543 : decode cL_law 543 = .ok (.aload_n 0, 1) := by decide +kernel
theorem dL_law_544 : decode cL_law 544 = .ok (.iload_n 3, 1) := by decide +kernel
theorem dL_law_545 : decode cL_law 545 = .ok (.iconst 2, 1) := by decide +kernel
theorem dL_law_546 : decode cL_law 546 = .ok (.iadd, 1) := by decide +kernel
theorem dL_law_547 : decode cL_law 547 = .ok (.iaload, 1) := by decide +kernel
theorem dL_law_548 : decode cL_law 548 = .ok (.aload_n 0, 1) := by decide +kernel
theorem dL_law_549 : decode cL_law 549 = .ok (.iload_n 3, 1) := by decide +kernel
theorem dL_law_550 : decode cL_law 550 = .ok (.iconst 3, 1) := by decide +kernel
theorem dL_law_551 : decode cL_law 551 = .ok (.iadd, 1) := by decide +kernel
theorem dL_law_552 : decode cL_law 552 = .ok (.iaload, 1) := by decide +kernel
theorem dL_law_553 : decode cL_law 553 = .ok (.aload_n 0, 1) := by decide +kernel
theorem dL_law_554 : decode cL_law 554 = .ok (.iload_n 3, 1) := by decide +kernel
theorem dL_law_555 : decode cL_law 555 = .ok (.iconst 4, 1) := by decide +kernel
theorem dL_law_556 : decode cL_law 556 = .ok (.iadd, 1) := by decide +kernel
theorem dL_law_557 : decode cL_law 557 = .ok (.iaload, 1) := by decide +kernel
theorem dL_law_558 : decode cL_law 558 = .ok (.invokevirtual 85, 3) := by decide +kernel
theorem dL_law_561 : decode cL_law 561 = .ok (.aload_n 2, 1) := by decide +kernel
theorem dL_law_562 : decode cL_law 562 = .ok (.aload_n 0, 1) := by decide +kernel
theorem dL_law_563 : decode cL_law 563 = .ok (.iload_n 3, 1) := by decide +kernel
theorem dL_law_564 : decode cL_law 564 = .ok (.iconst 1, 1) := by decide +kernel
theorem dL_law_565 : decode cL_law 565 = .ok (.iadd, 1) := by decide +kernel
theorem dL_law_566 : decode cL_law 566 = .ok (.iaload, 1) := by decide +kernel
theorem dL_law_567 : decode cL_law 567 = .ok (.aload_n 0, 1) := by decide +kernel
theorem dL_law_568 : decode cL_law 568 = .ok (.iload_n 3, 1) := by decide +kernel
theorem dL_law_569 : decode cL_law 569 = .ok (.iconst 2, 1) := by decide +kernel
theorem dL_law_570 : decode cL_law 570 = .ok (.iadd, 1) := by decide +kernel
theorem dL_law_571 : decode cL_law 571 = .ok (.iaload, 1) := by decide +kernel
theorem dL_law_572 : decode cL_law 572 = .ok (.aload_n 0, 1) := by decide +kernel
theorem dL_law_573 : decode cL_law 573 = .ok (.iload_n 3, 1) := by decide +kernel
theorem dL_law_574 : decode cL_law 574 = .ok (.iconst 3, 1) := by decide +kernel
theorem dL_law_575 : decode cL_law 575 = .ok (.iadd, 1) := by decide +kernel
theorem dL_law_576 : decode cL_law 576 = .ok (.iaload, 1) := by decide +kernel
theorem dL_law_577 : decode cL_law 577 = .ok (.aload_n 0, 1) := by decide +kernel
theorem dL_law_578 : decode cL_law 578 = .ok (.iload_n 3, 1) := by decide +kernel
theorem dL_law_579 : decode cL_law 579 = .ok (.iconst 4, 1) := by decide +kernel
theorem dL_law_580 : decode cL_law 580 = .ok (.iadd, 1) := by decide +kernel
theorem dL_law_581 : decode cL_law 581 = .ok (.iaload, 1) := by decide +kernel
theorem dL_law_582 : decode cL_law 582 = .ok (.invokevirtual 89, 3) := by decide +kernel
theorem dL_law_585 : decode cL_law 585 = .ok (.if_icmp .eq 97, 3) := by decide +kernel
theorem dL_law_588 : decode cL_law 588 = .ok (.iconst 0, 1) := by decide +kernel
theorem dL_law_589 : decode cL_law 589 = .ok (.ireturn, 1) := by decide +kernel
theorem dL_law_590 : decode cL_law 590 = .ok (.aload_n 1, 1) := by decide +kernel
theorem dL_law_591 : decode cL_law 591 = .ok (.aload_n 0, 1) := by decide +kernel
theorem dL_law_592 : decode cL_law 592 = .ok (.iload_n 3, 1) := by decide +kernel
theorem dL_law_593 : decode cL_law 593 = .ok (.iconst 1, 1) := by decide +kernel
theorem dL_law_594 : decode cL_law 594 = .ok (.iadd, 1) := by decide +kernel
theorem dL_law_595 : decode cL_law 595 = .ok (.iaload, 1) := by decide +kernel
theorem dL_law_596 : decode cL_law 596 = .ok (.invokevirtual 90, 3) := by decide +kernel
theorem dL_law_599 : decode cL_law 599 = .ok (.aload_n 2, 1) := by decide +kernel
theorem dL_law_600 : decode cL_law 600 = .ok (.aload_n 0, 1) := by decide +kernel
theorem dL_law_601 : decode cL_law 601 = .ok (.iload_n 3, 1) := by decide +kernel
theorem dL_law_602 : decode cL_law 602 = .ok (.iconst 1, 1) := by decide +kernel
theorem dL_law_603 : decode cL_law 603 = .ok (.iadd, 1) := by decide +kernel
theorem dL_law_604 : decode cL_law 604 = .ok (.iaload, 1) := by decide +kernel
theorem dL_law_605 : decode cL_law 605 = .ok (.invokevirtual 93, 3) := by decide +kernel
theorem dL_law_608 : decode cL_law 608 = .ok (.if_icmp .eq 74, 3) := by decide +kernel
theorem dL_law_611 : decode cL_law 611 = .ok (.iconst 0, 1) := by decide +kernel
theorem dL_law_612 : decode cL_law 612 = .ok (.ireturn, 1) := by decide +kernel
theorem dL_law_613 : decode cL_law 613 = .ok (.aload_n 1, 1) := by decide +kernel
theorem dL_law_614 : decode cL_law 614 = .ok (.aload_n 0, 1) := by decide +kernel
theorem dL_law_615 : decode cL_law 615 = .ok (.iload_n 3, 1) := by decide +kernel
theorem dL_law_616 : decode cL_law 616 = .ok (.iconst 1, 1) := by decide +kernel
theorem dL_law_617 : decode cL_law 617 = .ok (.iadd, 1) := by decide +kernel
theorem dL_law_618 : decode cL_law 618 = .ok (.iaload, 1) := by decide +kernel
theorem dL_law_619 : decode cL_law 619 = .ok (.aload_n 0, 1) := by decide +kernel
theorem dL_law_620 : decode cL_law 620 = .ok (.iload_n 3, 1) := by decide +kernel
theorem dL_law_621 : decode cL_law 621 = .ok (.iconst 2, 1) := by decide +kernel
theorem dL_law_622 : decode cL_law 622 = .ok (.iadd, 1) := by decide +kernel
theorem dL_law_623 : decode cL_law 623 = .ok (.iaload, 1) := by decide +kernel
theorem dL_law_624 : decode cL_law 624 = .ok (.invokevirtual 94, 3) := by decide +kernel
theorem dL_law_627 : decode cL_law 627 = .ok (.aload_n 2, 1) := by decide +kernel
theorem dL_law_628 : decode cL_law 628 = .ok (.aload_n 0, 1) := by decide +kernel
theorem dL_law_629 : decode cL_law 629 = .ok (.iload_n 3, 1) := by decide +kernel
theorem dL_law_630 : decode cL_law 630 = .ok (.iconst 1, 1) := by decide +kernel
theorem dL_law_631 : decode cL_law 631 = .ok (.iadd, 1) := by decide +kernel
theorem dL_law_632 : decode cL_law 632 = .ok (.iaload, 1) := by decide +kernel
theorem dL_law_633 : decode cL_law 633 = .ok (.aload_n 0, 1) := by decide +kernel
theorem dL_law_634 : decode cL_law 634 = .ok (.iload_n 3, 1) := by decide +kernel
theorem dL_law_635 : decode cL_law 635 = .ok (.iconst 2, 1) := by decide +kernel
theorem dL_law_636 : decode cL_law 636 = .ok (.iadd, 1) := by decide +kernel
theorem dL_law_637 : decode cL_law 637 = .ok (.iaload, 1) := by decide +kernel
theorem dL_law_638 : decode cL_law 638 = .ok (.invokevirtual 97, 3) := by decide +kernel
theorem dL_law_641 : decode cL_law 641 = .ok (.if_icmp .eq 41, 3) := by decide +kernel
theorem dL_law_644 : decode cL_law 644 = .ok (.iconst 0, 1) := by decide +kernel
theorem dL_law_645 : decode cL_law 645 = .ok (.ireturn, 1) := by decide +kernel
theorem dL_law_646 : decode cL_law 646 = .ok (.aload_n 1, 1) := by decide +kernel
theorem dL_law_647 : decode cL_law 647 = .ok (.aload_n 0, 1) := by decide +kernel
theorem dL_law_648 : decode cL_law 648 = .ok (.iload_n 3, 1) := by decide +kernel
theorem dL_law_649 : decode cL_law 649 = .ok (.iconst 1, 1) := by decide +kernel
theorem dL_law_650 : decode cL_law 650 = .ok (.iadd, 1) := by decide +kernel
theorem dL_law_651 : decode cL_law 651 = .ok (.iaload, 1) := by decide +kernel
theorem dL_law_652 : decode cL_law 652 = .ok (.invokevirtual 98, 3) := by decide +kernel
theorem dL_law_655 : decode cL_law 655 = .ok (.aload_n 2, 1) := by decide +kernel
theorem dL_law_656 : decode cL_law 656 = .ok (.aload_n 0, 1) := by decide +kernel
theorem dL_law_657 : decode cL_law 657 = .ok (.iload_n 3, 1) := by decide +kernel
theorem dL_law_658 : decode cL_law 658 = .ok (.iconst 1, 1) := by decide +kernel
theorem dL_law_659 : decode cL_law 659 = .ok (.iadd, 1) := by decide +kernel
theorem dL_law_660 : decode cL_law 660 = .ok (.iaload, 1) := by decide +kernel
theorem dL_law_661 : decode cL_law 661 = .ok (.invokevirtual 101, 3) := by decide +kernel
theorem dL_law_664 : decode cL_law 664 = .ok (.if_icmp .eq 18, 3) := by decide +kernel
theorem dL_law_667 : decode cL_law 667 = .ok (.iconst 0, 1) := by decide +kernel
theorem dL_law_668 : decode cL_law 668 = .ok (.ireturn, 1) := by decide +kernel
theorem dL_law_669 : decode cL_law 669 = .ok (.aload_n 1, 1) := by decide +kernel
theorem dL_law_670 : decode cL_law 670 = .ok (.invokevirtual 102, 3) := by decide +kernel
theorem dL_law_673 : decode cL_law 673 = .ok (.aload_n 2, 1) := by decide +kernel
theorem dL_law_674 : decode cL_law 674 = .ok (.invokevirtual 105, 3) := by decide +kernel
theorem dL_law_677 : decode cL_law 677 = .ok (.if_icmp .eq 5, 3) := by decide +kernel
theorem dL_law_680 : decode cL_law 680 = .ok (.iconst 0, 1) := by decide +kernel
theorem dL_law_681 : decode cL_law 681 = .ok (.ireturn, 1) := by decide +kernel
theorem dL_law_682 : decode cL_law 682 = .ok (.iinc 3 5, 3) := by decide +kernel
theorem dL_law_685 : decode cL_law 685 = .ok (.goto (-667), 3) := by decide +kernel
theorem dL_law_688 : decode cL_law 688 = .ok (.iconst 1, 1) := by decide +kernel
theorem dL_law_689 : decode cL_law 689 = .ok (.ireturn, 1) := by decide +kernel
end
section
theorem co_max : Cond.code Lib.Math.max.name Lib.Math.max.code 2 (some .int) ∈ lw_g := lw_g_of (i := 85) (by decide +kernel) (by decide +kernel)
theorem co_min : Cond.code Lib.Math.min.name Lib.Math.min.code 2 (some .int) ∈ lw_g := lw_g_of (i := 418) (by decide +kernel) (by decide +kernel)
/-! NUMBERS, FRAMES -/
theorem wp_max {fr lo mc ms : Nat} {M : ab_MT} {pc idx : Nat} {L : List (Nat × Value)} {st : List Value} {h : ab_M} {post : ab_Po} {x y : Int32} (hd : decode M.2.1 pc = .ok (.invokestatic idx, 3)) (hl1 : Cond.methodLink M.1.cls idx yJ9_max_7cf53 ∈ lw_g) (hf : 1 ≤ fr) (hlo : (st.map fun v => v.category).sum + 13 ≤ lo)
    (kk : wp fr lo mc ms M (pc + 3) L (.int (if x < y then y else x) :: st) h post) : wp fr lo mc ms M pc L (.int y :: .int x :: st) h post := by
  intro G p l e R1 s m args below meth c Q Cx hb hQ H locs cells slots ls hw hS hc hs hl
  obtain ⟨hx, hcode, hml, -, -, -, hown, hts, hfr, hloc⟩ := id Cx
  exact va_mmax hx hcode (by rw [hml]; exact hl.1.symm) hown (hts _ hl1) (hts _ sm_J9_max_7cf53) (hts _ ini_Math) (hts _ co_max) (by omega) (by rw [ab_stw]; omega) (by omega) (by omega) hd (kk G p l e R1 s m args below meth c Q Cx hb hQ H locs cells slots ls hw hS hc hs hl)
theorem wp_min {fr lo mc ms : Nat} {M : ab_MT} {pc idx : Nat} {L : List (Nat × Value)} {st : List Value} {h : ab_M} {post : ab_Po} {x y : Int32} (hd : decode M.2.1 pc = .ok (.invokestatic idx, 3)) (hl1 : Cond.methodLink M.1.cls idx yJ9_min_7cf53 ∈ lw_g) (hf : 1 ≤ fr) (hlo : (st.map fun v => v.category).sum + 13 ≤ lo)
    (kk : wp fr lo mc ms M (pc + 3) L (.int (if y < x then y else x) :: st) h post) : wp fr lo mc ms M pc L (.int y :: .int x :: st) h post := by
  intro G p l e R1 s m args below meth c Q Cx hb hQ H locs cells slots ls hw hS hc hs hl
  obtain ⟨hx, hcode, hml, -, -, -, hown, hts, hfr, hloc⟩ := id Cx
  exact va_mmin hx hcode (by rw [hml]; exact hl.1.symm) hown (hts _ hl1) (hts _ sm_J9_min_7cf53) (hts _ ini_Math) (hts _ co_min) (by omega) (by rw [ab_stw]; omega) (by omega) (by omega) hd (kk G p l e R1 s m args below meth c Q Cx hb hQ H locs cells slots ls hw hS hc hs hl)
theorem tI_add {a b : Int32} (h1 : -2147483648 ≤ a.toInt + b.toInt) (h2 : a.toInt + b.toInt < 2147483648) : (a + b).toInt = a.toInt + b.toInt := by
  rw [Int32.toInt_add]
  exact Int.bmod_eq_of_le (by omega) (by omega)
theorem tI_sub {a b : Int32} (h1 : -2147483648 ≤ a.toInt - b.toInt) (h2 : a.toInt - b.toInt < 2147483648) : (a - b).toInt = a.toInt - b.toInt := by
  rw [Int32.toInt_sub]
  exact Int.bmod_eq_of_le (by omega) (by omega)
theorem tI_mul {a b : Int32} (h1 : -2147483648 ≤ a.toInt * b.toInt) (h2 : a.toInt * b.toInt < 2147483648) : (a * b).toInt = a.toInt * b.toInt := by
  rw [Int32.toInt_mul]
  exact Int.bmod_eq_of_le (by omega) (by omega)
theorem tI_n {n : Nat} (h : n < 2147483648) : (nI n).toInt = (n : Int) := nI_toInt h
theorem tI_o {n : Nat} (h : n < 2147483648) : (Int32.ofNat n).toInt = (n : Int) := nI_toInt h
theorem tI_lt (a : Int32) : a.toInt < 2147483648 := a.toInt_lt
theorem tI_le (a : Int32) : -2147483648 ≤ a.toInt := a.le_toInt
theorem tI_c (a : Int32) : a.toNatClampNeg = a.toInt.toNat := rfl
theorem tI_eq {a b : Int32} (h : a.toInt = b.toInt) : a = b := Int32.toInt_inj.mp h
theorem tI_N {a : Int32} {n : Nat} (h : a.toInt = n) : a = nI n := tI_eq (by
  have := tI_lt a
  rw [tI_n (by omega), h])
theorem nI_i1 (k : Nat) : nI k + Int32.ofInt 1 = nI (k + 1) := nI_1 k
theorem nI_m1 (k : Nat) : nI (k + 1) + Int32.ofInt (-1) = nI k := by
  rw [show Int32.ofInt (-1) = -1 by decide]
  exact pk_m1 k
theorem in_N {n N : Nat} (h : n < N) (hN : N < 2147483648) : vp_in (nI n) N := vp_in_nI h hN
theorem in_I {x : Int32} {N : Nat} (h0 : 0 ≤ x.toInt) (h1 : x.toInt < N) : vp_in x N := vp_in_iff.mpr ⟨h0, h1⟩
theorem nI_c {n : Nat} (h : n < 2147483648) : (nI n).toNatClampNeg = n := nI_clamp h
theorem tl_0 : (0 : Int32).toInt = 0 := by decide +kernel
theorem tl_1 : (1 : Int32).toInt = 1 := by decide +kernel
theorem tl_2 : (2 : Int32).toInt = 2 := by decide +kernel
theorem tl_3 : (3 : Int32).toInt = 3 := by decide +kernel
theorem tl_4 : (4 : Int32).toInt = 4 := by decide +kernel
theorem tl_5 : (5 : Int32).toInt = 5 := by decide +kernel
theorem tl_6 : (6 : Int32).toInt = 6 := by decide +kernel
theorem tl_8 : (8 : Int32).toInt = 8 := by decide +kernel
theorem tl_9 : (9 : Int32).toInt = 9 := by decide +kernel
theorem tl_10 : (10 : Int32).toInt = 10 := by decide +kernel
theorem tl_24 : (24 : Int32).toInt = 24 := by decide +kernel
theorem tl_30 : (30 : Int32).toInt = 30 := by decide +kernel
theorem tl_m1 : (-1 : Int32).toInt = -1 := by decide +kernel
theorem tl_NONE : (-1000009 : Int32).toInt = -1000009 := by decide +kernel
theorem wp_tableAt {fr lo mc ms : Nat} {M : ab_MT} {pc : Nat} {L : List (Nat × Value)} {st : List Value} {h : ab_M} {post : ab_Po} {dflt lo' hi : Int} {offs : Array Int} {len : Nat} {x : Int32} (k : Int) {off : Int} {tgt : Nat} (hd : decode M.2.1 pc = .ok (.tableswitch dflt lo' hi offs, len)) (h1 : lo' ≤ k) (h2 : k ≤ hi) (ho : offs[(k - lo').toNat]? = some off) (ht : (pc : Int) + off = (tgt : Int))
    (kt : x.toInt = k → wp fr lo mc ms M tgt L st h post) (kf : x.toInt ≠ k → wp fr lo mc ms M pc L (.int x :: st) h post) : wp fr lo mc ms M pc L (.int x :: st) h post := by
  by_cases hx : x.toInt = k
  · exact wp_tableIn hd (by omega) (by omega) (by rw [hx]; exact ho) ht (kt hx)
  · exact kf hx
/-- nothing but these cells changed -/
def ab_fr (I I' : ab_II) (P : List Nat) : Prop := ∀ j, j ∉ P → I' j = I j
theorem ab_fr.rf {I : ab_II} {P : List Nat} : ab_fr I I P := fun _ _ => rfl
theorem ab_fr.tr {I I' I'' : ab_II} {P P' P'' : List Nat} (h : ab_fr I I' P) (h' : ab_fr I' I'' P') (h1 : ∀ j ∈ P, j ∈ P'') (h2 : ∀ j ∈ P', j ∈ P'') : ab_fr I I'' P'' := fun j hj => (h' j (fun q => hj (h2 j q))).trans (h j (fun q => hj (h1 j q)))
theorem ab_fr.tr1 {I I' I'' : ab_II} {P : List Nat} (h : ab_fr I I' P) (h' : ab_fr I' I'' P) : ab_fr I I'' P := h.tr h' (fun _ q => q) (fun _ q => q)
theorem ab_fr.u2 {I : ab_II} {P : List Nat} {r k : Nat} {x : Int32} (h : r ∈ P) : ab_fr I (ab_u2 I r k x) P := fun j hj => ab_u2_r I x (fun q => hj (q ▸ h))
/-- an entry: key, number, value -/
abbrev En : Type := Int32 × Int32 × Int32
abbrev cNONE : Int32 := -1000009
abbrev cBAD : Int32 := -1000002
end
section
/-! A ROW OF ENTRIES -/
def rw_S (n : Nat) (S : ab_SH) (R : ab_RR) (r a b c cap : Nat) : Prop := ab_ok n S r 5 ∧ R r 0 = some a ∧ R r 1 = some b ∧ R r 2 = some c ∧ ab_ok n S a 9 ∧ ab_ok n S b 9 ∧ ab_ok n S c 9 ∧ (S a).2 = cap ∧ (S b).2 = cap ∧ (S c).2 = cap ∧ a ≠ b ∧ a ≠ c ∧ b ≠ c ∧ cap ≤ 10000
def rw_I (I : ab_II) (r a b c s : Nat) (f : Nat → En) : Prop := I r 3 = nI s ∧ ∀ k, I a k = (f k).1 ∧ I b k = (f k).2.1 ∧ I c k = (f k).2.2
theorem ab_ok_ne {n : Nat} {S : ab_SH} {r a i j : Nat} (h : ab_ok n S r i) (h' : ab_ok n S a j) (hij : i ≠ j) : r ≠ a := fun q => hij (by rw [← h.2.2, ← h'.2.2, q])
theorem rw_I.set {I : ab_II} {r a b c s k : Nat} {f : Nat → En} {e : En} (h : rw_I I r a b c s f) (h1 : a ≠ b) (h2 : a ≠ c) (h3 : b ≠ c) (g1 : r ≠ a) (g2 : r ≠ b) (g3 : r ≠ c) : rw_I (ab_u2 (ab_u2 (ab_u2 I a k e.1) b k e.2.1) c k e.2.2) r a b c s (va_up f k e) := by
  obtain ⟨h0, hk⟩ := h
  refine ⟨?_, fun j => ?_⟩
  · rw [ab_u2_n _ _ (Or.inl g3), ab_u2_n _ _ (Or.inl g2), ab_u2_n _ _ (Or.inl g1)]
    exact h0
  · obtain ⟨e1, e2, e3⟩ := hk j
    by_cases hj : j = k
    · subst hj
      simp [ab_u2, va_up, h1, h2, h3, h1.symm, h2.symm, h3.symm]
    · simp [ab_u2, va_up, hj, e1, e2, e3]
theorem rw_I.keep {I I' : ab_II} {r a b c s : Nat} {f : Nat → En} {P : List Nat} (h : rw_I I r a b c s f) (hf : ab_fr I I' P) (g0 : r ∉ P) (g1 : a ∉ P) (g2 : b ∉ P) (g3 : c ∉ P) : rw_I I' r a b c s f := by
  obtain ⟨h0, hk⟩ := h
  exact ⟨by rw [hf r g0]; exact h0, fun k => by rw [hf a g1, hf b g2, hf c g3]; exact hk k⟩
theorem rw_I.size {I : ab_II} {r a b c s s' : Nat} {f : Nat → En} {x : Int32} (h : rw_I I r a b c s f) (hx : x = nI s') (g1 : a ≠ r) (g2 : b ≠ r) (g3 : c ≠ r) : rw_I (ab_u2 I r 3 x) r a b c s' f := by
  obtain ⟨h0, hk⟩ := h
  exact ⟨by rw [ab_u2_s]; exact hx, fun k => by rw [ab_u2_n _ _ (Or.inl g1), ab_u2_n _ _ (Or.inl g2), ab_u2_n _ _ (Or.inl g3)]; exact hk k⟩
section ROW
variable {n : Nat} {S : ab_SH} {R : ab_RR} {I : ab_II} {r a b c cap s : Nat} {f : Nat → En} {x : Int32}
theorem s_X4_has (hS : rw_S n S R r a b c cap) (hI : I r 3 = nI s) (hs : s ≤ cap) (x : Int32) : wp 0 0 0 0 MX4_has 0 [(0, .ref r), (1, .int x)] [] (n, S, R, I) (fun v h => h = (n, S, R, I) ∧ v = some (.int (if 0 ≤ x.toInt ∧ x.toInt < s then 1 else 0))) := by
  obtain ⟨o0, q0, q1, q2, o1, o2, o3, z1, z2, z3, d1, d2, d3, hcap⟩ := hS
  refine wp_iload_n dX4_has_0 rfl ?_
  refine wp_if_lt (tgt := 16) dX4_has_1 (by decide) (fun hc => ?_) (fun hc => ?_)
  · skip
    refine wp_iconst (v := 0) dX4_has_16 (by decide) ?_
    refine wp_ret dX4_has_17 rfl (by first | trivial | exact Or.inl rfl | exact Or.inr rfl | assumption) ?_
    first | exact ⟨rfl, by rw [if_pos (by omega)]⟩ | exact ⟨rfl, by rw [if_neg (by omega)]⟩
  · skip
    refine wp_iload_n dX4_has_4 rfl ?_
    first | refine wp_aload_n dX4_has_5 rfl ?_ | refine wp_aload_nN dX4_has_5 rfl ?_
    refine wp_getI dX4_has_6 fl_Row_27 (by assumption) rfl ?_
    refine wp_icmp_ge (tgt := 16) dX4_has_9 (by decide) (fun hc => ?_) (fun hc => ?_)
    · rw [hI, tI_n (by omega)] at hc
      refine wp_iconst (v := 0) dX4_has_16 (by decide) ?_
      refine wp_ret dX4_has_17 rfl (by first | trivial | exact Or.inl rfl | exact Or.inr rfl | assumption) ?_
      first | exact ⟨rfl, by rw [if_pos (by omega)]⟩ | exact ⟨rfl, by rw [if_neg (by omega)]⟩
    · rw [hI, tI_n (by omega)] at hc
      refine wp_iconst (v := 1) dX4_has_12 (by decide) ?_
      refine wp_goto (tgt := 17) dX4_has_13 (by decide) ?_
      refine wp_ret dX4_has_17 rfl (by first | trivial | exact Or.inl rfl | exact Or.inr rfl | assumption) ?_
      first | exact ⟨rfl, by rw [if_pos (by omega)]⟩ | exact ⟨rfl, by rw [if_neg (by omega)]⟩
def rk_1 (s : Nat) (f : Nat → En) (x : Int32) : Int32 := if 0 ≤ x.toInt ∧ x.toInt < s then (f x.toInt.toNat).1 else cNONE
def rk_2 (s : Nat) (f : Nat → En) (x : Int32) : Int32 := if 0 ≤ x.toInt ∧ x.toInt < s then (f x.toInt.toNat).2.1 else cNONE
def rk_3 (s : Nat) (f : Nat → En) (x : Int32) : Int32 := if 0 ≤ x.toInt ∧ x.toInt < s then (f x.toInt.toNat).2.2 else cNONE
theorem s_X4_key (hS : rw_S n S R r a b c cap) (hI : rw_I I r a b c s f) (hs : s ≤ cap) (x : Int32) : wp 0 0 0 0 MX4_key 0 [(0, .ref r), (1, .int x)] [] (n, S, R, I) (fun v h => h = (n, S, R, I) ∧ v = some (.int (rk_1 s f x))) := by
  obtain ⟨o0, q0, q1, q2, o1, o2, o3, z1, z2, z3, d1, d2, d3, hcap⟩ := hS
  refine wp_iload_n dX4_key_0 rfl ?_
  refine wp_if_lt (tgt := 21) dX4_key_1 (by decide) (fun hc => ?_) (fun hc => ?_)
  · skip
    refine wp_ldc (v := -1000009) dX4_key_21 cn_Row_31 ?_
    refine wp_ret dX4_key_23 rfl (by first | trivial | exact Or.inl rfl | exact Or.inr rfl | assumption) ?_
    first | exact ⟨rfl, by rw [rk_1, if_neg (by omega)]⟩ | exact ⟨rfl, by rw [rk_1, if_pos (by omega), tI_c, (hI.2 _).1]⟩
  · skip
    refine wp_iload_n dX4_key_4 rfl ?_
    first | refine wp_aload_n dX4_key_5 rfl ?_ | refine wp_aload_nN dX4_key_5 rfl ?_
    refine wp_getI dX4_key_6 fl_Row_27 (by assumption) rfl ?_
    refine wp_icmp_ge (tgt := 21) dX4_key_9 (by decide) (fun hc => ?_) (fun hc => ?_)
    · rw [hI.1, tI_n (by omega)] at hc
      refine wp_ldc (v := -1000009) dX4_key_21 cn_Row_31 ?_
      refine wp_ret dX4_key_23 rfl (by first | trivial | exact Or.inl rfl | exact Or.inr rfl | assumption) ?_
      first | exact ⟨rfl, by rw [rk_1, if_neg (by omega)]⟩ | exact ⟨rfl, by rw [rk_1, if_pos (by omega), tI_c, (hI.2 _).1]⟩
    · rw [hI.1, tI_n (by omega)] at hc
      first | refine wp_aload_n dX4_key_12 rfl ?_ | refine wp_aload_nN dX4_key_12 rfl ?_
      refine wp_getR dX4_key_13 fl_Row_15 (by assumption) rfl (by assumption) ?_
      refine wp_iload_n dX4_key_16 rfl ?_
      refine wp_iaload dX4_key_17 (by assumption) (in_I (by omega) (by rw [z1]; omega)) ?_
      refine wp_goto (tgt := 23) dX4_key_18 (by decide) ?_
      refine wp_ret dX4_key_23 rfl (by first | trivial | exact Or.inl rfl | exact Or.inr rfl | assumption) ?_
      first | exact ⟨rfl, by rw [rk_1, if_neg (by omega)]⟩ | exact ⟨rfl, by rw [rk_1, if_pos (by omega), tI_c, (hI.2 _).1]⟩
theorem s_X4_number (hS : rw_S n S R r a b c cap) (hI : rw_I I r a b c s f) (hs : s ≤ cap) (x : Int32) : wp 0 0 0 0 MX4_number 0 [(0, .ref r), (1, .int x)] [] (n, S, R, I) (fun v h => h = (n, S, R, I) ∧ v = some (.int (rk_2 s f x))) := by
  obtain ⟨o0, q0, q1, q2, o1, o2, o3, z1, z2, z3, d1, d2, d3, hcap⟩ := hS
  refine wp_iload_n dX4_number_0 rfl ?_
  refine wp_if_lt (tgt := 21) dX4_number_1 (by decide) (fun hc => ?_) (fun hc => ?_)
  · skip
    refine wp_ldc (v := -1000009) dX4_number_21 cn_Row_31 ?_
    refine wp_ret dX4_number_23 rfl (by first | trivial | exact Or.inl rfl | exact Or.inr rfl | assumption) ?_
    first | exact ⟨rfl, by rw [rk_2, if_neg (by omega)]⟩ | exact ⟨rfl, by rw [rk_2, if_pos (by omega), tI_c, (hI.2 _).2.1]⟩
  · skip
    refine wp_iload_n dX4_number_4 rfl ?_
    first | refine wp_aload_n dX4_number_5 rfl ?_ | refine wp_aload_nN dX4_number_5 rfl ?_
    refine wp_getI dX4_number_6 fl_Row_27 (by assumption) rfl ?_
    refine wp_icmp_ge (tgt := 21) dX4_number_9 (by decide) (fun hc => ?_) (fun hc => ?_)
    · rw [hI.1, tI_n (by omega)] at hc
      refine wp_ldc (v := -1000009) dX4_number_21 cn_Row_31 ?_
      refine wp_ret dX4_number_23 rfl (by first | trivial | exact Or.inl rfl | exact Or.inr rfl | assumption) ?_
      first | exact ⟨rfl, by rw [rk_2, if_neg (by omega)]⟩ | exact ⟨rfl, by rw [rk_2, if_pos (by omega), tI_c, (hI.2 _).2.1]⟩
    · rw [hI.1, tI_n (by omega)] at hc
      first | refine wp_aload_n dX4_number_12 rfl ?_ | refine wp_aload_nN dX4_number_12 rfl ?_
      refine wp_getR dX4_number_13 fl_Row_21 (by assumption) rfl (by assumption) ?_
      refine wp_iload_n dX4_number_16 rfl ?_
      refine wp_iaload dX4_number_17 (by assumption) (in_I (by omega) (by rw [z2]; omega)) ?_
      refine wp_goto (tgt := 23) dX4_number_18 (by decide) ?_
      refine wp_ret dX4_number_23 rfl (by first | trivial | exact Or.inl rfl | exact Or.inr rfl | assumption) ?_
      first | exact ⟨rfl, by rw [rk_2, if_neg (by omega)]⟩ | exact ⟨rfl, by rw [rk_2, if_pos (by omega), tI_c, (hI.2 _).2.1]⟩
theorem s_X4_value (hS : rw_S n S R r a b c cap) (hI : rw_I I r a b c s f) (hs : s ≤ cap) (x : Int32) : wp 0 0 0 0 MX4_value 0 [(0, .ref r), (1, .int x)] [] (n, S, R, I) (fun v h => h = (n, S, R, I) ∧ v = some (.int (rk_3 s f x))) := by
  obtain ⟨o0, q0, q1, q2, o1, o2, o3, z1, z2, z3, d1, d2, d3, hcap⟩ := hS
  refine wp_iload_n dX4_value_0 rfl ?_
  refine wp_if_lt (tgt := 21) dX4_value_1 (by decide) (fun hc => ?_) (fun hc => ?_)
  · skip
    refine wp_ldc (v := -1000009) dX4_value_21 cn_Row_31 ?_
    refine wp_ret dX4_value_23 rfl (by first | trivial | exact Or.inl rfl | exact Or.inr rfl | assumption) ?_
    first | exact ⟨rfl, by rw [rk_3, if_neg (by omega)]⟩ | exact ⟨rfl, by rw [rk_3, if_pos (by omega), tI_c, (hI.2 _).2.2]⟩
  · skip
    refine wp_iload_n dX4_value_4 rfl ?_
    first | refine wp_aload_n dX4_value_5 rfl ?_ | refine wp_aload_nN dX4_value_5 rfl ?_
    refine wp_getI dX4_value_6 fl_Row_27 (by assumption) rfl ?_
    refine wp_icmp_ge (tgt := 21) dX4_value_9 (by decide) (fun hc => ?_) (fun hc => ?_)
    · rw [hI.1, tI_n (by omega)] at hc
      refine wp_ldc (v := -1000009) dX4_value_21 cn_Row_31 ?_
      refine wp_ret dX4_value_23 rfl (by first | trivial | exact Or.inl rfl | exact Or.inr rfl | assumption) ?_
      first | exact ⟨rfl, by rw [rk_3, if_neg (by omega)]⟩ | exact ⟨rfl, by rw [rk_3, if_pos (by omega), tI_c, (hI.2 _).2.2]⟩
    · rw [hI.1, tI_n (by omega)] at hc
      first | refine wp_aload_n dX4_value_12 rfl ?_ | refine wp_aload_nN dX4_value_12 rfl ?_
      refine wp_getR dX4_value_13 fl_Row_24 (by assumption) rfl (by assumption) ?_
      refine wp_iload_n dX4_value_16 rfl ?_
      refine wp_iaload dX4_value_17 (by assumption) (in_I (by omega) (by rw [z3]; omega)) ?_
      refine wp_goto (tgt := 23) dX4_value_18 (by decide) ?_
      refine wp_ret dX4_value_23 rfl (by first | trivial | exact Or.inl rfl | exact Or.inr rfl | assumption) ?_
      first | exact ⟨rfl, by rw [rk_3, if_neg (by omega)]⟩ | exact ⟨rfl, by rw [rk_3, if_pos (by omega), tI_c, (hI.2 _).2.2]⟩
theorem s_X4_isGrave (hS : rw_S n S R r a b c cap) (hI : rw_I I r a b c s f) (hs : s ≤ cap) (x : Int32) : wp 1 21 0 0 MX4_isGrave 0 [(0, .ref r), (1, .int x)] [] (n, S, R, I) (fun v h => h = (n, S, R, I) ∧ v = some (.int (if rk_3 s f x = cNONE then 1 else 0))) := by
  have o0 := hS.1
  first | refine wp_aload_n dX4_isGrave_0 rfl ?_ | refine wp_aload_nN dX4_isGrave_0 rfl ?_
  refine wp_iload_n dX4_isGrave_1 rfl ?_
  refine wp_callV (as := [_]) (s_X4_value hS hI hs x) dX4_isGrave_2 mk_X4_value ab_k5 rfl ml_Row_32 im_X4_value se_X4_value (Nat.le_of_ble_eq_true rfl) rfl (by assumption) ⟨by decide, by decide, Nat.zero_le _, Nat.zero_le _⟩ (Nat.le_of_ble_eq_true rfl) rfl (fun v h hp => ?_)
  obtain ⟨rfl, rfl⟩ := hp
  refine wp_ldc (v := -1000009) dX4_isGrave_5 cn_Row_31 ?_
  refine wp_icmp_ne (tgt := 14) dX4_isGrave_7 (by decide) (fun hc => ?_) (fun hc => ?_)
  · have hc2 : rk_3 s f x ≠ cNONE := fun q => hc (by rw [q])
    refine wp_iconst (v := 0) dX4_isGrave_14 (by decide) ?_
    refine wp_ret dX4_isGrave_15 rfl (by first | trivial | exact Or.inl rfl | exact Or.inr rfl | assumption) ?_
    first | exact ⟨rfl, by rw [if_pos hc2]⟩ | exact ⟨rfl, by rw [if_neg hc2]⟩
  · have hc2 : rk_3 s f x = cNONE := tI_eq hc
    refine wp_iconst (v := 1) dX4_isGrave_10 (by decide) ?_
    refine wp_goto (tgt := 15) dX4_isGrave_11 (by decide) ?_
    refine wp_ret dX4_isGrave_15 rfl (by first | trivial | exact Or.inl rfl | exact Or.inr rfl | assumption) ?_
    first | exact ⟨rfl, by rw [if_pos hc2]⟩ | exact ⟨rfl, by rw [if_neg hc2]⟩
theorem s_X4_told (hS : rw_S n S R r a b c cap) (hI : rw_I I r a b c s f) (hs : s ≤ cap) (x y : Int32) : wp 1 21 0 0 MX4_told 0 [(0, .ref r), (1, .int x), (2, .int y)] [] (n, S, R, I) (fun v h => h = (n, S, R, I) ∧ v = some (.int (if 0 ≤ x.toInt ∧ x.toInt < s then (if y.toInt = 0 then (f x.toInt.toNat).1 else if y.toInt = 1 then (f x.toInt.toNat).2.1 else if y.toInt = 2 then (f x.toInt.toNat).2.2 else cBAD) else cBAD))) := by
  have o0 := hS.1
  first | refine wp_aload_n dX4_told_0 rfl ?_ | refine wp_aload_nN dX4_told_0 rfl ?_
  refine wp_iload_n dX4_told_1 rfl ?_
  refine wp_callV (as := [_]) (s_X4_has hS hI.1 hs x) dX4_told_2 mk_X4_has ab_k5 rfl ml_Row_36 im_X4_has se_X4_has (Nat.le_of_ble_eq_true rfl) rfl (by assumption) ⟨by decide, by decide, Nat.zero_le _, Nat.zero_le _⟩ (Nat.le_of_ble_eq_true rfl) rfl (fun v h hp => ?_)
  obtain ⟨rfl, rfl⟩ := hp
  refine wp_if_ne (tgt := 11) dX4_told_5 (by decide) (fun hc => ?_) (fun hc => ?_)
  · have hx : 0 ≤ x.toInt ∧ x.toInt < s := by
      by_cases q : 0 ≤ x.toInt ∧ x.toInt < s
      · exact q
      · rw [if_neg q] at hc; exact absurd rfl hc
    refine wp_iload_n dX4_told_11 rfl ?_
    refine wp_tableAt (0) (off := 28) (tgt := 40) dX4_told_12 (by decide) (by decide) rfl (by decide) (fun hc => ?_) (fun hc => ?_)
    · skip
      first | refine wp_aload_n dX4_told_40 rfl ?_ | refine wp_aload_nN dX4_told_40 rfl ?_
      refine wp_iload_n dX4_told_41 rfl ?_
      refine wp_callV (as := [_]) (s_X4_key hS hI hs x) dX4_told_42 mk_X4_key ab_k5 rfl ml_Row_41 im_X4_key se_X4_key (Nat.le_of_ble_eq_true rfl) rfl (by assumption) ⟨by decide, by decide, Nat.zero_le _, Nat.zero_le _⟩ (Nat.le_of_ble_eq_true rfl) rfl (fun v h hp => ?_)
      obtain ⟨rfl, rfl⟩ := hp
      refine wp_ret dX4_told_45 rfl (by first | trivial | exact Or.inl rfl | exact Or.inr rfl | assumption) ?_
      exact ⟨rfl, by rw [if_pos hx, if_pos hc, rk_1, if_pos hx]⟩
    refine wp_tableAt (1) (off := 34) (tgt := 46) dX4_told_12 (by decide) (by decide) rfl (by decide) (fun hc => ?_) (fun hc => ?_)
    · skip
      first | refine wp_aload_n dX4_told_46 rfl ?_ | refine wp_aload_nN dX4_told_46 rfl ?_
      refine wp_iload_n dX4_told_47 rfl ?_
      refine wp_callV (as := [_]) (s_X4_number hS hI hs x) dX4_told_48 mk_X4_number ab_k5 rfl ml_Row_44 im_X4_number se_X4_number (Nat.le_of_ble_eq_true rfl) rfl (by assumption) ⟨by decide, by decide, Nat.zero_le _, Nat.zero_le _⟩ (Nat.le_of_ble_eq_true rfl) rfl (fun v h hp => ?_)
      obtain ⟨rfl, rfl⟩ := hp
      refine wp_ret dX4_told_51 rfl (by first | trivial | exact Or.inl rfl | exact Or.inr rfl | assumption) ?_
      exact ⟨rfl, by rw [if_pos hx, if_neg (by omega), if_pos hc, rk_2, if_pos hx]⟩
    refine wp_tableAt (2) (off := 40) (tgt := 52) dX4_told_12 (by decide) (by decide) rfl (by decide) (fun hc => ?_) (fun hc => ?_)
    · skip
      first | refine wp_aload_n dX4_told_52 rfl ?_ | refine wp_aload_nN dX4_told_52 rfl ?_
      refine wp_iload_n dX4_told_53 rfl ?_
      refine wp_callV (as := [_]) (s_X4_value hS hI hs x) dX4_told_54 mk_X4_value ab_k5 rfl ml_Row_32 im_X4_value se_X4_value (Nat.le_of_ble_eq_true rfl) rfl (by assumption) ⟨by decide, by decide, Nat.zero_le _, Nat.zero_le _⟩ (Nat.le_of_ble_eq_true rfl) rfl (fun v h hp => ?_)
      obtain ⟨rfl, rfl⟩ := hp
      refine wp_ret dX4_told_57 rfl (by first | trivial | exact Or.inl rfl | exact Or.inr rfl | assumption) ?_
      exact ⟨rfl, by rw [if_pos hx, if_neg (by omega), if_neg (by omega), if_pos hc, rk_3, if_pos hx]⟩
    refine wp_tableOut (tgt := 58) dX4_told_12 (by omega) (by decide) ?_
    refine wp_ldc (v := -1000002) dX4_told_58 cn_Row_40 ?_
    refine wp_ret dX4_told_60 rfl (by first | trivial | exact Or.inl rfl | exact Or.inr rfl | assumption) ?_
    exact ⟨rfl, by rw [if_pos hx, if_neg (by omega), if_neg (by omega), if_neg (by omega)]⟩
  · have hx : ¬ (0 ≤ x.toInt ∧ x.toInt < s) := fun q => by rw [if_pos q] at hc; exact absurd hc (by decide)
    refine wp_ldc (v := -1000002) dX4_told_8 cn_Row_40 ?_
    refine wp_ret dX4_told_10 rfl (by first | trivial | exact Or.inl rfl | exact Or.inr rfl | assumption) ?_
    exact ⟨rfl, by rw [if_neg hx]⟩
theorem s_X4_setAt (hS : rw_S n S R r a b c cap) (hI : rw_I I r a b c s f) (hs : s ≤ cap) (x k nu v : Int32) (h0 : 0 ≤ x.toInt) (h1 : x.toInt < s) : wp 1 21 0 0 MX4_setAt 0 [(0, .ref r), (1, .int x), (2, .int k), (3, .int nu), (4, .int v)] [] (n, S, R, I) (fun w h => w = none ∧ ∃ I', h = (n, S, R, I') ∧ ab_fr I I' [a, b, c] ∧ rw_I I' r a b c s (va_up f x.toInt.toNat (k, nu, v))) := by
  obtain ⟨o0, q0, q1, q2, o1, o2, o3, z1, z2, z3, d1, d2, d3, hcap⟩ := id hS
  first | refine wp_aload_n dX4_setAt_0 rfl ?_ | refine wp_aload_nN dX4_setAt_0 rfl ?_
  refine wp_iload_n dX4_setAt_1 rfl ?_
  refine wp_callV (as := [_]) (s_X4_has hS hI.1 hs x) dX4_setAt_2 mk_X4_has ab_k5 rfl ml_Row_36 im_X4_has se_X4_has (Nat.le_of_ble_eq_true rfl) rfl (by assumption) ⟨by decide, by decide, Nat.zero_le _, Nat.zero_le _⟩ (Nat.le_of_ble_eq_true rfl) rfl (fun v h hp => ?_)
  obtain ⟨rfl, rfl⟩ := hp
  rw [if_pos ⟨h0, h1⟩]
  refine wp_if_eq (tgt := 30) dX4_setAt_5 (by decide) (fun hc => ?_) (fun hc => ?_)
  · exact absurd hc (by decide)
  · skip
    first | refine wp_aload_n dX4_setAt_8 rfl ?_ | refine wp_aload_nN dX4_setAt_8 rfl ?_
    refine wp_getR dX4_setAt_9 fl_Row_15 (by assumption) rfl (by assumption) ?_
    refine wp_iload_n dX4_setAt_12 rfl ?_
    refine wp_iload_n dX4_setAt_13 rfl ?_
    refine wp_iastore dX4_setAt_14 (by assumption) (in_I h0 (by rw [z1]; omega)) ?_
    first | refine wp_aload_n dX4_setAt_15 rfl ?_ | refine wp_aload_nN dX4_setAt_15 rfl ?_
    refine wp_getR dX4_setAt_16 fl_Row_21 (by assumption) rfl (by assumption) ?_
    refine wp_iload_n dX4_setAt_19 rfl ?_
    refine wp_iload_n dX4_setAt_20 rfl ?_
    refine wp_iastore dX4_setAt_21 (by assumption) (in_I h0 (by rw [z2]; omega)) ?_
    first | refine wp_aload_n dX4_setAt_22 rfl ?_ | refine wp_aload_nN dX4_setAt_22 rfl ?_
    refine wp_getR dX4_setAt_23 fl_Row_24 (by assumption) rfl (by assumption) ?_
    refine wp_iload_n dX4_setAt_26 rfl ?_
    refine wp_iload dX4_setAt_27 rfl ?_
    refine wp_iastore dX4_setAt_29 (by assumption) (in_I h0 (by rw [z3]; omega)) ?_
    refine wp_retv dX4_setAt_30 rfl ?_
    exact ⟨rfl, _, rfl, ((ab_fr.u2 (by simp)).tr1 (ab_fr.u2 (by simp))).tr1 (ab_fr.u2 (by simp)), hI.set (e := (k, nu, v)) d1 d2 d3 (ab_ok_ne o0 o1 (by decide)) (ab_ok_ne o0 o2 (by decide)) (ab_ok_ne o0 o3 (by decide))⟩
theorem s_X4_copyTo {r' a' b' c' cap' s' : Nat} {f' : Nat → En} (hS : rw_S n S R r a b c cap) (hI : rw_I I r a b c s f) (hs : s ≤ cap) (hS' : rw_S n S R r' a' b' c' cap') (hI' : rw_I I r' a' b' c' s' f') (hs' : s' ≤ cap') (x y : Int32) (h0 : 0 ≤ x.toInt) (h1 : x.toInt < s) (g0 : 0 ≤ y.toInt) (g1 : y.toInt < s') :
    wp 2 45 0 0 MX4_copyTo 0 [(0, .ref r), (1, .int x), (2, .ref r'), (3, .int y)] [] (n, S, R, I) (fun w h => w = none ∧ ∃ I', h = (n, S, R, I') ∧ ab_fr I I' [a, b, c] ∧ rw_I I' r a b c s (va_up f x.toInt.toNat (f' y.toInt.toNat))) := by
  have o0 := hS.1
  have o0' := hS'.1
  first | refine wp_aload_n dX4_copyTo_0 rfl ?_ | refine wp_aload_nN dX4_copyTo_0 rfl ?_
  refine wp_iload_n dX4_copyTo_1 rfl ?_
  first | refine wp_aload_n dX4_copyTo_2 rfl ?_ | refine wp_aload_nN dX4_copyTo_2 rfl ?_
  refine wp_iload_n dX4_copyTo_3 rfl ?_
  refine wp_callV (as := [_]) (s_X4_key hS' hI' hs' y) dX4_copyTo_4 mk_X4_key ab_k5 rfl ml_Row_41 im_X4_key se_X4_key (Nat.le_of_ble_eq_true rfl) rfl (by assumption) ⟨by decide, by decide, Nat.zero_le _, Nat.zero_le _⟩ (Nat.le_of_ble_eq_true rfl) rfl (fun v h hp => ?_)
  obtain ⟨rfl, rfl⟩ := hp
  first | refine wp_aload_n dX4_copyTo_7 rfl ?_ | refine wp_aload_nN dX4_copyTo_7 rfl ?_
  refine wp_iload_n dX4_copyTo_8 rfl ?_
  refine wp_callV (as := [_]) (s_X4_number hS' hI' hs' y) dX4_copyTo_9 mk_X4_number ab_k5 rfl ml_Row_44 im_X4_number se_X4_number (Nat.le_of_ble_eq_true rfl) rfl (by assumption) ⟨by decide, by decide, Nat.zero_le _, Nat.zero_le _⟩ (Nat.le_of_ble_eq_true rfl) rfl (fun v h hp => ?_)
  obtain ⟨rfl, rfl⟩ := hp
  first | refine wp_aload_n dX4_copyTo_12 rfl ?_ | refine wp_aload_nN dX4_copyTo_12 rfl ?_
  refine wp_iload_n dX4_copyTo_13 rfl ?_
  refine wp_callV (as := [_]) (s_X4_value hS' hI' hs' y) dX4_copyTo_14 mk_X4_value ab_k5 rfl ml_Row_32 im_X4_value se_X4_value (Nat.le_of_ble_eq_true rfl) rfl (by assumption) ⟨by decide, by decide, Nat.zero_le _, Nat.zero_le _⟩ (Nat.le_of_ble_eq_true rfl) rfl (fun v h hp => ?_)
  obtain ⟨rfl, rfl⟩ := hp
  refine wp_callV (as := [_, _, _, _]) (s_X4_setAt hS hI hs x _ _ _ h0 h1) dX4_copyTo_17 mk_X4_setAt ab_k5 rfl ml_Row_47 im_X4_setAt se_X4_setAt (Nat.le_of_ble_eq_true rfl) rfl (by assumption) ⟨by decide, by decide, Nat.zero_le _, Nat.zero_le _⟩ (Nat.le_of_ble_eq_true rfl) rfl (fun v h hp => ?_)
  obtain ⟨rfl, I', rfl, hf, hr⟩ := hp
  refine wp_retv dX4_copyTo_20 rfl ?_
  refine ⟨rfl, I', rfl, hf, ?_⟩
  rw [rk_1, rk_2, rk_3, if_pos ⟨g0, g1⟩, if_pos ⟨g0, g1⟩, if_pos ⟨g0, g1⟩] at hr
  exact hr
theorem s_X4_add (hS : rw_S n S R r a b c cap) (hI : rw_I I r a b c s f) (hs : s < cap) (k nu v : Int32) : wp 2 45 0 0 MX4_add 0 [(0, .ref r), (1, .int k), (2, .int nu), (3, .int v)] [] (n, S, R, I) (fun w h => w = none ∧ ∃ I', h = (n, S, R, I') ∧ ab_fr I I' [r, a, b, c] ∧ rw_I I' r a b c (s + 1) (va_up f s (k, nu, v))) := by
  obtain ⟨o0, q0, q1, q2, o1, o2, o3, z1, z2, z3, d1, d2, d3, hcap⟩ := id hS
  have e1 : I r 3 + 1 = nI (s + 1) := by rw [hI.1]; exact nI_1 s
  have e2 : I r 3 + 1 - 1 = nI s := by rw [e1]; exact nI_pred s
  have hI2 : rw_I (ab_u2 I r 3 (I r 3 + 1)) r a b c (s + 1) f := hI.size e1 (ab_ok_ne o1 o0 (by decide)) (ab_ok_ne o2 o0 (by decide)) (ab_ok_ne o3 o0 (by decide))
  first | refine wp_aload_n dX4_add_0 rfl ?_ | refine wp_aload_nN dX4_add_0 rfl ?_
  refine wp_getI dX4_add_1 fl_Row_27 (by assumption) rfl ?_
  first | refine wp_aload_n dX4_add_4 rfl ?_ | refine wp_aload_nN dX4_add_4 rfl ?_
  refine wp_getR dX4_add_5 fl_Row_15 (by assumption) rfl (by assumption) ?_
  first | refine wp_alen dX4_add_8 (Or.inl (by assumption)) ?_ | refine wp_alen dX4_add_8 (Or.inr (Or.inl (by assumption))) ?_ | refine wp_alen dX4_add_8 (Or.inr (Or.inr (Or.inl (by assumption)))) ?_ | refine wp_alen dX4_add_8 (Or.inr (Or.inr (Or.inr (by assumption)))) ?_
  refine wp_icmp_ge (tgt := 35) dX4_add_9 (by decide) (fun hc => ?_) (fun hc => ?_)
  · exact absurd hc (by rw [hI.1, tI_n (by omega), tI_o (by omega), z1]; omega)
  · skip
    first | refine wp_aload_n dX4_add_12 rfl ?_ | refine wp_aload_nN dX4_add_12 rfl ?_
    refine wp_dup dX4_add_13 rfl ?_
    refine wp_getI dX4_add_14 fl_Row_27 (by assumption) rfl ?_
    refine wp_iconst (v := 1) dX4_add_17 (by decide) ?_
    refine wp_iadd dX4_add_18 ?_
    refine wp_putI dX4_add_19 fl_Row_27 (by assumption) rfl rfl (Or.inl rfl) ?_
    first | refine wp_aload_n dX4_add_22 rfl ?_ | refine wp_aload_nN dX4_add_22 rfl ?_
    first | refine wp_aload_n dX4_add_23 rfl ?_ | refine wp_aload_nN dX4_add_23 rfl ?_
    refine wp_getI dX4_add_24 fl_Row_27 (by assumption) rfl ?_
    refine wp_iconst (v := 1) dX4_add_27 (by decide) ?_
    refine wp_isub dX4_add_28 ?_
    rw [ab_u2_s, e2]
    refine wp_iload_n dX4_add_29 rfl ?_
    refine wp_iload_n dX4_add_30 rfl ?_
    refine wp_iload_n dX4_add_31 rfl ?_
    refine wp_callV (as := [_, _, _, _]) (s_X4_setAt hS hI2 hs (nI s) k nu v (by rw [tI_n (by omega)]; omega) (by rw [tI_n (by omega)]; omega)) dX4_add_32 mk_X4_setAt ab_k5 rfl ml_Row_47 im_X4_setAt se_X4_setAt (Nat.le_of_ble_eq_true rfl) rfl (by assumption) ⟨by decide, by decide, Nat.zero_le _, Nat.zero_le _⟩ (Nat.le_of_ble_eq_true rfl) rfl (fun v h hp => ?_)
    obtain ⟨rfl, I', rfl, hf, hr⟩ := hp
    refine wp_retv dX4_add_35 rfl ?_
    refine ⟨rfl, I', rfl, (ab_fr.u2 (by simp)).tr hf (fun _ q => q) (by simp), ?_⟩
    rw [tI_n (by omega)] at hr
    exact hr
end ROW
end
