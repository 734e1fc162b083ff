section
-- ===== PART A: goes FIRST, ahead of the names: the tables' words, and 'selects' of the private methods out of them =====
/-- a private method of a class that the tables say can be made, by its rows of tables_1 -/
def lw_okq (q : MethodName × Nat) : Prop := (q.1.cls ≠ "java/lang/invoke/MethodHandle" ∧ q.1.cls ≠ "java/lang/invoke/VarHandle") ∧ Cond.instantiable q.1.cls q.2 ∈ tables_1 ∧ Cond.privateMethod q.1 ∈ tables_1 ∧ Cond.instanceMethod q.1 ∈ tables_1
theorem lw_p0 : lw_okq (⟨"LevelStore", "write", "(II)I"⟩, 10) := ⟨⟨by decide +kernel, by decide +kernel⟩, List.mem_of_getElem? (i := 19) (by decide +kernel), List.mem_of_getElem? (i := 231) (by decide +kernel), List.mem_of_getElem? (i := 232) (by decide +kernel)⟩
theorem lw_p1 : lw_okq (⟨"LevelStore", "giveUpJob", "()I"⟩, 10) := ⟨⟨by decide +kernel, by decide +kernel⟩, List.mem_of_getElem? (i := 19) (by decide +kernel), List.mem_of_getElem? (i := 262) (by decide +kernel), List.mem_of_getElem? (i := 263) (by decide +kernel)⟩
theorem lw_p2 : lw_okq (⟨"LevelStore", "retire", "(LLevelStore$FileRow;II)V"⟩, 10) := ⟨⟨by decide +kernel, by decide +kernel⟩, List.mem_of_getElem? (i := 19) (by decide +kernel), List.mem_of_getElem? (i := 274) (by decide +kernel), List.mem_of_getElem? (i := 275) (by decide +kernel)⟩
theorem lw_p3 : lw_okq (⟨"java/util/ArrayList", "fastRemove", "([Ljava/lang/Object;I)V"⟩, 3) := ⟨⟨by decide +kernel, by decide +kernel⟩, List.mem_of_getElem? (i := 63) (by decide +kernel), List.mem_of_getElem? (i := 292) (by decide +kernel), List.mem_of_getElem? (i := 293) (by decide +kernel)⟩
theorem lw_p4 : lw_okq (⟨"LevelStore$Field", "mark", "(LLevelStore$SortedFile;Z)V"⟩, 4) := ⟨⟨by decide +kernel, by decide +kernel⟩, List.mem_of_getElem? (i := 93) (by decide +kernel), List.mem_of_getElem? (i := 304) (by decide +kernel), List.mem_of_getElem? (i := 305) (by decide +kernel)⟩
theorem lw_p5 : lw_okq (⟨"java/util/ArrayList", "rangeCheckForAdd", "(I)V"⟩, 3) := ⟨⟨by decide +kernel, by decide +kernel⟩, List.mem_of_getElem? (i := 63) (by decide +kernel), List.mem_of_getElem? (i := 324) (by decide +kernel), List.mem_of_getElem? (i := 325) (by decide +kernel)⟩
theorem lw_p6 : lw_okq (⟨"java/util/ArrayList", "grow", "()[Ljava/lang/Object;"⟩, 3) := ⟨⟨by decide +kernel, by decide +kernel⟩, List.mem_of_getElem? (i := 63) (by decide +kernel), List.mem_of_getElem? (i := 328) (by decide +kernel), List.mem_of_getElem? (i := 329) (by decide +kernel)⟩
theorem lw_p7 : lw_okq (⟨"java/util/ArrayList", "grow", "(I)[Ljava/lang/Object;"⟩, 3) := ⟨⟨by decide +kernel, by decide +kernel⟩, List.mem_of_getElem? (i := 63) (by decide +kernel), List.mem_of_getElem? (i := 332) (by decide +kernel), List.mem_of_getElem? (i := 333) (by decide +kernel)⟩
theorem lw_p8 : lw_okq (⟨"LevelStore", "greatestNumberLeft", "()I"⟩, 10) := ⟨⟨by decide +kernel, by decide +kernel⟩, List.mem_of_getElem? (i := 19) (by decide +kernel), List.mem_of_getElem? (i := 384) (by decide +kernel), List.mem_of_getElem? (i := 385) (by decide +kernel)⟩
theorem lw_p9 : lw_okq (⟨"LevelStore", "readUpTo", "(II)I"⟩, 10) := ⟨⟨by decide +kernel, by decide +kernel⟩, List.mem_of_getElem? (i := 19) (by decide +kernel), List.mem_of_getElem? (i := 420) (by decide +kernel), List.mem_of_getElem? (i := 421) (by decide +kernel)⟩
theorem lw_p10 : lw_okq (⟨"LevelStore", "readAll", "()V"⟩, 10) := ⟨⟨by decide +kernel, by decide +kernel⟩, List.mem_of_getElem? (i := 19) (by decide +kernel), List.mem_of_getElem? (i := 431) (by decide +kernel), List.mem_of_getElem? (i := 432) (by decide +kernel)⟩
theorem lw_p11 : lw_okq (⟨"LevelStore", "isHeld", "(I)Z"⟩, 10) := ⟨⟨by decide +kernel, by decide +kernel⟩, List.mem_of_getElem? (i := 19) (by decide +kernel), List.mem_of_getElem? (i := 474) (by decide +kernel), List.mem_of_getElem? (i := 475) (by decide +kernel)⟩
theorem lw_p12 : lw_okq (⟨"LevelStore", "numberOfView", "(I)I"⟩, 10) := ⟨⟨by decide +kernel, by decide +kernel⟩, List.mem_of_getElem? (i := 19) (by decide +kernel), List.mem_of_getElem? (i := 478) (by decide +kernel), List.mem_of_getElem? (i := 479) (by decide +kernel)⟩
theorem lw_p13 : lw_okq (⟨"LevelStore", "isView", "(I)Z"⟩, 10) := ⟨⟨by decide +kernel, by decide +kernel⟩, List.mem_of_getElem? (i := 19) (by decide +kernel), List.mem_of_getElem? (i := 482) (by decide +kernel), List.mem_of_getElem? (i := 483) (by decide +kernel)⟩
theorem lw_p14 : lw_okq (⟨"LevelStore", "levelAt", "(I)LLevelStore$FileRow;"⟩, 10) := ⟨⟨by decide +kernel, by decide +kernel⟩, List.mem_of_getElem? (i := 19) (by decide +kernel), List.mem_of_getElem? (i := 516) (by decide +kernel), List.mem_of_getElem? (i := 517) (by decide +kernel)⟩
theorem lw_p15 : lw_okq (⟨"LevelStore$Job", "isFirstOfKey", "(I)Z"⟩, 12) := ⟨⟨by decide +kernel, by decide +kernel⟩, List.mem_of_getElem? (i := 136) (by decide +kernel), List.mem_of_getElem? (i := 541) (by decide +kernel), List.mem_of_getElem? (i := 542) (by decide +kernel)⟩
def lw_privs_1 : List (MethodName × Nat) := [(⟨"LevelStore", "write", "(II)I"⟩, 10), (⟨"LevelStore", "giveUpJob", "()I"⟩, 10), (⟨"LevelStore", "retire", "(LLevelStore$FileRow;II)V"⟩, 10), (⟨"java/util/ArrayList", "fastRemove", "([Ljava/lang/Object;I)V"⟩, 3), (⟨"LevelStore$Field", "mark", "(LLevelStore$SortedFile;Z)V"⟩, 4), (⟨"java/util/ArrayList", "rangeCheckForAdd", "(I)V"⟩, 3), (⟨"java/util/ArrayList", "grow", "()[Ljava/lang/Object;"⟩, 3), (⟨"java/util/ArrayList", "grow", "(I)[Ljava/lang/Object;"⟩, 3), (⟨"LevelStore", "greatestNumberLeft", "()I"⟩, 10), (⟨"LevelStore", "readUpTo", "(II)I"⟩, 10), (⟨"LevelStore", "readAll", "()V"⟩, 10), (⟨"LevelStore", "isHeld", "(I)Z"⟩, 10), (⟨"LevelStore", "numberOfView", "(I)I"⟩, 10), (⟨"LevelStore", "isView", "(I)Z"⟩, 10), (⟨"LevelStore", "levelAt", "(I)LLevelStore$FileRow;"⟩, 10), (⟨"LevelStore$Job", "isFirstOfKey", "(I)Z"⟩, 12)]
theorem lw_r1 : ∀ q ∈ lw_privs_1, lw_okq q := List.forall_mem_cons.mpr ⟨lw_p0, List.forall_mem_cons.mpr ⟨lw_p1, List.forall_mem_cons.mpr ⟨lw_p2, List.forall_mem_cons.mpr ⟨lw_p3, List.forall_mem_cons.mpr ⟨lw_p4, List.forall_mem_cons.mpr ⟨lw_p5, List.forall_mem_cons.mpr ⟨lw_p6, List.forall_mem_cons.mpr ⟨lw_p7, List.forall_mem_cons.mpr ⟨lw_p8, List.forall_mem_cons.mpr ⟨lw_p9, List.forall_mem_cons.mpr ⟨lw_p10, List.forall_mem_cons.mpr ⟨lw_p11, List.forall_mem_cons.mpr ⟨lw_p12, List.forall_mem_cons.mpr ⟨lw_p13, List.forall_mem_cons.mpr ⟨lw_p14, List.forall_mem_cons.mpr ⟨lw_p15, fun _ h => absurd h List.not_mem_nil⟩⟩⟩⟩⟩⟩⟩⟩⟩⟩⟩⟩⟩⟩⟩⟩
theorem lw_p16 : lw_okq (⟨"LevelStore$Job", "isSeen", "(I[I)Z"⟩, 12) := ⟨⟨by decide +kernel, by decide +kernel⟩, List.mem_of_getElem? (i := 136) (by decide +kernel), List.mem_of_getElem? (i := 546) (by decide +kernel), List.mem_of_getElem? (i := 547) (by decide +kernel)⟩
theorem lw_p17 : lw_okq (⟨"LevelStore$Job", "leaveOutGraves", "()V"⟩, 12) := ⟨⟨by decide +kernel, by decide +kernel⟩, List.mem_of_getElem? (i := 136) (by decide +kernel), List.mem_of_getElem? (i := 551) (by decide +kernel), List.mem_of_getElem? (i := 552) (by decide +kernel)⟩
theorem lw_p18 : lw_okq (⟨"LevelStore$Job", "isLastOfKey", "(I)Z"⟩, 12) := ⟨⟨by decide +kernel, by decide +kernel⟩, List.mem_of_getElem? (i := 136) (by decide +kernel), List.mem_of_getElem? (i := 556) (by decide +kernel), List.mem_of_getElem? (i := 557) (by decide +kernel)⟩
theorem lw_p19 : lw_okq (⟨"LevelStore", "doOneEntry", "()Z"⟩, 10) := ⟨⟨by decide +kernel, by decide +kernel⟩, List.mem_of_getElem? (i := 19) (by decide +kernel), List.mem_of_getElem? (i := 604) (by decide +kernel), List.mem_of_getElem? (i := 605) (by decide +kernel)⟩
theorem lw_p20 : lw_okq (⟨"LevelStore", "endFile", "()Z"⟩, 10) := ⟨⟨by decide +kernel, by decide +kernel⟩, List.mem_of_getElem? (i := 19) (by decide +kernel), List.mem_of_getElem? (i := 616) (by decide +kernel), List.mem_of_getElem? (i := 617) (by decide +kernel)⟩
theorem lw_p21 : lw_okq (⟨"LevelStore", "freshFile", "()LLevelStore$SortedFile;"⟩, 10) := ⟨⟨by decide +kernel, by decide +kernel⟩, List.mem_of_getElem? (i := 19) (by decide +kernel), List.mem_of_getElem? (i := 620) (by decide +kernel), List.mem_of_getElem? (i := 621) (by decide +kernel)⟩
theorem lw_p22 : lw_okq (⟨"LevelStore$Field", "encode", "(LLevelStore$Row;)V"⟩, 4) := ⟨⟨by decide +kernel, by decide +kernel⟩, List.mem_of_getElem? (i := 93) (by decide +kernel), List.mem_of_getElem? (i := 660) (by decide +kernel), List.mem_of_getElem? (i := 661) (by decide +kernel)⟩
theorem lw_p23 : lw_okq (⟨"LevelStore$Field", "emit", "(I)V"⟩, 4) := ⟨⟨by decide +kernel, by decide +kernel⟩, List.mem_of_getElem? (i := 93) (by decide +kernel), List.mem_of_getElem? (i := 664) (by decide +kernel), List.mem_of_getElem? (i := 665) (by decide +kernel)⟩
theorem lw_p24 : lw_okq (⟨"LevelStore$Field", "emitShort", "(I)V"⟩, 4) := ⟨⟨by decide +kernel, by decide +kernel⟩, List.mem_of_getElem? (i := 93) (by decide +kernel), List.mem_of_getElem? (i := 669) (by decide +kernel), List.mem_of_getElem? (i := 670) (by decide +kernel)⟩
theorem lw_p25 : lw_okq (⟨"LevelStore$Field", "sumOfCode", "()I"⟩, 4) := ⟨⟨by decide +kernel, by decide +kernel⟩, List.mem_of_getElem? (i := 93) (by decide +kernel), List.mem_of_getElem? (i := 679) (by decide +kernel), List.mem_of_getElem? (i := 680) (by decide +kernel)⟩
theorem lw_p26 : lw_okq (⟨"LevelStore$Field", "firstRoom", "(I)I"⟩, 4) := ⟨⟨by decide +kernel, by decide +kernel⟩, List.mem_of_getElem? (i := 93) (by decide +kernel), List.mem_of_getElem? (i := 683) (by decide +kernel), List.mem_of_getElem? (i := 684) (by decide +kernel)⟩
theorem lw_p27 : lw_okq (⟨"LevelStore", "loseFirstLogged", "(I)V"⟩, 10) := ⟨⟨by decide +kernel, by decide +kernel⟩, List.mem_of_getElem? (i := 19) (by decide +kernel), List.mem_of_getElem? (i := 692) (by decide +kernel), List.mem_of_getElem? (i := 693) (by decide +kernel)⟩
theorem lw_p28 : lw_okq (⟨"LevelStore", "fileAt", "(II)LLevelStore$SortedFile;"⟩, 10) := ⟨⟨by decide +kernel, by decide +kernel⟩, List.mem_of_getElem? (i := 19) (by decide +kernel), List.mem_of_getElem? (i := 713) (by decide +kernel), List.mem_of_getElem? (i := 714) (by decide +kernel)⟩
theorem lw_p29 : lw_okq (⟨"LevelStore", "filesInForce", "()I"⟩, 10) := ⟨⟨by decide +kernel, by decide +kernel⟩, List.mem_of_getElem? (i := 19) (by decide +kernel), List.mem_of_getElem? (i := 741) (by decide +kernel), List.mem_of_getElem? (i := 742) (by decide +kernel)⟩
theorem lw_p30 : lw_okq (⟨"LevelStore", "bytesInForce", "()I"⟩, 10) := ⟨⟨by decide +kernel, by decide +kernel⟩, List.mem_of_getElem? (i := 19) (by decide +kernel), List.mem_of_getElem? (i := 745) (by decide +kernel), List.mem_of_getElem? (i := 746) (by decide +kernel)⟩
theorem lw_p31 : lw_okq (⟨"LevelStore", "entriesInForce", "()I"⟩, 10) := ⟨⟨by decide +kernel, by decide +kernel⟩, List.mem_of_getElem? (i := 19) (by decide +kernel), List.mem_of_getElem? (i := 753) (by decide +kernel), List.mem_of_getElem? (i := 754) (by decide +kernel)⟩
def lw_privs_2 : List (MethodName × Nat) := [(⟨"LevelStore$Job", "isSeen", "(I[I)Z"⟩, 12), (⟨"LevelStore$Job", "leaveOutGraves", "()V"⟩, 12), (⟨"LevelStore$Job", "isLastOfKey", "(I)Z"⟩, 12), (⟨"LevelStore", "doOneEntry", "()Z"⟩, 10), (⟨"LevelStore", "endFile", "()Z"⟩, 10), (⟨"LevelStore", "freshFile", "()LLevelStore$SortedFile;"⟩, 10), (⟨"LevelStore$Field", "encode", "(LLevelStore$Row;)V"⟩, 4), (⟨"LevelStore$Field", "emit", "(I)V"⟩, 4), (⟨"LevelStore$Field", "emitShort", "(I)V"⟩, 4), (⟨"LevelStore$Field", "sumOfCode", "()I"⟩, 4), (⟨"LevelStore$Field", "firstRoom", "(I)I"⟩, 4), (⟨"LevelStore", "loseFirstLogged", "(I)V"⟩, 10), (⟨"LevelStore", "fileAt", "(II)LLevelStore$SortedFile;"⟩, 10), (⟨"LevelStore", "filesInForce", "()I"⟩, 10), (⟨"LevelStore", "bytesInForce", "()I"⟩, 10), (⟨"LevelStore", "entriesInForce", "()I"⟩, 10)]
theorem lw_r2 : ∀ q ∈ lw_privs_2, lw_okq q := List.forall_mem_cons.mpr ⟨lw_p16, List.forall_mem_cons.mpr ⟨lw_p17, List.forall_mem_cons.mpr ⟨lw_p18, List.forall_mem_cons.mpr ⟨lw_p19, List.forall_mem_cons.mpr ⟨lw_p20, List.forall_mem_cons.mpr ⟨lw_p21, List.forall_mem_cons.mpr ⟨lw_p22, List.forall_mem_cons.mpr ⟨lw_p23, List.forall_mem_cons.mpr ⟨lw_p24, List.forall_mem_cons.mpr ⟨lw_p25, List.forall_mem_cons.mpr ⟨lw_p26, List.forall_mem_cons.mpr ⟨lw_p27, List.forall_mem_cons.mpr ⟨lw_p28, List.forall_mem_cons.mpr ⟨lw_p29, List.forall_mem_cons.mpr ⟨lw_p30, List.forall_mem_cons.mpr ⟨lw_p31, fun _ h => absurd h List.not_mem_nil⟩⟩⟩⟩⟩⟩⟩⟩⟩⟩⟩⟩⟩⟩⟩⟩
theorem lw_p32 : lw_okq (⟨"LevelStoreModel", "write", "(II)I"⟩, 41) := ⟨⟨by decide +kernel, by decide +kernel⟩, List.mem_of_getElem? (i := 769) (by decide +kernel), List.mem_of_getElem? (i := 910) (by decide +kernel), List.mem_of_getElem? (i := 911) (by decide +kernel)⟩
theorem lw_p33 : lw_okq (⟨"LevelStoreModel", "giveUp", "()I"⟩, 41) := ⟨⟨by decide +kernel, by decide +kernel⟩, List.mem_of_getElem? (i := 769) (by decide +kernel), List.mem_of_getElem? (i := 929) (by decide +kernel), List.mem_of_getElem? (i := 930) (by decide +kernel)⟩
theorem lw_p34 : lw_okq (⟨"LevelStoreModel", "read", "(II)I"⟩, 41) := ⟨⟨by decide +kernel, by decide +kernel⟩, List.mem_of_getElem? (i := 769) (by decide +kernel), List.mem_of_getElem? (i := 937) (by decide +kernel), List.mem_of_getElem? (i := 938) (by decide +kernel)⟩
theorem lw_p35 : lw_okq (⟨"LevelStoreModel", "noView", "(I)Z"⟩, 41) := ⟨⟨by decide +kernel, by decide +kernel⟩, List.mem_of_getElem? (i := 769) (by decide +kernel), List.mem_of_getElem? (i := 946) (by decide +kernel), List.mem_of_getElem? (i := 947) (by decide +kernel)⟩
theorem lw_p36 : lw_okq (⟨"LevelStoreModel", "begin", "(I)V"⟩, 41) := ⟨⟨by decide +kernel, by decide +kernel⟩, List.mem_of_getElem? (i := 769) (by decide +kernel), List.mem_of_getElem? (i := 969) (by decide +kernel), List.mem_of_getElem? (i := 970) (by decide +kernel)⟩
theorem lw_p37 : lw_okq (⟨"LevelStoreModel", "source", "(III)V"⟩, 41) := ⟨⟨by decide +kernel, by decide +kernel⟩, List.mem_of_getElem? (i := 769) (by decide +kernel), List.mem_of_getElem? (i := 973) (by decide +kernel), List.mem_of_getElem? (i := 974) (by decide +kernel)⟩
theorem lw_p38 : lw_okq (⟨"LevelStoreModel", "listLevel", "(I)V"⟩, 41) := ⟨⟨by decide +kernel, by decide +kernel⟩, List.mem_of_getElem? (i := 769) (by decide +kernel), List.mem_of_getElem? (i := 981) (by decide +kernel), List.mem_of_getElem? (i := 982) (by decide +kernel)⟩
theorem lw_p39 : lw_okq (⟨"LevelStoreModel", "least", "(I)I"⟩, 41) := ⟨⟨by decide +kernel, by decide +kernel⟩, List.mem_of_getElem? (i := 769) (by decide +kernel), List.mem_of_getElem? (i := 985) (by decide +kernel), List.mem_of_getElem? (i := 986) (by decide +kernel)⟩
theorem lw_p40 : lw_okq (⟨"LevelStoreModel", "greatest", "(I)I"⟩, 41) := ⟨⟨by decide +kernel, by decide +kernel⟩, List.mem_of_getElem? (i := 769) (by decide +kernel), List.mem_of_getElem? (i := 989) (by decide +kernel), List.mem_of_getElem? (i := 990) (by decide +kernel)⟩
theorem lw_p41 : lw_okq (⟨"LevelStoreModel", "sourceFile", "(I)V"⟩, 41) := ⟨⟨by decide +kernel, by decide +kernel⟩, List.mem_of_getElem? (i := 769) (by decide +kernel), List.mem_of_getElem? (i := 993) (by decide +kernel), List.mem_of_getElem? (i := 994) (by decide +kernel)⟩
theorem lw_p42 : lw_okq (⟨"LevelStoreModel", "does", "(I)Z"⟩, 41) := ⟨⟨by decide +kernel, by decide +kernel⟩, List.mem_of_getElem? (i := 769) (by decide +kernel), List.mem_of_getElem? (i := 1002) (by decide +kernel), List.mem_of_getElem? (i := 1003) (by decide +kernel)⟩
theorem lw_p43 : lw_okq (⟨"LevelStoreModel", "isLeftOut", "(I)Z"⟩, 41) := ⟨⟨by decide +kernel, by decide +kernel⟩, List.mem_of_getElem? (i := 769) (by decide +kernel), List.mem_of_getElem? (i := 1006) (by decide +kernel), List.mem_of_getElem? (i := 1007) (by decide +kernel)⟩
theorem lw_p44 : lw_okq (⟨"LevelStoreModel", "isUnseen", "(I)Z"⟩, 41) := ⟨⟨by decide +kernel, by decide +kernel⟩, List.mem_of_getElem? (i := 769) (by decide +kernel), List.mem_of_getElem? (i := 1010) (by decide +kernel), List.mem_of_getElem? (i := 1011) (by decide +kernel)⟩
theorem lw_p45 : lw_okq (⟨"LevelStoreModel", "ends", "()Z"⟩, 41) := ⟨⟨by decide +kernel, by decide +kernel⟩, List.mem_of_getElem? (i := 769) (by decide +kernel), List.mem_of_getElem? (i := 1014) (by decide +kernel), List.mem_of_getElem? (i := 1015) (by decide +kernel)⟩
theorem lw_p46 : lw_okq (⟨"LevelStoreModel", "encode", "()V"⟩, 41) := ⟨⟨by decide +kernel, by decide +kernel⟩, List.mem_of_getElem? (i := 769) (by decide +kernel), List.mem_of_getElem? (i := 1018) (by decide +kernel), List.mem_of_getElem? (i := 1019) (by decide +kernel)⟩
theorem lw_p47 : lw_okq (⟨"LevelStoreModel", "shortNumber", "(I)V"⟩, 41) := ⟨⟨by decide +kernel, by decide +kernel⟩, List.mem_of_getElem? (i := 769) (by decide +kernel), List.mem_of_getElem? (i := 1022) (by decide +kernel), List.mem_of_getElem? (i := 1023) (by decide +kernel)⟩
def lw_privs_3 : List (MethodName × Nat) := [(⟨"LevelStoreModel", "write", "(II)I"⟩, 41), (⟨"LevelStoreModel", "giveUp", "()I"⟩, 41), (⟨"LevelStoreModel", "read", "(II)I"⟩, 41), (⟨"LevelStoreModel", "noView", "(I)Z"⟩, 41), (⟨"LevelStoreModel", "begin", "(I)V"⟩, 41), (⟨"LevelStoreModel", "source", "(III)V"⟩, 41), (⟨"LevelStoreModel", "listLevel", "(I)V"⟩, 41), (⟨"LevelStoreModel", "least", "(I)I"⟩, 41), (⟨"LevelStoreModel", "greatest", "(I)I"⟩, 41), (⟨"LevelStoreModel", "sourceFile", "(I)V"⟩, 41), (⟨"LevelStoreModel", "does", "(I)Z"⟩, 41), (⟨"LevelStoreModel", "isLeftOut", "(I)Z"⟩, 41), (⟨"LevelStoreModel", "isUnseen", "(I)Z"⟩, 41), (⟨"LevelStoreModel", "ends", "()Z"⟩, 41), (⟨"LevelStoreModel", "encode", "()V"⟩, 41), (⟨"LevelStoreModel", "shortNumber", "(I)V"⟩, 41)]
theorem lw_r3 : ∀ q ∈ lw_privs_3, lw_okq q := List.forall_mem_cons.mpr ⟨lw_p32, List.forall_mem_cons.mpr ⟨lw_p33, List.forall_mem_cons.mpr ⟨lw_p34, List.forall_mem_cons.mpr ⟨lw_p35, List.forall_mem_cons.mpr ⟨lw_p36, List.forall_mem_cons.mpr ⟨lw_p37, List.forall_mem_cons.mpr ⟨lw_p38, List.forall_mem_cons.mpr ⟨lw_p39, List.forall_mem_cons.mpr ⟨lw_p40, List.forall_mem_cons.mpr ⟨lw_p41, List.forall_mem_cons.mpr ⟨lw_p42, List.forall_mem_cons.mpr ⟨lw_p43, List.forall_mem_cons.mpr ⟨lw_p44, List.forall_mem_cons.mpr ⟨lw_p45, List.forall_mem_cons.mpr ⟨lw_p46, List.forall_mem_cons.mpr ⟨lw_p47, fun _ h => absurd h List.not_mem_nil⟩⟩⟩⟩⟩⟩⟩⟩⟩⟩⟩⟩⟩⟩⟩⟩
theorem lw_p48 : lw_okq (⟨"LevelStoreModel", "room", "(I)I"⟩, 41) := ⟨⟨by decide +kernel, by decide +kernel⟩, List.mem_of_getElem? (i := 769) (by decide +kernel), List.mem_of_getElem? (i := 1026) (by decide +kernel), List.mem_of_getElem? (i := 1027) (by decide +kernel)⟩
theorem lw_p49 : lw_okq (⟨"LevelStoreModel", "slot", "(II)I"⟩, 41) := ⟨⟨by decide +kernel, by decide +kernel⟩, List.mem_of_getElem? (i := 769) (by decide +kernel), List.mem_of_getElem? (i := 1050) (by decide +kernel), List.mem_of_getElem? (i := 1051) (by decide +kernel)⟩
theorem lw_p50 : lw_okq (⟨"LevelStoreModel", "codesAs", "(I)Z"⟩, 41) := ⟨⟨by decide +kernel, by decide +kernel⟩, List.mem_of_getElem? (i := 769) (by decide +kernel), List.mem_of_getElem? (i := 1075) (by decide +kernel), List.mem_of_getElem? (i := 1076) (by decide +kernel)⟩
def lw_privs_4 : List (MethodName × Nat) := [(⟨"LevelStoreModel", "room", "(I)I"⟩, 41), (⟨"LevelStoreModel", "slot", "(II)I"⟩, 41), (⟨"LevelStoreModel", "codesAs", "(I)Z"⟩, 41)]
theorem lw_r4 : ∀ q ∈ lw_privs_4, lw_okq q := List.forall_mem_cons.mpr ⟨lw_p48, List.forall_mem_cons.mpr ⟨lw_p49, List.forall_mem_cons.mpr ⟨lw_p50, fun _ h => absurd h List.not_mem_nil⟩⟩⟩
def lw_privs : List (MethodName × Nat) := lw_privs_1 ++ (lw_privs_2 ++ (lw_privs_3 ++ (lw_privs_4)))
def lw_tbl : List Cond := k2_sels lw_privs ++ tables_1
theorem lw_privs_ok : ∀ q ∈ lw_privs, lw_okq q := by
  show ∀ q ∈ lw_privs_1 ++ (lw_privs_2 ++ (lw_privs_3 ++ (lw_privs_4))), lw_okq q
  exact List.forall_mem_append.mpr ⟨lw_r1, List.forall_mem_append.mpr ⟨lw_r2, List.forall_mem_append.mpr ⟨lw_r3, lw_r4⟩⟩⟩
end
section
def RX0 : String := "LevelStore$Field"
def TX0 : u_T := fun k => match k with
  | 0 => ("LevelStore$Field", "bytes", "[I", true)
  | 1 => ("LevelStore$Field", "taken", "[Z", true)
  | 2 => ("LevelStore$Field", "code", "[I", true)
  | _ => ("LevelStore$Field", "codeLength", "I", false)
def tyX0 : Nat → FieldType := fun k => match k with
  | 0 => .array .int
  | 1 => .array .boolean
  | 2 => .array .int
  | _ => .int
theorem nmX0 : ∀ a, a < 4 → ∀ b, b < 4 → a ≠ b → (TX0 a).2.1 ≠ (TX0 b).2.1 := by decide +kernel
theorem tyX0_ok : ∀ k, k < 4 → parseFieldDescriptor (TX0 k).2.2.1 = some (tyX0 k) := by decide +kernel
abbrev cX0_init : ByteArray := prog_2_method_1_code
def yX0_init : MethodName := ⟨RX0, "<init>", "()V"⟩
abbrev cX0_has : ByteArray := prog_2_method_2_code
def yX0_has : MethodName := ⟨RX0, "has", "(I)Z"⟩
abbrev cX0_lay : ByteArray := prog_2_method_3_code
def yX0_lay : MethodName := ⟨RX0, "lay", "(LLevelStore$SortedFile;)Z"⟩
abbrev cX0_free : ByteArray := prog_2_method_4_code
def yX0_free : MethodName := ⟨RX0, "free", "(LLevelStore$SortedFile;)V"⟩
abbrev cX0_holds : ByteArray := prog_2_method_5_code
def yX0_holds : MethodName := ⟨RX0, "holds", "(LLevelStore$SortedFile;)Z"⟩
abbrev cX0_mark : ByteArray := prog_2_method_6_code
def yX0_mark : MethodName := ⟨RX0, "mark", "(LLevelStore$SortedFile;Z)V"⟩
abbrev cX0_firstRoom : ByteArray := prog_2_method_7_code
def yX0_firstRoom : MethodName := ⟨RX0, "firstRoom", "(I)I"⟩
abbrev cX0_encode : ByteArray := prog_2_method_8_code
def yX0_encode : MethodName := ⟨RX0, "encode", "(LLevelStore$Row;)V"⟩
abbrev cX0_folded : ByteArray := prog_2_method_9_code
def yX0_folded : MethodName := ⟨RX0, "folded", "(I)I"⟩
abbrev cX0_emitShort : ByteArray := prog_2_method_10_code
def yX0_emitShort : MethodName := ⟨RX0, "emitShort", "(I)V"⟩
abbrev cX0_emit : ByteArray := prog_2_method_11_code
def yX0_emit : MethodName := ⟨RX0, "emit", "(I)V"⟩
abbrev cX0_sumOfCode : ByteArray := prog_2_method_12_code
def yX0_sumOfCode : MethodName := ⟨RX0, "sumOfCode", "()I"⟩
def RX1 : String := "LevelStore$FileRow"
def TX1 : u_T := fun k => match k with
  | _ => ("LevelStore$FileRow", "row", "Ljava/util/ArrayList;", true)
def tyX1 : Nat → FieldType := fun k => match k with
  | _ => .object "java/util/ArrayList"
theorem nmX1 : ∀ a, a < 1 → ∀ b, b < 1 → a ≠ b → (TX1 a).2.1 ≠ (TX1 b).2.1 := by decide +kernel
theorem tyX1_ok : ∀ k, k < 1 → parseFieldDescriptor (TX1 k).2.2.1 = some (tyX1 k) := by decide +kernel
abbrev cX1_init : ByteArray := prog_3_method_1_code
def yX1_init : MethodName := ⟨RX1, "<init>", "()V"⟩
abbrev cX1_size : ByteArray := prog_3_method_2_code
def yX1_size : MethodName := ⟨RX1, "size", "()I"⟩
abbrev cX1_at : ByteArray := prog_3_method_3_code
def yX1_at : MethodName := ⟨RX1, "at", "(I)LLevelStore$SortedFile;"⟩
abbrev cX1_add : ByteArray := prog_3_method_4_code
def yX1_add : MethodName := ⟨RX1, "add", "(LLevelStore$SortedFile;)V"⟩
abbrev cX1_insert : ByteArray := prog_3_method_5_code
def yX1_insert : MethodName := ⟨RX1, "insert", "(ILLevelStore$SortedFile;)V"⟩
abbrev cX1_takeOut : ByteArray := prog_3_method_6_code
def yX1_takeOut : MethodName := ⟨RX1, "takeOut", "(I)LLevelStore$SortedFile;"⟩
abbrev cX1_empty : ByteArray := prog_3_method_7_code
def yX1_empty : MethodName := ⟨RX1, "empty", "()V"⟩
abbrev cX1_leastKey : ByteArray := prog_3_method_8_code
def yX1_leastKey : MethodName := ⟨RX1, "leastKey", "(II)I"⟩
abbrev cX1_greatestKey : ByteArray := prog_3_method_9_code
def yX1_greatestKey : MethodName := ⟨RX1, "greatestKey", "(II)I"⟩
abbrev cX1_howManyEndBelow : ByteArray := prog_3_method_10_code
def yX1_howManyEndBelow : MethodName := ⟨RX1, "howManyEndBelow", "(I)I"⟩
abbrev cX1_howManyBeginUpTo : ByteArray := prog_3_method_11_code
def yX1_howManyBeginUpTo : MethodName := ⟨RX1, "howManyBeginUpTo", "(I)I"⟩
abbrev cX1_mergeInto : ByteArray := prog_3_method_12_code
def yX1_mergeInto : MethodName := ⟨RX1, "mergeInto", "(LLevelStore$Row;II)V"⟩
abbrev cX1_letRead : ByteArray := prog_3_method_13_code
def yX1_letRead : MethodName := ⟨RX1, "letRead", "(LLevelStore$Reading;)V"⟩
abbrev cX1_bytes : ByteArray := prog_3_method_14_code
def yX1_bytes : MethodName := ⟨RX1, "bytes", "()I"⟩
abbrev cX1_entries : ByteArray := prog_3_method_15_code
def yX1_entries : MethodName := ⟨RX1, "entries", "()I"⟩
abbrev cX1_greatestNumber : ByteArray := prog_3_method_16_code
def yX1_greatestNumber : MethodName := ⟨RX1, "greatestNumber", "()I"⟩
def RX2 : String := "LevelStore$Job"
def TX2 : u_T := fun k => match k with
  | 0 => ("LevelStore$Job", "there", "Z", false)
  | 1 => ("LevelStore$Job", "level", "I", false)
  | 2 => ("LevelStore$Job", "levelFrom", "I", false)
  | 3 => ("LevelStore$Job", "levelTo", "I", false)
  | 4 => ("LevelStore$Job", "target", "I", false)
  | 5 => ("LevelStore$Job", "targetFrom", "I", false)
  | 6 => ("LevelStore$Job", "targetTo", "I", false)
  | 7 => ("LevelStore$Job", "sources", "LLevelStore$Row;", true)
  | 8 => ("LevelStore$Job", "leftOut", "[Z", true)
  | 9 => ("LevelStore$Job", "done", "I", false)
  | 10 => ("LevelStore$Job", "making", "LLevelStore$Row;", true)
  | _ => ("LevelStore$Job", "made", "LLevelStore$FileRow;", true)
def tyX2 : Nat → FieldType := fun k => match k with
  | 0 => .boolean
  | 1 => .int
  | 2 => .int
  | 3 => .int
  | 4 => .int
  | 5 => .int
  | 6 => .int
  | 7 => .object "LevelStore$Row"
  | 8 => .array .boolean
  | 9 => .int
  | 10 => .object "LevelStore$Row"
  | _ => .object "LevelStore$FileRow"
theorem nmX2 : ∀ a, a < 12 → ∀ b, b < 12 → a ≠ b → (TX2 a).2.1 ≠ (TX2 b).2.1 := by decide +kernel
theorem tyX2_ok : ∀ k, k < 12 → parseFieldDescriptor (TX2 k).2.2.1 = some (tyX2 k) := by decide +kernel
abbrev cX2_init : ByteArray := prog_4_method_1_code
def yX2_init : MethodName := ⟨RX2, "<init>", "()V"⟩
abbrev cX2_begin : ByteArray := prog_4_method_2_code
def yX2_begin : MethodName := ⟨RX2, "begin", "(II)V"⟩
abbrev cX2_end : ByteArray := prog_4_method_3_code
def yX2_end : MethodName := ⟨RX2, "end", "()V"⟩
abbrev cX2_left : ByteArray := prog_4_method_4_code
def yX2_left : MethodName := ⟨RX2, "left", "()I"⟩
abbrev cX2_isLeftOut : ByteArray := prog_4_method_5_code
def yX2_isLeftOut : MethodName := ⟨RX2, "isLeftOut", "(I)Z"⟩
abbrev cX2_decide : ByteArray := prog_4_method_6_code
def yX2_decide : MethodName := ⟨RX2, "decide", "([I)V"⟩
abbrev cX2_leaveOutGraves : ByteArray := prog_4_method_7_code
def yX2_leaveOutGraves : MethodName := ⟨RX2, "leaveOutGraves", "()V"⟩
abbrev cX2_isFirstOfKey : ByteArray := prog_4_method_8_code
def yX2_isFirstOfKey : MethodName := ⟨RX2, "isFirstOfKey", "(I)Z"⟩
abbrev cX2_isLastOfKey : ByteArray := prog_4_method_9_code
def yX2_isLastOfKey : MethodName := ⟨RX2, "isLastOfKey", "(I)Z"⟩
abbrev cX2_isSeen : ByteArray := prog_4_method_10_code
def yX2_isSeen : MethodName := ⟨RX2, "isSeen", "(I[I)Z"⟩
abbrev cX2_endsFileAhead : ByteArray := prog_4_method_11_code
def yX2_endsFileAhead : MethodName := ⟨RX2, "endsFileAhead", "(I)Z"⟩
def RX3 : String := "LevelStore$Reading"
def TX3 : u_T := fun k => match k with
  | 0 => ("LevelStore$Reading", "numbers", "[I", true)
  | 1 => ("LevelStore$Reading", "values", "[I", true)
  | 2 => ("LevelStore$Reading", "from", "I", false)
  | 3 => ("LevelStore$Reading", "to", "I", false)
  | _ => ("LevelStore$Reading", "upTo", "I", false)
def tyX3 : Nat → FieldType := fun k => match k with
  | 0 => .array .int
  | 1 => .array .int
  | 2 => .int
  | 3 => .int
  | _ => .int
theorem nmX3 : ∀ a, a < 5 → ∀ b, b < 5 → a ≠ b → (TX3 a).2.1 ≠ (TX3 b).2.1 := by decide +kernel
theorem tyX3_ok : ∀ k, k < 5 → parseFieldDescriptor (TX3 k).2.2.1 = some (tyX3 k) := by decide +kernel
abbrev cX3_init : ByteArray := prog_5_method_1_code
def yX3_init : MethodName := ⟨RX3, "<init>", "()V"⟩
abbrev cX3_begin : ByteArray := prog_5_method_2_code
def yX3_begin : MethodName := ⟨RX3, "begin", "(III)V"⟩
abbrev cX3_concerns : ByteArray := prog_5_method_3_code
def yX3_concerns : MethodName := ⟨RX3, "concerns", "(LLevelStore$SortedFile;)Z"⟩
abbrev cX3_take : ByteArray := prog_5_method_4_code
def yX3_take : MethodName := ⟨RX3, "take", "(LLevelStore$Row;)V"⟩
abbrev cX3_valueOf : ByteArray := prog_5_method_5_code
def yX3_valueOf : MethodName := ⟨RX3, "valueOf", "(I)I"⟩
abbrev cX3_leastKeyWithValue : ByteArray := prog_5_method_6_code
def yX3_leastKeyWithValue : MethodName := ⟨RX3, "leastKeyWithValue", "()I"⟩
def RX4 : String := "LevelStore$Row"
def TX4 : u_T := fun k => match k with
  | 0 => ("LevelStore$Row", "keys", "[I", true)
  | 1 => ("LevelStore$Row", "numbers", "[I", true)
  | 2 => ("LevelStore$Row", "values", "[I", true)
  | _ => ("LevelStore$Row", "size", "I", false)
def tyX4 : Nat → FieldType := fun k => match k with
  | 0 => .array .int
  | 1 => .array .int
  | 2 => .array .int
  | _ => .int
theorem nmX4 : ∀ a, a < 4 → ∀ b, b < 4 → a ≠ b → (TX4 a).2.1 ≠ (TX4 b).2.1 := by decide +kernel
theorem tyX4_ok : ∀ k, k < 4 → parseFieldDescriptor (TX4 k).2.2.1 = some (tyX4 k) := by decide +kernel
abbrev cX4_init : ByteArray := prog_6_method_1_code
def yX4_init : MethodName := ⟨RX4, "<init>", "(I)V"⟩
abbrev cX4_has : ByteArray := prog_6_method_2_code
def yX4_has : MethodName := ⟨RX4, "has", "(I)Z"⟩
abbrev cX4_key : ByteArray := prog_6_method_3_code
def yX4_key : MethodName := ⟨RX4, "key", "(I)I"⟩
abbrev cX4_number : ByteArray := prog_6_method_4_code
def yX4_number : MethodName := ⟨RX4, "number", "(I)I"⟩
abbrev cX4_value : ByteArray := prog_6_method_5_code
def yX4_value : MethodName := ⟨RX4, "value", "(I)I"⟩
abbrev cX4_isGrave : ByteArray := prog_6_method_6_code
def yX4_isGrave : MethodName := ⟨RX4, "isGrave", "(I)Z"⟩
abbrev cX4_told : ByteArray := prog_6_method_7_code
def yX4_told : MethodName := ⟨RX4, "told", "(II)I"⟩
abbrev cX4_setAt : ByteArray := prog_6_method_8_code
def yX4_setAt : MethodName := ⟨RX4, "setAt", "(IIII)V"⟩
abbrev cX4_copyTo : ByteArray := prog_6_method_9_code
def yX4_copyTo : MethodName := ⟨RX4, "copyTo", "(ILLevelStore$Row;I)V"⟩
abbrev cX4_add : ByteArray := prog_6_method_10_code
def yX4_add : MethodName := ⟨RX4, "add", "(III)V"⟩
abbrev cX4_takeAll : ByteArray := prog_6_method_11_code
def yX4_takeAll : MethodName := ⟨RX4, "takeAll", "(LLevelStore$Row;)V"⟩
abbrev cX4_standsBehind : ByteArray := prog_6_method_12_code
def yX4_standsBehind : MethodName := ⟨RX4, "standsBehind", "(III)Z"⟩
abbrev cX4_insert : ByteArray := prog_6_method_13_code
def yX4_insert : MethodName := ⟨RX4, "insert", "(III)V"⟩
abbrev cX4_mergeIn : ByteArray := prog_6_method_14_code
def yX4_mergeIn : MethodName := ⟨RX4, "mergeIn", "(LLevelStore$Row;)V"⟩
abbrev cX4_loseFirst : ByteArray := prog_6_method_15_code
def yX4_loseFirst : MethodName := ⟨RX4, "loseFirst", "(I)V"⟩
abbrev cX4_greatestNumber : ByteArray := prog_6_method_16_code
def yX4_greatestNumber : MethodName := ⟨RX4, "greatestNumber", "()I"⟩
def RX5 : String := "LevelStore$SortedFile"
def TX5 : u_T := fun k => match k with
  | 0 => ("LevelStore$SortedFile", "entries", "LLevelStore$Row;", true)
  | 1 => ("LevelStore$SortedFile", "number", "I", false)
  | 2 => ("LevelStore$SortedFile", "place", "I", false)
  | _ => ("LevelStore$SortedFile", "length", "I", false)
def tyX5 : Nat → FieldType := fun k => match k with
  | 0 => .object "LevelStore$Row"
  | 1 => .int
  | 2 => .int
  | _ => .int
theorem nmX5 : ∀ a, a < 4 → ∀ b, b < 4 → a ≠ b → (TX5 a).2.1 ≠ (TX5 b).2.1 := by decide +kernel
theorem tyX5_ok : ∀ k, k < 4 → parseFieldDescriptor (TX5 k).2.2.1 = some (tyX5 k) := by decide +kernel
abbrev cX5_init : ByteArray := prog_7_method_1_code
def yX5_init : MethodName := ⟨RX5, "<init>", "()V"⟩
abbrev cX5_leastKey : ByteArray := prog_7_method_2_code
def yX5_leastKey : MethodName := ⟨RX5, "leastKey", "()I"⟩
abbrev cX5_greatestKey : ByteArray := prog_7_method_3_code
def yX5_greatestKey : MethodName := ⟨RX5, "greatestKey", "()I"⟩
def RX6 : String := "LevelStore"
def TX6 : u_T := fun k => match k with
  | 0 => ("LevelStore", "logged", "LLevelStore$Row;", true)
  | 1 => ("LevelStore", "synced", "I", false)
  | 2 => ("LevelStore", "latest", "I", false)
  | 3 => ("LevelStore", "views", "[I", true)
  | 4 => ("LevelStore", "levels", "[LLevelStore$FileRow;", true)
  | 5 => ("LevelStore", "spare", "LLevelStore$FileRow;", true)
  | 6 => ("LevelStore", "field", "LLevelStore$Field;", true)
  | 7 => ("LevelStore", "reading", "LLevelStore$Reading;", true)
  | 8 => ("LevelStore", "job", "LLevelStore$Job;", true)
  | _ => ("LevelStore", "nextFileNumber", "I", false)
def tyX6 : Nat → FieldType := fun k => match k with
  | 0 => .object "LevelStore$Row"
  | 1 => .int
  | 2 => .int
  | 3 => .array .int
  | 4 => .array (.object "LevelStore$FileRow")
  | 5 => .object "LevelStore$FileRow"
  | 6 => .object "LevelStore$Field"
  | 7 => .object "LevelStore$Reading"
  | 8 => .object "LevelStore$Job"
  | _ => .int
theorem nmX6 : ∀ a, a < 10 → ∀ b, b < 10 → a ≠ b → (TX6 a).2.1 ≠ (TX6 b).2.1 := by decide +kernel
theorem tyX6_ok : ∀ k, k < 10 → parseFieldDescriptor (TX6 k).2.2.1 = some (tyX6 k) := by decide +kernel
abbrev cX6_init : ByteArray := prog_1_method_1_code
def yX6_init : MethodName := ⟨RX6, "<init>", "()V"⟩
abbrev cX6_put : ByteArray := prog_1_method_2_code
def yX6_put : MethodName := ⟨RX6, "put", "(II)I"⟩
abbrev cX6_drop : ByteArray := prog_1_method_3_code
def yX6_drop : MethodName := ⟨RX6, "drop", "(I)I"⟩
abbrev cX6_sync : ByteArray := prog_1_method_4_code
def yX6_sync : MethodName := ⟨RX6, "sync", "()I"⟩
abbrev cX6_crash : ByteArray := prog_1_method_5_code
def yX6_crash : MethodName := ⟨RX6, "crash", "(I)I"⟩
abbrev cX6_get : ByteArray := prog_1_method_6_code
def yX6_get : MethodName := ⟨RX6, "get", "(I)I"⟩
abbrev cX6_view : ByteArray := prog_1_method_7_code
def yX6_view : MethodName := ⟨RX6, "view", "(II)I"⟩
abbrev cX6_next : ByteArray := prog_1_method_8_code
def yX6_next : MethodName := ⟨RX6, "next", "(II)I"⟩
abbrev cX6_hold : ByteArray := prog_1_method_9_code
def yX6_hold : MethodName := ⟨RX6, "hold", "(I)I"⟩
abbrev cX6_release : ByteArray := prog_1_method_10_code
def yX6_release : MethodName := ⟨RX6, "release", "(I)I"⟩
abbrev cX6_flush : ByteArray := prog_1_method_11_code
def yX6_flush : MethodName := ⟨RX6, "flush", "()I"⟩
abbrev cX6_merge : ByteArray := prog_1_method_12_code
def yX6_merge : MethodName := ⟨RX6, "merge", "(II)I"⟩
abbrev cX6_work : ByteArray := prog_1_method_13_code
def yX6_work : MethodName := ⟨RX6, "work", "(I)I"⟩
abbrev cX6_install : ByteArray := prog_1_method_14_code
def yX6_install : MethodName := ⟨RX6, "install", "()I"⟩
abbrev cX6_stop : ByteArray := prog_1_method_15_code
def yX6_stop : MethodName := ⟨RX6, "stop", "()I"⟩
abbrev cX6_high : ByteArray := prog_1_method_16_code
def yX6_high : MethodName := ⟨RX6, "high", "()I"⟩
abbrev cX6_files : ByteArray := prog_1_method_17_code
def yX6_files : MethodName := ⟨RX6, "files", "(I)I"⟩
abbrev cX6_file : ByteArray := prog_1_method_18_code
def yX6_file : MethodName := ⟨RX6, "file", "(III)I"⟩
abbrev cX6_entry : ByteArray := prog_1_method_19_code
def yX6_entry : MethodName := ⟨RX6, "entry", "(IIII)I"⟩
abbrev cX6_byteAt : ByteArray := prog_1_method_20_code
def yX6_byteAt : MethodName := ⟨RX6, "byteAt", "(I)I"⟩
abbrev cX6_log : ByteArray := prog_1_method_21_code
def yX6_log : MethodName := ⟨RX6, "log", "(II)I"⟩
abbrev cX6_count : ByteArray := prog_1_method_22_code
def yX6_count : MethodName := ⟨RX6, "count", "(I)I"⟩
abbrev cX6_check : ByteArray := prog_1_method_23_code
def yX6_check : MethodName := ⟨RX6, "check", "()I"⟩
abbrev cX6_isKey : ByteArray := prog_1_method_24_code
def yX6_isKey : MethodName := ⟨RX6, "isKey", "(I)Z"⟩
abbrev cX6_write : ByteArray := prog_1_method_25_code
def yX6_write : MethodName := ⟨RX6, "write", "(II)I"⟩
abbrev cX6_loseFirstLogged : ByteArray := prog_1_method_26_code
def yX6_loseFirstLogged : MethodName := ⟨RX6, "loseFirstLogged", "(I)V"⟩
abbrev cX6_greatestNumberLeft : ByteArray := prog_1_method_27_code
def yX6_greatestNumberLeft : MethodName := ⟨RX6, "greatestNumberLeft", "()I"⟩
abbrev cX6_isView : ByteArray := prog_1_method_28_code
def yX6_isView : MethodName := ⟨RX6, "isView", "(I)Z"⟩
abbrev cX6_numberOfView : ByteArray := prog_1_method_29_code
def yX6_numberOfView : MethodName := ⟨RX6, "numberOfView", "(I)I"⟩
abbrev cX6_isHeld : ByteArray := prog_1_method_30_code
def yX6_isHeld : MethodName := ⟨RX6, "isHeld", "(I)Z"⟩
abbrev cX6_readUpTo : ByteArray := prog_1_method_31_code
def yX6_readUpTo : MethodName := ⟨RX6, "readUpTo", "(II)I"⟩
abbrev cX6_readAll : ByteArray := prog_1_method_32_code
def yX6_readAll : MethodName := ⟨RX6, "readAll", "()V"⟩
abbrev cX6_doOneEntry : ByteArray := prog_1_method_33_code
def yX6_doOneEntry : MethodName := ⟨RX6, "doOneEntry", "()Z"⟩
abbrev cX6_endFile : ByteArray := prog_1_method_34_code
def yX6_endFile : MethodName := ⟨RX6, "endFile", "()Z"⟩
abbrev cX6_freshFile : ByteArray := prog_1_method_35_code
def yX6_freshFile : MethodName := ⟨RX6, "freshFile", "()LLevelStore$SortedFile;"⟩
abbrev cX6_giveUpJob : ByteArray := prog_1_method_36_code
def yX6_giveUpJob : MethodName := ⟨RX6, "giveUpJob", "()I"⟩
abbrev cX6_retire : ByteArray := prog_1_method_37_code
def yX6_retire : MethodName := ⟨RX6, "retire", "(LLevelStore$FileRow;II)V"⟩
abbrev cX6_levelAt : ByteArray := prog_1_method_38_code
def yX6_levelAt : MethodName := ⟨RX6, "levelAt", "(I)LLevelStore$FileRow;"⟩
abbrev cX6_fileAt : ByteArray := prog_1_method_39_code
def yX6_fileAt : MethodName := ⟨RX6, "fileAt", "(II)LLevelStore$SortedFile;"⟩
abbrev cX6_filesInForce : ByteArray := prog_1_method_40_code
def yX6_filesInForce : MethodName := ⟨RX6, "filesInForce", "()I"⟩
abbrev cX6_bytesInForce : ByteArray := prog_1_method_41_code
def yX6_bytesInForce : MethodName := ⟨RX6, "bytesInForce", "()I"⟩
abbrev cX6_entriesInForce : ByteArray := prog_1_method_42_code
def yX6_entriesInForce : MethodName := ⟨RX6, "entriesInForce", "()I"⟩
def RX7 : String := "LevelStoreModel"
def TX7 : u_T := fun k => match k with
  | 0 => ("LevelStoreModel", "thrown", "I", false)
  | 1 => ("LevelStoreModel", "logged", "I", false)
  | 2 => ("LevelStoreModel", "synced", "I", false)
  | 3 => ("LevelStoreModel", "logKey", "[I", true)
  | 4 => ("LevelStoreModel", "logNumber", "[I", true)
  | 5 => ("LevelStoreModel", "logValue", "[I", true)
  | 6 => ("LevelStoreModel", "number", "I", false)
  | 7 => ("LevelStoreModel", "views", "[I", true)
  | 8 => ("LevelStoreModel", "level", "[I", true)
  | 9 => ("LevelStoreModel", "fileNumber", "[I", true)
  | 10 => ("LevelStoreModel", "place", "[I", true)
  | 11 => ("LevelStoreModel", "bytes", "[I", true)
  | 12 => ("LevelStoreModel", "many", "[I", true)
  | 13 => ("LevelStoreModel", "fileKey", "[I", true)
  | 14 => ("LevelStoreModel", "fileEntry", "[I", true)
  | 15 => ("LevelStoreModel", "fileValue", "[I", true)
  | 16 => ("LevelStoreModel", "nextFile", "I", false)
  | 17 => ("LevelStoreModel", "field", "[I", true)
  | 18 => ("LevelStoreModel", "listed", "I", false)
  | 19 => ("LevelStoreModel", "list", "[I", true)
  | 20 => ("LevelStoreModel", "isJob", "Z", false)
  | 21 => ("LevelStoreModel", "jobLevel", "I", false)
  | 22 => ("LevelStoreModel", "jobMany", "I", false)
  | 23 => ("LevelStoreModel", "jobDone", "I", false)
  | 24 => ("LevelStoreModel", "jobKey", "[I", true)
  | 25 => ("LevelStoreModel", "jobNumber", "[I", true)
  | 26 => ("LevelStoreModel", "jobValue", "[I", true)
  | 27 => ("LevelStoreModel", "isSource", "[Z", true)
  | 28 => ("LevelStoreModel", "jobViews", "[I", true)
  | 29 => ("LevelStoreModel", "jobLogged", "I", false)
  | 30 => ("LevelStoreModel", "made", "I", false)
  | 31 => ("LevelStoreModel", "isDone", "Z", false)
  | 32 => ("LevelStoreModel", "being", "I", false)
  | 33 => ("LevelStoreModel", "beingKey", "[I", true)
  | 34 => ("LevelStoreModel", "beingNumber", "[I", true)
  | 35 => ("LevelStoreModel", "beingValue", "[I", true)
  | 36 => ("LevelStoreModel", "coded", "I", false)
  | 37 => ("LevelStoreModel", "code", "[I", true)
  | 38 => ("LevelStoreModel", "asideKey", "[I", true)
  | 39 => ("LevelStoreModel", "asideNumber", "[I", true)
  | _ => ("LevelStoreModel", "asideValue", "[I", true)
def tyX7 : Nat → FieldType := fun k => match k with
  | 0 => .int
  | 1 => .int
  | 2 => .int
  | 3 => .array .int
  | 4 => .array .int
  | 5 => .array .int
  | 6 => .int
  | 7 => .array .int
  | 8 => .array .int
  | 9 => .array .int
  | 10 => .array .int
  | 11 => .array .int
  | 12 => .array .int
  | 13 => .array .int
  | 14 => .array .int
  | 15 => .array .int
  | 16 => .int
  | 17 => .array .int
  | 18 => .int
  | 19 => .array .int
  | 20 => .boolean
  | 21 => .int
  | 22 => .int
  | 23 => .int
  | 24 => .array .int
  | 25 => .array .int
  | 26 => .array .int
  | 27 => .array .boolean
  | 28 => .array .int
  | 29 => .int
  | 30 => .int
  | 31 => .boolean
  | 32 => .int
  | 33 => .array .int
  | 34 => .array .int
  | 35 => .array .int
  | 36 => .int
  | 37 => .array .int
  | 38 => .array .int
  | 39 => .array .int
  | _ => .array .int
theorem nmX7 : ∀ a, a < 41 → ∀ b, b < 41 → a ≠ b → (TX7 a).2.1 ≠ (TX7 b).2.1 := by decide +kernel
theorem tyX7_ok : ∀ k, k < 41 → parseFieldDescriptor (TX7 k).2.2.1 = some (tyX7 k) := by decide +kernel
abbrev cX7_init : ByteArray := prog_9_method_1_code
def yX7_init : MethodName := ⟨RX7, "<init>", "()V"⟩
abbrev cX7_in : ByteArray := prog_9_method_3_code
def yX7_in : MethodName := ⟨RX7, "in", "(JJJ)Z"⟩
abbrev cX7_write : ByteArray := prog_9_method_4_code
def yX7_write : MethodName := ⟨RX7, "write", "(II)I"⟩
abbrev cX7_put : ByteArray := prog_9_method_5_code
def yX7_put : MethodName := ⟨RX7, "put", "(II)I"⟩
abbrev cX7_drop : ByteArray := prog_9_method_6_code
def yX7_drop : MethodName := ⟨RX7, "drop", "(I)I"⟩
abbrev cX7_sync : ByteArray := prog_9_method_7_code
def yX7_sync : MethodName := ⟨RX7, "sync", "()I"⟩
abbrev cX7_crash : ByteArray := prog_9_method_8_code
def yX7_crash : MethodName := ⟨RX7, "crash", "(I)I"⟩
abbrev cX7_read : ByteArray := prog_9_method_9_code
def yX7_read : MethodName := ⟨RX7, "read", "(II)I"⟩
abbrev cX7_noView : ByteArray := prog_9_method_10_code
def yX7_noView : MethodName := ⟨RX7, "noView", "(I)Z"⟩
abbrev cX7_get : ByteArray := prog_9_method_11_code
def yX7_get : MethodName := ⟨RX7, "get", "(I)I"⟩
abbrev cX7_view : ByteArray := prog_9_method_12_code
def yX7_view : MethodName := ⟨RX7, "view", "(II)I"⟩
abbrev cX7_next : ByteArray := prog_9_method_13_code
def yX7_next : MethodName := ⟨RX7, "next", "(II)I"⟩
abbrev cX7_hold : ByteArray := prog_9_method_14_code
def yX7_hold : MethodName := ⟨RX7, "hold", "(I)I"⟩
abbrev cX7_release : ByteArray := prog_9_method_15_code
def yX7_release : MethodName := ⟨RX7, "release", "(I)I"⟩
abbrev cX7_listLevel : ByteArray := prog_9_method_16_code
def yX7_listLevel : MethodName := ⟨RX7, "listLevel", "(I)V"⟩
abbrev cX7_source : ByteArray := prog_9_method_17_code
def yX7_source : MethodName := ⟨RX7, "source", "(III)V"⟩
abbrev cX7_begin : ByteArray := prog_9_method_18_code
def yX7_begin : MethodName := ⟨RX7, "begin", "(I)V"⟩
abbrev cX7_flush : ByteArray := prog_9_method_19_code
def yX7_flush : MethodName := ⟨RX7, "flush", "()I"⟩
abbrev cX7_sourceFile : ByteArray := prog_9_method_20_code
def yX7_sourceFile : MethodName := ⟨RX7, "sourceFile", "(I)V"⟩
abbrev cX7_least : ByteArray := prog_9_method_21_code
def yX7_least : MethodName := ⟨RX7, "least", "(I)I"⟩
abbrev cX7_greatest : ByteArray := prog_9_method_22_code
def yX7_greatest : MethodName := ⟨RX7, "greatest", "(I)I"⟩
abbrev cX7_merge : ByteArray := prog_9_method_23_code
def yX7_merge : MethodName := ⟨RX7, "merge", "(II)I"⟩
abbrev cX7_isUnseen : ByteArray := prog_9_method_24_code
def yX7_isUnseen : MethodName := ⟨RX7, "isUnseen", "(I)Z"⟩
abbrev cX7_isLeftOut : ByteArray := prog_9_method_25_code
def yX7_isLeftOut : MethodName := ⟨RX7, "isLeftOut", "(I)Z"⟩
abbrev cX7_shortNumber : ByteArray := prog_9_method_26_code
def yX7_shortNumber : MethodName := ⟨RX7, "shortNumber", "(I)V"⟩
abbrev cX7_encode : ByteArray := prog_9_method_27_code
def yX7_encode : MethodName := ⟨RX7, "encode", "()V"⟩
abbrev cX7_room : ByteArray := prog_9_method_28_code
def yX7_room : MethodName := ⟨RX7, "room", "(I)I"⟩
abbrev cX7_ends : ByteArray := prog_9_method_29_code
def yX7_ends : MethodName := ⟨RX7, "ends", "()Z"⟩
abbrev cX7_giveUp : ByteArray := prog_9_method_30_code
def yX7_giveUp : MethodName := ⟨RX7, "giveUp", "()I"⟩
abbrev cX7_does : ByteArray := prog_9_method_31_code
def yX7_does : MethodName := ⟨RX7, "does", "(I)Z"⟩
abbrev cX7_work : ByteArray := prog_9_method_32_code
def yX7_work : MethodName := ⟨RX7, "work", "(I)I"⟩
abbrev cX7_install : ByteArray := prog_9_method_33_code
def yX7_install : MethodName := ⟨RX7, "install", "()I"⟩
abbrev cX7_stop : ByteArray := prog_9_method_34_code
def yX7_stop : MethodName := ⟨RX7, "stop", "()I"⟩
abbrev cX7_high : ByteArray := prog_9_method_35_code
def yX7_high : MethodName := ⟨RX7, "high", "()I"⟩
abbrev cX7_files : ByteArray := prog_9_method_36_code
def yX7_files : MethodName := ⟨RX7, "files", "(I)I"⟩
abbrev cX7_slot : ByteArray := prog_9_method_37_code
def yX7_slot : MethodName := ⟨RX7, "slot", "(II)I"⟩
abbrev cX7_file : ByteArray := prog_9_method_38_code
def yX7_file : MethodName := ⟨RX7, "file", "(III)I"⟩
abbrev cX7_entry : ByteArray := prog_9_method_39_code
def yX7_entry : MethodName := ⟨RX7, "entry", "(IIII)I"⟩
abbrev cX7_byteAt : ByteArray := prog_9_method_40_code
def yX7_byteAt : MethodName := ⟨RX7, "byteAt", "(I)I"⟩
abbrev cX7_log : ByteArray := prog_9_method_41_code
def yX7_log : MethodName := ⟨RX7, "log", "(II)I"⟩
abbrev cX7_count : ByteArray := prog_9_method_42_code
def yX7_count : MethodName := ⟨RX7, "count", "(I)I"⟩
abbrev cX7_check : ByteArray := prog_9_method_43_code
def yX7_check : MethodName := ⟨RX7, "check", "()I"⟩
abbrev cX7_codesAs : ByteArray := prog_9_method_44_code
def yX7_codesAs : MethodName := ⟨RX7, "codesAs", "(I)Z"⟩
def RJx145de : String := "java/io/Serializable"
def TJx145de : u_T := fun k => match k with
  | _ => ("", "", "", false)
def tyJx145de : Nat → FieldType := fun k => match k with
  | _ => .int
theorem nmJx145de : ∀ a, a < 0 → ∀ b, b < 0 → a ≠ b → (TJx145de a).2.1 ≠ (TJx145de b).2.1 := by decide +kernel
theorem tyJx145de_ok : ∀ k, k < 0 → parseFieldDescriptor (TJx145de k).2.2.1 = some (tyJx145de k) := by decide +kernel
def RJx8e188 : String := "java/lang/Cloneable"
def TJx8e188 : u_T := fun k => match k with
  | _ => ("", "", "", false)
def tyJx8e188 : Nat → FieldType := fun k => match k with
  | _ => .int
theorem nmJx8e188 : ∀ a, a < 0 → ∀ b, b < 0 → a ≠ b → (TJx8e188 a).2.1 ≠ (TJx8e188 b).2.1 := by decide +kernel
theorem tyJx8e188_ok : ∀ k, k < 0 → parseFieldDescriptor (TJx8e188 k).2.2.1 = some (tyJx8e188 k) := by decide +kernel
def RJxab1ab : String := "java/lang/Iterable"
def TJxab1ab : u_T := fun k => match k with
  | _ => ("", "", "", false)
def tyJxab1ab : Nat → FieldType := fun k => match k with
  | _ => .int
theorem nmJxab1ab : ∀ a, a < 0 → ∀ b, b < 0 → a ≠ b → (TJxab1ab a).2.1 ≠ (TJxab1ab b).2.1 := by decide +kernel
theorem tyJxab1ab_ok : ∀ k, k < 0 → parseFieldDescriptor (TJxab1ab k).2.2.1 = some (tyJxab1ab k) := by decide +kernel
def RJ9 : String := "java/lang/Math"
def TJ9 : u_T := fun k => match k with
  | _ => ("", "", "", false)
def tyJ9 : Nat → FieldType := fun k => match k with
  | _ => .int
theorem nmJ9 : ∀ a, a < 0 → ∀ b, b < 0 → a ≠ b → (TJ9 a).2.1 ≠ (TJ9 b).2.1 := by decide +kernel
theorem tyJ9_ok : ∀ k, k < 0 → parseFieldDescriptor (TJ9 k).2.2.1 = some (tyJ9 k) := by decide +kernel
abbrev cJ9_max_7cf53 : ByteArray := prog_13_method_65_code
def yJ9_max_7cf53 : MethodName := ⟨RJ9, "max", "(II)I"⟩
abbrev cJ9_min_7cf53 : ByteArray := prog_13_method_69_code
def yJ9_min_7cf53 : MethodName := ⟨RJ9, "min", "(II)I"⟩
def RJ10 : String := "java/lang/System"
def TJ10 : u_T := fun k => match k with
  | _ => ("", "", "", false)
def tyJ10 : Nat → FieldType := fun k => match k with
  | _ => .int
theorem nmJ10 : ∀ a, a < 0 → ∀ b, b < 0 → a ≠ b → (TJ10 a).2.1 ≠ (TJ10 b).2.1 := by decide +kernel
theorem tyJ10_ok : ∀ k, k < 0 → parseFieldDescriptor (TJ10 k).2.2.1 = some (tyJ10 k) := by decide +kernel
def RJxa1e45 : String := "java/util/AbstractCollection"
def TJxa1e45 : u_T := fun k => match k with
  | _ => ("", "", "", false)
def tyJxa1e45 : Nat → FieldType := fun k => match k with
  | _ => .int
theorem nmJxa1e45 : ∀ a, a < 0 → ∀ b, b < 0 → a ≠ b → (TJxa1e45 a).2.1 ≠ (TJxa1e45 b).2.1 := by decide +kernel
theorem tyJxa1e45_ok : ∀ k, k < 0 → parseFieldDescriptor (TJxa1e45 k).2.2.1 = some (tyJxa1e45 k) := by decide +kernel
abbrev cJxa1e45_init_da8c8 : ByteArray := prog_15_method_1_code
def yJxa1e45_init_da8c8 : MethodName := ⟨RJxa1e45, "<init>", "()V"⟩
def RJxc12de : String := "java/util/AbstractList"
def TJxc12de : u_T := fun k => match k with
  | _ => ("", "", "", false)
def tyJxc12de : Nat → FieldType := fun k => match k with
  | _ => .int
theorem nmJxc12de : ∀ a, a < 0 → ∀ b, b < 0 → a ≠ b → (TJxc12de a).2.1 ≠ (TJxc12de b).2.1 := by decide +kernel
theorem tyJxc12de_ok : ∀ k, k < 0 → parseFieldDescriptor (TJxc12de k).2.2.1 = some (tyJxc12de k) := by decide +kernel
abbrev cJxc12de_init_da8c8 : ByteArray := prog_16_method_1_code
def yJxc12de_init_da8c8 : MethodName := ⟨RJxc12de, "<init>", "()V"⟩
def RJx4a65c : String := "java/util/ArrayList"
def TJx4a65c : u_T := fun k => match k with
  | 0 => ("java/util/AbstractList", "modCount", "I", false)
  | 1 => ("java/util/ArrayList", "elementData", "[Ljava/lang/Object;", false)
  | _ => ("java/util/ArrayList", "size", "I", false)
def tyJx4a65c : Nat → FieldType := fun k => match k with
  | 0 => .int
  | 1 => .array (.object "java/lang/Object")
  | _ => .int
theorem nmJx4a65c : ∀ a, a < 3 → ∀ b, b < 3 → a ≠ b → (TJx4a65c a).2.1 ≠ (TJx4a65c b).2.1 := by decide +kernel
theorem tyJx4a65c_ok : ∀ k, k < 3 → parseFieldDescriptor (TJx4a65c k).2.2.1 = some (tyJx4a65c k) := by decide +kernel
abbrev cJx4a65c_init_da8c8 : ByteArray := prog_17_method_2_code
def yJx4a65c_init_da8c8 : MethodName := ⟨RJx4a65c, "<init>", "()V"⟩
abbrev cJx4a65c_grow_92f84 : ByteArray := prog_17_method_6_code
def yJx4a65c_grow_92f84 : MethodName := ⟨RJx4a65c, "grow", "(I)[Ljava/lang/Object;"⟩
abbrev cJx4a65c_grow_d5877 : ByteArray := prog_17_method_7_code
def yJx4a65c_grow_d5877 : MethodName := ⟨RJx4a65c, "grow", "()[Ljava/lang/Object;"⟩
abbrev cJx4a65c_size_8abf5 : ByteArray := prog_17_method_8_code
def yJx4a65c_size_8abf5 : MethodName := ⟨RJx4a65c, "size", "()I"⟩
abbrev cJx4a65c_elementData_915e3 : ByteArray := prog_17_method_18_code
def yJx4a65c_elementData_915e3 : MethodName := ⟨RJx4a65c, "elementData", "(I)Ljava/lang/Object;"⟩
abbrev cJx4a65c_get_915e3 : ByteArray := prog_17_method_20_code
def yJx4a65c_get_915e3 : MethodName := ⟨RJx4a65c, "get", "(I)Ljava/lang/Object;"⟩
abbrev cJx4a65c_add_7a177 : ByteArray := prog_17_method_26_code
def yJx4a65c_add_7a177 : MethodName := ⟨RJx4a65c, "add", "(ILjava/lang/Object;)V"⟩
abbrev cJx4a65c_remove_915e3 : ByteArray := prog_17_method_29_code
def yJx4a65c_remove_915e3 : MethodName := ⟨RJx4a65c, "remove", "(I)Ljava/lang/Object;"⟩
abbrev cJx4a65c_fastRemove_b59b0 : ByteArray := prog_17_method_39_code
def yJx4a65c_fastRemove_b59b0 : MethodName := ⟨RJx4a65c, "fastRemove", "([Ljava/lang/Object;I)V"⟩
abbrev cJx4a65c_clear_da8c8 : ByteArray := prog_17_method_40_code
def yJx4a65c_clear_da8c8 : MethodName := ⟨RJx4a65c, "clear", "()V"⟩
abbrev cJx4a65c_rangeCheckForAdd_d00df : ByteArray := prog_17_method_45_code
def yJx4a65c_rangeCheckForAdd_d00df : MethodName := ⟨RJx4a65c, "rangeCheckForAdd", "(I)V"⟩
def RJ7 : String := "java/util/Arrays"
def TJ7 : u_T := fun k => match k with
  | _ => ("", "", "", false)
def tyJ7 : Nat → FieldType := fun k => match k with
  | _ => .int
theorem nmJ7 : ∀ a, a < 0 → ∀ b, b < 0 → a ≠ b → (TJ7 a).2.1 ≠ (TJ7 b).2.1 := by decide +kernel
theorem tyJ7_ok : ∀ k, k < 0 → parseFieldDescriptor (TJ7 k).2.2.1 = some (tyJ7 k) := by decide +kernel
abbrev cJ7_copyOf_1904c : ByteArray := prog_18_method_119_code
def yJ7_copyOf_1904c : MethodName := ⟨RJ7, "copyOf", "([Ljava/lang/Object;I)[Ljava/lang/Object;"⟩
abbrev cJ7_copyOf_6403c : ByteArray := prog_18_method_120_code
def yJ7_copyOf_6403c : MethodName := ⟨RJ7, "copyOf", "([Ljava/lang/Object;ILjava/lang/Class;)[Ljava/lang/Object;"⟩
def RJx5ef63 : String := "java/util/Collection"
def TJx5ef63 : u_T := fun k => match k with
  | _ => ("", "", "", false)
def tyJx5ef63 : Nat → FieldType := fun k => match k with
  | _ => .int
theorem nmJx5ef63 : ∀ a, a < 0 → ∀ b, b < 0 → a ≠ b → (TJx5ef63 a).2.1 ≠ (TJx5ef63 b).2.1 := by decide +kernel
theorem tyJx5ef63_ok : ∀ k, k < 0 → parseFieldDescriptor (TJx5ef63 k).2.2.1 = some (tyJx5ef63 k) := by decide +kernel
def RJxbd725 : String := "java/util/List"
def TJxbd725 : u_T := fun k => match k with
  | _ => ("", "", "", false)
def tyJxbd725 : Nat → FieldType := fun k => match k with
  | _ => .int
theorem nmJxbd725 : ∀ a, a < 0 → ∀ b, b < 0 → a ≠ b → (TJxbd725 a).2.1 ≠ (TJxbd725 b).2.1 := by decide +kernel
theorem tyJxbd725_ok : ∀ k, k < 0 → parseFieldDescriptor (TJxbd725 k).2.2.1 = some (tyJxbd725 k) := by decide +kernel
def RJ15 : String := "java/util/Objects"
def TJ15 : u_T := fun k => match k with
  | _ => ("", "", "", false)
def tyJ15 : Nat → FieldType := fun k => match k with
  | _ => .int
theorem nmJ15 : ∀ a, a < 0 → ∀ b, b < 0 → a ≠ b → (TJ15 a).2.1 ≠ (TJ15 b).2.1 := by decide +kernel
theorem tyJ15_ok : ∀ k, k < 0 → parseFieldDescriptor (TJ15 k).2.2.1 = some (tyJ15 k) := by decide +kernel
abbrev cJ15_checkIndex_7cf53 : ByteArray := prog_21_method_17_code
def yJ15_checkIndex_7cf53 : MethodName := ⟨RJ15, "checkIndex", "(II)I"⟩
def RJxf0a74 : String := "java/util/RandomAccess"
def TJxf0a74 : u_T := fun k => match k with
  | _ => ("", "", "", false)
def tyJxf0a74 : Nat → FieldType := fun k => match k with
  | _ => .int
theorem nmJxf0a74 : ∀ a, a < 0 → ∀ b, b < 0 → a ≠ b → (TJxf0a74 a).2.1 ≠ (TJxf0a74 b).2.1 := by decide +kernel
theorem tyJxf0a74_ok : ∀ k, k < 0 → parseFieldDescriptor (TJxf0a74 k).2.2.1 = some (tyJxf0a74 k) := by decide +kernel
def RJxa66e6 : String := "java/util/SequencedCollection"
def TJxa66e6 : u_T := fun k => match k with
  | _ => ("", "", "", false)
def tyJxa66e6 : Nat → FieldType := fun k => match k with
  | _ => .int
theorem nmJxa66e6 : ∀ a, a < 0 → ∀ b, b < 0 → a ≠ b → (TJxa66e6 a).2.1 ≠ (TJxa66e6 b).2.1 := by decide +kernel
theorem tyJxa66e6_ok : ∀ k, k < 0 → parseFieldDescriptor (TJxa66e6 k).2.2.1 = some (tyJxa66e6 k) := by decide +kernel
def RJ8 : String := "jdk/internal/util/ArraysSupport"
def TJ8 : u_T := fun k => match k with
  | _ => ("", "", "", false)
def tyJ8 : Nat → FieldType := fun k => match k with
  | _ => .int
theorem nmJ8 : ∀ a, a < 0 → ∀ b, b < 0 → a ≠ b → (TJ8 a).2.1 ≠ (TJ8 b).2.1 := by decide +kernel
theorem tyJ8_ok : ∀ k, k < 0 → parseFieldDescriptor (TJ8 k).2.2.1 = some (tyJ8 k) := by decide +kernel
abbrev cJ8_newLength_cabcc : ByteArray := prog_24_method_27_code
def yJ8_newLength_cabcc : MethodName := ⟨RJ8, "newLength", "(III)I"⟩
abbrev cJ8_hugeLength_7cf53 : ByteArray := prog_24_method_28_code
def yJ8_hugeLength_7cf53 : MethodName := ⟨RJ8, "hugeLength", "(II)I"⟩
def RJ3 : String := "jdk/internal/util/Preconditions"
def TJ3 : u_T := fun k => match k with
  | _ => ("", "", "", false)
def tyJ3 : Nat → FieldType := fun k => match k with
  | _ => .int
theorem nmJ3 : ∀ a, a < 0 → ∀ b, b < 0 → a ≠ b → (TJ3 a).2.1 ≠ (TJ3 b).2.1 := by decide +kernel
theorem tyJ3_ok : ∀ k, k < 0 → parseFieldDescriptor (TJ3 k).2.2.1 = some (tyJ3 k) := by decide +kernel
abbrev cJ3_checkIndex_8e157 : ByteArray := prog_25_method_11_code
def yJ3_checkIndex_8e157 : MethodName := ⟨RJ3, "checkIndex", "(IILjava/util/function/BiFunction;)I"⟩
def RL : String := "LevelStoreLaw"
abbrev cL_law : ByteArray := code
def yL_law : MethodName := ⟨RL, "law", "([I)Z"⟩
abbrev vwCl : List vw_C := [(RJx4a65c, TJx4a65c, 3), (RX0, TX0, 4), (RX1, TX1, 1), (RX2, TX2, 12), (RX3, TX3, 5), (RX4, TX4, 4), (RX5, TX5, 4), (RX6, TX6, 10), (RX7, TX7, 41)]
abbrev ab_MT : Type := MethodName × ByteArray × Nat × Option FieldType
abbrev MX6_init : ab_MT := (yX6_init, cX6_init, 1, none)
abbrev MX4_init : ab_MT := (yX4_init, cX4_init, 3, none)
abbrev MJ9_max_7cf53 : ab_MT := (yJ9_max_7cf53, cJ9_max_7cf53, 2, (some FieldType.int))
abbrev MX1_init : ab_MT := (yX1_init, cX1_init, 1, none)
abbrev MJx4a65c_init_da8c8 : ab_MT := (yJx4a65c_init_da8c8, cJx4a65c_init_da8c8, 1, none)
abbrev MJxc12de_init_da8c8 : ab_MT := (yJxc12de_init_da8c8, cJxc12de_init_da8c8, 1, none)
abbrev MJxa1e45_init_da8c8 : ab_MT := (yJxa1e45_init_da8c8, cJxa1e45_init_da8c8, 1, none)
abbrev MX0_init : ab_MT := (yX0_init, cX0_init, 1, none)
abbrev MX3_init : ab_MT := (yX3_init, cX3_init, 1, none)
abbrev MX2_init : ab_MT := (yX2_init, cX2_init, 1, none)
abbrev MX6_put : ab_MT := (yX6_put, cX6_put, 3, (some FieldType.int))
abbrev MX6_isKey : ab_MT := (yX6_isKey, cX6_isKey, 1, (some FieldType.boolean))
abbrev MX6_write : ab_MT := (yX6_write, cX6_write, 3, (some FieldType.int))
abbrev MX4_add : ab_MT := (yX4_add, cX4_add, 4, none)
abbrev MX4_setAt : ab_MT := (yX4_setAt, cX4_setAt, 5, none)
abbrev MX4_has : ab_MT := (yX4_has, cX4_has, 2, (some FieldType.boolean))
abbrev MX6_drop : ab_MT := (yX6_drop, cX6_drop, 2, (some FieldType.int))
abbrev MX6_sync : ab_MT := (yX6_sync, cX6_sync, 2, (some FieldType.int))
abbrev MX6_crash : ab_MT := (yX6_crash, cX6_crash, 3, (some FieldType.int))
abbrev MX6_giveUpJob : ab_MT := (yX6_giveUpJob, cX6_giveUpJob, 2, (some FieldType.int))
abbrev MX1_size : ab_MT := (yX1_size, cX1_size, 1, (some FieldType.int))
abbrev MJx4a65c_size_8abf5 : ab_MT := (yJx4a65c_size_8abf5, cJx4a65c_size_8abf5, 1, (some FieldType.int))
abbrev MX6_retire : ab_MT := (yX6_retire, cX6_retire, 6, none)
abbrev MX1_takeOut : ab_MT := (yX1_takeOut, cX1_takeOut, 2, (some (FieldType.object "LevelStore$SortedFile")))
abbrev MJx4a65c_remove_915e3 : ab_MT := (yJx4a65c_remove_915e3, cJx4a65c_remove_915e3, 4, (some (FieldType.object "java/lang/Object")))
abbrev MJ15_checkIndex_7cf53 : ab_MT := (yJ15_checkIndex_7cf53, cJ15_checkIndex_7cf53, 2, (some FieldType.int))
abbrev MJ3_checkIndex_8e157 : ab_MT := (yJ3_checkIndex_8e157, cJ3_checkIndex_8e157, 3, (some FieldType.int))
abbrev MJx4a65c_fastRemove_b59b0 : ab_MT := (yJx4a65c_fastRemove_b59b0, cJx4a65c_fastRemove_b59b0, 4, none)
abbrev MX0_free : ab_MT := (yX0_free, cX0_free, 2, none)
abbrev MX0_mark : ab_MT := (yX0_mark, cX0_mark, 4, none)
abbrev MX0_has : ab_MT := (yX0_has, cX0_has, 2, (some FieldType.boolean))
abbrev MX1_add : ab_MT := (yX1_add, cX1_add, 2, none)
abbrev MX1_insert : ab_MT := (yX1_insert, cX1_insert, 3, none)
abbrev MJx4a65c_add_7a177 : ab_MT := (yJx4a65c_add_7a177, cJx4a65c_add_7a177, 5, none)
abbrev MJx4a65c_rangeCheckForAdd_d00df : ab_MT := (yJx4a65c_rangeCheckForAdd_d00df, cJx4a65c_rangeCheckForAdd_d00df, 2, none)
abbrev MJx4a65c_grow_d5877 : ab_MT := (yJx4a65c_grow_d5877, cJx4a65c_grow_d5877, 1, (some (FieldType.array (FieldType.object "java/lang/Object"))))
abbrev MJx4a65c_grow_92f84 : ab_MT := (yJx4a65c_grow_92f84, cJx4a65c_grow_92f84, 4, (some (FieldType.array (FieldType.object "java/lang/Object"))))
abbrev MJ8_newLength_cabcc : ab_MT := (yJ8_newLength_cabcc, cJ8_newLength_cabcc, 4, (some FieldType.int))
abbrev MJ8_hugeLength_7cf53 : ab_MT := (yJ8_hugeLength_7cf53, cJ8_hugeLength_7cf53, 3, (some FieldType.int))
abbrev MJ7_copyOf_1904c : ab_MT := (yJ7_copyOf_1904c, cJ7_copyOf_1904c, 2, (some (FieldType.array (FieldType.object "java/lang/Object"))))
abbrev MJ7_copyOf_6403c : ab_MT := (yJ7_copyOf_6403c, cJ7_copyOf_6403c, 4, (some (FieldType.array (FieldType.object "java/lang/Object"))))
abbrev MJ9_min_7cf53 : ab_MT := (yJ9_min_7cf53, cJ9_min_7cf53, 2, (some FieldType.int))
abbrev MX2_end : ab_MT := (yX2_end, cX2_end, 1, none)
abbrev MX1_empty : ab_MT := (yX1_empty, cX1_empty, 1, none)
abbrev MJx4a65c_clear_da8c8 : ab_MT := (yJx4a65c_clear_da8c8, cJx4a65c_clear_da8c8, 4, none)
abbrev MX6_greatestNumberLeft : ab_MT := (yX6_greatestNumberLeft, cX6_greatestNumberLeft, 6, (some FieldType.int))
abbrev MX4_greatestNumber : ab_MT := (yX4_greatestNumber, cX4_greatestNumber, 3, (some FieldType.int))
abbrev MX4_number : ab_MT := (yX4_number, cX4_number, 2, (some FieldType.int))
abbrev MX1_greatestNumber : ab_MT := (yX1_greatestNumber, cX1_greatestNumber, 4, (some FieldType.int))
abbrev MX1_at : ab_MT := (yX1_at, cX1_at, 2, (some (FieldType.object "LevelStore$SortedFile")))
abbrev MJx4a65c_get_915e3 : ab_MT := (yJx4a65c_get_915e3, cJx4a65c_get_915e3, 2, (some (FieldType.object "java/lang/Object")))
abbrev MJx4a65c_elementData_915e3 : ab_MT := (yJx4a65c_elementData_915e3, cJx4a65c_elementData_915e3, 2, (some (FieldType.object "java/lang/Object")))
abbrev MX6_get : ab_MT := (yX6_get, cX6_get, 2, (some FieldType.int))
abbrev MX6_readUpTo : ab_MT := (yX6_readUpTo, cX6_readUpTo, 3, (some FieldType.int))
abbrev MX3_begin : ab_MT := (yX3_begin, cX3_begin, 5, none)
abbrev MX6_readAll : ab_MT := (yX6_readAll, cX6_readAll, 5, none)
abbrev MX3_take : ab_MT := (yX3_take, cX3_take, 5, none)
abbrev MX4_key : ab_MT := (yX4_key, cX4_key, 2, (some FieldType.int))
abbrev MX4_value : ab_MT := (yX4_value, cX4_value, 2, (some FieldType.int))
abbrev MX1_letRead : ab_MT := (yX1_letRead, cX1_letRead, 4, none)
abbrev MX3_concerns : ab_MT := (yX3_concerns, cX3_concerns, 2, (some FieldType.boolean))
abbrev MX5_leastKey : ab_MT := (yX5_leastKey, cX5_leastKey, 1, (some FieldType.int))
abbrev MX5_greatestKey : ab_MT := (yX5_greatestKey, cX5_greatestKey, 1, (some FieldType.int))
abbrev MX3_valueOf : ab_MT := (yX3_valueOf, cX3_valueOf, 2, (some FieldType.int))
abbrev MX6_view : ab_MT := (yX6_view, cX6_view, 3, (some FieldType.int))
abbrev MX6_isHeld : ab_MT := (yX6_isHeld, cX6_isHeld, 2, (some FieldType.boolean))
abbrev MX6_numberOfView : ab_MT := (yX6_numberOfView, cX6_numberOfView, 2, (some FieldType.int))
abbrev MX6_isView : ab_MT := (yX6_isView, cX6_isView, 2, (some FieldType.boolean))
abbrev MX6_next : ab_MT := (yX6_next, cX6_next, 4, (some FieldType.int))
abbrev MX3_leastKeyWithValue : ab_MT := (yX3_leastKeyWithValue, cX3_leastKeyWithValue, 2, (some FieldType.int))
abbrev MX6_hold : ab_MT := (yX6_hold, cX6_hold, 2, (some FieldType.int))
abbrev MX6_release : ab_MT := (yX6_release, cX6_release, 3, (some FieldType.int))
abbrev MX6_flush : ab_MT := (yX6_flush, cX6_flush, 2, (some FieldType.int))
abbrev MX2_begin : ab_MT := (yX2_begin, cX2_begin, 3, none)
abbrev MX6_files : ab_MT := (yX6_files, cX6_files, 3, (some FieldType.int))
abbrev MX6_levelAt : ab_MT := (yX6_levelAt, cX6_levelAt, 2, (some (FieldType.object "LevelStore$FileRow")))
abbrev MX4_insert : ab_MT := (yX4_insert, cX4_insert, 5, none)
abbrev MX4_standsBehind : ab_MT := (yX4_standsBehind, cX4_standsBehind, 4, (some FieldType.boolean))
abbrev MX4_copyTo : ab_MT := (yX4_copyTo, cX4_copyTo, 4, none)
abbrev MX2_decide : ab_MT := (yX2_decide, cX2_decide, 3, none)
abbrev MX2_isFirstOfKey : ab_MT := (yX2_isFirstOfKey, cX2_isFirstOfKey, 2, (some FieldType.boolean))
abbrev MX2_isSeen : ab_MT := (yX2_isSeen, cX2_isSeen, 7, (some FieldType.boolean))
abbrev MX2_leaveOutGraves : ab_MT := (yX2_leaveOutGraves, cX2_leaveOutGraves, 3, none)
abbrev MX2_isLastOfKey : ab_MT := (yX2_isLastOfKey, cX2_isLastOfKey, 2, (some FieldType.boolean))
abbrev MX4_isGrave : ab_MT := (yX4_isGrave, cX4_isGrave, 2, (some FieldType.boolean))
abbrev MX2_left : ab_MT := (yX2_left, cX2_left, 1, (some FieldType.int))
abbrev MX6_merge : ab_MT := (yX6_merge, cX6_merge, 5, (some FieldType.int))
abbrev MX1_leastKey : ab_MT := (yX1_leastKey, cX1_leastKey, 6, (some FieldType.int))
abbrev MX1_howManyEndBelow : ab_MT := (yX1_howManyEndBelow, cX1_howManyEndBelow, 5, (some FieldType.int))
abbrev MX1_greatestKey : ab_MT := (yX1_greatestKey, cX1_greatestKey, 6, (some FieldType.int))
abbrev MX1_howManyBeginUpTo : ab_MT := (yX1_howManyBeginUpTo, cX1_howManyBeginUpTo, 5, (some FieldType.int))
abbrev MX1_mergeInto : ab_MT := (yX1_mergeInto, cX1_mergeInto, 6, none)
abbrev MX4_mergeIn : ab_MT := (yX4_mergeIn, cX4_mergeIn, 6, none)
abbrev MX6_work : ab_MT := (yX6_work, cX6_work, 4, (some FieldType.int))
abbrev MX6_doOneEntry : ab_MT := (yX6_doOneEntry, cX6_doOneEntry, 2, (some FieldType.boolean))
abbrev MX2_isLeftOut : ab_MT := (yX2_isLeftOut, cX2_isLeftOut, 2, (some FieldType.boolean))
abbrev MX2_endsFileAhead : ab_MT := (yX2_endsFileAhead, cX2_endsFileAhead, 2, (some FieldType.boolean))
abbrev MX6_endFile : ab_MT := (yX6_endFile, cX6_endFile, 2, (some FieldType.boolean))
abbrev MX6_freshFile : ab_MT := (yX6_freshFile, cX6_freshFile, 2, (some (FieldType.object "LevelStore$SortedFile")))
abbrev MX5_init : ab_MT := (yX5_init, cX5_init, 1, none)
abbrev MX4_takeAll : ab_MT := (yX4_takeAll, cX4_takeAll, 3, none)
abbrev MX0_lay : ab_MT := (yX0_lay, cX0_lay, 4, (some FieldType.boolean))
abbrev MX0_encode : ab_MT := (yX0_encode, cX0_encode, 5, none)
abbrev MX0_emit : ab_MT := (yX0_emit, cX0_emit, 2, none)
abbrev MX0_emitShort : ab_MT := (yX0_emitShort, cX0_emitShort, 4, none)
abbrev MX0_folded : ab_MT := (yX0_folded, cX0_folded, 1, (some FieldType.int))
abbrev MX0_sumOfCode : ab_MT := (yX0_sumOfCode, cX0_sumOfCode, 3, (some FieldType.int))
abbrev MX0_firstRoom : ab_MT := (yX0_firstRoom, cX0_firstRoom, 4, (some FieldType.int))
abbrev MX6_install : ab_MT := (yX6_install, cX6_install, 4, (some FieldType.int))
abbrev MX6_loseFirstLogged : ab_MT := (yX6_loseFirstLogged, cX6_loseFirstLogged, 2, none)
abbrev MX4_loseFirst : ab_MT := (yX4_loseFirst, cX4_loseFirst, 4, none)
abbrev MX6_stop : ab_MT := (yX6_stop, cX6_stop, 1, (some FieldType.int))
abbrev MX6_high : ab_MT := (yX6_high, cX6_high, 3, (some FieldType.int))
abbrev MX6_file : ab_MT := (yX6_file, cX6_file, 5, (some FieldType.int))
abbrev MX6_fileAt : ab_MT := (yX6_fileAt, cX6_fileAt, 4, (some (FieldType.object "LevelStore$SortedFile")))
abbrev MX6_entry : ab_MT := (yX6_entry, cX6_entry, 6, (some FieldType.int))
abbrev MX4_told : ab_MT := (yX4_told, cX4_told, 3, (some FieldType.int))
abbrev MX6_byteAt : ab_MT := (yX6_byteAt, cX6_byteAt, 2, (some FieldType.int))
abbrev MX6_log : ab_MT := (yX6_log, cX6_log, 3, (some FieldType.int))
abbrev MX6_count : ab_MT := (yX6_count, cX6_count, 2, (some FieldType.int))
abbrev MX6_filesInForce : ab_MT := (yX6_filesInForce, cX6_filesInForce, 6, (some FieldType.int))
abbrev MX6_bytesInForce : ab_MT := (yX6_bytesInForce, cX6_bytesInForce, 6, (some FieldType.int))
abbrev MX1_bytes : ab_MT := (yX1_bytes, cX1_bytes, 4, (some FieldType.int))
abbrev MX6_entriesInForce : ab_MT := (yX6_entriesInForce, cX6_entriesInForce, 6, (some FieldType.int))
abbrev MX1_entries : ab_MT := (yX1_entries, cX1_entries, 4, (some FieldType.int))
abbrev MX6_check : ab_MT := (yX6_check, cX6_check, 8, (some FieldType.int))
abbrev MX0_holds : ab_MT := (yX0_holds, cX0_holds, 4, (some FieldType.boolean))
abbrev MX7_init : ab_MT := (yX7_init, cX7_init, 2, none)
abbrev MX7_put : ab_MT := (yX7_put, cX7_put, 3, (some FieldType.int))
abbrev MX7_in : ab_MT := (yX7_in, cX7_in, 6, (some FieldType.boolean))
abbrev MX7_write : ab_MT := (yX7_write, cX7_write, 3, (some FieldType.int))
abbrev MX7_drop : ab_MT := (yX7_drop, cX7_drop, 2, (some FieldType.int))
abbrev MX7_sync : ab_MT := (yX7_sync, cX7_sync, 2, (some FieldType.int))
abbrev MX7_crash : ab_MT := (yX7_crash, cX7_crash, 4, (some FieldType.int))
abbrev MX7_giveUp : ab_MT := (yX7_giveUp, cX7_giveUp, 3, (some FieldType.int))
abbrev MX7_get : ab_MT := (yX7_get, cX7_get, 2, (some FieldType.int))
abbrev MX7_read : ab_MT := (yX7_read, cX7_read, 7, (some FieldType.int))
abbrev MX7_view : ab_MT := (yX7_view, cX7_view, 3, (some FieldType.int))
abbrev MX7_noView : ab_MT := (yX7_noView, cX7_noView, 2, (some FieldType.boolean))
abbrev MX7_next : ab_MT := (yX7_next, cX7_next, 5, (some FieldType.int))
abbrev MX7_hold : ab_MT := (yX7_hold, cX7_hold, 2, (some FieldType.int))
abbrev MX7_release : ab_MT := (yX7_release, cX7_release, 3, (some FieldType.int))
abbrev MX7_flush : ab_MT := (yX7_flush, cX7_flush, 2, (some FieldType.int))
abbrev MX7_begin : ab_MT := (yX7_begin, cX7_begin, 3, none)
abbrev MX7_source : ab_MT := (yX7_source, cX7_source, 5, none)
abbrev MX7_merge : ab_MT := (yX7_merge, cX7_merge, 6, (some FieldType.int))
abbrev MX7_listLevel : ab_MT := (yX7_listLevel, cX7_listLevel, 4, none)
abbrev MX7_least : ab_MT := (yX7_least, cX7_least, 2, (some FieldType.int))
abbrev MX7_greatest : ab_MT := (yX7_greatest, cX7_greatest, 2, (some FieldType.int))
abbrev MX7_sourceFile : ab_MT := (yX7_sourceFile, cX7_sourceFile, 3, none)
abbrev MX7_work : ab_MT := (yX7_work, cX7_work, 4, (some FieldType.int))
abbrev MX7_does : ab_MT := (yX7_does, cX7_does, 2, (some FieldType.boolean))
abbrev MX7_isLeftOut : ab_MT := (yX7_isLeftOut, cX7_isLeftOut, 4, (some FieldType.boolean))
abbrev MX7_isUnseen : ab_MT := (yX7_isUnseen, cX7_isUnseen, 4, (some FieldType.boolean))
abbrev MX7_ends : ab_MT := (yX7_ends, cX7_ends, 4, (some FieldType.boolean))
abbrev MX7_encode : ab_MT := (yX7_encode, cX7_encode, 3, none)
abbrev MX7_shortNumber : ab_MT := (yX7_shortNumber, cX7_shortNumber, 3, none)
abbrev MX7_room : ab_MT := (yX7_room, cX7_room, 5, (some FieldType.int))
abbrev MX7_install : ab_MT := (yX7_install, cX7_install, 3, (some FieldType.int))
abbrev MX7_stop : ab_MT := (yX7_stop, cX7_stop, 1, (some FieldType.int))
abbrev MX7_high : ab_MT := (yX7_high, cX7_high, 2, (some FieldType.int))
abbrev MX7_files : ab_MT := (yX7_files, cX7_files, 2, (some FieldType.int))
abbrev MX7_file : ab_MT := (yX7_file, cX7_file, 5, (some FieldType.int))
abbrev MX7_slot : ab_MT := (yX7_slot, cX7_slot, 3, (some FieldType.int))
abbrev MX7_entry : ab_MT := (yX7_entry, cX7_entry, 7, (some FieldType.int))
abbrev MX7_byteAt : ab_MT := (yX7_byteAt, cX7_byteAt, 2, (some FieldType.int))
abbrev MX7_log : ab_MT := (yX7_log, cX7_log, 3, (some FieldType.int))
abbrev MX7_count : ab_MT := (yX7_count, cX7_count, 6, (some FieldType.int))
abbrev MX7_check : ab_MT := (yX7_check, cX7_check, 5, (some FieldType.int))
abbrev MX7_codesAs : ab_MT := (yX7_codesAs, cX7_codesAs, 4, (some FieldType.boolean))
end
section
/-! THE WORLD AS PLANES: a cell has a number; what is at it is its kind and length (S), its references (R), its ints (I) -/
abbrev ab_G : Type := (Nat → ClassId) × (Nat → Nat → Nat) × (Nat → ClassId) × Nat × (Nat → Nat)
abbrev ab_D (G : ab_G) : va_G := (G.1, G.2.1)
abbrev ab_A (G : ab_G) : Nat → ClassId := G.2.2.1
abbrev ab_B (G : ab_G) : Nat := G.2.2.2.1
abbrev ab_L (G : ab_G) : Nat → Nat := G.2.2.2.2
def ab_R (G : ab_G) (i : Nat) : Nat := if i < 3 then ab_L G i else ab_B G + (i - 3)
def ab_V (G : ab_G) (v : Value) : Value := match v with
  | .ref i => .ref (ab_R G i)
  | v => v
abbrev ab_SH : Type := Nat → Nat × Nat
abbrev ab_RR : Type := Nat → Nat → Option Nat
abbrev ab_II : Type := Nat → Nat → Int32
abbrev ab_M : Type := Nat × ab_SH × ab_RR × ab_II
def ab_ty (ci : Nat) : Nat → FieldType := match ci with
  | 0 => tyJx4a65c
  | 1 => tyX0
  | 2 => tyX1
  | 3 => tyX2
  | 4 => tyX3
  | 5 => tyX4
  | 6 => tyX5
  | 7 => tyX6
  | _ => tyX7
def ab_nf (ci : Nat) : Nat := match ci with
  | 0 => 3
  | 1 => 4
  | 2 => 1
  | 3 => 12
  | 4 => 5
  | 5 => 4
  | 6 => 4
  | 7 => 10
  | _ => 41
def ab_rt (t : FieldType) : Bool := match t with
  | .object _ => true
  | .array _ => true
  | _ => false
def ab_isR (ci k : Nat) : Bool := ab_rt (ab_ty ci k)
def ab_F (G : ab_G) (R : ab_RR) (I : ab_II) (ci j k : Nat) : Value := if ab_isR ci k = true then va_rf ((R j k).map (ab_R G)) else .int (I j k)
def ab_E (G : ab_G) (S : ab_SH) (R : ab_RR) (I : ab_II) (j : Nat) : va_E :=
  if (S j).1 < 9 then .inr ((S j).1, (List.range (ab_nf (S j).1)).map (ab_F G R I (S j).1 j))
  else if (S j).1 < 11 then .inl (ab_A G (S j).1, (S j).2, .inl (I j))
  else .inl (ab_A G (S j).1, (S j).2, .inr (.inr (.inr (.inr (fun i => (R j i).map (ab_R G))))))
def ab_W (G : ab_G) (h : ab_M) : va_W := (List.range (h.1 - 3)).map (fun i => (ab_B G + i, ab_E G h.2.1 h.2.2.1 h.2.2.2 (i + 3)))
def ab_u2 {α : Type} (f : Nat → Nat → α) (r k : Nat) (x : α) : Nat → Nat → α := fun j i => if j = r ∧ i = k then x else f j i
theorem ab_u2_s {α : Type} (f : Nat → Nat → α) (r k : Nat) (x : α) : ab_u2 f r k x r k = x := by simp [ab_u2]
theorem ab_u2_n {α : Type} (f : Nat → Nat → α) {r k j i : Nat} (x : α) (h : j ≠ r ∨ i ≠ k) : ab_u2 f r k x j i = f j i := by
  unfold ab_u2
  rw [if_neg]
  rintro ⟨h1, h2⟩
  rcases h with h | h
  · exact h h1
  · exact h h2
theorem ab_u2_r {α : Type} (f : Nat → Nat → α) {r k j : Nat} (x : α) (h : j ≠ r) : ab_u2 f r k x j = f j := funext fun i => ab_u2_n f x (Or.inl h)
/-- cell r is there, of that kind -/
def ab_ok (n : Nat) (S : ab_SH) (r ci : Nat) : Prop := 3 ≤ r ∧ r < n ∧ (S r).1 = ci
theorem ab_R_big (G : ab_G) {r : Nat} (h : 3 ≤ r) : ab_R G r = ab_B G + (r - 3) := by simp [ab_R, Nat.not_lt.mpr h]
theorem ab_W_get (G : ab_G) {n r : Nat} {S : ab_SH} {R : ab_RR} {I : ab_II} (h3 : 3 ≤ r) (hr : r < n) : (ab_W G (n, S, R, I))[r - 3]? = some (ab_R G r, ab_E G S R I r) := by
  unfold ab_W
  rw [List.getElem?_map, List.getElem?_range (by show r - 3 < n - 3; omega)]
  simp only [Option.map_some, ab_R_big G h3, Nat.sub_add_cancel h3]
theorem ab_W_at (G : ab_G) {h : ab_M} {k : Nat} {q : Nat × va_E} (hk : (ab_W G h)[k]? = some q) : k + 3 < h.1 ∧ q = (ab_B G + k, ab_E G h.2.1 h.2.2.1 h.2.2.2 (k + 3)) := by
  unfold ab_W at hk
  rw [List.getElem?_map] at hk
  by_cases hl : k < h.1 - 3
  · rw [List.getElem?_range hl] at hk
    simp only [Option.map_some, Option.some.injEq] at hk
    exact ⟨by omega, hk.symm⟩
  · rw [List.getElem?_eq_none (by simpa using hl)] at hk
    simp at hk
/-- one cell changes -/
theorem ab_P_up {G : ab_G} {n r : Nat} {S S' : ab_SH} {R R' : ab_RR} {I I' : ab_II} {H H1 : Heap} (hP : va_P (ab_D G) vwCl (ab_W G (n, S, R, I)) H) (h3 : 3 ≤ r) (he : va_at (ab_D G) vwCl (ab_R G r, ab_E G S' R' I' r) H1)
    (ho : ∀ q : Nat, q ≠ ab_R G r → H1[q]? = H[q]?) (hs : ∀ j, j ≠ r → ab_E G S' R' I' j = ab_E G S R I j) : va_P (ab_D G) vwCl (ab_W G (n, S', R', I')) H1 := by
  intro k q hk
  obtain ⟨hl, rfl⟩ := ab_W_at G hk
  by_cases hkr : k + 3 = r
  · subst hkr
    rw [ab_R_big G h3] at he
    exact he
  · have h2 := hP k (ab_B G + k, ab_E G S R I (k + 3)) (by
      have := ab_W_get G (n := n) (S := S) (R := R) (I := I) (r := k + 3) (by omega) hl
      rw [ab_R_big G (by omega)] at this
      simpa using this)
    show va_at (ab_D G) vwCl (ab_B G + k, ab_E G S' R' I' (k + 3)) H1
    rw [hs _ hkr]
    refine h2.kept (ho _ ?_)
    rw [ab_R_big G h3]
    show ab_B G + k ≠ _
    omega
/-- one cell comes -/
theorem ab_P_new {G : ab_G} {n : Nat} {S S' : ab_SH} {R R' : ab_RR} {I I' : ab_II} {H H1 : Heap} (hP : va_P (ab_D G) vwCl (ab_W G (n, S, R, I)) H) (h3 : 3 ≤ n) (hz : H.size = ab_B G + (n - 3)) (he : va_at (ab_D G) vwCl (H.size, ab_E G S' R' I' n) H1)
    (ho : ∀ q : Nat, q < H.size → H1[q]? = H[q]?) (hs : ∀ j, j < n → ab_E G S' R' I' j = ab_E G S R I j) : va_P (ab_D G) vwCl (ab_W G (n + 1, S', R', I')) H1 := by
  intro k q hk
  obtain ⟨hl, rfl⟩ := ab_W_at G hk
  have hl : k + 3 < n + 1 := hl
  by_cases hkr : k + 3 = n
  · subst hkr
    rw [hz] at he
    exact he
  · have h2 := hP k (ab_B G + k, ab_E G S R I (k + 3)) (by
      have := ab_W_get G (n := n) (S := S) (R := R) (I := I) (r := k + 3) (by omega) (by omega)
      rw [ab_R_big G (by omega)] at this
      simpa using this)
    show va_at (ab_D G) vwCl (ab_B G + k, ab_E G S' R' I' (k + 3)) H1
    rw [hs _ (by omega)]
    exact h2.kept (ho _ h2.lt)
abbrev ab_tys (G : ab_G) : List (ClassId × FieldType) := [(ab_A G 9, .int), (ab_A G 10, .boolean), (ab_A G 11, .object "LevelStore$FileRow"), (ab_A G 12, .object "java/lang/Object")]
abbrev ab_N (G : ab_G) : Nat → Prop := fun q => ab_B G ≤ q
/-- what the tables say, and what lies below the world -/
def ab_t (G : ab_G) (U : State) (H : Heap) : Prop :=
  va_K (ab_D G) vwCl (ab_tys G) U ∧ (∀ i, i < 3 → ab_L G i < ab_B G) ∧ va_Z "java/util/ArrayList" "DEFAULTCAPACITY_EMPTY_ELEMENTDATA" "[Ljava/lang/Object;" (.ref (ab_L G 0)) (ab_N G) U H ∧
  va_T (.object "java/lang/Object") (ab_L G 0) 0 (fun _ => .null) (ab_N G) U H ∧ va_Mi "[Ljava/lang/Object;" (ab_L G 1) U ∧ va_AO "java/lang/Object" U ∧ va_AO "LevelStore$FileRow" U ∧ va_Nw (.castable "LevelStore$SortedFile" "java/lang/Object") U ∧ va_Dc U
def ab_v (G : ab_G) (h : ab_M) (U : State) (H : Heap) : Prop := 3 ≤ h.1 ∧ H.size = ab_B G + (h.1 - 3) ∧ va_P (ab_D G) vwCl (ab_W G h) H ∧ va_X (ab_L G 2) (h.2.1 2).2 (h.2.2.2 2) U H
def ab_w (G : ab_G) (h : ab_M) (U : State) (H : Heap) : Prop := ab_v G h U H ∧ ab_t G U H
theorem ab_t.kept {G : ab_G} {U : State} {H H1 : Heap} (h : ab_t G U H) (hq : ∀ a : Nat, a < H.size → ¬ ab_N G a → H1[a]? = H[a]?) : ab_t G U H1 := by
  obtain ⟨h1, h2, h3, h4, h5⟩ := h
  exact ⟨h1, h2, h3.kept hq, h4.kept hq, h5⟩
theorem ab_t.warm {G : ab_G} {u U : State} {H : Heap} (hW : u.WarmedH U.vm) (h : ab_t G u H) : ab_t G U H := by
  obtain ⟨h1, h2, h3, h4, h5, h6, h7, h8, h9⟩ := h
  exact ⟨h1.moved hW.alike, h2, h3.moved hW.alike, h4.moved hW.alike, h5.moved hW.alike, h6.moved hW.alike, h7.moved hW.alike, va_Nw.warmC hW h8, h9.moved hW.alike⟩
theorem ab_v.warm {G : ab_G} {h : ab_M} {u U : State} {H : Heap} (hW : u.vm.Alike U.vm) (hv : ab_v G h u H) : ab_v G h U H := ⟨hv.1, hv.2.1, hv.2.2.1, hv.2.2.2.moved hW⟩
theorem ab_w.blind {G : ab_G} {h : ab_M} {U : State} {g : JFrame} {mk : MethodId} {a : Array Value} (hv : ab_w G h U U.heap) : ab_w G h (U.calling g mk a) (U.calling g mk a).heap := by
  obtain ⟨hv, h1, h2, h3, h4, h5, h6, h7, h8, h9⟩ := hv
  have e : U.vm.Alike (U.calling g mk a).vm := Vm.Alike.refl U.vm
  exact ⟨hv.warm e, h1.moved e, h2, h3.moved e, h4.moved e, h5.moved e, h6.moved e, h7.moved e, va_Nw.same rfl rfl h8, h9.moved e⟩
theorem ab_D_ok (G : ab_G) (h : ab_M) : va_D (ab_N G) (ab_W G h) := by
  refine ⟨fun i j p q hi hj hpq => ?_, fun k q hk => ?_⟩
  · obtain ⟨-, rfl⟩ := ab_W_at G hi
    obtain ⟨-, rfl⟩ := ab_W_at G hj
    have : ab_B G + i = ab_B G + j := hpq
    omega
  · obtain ⟨-, rfl⟩ := ab_W_at G hk
    exact Nat.le_add_right _ _
def lw_g : List Cond := lw_tbl.filter goodWord
theorem lw_g_sub {w : Cond} (h : w ∈ lw_g) : w ∈ lw_tbl := (List.mem_filter.mp h).1
theorem lw_g_of {w : Cond} {i : Nat} (h : lw_tbl[i]? = some w) (hg : goodWord w = true) : w ∈ lw_g := List.mem_filter.mpr ⟨List.mem_of_getElem? h, hg⟩
theorem lw_g_good : GoodIn lw_g lw_g := fun w h => ⟨h, good_of_word (List.mem_filter.mp h).2⟩
/-- a kind of object: its fields -/
def ab_K (ci : Nat) (C : String) (T : u_T) (N : Nat) : Prop := vwCl[ci]? = some (C, T, N) ∧ N = ab_nf ci ∧ (∀ w ∈ u_ws C T N, w ∈ lw_g) ∧ (∀ k, k < N → parseFieldDescriptor (T k).2.2.1 = some (ab_ty ci k)) ∧ (∀ a, a < N → ∀ b, b < N → a ≠ b → (T a).2.1 ≠ (T b).2.1) ∧ ci < 9
/-- a link to a field -/
def ab_FL (own : String) (idx ci k : Nat) (C : String) (T : u_T) (N : Nat) : Prop := ab_K ci C T N ∧ k < N ∧ ∃ ref, Cond.fieldLink own idx ref (T k).2.1 (T k).2.2.1 ∈ lw_g ∧ (ref = (T k).1 ∨ Cond.sameField ref (T k).1 (T k).2.1 (T k).2.2.1 ∈ lw_g)
theorem ab_E_obj {G : ab_G} {S : ab_SH} {R : ab_RR} {I : ab_II} {r ci : Nat} (h : (S r).1 = ci) (hc : ci < 9) : ab_E G S R I r = .inr (ci, (List.range (ab_nf ci)).map (ab_F G R I ci r)) := by
  subst h
  simp [ab_E, hc]
theorem ab_E_int {G : ab_G} {S : ab_SH} {R : ab_RR} {I : ab_II} {r ci : Nat} (h : (S r).1 = ci) (h1 : ¬ ci < 9) (h2 : ci < 11) : ab_E G S R I r = .inl (ab_A G ci, (S r).2, .inl (I r)) := by
  subst h
  simp [ab_E, h1, h2]
theorem ab_E_ref {G : ab_G} {S : ab_SH} {R : ab_RR} {I : ab_II} {r ci : Nat} (h : (S r).1 = ci) (h1 : ¬ ci < 9) (h2 : ¬ ci < 11) : ab_E G S R I r = .inl (ab_A G ci, (S r).2, .inr (.inr (.inr (.inr (fun i => (R r i).map (ab_R G)))))) := by
  subst h
  simp [ab_E, h1, h2]
/-- what is at a cell depends on its own planes -/
theorem ab_E_congr {G : ab_G} {S S' : ab_SH} {R R' : ab_RR} {I I' : ab_II} {j : Nat} (h1 : S' j = S j) (h2 : R' j = R j) (h3 : I' j = I j) : ab_E G S' R' I' j = ab_E G S R I j := by
  unfold ab_E ab_F
  rw [h1, h2, h3]
end
