section
/-- a private method of a class that the tables say can be made, by its rows of tables_1 -/
def lw_okq (q : MethodName × Nat) : Prop := (q.1.cls ≠ "java/lang/invoke/MethodHandle" ∧ q.1.cls ≠ "java/lang/invoke/VarHandle") ∧ Cond.instantiable q.1.cls q.2 ∈ tables_1 ∧ Cond.privateMethod q.1 ∈ tables_1 ∧ Cond.instanceMethod q.1 ∈ tables_1
theorem lw_p0 : lw_okq (⟨"CardNobodyReads$Tongues", "spell", "(I)V"⟩, 1) := ⟨⟨by decide +kernel, by decide +kernel⟩, List.mem_of_getElem? (i := 29) (by decide +kernel), List.mem_of_getElem? (i := 35) (by decide +kernel), List.mem_of_getElem? (i := 36) (by decide +kernel)⟩
theorem lw_p1 : lw_okq (⟨"CardNobodyReads$Tape", "endOf", "(I)I"⟩, 4) := ⟨⟨by decide +kernel, by decide +kernel⟩, List.mem_of_getElem? (i := 118) (by decide +kernel), List.mem_of_getElem? (i := 206) (by decide +kernel), List.mem_of_getElem? (i := 207) (by decide +kernel)⟩
theorem lw_p2 : lw_okq (⟨"CardNobodyReads$Tape", "tokenOf", "(II)I"⟩, 4) := ⟨⟨by decide +kernel, by decide +kernel⟩, List.mem_of_getElem? (i := 118) (by decide +kernel), List.mem_of_getElem? (i := 219) (by decide +kernel), List.mem_of_getElem? (i := 220) (by decide +kernel)⟩
theorem lw_p3 : lw_okq (⟨"CardNobodyReads$Tape", "word", "(II)I"⟩, 4) := ⟨⟨by decide +kernel, by decide +kernel⟩, List.mem_of_getElem? (i := 118) (by decide +kernel), List.mem_of_getElem? (i := 223) (by decide +kernel), List.mem_of_getElem? (i := 224) (by decide +kernel)⟩
theorem lw_p4 : lw_okq (⟨"CardNobodyReads$Tape", "spells", "(Ljava/lang/String;II)Z"⟩, 4) := ⟨⟨by decide +kernel, by decide +kernel⟩, List.mem_of_getElem? (i := 118) (by decide +kernel), List.mem_of_getElem? (i := 228) (by decide +kernel), List.mem_of_getElem? (i := 229) (by decide +kernel)⟩
theorem lw_p5 : lw_okq (⟨"CardNobodyReads$Tape", "value", "(II)I"⟩, 4) := ⟨⟨by decide +kernel, by decide +kernel⟩, List.mem_of_getElem? (i := 118) (by decide +kernel), List.mem_of_getElem? (i := 245) (by decide +kernel), List.mem_of_getElem? (i := 246) (by decide +kernel)⟩
theorem lw_p6 : lw_okq (⟨"CardNobodyReads$Texts", "readPart", "(II)Z"⟩, 8) := ⟨⟨by decide +kernel, by decide +kernel⟩, List.mem_of_getElem? (i := 112) (by decide +kernel), List.mem_of_getElem? (i := 307) (by decide +kernel), List.mem_of_getElem? (i := 308) (by decide +kernel)⟩
theorem lw_p7 : lw_okq (⟨"CardNobodyReads$Texts", "pass", "(I)Z"⟩, 8) := ⟨⟨by decide +kernel, by decide +kernel⟩, List.mem_of_getElem? (i := 112) (by decide +kernel), List.mem_of_getElem? (i := 311) (by decide +kernel), List.mem_of_getElem? (i := 312) (by decide +kernel)⟩
theorem lw_p8 : lw_okq (⟨"CardNobodyReads$Texts", "token", "()I"⟩, 8) := ⟨⟨by decide +kernel, by decide +kernel⟩, List.mem_of_getElem? (i := 112) (by decide +kernel), List.mem_of_getElem? (i := 315) (by decide +kernel), List.mem_of_getElem? (i := 316) (by decide +kernel)⟩
theorem lw_p9 : lw_okq (⟨"CardNobodyReads$Texts", "readEither", "(I)Z"⟩, 8) := ⟨⟨by decide +kernel, by decide +kernel⟩, List.mem_of_getElem? (i := 112) (by decide +kernel), List.mem_of_getElem? (i := 320) (by decide +kernel), List.mem_of_getElem? (i := 321) (by decide +kernel)⟩
theorem lw_p10 : lw_okq (⟨"CardNobodyReads$Texts", "readBoth", "(I)Z"⟩, 8) := ⟨⟨by decide +kernel, by decide +kernel⟩, List.mem_of_getElem? (i := 112) (by decide +kernel), List.mem_of_getElem? (i := 324) (by decide +kernel), List.mem_of_getElem? (i := 325) (by decide +kernel)⟩
theorem lw_p11 : lw_okq (⟨"CardNobodyReads$Texts", "readNot", "(I)Z"⟩, 8) := ⟨⟨by decide +kernel, by decide +kernel⟩, List.mem_of_getElem? (i := 112) (by decide +kernel), List.mem_of_getElem? (i := 328) (by decide +kernel), List.mem_of_getElem? (i := 329) (by decide +kernel)⟩
theorem lw_p12 : lw_okq (⟨"CardNobodyReads$Texts", "readCompared", "(I)Z"⟩, 8) := ⟨⟨by decide +kernel, by decide +kernel⟩, List.mem_of_getElem? (i := 112) (by decide +kernel), List.mem_of_getElem? (i := 332) (by decide +kernel), List.mem_of_getElem? (i := 333) (by decide +kernel)⟩
theorem lw_p13 : lw_okq (⟨"CardNobodyReads$Texts", "readSum", "(I)Z"⟩, 8) := ⟨⟨by decide +kernel, by decide +kernel⟩, List.mem_of_getElem? (i := 112) (by decide +kernel), List.mem_of_getElem? (i := 336) (by decide +kernel), List.mem_of_getElem? (i := 337) (by decide +kernel)⟩
theorem lw_p14 : lw_okq (⟨"CardNobodyReads$Texts", "readTerm", "(I)Z"⟩, 8) := ⟨⟨by decide +kernel, by decide +kernel⟩, List.mem_of_getElem? (i := 112) (by decide +kernel), List.mem_of_getElem? (i := 340) (by decide +kernel), List.mem_of_getElem? (i := 341) (by decide +kernel)⟩
theorem lw_p15 : lw_okq (⟨"CardNobodyReads$Texts", "readOne", "(I)Z"⟩, 8) := ⟨⟨by decide +kernel, by decide +kernel⟩, List.mem_of_getElem? (i := 112) (by decide +kernel), List.mem_of_getElem? (i := 344) (by decide +kernel), List.mem_of_getElem? (i := 345) (by decide +kernel)⟩
def lw_privs_1 : List (MethodName × Nat) := [(⟨"CardNobodyReads$Tongues", "spell", "(I)V"⟩, 1), (⟨"CardNobodyReads$Tape", "endOf", "(I)I"⟩, 4), (⟨"CardNobodyReads$Tape", "tokenOf", "(II)I"⟩, 4), (⟨"CardNobodyReads$Tape", "word", "(II)I"⟩, 4), (⟨"CardNobodyReads$Tape", "spells", "(Ljava/lang/String;II)Z"⟩, 4), (⟨"CardNobodyReads$Tape", "value", "(II)I"⟩, 4), (⟨"CardNobodyReads$Texts", "readPart", "(II)Z"⟩, 8), (⟨"CardNobodyReads$Texts", "pass", "(I)Z"⟩, 8), (⟨"CardNobodyReads$Texts", "token", "()I"⟩, 8), (⟨"CardNobodyReads$Texts", "readEither", "(I)Z"⟩, 8), (⟨"CardNobodyReads$Texts", "readBoth", "(I)Z"⟩, 8), (⟨"CardNobodyReads$Texts", "readNot", "(I)Z"⟩, 8), (⟨"CardNobodyReads$Texts", "readCompared", "(I)Z"⟩, 8), (⟨"CardNobodyReads$Texts", "readSum", "(I)Z"⟩, 8), (⟨"CardNobodyReads$Texts", "readTerm", "(I)Z"⟩, 8), (⟨"CardNobodyReads$Texts", "readOne", "(I)Z"⟩, 8)]
theorem lw_r1 : ∀ q ∈ lw_privs_1, lw_okq q := List.forall_mem_cons.mpr ⟨lw_p0, List.forall_mem_cons.mpr ⟨lw_p1, List.forall_mem_cons.mpr ⟨lw_p2, List.forall_mem_cons.mpr ⟨lw_p3, List.forall_mem_cons.mpr ⟨lw_p4, List.forall_mem_cons.mpr ⟨lw_p5, List.forall_mem_cons.mpr ⟨lw_p6, List.forall_mem_cons.mpr ⟨lw_p7, List.forall_mem_cons.mpr ⟨lw_p8, List.forall_mem_cons.mpr ⟨lw_p9, List.forall_mem_cons.mpr ⟨lw_p10, List.forall_mem_cons.mpr ⟨lw_p11, List.forall_mem_cons.mpr ⟨lw_p12, List.forall_mem_cons.mpr ⟨lw_p13, List.forall_mem_cons.mpr ⟨lw_p14, List.forall_mem_cons.mpr ⟨lw_p15, fun _ h => absurd h List.not_mem_nil⟩⟩⟩⟩⟩⟩⟩⟩⟩⟩⟩⟩⟩⟩⟩⟩
theorem lw_p16 : lw_okq (⟨"CardNobodyReads$Texts", "write", "(I)V"⟩, 8) := ⟨⟨by decide +kernel, by decide +kernel⟩, List.mem_of_getElem? (i := 112) (by decide +kernel), List.mem_of_getElem? (i := 348) (by decide +kernel), List.mem_of_getElem? (i := 349) (by decide +kernel)⟩
theorem lw_p17 : lw_okq (⟨"CardNobodyReads", "addLine", "(II)I"⟩, 13) := ⟨⟨by decide +kernel, by decide +kernel⟩, List.mem_of_getElem? (i := 21) (by decide +kernel), List.mem_of_getElem? (i := 543) (by decide +kernel), List.mem_of_getElem? (i := 544) (by decide +kernel)⟩
theorem lw_p18 : lw_okq (⟨"CardNobodyReads", "isLine", "(I)Z"⟩, 13) := ⟨⟨by decide +kernel, by decide +kernel⟩, List.mem_of_getElem? (i := 21) (by decide +kernel), List.mem_of_getElem? (i := 564) (by decide +kernel), List.mem_of_getElem? (i := 565) (by decide +kernel)⟩
theorem lw_p19 : lw_okq (⟨"CardNobodyReads", "isGuest", "(I)Z"⟩, 13) := ⟨⟨by decide +kernel, by decide +kernel⟩, List.mem_of_getElem? (i := 21) (by decide +kernel), List.mem_of_getElem? (i := 591) (by decide +kernel), List.mem_of_getElem? (i := 592) (by decide +kernel)⟩
theorem lw_p20 : lw_okq (⟨"CardNobodyReads$Texts", "valueOf", "(II)I"⟩, 8) := ⟨⟨by decide +kernel, by decide +kernel⟩, List.mem_of_getElem? (i := 112) (by decide +kernel), List.mem_of_getElem? (i := 630) (by decide +kernel), List.mem_of_getElem? (i := 631) (by decide +kernel)⟩
theorem lw_p21 : lw_okq (⟨"CardNobodyReads", "mayBeFact", "(IIII)Z"⟩, 13) := ⟨⟨by decide +kernel, by decide +kernel⟩, List.mem_of_getElem? (i := 21) (by decide +kernel), List.mem_of_getElem? (i := 643) (by decide +kernel), List.mem_of_getElem? (i := 644) (by decide +kernel)⟩
theorem lw_p22 : lw_okq (⟨"CardNobodyReads", "fitting", "()LCardNobodyReads$Fits;"⟩, 13) := ⟨⟨by decide +kernel, by decide +kernel⟩, List.mem_of_getElem? (i := 21) (by decide +kernel), List.mem_of_getElem? (i := 664) (by decide +kernel), List.mem_of_getElem? (i := 665) (by decide +kernel)⟩
theorem lw_p23 : lw_okq (⟨"CardNobodyReads$Fits", "allow", "(LCardNobodyReads$Lines;LCardNobodyReads$Texts;I)V"⟩, 7) := ⟨⟨by decide +kernel, by decide +kernel⟩, List.mem_of_getElem? (i := 385) (by decide +kernel), List.mem_of_getElem? (i := 675) (by decide +kernel), List.mem_of_getElem? (i := 676) (by decide +kernel)⟩
theorem lw_p24 : lw_okq (⟨"CardNobodyReads$Fits", "isLawful", "(LCardNobodyReads$Lines;I)Z"⟩, 7) := ⟨⟨by decide +kernel, by decide +kernel⟩, List.mem_of_getElem? (i := 385) (by decide +kernel), List.mem_of_getElem? (i := 684) (by decide +kernel), List.mem_of_getElem? (i := 685) (by decide +kernel)⟩
theorem lw_p25 : lw_okq (⟨"CardNobodyReads$Fits", "take", "(LCardNobodyReads$Tongues;LCardNobodyReads$Lines;I)V"⟩, 7) := ⟨⟨by decide +kernel, by decide +kernel⟩, List.mem_of_getElem? (i := 385) (by decide +kernel), List.mem_of_getElem? (i := 703) (by decide +kernel), List.mem_of_getElem? (i := 704) (by decide +kernel)⟩
theorem lw_p26 : lw_okq (⟨"CardNobodyReads", "safeLines", "(LCardNobodyReads$Fits;I)I"⟩, 13) := ⟨⟨by decide +kernel, by decide +kernel⟩, List.mem_of_getElem? (i := 21) (by decide +kernel), List.mem_of_getElem? (i := 786) (by decide +kernel), List.mem_of_getElem? (i := 787) (by decide +kernel)⟩
theorem lw_p27 : lw_okq (⟨"CardNobodyReads", "planTonight", "(LCardNobodyReads$Fits;)V"⟩, 13) := ⟨⟨by decide +kernel, by decide +kernel⟩, List.mem_of_getElem? (i := 21) (by decide +kernel), List.mem_of_getElem? (i := 802) (by decide +kernel), List.mem_of_getElem? (i := 803) (by decide +kernel)⟩
theorem lw_p28 : lw_okq (⟨"CardNobodyReads", "liking", "(LCardNobodyReads$Fits;II)I"⟩, 13) := ⟨⟨by decide +kernel, by decide +kernel⟩, List.mem_of_getElem? (i := 21) (by decide +kernel), List.mem_of_getElem? (i := 806) (by decide +kernel), List.mem_of_getElem? (i := 807) (by decide +kernel)⟩
theorem lw_p29 : lw_okq (⟨"CardNobodyReads$Tonight", "serve", "(IILCardNobodyReads$Lines;II)V"⟩, 5) := ⟨⟨by decide +kernel, by decide +kernel⟩, List.mem_of_getElem? (i := 415) (by decide +kernel), List.mem_of_getElem? (i := 820) (by decide +kernel), List.mem_of_getElem? (i := 821) (by decide +kernel)⟩
theorem lw_p30 : lw_okq (⟨"CardNobodyReads$Tonight", "keepIfBetter", "(I)V"⟩, 5) := ⟨⟨by decide +kernel, by decide +kernel⟩, List.mem_of_getElem? (i := 415) (by decide +kernel), List.mem_of_getElem? (i := 824) (by decide +kernel), List.mem_of_getElem? (i := 825) (by decide +kernel)⟩
theorem lw_p31 : lw_okq (⟨"CardNobodyReads", "mostLiking", "(LCardNobodyReads$Fits;II)I"⟩, 13) := ⟨⟨by decide +kernel, by decide +kernel⟩, List.mem_of_getElem? (i := 21) (by decide +kernel), List.mem_of_getElem? (i := 845) (by decide +kernel), List.mem_of_getElem? (i := 846) (by decide +kernel)⟩
def lw_privs_2 : List (MethodName × Nat) := [(⟨"CardNobodyReads$Texts", "write", "(I)V"⟩, 8), (⟨"CardNobodyReads", "addLine", "(II)I"⟩, 13), (⟨"CardNobodyReads", "isLine", "(I)Z"⟩, 13), (⟨"CardNobodyReads", "isGuest", "(I)Z"⟩, 13), (⟨"CardNobodyReads$Texts", "valueOf", "(II)I"⟩, 8), (⟨"CardNobodyReads", "mayBeFact", "(IIII)Z"⟩, 13), (⟨"CardNobodyReads", "fitting", "()LCardNobodyReads$Fits;"⟩, 13), (⟨"CardNobodyReads$Fits", "allow", "(LCardNobodyReads$Lines;LCardNobodyReads$Texts;I)V"⟩, 7), (⟨"CardNobodyReads$Fits", "isLawful", "(LCardNobodyReads$Lines;I)Z"⟩, 7), (⟨"CardNobodyReads$Fits", "take", "(LCardNobodyReads$Tongues;LCardNobodyReads$Lines;I)V"⟩, 7), (⟨"CardNobodyReads", "safeLines", "(LCardNobodyReads$Fits;I)I"⟩, 13), (⟨"CardNobodyReads", "planTonight", "(LCardNobodyReads$Fits;)V"⟩, 13), (⟨"CardNobodyReads", "liking", "(LCardNobodyReads$Fits;II)I"⟩, 13), (⟨"CardNobodyReads$Tonight", "serve", "(IILCardNobodyReads$Lines;II)V"⟩, 5), (⟨"CardNobodyReads$Tonight", "keepIfBetter", "(I)V"⟩, 5), (⟨"CardNobodyReads", "mostLiking", "(LCardNobodyReads$Fits;II)I"⟩, 13)]
theorem lw_r2 : ∀ q ∈ lw_privs_2, lw_okq q := List.forall_mem_cons.mpr ⟨lw_p16, List.forall_mem_cons.mpr ⟨lw_p17, List.forall_mem_cons.mpr ⟨lw_p18, List.forall_mem_cons.mpr ⟨lw_p19, List.forall_mem_cons.mpr ⟨lw_p20, List.forall_mem_cons.mpr ⟨lw_p21, List.forall_mem_cons.mpr ⟨lw_p22, List.forall_mem_cons.mpr ⟨lw_p23, List.forall_mem_cons.mpr ⟨lw_p24, List.forall_mem_cons.mpr ⟨lw_p25, List.forall_mem_cons.mpr ⟨lw_p26, List.forall_mem_cons.mpr ⟨lw_p27, List.forall_mem_cons.mpr ⟨lw_p28, List.forall_mem_cons.mpr ⟨lw_p29, List.forall_mem_cons.mpr ⟨lw_p30, List.forall_mem_cons.mpr ⟨lw_p31, fun _ h => absurd h List.not_mem_nil⟩⟩⟩⟩⟩⟩⟩⟩⟩⟩⟩⟩⟩⟩⟩⟩
theorem lw_p32 : lw_okq (⟨"CardNobodyReads", "teaching", "(LCardNobodyReads$Fits;I)I"⟩, 13) := ⟨⟨by decide +kernel, by decide +kernel⟩, List.mem_of_getElem? (i := 21) (by decide +kernel), List.mem_of_getElem? (i := 854) (by decide +kernel), List.mem_of_getElem? (i := 855) (by decide +kernel)⟩
theorem lw_p33 : lw_okq (⟨"CardNobodyReads", "isMeal", "(II)Z"⟩, 13) := ⟨⟨by decide +kernel, by decide +kernel⟩, List.mem_of_getElem? (i := 21) (by decide +kernel), List.mem_of_getElem? (i := 916) (by decide +kernel), List.mem_of_getElem? (i := 917) (by decide +kernel)⟩
theorem lw_p34 : lw_okq (⟨"CardNobodyReadsModel", "next", "()V"⟩, 47) := ⟨⟨by decide +kernel, by decide +kernel⟩, List.mem_of_getElem? (i := 1001) (by decide +kernel), List.mem_of_getElem? (i := 1011) (by decide +kernel), List.mem_of_getElem? (i := 1012) (by decide +kernel)⟩
theorem lw_p35 : lw_okq (⟨"CardNobodyReadsModel", "wordFrom", "(II)I"⟩, 47) := ⟨⟨by decide +kernel, by decide +kernel⟩, List.mem_of_getElem? (i := 1001) (by decide +kernel), List.mem_of_getElem? (i := 1018) (by decide +kernel), List.mem_of_getElem? (i := 1019) (by decide +kernel)⟩
theorem lw_p36 : lw_okq (⟨"CardNobodyReadsModel", "eRead", "()Z"⟩, 47) := ⟨⟨by decide +kernel, by decide +kernel⟩, List.mem_of_getElem? (i := 1001) (by decide +kernel), List.mem_of_getElem? (i := 1022) (by decide +kernel), List.mem_of_getElem? (i := 1023) (by decide +kernel)⟩
theorem lw_p37 : lw_okq (⟨"CardNobodyReadsModel", "puts", "(I)V"⟩, 47) := ⟨⟨by decide +kernel, by decide +kernel⟩, List.mem_of_getElem? (i := 1001) (by decide +kernel), List.mem_of_getElem? (i := 1027) (by decide +kernel), List.mem_of_getElem? (i := 1028) (by decide +kernel)⟩
theorem lw_p38 : lw_okq (⟨"CardNobodyReadsModel", "unwinds", "(I)V"⟩, 47) := ⟨⟨by decide +kernel, by decide +kernel⟩, List.mem_of_getElem? (i := 1001) (by decide +kernel), List.mem_of_getElem? (i := 1031) (by decide +kernel), List.mem_of_getElem? (i := 1032) (by decide +kernel)⟩
theorem lw_p39 : lw_okq (⟨"CardNobodyReadsModel", "opensOne", "(I)Z"⟩, 47) := ⟨⟨by decide +kernel, by decide +kernel⟩, List.mem_of_getElem? (i := 1001) (by decide +kernel), List.mem_of_getElem? (i := 1038) (by decide +kernel), List.mem_of_getElem? (i := 1039) (by decide +kernel)⟩
theorem lw_p40 : lw_okq (⟨"CardNobodyReadsModel", "holds", "(I)V"⟩, 47) := ⟨⟨by decide +kernel, by decide +kernel⟩, List.mem_of_getElem? (i := 1001) (by decide +kernel), List.mem_of_getElem? (i := 1042) (by decide +kernel), List.mem_of_getElem? (i := 1043) (by decide +kernel)⟩
theorem lw_p41 : lw_okq (⟨"CardNobodyReadsModel", "signOf", "()I"⟩, 47) := ⟨⟨by decide +kernel, by decide +kernel⟩, List.mem_of_getElem? (i := 1001) (by decide +kernel), List.mem_of_getElem? (i := 1046) (by decide +kernel), List.mem_of_getElem? (i := 1047) (by decide +kernel)⟩
theorem lw_p42 : lw_okq (⟨"CardNobodyReadsModel", "between", "(I)Z"⟩, 47) := ⟨⟨by decide +kernel, by decide +kernel⟩, List.mem_of_getElem? (i := 1001) (by decide +kernel), List.mem_of_getElem? (i := 1050) (by decide +kernel), List.mem_of_getElem? (i := 1051) (by decide +kernel)⟩
theorem lw_p43 : lw_okq (⟨"CardNobodyReadsModel", "isTongue", "(II)Z"⟩, 47) := ⟨⟨by decide +kernel, by decide +kernel⟩, List.mem_of_getElem? (i := 1001) (by decide +kernel), List.mem_of_getElem? (i := 1055) (by decide +kernel), List.mem_of_getElem? (i := 1056) (by decide +kernel)⟩
theorem lw_p44 : lw_okq (⟨"CardNobodyReadsModel", "isLine", "(I)Z"⟩, 47) := ⟨⟨by decide +kernel, by decide +kernel⟩, List.mem_of_getElem? (i := 1001) (by decide +kernel), List.mem_of_getElem? (i := 1212) (by decide +kernel), List.mem_of_getElem? (i := 1213) (by decide +kernel)⟩
theorem lw_p45 : lw_okq (⟨"CardNobodyReadsModel", "isGuest", "(I)Z"⟩, 47) := ⟨⟨by decide +kernel, by decide +kernel⟩, List.mem_of_getElem? (i := 1001) (by decide +kernel), List.mem_of_getElem? (i := 1228) (by decide +kernel), List.mem_of_getElem? (i := 1229) (by decide +kernel)⟩
theorem lw_p46 : lw_okq (⟨"CardNobodyReadsModel", "asksOf", "(IIIII)I"⟩, 47) := ⟨⟨by decide +kernel, by decide +kernel⟩, List.mem_of_getElem? (i := 1001) (by decide +kernel), List.mem_of_getElem? (i := 1256) (by decide +kernel), List.mem_of_getElem? (i := 1257) (by decide +kernel)⟩
theorem lw_p47 : lw_okq (⟨"CardNobodyReadsModel", "worth", "(I)I"⟩, 47) := ⟨⟨by decide +kernel, by decide +kernel⟩, List.mem_of_getElem? (i := 1001) (by decide +kernel), List.mem_of_getElem? (i := 1260) (by decide +kernel), List.mem_of_getElem? (i := 1261) (by decide +kernel)⟩
def lw_privs_3 : List (MethodName × Nat) := [(⟨"CardNobodyReads", "teaching", "(LCardNobodyReads$Fits;I)I"⟩, 13), (⟨"CardNobodyReads", "isMeal", "(II)Z"⟩, 13), (⟨"CardNobodyReadsModel", "next", "()V"⟩, 47), (⟨"CardNobodyReadsModel", "wordFrom", "(II)I"⟩, 47), (⟨"CardNobodyReadsModel", "eRead", "()Z"⟩, 47), (⟨"CardNobodyReadsModel", "puts", "(I)V"⟩, 47), (⟨"CardNobodyReadsModel", "unwinds", "(I)V"⟩, 47), (⟨"CardNobodyReadsModel", "opensOne", "(I)Z"⟩, 47), (⟨"CardNobodyReadsModel", "holds", "(I)V"⟩, 47), (⟨"CardNobodyReadsModel", "signOf", "()I"⟩, 47), (⟨"CardNobodyReadsModel", "between", "(I)Z"⟩, 47), (⟨"CardNobodyReadsModel", "isTongue", "(II)Z"⟩, 47), (⟨"CardNobodyReadsModel", "isLine", "(I)Z"⟩, 47), (⟨"CardNobodyReadsModel", "isGuest", "(I)Z"⟩, 47), (⟨"CardNobodyReadsModel", "asksOf", "(IIIII)I"⟩, 47), (⟨"CardNobodyReadsModel", "worth", "(I)I"⟩, 47)]
theorem lw_r3 : ∀ q ∈ lw_privs_3, lw_okq q := List.forall_mem_cons.mpr ⟨lw_p32, List.forall_mem_cons.mpr ⟨lw_p33, List.forall_mem_cons.mpr ⟨lw_p34, List.forall_mem_cons.mpr ⟨lw_p35, List.forall_mem_cons.mpr ⟨lw_p36, List.forall_mem_cons.mpr ⟨lw_p37, List.forall_mem_cons.mpr ⟨lw_p38, List.forall_mem_cons.mpr ⟨lw_p39, List.forall_mem_cons.mpr ⟨lw_p40, List.forall_mem_cons.mpr ⟨lw_p41, List.forall_mem_cons.mpr ⟨lw_p42, List.forall_mem_cons.mpr ⟨lw_p43, List.forall_mem_cons.mpr ⟨lw_p44, List.forall_mem_cons.mpr ⟨lw_p45, List.forall_mem_cons.mpr ⟨lw_p46, List.forall_mem_cons.mpr ⟨lw_p47, fun _ h => absurd h List.not_mem_nil⟩⟩⟩⟩⟩⟩⟩⟩⟩⟩⟩⟩⟩⟩⟩⟩
theorem lw_p48 : lw_okq (⟨"CardNobodyReadsModel", "isFact", "(IIII)Z"⟩, 47) := ⟨⟨by decide +kernel, by decide +kernel⟩, List.mem_of_getElem? (i := 1001) (by decide +kernel), List.mem_of_getElem? (i := 1274) (by decide +kernel), List.mem_of_getElem? (i := 1275) (by decide +kernel)⟩
theorem lw_p49 : lw_okq (⟨"CardNobodyReadsModel", "lays", "(IIII)V"⟩, 47) := ⟨⟨by decide +kernel, by decide +kernel⟩, List.mem_of_getElem? (i := 1001) (by decide +kernel), List.mem_of_getElem? (i := 1278) (by decide +kernel), List.mem_of_getElem? (i := 1279) (by decide +kernel)⟩
theorem lw_p50 : lw_okq (⟨"CardNobodyReadsModel", "finds", "()V"⟩, 47) := ⟨⟨by decide +kernel, by decide +kernel⟩, List.mem_of_getElem? (i := 1001) (by decide +kernel), List.mem_of_getElem? (i := 1294) (by decide +kernel), List.mem_of_getElem? (i := 1295) (by decide +kernel)⟩
theorem lw_p51 : lw_okq (⟨"CardNobodyReadsModel", "mays", "()V"⟩, 47) := ⟨⟨by decide +kernel, by decide +kernel⟩, List.mem_of_getElem? (i := 1001) (by decide +kernel), List.mem_of_getElem? (i := 1298) (by decide +kernel), List.mem_of_getElem? (i := 1299) (by decide +kernel)⟩
theorem lw_p52 : lw_okq (⟨"CardNobodyReadsModel", "mayBe", "(I)Z"⟩, 47) := ⟨⟨by decide +kernel, by decide +kernel⟩, List.mem_of_getElem? (i := 1001) (by decide +kernel), List.mem_of_getElem? (i := 1302) (by decide +kernel), List.mem_of_getElem? (i := 1303) (by decide +kernel)⟩
theorem lw_p53 : lw_okq (⟨"CardNobodyReadsModel", "hasIn", "(II)I"⟩, 47) := ⟨⟨by decide +kernel, by decide +kernel⟩, List.mem_of_getElem? (i := 1001) (by decide +kernel), List.mem_of_getElem? (i := 1306) (by decide +kernel), List.mem_of_getElem? (i := 1307) (by decide +kernel)⟩
theorem lw_p54 : lw_okq (⟨"CardNobodyReadsModel", "holds", "(II)Z"⟩, 47) := ⟨⟨by decide +kernel, by decide +kernel⟩, List.mem_of_getElem? (i := 1001) (by decide +kernel), List.mem_of_getElem? (i := 1310) (by decide +kernel), List.mem_of_getElem? (i := 1311) (by decide +kernel)⟩
theorem lw_p55 : lw_okq (⟨"CardNobodyReadsModel", "partIn", "(II)I"⟩, 47) := ⟨⟨by decide +kernel, by decide +kernel⟩, List.mem_of_getElem? (i := 1001) (by decide +kernel), List.mem_of_getElem? (i := 1321) (by decide +kernel), List.mem_of_getElem? (i := 1322) (by decide +kernel)⟩
theorem lw_p56 : lw_okq (⟨"CardNobodyReadsModel", "meansIn", "(II)I"⟩, 47) := ⟨⟨by decide +kernel, by decide +kernel⟩, List.mem_of_getElem? (i := 1001) (by decide +kernel), List.mem_of_getElem? (i := 1329) (by decide +kernel), List.mem_of_getElem? (i := 1330) (by decide +kernel)⟩
theorem lw_p57 : lw_okq (⟨"CardNobodyReadsModel", "unlikeOf", "(I)I"⟩, 47) := ⟨⟨by decide +kernel, by decide +kernel⟩, List.mem_of_getElem? (i := 1001) (by decide +kernel), List.mem_of_getElem? (i := 1337) (by decide +kernel), List.mem_of_getElem? (i := 1338) (by decide +kernel)⟩
theorem lw_p58 : lw_okq (⟨"CardNobodyReadsModel", "ofAll", "(II)J"⟩, 47) := ⟨⟨by decide +kernel, by decide +kernel⟩, List.mem_of_getElem? (i := 1001) (by decide +kernel), List.mem_of_getElem? (i := 1350) (by decide +kernel), List.mem_of_getElem? (i := 1351) (by decide +kernel)⟩
theorem lw_p59 : lw_okq (⟨"CardNobodyReadsModel", "safeFor", "(I)I"⟩, 47) := ⟨⟨by decide +kernel, by decide +kernel⟩, List.mem_of_getElem? (i := 1001) (by decide +kernel), List.mem_of_getElem? (i := 1369) (by decide +kernel), List.mem_of_getElem? (i := 1370) (by decide +kernel)⟩
theorem lw_p60 : lw_okq (⟨"CardNobodyReadsModel", "shunnedIn", "(II)I"⟩, 47) := ⟨⟨by decide +kernel, by decide +kernel⟩, List.mem_of_getElem? (i := 1001) (by decide +kernel), List.mem_of_getElem? (i := 1373) (by decide +kernel), List.mem_of_getElem? (i := 1374) (by decide +kernel)⟩
theorem lw_p61 : lw_okq (⟨"CardNobodyReadsModel", "tonight", "()V"⟩, 47) := ⟨⟨by decide +kernel, by decide +kernel⟩, List.mem_of_getElem? (i := 1001) (by decide +kernel), List.mem_of_getElem? (i := 1385) (by decide +kernel), List.mem_of_getElem? (i := 1386) (by decide +kernel)⟩
theorem lw_p62 : lw_okq (⟨"CardNobodyReadsModel", "likes", "()V"⟩, 47) := ⟨⟨by decide +kernel, by decide +kernel⟩, List.mem_of_getElem? (i := 1001) (by decide +kernel), List.mem_of_getElem? (i := 1389) (by decide +kernel), List.mem_of_getElem? (i := 1390) (by decide +kernel)⟩
theorem lw_p63 : lw_okq (⟨"CardNobodyReadsModel", "liking", "(II)I"⟩, 47) := ⟨⟨by decide +kernel, by decide +kernel⟩, List.mem_of_getElem? (i := 1001) (by decide +kernel), List.mem_of_getElem? (i := 1393) (by decide +kernel), List.mem_of_getElem? (i := 1394) (by decide +kernel)⟩
def lw_privs_4 : List (MethodName × Nat) := [(⟨"CardNobodyReadsModel", "isFact", "(IIII)Z"⟩, 47), (⟨"CardNobodyReadsModel", "lays", "(IIII)V"⟩, 47), (⟨"CardNobodyReadsModel", "finds", "()V"⟩, 47), (⟨"CardNobodyReadsModel", "mays", "()V"⟩, 47), (⟨"CardNobodyReadsModel", "mayBe", "(I)Z"⟩, 47), (⟨"CardNobodyReadsModel", "hasIn", "(II)I"⟩, 47), (⟨"CardNobodyReadsModel", "holds", "(II)Z"⟩, 47), (⟨"CardNobodyReadsModel", "partIn", "(II)I"⟩, 47), (⟨"CardNobodyReadsModel", "meansIn", "(II)I"⟩, 47), (⟨"CardNobodyReadsModel", "unlikeOf", "(I)I"⟩, 47), (⟨"CardNobodyReadsModel", "ofAll", "(II)J"⟩, 47), (⟨"CardNobodyReadsModel", "safeFor", "(I)I"⟩, 47), (⟨"CardNobodyReadsModel", "shunnedIn", "(II)I"⟩, 47), (⟨"CardNobodyReadsModel", "tonight", "()V"⟩, 47), (⟨"CardNobodyReadsModel", "likes", "()V"⟩, 47), (⟨"CardNobodyReadsModel", "liking", "(II)I"⟩, 47)]
theorem lw_r4 : ∀ q ∈ lw_privs_4, lw_okq q := List.forall_mem_cons.mpr ⟨lw_p48, List.forall_mem_cons.mpr ⟨lw_p49, List.forall_mem_cons.mpr ⟨lw_p50, List.forall_mem_cons.mpr ⟨lw_p51, List.forall_mem_cons.mpr ⟨lw_p52, List.forall_mem_cons.mpr ⟨lw_p53, List.forall_mem_cons.mpr ⟨lw_p54, List.forall_mem_cons.mpr ⟨lw_p55, List.forall_mem_cons.mpr ⟨lw_p56, List.forall_mem_cons.mpr ⟨lw_p57, List.forall_mem_cons.mpr ⟨lw_p58, List.forall_mem_cons.mpr ⟨lw_p59, List.forall_mem_cons.mpr ⟨lw_p60, List.forall_mem_cons.mpr ⟨lw_p61, List.forall_mem_cons.mpr ⟨lw_p62, List.forall_mem_cons.mpr ⟨lw_p63, fun _ h => absurd h List.not_mem_nil⟩⟩⟩⟩⟩⟩⟩⟩⟩⟩⟩⟩⟩⟩⟩⟩
theorem lw_p64 : lw_okq (⟨"CardNobodyReadsModel", "orders", "(III)V"⟩, 47) := ⟨⟨by decide +kernel, by decide +kernel⟩, List.mem_of_getElem? (i := 1001) (by decide +kernel), List.mem_of_getElem? (i := 1397) (by decide +kernel), List.mem_of_getElem? (i := 1398) (by decide +kernel)⟩
theorem lw_p65 : lw_okq (⟨"CardNobodyReadsModel", "teaching", "(I)I"⟩, 47) := ⟨⟨by decide +kernel, by decide +kernel⟩, List.mem_of_getElem? (i := 1001) (by decide +kernel), List.mem_of_getElem? (i := 1413) (by decide +kernel), List.mem_of_getElem? (i := 1414) (by decide +kernel)⟩
theorem lw_p66 : lw_okq (⟨"CardNobodyReadsModel", "counts", "(II)V"⟩, 47) := ⟨⟨by decide +kernel, by decide +kernel⟩, List.mem_of_getElem? (i := 1001) (by decide +kernel), List.mem_of_getElem? (i := 1417) (by decide +kernel), List.mem_of_getElem? (i := 1418) (by decide +kernel)⟩
theorem lw_p67 : lw_okq (⟨"CardNobodyReadsModel", "fitWithout", "(I)I"⟩, 47) := ⟨⟨by decide +kernel, by decide +kernel⟩, List.mem_of_getElem? (i := 1001) (by decide +kernel), List.mem_of_getElem? (i := 1437) (by decide +kernel), List.mem_of_getElem? (i := 1438) (by decide +kernel)⟩
theorem lw_p68 : lw_okq (⟨"CardNobodyReadsModel", "drawnOf", "(I)I"⟩, 47) := ⟨⟨by decide +kernel, by decide +kernel⟩, List.mem_of_getElem? (i := 1001) (by decide +kernel), List.mem_of_getElem? (i := 1466) (by decide +kernel), List.mem_of_getElem? (i := 1467) (by decide +kernel)⟩
def lw_privs_5 : List (MethodName × Nat) := [(⟨"CardNobodyReadsModel", "orders", "(III)V"⟩, 47), (⟨"CardNobodyReadsModel", "teaching", "(I)I"⟩, 47), (⟨"CardNobodyReadsModel", "counts", "(II)V"⟩, 47), (⟨"CardNobodyReadsModel", "fitWithout", "(I)I"⟩, 47), (⟨"CardNobodyReadsModel", "drawnOf", "(I)I"⟩, 47)]
theorem lw_r5 : ∀ q ∈ lw_privs_5, lw_okq q := List.forall_mem_cons.mpr ⟨lw_p64, List.forall_mem_cons.mpr ⟨lw_p65, List.forall_mem_cons.mpr ⟨lw_p66, List.forall_mem_cons.mpr ⟨lw_p67, List.forall_mem_cons.mpr ⟨lw_p68, fun _ h => absurd h List.not_mem_nil⟩⟩⟩⟩⟩
def lw_privs : List (MethodName × Nat) := lw_privs_1 ++ (lw_privs_2 ++ (lw_privs_3 ++ (lw_privs_4 ++ (lw_privs_5))))
def lw_tbl : List Cond := k2_sels lw_privs ++ tables_1
theorem lw_privs_ok : ∀ q ∈ lw_privs, lw_okq q := by
  show ∀ q ∈ lw_privs_1 ++ (lw_privs_2 ++ (lw_privs_3 ++ (lw_privs_4 ++ (lw_privs_5)))), lw_okq q
  exact List.forall_mem_append.mpr ⟨lw_r1, List.forall_mem_append.mpr ⟨lw_r2, List.forall_mem_append.mpr ⟨lw_r3, List.forall_mem_append.mpr ⟨lw_r4, lw_r5⟩⟩⟩⟩
end
section
def RX0 : String := "CardNobodyReads$Facts"
def TX0 : u_T := fun k => match k with
  | 0 => ("CardNobodyReads$Facts", "kinds", "[I", true)
  | 1 => ("CardNobodyReads$Facts", "lines", "[I", true)
  | 2 => ("CardNobodyReads$Facts", "parts", "[I", true)
  | 3 => ("CardNobodyReads$Facts", "mores", "[I", true)
  | _ => ("CardNobodyReads$Facts", "number", "I", false)
def tyX0 : Nat → FieldType := fun k => match k with
  | 0 => .array .int
  | 1 => .array .int
  | 2 => .array .int
  | 3 => .array .int
  | _ => .int
abbrev wsX00 : List Cond := u_ws RX0 TX0 5
theorem nmX0 : ∀ a, a < 5 → ∀ b, b < 5 → a ≠ b → (TX0 a).2.1 ≠ (TX0 b).2.1 := by decide +kernel
theorem tyX0_ok : ∀ k, k < 5 → parseFieldDescriptor (TX0 k).2.2.1 = some (tyX0 k) := by decide +kernel
abbrev cX0_init : ByteArray := prog_2_method_1_code
def yX0_init : MethodName := ⟨RX0, "<init>", "()V"⟩
abbrev cX0_add : ByteArray := prog_2_method_2_code
def yX0_add : MethodName := ⟨RX0, "add", "(IIII)I"⟩
abbrev cX0_holds : ByteArray := prog_2_method_3_code
def yX0_holds : MethodName := ⟨RX0, "holds", "(IIIII)Z"⟩
abbrev cX0_brokenIn : ByteArray := prog_2_method_4_code
def yX0_brokenIn : MethodName := ⟨RX0, "brokenIn", "(LCardNobodyReads$Lines;I)I"⟩
abbrev cX0_isOne : ByteArray := prog_2_method_5_code
def yX0_isOne : MethodName := ⟨RX0, "isOne", "(II)Z"⟩
def RX1 : String := "CardNobodyReads$Fits"
def TX1 : u_T := fun k => match k with
  | 0 => ("CardNobodyReads$Fits", "fitting", "[I", true)
  | 1 => ("CardNobodyReads$Fits", "meanings", "[I", true)
  | 2 => ("CardNobodyReads$Fits", "havings", "[I", true)
  | 3 => ("CardNobodyReads$Fits", "mays", "[I", true)
  | 4 => ("CardNobodyReads$Fits", "pairs", "[I", true)
  | 5 => ("CardNobodyReads$Fits", "number", "I", false)
  | _ => ("CardNobodyReads$Fits", "lone", "I", false)
def tyX1 : Nat → FieldType := fun k => match k with
  | 0 => .array .int
  | 1 => .array .int
  | 2 => .array .int
  | 3 => .array .int
  | 4 => .array .int
  | 5 => .int
  | _ => .int
abbrev wsX10 : List Cond := u_ws RX1 TX1 7
theorem nmX1 : ∀ a, a < 7 → ∀ b, b < 7 → a ≠ b → (TX1 a).2.1 ≠ (TX1 b).2.1 := by decide +kernel
theorem tyX1_ok : ∀ k, k < 7 → parseFieldDescriptor (TX1 k).2.2.1 = some (tyX1 k) := by decide +kernel
abbrev cX1_init : ByteArray := prog_3_method_1_code
def yX1_init : MethodName := ⟨RX1, "<init>", "()V"⟩
abbrev cX1_find : ByteArray := prog_3_method_2_code
def yX1_find : MethodName := ⟨RX1, "find", "(LCardNobodyReads$Tongues;LCardNobodyReads$Lines;LCardNobodyReads$Facts;LCardNobodyReads$Texts;I)V"⟩
abbrev cX1_anyBy : ByteArray := prog_3_method_3_code
def yX1_anyBy : MethodName := ⟨RX1, "anyBy", "(LCardNobodyReads$Lines;LCardNobodyReads$Facts;LCardNobodyReads$Texts;I)Z"⟩
abbrev cX1_clear : ByteArray := prog_3_method_4_code
def yX1_clear : MethodName := ⟨RX1, "clear", "([I)V"⟩
abbrev cX1_allow : ByteArray := prog_3_method_5_code
def yX1_allow : MethodName := ⟨RX1, "allow", "(LCardNobodyReads$Lines;LCardNobodyReads$Texts;I)V"⟩
abbrev cX1_isLawful : ByteArray := prog_3_method_6_code
def yX1_isLawful : MethodName := ⟨RX1, "isLawful", "(LCardNobodyReads$Lines;I)Z"⟩
abbrev cX1_take : ByteArray := prog_3_method_7_code
def yX1_take : MethodName := ⟨RX1, "take", "(LCardNobodyReads$Tongues;LCardNobodyReads$Lines;I)V"⟩
abbrev cX1_tongueOf : ByteArray := prog_3_method_8_code
def yX1_tongueOf : MethodName := ⟨RX1, "tongueOf", "(I)I"⟩
abbrev cX1_meaning : ByteArray := prog_3_method_9_code
def yX1_meaning : MethodName := ⟨RX1, "meaning", "(II)I"⟩
abbrev cX1_meaningsOf : ByteArray := prog_3_method_10_code
def yX1_meaningsOf : MethodName := ⟨RX1, "meaningsOf", "(I)I"⟩
abbrev cX1_having : ByteArray := prog_3_method_11_code
def yX1_having : MethodName := ⟨RX1, "having", "(II)I"⟩
abbrev cX1_withAll : ByteArray := prog_3_method_12_code
def yX1_withAll : MethodName := ⟨RX1, "withAll", "(II)I"⟩
abbrev cX1_withAny : ByteArray := prog_3_method_13_code
def yX1_withAny : MethodName := ⟨RX1, "withAny", "(II)I"⟩
abbrev cX1_partsInAll : ByteArray := prog_3_method_14_code
def yX1_partsInAll : MethodName := ⟨RX1, "partsInAll", "(I)I"⟩
abbrev cX1_partsInAny : ByteArray := prog_3_method_15_code
def yX1_partsInAny : MethodName := ⟨RX1, "partsInAny", "(I)I"⟩
abbrev cX1_squares : ByteArray := prog_3_method_16_code
def yX1_squares : MethodName := ⟨RX1, "squares", "(LCardNobodyReads$Lines;II)I"⟩
abbrev cX1_drawnBy : ByteArray := prog_3_method_17_code
def yX1_drawnBy : MethodName := ⟨RX1, "drawnBy", "(I)I"⟩
def RX2 : String := "CardNobodyReads$Image"
def TX2 : u_T := fun k => match k with
  | 0 => ("CardNobodyReads$Image", "prices", "[I", true)
  | 1 => ("CardNobodyReads$Image", "there", "Z", false)
  | 2 => ("CardNobodyReads$Image", "lines", "I", false)
  | 3 => ("CardNobodyReads$Image", "guests", "I", false)
  | 4 => ("CardNobodyReads$Image", "facts", "I", false)
  | 5 => ("CardNobodyReads$Image", "coin", "I", false)
  | _ => ("CardNobodyReads$Image", "law", "I", false)
def tyX2 : Nat → FieldType := fun k => match k with
  | 0 => .array .int
  | 1 => .boolean
  | 2 => .int
  | 3 => .int
  | 4 => .int
  | 5 => .int
  | _ => .int
abbrev wsX20 : List Cond := u_ws RX2 TX2 7
theorem nmX2 : ∀ a, a < 7 → ∀ b, b < 7 → a ≠ b → (TX2 a).2.1 ≠ (TX2 b).2.1 := by decide +kernel
theorem tyX2_ok : ∀ k, k < 7 → parseFieldDescriptor (TX2 k).2.2.1 = some (tyX2 k) := by decide +kernel
abbrev cX2_init : ByteArray := prog_4_method_1_code
def yX2_init : MethodName := ⟨RX2, "<init>", "()V"⟩
def RX3 : String := "CardNobodyReads$Lines"
def TX3 : u_T := fun k => match k with
  | 0 => ("CardNobodyReads$Lines", "signs", "[I", true)
  | 1 => ("CardNobodyReads$Lines", "prices", "[I", true)
  | 2 => ("CardNobodyReads$Lines", "hads", "[I", true)
  | _ => ("CardNobodyReads$Lines", "number", "I", false)
def tyX3 : Nat → FieldType := fun k => match k with
  | 0 => .array .int
  | 1 => .array .int
  | 2 => .array .int
  | _ => .int
abbrev wsX30 : List Cond := u_ws RX3 TX3 4
theorem nmX3 : ∀ a, a < 4 → ∀ b, b < 4 → a ≠ b → (TX3 a).2.1 ≠ (TX3 b).2.1 := by decide +kernel
theorem tyX3_ok : ∀ k, k < 4 → parseFieldDescriptor (TX3 k).2.2.1 = some (tyX3 k) := by decide +kernel
abbrev cX3_init : ByteArray := prog_5_method_1_code
def yX3_init : MethodName := ⟨RX3, "<init>", "()V"⟩
abbrev cX3_mayStand : ByteArray := prog_5_method_2_code
def yX3_mayStand : MethodName := ⟨RX3, "mayStand", "(II)Z"⟩
abbrev cX3_add : ByteArray := prog_5_method_3_code
def yX3_add : MethodName := ⟨RX3, "add", "(LCardNobodyReads$Tongues;II)I"⟩
abbrev cX3_signsOf : ByteArray := prog_5_method_4_code
def yX3_signsOf : MethodName := ⟨RX3, "signsOf", "(I)I"⟩
abbrev cX3_priceOf : ByteArray := prog_5_method_5_code
def yX3_priceOf : MethodName := ⟨RX3, "priceOf", "(I)I"⟩
abbrev cX3_had : ByteArray := prog_5_method_6_code
def yX3_had : MethodName := ⟨RX3, "had", "(II)I"⟩
abbrev cX3_everyLine : ByteArray := prog_5_method_7_code
def yX3_everyLine : MethodName := ⟨RX3, "everyLine", "()I"⟩
abbrev cX3_pricesOf : ByteArray := prog_5_method_8_code
def yX3_pricesOf : MethodName := ⟨RX3, "pricesOf", "(I)I"⟩
def RX4 : String := "CardNobodyReads$Sheets"
def TX4 : u_T := fun k => match k with
  | 0 => ("CardNobodyReads$Sheets", "sorts", "[I", true)
  | 1 => ("CardNobodyReads$Sheets", "sizes", "[I", true)
  | _ => ("CardNobodyReads$Sheets", "cells", "[I", true)
def tyX4 : Nat → FieldType := fun k => match k with
  | 0 => .array .int
  | 1 => .array .int
  | _ => .array .int
abbrev wsX40 : List Cond := u_ws RX4 TX4 3
theorem nmX4 : ∀ a, a < 3 → ∀ b, b < 3 → a ≠ b → (TX4 a).2.1 ≠ (TX4 b).2.1 := by decide +kernel
theorem tyX4_ok : ∀ k, k < 3 → parseFieldDescriptor (TX4 k).2.2.1 = some (tyX4 k) := by decide +kernel
abbrev cX4_init : ByteArray := prog_6_method_1_code
def yX4_init : MethodName := ⟨RX4, "<init>", "()V"⟩
abbrev cX4_isMissing : ByteArray := prog_6_method_2_code
def yX4_isMissing : MethodName := ⟨RX4, "isMissing", "(I)Z"⟩
abbrev cX4_sortOf : ByteArray := prog_6_method_3_code
def yX4_sortOf : MethodName := ⟨RX4, "sortOf", "(I)I"⟩
abbrev cX4_sizeOf : ByteArray := prog_6_method_4_code
def yX4_sizeOf : MethodName := ⟨RX4, "sizeOf", "(I)I"⟩
abbrev cX4_become : ByteArray := prog_6_method_5_code
def yX4_become : MethodName := ⟨RX4, "become", "(III)V"⟩
abbrev cX4_read : ByteArray := prog_6_method_6_code
def yX4_read : MethodName := ⟨RX4, "read", "(II)I"⟩
abbrev cX4_write : ByteArray := prog_6_method_7_code
def yX4_write : MethodName := ⟨RX4, "write", "(III)V"⟩
abbrev cX4_move : ByteArray := prog_6_method_8_code
def yX4_move : MethodName := ⟨RX4, "move", "(IIIII)V"⟩
def RX5 : String := "CardNobodyReads$Tape"
def TX5 : u_T := fun k => match k with
  | 0 => ("CardNobodyReads$Tape", "bytes", "[I", true)
  | 1 => ("CardNobodyReads$Tape", "tokens", "[I", true)
  | 2 => ("CardNobodyReads$Tape", "places", "[I", true)
  | _ => ("CardNobodyReads$Tape", "size", "I", false)
def tyX5 : Nat → FieldType := fun k => match k with
  | 0 => .array .int
  | 1 => .array .int
  | 2 => .array .int
  | _ => .int
abbrev wsX50 : List Cond := u_ws RX5 TX5 4
theorem nmX5 : ∀ a, a < 4 → ∀ b, b < 4 → a ≠ b → (TX5 a).2.1 ≠ (TX5 b).2.1 := by decide +kernel
theorem tyX5_ok : ∀ k, k < 4 → parseFieldDescriptor (TX5 k).2.2.1 = some (tyX5 k) := by decide +kernel
abbrev cX5_init : ByteArray := prog_7_method_1_code
def yX5_init : MethodName := ⟨RX5, "<init>", "()V"⟩
abbrev cX5_add : ByteArray := prog_7_method_2_code
def yX5_add : MethodName := ⟨RX5, "add", "(I)V"⟩
abbrev cX5_empty : ByteArray := prog_7_method_3_code
def yX5_empty : MethodName := ⟨RX5, "empty", "()V"⟩
abbrev cX5_cut : ByteArray := prog_7_method_4_code
def yX5_cut : MethodName := ⟨RX5, "cut", "()V"⟩
abbrev cX5_isBlank : ByteArray := prog_7_method_5_code
def yX5_isBlank : MethodName := ⟨RX5, "isBlank", "(I)Z"⟩
abbrev cX5_isLetter : ByteArray := prog_7_method_6_code
def yX5_isLetter : MethodName := ⟨RX5, "isLetter", "(I)Z"⟩
abbrev cX5_isDigit : ByteArray := prog_7_method_7_code
def yX5_isDigit : MethodName := ⟨RX5, "isDigit", "(I)Z"⟩
abbrev cX5_endOf : ByteArray := prog_7_method_8_code
def yX5_endOf : MethodName := ⟨RX5, "endOf", "(I)I"⟩
abbrev cX5_tokenOf : ByteArray := prog_7_method_9_code
def yX5_tokenOf : MethodName := ⟨RX5, "tokenOf", "(II)I"⟩
abbrev cX5_value : ByteArray := prog_7_method_10_code
def yX5_value : MethodName := ⟨RX5, "value", "(II)I"⟩
abbrev cX5_word : ByteArray := prog_7_method_11_code
def yX5_word : MethodName := ⟨RX5, "word", "(II)I"⟩
abbrev cX5_spells : ByteArray := prog_7_method_12_code
def yX5_spells : MethodName := ⟨RX5, "spells", "(Ljava/lang/String;II)Z"⟩
def RX6 : String := "CardNobodyReads$Texts"
def TX6 : u_T := fun k => match k with
  | 0 => ("CardNobodyReads$Texts", "tape", "LCardNobodyReads$Tape;", true)
  | 1 => ("CardNobodyReads$Texts", "steps", "[I", true)
  | 2 => ("CardNobodyReads$Texts", "ends", "[I", true)
  | 3 => ("CardNobodyReads$Texts", "stack", "[I", true)
  | 4 => ("CardNobodyReads$Texts", "names", "[I", true)
  | 5 => ("CardNobodyReads$Texts", "number", "I", false)
  | 6 => ("CardNobodyReads$Texts", "length", "I", false)
  | _ => ("CardNobodyReads$Texts", "next", "I", false)
def tyX6 : Nat → FieldType := fun k => match k with
  | 0 => .object "CardNobodyReads$Tape"
  | 1 => .array .int
  | 2 => .array .int
  | 3 => .array .int
  | 4 => .array .int
  | 5 => .int
  | 6 => .int
  | _ => .int
abbrev wsX60 : List Cond := u_ws RX6 TX6 8
theorem nmX6 : ∀ a, a < 8 → ∀ b, b < 8 → a ≠ b → (TX6 a).2.1 ≠ (TX6 b).2.1 := by decide +kernel
theorem tyX6_ok : ∀ k, k < 8 → parseFieldDescriptor (TX6 k).2.2.1 = some (tyX6 k) := by decide +kernel
abbrev cX6_init : ByteArray := prog_8_method_1_code
def yX6_init : MethodName := ⟨RX6, "<init>", "()V"⟩
abbrev cX6_read : ByteArray := prog_8_method_2_code
def yX6_read : MethodName := ⟨RX6, "read", "()I"⟩
abbrev cX6_readPart : ByteArray := prog_8_method_3_code
def yX6_readPart : MethodName := ⟨RX6, "readPart", "(II)Z"⟩
abbrev cX6_token : ByteArray := prog_8_method_4_code
def yX6_token : MethodName := ⟨RX6, "token", "()I"⟩
abbrev cX6_pass : ByteArray := prog_8_method_5_code
def yX6_pass : MethodName := ⟨RX6, "pass", "(I)Z"⟩
abbrev cX6_write : ByteArray := prog_8_method_6_code
def yX6_write : MethodName := ⟨RX6, "write", "(I)V"⟩
abbrev cX6_readEither : ByteArray := prog_8_method_7_code
def yX6_readEither : MethodName := ⟨RX6, "readEither", "(I)Z"⟩
abbrev cX6_readBoth : ByteArray := prog_8_method_8_code
def yX6_readBoth : MethodName := ⟨RX6, "readBoth", "(I)Z"⟩
abbrev cX6_readNot : ByteArray := prog_8_method_9_code
def yX6_readNot : MethodName := ⟨RX6, "readNot", "(I)Z"⟩
abbrev cX6_readCompared : ByteArray := prog_8_method_10_code
def yX6_readCompared : MethodName := ⟨RX6, "readCompared", "(I)Z"⟩
abbrev cX6_readSum : ByteArray := prog_8_method_11_code
def yX6_readSum : MethodName := ⟨RX6, "readSum", "(I)Z"⟩
abbrev cX6_readTerm : ByteArray := prog_8_method_12_code
def yX6_readTerm : MethodName := ⟨RX6, "readTerm", "(I)Z"⟩
abbrev cX6_readOne : ByteArray := prog_8_method_13_code
def yX6_readOne : MethodName := ⟨RX6, "readOne", "(I)Z"⟩
abbrev cX6_says : ByteArray := prog_8_method_14_code
def yX6_says : MethodName := ⟨RX6, "says", "(IIIIIII)I"⟩
abbrev cX6_valueOf : ByteArray := prog_8_method_15_code
def yX6_valueOf : MethodName := ⟨RX6, "valueOf", "(II)I"⟩
abbrev cX6_joined : ByteArray := prog_8_method_16_code
def yX6_joined : MethodName := ⟨RX6, "joined", "(III)I"⟩
def RX7 : String := "CardNobodyReads$Tongues"
def TX7 : u_T := fun k => match k with
  | _ => ("CardNobodyReads$Tongues", "parts", "[I", true)
def tyX7 : Nat → FieldType := fun k => match k with
  | _ => .array .int
abbrev wsX70 : List Cond := u_ws RX7 TX7 1
theorem nmX7 : ∀ a, a < 1 → ∀ b, b < 1 → a ≠ b → (TX7 a).2.1 ≠ (TX7 b).2.1 := by decide +kernel
theorem tyX7_ok : ∀ k, k < 1 → parseFieldDescriptor (TX7 k).2.2.1 = some (tyX7 k) := by decide +kernel
abbrev cX7_init : ByteArray := prog_9_method_1_code
def yX7_init : MethodName := ⟨RX7, "<init>", "()V"⟩
abbrev cX7_spell : ByteArray := prog_9_method_2_code
def yX7_spell : MethodName := ⟨RX7, "spell", "(I)V"⟩
abbrev cX7_member : ByteArray := prog_9_method_3_code
def yX7_member : MethodName := ⟨RX7, "member", "(II)I"⟩
abbrev cX7_partOf : ByteArray := prog_9_method_4_code
def yX7_partOf : MethodName := ⟨RX7, "partOf", "(II)I"⟩
abbrev cX7_partsOf : ByteArray := prog_9_method_5_code
def yX7_partsOf : MethodName := ⟨RX7, "partsOf", "(II)I"⟩
def RX8 : String := "CardNobodyReads$Tonight"
def TX8 : u_T := fun k => match k with
  | 0 => ("CardNobodyReads$Tonight", "likings", "[I", true)
  | 1 => ("CardNobodyReads$Tonight", "way", "[I", true)
  | 2 => ("CardNobodyReads$Tonight", "best", "[I", true)
  | 3 => ("CardNobodyReads$Tonight", "liked", "I", false)
  | _ => ("CardNobodyReads$Tonight", "spent", "I", false)
def tyX8 : Nat → FieldType := fun k => match k with
  | 0 => .array .int
  | 1 => .array .int
  | 2 => .array .int
  | 3 => .int
  | _ => .int
abbrev wsX80 : List Cond := u_ws RX8 TX8 5
theorem nmX8 : ∀ a, a < 5 → ∀ b, b < 5 → a ≠ b → (TX8 a).2.1 ≠ (TX8 b).2.1 := by decide +kernel
theorem tyX8_ok : ∀ k, k < 5 → parseFieldDescriptor (TX8 k).2.2.1 = some (tyX8 k) := by decide +kernel
abbrev cX8_init : ByteArray := prog_10_method_1_code
def yX8_init : MethodName := ⟨RX8, "<init>", "()V"⟩
abbrev cX8_offer : ByteArray := prog_10_method_2_code
def yX8_offer : MethodName := ⟨RX8, "offer", "(III)V"⟩
abbrev cX8_plan : ByteArray := prog_10_method_3_code
def yX8_plan : MethodName := ⟨RX8, "plan", "(ILCardNobodyReads$Lines;I)V"⟩
abbrev cX8_serve : ByteArray := prog_10_method_4_code
def yX8_serve : MethodName := ⟨RX8, "serve", "(IILCardNobodyReads$Lines;II)V"⟩
abbrev cX8_keepIfBetter : ByteArray := prog_10_method_5_code
def yX8_keepIfBetter : MethodName := ⟨RX8, "keepIfBetter", "(I)V"⟩
def RX9 : String := "CardNobodyReads"
def TX9 : u_T := fun k => match k with
  | 0 => ("CardNobodyReads", "tongues", "LCardNobodyReads$Tongues;", true)
  | 1 => ("CardNobodyReads", "card", "LCardNobodyReads$Lines;", true)
  | 2 => ("CardNobodyReads", "known", "LCardNobodyReads$Facts;", true)
  | 3 => ("CardNobodyReads", "book", "LCardNobodyReads$Texts;", true)
  | 4 => ("CardNobodyReads", "fits", "LCardNobodyReads$Fits;", true)
  | 5 => ("CardNobodyReads", "tonight", "LCardNobodyReads$Tonight;", true)
  | 6 => ("CardNobodyReads", "kept", "LCardNobodyReads$Image;", true)
  | 7 => ("CardNobodyReads", "host", "LCardNobodyReads$Sheets;", true)
  | 8 => ("CardNobodyReads", "shuns", "[I", true)
  | 9 => ("CardNobodyReads", "guests", "I", false)
  | 10 => ("CardNobodyReads", "coin", "I", false)
  | 11 => ("CardNobodyReads", "law", "I", false)
  | _ => ("CardNobodyReads", "stale", "Z", false)
def tyX9 : Nat → FieldType := fun k => match k with
  | 0 => .object "CardNobodyReads$Tongues"
  | 1 => .object "CardNobodyReads$Lines"
  | 2 => .object "CardNobodyReads$Facts"
  | 3 => .object "CardNobodyReads$Texts"
  | 4 => .object "CardNobodyReads$Fits"
  | 5 => .object "CardNobodyReads$Tonight"
  | 6 => .object "CardNobodyReads$Image"
  | 7 => .object "CardNobodyReads$Sheets"
  | 8 => .array .int
  | 9 => .int
  | 10 => .int
  | 11 => .int
  | _ => .boolean
abbrev wsX90 : List Cond := u_ws RX9 TX9 13
theorem nmX9 : ∀ a, a < 13 → ∀ b, b < 13 → a ≠ b → (TX9 a).2.1 ≠ (TX9 b).2.1 := by decide +kernel
theorem tyX9_ok : ∀ k, k < 13 → parseFieldDescriptor (TX9 k).2.2.1 = some (tyX9 k) := by decide +kernel
abbrev cX9_init : ByteArray := prog_1_method_1_code
def yX9_init : MethodName := ⟨RX9, "<init>", "()V"⟩
abbrev cX9_line : ByteArray := prog_1_method_2_code
def yX9_line : MethodName := ⟨RX9, "line", "(II)I"⟩
abbrev cX9_lineTold : ByteArray := prog_1_method_3_code
def yX9_lineTold : MethodName := ⟨RX9, "lineTold", "(II)I"⟩
abbrev cX9_set : ByteArray := prog_1_method_4_code
def yX9_set : MethodName := ⟨RX9, "set", "(II)I"⟩
abbrev cX9_guest : ByteArray := prog_1_method_5_code
def yX9_guest : MethodName := ⟨RX9, "guest", "(I)I"⟩
abbrev cX9_guestTold : ByteArray := prog_1_method_6_code
def yX9_guestTold : MethodName := ⟨RX9, "guestTold", "(I)I"⟩
abbrev cX9_pays : ByteArray := prog_1_method_7_code
def yX9_pays : MethodName := ⟨RX9, "pays", "(I)I"⟩
abbrev cX9_count : ByteArray := prog_1_method_8_code
def yX9_count : MethodName := ⟨RX9, "count", "(I)I"⟩
abbrev cX9_feed : ByteArray := prog_1_method_9_code
def yX9_feed : MethodName := ⟨RX9, "feed", "(IIIIII)I"⟩
abbrev cX9_text : ByteArray := prog_1_method_10_code
def yX9_text : MethodName := ⟨RX9, "text", "()I"⟩
abbrev cX9_force : ByteArray := prog_1_method_11_code
def yX9_force : MethodName := ⟨RX9, "force", "(I)I"⟩
abbrev cX9_asks : ByteArray := prog_1_method_12_code
def yX9_asks : MethodName := ⟨RX9, "asks", "(IIIII)I"⟩
abbrev cX9_know : ByteArray := prog_1_method_13_code
def yX9_know : MethodName := ⟨RX9, "know", "(IIII)I"⟩
abbrev cX9_forget : ByteArray := prog_1_method_14_code
def yX9_forget : MethodName := ⟨RX9, "forget", "()I"⟩
abbrev cX9_factTold : ByteArray := prog_1_method_15_code
def yX9_factTold : MethodName := ⟨RX9, "factTold", "(II)I"⟩
abbrev cX9_sets : ByteArray := prog_1_method_16_code
def yX9_sets : MethodName := ⟨RX9, "sets", "()I"⟩
abbrev cX9_first : ByteArray := prog_1_method_17_code
def yX9_first : MethodName := ⟨RX9, "first", "(I)I"⟩
abbrev cX9_means : ByteArray := prog_1_method_18_code
def yX9_means : MethodName := ⟨RX9, "means", "(II)I"⟩
abbrev cX9_sure : ByteArray := prog_1_method_19_code
def yX9_sure : MethodName := ⟨RX9, "sure", "(I)I"⟩
abbrev cX9_doubt : ByteArray := prog_1_method_20_code
def yX9_doubt : MethodName := ⟨RX9, "doubt", "(I)I"⟩
abbrev cX9_odds : ByteArray := prog_1_method_21_code
def yX9_odds : MethodName := ⟨RX9, "odds", "(III)J"⟩
abbrev cX9_has : ByteArray := prog_1_method_22_code
def yX9_has : MethodName := ⟨RX9, "has", "(III)J"⟩
abbrev cX9_partsOfLine : ByteArray := prog_1_method_23_code
def yX9_partsOfLine : MethodName := ⟨RX9, "partsOfLine", "(II)I"⟩
abbrev cX9_safe : ByteArray := prog_1_method_24_code
def yX9_safe : MethodName := ⟨RX9, "safe", "(I)I"⟩
abbrev cX9_risk : ByteArray := prog_1_method_25_code
def yX9_risk : MethodName := ⟨RX9, "risk", "(III)J"⟩
abbrev cX9_order : ByteArray := prog_1_method_26_code
def yX9_order : MethodName := ⟨RX9, "order", "(I)I"⟩
abbrev cX9_ordered : ByteArray := prog_1_method_27_code
def yX9_ordered : MethodName := ⟨RX9, "ordered", "(I)I"⟩
abbrev cX9_middle : ByteArray := prog_1_method_28_code
def yX9_middle : MethodName := ⟨RX9, "middle", "(I)I"⟩
abbrev cX9_taste : ByteArray := prog_1_method_29_code
def yX9_taste : MethodName := ⟨RX9, "taste", "(I)I"⟩
abbrev cX9_two : ByteArray := prog_1_method_30_code
def yX9_two : MethodName := ⟨RX9, "two", "(I)I"⟩
abbrev cX9_ask : ByteArray := prog_1_method_31_code
def yX9_ask : MethodName := ⟨RX9, "ask", "(I)I"⟩
abbrev cX9_would : ByteArray := prog_1_method_32_code
def yX9_would : MethodName := ⟨RX9, "would", "(IIII)I"⟩
abbrev cX9_clash : ByteArray := prog_1_method_33_code
def yX9_clash : MethodName := ⟨RX9, "clash", "()I"⟩
abbrev cX9_idle : ByteArray := prog_1_method_34_code
def yX9_idle : MethodName := ⟨RX9, "idle", "()I"⟩
abbrev cX9_bill : ByteArray := prog_1_method_35_code
def yX9_bill : MethodName := ⟨RX9, "bill", "(III)I"⟩
abbrev cX9_match : ByteArray := prog_1_method_36_code
def yX9_match : MethodName := ⟨RX9, "match", "(I)I"⟩
abbrev cX9_film : ByteArray := prog_1_method_37_code
def yX9_film : MethodName := ⟨RX9, "film", "(I)I"⟩
abbrev cX9_laws : ByteArray := prog_1_method_38_code
def yX9_laws : MethodName := ⟨RX9, "laws", "()I"⟩
abbrev cX9_drawn : ByteArray := prog_1_method_39_code
def yX9_drawn : MethodName := ⟨RX9, "drawn", "(II)I"⟩
abbrev cX9_chance : ByteArray := prog_1_method_40_code
def yX9_chance : MethodName := ⟨RX9, "chance", "(IIIII)J"⟩
abbrev cX9_image : ByteArray := prog_1_method_41_code
def yX9_image : MethodName := ⟨RX9, "image", "()I"⟩
abbrev cX9_back : ByteArray := prog_1_method_42_code
def yX9_back : MethodName := ⟨RX9, "back", "()I"⟩
abbrev cX9_sheet : ByteArray := prog_1_method_43_code
def yX9_sheet : MethodName := ⟨RX9, "sheet", "(III)I"⟩
abbrev cX9_cell : ByteArray := prog_1_method_44_code
def yX9_cell : MethodName := ⟨RX9, "cell", "(III)I"⟩
abbrev cX9_copy : ByteArray := prog_1_method_45_code
def yX9_copy : MethodName := ⟨RX9, "copy", "(IIIII)I"⟩
abbrev cX9_linesBy : ByteArray := prog_1_method_46_code
def yX9_linesBy : MethodName := ⟨RX9, "linesBy", "(IIII)I"⟩
abbrev cX9_taken : ByteArray := prog_1_method_47_code
def yX9_taken : MethodName := ⟨RX9, "taken", "(II)I"⟩
abbrev cX9_at : ByteArray := prog_1_method_48_code
def yX9_at : MethodName := ⟨RX9, "at", "([II)I"⟩
abbrev cX9_put : ByteArray := prog_1_method_49_code
def yX9_put : MethodName := ⟨RX9, "put", "([III)V"⟩
abbrev cX9_within : ByteArray := prog_1_method_50_code
def yX9_within : MethodName := ⟨RX9, "within", "(III)Z"⟩
abbrev cX9_isSign : ByteArray := prog_1_method_51_code
def yX9_isSign : MethodName := ⟨RX9, "isSign", "(I)Z"⟩
abbrev cX9_isPart : ByteArray := prog_1_method_52_code
def yX9_isPart : MethodName := ⟨RX9, "isPart", "(I)Z"⟩
abbrev cX9_isParts : ByteArray := prog_1_method_53_code
def yX9_isParts : MethodName := ⟨RX9, "isParts", "(I)Z"⟩
abbrev cX9_isByte : ByteArray := prog_1_method_54_code
def yX9_isByte : MethodName := ⟨RX9, "isByte", "(I)Z"⟩
abbrev cX9_isSheet : ByteArray := prog_1_method_55_code
def yX9_isSheet : MethodName := ⟨RX9, "isSheet", "(I)Z"⟩
abbrev cX9_isFractionPart : ByteArray := prog_1_method_56_code
def yX9_isFractionPart : MethodName := ⟨RX9, "isFractionPart", "(I)Z"⟩
abbrev cX9_isLine : ByteArray := prog_1_method_57_code
def yX9_isLine : MethodName := ⟨RX9, "isLine", "(I)Z"⟩
abbrev cX9_isGuest : ByteArray := prog_1_method_58_code
def yX9_isGuest : MethodName := ⟨RX9, "isGuest", "(I)Z"⟩
abbrev cX9_mayBeFact : ByteArray := prog_1_method_59_code
def yX9_mayBeFact : MethodName := ⟨RX9, "mayBeFact", "(IIII)Z"⟩
abbrev cX9_fraction : ByteArray := prog_1_method_60_code
def yX9_fraction : MethodName := ⟨RX9, "fraction", "(III)J"⟩
abbrev cX9_commonDivisor : ByteArray := prog_1_method_61_code
def yX9_commonDivisor : MethodName := ⟨RX9, "commonDivisor", "(II)I"⟩
abbrev cX9_addLine : ByteArray := prog_1_method_62_code
def yX9_addLine : MethodName := ⟨RX9, "addLine", "(II)I"⟩
abbrev cX9_fitting : ByteArray := prog_1_method_63_code
def yX9_fitting : MethodName := ⟨RX9, "fitting", "()LCardNobodyReads$Fits;"⟩
abbrev cX9_safeLines : ByteArray := prog_1_method_64_code
def yX9_safeLines : MethodName := ⟨RX9, "safeLines", "(LCardNobodyReads$Fits;I)I"⟩
abbrev cX9_liking : ByteArray := prog_1_method_65_code
def yX9_liking : MethodName := ⟨RX9, "liking", "(LCardNobodyReads$Fits;II)I"⟩
abbrev cX9_teaching : ByteArray := prog_1_method_66_code
def yX9_teaching : MethodName := ⟨RX9, "teaching", "(LCardNobodyReads$Fits;I)I"⟩
abbrev cX9_mostLiking : ByteArray := prog_1_method_67_code
def yX9_mostLiking : MethodName := ⟨RX9, "mostLiking", "(LCardNobodyReads$Fits;II)I"⟩
abbrev cX9_planTonight : ByteArray := prog_1_method_68_code
def yX9_planTonight : MethodName := ⟨RX9, "planTonight", "(LCardNobodyReads$Fits;)V"⟩
abbrev cX9_isMeal : ByteArray := prog_1_method_69_code
def yX9_isMeal : MethodName := ⟨RX9, "isMeal", "(II)Z"⟩
def RX10 : String := "CardNobodyReadsModel"
def TX10 : u_T := fun k => match k with
  | 0 => ("CardNobodyReadsModel", "lines", "I", false)
  | 1 => ("CardNobodyReadsModel", "signsOf", "[I", true)
  | 2 => ("CardNobodyReadsModel", "priceOf", "[I", true)
  | 3 => ("CardNobodyReadsModel", "guests", "I", false)
  | 4 => ("CardNobodyReadsModel", "shuns", "[I", true)
  | 5 => ("CardNobodyReadsModel", "coin", "I", false)
  | 6 => ("CardNobodyReadsModel", "facts", "I", false)
  | 7 => ("CardNobodyReadsModel", "factOf", "[I", true)
  | 8 => ("CardNobodyReadsModel", "tongues", "[I", true)
  | 9 => ("CardNobodyReadsModel", "tape", "[I", true)
  | 10 => ("CardNobodyReadsModel", "taped", "I", false)
  | 11 => ("CardNobodyReadsModel", "codes", "[I", true)
  | 12 => ("CardNobodyReadsModel", "starts", "[I", true)
  | 13 => ("CardNobodyReadsModel", "texts", "I", false)
  | 14 => ("CardNobodyReadsModel", "rule", "I", false)
  | 15 => ("CardNobodyReadsModel", "hasImage", "Z", false)
  | 16 => ("CardNobodyReadsModel", "imageLines", "I", false)
  | 17 => ("CardNobodyReadsModel", "imageGuests", "I", false)
  | 18 => ("CardNobodyReadsModel", "imageFacts", "I", false)
  | 19 => ("CardNobodyReadsModel", "imageCoin", "I", false)
  | 20 => ("CardNobodyReadsModel", "imageRule", "I", false)
  | 21 => ("CardNobodyReadsModel", "imagePrices", "[I", true)
  | 22 => ("CardNobodyReadsModel", "sheetSort", "[I", true)
  | 23 => ("CardNobodyReadsModel", "sheetSize", "[I", true)
  | 24 => ("CardNobodyReadsModel", "cells", "[I", true)
  | 25 => ("CardNobodyReadsModel", "law", "[I", true)
  | 26 => ("CardNobodyReadsModel", "at", "I", false)
  | 27 => ("CardNobodyReadsModel", "begun", "I", false)
  | 28 => ("CardNobodyReadsModel", "token", "I", false)
  | 29 => ("CardNobodyReadsModel", "value", "I", false)
  | 30 => ("CardNobodyReadsModel", "words", "[I", true)
  | 31 => ("CardNobodyReadsModel", "held", "[I", true)
  | 32 => ("CardNobodyReadsModel", "heldMany", "I", false)
  | 33 => ("CardNobodyReadsModel", "opens", "I", false)
  | 34 => ("CardNobodyReadsModel", "out", "I", false)
  | 35 => ("CardNobodyReadsModel", "stack", "[I", true)
  | 36 => ("CardNobodyReadsModel", "named", "[I", true)
  | 37 => ("CardNobodyReadsModel", "fails", "[I", true)
  | 38 => ("CardNobodyReadsModel", "mays", "[I", true)
  | 39 => ("CardNobodyReadsModel", "fits", "[I", true)
  | 40 => ("CardNobodyReadsModel", "fitMany", "I", false)
  | 41 => ("CardNobodyReadsModel", "likings", "[I", true)
  | 42 => ("CardNobodyReadsModel", "ordering", "[I", true)
  | 43 => ("CardNobodyReadsModel", "best", "[I", true)
  | 44 => ("CardNobodyReadsModel", "bestLiking", "I", false)
  | 45 => ("CardNobodyReadsModel", "bestPrice", "I", false)
  | _ => ("CardNobodyReadsModel", "manyHave", "[I", true)
def tyX10 : Nat → FieldType := fun k => match k with
  | 0 => .int
  | 1 => .array .int
  | 2 => .array .int
  | 3 => .int
  | 4 => .array .int
  | 5 => .int
  | 6 => .int
  | 7 => .array .int
  | 8 => .array .int
  | 9 => .array .int
  | 10 => .int
  | 11 => .array .int
  | 12 => .array .int
  | 13 => .int
  | 14 => .int
  | 15 => .boolean
  | 16 => .int
  | 17 => .int
  | 18 => .int
  | 19 => .int
  | 20 => .int
  | 21 => .array .int
  | 22 => .array .int
  | 23 => .array .int
  | 24 => .array .int
  | 25 => .array .int
  | 26 => .int
  | 27 => .int
  | 28 => .int
  | 29 => .int
  | 30 => .array .int
  | 31 => .array .int
  | 32 => .int
  | 33 => .int
  | 34 => .int
  | 35 => .array .int
  | 36 => .array .int
  | 37 => .array .int
  | 38 => .array .int
  | 39 => .array .int
  | 40 => .int
  | 41 => .array .int
  | 42 => .array .int
  | 43 => .array .int
  | 44 => .int
  | 45 => .int
  | _ => .array .int
abbrev wsX100 : List Cond := u_ws RX10 TX10 47
theorem nmX10 : ∀ a, a < 47 → ∀ b, b < 47 → a ≠ b → (TX10 a).2.1 ≠ (TX10 b).2.1 := by decide +kernel
theorem tyX10_ok : ∀ k, k < 47 → parseFieldDescriptor (TX10 k).2.2.1 = some (tyX10 k) := by decide +kernel
abbrev cX10_init : ByteArray := prog_12_method_1_code
def yX10_init : MethodName := ⟨RX10, "<init>", "()V"⟩
abbrev cX10_isTongue : ByteArray := prog_12_method_3_code
def yX10_isTongue : MethodName := ⟨RX10, "isTongue", "(II)Z"⟩
abbrev cX10_in : ByteArray := prog_12_method_4_code
def yX10_in : MethodName := ⟨RX10, "in", "(III)Z"⟩
abbrev cX10_within : ByteArray := prog_12_method_5_code
def yX10_within : MethodName := ⟨RX10, "within", "(III)I"⟩
abbrev cX10_ones : ByteArray := prog_12_method_6_code
def yX10_ones : MethodName := ⟨RX10, "ones", "(I)I"⟩
abbrev cX10_isLine : ByteArray := prog_12_method_7_code
def yX10_isLine : MethodName := ⟨RX10, "isLine", "(I)Z"⟩
abbrev cX10_isGuest : ByteArray := prog_12_method_8_code
def yX10_isGuest : MethodName := ⟨RX10, "isGuest", "(I)Z"⟩
abbrev cX10_isSign : ByteArray := prog_12_method_9_code
def yX10_isSign : MethodName := ⟨RX10, "isSign", "(I)Z"⟩
abbrev cX10_line : ByteArray := prog_12_method_10_code
def yX10_line : MethodName := ⟨RX10, "line", "(II)I"⟩
abbrev cX10_lineTold : ByteArray := prog_12_method_11_code
def yX10_lineTold : MethodName := ⟨RX10, "lineTold", "(II)I"⟩
abbrev cX10_set : ByteArray := prog_12_method_12_code
def yX10_set : MethodName := ⟨RX10, "set", "(II)I"⟩
abbrev cX10_guest : ByteArray := prog_12_method_13_code
def yX10_guest : MethodName := ⟨RX10, "guest", "(I)I"⟩
abbrev cX10_guestTold : ByteArray := prog_12_method_14_code
def yX10_guestTold : MethodName := ⟨RX10, "guestTold", "(I)I"⟩
abbrev cX10_pays : ByteArray := prog_12_method_15_code
def yX10_pays : MethodName := ⟨RX10, "pays", "(I)I"⟩
abbrev cX10_count : ByteArray := prog_12_method_16_code
def yX10_count : MethodName := ⟨RX10, "count", "(I)I"⟩
abbrev cX10_isByte : ByteArray := prog_12_method_17_code
def yX10_isByte : MethodName := ⟨RX10, "isByte", "(I)Z"⟩
abbrev cX10_feed : ByteArray := prog_12_method_18_code
def yX10_feed : MethodName := ⟨RX10, "feed", "(IIIIII)I"⟩
abbrev cX10_wordFrom : ByteArray := prog_12_method_19_code
def yX10_wordFrom : MethodName := ⟨RX10, "wordFrom", "(II)I"⟩
abbrev cX10_next : ByteArray := prog_12_method_20_code
def yX10_next : MethodName := ⟨RX10, "next", "()V"⟩
abbrev cX10_rank : ByteArray := prog_12_method_21_code
def yX10_rank : MethodName := ⟨RX10, "rank", "(I)I"⟩
abbrev cX10_puts : ByteArray := prog_12_method_22_code
def yX10_puts : MethodName := ⟨RX10, "puts", "(I)V"⟩
abbrev cX10_unwinds : ByteArray := prog_12_method_23_code
def yX10_unwinds : MethodName := ⟨RX10, "unwinds", "(I)V"⟩
abbrev cX10_holds : ByteArray := prog_12_method_24_code
def yX10_holds : MethodName := ⟨RX10, "holds", "(I)V"⟩
abbrev cX10_opensOne : ByteArray := prog_12_method_25_code
def yX10_opensOne : MethodName := ⟨RX10, "opensOne", "(I)Z"⟩
abbrev cX10_between : ByteArray := prog_12_method_26_code
def yX10_between : MethodName := ⟨RX10, "between", "(I)Z"⟩
abbrev cX10_signOf : ByteArray := prog_12_method_27_code
def yX10_signOf : MethodName := ⟨RX10, "signOf", "()I"⟩
abbrev cX10_eRead : ByteArray := prog_12_method_28_code
def yX10_eRead : MethodName := ⟨RX10, "eRead", "()Z"⟩
abbrev cX10_text : ByteArray := prog_12_method_29_code
def yX10_text : MethodName := ⟨RX10, "text", "()I"⟩
abbrev cX10_bothOf : ByteArray := prog_12_method_30_code
def yX10_bothOf : MethodName := ⟨RX10, "bothOf", "(III)I"⟩
abbrev cX10_worth : ByteArray := prog_12_method_31_code
def yX10_worth : MethodName := ⟨RX10, "worth", "(I)I"⟩
abbrev cX10_force : ByteArray := prog_12_method_32_code
def yX10_force : MethodName := ⟨RX10, "force", "(I)I"⟩
abbrev cX10_asksOf : ByteArray := prog_12_method_33_code
def yX10_asksOf : MethodName := ⟨RX10, "asksOf", "(IIIII)I"⟩
abbrev cX10_asks : ByteArray := prog_12_method_34_code
def yX10_asks : MethodName := ⟨RX10, "asks", "(IIIII)I"⟩
abbrev cX10_isFact : ByteArray := prog_12_method_35_code
def yX10_isFact : MethodName := ⟨RX10, "isFact", "(IIII)Z"⟩
abbrev cX10_lays : ByteArray := prog_12_method_36_code
def yX10_lays : MethodName := ⟨RX10, "lays", "(IIII)V"⟩
abbrev cX10_know : ByteArray := prog_12_method_37_code
def yX10_know : MethodName := ⟨RX10, "know", "(IIII)I"⟩
abbrev cX10_forget : ByteArray := prog_12_method_38_code
def yX10_forget : MethodName := ⟨RX10, "forget", "()I"⟩
abbrev cX10_factTold : ByteArray := prog_12_method_39_code
def yX10_factTold : MethodName := ⟨RX10, "factTold", "(II)I"⟩
abbrev cX10_hasIn : ByteArray := prog_12_method_40_code
def yX10_hasIn : MethodName := ⟨RX10, "hasIn", "(II)I"⟩
abbrev cX10_holds_ : ByteArray := prog_12_method_41_code
def yX10_holds_ : MethodName := ⟨RX10, "holds", "(II)Z"⟩
abbrev cX10_mays : ByteArray := prog_12_method_42_code
def yX10_mays : MethodName := ⟨RX10, "mays", "()V"⟩
abbrev cX10_mayBe : ByteArray := prog_12_method_43_code
def yX10_mayBe : MethodName := ⟨RX10, "mayBe", "(I)Z"⟩
abbrev cX10_finds : ByteArray := prog_12_method_44_code
def yX10_finds : MethodName := ⟨RX10, "finds", "()V"⟩
abbrev cX10_sets : ByteArray := prog_12_method_45_code
def yX10_sets : MethodName := ⟨RX10, "sets", "()I"⟩
abbrev cX10_partIn : ByteArray := prog_12_method_46_code
def yX10_partIn : MethodName := ⟨RX10, "partIn", "(II)I"⟩
abbrev cX10_first : ByteArray := prog_12_method_47_code
def yX10_first : MethodName := ⟨RX10, "first", "(I)I"⟩
abbrev cX10_meansIn : ByteArray := prog_12_method_48_code
def yX10_meansIn : MethodName := ⟨RX10, "meansIn", "(II)I"⟩
abbrev cX10_means : ByteArray := prog_12_method_49_code
def yX10_means : MethodName := ⟨RX10, "means", "(II)I"⟩
abbrev cX10_unlikeOf : ByteArray := prog_12_method_50_code
def yX10_unlikeOf : MethodName := ⟨RX10, "unlikeOf", "(I)I"⟩
abbrev cX10_sure : ByteArray := prog_12_method_51_code
def yX10_sure : MethodName := ⟨RX10, "sure", "(I)I"⟩
abbrev cX10_doubt : ByteArray := prog_12_method_52_code
def yX10_doubt : MethodName := ⟨RX10, "doubt", "(I)I"⟩
abbrev cX10_lowest : ByteArray := prog_12_method_53_code
def yX10_lowest : MethodName := ⟨RX10, "lowest", "(JJI)J"⟩
abbrev cX10_ofAll : ByteArray := prog_12_method_54_code
def yX10_ofAll : MethodName := ⟨RX10, "ofAll", "(II)J"⟩
abbrev cX10_odds : ByteArray := prog_12_method_55_code
def yX10_odds : MethodName := ⟨RX10, "odds", "(III)J"⟩
abbrev cX10_has : ByteArray := prog_12_method_56_code
def yX10_has : MethodName := ⟨RX10, "has", "(III)J"⟩
abbrev cX10_partsOfLine : ByteArray := prog_12_method_57_code
def yX10_partsOfLine : MethodName := ⟨RX10, "partsOfLine", "(II)I"⟩
abbrev cX10_shunnedIn : ByteArray := prog_12_method_58_code
def yX10_shunnedIn : MethodName := ⟨RX10, "shunnedIn", "(II)I"⟩
abbrev cX10_safeFor : ByteArray := prog_12_method_59_code
def yX10_safeFor : MethodName := ⟨RX10, "safeFor", "(I)I"⟩
abbrev cX10_safe : ByteArray := prog_12_method_60_code
def yX10_safe : MethodName := ⟨RX10, "safe", "(I)I"⟩
abbrev cX10_risk : ByteArray := prog_12_method_61_code
def yX10_risk : MethodName := ⟨RX10, "risk", "(III)J"⟩
abbrev cX10_liking : ByteArray := prog_12_method_62_code
def yX10_liking : MethodName := ⟨RX10, "liking", "(II)I"⟩
abbrev cX10_likes : ByteArray := prog_12_method_63_code
def yX10_likes : MethodName := ⟨RX10, "likes", "()V"⟩
abbrev cX10_orders : ByteArray := prog_12_method_64_code
def yX10_orders : MethodName := ⟨RX10, "orders", "(III)V"⟩
abbrev cX10_tonight : ByteArray := prog_12_method_65_code
def yX10_tonight : MethodName := ⟨RX10, "tonight", "()V"⟩
abbrev cX10_order : ByteArray := prog_12_method_66_code
def yX10_order : MethodName := ⟨RX10, "order", "(I)I"⟩
abbrev cX10_ordered : ByteArray := prog_12_method_67_code
def yX10_ordered : MethodName := ⟨RX10, "ordered", "(I)I"⟩
abbrev cX10_middle : ByteArray := prog_12_method_68_code
def yX10_middle : MethodName := ⟨RX10, "middle", "(I)I"⟩
abbrev cX10_counts : ByteArray := prog_12_method_69_code
def yX10_counts : MethodName := ⟨RX10, "counts", "(II)V"⟩
abbrev cX10_teaching : ByteArray := prog_12_method_70_code
def yX10_teaching : MethodName := ⟨RX10, "teaching", "(I)I"⟩
abbrev cX10_taste : ByteArray := prog_12_method_71_code
def yX10_taste : MethodName := ⟨RX10, "taste", "(I)I"⟩
abbrev cX10_two : ByteArray := prog_12_method_72_code
def yX10_two : MethodName := ⟨RX10, "two", "(I)I"⟩
abbrev cX10_ask : ByteArray := prog_12_method_73_code
def yX10_ask : MethodName := ⟨RX10, "ask", "(I)I"⟩
abbrev cX10_would : ByteArray := prog_12_method_74_code
def yX10_would : MethodName := ⟨RX10, "would", "(IIII)I"⟩
abbrev cX10_fitWithout : ByteArray := prog_12_method_75_code
def yX10_fitWithout : MethodName := ⟨RX10, "fitWithout", "(I)I"⟩
abbrev cX10_clash : ByteArray := prog_12_method_76_code
def yX10_clash : MethodName := ⟨RX10, "clash", "()I"⟩
abbrev cX10_idle : ByteArray := prog_12_method_77_code
def yX10_idle : MethodName := ⟨RX10, "idle", "()I"⟩
abbrev cX10_bill : ByteArray := prog_12_method_78_code
def yX10_bill : MethodName := ⟨RX10, "bill", "(III)I"⟩
abbrev cX10_match : ByteArray := prog_12_method_79_code
def yX10_match : MethodName := ⟨RX10, "match", "(I)I"⟩
abbrev cX10_film : ByteArray := prog_12_method_80_code
def yX10_film : MethodName := ⟨RX10, "film", "(I)I"⟩
abbrev cX10_laws : ByteArray := prog_12_method_81_code
def yX10_laws : MethodName := ⟨RX10, "laws", "()I"⟩
abbrev cX10_drawnOf : ByteArray := prog_12_method_82_code
def yX10_drawnOf : MethodName := ⟨RX10, "drawnOf", "(I)I"⟩
abbrev cX10_drawn : ByteArray := prog_12_method_83_code
def yX10_drawn : MethodName := ⟨RX10, "drawn", "(II)I"⟩
abbrev cX10_chance : ByteArray := prog_12_method_84_code
def yX10_chance : MethodName := ⟨RX10, "chance", "(IIIII)J"⟩
abbrev cX10_image : ByteArray := prog_12_method_85_code
def yX10_image : MethodName := ⟨RX10, "image", "()I"⟩
abbrev cX10_back : ByteArray := prog_12_method_86_code
def yX10_back : MethodName := ⟨RX10, "back", "()I"⟩
abbrev cX10_sheet : ByteArray := prog_12_method_87_code
def yX10_sheet : MethodName := ⟨RX10, "sheet", "(III)I"⟩
abbrev cX10_cell : ByteArray := prog_12_method_88_code
def yX10_cell : MethodName := ⟨RX10, "cell", "(III)I"⟩
abbrev cX10_copy : ByteArray := prog_12_method_89_code
def yX10_copy : MethodName := ⟨RX10, "copy", "(IIIII)I"⟩
abbrev cX10_linesBy : ByteArray := prog_12_method_90_code
def yX10_linesBy : MethodName := ⟨RX10, "linesBy", "(IIII)I"⟩
abbrev cX10_isUnder : ByteArray := prog_12_method_91_code
def yX10_isUnder : MethodName := ⟨RX10, "isUnder", "(II)Z"⟩
abbrev cX10_taken : ByteArray := prog_12_method_92_code
def yX10_taken : MethodName := ⟨RX10, "taken", "(II)I"⟩
def RJ11 : String := "java/lang/Character"
def TJ11 : u_T := fun k => match k with
  | _ => ("", "", "", false)
def tyJ11 : Nat → FieldType := fun k => match k with
  | _ => .int
abbrev wsJ110 : List Cond := u_ws RJ11 TJ11 0
theorem nmJ11 : ∀ a, a < 0 → ∀ b, b < 0 → a ≠ b → (TJ11 a).2.1 ≠ (TJ11 b).2.1 := by decide +kernel
theorem tyJ11_ok : ∀ k, k < 0 → parseFieldDescriptor (TJ11 k).2.2.1 = some (tyJ11 k) := by decide +kernel
abbrev cJ11_isValidCodePoint_9a6ad : ByteArray := prog_13_method_11_code
def yJ11_isValidCodePoint_9a6ad : MethodName := ⟨RJ11, "isValidCodePoint", "(I)Z"⟩
abbrev cJ11_highSurrogate_5068e : ByteArray := prog_13_method_28_code
def yJ11_highSurrogate_5068e : MethodName := ⟨RJ11, "highSurrogate", "(I)C"⟩
abbrev cJ11_lowSurrogate_5068e : ByteArray := prog_13_method_29_code
def yJ11_lowSurrogate_5068e : MethodName := ⟨RJ11, "lowSurrogate", "(I)C"⟩
def RJ6 : String := "java/lang/Integer"
def TJ6 : u_T := fun k => match k with
  | _ => ("", "", "", false)
def tyJ6 : Nat → FieldType := fun k => match k with
  | _ => .int
abbrev wsJ60 : List Cond := u_ws RJ6 TJ6 0
theorem nmJ6 : ∀ a, a < 0 → ∀ b, b < 0 → a ≠ b → (TJ6 a).2.1 ≠ (TJ6 b).2.1 := by decide +kernel
theorem tyJ6_ok : ∀ k, k < 0 → parseFieldDescriptor (TJ6 k).2.2.1 = some (tyJ6 k) := by decide +kernel
abbrev cJ6_numberOfTrailingZeros_0f7a4 : ByteArray := prog_14_method_48_code
def yJ6_numberOfTrailingZeros_0f7a4 : MethodName := ⟨RJ6, "numberOfTrailingZeros", "(I)I"⟩
abbrev cJ6_bitCount_0f7a4 : ByteArray := prog_14_method_49_code
def yJ6_bitCount_0f7a4 : MethodName := ⟨RJ6, "bitCount", "(I)I"⟩
def RJ9 : String := "java/lang/Math"
def TJ9 : u_T := fun k => match k with
  | _ => ("", "", "", false)
def tyJ9 : Nat → FieldType := fun k => match k with
  | _ => .int
abbrev wsJ90 : List Cond := u_ws RJ9 TJ9 0
theorem nmJ9 : ∀ a, a < 0 → ∀ b, b < 0 → a ≠ b → (TJ9 a).2.1 ≠ (TJ9 b).2.1 := by decide +kernel
theorem tyJ9_ok : ∀ k, k < 0 → parseFieldDescriptor (TJ9 k).2.2.1 = some (tyJ9 k) := by decide +kernel
abbrev cJ9_max_7cf53 : ByteArray := prog_15_method_65_code
def yJ9_max_7cf53 : MethodName := ⟨RJ9, "max", "(II)I"⟩
abbrev cJ9_min_7cf53 : ByteArray := prog_15_method_69_code
def yJ9_min_7cf53 : MethodName := ⟨RJ9, "min", "(II)I"⟩
def RJ0 : String := "java/lang/String"
def TJ0 : u_T := fun k => match k with
  | _ => ("", "", "", false)
def tyJ0 : Nat → FieldType := fun k => match k with
  | _ => .int
abbrev wsJ00 : List Cond := u_ws RJ0 TJ0 0
theorem nmJ0 : ∀ a, a < 0 → ∀ b, b < 0 → a ≠ b → (TJ0 a).2.1 ≠ (TJ0 b).2.1 := by decide +kernel
theorem tyJ0_ok : ∀ k, k < 0 → parseFieldDescriptor (TJ0 k).2.2.1 = some (tyJ0 k) := by decide +kernel
abbrev cJ0_length_8abf5 : ByteArray := prog_16_method_54_code
def yJ0_length_8abf5 : MethodName := ⟨RJ0, "length", "()I"⟩
abbrev cJ0_charAt_5068e : ByteArray := prog_16_method_56_code
def yJ0_charAt_5068e : MethodName := ⟨RJ0, "charAt", "(I)C"⟩
abbrev cJ0_indexOf_0f7a4 : ByteArray := prog_16_method_79_code
def yJ0_indexOf_0f7a4 : MethodName := ⟨RJ0, "indexOf", "(I)I"⟩
abbrev cJ0_indexOf_7cf53 : ByteArray := prog_16_method_80_code
def yJ0_indexOf_7cf53 : MethodName := ⟨RJ0, "indexOf", "(II)I"⟩
abbrev cJ0_coder_7d493 : ByteArray := prog_16_method_152_code
def yJ0_coder_7d493 : MethodName := ⟨RJ0, "coder", "()B"⟩
abbrev cJ0_isLatin1_aae02 : ByteArray := prog_16_method_154_code
def yJ0_isLatin1_aae02 : MethodName := ⟨RJ0, "isLatin1", "()Z"⟩
abbrev cJ0_checkIndex_df160 : ByteArray := prog_16_method_155_code
def yJ0_checkIndex_df160 : MethodName := ⟨RJ0, "checkIndex", "(II)V"⟩
abbrev cJ0_checkBoundsBeginEnd_23922 : ByteArray := prog_16_method_158_code
def yJ0_checkBoundsBeginEnd_23922 : MethodName := ⟨RJ0, "checkBoundsBeginEnd", "(III)V"⟩
def RJ1 : String := "java/lang/StringLatin1"
def TJ1 : u_T := fun k => match k with
  | _ => ("", "", "", false)
def tyJ1 : Nat → FieldType := fun k => match k with
  | _ => .int
abbrev wsJ10 : List Cond := u_ws RJ1 TJ1 0
theorem nmJ1 : ∀ a, a < 0 → ∀ b, b < 0 → a ≠ b → (TJ1 a).2.1 ≠ (TJ1 b).2.1 := by decide +kernel
theorem tyJ1_ok : ∀ k, k < 0 → parseFieldDescriptor (TJ1 k).2.2.1 = some (tyJ1 k) := by decide +kernel
abbrev cJ1_charAt_3b067 : ByteArray := prog_17_method_2_code
def yJ1_charAt_3b067 : MethodName := ⟨RJ1, "charAt", "([BI)C"⟩
abbrev cJ1_canEncode_9a6ad : ByteArray := prog_17_method_4_code
def yJ1_canEncode_9a6ad : MethodName := ⟨RJ1, "canEncode", "(I)Z"⟩
abbrev cJ1_indexOf_4cfef : ByteArray := prog_17_method_22_code
def yJ1_indexOf_4cfef : MethodName := ⟨RJ1, "indexOf", "([BIII)I"⟩
abbrev cJ1_indexOfChar_4cfef : ByteArray := prog_17_method_23_code
def yJ1_indexOfChar_4cfef : MethodName := ⟨RJ1, "indexOfChar", "([BIII)I"⟩
def RJ2 : String := "java/lang/StringUTF16"
def TJ2 : u_T := fun k => match k with
  | _ => ("", "", "", false)
def tyJ2 : Nat → FieldType := fun k => match k with
  | _ => .int
abbrev wsJ20 : List Cond := u_ws RJ2 TJ2 0
theorem nmJ2 : ∀ a, a < 0 → ∀ b, b < 0 → a ≠ b → (TJ2 a).2.1 ≠ (TJ2 b).2.1 := by decide +kernel
theorem tyJ2_ok : ∀ k, k < 0 → parseFieldDescriptor (TJ2 k).2.2.1 = some (tyJ2 k) := by decide +kernel
abbrev cJ2_getChar_3b067 : ByteArray := prog_18_method_5_code
def yJ2_getChar_3b067 : MethodName := ⟨RJ2, "getChar", "([BI)C"⟩
abbrev cJ2_length_9d52b : ByteArray := prog_18_method_6_code
def yJ2_length_9d52b : MethodName := ⟨RJ2, "length", "([B)I"⟩
abbrev cJ2_indexOf_4cfef : ByteArray := prog_18_method_40_code
def yJ2_indexOf_4cfef : MethodName := ⟨RJ2, "indexOf", "([BIII)I"⟩
abbrev cJ2_indexOfChar_4cfef : ByteArray := prog_18_method_47_code
def yJ2_indexOfChar_4cfef : MethodName := ⟨RJ2, "indexOfChar", "([BIII)I"⟩
abbrev cJ2_indexOfCharUnsafe_4cfef : ByteArray := prog_18_method_48_code
def yJ2_indexOfCharUnsafe_4cfef : MethodName := ⟨RJ2, "indexOfCharUnsafe", "([BIII)I"⟩
abbrev cJ2_indexOfSupplementary_4cfef : ByteArray := prog_18_method_49_code
def yJ2_indexOfSupplementary_4cfef : MethodName := ⟨RJ2, "indexOfSupplementary", "([BIII)I"⟩
abbrev cJ2_charAt_3b067 : ByteArray := prog_18_method_83_code
def yJ2_charAt_3b067 : MethodName := ⟨RJ2, "charAt", "([BI)C"⟩
abbrev cJ2_checkIndex_2214a : ByteArray := prog_18_method_91_code
def yJ2_checkIndex_2214a : MethodName := ⟨RJ2, "checkIndex", "(I[B)V"⟩
abbrev cJ2_checkBoundsBeginEnd_d044e : ByteArray := prog_18_method_93_code
def yJ2_checkBoundsBeginEnd_d044e : MethodName := ⟨RJ2, "checkBoundsBeginEnd", "(II[B)V"⟩
def RJ10 : String := "java/lang/System"
def TJ10 : u_T := fun k => match k with
  | _ => ("", "", "", false)
def tyJ10 : Nat → FieldType := fun k => match k with
  | _ => .int
abbrev wsJ100 : List Cond := u_ws RJ10 TJ10 0
theorem nmJ10 : ∀ a, a < 0 → ∀ b, b < 0 → a ≠ b → (TJ10 a).2.1 ≠ (TJ10 b).2.1 := by decide +kernel
theorem tyJ10_ok : ∀ k, k < 0 → parseFieldDescriptor (TJ10 k).2.2.1 = some (tyJ10 k) := by decide +kernel
def RJ3 : String := "jdk/internal/util/Preconditions"
def TJ3 : u_T := fun k => match k with
  | _ => ("", "", "", false)
def tyJ3 : Nat → FieldType := fun k => match k with
  | _ => .int
abbrev wsJ30 : List Cond := u_ws RJ3 TJ3 0
theorem nmJ3 : ∀ a, a < 0 → ∀ b, b < 0 → a ≠ b → (TJ3 a).2.1 ≠ (TJ3 b).2.1 := by decide +kernel
theorem tyJ3_ok : ∀ k, k < 0 → parseFieldDescriptor (TJ3 k).2.2.1 = some (tyJ3 k) := by decide +kernel
abbrev cJ3_checkIndex_8e157 : ByteArray := prog_20_method_11_code
def yJ3_checkIndex_8e157 : MethodName := ⟨RJ3, "checkIndex", "(IILjava/util/function/BiFunction;)I"⟩
abbrev cJ3_checkFromToIndex_8c36e : ByteArray := prog_20_method_12_code
def yJ3_checkFromToIndex_8c36e : MethodName := ⟨RJ3, "checkFromToIndex", "(IIILjava/util/function/BiFunction;)I"⟩
def RL : String := "CardNobodyReadsLaw"
abbrev cL_law : ByteArray := code
def yL_law : MethodName := ⟨RL, "law", "([I)Z"⟩
end
section
/-! THE PLAIN MACHINE: a method's run told over integers. A world is a list of cells (address, shape) and one memory: cell, place -> integer. -/
def w32 (z : Int) : Int := (z + 2147483648) % 4294967296 - 2147483648
def w64 (z : Int) : Int := (z + 9223372036854775808) % 18446744073709551616 - 9223372036854775808
def r32 (z : Int) : Prop := -2147483648 ≤ z ∧ z < 2147483648
def r64 (z : Int) : Prop := -9223372036854775808 ≤ z ∧ z < 9223372036854775808
theorem w32_r (z : Int) : r32 (w32 z) := by unfold r32 w32; omega
theorem w64_r (z : Int) : r64 (w64 z) := by unfold r64 w64; omega
theorem w32_id {z : Int} (h1 : -2147483648 ≤ z) (h2 : z < 2147483648) : w32 z = z := by unfold w32; omega
theorem w64_id {z : Int} (h1 : -9223372036854775808 ≤ z) (h2 : z < 9223372036854775808) : w64 z = z := by unfold w64; omega
theorem ti32 {z : Int} (h : r32 z) : (Int32.ofInt z).toInt = z := Int32.toInt_ofInt_of_le h.1 h.2
theorem ti64 {z : Int} (h : r64 z) : (Int64.ofInt z).toInt = z := Int64.toInt_ofInt_of_le h.1 h.2
theorem of_w32 (z : Int) : Int32.ofInt (w32 z) = Int32.ofInt z := by
  have e : w32 z = z - 4294967296 * ((z + 2147483648) / 4294967296) := by unfold w32; omega
  rw [e, Int32.ofInt_sub, Int32.ofInt_mul, show Int32.ofInt 4294967296 = 0 from rfl]
  simp
theorem of_w64 (z : Int) : Int64.ofInt (w64 z) = Int64.ofInt z := by
  have e : w64 z = z - 18446744073709551616 * ((z + 9223372036854775808) / 18446744073709551616) := by unfold w64; omega
  rw [e, Int64.ofInt_sub, Int64.ofInt_mul, show Int64.ofInt 18446744073709551616 = 0 from rfl]
  simp
theorem x32_r (x : Int32) : r32 x.toInt := ⟨Int32.le_toInt x, Int32.toInt_lt x⟩
theorem x64_r (x : Int64) : r64 x.toInt := ⟨Int64.le_toInt x, Int64.toInt_lt x⟩
def b_and (a b : Int) : Int := (Int32.ofInt a &&& Int32.ofInt b).toInt
def b_or (a b : Int) : Int := (Int32.ofInt a ||| Int32.ofInt b).toInt
def b_xor (a b : Int) : Int := (Int32.ofInt a ^^^ Int32.ofInt b).toInt
def b_shl (a b : Int) : Int := (Int32.ofInt a <<< (Int32.ofInt b &&& 31)).toInt
def b_shr (a b : Int) : Int := (Int32.ofInt a >>> (Int32.ofInt b &&& 31)).toInt
def b_ushr (a b : Int) : Int := (((Int32.ofInt a).toUInt32 >>> ((Int32.ofInt b).toUInt32 &&& Int32.toUInt32 31)).toInt32).toInt
def b_i2b (a : Int) : Int := (Int32.ofInt a).toInt8.toInt32.toInt
def b_i2s (a : Int) : Int := (Int32.ofInt a).toInt16.toInt32.toInt
def b_i2c (a : Int) : Int := ((Int32.ofInt a).toUInt32 % 65536).toInt32.toInt
def b_div (a b : Int) : Int := (Int32.ofInt a / Int32.ofInt b).toInt
def b_rem (a b : Int) : Int := (Int32.ofInt a - Int32.ofInt a / Int32.ofInt b * Int32.ofInt b).toInt
def b_ldiv (a b : Int) : Int := (Int64.ofInt a / Int64.ofInt b).toInt
def b_lrem (a b : Int) : Int := (Int64.ofInt a - Int64.ofInt a / Int64.ofInt b * Int64.ofInt b).toInt
/-- int, long, a reference or null -/
abbrev SV : Type := Int ⊕ (Int ⊕ Option Nat)
/-- an int array of a length; an object of a class, for each field: an int (it lies in the memory), or a reference -/
abbrev SC : Type := Nat ⊕ (Nat × List (Option (Option Nat)))
abbrev SW : Type := List (Nat × SC)
abbrev Mem : Type := Nat → Nat → Int
abbrev MM : Type := MethodName × ByteArray × Nat × Option FieldType
/-- the first address of the worlds; the classes' numbers; the class of int[]; the frozen addresses; the formatter; the script's length, the script -/
abbrev GG : Type := Nat × va_G × ClassId × (Nat → Nat) × Option Nat × Nat × (Nat → Int)
abbrev q_cl : List vw_C := [(RX0, TX0, 5), (RX1, TX1, 7), (RX2, TX2, 7), (RX3, TX3, 4), (RX4, TX4, 3), (RX5, TX5, 4), (RX6, TX6, 8), (RX7, TX7, 1), (RX8, TX8, 5), (RX9, TX9, 13), (RX10, TX10, 47)]
def q_V : SV → Value
  | .inl z => .int (Int32.ofInt z)
  | .inr (.inl z) => .long (Int64.ofInt z)
  | .inr (.inr none) => .null
  | .inr (.inr (some a)) => .ref a
def q_F (f : Nat → Int) : Nat → List (Option (Option Nat)) → List Value
  | _, [] => []
  | i, none :: l => .int (Int32.ofInt (f i)) :: q_F f (i + 1) l
  | i, some none :: l => .null :: q_F f (i + 1) l
  | i, some (some a) :: l => .ref a :: q_F f (i + 1) l
def q_E (cI : ClassId) (f : Nat → Int) : SC → va_E
  | .inl n => .inl (cI, n, .inl (fun j => Int32.ofInt (f j)))
  | .inr (ci, fs) => .inr (ci, q_F f 0 fs)
def q_W (cI : ClassId) (M : Mem) : Nat → SW → va_W
  | _, [] => []
  | i, (a, c) :: l => (a, q_E cI (M i) c) :: q_W cI M (i + 1) l
theorem q_W_get (cI : ClassId) (M : Mem) : ∀ (S : SW) (i k : Nat), (q_W cI M i S)[k]? = (S[k]?).map (fun q => (q.1, q_E cI (M (i + k)) q.2)) := by
  intro S
  induction S with
  | nil => intro i k; simp [q_W]
  | cons q l ih =>
    obtain ⟨a, c⟩ := q
    intro i k
    cases k with
    | zero => simp [q_W]
    | succ k => simp only [q_W, List.getElem?_cons_succ]; rw [ih, show i + 1 + k = i + (k + 1) by omega]
theorem q_W_at {cI : ClassId} {M : Mem} {S : SW} {k : Nat} {a : Nat} {c : SC} (h : S[k]? = some (a, c)) : (q_W cI M 0 S)[k]? = some (a, q_E cI (M k) c) := by
  rw [q_W_get, h, Nat.zero_add]; rfl
theorem q_W_len (cI : ClassId) (M : Mem) : ∀ (S : SW) (i : Nat), (q_W cI M i S).length = S.length := by
  intro S
  induction S with
  | nil => intro i; rfl
  | cons q l ih => obtain ⟨a, c⟩ := q; intro i; simp [q_W, ih]
/-- one cell's memory changes -/
def mup (M : Mem) (k : Nat) (g : Nat → Int) : Mem := fun i => if i = k then g else M i
def mset (M : Mem) (k i : Nat) (v : Int) : Mem := fun c j => if c = k ∧ j = i then v else M c j
theorem mset_mup (M : Mem) (k i : Nat) (v : Int) : mset M k i v = mup M k (fun j => if j = i then v else M k j) := by
  funext c j
  unfold mset mup
  by_cases h : c = k
  · subst h; by_cases h2 : j = i <;> simp [h2]
  · simp [h]
theorem q_W_set {cI : ClassId} {M : Mem} {S : SW} {k a : Nat} {c c' : SC} (g : Nat → Int) (h : S[k]? = some (a, c)) : (q_W cI M 0 S).set k (a, q_E cI g c') = q_W cI (mup M k g) 0 (S.set k (a, c')) := by
  apply List.ext_getElem?
  intro j
  have hk : k < S.length := (List.getElem?_eq_some_iff.mp h).1
  rw [List.getElem?_set, q_W_get, q_W_get, q_W_len, List.getElem?_set]
  by_cases e : k = j
  · subst e
    simp [hk, mup]
  · have e2 : ¬ j = k := fun q => e q.symm
    simp [e, e2, mup]
theorem q_set_same {S : SW} {k a : Nat} {c : SC} (h : S[k]? = some (a, c)) : S.set k (a, c) = S := by
  apply List.ext_getElem?
  intro j
  rw [List.getElem?_set]
  by_cases e : k = j
  · subst e; simp [(List.getElem?_eq_some_iff.mp h).1]; exact (List.getElem?_eq_some_iff.mp h).2.symm
  · simp [e]
theorem q_W_push (cI : ClassId) (M : Mem) (S : SW) (a : Nat) (c : SC) (g : Nat → Int) : q_W cI M 0 S ++ [(a, q_E cI g c)] = q_W cI (mup M S.length g) 0 (S ++ [(a, c)]) := by
  apply List.ext_getElem?
  intro j
  by_cases h : j < S.length
  · rw [List.getElem?_append_left (by rw [q_W_len]; exact h), q_W_get, q_W_get, List.getElem?_append_left h]
    have e : ¬ j = S.length := by omega
    simp [mup, e]
  · rw [List.getElem?_append_right (by rw [q_W_len]; omega), q_W_get, List.getElem?_append_right (by omega), q_W_len]
    by_cases e : j = S.length
    · subst e; simp [mup]
    · have e2 : j - S.length = (j - S.length - 1) + 1 := by omega
      rw [e2]; simp
theorem q_F_get (f : Nat → Int) : ∀ (fs : List (Option (Option Nat))) (i k : Nat), (q_F f i fs)[k]? = (fs[k]?).map (fun o => match o with | none => .int (Int32.ofInt (f (i + k))) | some none => .null | some (some a) => .ref a) := by
  intro fs
  induction fs with
  | nil => intro i k; simp [q_F]
  | cons o l ih =>
    intro i k
    cases k with
    | zero => rcases o with _ | (_ | a) <;> simp [q_F]
    | succ k => rcases o with _ | (_ | a) <;> (simp only [q_F, List.getElem?_cons_succ]; rw [ih, show i + 1 + k = i + (k + 1) by omega])
theorem q_F_len (f : Nat → Int) : ∀ (fs : List (Option (Option Nat))) (i : Nat), (q_F f i fs).length = fs.length := by
  intro fs
  induction fs with
  | nil => intro i; rfl
  | cons o l ih => intro i; rcases o with _ | (_ | a) <;> simp [q_F, ih]
theorem q_F_set {f : Nat → Int} {fs : List (Option (Option Nat))} {k : Nat} (v : Int) (h : fs[k]? = some none) : (q_F f 0 fs).set k (.int (Int32.ofInt v)) = q_F (fun j => if j = k then v else f j) 0 fs := by
  apply List.ext_getElem?
  intro j
  have hk : k < fs.length := (List.getElem?_eq_some_iff.mp h).1
  rw [List.getElem?_set, q_F_get, q_F_get, q_F_len, Nat.zero_add]
  by_cases e : k = j
  · subst e
    have hk2 : fs[k] = none := (List.getElem?_eq_some_iff.mp h).2
    simp [hk, hk2]
  · have e2 : ¬ j = k := fun q => e q.symm
    simp [e, e2]
theorem q_F_setR {f : Nat → Int} {fs : List (Option (Option Nat))} {k : Nat} (r : Option Nat) (h : k < fs.length) : (q_F f 0 fs).set k (q_V (.inr (.inr r))) = q_F f 0 (fs.set k (some r)) := by
  apply List.ext_getElem?
  intro j
  rw [List.getElem?_set, q_F_get, q_F_get, q_F_len, List.getElem?_set, Nat.zero_add]
  by_cases e : k = j
  · subst e
    rcases r with _ | a <;> simp [h, q_V]
  · simp [e]
/-! ranges -/
def q_R : SV → Prop
  | .inl z => r32 z
  | .inr (.inl z) => r64 z
  | .inr (.inr _) => True
def q_RM (M : Mem) : Prop := ∀ c i, r32 (M c i)
def q_RL (st : List SV) : Prop := ∀ v ∈ st, q_R v
def q_RO (ls : List (Option SV)) : Prop := ∀ v, some v ∈ ls → q_R v
theorem q_RL.tl {v : SV} {st : List SV} (h : q_RL (v :: st)) : q_RL st := fun w hw => h w (List.mem_cons_of_mem _ hw)
theorem q_RL.hd {v : SV} {st : List SV} (h : q_RL (v :: st)) : q_R v := h v List.mem_cons_self
theorem q_RL.cons {v : SV} {st : List SV} (hv : q_R v) (h : q_RL st) : q_RL (v :: st) := fun w hw => by
  rcases List.mem_cons.mp hw with rfl | hw
  · exact hv
  · exact h w hw
theorem q_RL.nil : q_RL [] := fun _ h => absurd h List.not_mem_nil
theorem q_RM.set {M : Mem} (h : q_RM M) {k i : Nat} {v : Int} (hv : r32 v) : q_RM (mset M k i v) := by
  intro c j
  unfold mset
  split
  · exact hv
  · exact h c j
theorem q_RM.up {M : Mem} (h : q_RM M) {k : Nat} {g : Nat → Int} (hg : ∀ j, r32 (g j)) : q_RM (mup M k g) := by
  intro c j
  unfold mup
  split
  · exact hg j
  · exact h c j
/-! the tables' words -/
def q_ok : Cond → Bool
  | .methodLinkNest .. => true
  | .fieldLinkNest .. => true
  | .arrayClass _ => false
  | w => w.onTables && w.keeps
def q_in (w : Cond) : Prop := w ∈ lw_tbl ∧ q_ok w = true
def q_T (U : State) : Prop := (∀ w : Cond, q_in w → va_Nw w U) ∧ (Cond.arrayClass .int).before #[] U = true
theorem q_ok_tab {w : Cond} (h : q_ok w = true) : w.onTables = true := by
  cases w <;> first | rfl | (simp [q_ok, Cond.onTables] at h)
theorem q_T.use {U : State} (h : q_T U) {w : Cond} (hw : q_in w) {A : Array Value} : w.before A U = true := va_Nw.use (q_ok_tab hw.2) (h.1 w hw)
theorem q_T.warm {s U : State} (hW : s.WarmedH U.vm) (h : q_T s) : q_T U := by
  refine ⟨fun w hw => ?_, word_at hW (Or.inr ⟨_, rfl⟩) h.2⟩
  have h1 := h.1 w hw
  have h2 := hw.2
  cases w
  case methodLinkNest a i x h => exact va_Nw.warmM hW h1
  case fieldLinkNest a i b n d h => exact va_Nw.warmF hW h1
  case arrayClass ty => simp [q_ok] at h2
  all_goals exact word_at hW (Or.inl h2) h1
/-! the frozen things: the script, two static rows, the texts -/
def q_str : List (String × Nat × String × List Int) := [
  ("CardNobodyReads$Tape", 61, "();+-*<=", [40, 41, 59, 43, 45, 42, 60, 61]),
  ("CardNobodyReads$Tape", 68, "may", [109, 97, 121]),
  ("CardNobodyReads$Tape", 74, "likes", [108, 105, 107, 101, 115]),
  ("CardNobodyReads$Tape", 76, "learns", [108, 101, 97, 114, 110, 115]),
  ("CardNobodyReads$Tape", 78, "or", [111, 114]),
  ("CardNobodyReads$Tape", 80, "and", [97, 110, 100]),
  ("CardNobodyReads$Tape", 82, "not", [110, 111, 116]),
  ("CardNobodyReads$Tape", 84, "price", [112, 114, 105, 99, 101]),
  ("CardNobodyReads$Tape", 88, "parts", [112, 97, 114, 116, 115]),
  ("CardNobodyReads$Tape", 90, "place", [112, 108, 97, 99, 101]),
  ("CardNobodyReads$Tape", 92, "many", [109, 97, 110, 121]),
  ("CardNobodyReads$Tape", 94, "guest", [103, 117, 101, 115, 116]),
  ("CardNobodyReads$Tape", 96, "left", [108, 101, 102, 116]),
  ("CardNobodyReads$Texts", 31, "may 1 ; likes 50 - price + many ; learns 720 - left ;", [109, 97, 121, 32, 49, 32, 59, 32, 108, 105, 107, 101, 115, 32, 53, 48, 32, 45, 32, 112, 114, 105, 99, 101, 32, 43, 32, 109, 97, 110, 121, 32, 59, 32, 108, 101, 97, 114, 110, 115, 32, 55, 50, 48, 32, 45, 32, 108, 101, 102, 116, 32, 59])]
def q_sb (i : Nat) : List Int := (q_str.map (fun q => q.2.2.2)).getD i []
def q_sl : List Nat := q_str.map (fun q => q.2.2.2.length)
def q_sB : List (List Int32) := q_str.map (fun q => q.2.2.2.map Int32.ofInt)
/-- the frozen rows of ints: their lengths, what they hold -/
def q_fl (g : GG) : Nat → Nat
  | 0 => g.2.2.2.2.2.1
  | _ => 6
def q_ff (g : GG) : Nat → Nat → Int
  | 0 => g.2.2.2.2.2.2
  | 1 => fun j => ([120, 24, 6, 2, 1, 1] : List Int).getD j 0
  | _ => fun j => ([-1, 0, 0, 2, 1, 2] : List Int).getD j 0
def q_A (g : GG) : Nat → Prop := fun q => g.1 ≤ q
def q_G (g : GG) : Prop := (∀ j i, r32 (q_ff g j i)) ∧ g.2.2.2.2.2.1 ≤ 3584
def q_Z (g : GG) (U : State) (H : Heap) : Prop :=
  q_G g ∧ (∀ j, j < 3 → va_T .int (g.2.2.2.1 j) (q_fl g j) (fun i => .int (Int32.ofInt (q_ff g j i))) (q_A g) U H) ∧
  va_Z "CardNobodyReads" "TURNS" "[I" (.ref (g.2.2.2.1 1)) (q_A g) U H ∧ va_Z "CardNobodyReads" "KIND_ABOVE" "[I" (.ref (g.2.2.2.1 2)) (q_A g) U H ∧
  va_Z "java/lang/String" "COMPACT_STRINGS" "Z" (.int 1) (q_A g) U H ∧ va_Z "jdk/internal/util/Preconditions" "SIOOBE_FORMATTER" "Ljava/util/function/BiFunction;" (q_V (.inr (.inr g.2.2.2.2.1))) (q_A g) U H ∧
  vk_S 14 q_sl q_sB (fun i => g.2.2.2.1 (10 + i)) (fun i => g.2.2.2.1 (30 + i)) (q_A g) U H ∧
  (∀ (i : Nat) (q : String × Nat × String × List Int), q_str[i]? = some q → vk_R q.1 q.2.1 q.2.2.1 (g.2.2.2.1 (10 + i)) U)
theorem q_Z.warm {g : GG} {s U : State} {H : Heap} (hW : s.WarmedH U.vm) (h : q_Z g s H) : q_Z g U H := by
  obtain ⟨h0, h1, h2, h3, h4, h5, h6, h7⟩ := h
  exact ⟨h0, fun j hj => (h1 j hj).moved hW.alike, h2.moved hW.alike, h3.moved hW.alike, h4.moved hW.alike, h5.moved hW.alike, h6.moved hW.alike, fun i q hq => (h7 i q hq).warm hW⟩
theorem q_Z.kept {g : GG} {U : State} {H H1 : Heap} (h : q_Z g U H) (hq : ∀ a : Nat, a < H.size → ¬ q_A g a → H1[a]? = H[a]?) : q_Z g U H1 := by
  obtain ⟨h0, h1, h2, h3, h4, h5, h6, h7⟩ := h
  exact ⟨h0, fun j hj => (h1 j hj).kept hq, h2.kept hq, h3.kept hq, h4.kept hq, h5.kept hq, h6.kept hq, h7⟩
/-! the world -/
def q_P (g : GG) (S : SW) (M : Mem) (H : Heap) : Prop := va_P g.2.1 q_cl (q_W g.2.2.1 M 0 S) H ∧ va_D (q_A g) (q_W g.2.2.1 M 0 S)
def q_K (g : GG) (U : State) : Prop := va_K g.2.1 q_cl [(g.2.2.1, .int)] U
theorem q_K.moved {g : GG} {u U : State} (hvm : u.vm.Alike U.vm) (h : q_K g u) : q_K g U := va_K.moved hvm h
/-! locals -/
def q_L (lsR : Array Slot) (n : Nat) (ls : List (Option SV)) : Prop := lsR.size = n ∧ lv_wf lsR ∧ ∀ (i : Nat) (v : SV), ls[i]? = some (some v) → lsR[i]? = some (.val (q_V v))
def q_lv : Nat → List (Option SV) → List (Nat × Value)
  | _, [] => []
  | i, none :: l => q_lv (i + 1) l
  | i, some v :: l => (i, q_V v) :: q_lv (i + 1) l
theorem q_lv_mem : ∀ (l : List (Option SV)) (i : Nat) (q : Nat × Value), q ∈ q_lv i l ↔ ∃ (k : Nat) (v : SV), l[k]? = some (some v) ∧ q = (i + k, q_V v) := by
  intro l
  induction l with
  | nil => intro i q; simp [q_lv]
  | cons o l ih =>
    intro i q
    rcases o with _ | v
    · simp only [q_lv]
      rw [ih]
      constructor
      · rintro ⟨k, v, h1, h2⟩
        exact ⟨k + 1, v, by simpa using h1, by rw [h2, show i + 1 + k = i + (k + 1) by omega]⟩
      · rintro ⟨k, v, h1, h2⟩
        cases k with
        | zero => simp at h1
        | succ k => exact ⟨k, v, by simpa using h1, by rw [h2, show i + 1 + k = i + (k + 1) by omega]⟩
    · simp only [q_lv, List.mem_cons]
      rw [ih]
      constructor
      · rintro (h | ⟨k, w, h1, h2⟩)
        · exact ⟨0, v, rfl, h⟩
        · exact ⟨k + 1, w, by simpa using h1, by rw [h2, show i + 1 + k = i + (k + 1) by omega]⟩
      · rintro ⟨k, w, h1, h2⟩
        cases k with
        | zero => left; simp at h1; subst h1; exact h2
        | succ k => right; exact ⟨k, w, by simpa using h1, by rw [h2, show i + 1 + k = i + (k + 1) by omega]⟩
theorem q_L.has {lsR : Array Slot} {n : Nat} {ls : List (Option SV)} (h : q_L lsR n ls) : lv_has lsR n (q_lv 0 ls) := by
  refine ⟨h.1, h.2.1, fun q hq => ?_⟩
  obtain ⟨k, v, h1, rfl⟩ := (q_lv_mem ls 0 q).mp hq
  rw [Nat.zero_add]
  exact h.2.2 k v h1
def q_cat : SV → Nat
  | .inr (.inl _) => 2
  | _ => 1
theorem q_cat_eq (v : SV) : (q_V v).category = q_cat v := by
  rcases v with z | (z | (_ | a)) <;> rfl
/-- no long lies across the place -/
def q_nl (ls : List (Option SV)) : Nat → Bool
  | 0 => true
  | j + 1 => match ls[j]? with
    | some (some (.inr (.inl _))) => false
    | _ => true
theorem q_L.set1 {lsR : Array Slot} {n : Nat} {ls : List (Option SV)} {i : Nat} {v : SV} (hnl : q_nl ls i = true) (hi : i < ls.length) (h : lv_has lsR n ((i, q_V v) :: (q_lv 0 ls).filter (fun q => !(q.1 == i) && !(q.1 + 1 == i && q.2.category == 2)))) : q_L lsR n (ls.set i (some v)) := by
  refine ⟨h.1, h.2.1, fun j w hj => ?_⟩
  rw [List.getElem?_set] at hj
  by_cases e : i = j
  · subst e
    simp [hi] at hj
    subst hj
    exact h.2.2 _ List.mem_cons_self
  · simp [e] at hj
    refine h.2.2 (j, q_V w) (List.mem_cons_of_mem _ (List.mem_filter.mpr ⟨(q_lv_mem ls 0 _).mpr ⟨j, w, hj, by rw [Nat.zero_add]⟩, ?_⟩))
    have e1 : ¬ j = i := fun q => e q.symm
    have e2 : ¬ (j + 1 = i ∧ (q_V w).category = 2) := by
      rintro ⟨rfl, h2⟩
      rw [q_cat_eq] at h2
      rcases w with z | (z | o)
      · simp [q_cat] at h2
      · simp [q_nl, hj] at hnl
      · simp [q_cat] at h2
    simp [e1]
    exact Classical.not_and_iff_not_or_not.mp e2
theorem q_L.set2 {lsR : Array Slot} {n : Nat} {ls : List (Option SV)} {i : Nat} {z : Int} (hnl : q_nl ls i = true) (hi : i < ls.length) (h : lv_has lsR n ((i, Value.long (Int64.ofInt z)) :: (q_lv 0 ls).filter (fun q => !(q.1 == i) && (!(q.1 == i + 1) && !(q.1 + 1 == i && q.2.category == 2))))) : q_L lsR n ((ls.set i (some (.inr (.inl z)))).set (i + 1) none) := by
  refine ⟨h.1, h.2.1, fun j w hj => ?_⟩
  rw [List.getElem?_set] at hj
  by_cases e0 : i + 1 = j
  · subst e0
    by_cases hl : i + 1 < (ls.set i (some (.inr (.inl z)) : Option SV)).length
    · rw [if_pos rfl, if_pos hl] at hj
      cases hj
    · rw [if_pos rfl, if_neg hl] at hj
      cases hj
  rw [if_neg e0, List.getElem?_set] at hj
  by_cases e : i = j
  · subst e
    simp [hi] at hj
    subst hj
    exact h.2.2 _ List.mem_cons_self
  · simp [e] at hj
    refine h.2.2 (j, q_V w) (List.mem_cons_of_mem _ (List.mem_filter.mpr ⟨(q_lv_mem ls 0 _).mpr ⟨j, w, hj, by rw [Nat.zero_add]⟩, ?_⟩))
    have e1 : ¬ j = i := fun q => e q.symm
    have e3 : ¬ j = i + 1 := fun q => e0 q.symm
    have e2 : ¬ (j + 1 = i ∧ (q_V w).category = 2) := by
      rintro ⟨rfl, h2⟩
      rw [q_cat_eq] at h2
      rcases w with z | (z | o)
      · simp [q_cat] at h2
      · simp [q_nl, hj] at hnl
      · simp [q_cat] at h2
    simp [e1, e3]
    exact Classical.not_and_iff_not_or_not.mp e2
theorem q_RO.set {ls : List (Option SV)} (h : q_RO ls) {i : Nat} {v : SV} (hv : q_R v) : q_RO (ls.set i (some v)) := by
  intro w hw
  rcases List.mem_or_eq_of_mem_set hw with h1 | h1
  · exact h w h1
  · cases h1; exact hv
theorem q_RO.setN {ls : List (Option SV)} (h : q_RO ls) {i : Nat} : q_RO (ls.set i none) := by
  intro w hw
  rcases List.mem_or_eq_of_mem_set hw with h1 | h1
  · exact h w h1
  · cases h1
theorem q_RO.at {ls : List (Option SV)} (h : q_RO ls) {i : Nat} {v : SV} (hi : ls[i]? = some (some v)) : q_R v := h v (List.mem_of_getElem? hi)
/-! a run: from here on the method comes to its end with Post -/
abbrev PP : Type := Option SV → SW → Mem → Prop
def q_Q (g : GG) (Post : PP) : Array Value → State → Outcome → State → Prop := fun _ st o t =>
  (∃ (r : Option SV) (S' : SW) (M' : Mem), Post r S' M' ∧ (∀ v, r = some v → q_R v) ∧ q_RM M' ∧ o = .returned (r.map q_V) ∧ q_P g S' M' t.heap ∧ q_K g t) ∧ va_F (q_A g) st t
def q_C (mm : MM) (p : Program) (s : State) (m : MethodId) (meth : Method) (c : Code) : Prop :=
  p.tables.exec = Jvm.exec ∧ c.code = mm.2.1 ∧ meth.sig.returnType = mm.2.2.2 ∧ c.maxLocals = mm.2.2.1 ∧ s.vm.findClass mm.1.cls = some m.cls ∧ q_T s ∧ meth.locks = false ∧ meth.name = mm.1.name
/-- what holds at a point of a run -/
def q_X (g : GG) (mm : MM) (S : SW) (M : Mem) (ls : List (Option SV)) (p : Program) (s : State) (m : MethodId) (meth : Method) (c : Code) (H : Heap) (locs : List Loc) (lsR : Array Slot) : Prop :=
  q_C mm p s m meth c ∧ va_S (q_A g) s.heap H locs ∧ q_P g S M H ∧ q_K g s ∧ q_Z g s s.heap ∧ g.1 ≤ s.heap.size ∧ q_L lsR mm.2.2.1 ls
def RW (l : Launch) (g : GG) (mm : MM) (R : Room) (mc ms : Nat) (Post : PP) (pc : Nat) (S : SW) (M : Mem) (k n : Nat) (ls : List (Option SV)) (st : List SV) : Prop :=
  q_RO ls → q_RL st → q_RM M → ∀ (p : Program) (e : Env) (s : State) (m : MethodId) (args : Array Value) (below : List Frame) (meth : Method) (c : Code) (H : Heap) (locs : List Loc) (lsR : Array Slot),
    q_X g mm S M ls p s m meth c H locs lsR → W p l e R s m args below meth c H locs k n (MQ below (q_Q g Post) args s mc ms (q_A g)) (F0 m pc lsR (st.map q_V))
/-- a method's contract -/
def q_B (g : GG) (S : SW) (M : Mem) (U : State) : Prop := g.1 ≤ U.heap.size ∧ q_P g S M U.heap ∧ q_K g U ∧ q_Z g U U.heap ∧ q_T U
def q_rm (d mc ms : Nat) : Room := { frames := d, cells := mc, slots := ms, locals := 64 * d }
def CT (l : Launch) (g : GG) (mm : MM) (d mc ms : Nat) (S : SW) (M : Mem) (args : List SV) (Post : PP) : Prop :=
  q_RL args → q_RM M → Met l mm.1 [.code mm.1 mm.2.1 mm.2.2.1 mm.2.2.2] (q_rm d mc ms) (va_Pc (args.map q_V) (q_B g S M)) (q_Q g Post) mc ms (q_A g)
/-- an instruction of a code, its length, the place behind it -/
def q_d (c : ByteArray) (pc : Nat) (ins : Instr) (len pc' : Nat) : Prop := decode c pc = .ok (ins, len) ∧ pc + len = pc'
theorem q_dt {c : ByteArray} {t : List (Nat × Instr × Nat × Nat)} (h : ∀ q ∈ t, decode c q.1 = .ok (q.2.1, q.2.2.1) ∧ q.1 + q.2.2.1 = q.2.2.2) (i : Nat) {pc : Nat} {ins : Instr} {len pc' : Nat} (hi : t[i]? = some (pc, ins, len, pc')) : q_d c pc ins len pc' := h (pc, ins, len, pc') (List.mem_of_getElem? hi)
end
section
/-! one row an instruction, over RW -/
theorem lt32 {a b : Int} (ha : r32 a) (hb : r32 b) : Int32.ofInt a < Int32.ofInt b ↔ a < b := by rw [Int32.lt_iff_toInt_lt, ti32 ha, ti32 hb]
theorem le32 {a b : Int} (ha : r32 a) (hb : r32 b) : Int32.ofInt a ≤ Int32.ofInt b ↔ a ≤ b := by rw [Int32.le_iff_toInt_le, ti32 ha, ti32 hb]
theorem eq32 {a b : Int} (ha : r32 a) (hb : r32 b) : Int32.ofInt a = Int32.ofInt b ↔ a = b := by rw [← Int32.toInt_inj, ti32 ha, ti32 hb]
theorem lt64 {a b : Int} (ha : r64 a) (hb : r64 b) : Int64.ofInt a < Int64.ofInt b ↔ a < b := by rw [Int64.lt_iff_toInt_lt, ti64 ha, ti64 hb]
theorem eq64 {a b : Int} (ha : r64 a) (hb : r64 b) : Int64.ofInt a = Int64.ofInt b ↔ a = b := by rw [← Int64.toInt_inj, ti64 ha, ti64 hb]
theorem z32 : r32 0 := by unfold r32; omega
theorem z64 : r64 0 := by unfold r64; omega
theorem i0 : (0 : Int32) = Int32.ofInt 0 := rfl
theorem l0 : (0 : Int64) = Int64.ofInt 0 := rfl
def q_c (z : Int) : Bool := decide (-2147483648 ≤ z) && decide (z < 2147483648)
theorem q_c_r {z : Int} (h : q_c z = true) : r32 z := by
  unfold q_c at h
  simp only [Bool.and_eq_true, decide_eq_true_eq] at h
  exact h
theorem q_pos {m : Int} (h : 0 ≤ m) (hr : r32 m) : (Int32.ofInt m).toNatClampNeg = m.toNat := by
  have h1 := ti32 hr
  show (Int32.ofInt m).toInt.toNat = m.toNat
  rw [h1]
theorem q_in_vp {x : Int} {n : Nat} (hr : r32 x) (h : 0 ≤ x ∧ x < n) : vp_in (Int32.ofInt x) n := by
  rw [vp_in_iff, ti32 hr]
  exact h
section ROWS
variable {l : Launch} {g : GG} {mm : MM} {R : Room} {mc ms : Nat} {Post : PP} {pc : Nat} {S : SW} {M : Mem} {k n : Nat} {ls : List (Option SV)} {st : List SV}
theorem R_pure {pc' : Nat} {st' : List SV} (hr : q_RO ls → q_RL st → q_RL st')
    (row : q_RO ls → q_RL st → ∀ (p : Program) (e : Env) (s : State) (m : MethodId) (args : Array Value) (below : List Frame) (meth : Method) (c : Code) (H : Heap) (locs : List Loc) (lsR : Array Slot) (Q : State → Prop), q_X g mm S M ls p s m meth c H locs lsR → W p l e R s m args below meth c H locs k n Q (F0 m pc' lsR (st'.map q_V)) → W p l e R s m args below meth c H locs k n Q (F0 m pc lsR (st.map q_V)))
    (kk : RW l g mm R mc ms Post pc' S M k n ls st') : RW l g mm R mc ms Post pc S M k n ls st := by
  intro hl hs hM p e s m args below meth c H locs lsR X
  exact row hl hs p e s m args below meth c H locs lsR _ X (kk hl (hr hl hs) hM p e s m args below meth c H locs lsR X)
theorem R_mask {ls' : List (Option SV)} (bs : List Bool) (h : (bs.zipWith (fun b o => if b then o else none) ls) = ls') (kk : RW l g mm R mc ms Post pc S M k n ls' st) : RW l g mm R mc ms Post pc S M k n ls st := by
  have key : ∀ (i : Nat) (v : SV), ls'[i]? = some (some v) → ls[i]? = some (some v) := by
    intro i v hi
    rw [← h, List.getElem?_zipWith] at hi
    cases hb : bs[i]? with
    | none => simp [hb] at hi
    | some b =>
      cases ho : ls[i]? with
      | none => simp [hb, ho] at hi
      | some o => cases b <;> simp [hb, ho] at hi <;> rw [hi]
  intro hl hs hM p e s m args below meth c H locs lsR X
  refine kk (fun v hv => ?_) hs hM p e s m args below meth c H locs lsR ⟨X.1, X.2.1, X.2.2.1, X.2.2.2.1, X.2.2.2.2.1, X.2.2.2.2.2.1, X.2.2.2.2.2.2.1, X.2.2.2.2.2.2.2.1, fun i v hi => X.2.2.2.2.2.2.2.2 i v (key i v hi)⟩
  obtain ⟨i, hi⟩ := List.getElem?_of_mem hv
  exact hl.at (key i v hi)

theorem R_iadd {a b : Int} {pc' : Nat} (hd : q_d mm.2.1 pc (.iadd) 1 pc') (kk : RW l g mm R mc ms Post pc' S M k n ls (.inl (w32 (a + b)) :: st)) : RW l g mm R mc ms Post (pc) S M k n ls (.inl b :: .inl a :: st) := by
  obtain ⟨hd, rfl⟩ := hd
  exact R_pure (fun hl h => by exact q_RL.cons (w32_r _) h.tl.tl) (fun hl h p e s m args below meth c H locs lsR Q X kw => by exact lv_iadd X.1.1 X.1.2.1 hd (W.eq (by simp [q_V, of_w32, Int32.ofInt_add]) kw)) kk
theorem R_isub {a b : Int} {pc' : Nat} (hd : q_d mm.2.1 pc (.isub) 1 pc') (kk : RW l g mm R mc ms Post pc' S M k n ls (.inl (w32 (a - b)) :: st)) : RW l g mm R mc ms Post (pc) S M k n ls (.inl b :: .inl a :: st) := by
  obtain ⟨hd, rfl⟩ := hd
  exact R_pure (fun hl h => by exact q_RL.cons (w32_r _) h.tl.tl) (fun hl h p e s m args below meth c H locs lsR Q X kw => by exact lv_isub X.1.1 X.1.2.1 hd (W.eq (by simp [q_V, of_w32, Int32.ofInt_sub]) kw)) kk
theorem R_imul {a b : Int} {pc' : Nat} (hd : q_d mm.2.1 pc (.imul) 1 pc') (kk : RW l g mm R mc ms Post pc' S M k n ls (.inl (w32 (a * b)) :: st)) : RW l g mm R mc ms Post (pc) S M k n ls (.inl b :: .inl a :: st) := by
  obtain ⟨hd, rfl⟩ := hd
  exact R_pure (fun hl h => by exact q_RL.cons (w32_r _) h.tl.tl) (fun hl h p e s m args below meth c H locs lsR Q X kw => by exact lv_imul X.1.1 X.1.2.1 hd (W.eq (by simp [q_V, of_w32, Int32.ofInt_mul]) kw)) kk
theorem R_iand {a b : Int} {pc' : Nat} (hd : q_d mm.2.1 pc (.iand) 1 pc') (kk : RW l g mm R mc ms Post pc' S M k n ls (.inl (b_and a b) :: st)) : RW l g mm R mc ms Post (pc) S M k n ls (.inl b :: .inl a :: st) := by
  obtain ⟨hd, rfl⟩ := hd
  exact R_pure (fun hl h => by exact q_RL.cons (x32_r _) h.tl.tl) (fun hl h p e s m args below meth c H locs lsR Q X kw => by exact lv_iand X.1.1 X.1.2.1 hd (W.eq (by simp only [List.map_cons, q_V, b_and, Int32.ofInt_toInt, Int64.ofInt_toInt]) kw)) kk
theorem R_ior {a b : Int} {pc' : Nat} (hd : q_d mm.2.1 pc (.ior) 1 pc') (kk : RW l g mm R mc ms Post pc' S M k n ls (.inl (b_or a b) :: st)) : RW l g mm R mc ms Post (pc) S M k n ls (.inl b :: .inl a :: st) := by
  obtain ⟨hd, rfl⟩ := hd
  exact R_pure (fun hl h => by exact q_RL.cons (x32_r _) h.tl.tl) (fun hl h p e s m args below meth c H locs lsR Q X kw => by exact lv_ior X.1.1 X.1.2.1 hd (W.eq (by simp only [List.map_cons, q_V, b_or, Int32.ofInt_toInt, Int64.ofInt_toInt]) kw)) kk
theorem R_ixor {a b : Int} {pc' : Nat} (hd : q_d mm.2.1 pc (.ixor) 1 pc') (kk : RW l g mm R mc ms Post pc' S M k n ls (.inl (b_xor a b) :: st)) : RW l g mm R mc ms Post (pc) S M k n ls (.inl b :: .inl a :: st) := by
  obtain ⟨hd, rfl⟩ := hd
  exact R_pure (fun hl h => by exact q_RL.cons (x32_r _) h.tl.tl) (fun hl h p e s m args below meth c H locs lsR Q X kw => by exact lv_ixor X.1.1 X.1.2.1 hd (W.eq (by simp only [List.map_cons, q_V, b_xor, Int32.ofInt_toInt, Int64.ofInt_toInt]) kw)) kk
theorem R_ishl {a b : Int} {pc' : Nat} (hd : q_d mm.2.1 pc (.ishl) 1 pc') (kk : RW l g mm R mc ms Post pc' S M k n ls (.inl (b_shl a b) :: st)) : RW l g mm R mc ms Post (pc) S M k n ls (.inl b :: .inl a :: st) := by
  obtain ⟨hd, rfl⟩ := hd
  exact R_pure (fun hl h => by exact q_RL.cons (x32_r _) h.tl.tl) (fun hl h p e s m args below meth c H locs lsR Q X kw => by exact lv_ishl X.1.1 X.1.2.1 hd (W.eq (by simp only [List.map_cons, q_V, b_shl, Int32.ofInt_toInt, Int64.ofInt_toInt]) kw)) kk
theorem R_ishr {a b : Int} {pc' : Nat} (hd : q_d mm.2.1 pc (.ishr) 1 pc') (kk : RW l g mm R mc ms Post pc' S M k n ls (.inl (b_shr a b) :: st)) : RW l g mm R mc ms Post (pc) S M k n ls (.inl b :: .inl a :: st) := by
  obtain ⟨hd, rfl⟩ := hd
  exact R_pure (fun hl h => by exact q_RL.cons (x32_r _) h.tl.tl) (fun hl h p e s m args below meth c H locs lsR Q X kw => by exact lv_ishr X.1.1 X.1.2.1 hd (W.eq (by simp only [List.map_cons, q_V, b_shr, Int32.ofInt_toInt, Int64.ofInt_toInt]) kw)) kk
theorem R_iushr {a b : Int} {pc' : Nat} (hd : q_d mm.2.1 pc (.iushr) 1 pc') (kk : RW l g mm R mc ms Post pc' S M k n ls (.inl (b_ushr a b) :: st)) : RW l g mm R mc ms Post (pc) S M k n ls (.inl b :: .inl a :: st) := by
  obtain ⟨hd, rfl⟩ := hd
  exact R_pure (fun hl h => by exact q_RL.cons (x32_r _) h.tl.tl) (fun hl h p e s m args below meth c H locs lsR Q X kw => by exact lv_iushr X.1.1 X.1.2.1 hd rfl (W.eq (by simp only [List.map_cons, q_V, b_ushr, Int32.ofInt_toInt, Int64.ofInt_toInt]) kw)) kk
theorem R_idiv {a b : Int} (hb : b ≠ 0) {pc' : Nat} (hd : q_d mm.2.1 pc (.idiv) 1 pc') (kk : RW l g mm R mc ms Post pc' S M k n ls (.inl (b_div a b) :: st)) : RW l g mm R mc ms Post (pc) S M k n ls (.inl b :: .inl a :: st) := by
  obtain ⟨hd, rfl⟩ := hd
  exact R_pure (fun hl h => by exact q_RL.cons (x32_r _) h.tl.tl) (fun hl h p e s m args below meth c H locs lsR Q X kw => by exact lv_idiv X.1.1 X.1.2.1 hd (by rw [i0, eq32 h.hd z32]; exact hb) (W.eq (by simp only [List.map_cons, q_V, b_div, Int32.ofInt_toInt, Int64.ofInt_toInt]) kw)) kk
theorem R_irem {a b : Int} (hb : b ≠ 0) {pc' : Nat} (hd : q_d mm.2.1 pc (.irem) 1 pc') (kk : RW l g mm R mc ms Post pc' S M k n ls (.inl (b_rem a b) :: st)) : RW l g mm R mc ms Post (pc) S M k n ls (.inl b :: .inl a :: st) := by
  obtain ⟨hd, rfl⟩ := hd
  exact R_pure (fun hl h => by exact q_RL.cons (x32_r _) h.tl.tl) (fun hl h p e s m args below meth c H locs lsR Q X kw => by exact lv_irem X.1.1 X.1.2.1 hd (by rw [i0, eq32 h.hd z32]; exact hb) (W.eq (by simp only [List.map_cons, q_V, b_rem, Int32.ofInt_toInt, Int64.ofInt_toInt]) kw)) kk
theorem R_ineg {a : Int} {pc' : Nat} (hd : q_d mm.2.1 pc (.ineg) 1 pc') (kk : RW l g mm R mc ms Post pc' S M k n ls (.inl (w32 (-a)) :: st)) : RW l g mm R mc ms Post (pc) S M k n ls (.inl a :: st) := by
  obtain ⟨hd, rfl⟩ := hd
  exact R_pure (fun hl h => by exact q_RL.cons (w32_r _) h.tl) (fun hl h p e s m args below meth c H locs lsR Q X kw => by exact lv_ineg X.1.1 X.1.2.1 hd (W.eq (by simp [q_V, of_w32, Int32.ofInt_neg]) kw)) kk
theorem R_i2b {a : Int} {pc' : Nat} (hd : q_d mm.2.1 pc (.i2b) 1 pc') (kk : RW l g mm R mc ms Post pc' S M k n ls (.inl (b_i2b a) :: st)) : RW l g mm R mc ms Post (pc) S M k n ls (.inl a :: st) := by
  obtain ⟨hd, rfl⟩ := hd
  exact R_pure (fun hl h => by exact q_RL.cons (x32_r _) h.tl) (fun hl h p e s m args below meth c H locs lsR Q X kw => by exact lv_i2b X.1.1 X.1.2.1 hd rfl (W.eq (by simp only [List.map_cons, q_V, b_i2b, Int32.ofInt_toInt, Int64.ofInt_toInt]) kw)) kk
theorem R_i2s {a : Int} {pc' : Nat} (hd : q_d mm.2.1 pc (.i2s) 1 pc') (kk : RW l g mm R mc ms Post pc' S M k n ls (.inl (b_i2s a) :: st)) : RW l g mm R mc ms Post (pc) S M k n ls (.inl a :: st) := by
  obtain ⟨hd, rfl⟩ := hd
  exact R_pure (fun hl h => by exact q_RL.cons (x32_r _) h.tl) (fun hl h p e s m args below meth c H locs lsR Q X kw => by exact lv_i2s X.1.1 X.1.2.1 hd rfl (W.eq (by simp only [List.map_cons, q_V, b_i2s, Int32.ofInt_toInt, Int64.ofInt_toInt]) kw)) kk
theorem R_i2c {a : Int} {pc' : Nat} (hd : q_d mm.2.1 pc (.i2c) 1 pc') (kk : RW l g mm R mc ms Post pc' S M k n ls (.inl (b_i2c a) :: st)) : RW l g mm R mc ms Post (pc) S M k n ls (.inl a :: st) := by
  obtain ⟨hd, rfl⟩ := hd
  exact R_pure (fun hl h => by exact q_RL.cons (x32_r _) h.tl) (fun hl h p e s m args below meth c H locs lsR Q X kw => by exact lv_i2c X.1.1 X.1.2.1 hd rfl (W.eq (by simp only [List.map_cons, q_V, b_i2c, Int32.ofInt_toInt, Int64.ofInt_toInt]) kw)) kk
theorem ti_long {a : Int} (h : r32 a) : (Int32.ofInt a).toInt64 = Int64.ofInt a := by
  apply Int64.toInt_inj.1
  have h2 : r64 a := by unfold r32 at h; unfold r64; omega
  rw [Int32.toInt_toInt64, ti32 h, ti64 h2]
theorem r32_64 {a : Int} (h : r32 a) : r64 a := by unfold r32 at h; unfold r64; omega
theorem tl_int (a : Int) : (Int64.ofInt a).toInt32 = Int32.ofInt a := by simp
theorem R_i2l {a : Int} {pc' : Nat} (hd : q_d mm.2.1 pc (.i2l) 1 pc') (kk : RW l g mm R mc ms Post pc' S M k n ls (.inr (.inl (a)) :: st)) : RW l g mm R mc ms Post (pc) S M k n ls (.inl a :: st) := by
  obtain ⟨hd, rfl⟩ := hd
  exact R_pure (fun hl h => by exact q_RL.cons (r32_64 h.hd) h.tl) (fun hl h p e s m args below meth c H locs lsR Q X kw => by exact lv_i2l X.1.1 X.1.2.1 hd (ti_long h.hd) (W.eq (by simp [q_V]) kw)) kk
theorem R_l2i {a : Int} {pc' : Nat} (hd : q_d mm.2.1 pc (.l2i) 1 pc') (kk : RW l g mm R mc ms Post pc' S M k n ls (.inl (w32 a) :: st)) : RW l g mm R mc ms Post (pc) S M k n ls (.inr (.inl a) :: st) := by
  obtain ⟨hd, rfl⟩ := hd
  exact R_pure (fun hl h => by exact q_RL.cons (w32_r _) h.tl) (fun hl h p e s m args below meth c H locs lsR Q X kw => by exact lv_l2i X.1.1 X.1.2.1 hd (tl_int a) (W.eq (by simp [q_V, of_w32]) kw)) kk
theorem R_ladd {a b : Int} {pc' : Nat} (hd : q_d mm.2.1 pc (.ladd) 1 pc') (kk : RW l g mm R mc ms Post pc' S M k n ls (.inr (.inl (w64 (a + b))) :: st)) : RW l g mm R mc ms Post (pc) S M k n ls (.inr (.inl b) :: .inr (.inl a) :: st) := by
  obtain ⟨hd, rfl⟩ := hd
  exact R_pure (fun hl h => by exact q_RL.cons (w64_r _) h.tl.tl) (fun hl h p e s m args below meth c H locs lsR Q X kw => by exact lv_ladd X.1.1 X.1.2.1 hd (W.eq (by simp [q_V, of_w64, Int64.ofInt_add]) kw)) kk
theorem R_lmul {a b : Int} {pc' : Nat} (hd : q_d mm.2.1 pc (.lmul) 1 pc') (kk : RW l g mm R mc ms Post pc' S M k n ls (.inr (.inl (w64 (a * b))) :: st)) : RW l g mm R mc ms Post (pc) S M k n ls (.inr (.inl b) :: .inr (.inl a) :: st) := by
  obtain ⟨hd, rfl⟩ := hd
  exact R_pure (fun hl h => by exact q_RL.cons (w64_r _) h.tl.tl) (fun hl h p e s m args below meth c H locs lsR Q X kw => by exact lv_lmul X.1.1 X.1.2.1 hd (W.eq (by simp [q_V, of_w64, Int64.ofInt_mul]) kw)) kk
theorem R_ldiv {a b : Int} (hb : b ≠ 0) {pc' : Nat} (hd : q_d mm.2.1 pc (.ldiv) 1 pc') (kk : RW l g mm R mc ms Post pc' S M k n ls (.inr (.inl (b_ldiv a b)) :: st)) : RW l g mm R mc ms Post (pc) S M k n ls (.inr (.inl b) :: .inr (.inl a) :: st) := by
  obtain ⟨hd, rfl⟩ := hd
  exact R_pure (fun hl h => by exact q_RL.cons (x64_r _) h.tl.tl) (fun hl h p e s m args below meth c H locs lsR Q X kw => by exact lv_ldiv X.1.1 X.1.2.1 hd (by rw [l0, eq64 h.hd z64]; exact hb) (W.eq (by simp only [List.map_cons, q_V, b_ldiv, Int32.ofInt_toInt, Int64.ofInt_toInt]) kw)) kk
theorem R_lrem {a b : Int} (hb : b ≠ 0) {pc' : Nat} (hd : q_d mm.2.1 pc (.lrem) 1 pc') (kk : RW l g mm R mc ms Post pc' S M k n ls (.inr (.inl (b_lrem a b)) :: st)) : RW l g mm R mc ms Post (pc) S M k n ls (.inr (.inl b) :: .inr (.inl a) :: st) := by
  obtain ⟨hd, rfl⟩ := hd
  exact R_pure (fun hl h => by exact q_RL.cons (x64_r _) h.tl.tl) (fun hl h p e s m args below meth c H locs lsR Q X kw => by exact lv_lrem X.1.1 X.1.2.1 hd (by rw [l0, eq64 h.hd z64]; exact hb) (W.eq (by simp only [List.map_cons, q_V, b_lrem, Int32.ofInt_toInt, Int64.ofInt_toInt]) kw)) kk
def b_lcmp (a b : Int) : Int := if b < a then 1 else if a = b then 0 else -1
theorem b_lcmp_r (a b : Int) : r32 (b_lcmp a b) := by unfold b_lcmp r32; (repeat' split) <;> omega
theorem b_lcmp_of {a b : Int} (ha : r64 a) (hb : r64 b) : lg_cmp (Int64.ofInt a) (Int64.ofInt b) = Int32.ofInt (b_lcmp a b) := by
  unfold lg_cmp b_lcmp
  have h1 : (Int64.ofInt a > Int64.ofInt b) ↔ b < a := lt64 hb ha
  have h2 := eq64 ha hb
  by_cases c1 : b < a
  · rw [if_pos (h1.mpr c1), if_pos c1]; rfl
  · rw [if_neg (fun q => c1 (h1.mp q)), if_neg c1]
    by_cases c2 : a = b
    · rw [if_pos (h2.mpr c2), if_pos c2]; rfl
    · rw [if_neg (fun q => c2 (h2.mp q)), if_neg c2]; rfl
theorem R_lcmp {a b : Int} {pc' : Nat} (hd : q_d mm.2.1 pc (.lcmp) 1 pc') (kk : RW l g mm R mc ms Post pc' S M k n ls (.inl (b_lcmp a b) :: st)) : RW l g mm R mc ms Post (pc) S M k n ls (.inr (.inl b) :: .inr (.inl a) :: st) := by
  obtain ⟨hd, rfl⟩ := hd
  exact R_pure (fun hl h => by exact q_RL.cons (b_lcmp_r _ _) h.tl.tl) (fun hl h p e s m args below meth c H locs lsR Q X kw => by exact W.lcmp X.1.1 X.1.2.1 hd (W.eq (by rw [b_lcmp_of h.tl.hd h.hd]; rfl) kw)) kk
theorem R_iconst {z : Int} {pc' : Nat} (hd : q_d mm.2.1 pc (.iconst z) 1 pc') (hc : q_c z = true) (kk : RW l g mm R mc ms Post pc' S M k n ls (.inl z :: st)) : RW l g mm R mc ms Post (pc) S M k n ls (st) := by
  obtain ⟨hd, rfl⟩ := hd
  exact R_pure (fun hl h => by exact q_RL.cons (q_c_r hc) h) (fun hl h p e s m args below meth c H locs lsR Q X kw => by exact lv_iconst X.1.1 X.1.2.1 hd rfl kw) kk
theorem R_bipush {z : Int} {pc' : Nat} (hd : q_d mm.2.1 pc (.bipush z) 2 pc') (hc : q_c z = true) (hv : (Int8.ofInt z).toInt32 = Int32.ofInt z) (kk : RW l g mm R mc ms Post pc' S M k n ls (.inl z :: st)) : RW l g mm R mc ms Post (pc) S M k n ls (st) := by
  obtain ⟨hd, rfl⟩ := hd
  exact R_pure (fun hl h => by exact q_RL.cons (q_c_r hc) h) (fun hl h p e s m args below meth c H locs lsR Q X kw => by exact lv_bipush X.1.1 X.1.2.1 hd hv kw) kk
theorem R_sipush {z : Int} {pc' : Nat} (hd : q_d mm.2.1 pc (.sipush z) 3 pc') (hc : q_c z = true) (hv : (Int16.ofInt z).toInt32 = Int32.ofInt z) (kk : RW l g mm R mc ms Post pc' S M k n ls (.inl z :: st)) : RW l g mm R mc ms Post (pc) S M k n ls (st) := by
  obtain ⟨hd, rfl⟩ := hd
  exact R_pure (fun hl h => by exact q_RL.cons (q_c_r hc) h) (fun hl h p e s m args below meth c H locs lsR Q X kw => by exact lv_sipush X.1.1 X.1.2.1 hd hv kw) kk
theorem R_lconst {i : Fin 2} {z : Int} {pc' : Nat} (hd : q_d mm.2.1 pc (.lconst i) 1 pc') (hv : Int64.ofNat (i : Nat) = Int64.ofInt z) (hc : q_c z = true) (kk : RW l g mm R mc ms Post pc' S M k n ls (.inr (.inl z) :: st)) : RW l g mm R mc ms Post (pc) S M k n ls (st) := by
  obtain ⟨hd, rfl⟩ := hd
  exact R_pure (fun hl h => by exact q_RL.cons (r32_64 (q_c_r hc)) h) (fun hl h p e s m args below meth c H locs lsR Q X kw => by exact lv_lconst X.1.1 X.1.2.1 hd hv kw) kk
theorem R_ldc {z : Int} {index : Nat} (hw : q_in (.constant mm.1.cls index (Int32.ofInt z))) (hc : q_c z = true) {pc' : Nat} (hd : q_d mm.2.1 pc (.ldc index) 2 pc') (kk : RW l g mm R mc ms Post pc' S M k n ls (.inl z :: st)) : RW l g mm R mc ms Post (pc) S M k n ls (st) := by
  obtain ⟨hd, rfl⟩ := hd
  exact R_pure (fun hl h => by exact q_RL.cons (q_c_r hc) h) (fun hl h p e s m args below meth c H locs lsR Q X kw => by exact lv_ldc X.1.1 X.1.2.1 X.1.2.2.2.2.1 (X.1.2.2.2.2.2.1.use hw) hd kw) kk
theorem R_ldcw {z : Int} {index : Nat} (hw : q_in (.constant mm.1.cls index (Int32.ofInt z))) (hc : q_c z = true) {pc' : Nat} (hd : q_d mm.2.1 pc (.ldc_w index) 3 pc') (kk : RW l g mm R mc ms Post pc' S M k n ls (.inl z :: st)) : RW l g mm R mc ms Post (pc) S M k n ls (st) := by
  obtain ⟨hd, rfl⟩ := hd
  exact R_pure (fun hl h => by exact q_RL.cons (q_c_r hc) h) (fun hl h p e s m args below meth c H locs lsR Q X kw => by exact lv_ldcw X.1.1 X.1.2.1 X.1.2.2.2.2.1 (X.1.2.2.2.2.2.1.use hw) hd kw) kk
theorem R_ldc2 {z : Int} {index : Nat} (hw : q_in (.constantLong mm.1.cls index (Int64.ofInt z))) (hc : r64 z) {pc' : Nat} (hd : q_d mm.2.1 pc (.ldc2_w index) 3 pc') (kk : RW l g mm R mc ms Post pc' S M k n ls (.inr (.inl z) :: st)) : RW l g mm R mc ms Post (pc) S M k n ls (st) := by
  obtain ⟨hd, rfl⟩ := hd
  exact R_pure (fun hl h => by exact q_RL.cons hc h) (fun hl h p e s m args below meth c H locs lsR Q X kw => by exact lv_ldc2 X.1.1 X.1.2.1 X.1.2.2.2.2.1 (X.1.2.2.2.2.2.1.use hw) hd kw) kk
theorem R_ldcS (i : Nat) {q : String × Nat × String × List Int} (hq : q_str[i]? = some q) (ho : mm.1.cls = q.1) {pc' : Nat} (hd : q_d mm.2.1 pc (.ldc q.2.1) 2 pc') (kk : RW l g mm R mc ms Post pc' S M k n ls (.inr (.inr (some (g.2.2.2.1 (10 + i)))) :: st)) : RW l g mm R mc ms Post (pc) S M k n ls (st) := by
  obtain ⟨hd, rfl⟩ := hd
  exact R_pure (fun hl h => by exact q_RL.cons trivial h) (fun hl h p e s m args below meth c H locs lsR Q X kw => by exact va_ldcS X.1.1 X.1.2.1 (own := q.1) (by rw [← ho]; exact X.1.2.2.2.2.1) (X.2.2.2.2.1.2.2.2.2.2.2.2 i q hq) hd kw) kk
theorem R_dup {v : SV} (hv : q_cat v = 1) {pc' : Nat} (hd : q_d mm.2.1 pc (.dup) 1 pc') (kk : RW l g mm R mc ms Post pc' S M k n ls (v :: v :: st)) : RW l g mm R mc ms Post (pc) S M k n ls (v :: st) := by
  obtain ⟨hd, rfl⟩ := hd
  exact R_pure (fun hl h => by exact q_RL.cons h.hd h) (fun hl h p e s m args below meth c H locs lsR Q X kw => by exact lv_dup X.1.1 X.1.2.1 hd (by rw [q_cat_eq]; exact hv) kw) kk
theorem R_dup2 {v w : SV} (hv : q_cat v = 1) (hw : q_cat w = 1) {pc' : Nat} (hd : q_d mm.2.1 pc (.dup2) 1 pc') (kk : RW l g mm R mc ms Post pc' S M k n ls (v :: w :: v :: w :: st)) : RW l g mm R mc ms Post (pc) S M k n ls (v :: w :: st) := by
  obtain ⟨hd, rfl⟩ := hd
  exact R_pure (fun hl h => by exact q_RL.cons h.hd (q_RL.cons h.tl.hd h)) (fun hl h p e s m args below meth c H locs lsR Q X kw => by exact lv_dup2_11 X.1.1 X.1.2.1 hd (by rw [q_cat_eq]; exact hv) (by rw [q_cat_eq]; exact hw) kw) kk
theorem R_pop {v : SV} (hv : q_cat v = 1) {pc' : Nat} (hd : q_d mm.2.1 pc (.pop) 1 pc') (kk : RW l g mm R mc ms Post pc' S M k n ls (st)) : RW l g mm R mc ms Post (pc) S M k n ls (v :: st) := by
  obtain ⟨hd, rfl⟩ := hd
  exact R_pure (fun hl h => by exact h.tl) (fun hl h p e s m args below meth c H locs lsR Q X kw => by exact lv_pop X.1.1 X.1.2.1 hd (by rw [q_cat_eq]; exact hv) kw) kk
theorem R_goto {off : Int} {tgt : Nat} {pc' : Nat} (hd : q_d mm.2.1 pc (.goto off) 3 pc') (ht : (pc : Int) + off = (tgt : Int)) (kk : RW l g mm R mc ms Post (tgt) S M k n ls (st)) : RW l g mm R mc ms Post (pc) S M k n ls (st) := by
  obtain ⟨hd, rfl⟩ := hd
  exact R_pure (fun hl h => by exact h) (fun hl h p e s m args below meth c H locs lsR Q X kw => by exact lv_goto X.1.1 X.1.2.1 hd ht kw) kk
theorem R_iload {i : Nat} {x : Int} {pc' : Nat} (hd : q_d mm.2.1 pc (.iload i) 2 pc') (h : ls[i]? = some (some (.inl x))) (kk : RW l g mm R mc ms Post pc' S M k n ls (.inl x :: st)) : RW l g mm R mc ms Post (pc) S M k n ls (st) := by
  obtain ⟨hd, rfl⟩ := hd
  exact R_pure (fun hl hs => by exact q_RL.cons (hl.at h) hs) (fun hl hs p e s m args below meth c H locs lsR Q X kw => by exact lv_iload X.1.1 X.1.2.1 hd (X.2.2.2.2.2.2.2.2 i _ h) kw) kk
theorem R_iload_n {j : Fin 4} {i : Nat} {x : Int} {pc' : Nat} (hd : q_d mm.2.1 pc (.iload_n j) 1 pc') (hi : (j : Nat) = i) (h : ls[i]? = some (some (.inl x))) (kk : RW l g mm R mc ms Post pc' S M k n ls (.inl x :: st)) : RW l g mm R mc ms Post (pc) S M k n ls (st) := by
  obtain ⟨hd, rfl⟩ := hd
  exact R_pure (fun hl hs => by exact q_RL.cons (hl.at h) hs) (fun hl hs p e s m args below meth c H locs lsR Q X kw => by exact lv_iload_n X.1.1 X.1.2.1 hd hi (X.2.2.2.2.2.2.2.2 i _ h) kw) kk
theorem R_lload {i : Nat} {x : Int} {pc' : Nat} (hd : q_d mm.2.1 pc (.lload i) 2 pc') (h : ls[i]? = some (some (.inr (.inl x)))) (kk : RW l g mm R mc ms Post pc' S M k n ls (.inr (.inl x) :: st)) : RW l g mm R mc ms Post (pc) S M k n ls (st) := by
  obtain ⟨hd, rfl⟩ := hd
  exact R_pure (fun hl hs => by exact q_RL.cons (hl.at h) hs) (fun hl hs p e s m args below meth c H locs lsR Q X kw => by exact lv_lload X.1.1 X.1.2.1 hd (X.2.2.2.2.2.2.2.2 i _ h) kw) kk
theorem R_lload_n {j : Fin 4} {i : Nat} {x : Int} {pc' : Nat} (hd : q_d mm.2.1 pc (.lload_n j) 1 pc') (hi : (j : Nat) = i) (h : ls[i]? = some (some (.inr (.inl x)))) (kk : RW l g mm R mc ms Post pc' S M k n ls (.inr (.inl x) :: st)) : RW l g mm R mc ms Post (pc) S M k n ls (st) := by
  obtain ⟨hd, rfl⟩ := hd
  exact R_pure (fun hl hs => by exact q_RL.cons (hl.at h) hs) (fun hl hs p e s m args below meth c H locs lsR Q X kw => by exact lv_lload_n X.1.1 X.1.2.1 hd hi (X.2.2.2.2.2.2.2.2 i _ h) kw) kk
theorem R_aload {i : Nat} {x : Nat} {pc' : Nat} (hd : q_d mm.2.1 pc (.aload i) 2 pc') (h : ls[i]? = some (some (.inr (.inr (some x))))) (kk : RW l g mm R mc ms Post pc' S M k n ls (.inr (.inr (some x)) :: st)) : RW l g mm R mc ms Post (pc) S M k n ls (st) := by
  obtain ⟨hd, rfl⟩ := hd
  exact R_pure (fun hl hs => by exact q_RL.cons (hl.at h) hs) (fun hl hs p e s m args below meth c H locs lsR Q X kw => by exact lv_aload X.1.1 X.1.2.1 hd (X.2.2.2.2.2.2.2.2 i _ h) kw) kk
theorem R_aload_n {j : Fin 4} {i : Nat} {x : Nat} {pc' : Nat} (hd : q_d mm.2.1 pc (.aload_n j) 1 pc') (hi : (j : Nat) = i) (h : ls[i]? = some (some (.inr (.inr (some x))))) (kk : RW l g mm R mc ms Post pc' S M k n ls (.inr (.inr (some x)) :: st)) : RW l g mm R mc ms Post (pc) S M k n ls (st) := by
  obtain ⟨hd, rfl⟩ := hd
  exact R_pure (fun hl hs => by exact q_RL.cons (hl.at h) hs) (fun hl hs p e s m args below meth c H locs lsR Q X kw => by exact lv_aload_n X.1.1 X.1.2.1 hd hi (X.2.2.2.2.2.2.2.2 i _ h) kw) kk
theorem R_istore {i : Nat} {x : Int} {pc' : Nat} (hd : q_d mm.2.1 pc (.istore i) 2 pc') (hn : i < mm.2.2.1) (hi : i < ls.length) (hnl : q_nl ls i = true) {ls' : List (Option SV)} (he : (ls.set i (some (.inl x))) = ls') (kk : RW l g mm R mc ms Post pc' S M k n ls' (st)) : RW l g mm R mc ms Post (pc) S M k n ls (.inl x :: st) := by
  obtain ⟨hd, rfl⟩ := hd
  subst he
  intro hl hs hM p e s m args below meth c H locs lsR X
  exact lv_istore X.1.1 X.1.2.1 hd (X.2.2.2.2.2.2.has) hn rfl (fun lsR' hh => kk (hl.set hs.hd) hs.tl hM p e s m args below meth c H locs lsR' ⟨X.1, X.2.1, X.2.2.1, X.2.2.2.1, X.2.2.2.2.1, X.2.2.2.2.2.1, q_L.set1 hnl hi hh⟩)
theorem R_istore_n {j : Fin 4} {i : Nat} {x : Int} {pc' : Nat} (hd : q_d mm.2.1 pc (.istore_n j) 1 pc') (hj : (j : Nat) = i) (hn : i < mm.2.2.1) (hi : i < ls.length) (hnl : q_nl ls i = true) {ls' : List (Option SV)} (he : (ls.set i (some (.inl x))) = ls') (kk : RW l g mm R mc ms Post pc' S M k n ls' (st)) : RW l g mm R mc ms Post (pc) S M k n ls (.inl x :: st) := by
  obtain ⟨hd, rfl⟩ := hd
  subst he
  intro hl hs hM p e s m args below meth c H locs lsR X
  exact lv_istore_n X.1.1 X.1.2.1 hd hj (X.2.2.2.2.2.2.has) hn rfl (fun lsR' hh => kk (hl.set hs.hd) hs.tl hM p e s m args below meth c H locs lsR' ⟨X.1, X.2.1, X.2.2.1, X.2.2.2.1, X.2.2.2.2.1, X.2.2.2.2.2.1, q_L.set1 hnl hi hh⟩)
theorem R_astore {i : Nat} {x : Nat} {pc' : Nat} (hd : q_d mm.2.1 pc (.astore i) 2 pc') (hn : i < mm.2.2.1) (hi : i < ls.length) (hnl : q_nl ls i = true) {ls' : List (Option SV)} (he : (ls.set i (some (.inr (.inr (some x))))) = ls') (kk : RW l g mm R mc ms Post pc' S M k n ls' (st)) : RW l g mm R mc ms Post (pc) S M k n ls (.inr (.inr (some x)) :: st) := by
  obtain ⟨hd, rfl⟩ := hd
  subst he
  intro hl hs hM p e s m args below meth c H locs lsR X
  exact lv_astore X.1.1 X.1.2.1 hd (X.2.2.2.2.2.2.has) hn rfl (fun lsR' hh => kk (hl.set hs.hd) hs.tl hM p e s m args below meth c H locs lsR' ⟨X.1, X.2.1, X.2.2.1, X.2.2.2.1, X.2.2.2.2.1, X.2.2.2.2.2.1, q_L.set1 hnl hi hh⟩)
theorem R_astore_n {j : Fin 4} {i : Nat} {x : Nat} {pc' : Nat} (hd : q_d mm.2.1 pc (.astore_n j) 1 pc') (hj : (j : Nat) = i) (hn : i < mm.2.2.1) (hi : i < ls.length) (hnl : q_nl ls i = true) {ls' : List (Option SV)} (he : (ls.set i (some (.inr (.inr (some x))))) = ls') (kk : RW l g mm R mc ms Post pc' S M k n ls' (st)) : RW l g mm R mc ms Post (pc) S M k n ls (.inr (.inr (some x)) :: st) := by
  obtain ⟨hd, rfl⟩ := hd
  subst he
  intro hl hs hM p e s m args below meth c H locs lsR X
  exact lv_astore_n X.1.1 X.1.2.1 hd hj (X.2.2.2.2.2.2.has) hn rfl (fun lsR' hh => kk (hl.set hs.hd) hs.tl hM p e s m args below meth c H locs lsR' ⟨X.1, X.2.1, X.2.2.1, X.2.2.2.1, X.2.2.2.2.1, X.2.2.2.2.2.1, q_L.set1 hnl hi hh⟩)
theorem R_lstore {i : Nat} {x : Int} {pc' : Nat} (hd : q_d mm.2.1 pc (.lstore i) 2 pc') (hn : i + 1 < mm.2.2.1) (hi : i < ls.length) (hnl : q_nl ls i = true) {ls' : List (Option SV)} (he : ((ls.set i (some (.inr (.inl x)))).set (i + 1) none) = ls') (kk : RW l g mm R mc ms Post pc' S M k n ls' (st)) : RW l g mm R mc ms Post (pc) S M k n ls (.inr (.inl x) :: st) := by
  obtain ⟨hd, rfl⟩ := hd
  subst he
  intro hl hs hM p e s m args below meth c H locs lsR X
  exact lv_lstore X.1.1 X.1.2.1 hd (X.2.2.2.2.2.2.has) hn rfl (fun lsR' hh => kk (hl.set hs.hd).setN hs.tl hM p e s m args below meth c H locs lsR' ⟨X.1, X.2.1, X.2.2.1, X.2.2.2.1, X.2.2.2.2.1, X.2.2.2.2.2.1, q_L.set2 hnl hi hh⟩)
theorem R_lstore_n {j : Fin 4} {i : Nat} {x : Int} {pc' : Nat} (hd : q_d mm.2.1 pc (.lstore_n j) 1 pc') (hj : (j : Nat) = i) (hn : i + 1 < mm.2.2.1) (hi : i < ls.length) (hnl : q_nl ls i = true) {ls' : List (Option SV)} (he : ((ls.set i (some (.inr (.inl x)))).set (i + 1) none) = ls') (kk : RW l g mm R mc ms Post pc' S M k n ls' (st)) : RW l g mm R mc ms Post (pc) S M k n ls (.inr (.inl x) :: st) := by
  obtain ⟨hd, rfl⟩ := hd
  subst he
  intro hl hs hM p e s m args below meth c H locs lsR X
  exact lv_lstore_n X.1.1 X.1.2.1 hd hj (X.2.2.2.2.2.2.has) hn rfl (fun lsR' hh => kk (hl.set hs.hd).setN hs.tl hM p e s m args below meth c H locs lsR' ⟨X.1, X.2.1, X.2.2.1, X.2.2.2.1, X.2.2.2.2.1, X.2.2.2.2.2.1, q_L.set2 hnl hi hh⟩)
theorem R_iinc {i : Nat} {x d : Int} {pc' : Nat} (hd : q_d mm.2.1 pc (.iinc i d) 3 pc') (h : ls[i]? = some (some (.inl x))) (hn : i < mm.2.2.1) (hnl : q_nl ls i = true) {ls' : List (Option SV)} (he : ls.set i (some (.inl (w32 (x + d)))) = ls') (kk : RW l g mm R mc ms Post pc' S M k n ls' (st)) : RW l g mm R mc ms Post (pc) S M k n ls (st) := by
  obtain ⟨hd, rfl⟩ := hd
  subst he
  intro hl hs hM p e s m args below meth c H locs lsR X
  have hi : i < ls.length := (List.getElem?_eq_some_iff.mp h).1
  have hm : (i, Value.int (Int32.ofInt x)) ∈ q_lv 0 ls := (q_lv_mem ls 0 _).mpr ⟨i, _, h, by rw [Nat.zero_add]; rfl⟩
  obtain ⟨j, hj⟩ := List.getElem?_of_mem hm
  refine lv_iinc (v := Int32.ofInt (w32 (x + d))) X.1.1 X.1.2.1 hd (X.2.2.2.2.2.2.has) hj (by rw [of_w32, Int32.ofInt_add]) hn rfl (fun lsR' hh => kk (hl.set (w32_r _)) hs hM p e s m args below meth c H locs lsR' ⟨X.1, X.2.1, X.2.2.1, X.2.2.2.1, X.2.2.2.2.1, X.2.2.2.2.2.1, q_L.set1 hnl hi hh⟩)
theorem R_icmp_eq {a b : Int} {off : Int} {tgt : Nat} {pc' : Nat} (hd : q_d mm.2.1 pc (.if_icmp .eq off) 3 pc') (ht : (pc : Int) + off = (tgt : Int)) (kt : a = b → RW l g mm R mc ms Post (tgt) S M k n ls (st)) (kf : ¬ (a = b) → RW l g mm R mc ms Post pc' S M k n ls (st)) : RW l g mm R mc ms Post (pc) S M k n ls (.inl b :: .inl a :: st) := by
  obtain ⟨hd, rfl⟩ := hd
  intro hl hs hM p e s m args below meth c H locs lsR X
  have hc : Int32.ofInt a = Int32.ofInt b ↔ a = b := eq32 hs.tl.hd hs.hd
  exact lv_icmp_eq X.1.1 X.1.2.1 hd ht (fun q => kt (hc.mp q) hl hs.tl.tl hM p e s m args below meth c H locs lsR X) (fun q => kf (fun z => q (hc.mpr z)) hl hs.tl.tl hM p e s m args below meth c H locs lsR X)
theorem R_icmp_ne {a b : Int} {off : Int} {tgt : Nat} {pc' : Nat} (hd : q_d mm.2.1 pc (.if_icmp .ne off) 3 pc') (ht : (pc : Int) + off = (tgt : Int)) (kt : ¬ (a = b) → RW l g mm R mc ms Post (tgt) S M k n ls (st)) (kf : a = b → RW l g mm R mc ms Post pc' S M k n ls (st)) : RW l g mm R mc ms Post (pc) S M k n ls (.inl b :: .inl a :: st) := by
  obtain ⟨hd, rfl⟩ := hd
  intro hl hs hM p e s m args below meth c H locs lsR X
  have hc : _ ↔ a = b := eq32 hs.tl.hd hs.hd
  exact lv_icmp_ne X.1.1 X.1.2.1 hd ht (fun q => kt (fun z => q (hc.mpr z)) hl hs.tl.tl hM p e s m args below meth c H locs lsR X) (fun q => kf (hc.mp q) hl hs.tl.tl hM p e s m args below meth c H locs lsR X)
theorem R_icmp_lt {a b : Int} {off : Int} {tgt : Nat} {pc' : Nat} (hd : q_d mm.2.1 pc (.if_icmp .lt off) 3 pc') (ht : (pc : Int) + off = (tgt : Int)) (kt : a < b → RW l g mm R mc ms Post (tgt) S M k n ls (st)) (kf : ¬ (a < b) → RW l g mm R mc ms Post pc' S M k n ls (st)) : RW l g mm R mc ms Post (pc) S M k n ls (.inl b :: .inl a :: st) := by
  obtain ⟨hd, rfl⟩ := hd
  intro hl hs hM p e s m args below meth c H locs lsR X
  have hc : Int32.ofInt a < Int32.ofInt b ↔ a < b := lt32 hs.tl.hd hs.hd
  exact lv_icmp_lt X.1.1 X.1.2.1 hd ht (fun q => kt (hc.mp q) hl hs.tl.tl hM p e s m args below meth c H locs lsR X) (fun q => kf (fun z => q (hc.mpr z)) hl hs.tl.tl hM p e s m args below meth c H locs lsR X)
theorem R_icmp_ge {a b : Int} {off : Int} {tgt : Nat} {pc' : Nat} (hd : q_d mm.2.1 pc (.if_icmp .ge off) 3 pc') (ht : (pc : Int) + off = (tgt : Int)) (kt : ¬ a < b → RW l g mm R mc ms Post (tgt) S M k n ls (st)) (kf : a < b → RW l g mm R mc ms Post pc' S M k n ls (st)) : RW l g mm R mc ms Post (pc) S M k n ls (.inl b :: .inl a :: st) := by
  obtain ⟨hd, rfl⟩ := hd
  intro hl hs hM p e s m args below meth c H locs lsR X
  have hc : Int32.ofInt b ≤ Int32.ofInt a ↔ ¬ a < b := by rw [← lt32 hs.tl.hd hs.hd]; exact Int32.not_lt.symm
  exact lv_icmp_ge X.1.1 X.1.2.1 hd ht (fun q => kt (hc.mp q) hl hs.tl.tl hM p e s m args below meth c H locs lsR X) (fun q => kf (Decidable.of_not_not (fun z => q (hc.mpr z))) hl hs.tl.tl hM p e s m args below meth c H locs lsR X)
theorem R_icmp_gt {a b : Int} {off : Int} {tgt : Nat} {pc' : Nat} (hd : q_d mm.2.1 pc (.if_icmp .gt off) 3 pc') (ht : (pc : Int) + off = (tgt : Int)) (kt : b < a → RW l g mm R mc ms Post (tgt) S M k n ls (st)) (kf : ¬ (b < a) → RW l g mm R mc ms Post pc' S M k n ls (st)) : RW l g mm R mc ms Post (pc) S M k n ls (.inl b :: .inl a :: st) := by
  obtain ⟨hd, rfl⟩ := hd
  intro hl hs hM p e s m args below meth c H locs lsR X
  have hc : Int32.ofInt b < Int32.ofInt a ↔ b < a := lt32 hs.hd hs.tl.hd
  exact lv_icmp_gt X.1.1 X.1.2.1 hd ht (fun q => kt (hc.mp q) hl hs.tl.tl hM p e s m args below meth c H locs lsR X) (fun q => kf (fun z => q (hc.mpr z)) hl hs.tl.tl hM p e s m args below meth c H locs lsR X)
theorem R_icmp_le {a b : Int} {off : Int} {tgt : Nat} {pc' : Nat} (hd : q_d mm.2.1 pc (.if_icmp .le off) 3 pc') (ht : (pc : Int) + off = (tgt : Int)) (kt : ¬ b < a → RW l g mm R mc ms Post (tgt) S M k n ls (st)) (kf : b < a → RW l g mm R mc ms Post pc' S M k n ls (st)) : RW l g mm R mc ms Post (pc) S M k n ls (.inl b :: .inl a :: st) := by
  obtain ⟨hd, rfl⟩ := hd
  intro hl hs hM p e s m args below meth c H locs lsR X
  have hc : Int32.ofInt a ≤ Int32.ofInt b ↔ ¬ b < a := by rw [← lt32 hs.hd hs.tl.hd]; exact Int32.not_lt.symm
  exact lv_icmp_le X.1.1 X.1.2.1 hd ht (fun q => kt (hc.mp q) hl hs.tl.tl hM p e s m args below meth c H locs lsR X) (fun q => kf (Decidable.of_not_not (fun z => q (hc.mpr z))) hl hs.tl.tl hM p e s m args below meth c H locs lsR X)
theorem R_if_eq {a : Int} {off : Int} {tgt : Nat} {pc' : Nat} (hd : q_d mm.2.1 pc (.ifCond .eq off) 3 pc') (ht : (pc : Int) + off = (tgt : Int)) (kt : a = 0 → RW l g mm R mc ms Post (tgt) S M k n ls (st)) (kf : ¬ (a = 0) → RW l g mm R mc ms Post pc' S M k n ls (st)) : RW l g mm R mc ms Post (pc) S M k n ls (.inl a :: st) := by
  obtain ⟨hd, rfl⟩ := hd
  intro hl hs hM p e s m args below meth c H locs lsR X
  have hc : Int32.ofInt a = 0 ↔ a = 0 := by rw [i0]; exact eq32 hs.hd z32
  exact lv_if_eq X.1.1 X.1.2.1 hd ht (fun q => kt (hc.mp q) hl hs.tl hM p e s m args below meth c H locs lsR X) (fun q => kf (fun z => q (hc.mpr z)) hl hs.tl hM p e s m args below meth c H locs lsR X)
theorem R_if_lt {a : Int} {off : Int} {tgt : Nat} {pc' : Nat} (hd : q_d mm.2.1 pc (.ifCond .lt off) 3 pc') (ht : (pc : Int) + off = (tgt : Int)) (kt : a < 0 → RW l g mm R mc ms Post (tgt) S M k n ls (st)) (kf : ¬ (a < 0) → RW l g mm R mc ms Post pc' S M k n ls (st)) : RW l g mm R mc ms Post (pc) S M k n ls (.inl a :: st) := by
  obtain ⟨hd, rfl⟩ := hd
  intro hl hs hM p e s m args below meth c H locs lsR X
  have hc : Int32.ofInt a < 0 ↔ a < 0 := by rw [i0]; exact lt32 hs.hd z32
  exact lv_if_lt X.1.1 X.1.2.1 hd ht (fun q => kt (hc.mp q) hl hs.tl hM p e s m args below meth c H locs lsR X) (fun q => kf (fun z => q (hc.mpr z)) hl hs.tl hM p e s m args below meth c H locs lsR X)
theorem R_if_ge {a : Int} {off : Int} {tgt : Nat} {pc' : Nat} (hd : q_d mm.2.1 pc (.ifCond .ge off) 3 pc') (ht : (pc : Int) + off = (tgt : Int)) (kt : ¬ a < 0 → RW l g mm R mc ms Post (tgt) S M k n ls (st)) (kf : a < 0 → RW l g mm R mc ms Post pc' S M k n ls (st)) : RW l g mm R mc ms Post (pc) S M k n ls (.inl a :: st) := by
  obtain ⟨hd, rfl⟩ := hd
  intro hl hs hM p e s m args below meth c H locs lsR X
  have hc : 0 ≤ Int32.ofInt a ↔ ¬ a < 0 := by rw [i0, ← lt32 hs.hd z32]; exact Int32.not_lt.symm
  exact lv_if_ge X.1.1 X.1.2.1 hd ht (fun q => kt (hc.mp q) hl hs.tl hM p e s m args below meth c H locs lsR X) (fun q => kf (Decidable.of_not_not (fun z => q (hc.mpr z))) hl hs.tl hM p e s m args below meth c H locs lsR X)
theorem R_if_gt {a : Int} {off : Int} {tgt : Nat} {pc' : Nat} (hd : q_d mm.2.1 pc (.ifCond .gt off) 3 pc') (ht : (pc : Int) + off = (tgt : Int)) (kt : 0 < a → RW l g mm R mc ms Post (tgt) S M k n ls (st)) (kf : ¬ (0 < a) → RW l g mm R mc ms Post pc' S M k n ls (st)) : RW l g mm R mc ms Post (pc) S M k n ls (.inl a :: st) := by
  obtain ⟨hd, rfl⟩ := hd
  intro hl hs hM p e s m args below meth c H locs lsR X
  have hc : 0 < Int32.ofInt a ↔ 0 < a := by rw [i0]; exact lt32 z32 hs.hd
  exact lv_if_gt X.1.1 X.1.2.1 hd ht (fun q => kt (hc.mp q) hl hs.tl hM p e s m args below meth c H locs lsR X) (fun q => kf (fun z => q (hc.mpr z)) hl hs.tl hM p e s m args below meth c H locs lsR X)
theorem R_if_le {a : Int} {off : Int} {tgt : Nat} {pc' : Nat} (hd : q_d mm.2.1 pc (.ifCond .le off) 3 pc') (ht : (pc : Int) + off = (tgt : Int)) (kt : ¬ 0 < a → RW l g mm R mc ms Post (tgt) S M k n ls (st)) (kf : 0 < a → RW l g mm R mc ms Post pc' S M k n ls (st)) : RW l g mm R mc ms Post (pc) S M k n ls (.inl a :: st) := by
  obtain ⟨hd, rfl⟩ := hd
  intro hl hs hM p e s m args below meth c H locs lsR X
  have hc : Int32.ofInt a ≤ 0 ↔ ¬ 0 < a := by rw [i0, ← lt32 z32 hs.hd]; exact Int32.not_lt.symm
  exact lv_if_le X.1.1 X.1.2.1 hd ht (fun q => kt (hc.mp q) hl hs.tl hM p e s m args below meth c H locs lsR X) (fun q => kf (Decidable.of_not_not (fun z => q (hc.mpr z))) hl hs.tl hM p e s m args below meth c H locs lsR X)
theorem R_if_ne {a : Int} {off : Int} {tgt : Nat} {pc' : Nat} (hd : q_d mm.2.1 pc (.ifCond .ne off) 3 pc') (ht : (pc : Int) + off = (tgt : Int)) (kt : ¬ (a = 0) → RW l g mm R mc ms Post (tgt) S M k n ls (st)) (kf : a = 0 → RW l g mm R mc ms Post pc' S M k n ls (st)) : RW l g mm R mc ms Post (pc) S M k n ls (.inl a :: st) := by
  obtain ⟨hd, rfl⟩ := hd
  intro hl hs hM p e s m args below meth c H locs lsR X
  have hc : Int32.ofInt a = 0 ↔ a = 0 := by rw [i0]; exact eq32 hs.hd z32
  exact lv_if_ne X.1.1 X.1.2.1 hd ht (fun q => kt (fun z => q (hc.mpr z)) hl hs.tl hM p e s m args below meth c H locs lsR X) (fun q => kf (hc.mp q) hl hs.tl hM p e s m args below meth c H locs lsR X)
theorem R_tsIn {dflt lo hi : Int} {offs : Array Int} {len : Nat} {x c0 : Int} {off : Int} {tgt : Nat} {pc' : Nat} (hd : q_d mm.2.1 pc (.tableswitch dflt lo hi offs) len pc') (hx : x = c0) (h1 : ¬ c0 < lo) (h2 : ¬ hi < c0) (ho : offs[(c0 - lo).toNat]? = some off) (ht : (pc : Int) + off = (tgt : Int)) (kk : RW l g mm R mc ms Post (tgt) S M k n ls (st)) : RW l g mm R mc ms Post (pc) S M k n ls (.inl x :: st) := by
  obtain ⟨hd, rfl⟩ := hd
  subst hx
  intro hl hs hM p e s m args below meth c H locs lsR X
  exact lv_tableIn X.1.1 X.1.2.1 hd (by rw [ti32 hs.hd]; exact h1) (by rw [ti32 hs.hd]; exact h2) (by rw [ti32 hs.hd]; exact ho) ht (kk hl hs.tl hM p e s m args below meth c H locs lsR X)
theorem R_tsOut {dflt lo hi : Int} {offs : Array Int} {len : Nat} {x : Int} {tgt : Nat} {pc' : Nat} (hd : q_d mm.2.1 pc (.tableswitch dflt lo hi offs) len pc') (h : x < lo ∨ hi < x) (ht : (pc : Int) + dflt = (tgt : Int)) (kk : RW l g mm R mc ms Post (tgt) S M k n ls (st)) : RW l g mm R mc ms Post (pc) S M k n ls (.inl x :: st) := by
  obtain ⟨hd, rfl⟩ := hd
  intro hl hs hM p e s m args below meth c H locs lsR X
  exact lv_tableOut X.1.1 X.1.2.1 hd (by rw [ti32 hs.hd]; exact h) ht (kk hl hs.tl hM p e s m args below meth c H locs lsR X)
theorem R_lookup {dflt : Int} {ps : Array (Int × Int)} {len : Nat} {x : Int} {off : Int} {tgt : Nat} {pc' : Nat} (hd : q_d mm.2.1 pc (.lookupswitch dflt ps) len pc') (hp : (ps.toList.zip (ps.toList.drop 1)).all (fun (a, next) => a.1 < next.1) = true) (ho : Op.lookupswitch.offset ps.toList dflt x = off) (ht : (pc : Int) + off = (tgt : Int)) (kk : RW l g mm R mc ms Post (tgt) S M k n ls (st)) : RW l g mm R mc ms Post (pc) S M k n ls (.inl x :: st) := by
  obtain ⟨hd, rfl⟩ := hd
  intro hl hs hM p e s m args below meth c H locs lsR X
  exact lv_lookup X.1.1 X.1.2.1 hd hp (by rw [ti32 hs.hd]; exact ho) ht (kk hl hs.tl hM p e s m args below meth c H locs lsR X)
end ROWS
end
section
/-! fields, rows of numbers, new cells, calls, ends -/
def q_cg (ci : Nat) (C : String) (T : u_T) (N : Nat) (ty : Nat → FieldType) : Prop := q_cl[ci]? = some (C, T, N) ∧ (∀ w ∈ u_ws C T N, q_in w) ∧ (∀ k, k < N → parseFieldDescriptor (T k).2.2.1 = some (ty k)) ∧ (∀ a, a < N → ∀ b, b < N → a ≠ b → (T a).2.1 ≠ (T b).2.1)
def q_fk (own : String) (index : Nat) (t : String × String × String × Bool) : Prop := q_in (.fieldLink own index t.1 t.2.1 t.2.2.1) ∨ ∃ host, q_in (.fieldLinkNest own index t.1 t.2.1 t.2.2.1 host)
theorem mup_self (M : Mem) (k : Nat) : mup M k (M k) = M := by
  funext i
  unfold mup
  split
  · next h => rw [h]
  · rfl
theorem q_W_put {cI : ClassId} {M : Mem} {S : SW} {i a ci j : Nat} {fs : List (Option (Option Nat))} (v : Int) (hS : S[i]? = some (a, .inr (ci, fs))) (hf : fs[j]? = some none) :
    (q_W cI M 0 S).set i (a, .inr (ci, (q_F (M i) 0 fs).set j (.int (Int32.ofInt v)))) = q_W cI (mset M i j v) 0 S := by
  rw [q_F_set v hf, mset_mup]
  have h := q_W_set (cI := cI) (M := M) (c' := .inr (ci, fs)) (fun x => if x = j then v else M i x) hS
  rw [q_set_same hS] at h
  exact h
theorem q_W_putR {cI : ClassId} {M : Mem} {S : SW} {i a ci j : Nat} {fs : List (Option (Option Nat))} (r : Option Nat) (hS : S[i]? = some (a, .inr (ci, fs))) (hf : j < fs.length) :
    (q_W cI M 0 S).set i (a, .inr (ci, (q_F (M i) 0 fs).set j (q_V (.inr (.inr r))))) = q_W cI M 0 (S.set i (a, .inr (ci, fs.set j (some r)))) := by
  rw [q_F_setR r hf]
  have h := q_W_set (cI := cI) (M := M) (c' := .inr (ci, fs.set j (some r))) (M i) hS
  rw [mup_self] at h
  exact h
theorem q_W_upd {cI : ClassId} {M : Mem} {S : SW} {i a N : Nat} (x : Nat) (v : Int) (hS : S[i]? = some (a, .inl N)) :
    (q_W cI M 0 S).set i (a, .inl (cI, N, .inl (upd (fun j => Int32.ofInt (M i j)) x (Int32.ofInt v)))) = q_W cI (mset M i x v) 0 S := by
  have e : upd (fun j => Int32.ofInt (M i j)) x (Int32.ofInt v) = fun j => Int32.ofInt (if j = x then v else M i j) := by
    funext j
    unfold upd
    split <;> rfl
  rw [e, mset_mup]
  have h := q_W_set (cI := cI) (M := M) (c' := .inl N) (fun j => if j = x then v else M i j) hS
  rw [q_set_same hS] at h
  exact h
section CELLS
variable {l : Launch} {g : GG} {mm : MM} {R : Room} {mc ms : Nat} {Post : PP} {pc : Nat} {S : SW} {M : Mem} {k n : Nat} {ls : List (Option SV)} {st : List SV}
theorem R_getI {ci N : Nat} {C : String} {T : u_T} {ty : Nat → FieldType} (hC : q_cg ci C T N ty) (i : Nat) {a : Nat} {fs : List (Option (Option Nat))} (hS : S[i]? = some (a, .inr (ci, fs))) (j : Nat) (hj : j < N) (hf : fs[j]? = some none) {index : Nat} (hw : q_fk mm.1.cls index (T j)) {pc' : Nat} (hd : q_d mm.2.1 pc (.getfield index) 3 pc')
    (kk : RW l g mm R mc ms Post pc' S M k n ls (.inl (M i j) :: st)) : RW l g mm R mc ms Post pc S M k n ls (.inr (.inr (some a)) :: st) := by
  obtain ⟨hd, rfl⟩ := hd
  intro hl hs hM p e s m args below meth c H locs lsR X
  have kw := kk hl (q_RL.cons (hM i j) hs.tl) hM p e s m args below meth c H locs lsR X
  have he := q_W_at (cI := g.2.2.1) (M := M) hS
  have hv : (q_F (M i) 0 fs)[j]? = some (.int (Int32.ofInt (M i j))) := by rw [q_F_get, hf]; simp
  rcases hw with hw | ⟨host, hw⟩
  · exact va_get (own := mm.1.cls) (ref := (T j).1) (Ts := u_ws C T N) X.1.1 X.1.2.1 (fun w h => X.1.2.2.2.2.2.1.use (hC.2.1 w h)) (fun w h => h) X.1.2.2.2.2.1 X.2.2.2.1 X.2.2.1.1 i he hC.1 j hj (X.1.2.2.2.2.2.1.use hw) (fun _ h => h) hv hd kw
  · exact va_getN (own := mm.1.cls) (ref := (T j).1) (Ts := u_ws C T N) X.1.1 X.1.2.1 (fun w h => X.1.2.2.2.2.2.1.use (hC.2.1 w h)) (fun w h => h) X.1.2.2.2.2.1 X.2.2.2.1 X.2.2.1.1 i he hC.1 j hj (X.1.2.2.2.2.2.1.use hw) (fun _ h => h) hv hd kw
theorem R_getR {ci N : Nat} {C : String} {T : u_T} {ty : Nat → FieldType} (hC : q_cg ci C T N ty) (i : Nat) {a : Nat} {fs : List (Option (Option Nat))} (hS : S[i]? = some (a, .inr (ci, fs))) (j : Nat) (hj : j < N) {r : Option Nat} (hf : fs[j]? = some (some r)) {index : Nat} (hw : q_fk mm.1.cls index (T j)) {pc' : Nat} (hd : q_d mm.2.1 pc (.getfield index) 3 pc')
    (kk : RW l g mm R mc ms Post pc' S M k n ls (.inr (.inr r) :: st)) : RW l g mm R mc ms Post pc S M k n ls (.inr (.inr (some a)) :: st) := by
  obtain ⟨hd, rfl⟩ := hd
  intro hl hs hM p e s m args below meth c H locs lsR X
  have kw := kk hl (q_RL.cons trivial hs.tl) hM p e s m args below meth c H locs lsR X
  have he := q_W_at (cI := g.2.2.1) (M := M) hS
  have hv : (q_F (M i) 0 fs)[j]? = some (q_V (.inr (.inr r))) := by rw [q_F_get, hf]; rcases r with _ | r <;> rfl
  rcases hw with hw | ⟨host, hw⟩
  · exact va_get (own := mm.1.cls) (ref := (T j).1) (Ts := u_ws C T N) X.1.1 X.1.2.1 (fun w h => X.1.2.2.2.2.2.1.use (hC.2.1 w h)) (fun w h => h) X.1.2.2.2.2.1 X.2.2.2.1 X.2.2.1.1 i he hC.1 j hj (X.1.2.2.2.2.2.1.use hw) (fun _ h => h) hv hd kw
  · exact va_getN (own := mm.1.cls) (ref := (T j).1) (Ts := u_ws C T N) X.1.1 X.1.2.1 (fun w h => X.1.2.2.2.2.2.1.use (hC.2.1 w h)) (fun w h => h) X.1.2.2.2.2.1 X.2.2.2.1 X.2.2.1.1 i he hC.1 j hj (X.1.2.2.2.2.2.1.use hw) (fun _ h => h) hv hd kw
theorem R_putI {ci N : Nat} {C : String} {T : u_T} {ty : Nat → FieldType} (hC : q_cg ci C T N ty) (i : Nat) {a : Nat} {fs : List (Option (Option Nat))} (hS : S[i]? = some (a, .inr (ci, fs))) (j : Nat) (hj : j < N) (hf : fs[j]? = some none) {v : Int} (hty : narrow (ty j) (.int (Int32.ofInt v)) = .int (Int32.ofInt v)) (hfit : fits (ty j) (.int (Int32.ofInt v)) = true) (hfin : (T j).2.2.2 = false) {index : Nat} (hw : q_fk mm.1.cls index (T j)) {pc' : Nat} (hd : q_d mm.2.1 pc (.putfield index) 3 pc')
    (kk : RW l g mm R mc ms Post pc' S (mset M i j v) k n ls st) : RW l g mm R mc ms Post pc S M k n ls (.inl v :: .inr (.inr (some a)) :: st) := by
  obtain ⟨hd, rfl⟩ := hd
  intro hl hs hM p e s m args below meth c H locs lsR X
  have he := q_W_at (cI := g.2.2.1) (M := M) hS
  have key : ∀ (H1 : Heap) (locs1 : List Loc), va_P g.2.1 q_cl ((q_W g.2.2.1 M 0 S).set i (a, .inr (ci, (q_F (M i) 0 fs).set j (.int (Int32.ofInt v))))) H1 → va_D (q_A g) ((q_W g.2.2.1 M 0 S).set i (a, .inr (ci, (q_F (M i) 0 fs).set j (.int (Int32.ofInt v))))) → va_S (q_A g) s.heap H1 locs1 → W p l e R s m args below meth c H1 locs1 k n (MQ below (q_Q g Post) args s mc ms (q_A g)) (F0 m (pc + 3) lsR (st.map q_V)) := by
    intro H1 locs1 h1 h2 h3
    rw [q_W_put v hS hf] at h1 h2
    exact kk hl hs.tl.tl (hM.set hs.hd) p e s m args below meth c H1 locs1 lsR ⟨X.1, h3, ⟨h1, h2⟩, X.2.2.2.1, X.2.2.2.2.1, X.2.2.2.2.2.1, X.2.2.2.2.2.2⟩
  have hl2 : j < (q_F (M i) 0 fs).length := by rw [q_F_len]; exact (List.getElem?_eq_some_iff.mp hf).1
  rcases hw with hw | ⟨host, hw⟩
  · exact va_put (own := mm.1.cls) (ref := (T j).1) (Ts := u_ws C T N) X.1.1 X.1.2.1 (fun w h => X.1.2.2.2.2.2.1.use (hC.2.1 w h)) (fun w h => h) ty hC.2.2.1 hC.2.2.2 X.1.2.2.2.2.1 X.2.2.2.1 X.2.2.1.1 X.2.2.1.2 X.2.1 i he hC.1 j hj (X.1.2.2.2.2.2.1.use hw) (fun _ h => h) hfin (hC.2.2.1 j hj) hty hfit hl2 hd key
  · exact va_putN (own := mm.1.cls) (ref := (T j).1) (Ts := u_ws C T N) X.1.1 X.1.2.1 (fun w h => X.1.2.2.2.2.2.1.use (hC.2.1 w h)) (fun w h => h) ty hC.2.2.1 hC.2.2.2 X.1.2.2.2.2.1 X.2.2.2.1 X.2.2.1.1 X.2.2.1.2 X.2.1 i he hC.1 j hj (X.1.2.2.2.2.2.1.use hw) (fun _ h => h) hfin (hC.2.2.1 j hj) hty hfit hl2 hd key
theorem R_putR {ci N : Nat} {C : String} {T : u_T} {ty : Nat → FieldType} (hC : q_cg ci C T N ty) (i : Nat) {a : Nat} {fs : List (Option (Option Nat))} (hS : S[i]? = some (a, .inr (ci, fs))) (j : Nat) (hj : j < N) (hf : j < fs.length) {r : Nat} (hty : narrow (ty j) (.ref r) = .ref r) (hfit : fits (ty j) (.ref r) = true) (hfin : (T j).2.2.2 = true) (hin : mm.1.name = "<init>") (hdecl : (T j).1 = mm.1.cls) {index : Nat} (hw : q_in (.fieldLink mm.1.cls index (T j).1 (T j).2.1 (T j).2.2.1)) {pc' : Nat} (hd : q_d mm.2.1 pc (.putfield index) 3 pc') {S' : SW} (hS' : S.set i (a, .inr (ci, fs.set j (some (some r)))) = S')
    (kk : RW l g mm R mc ms Post pc' S' M k n ls st) : RW l g mm R mc ms Post pc S M k n ls (.inr (.inr (some r)) :: .inr (.inr (some a)) :: st) := by
  obtain ⟨hd, rfl⟩ := hd
  subst hS'
  intro hl hs hM p e s m args below meth c H locs lsR X
  have he := q_W_at (cI := g.2.2.1) (M := M) hS
  have hl2 : j < (q_F (M i) 0 fs).length := by rw [q_F_len]; exact hf
  refine va_putF (own := mm.1.cls) (ref := (T j).1) (Ts := u_ws C T N) X.1.1 X.1.2.1 (fun w h => X.1.2.2.2.2.2.1.use (hC.2.1 w h)) (fun w h => h) ty hC.2.2.1 hC.2.2.2 X.1.2.2.2.2.1 X.2.2.2.1 X.2.2.1.1 X.2.2.1.2 X.2.1 i he hC.1 j hj (X.1.2.2.2.2.2.1.use hw) (fun _ h => h) hfin (X.1.2.2.2.2.2.2.2.trans hin) hdecl (hC.2.2.1 j hj) hty hfit hl2 hd ?_
  intro H1 locs1 h1 h2 h3
  have e1 := q_W_putR (cI := g.2.2.1) (M := M) (some r) hS hf
  rw [e1] at h1 h2
  exact kk hl hs.tl.tl hM p e s m args below meth c H1 locs1 lsR ⟨X.1, h3, ⟨h1, h2⟩, X.2.2.2.1, X.2.2.2.2.1, X.2.2.2.2.2.1, X.2.2.2.2.2.2⟩
theorem R_iald (i : Nat) {a N : Nat} (hS : S[i]? = some (a, .inl N)) {x : Int} (hin : 0 ≤ x ∧ x < N) {pc' : Nat} (hd : q_d mm.2.1 pc (.iaload) 1 pc')
    (kk : RW l g mm R mc ms Post pc' S M k n ls (.inl (M i x.toNat) :: st)) : RW l g mm R mc ms Post pc S M k n ls (.inl x :: .inr (.inr (some a)) :: st) := by
  obtain ⟨hd, rfl⟩ := hd
  intro hl hs hM p e s m args below meth c H locs lsR X
  have kw := kk hl (q_RL.cons (hM i _) hs.tl.tl) hM p e s m args below meth c H locs lsR X
  have he := q_W_at (cI := g.2.2.1) (M := M) hS
  refine va_iald X.1.1 X.1.2.1 X.2.2.2.1 X.2.2.1.1 i 0 he rfl (q_in_vp hs.hd hin) hd ?_
  rw [q_pos hin.1 hs.hd]
  exact kw
theorem R_iast (i : Nat) {a N : Nat} (hS : S[i]? = some (a, .inl N)) {x v : Int} (hin : 0 ≤ x ∧ x < N) {pc' : Nat} (hd : q_d mm.2.1 pc (.iastore) 1 pc')
    (kk : RW l g mm R mc ms Post pc' S (mset M i x.toNat v) k n ls st) : RW l g mm R mc ms Post pc S M k n ls (.inl v :: .inl x :: .inr (.inr (some a)) :: st) := by
  obtain ⟨hd, rfl⟩ := hd
  intro hl hs hM p e s m args below meth c H locs lsR X
  have he := q_W_at (cI := g.2.2.1) (M := M) hS
  refine va_iast X.1.1 X.1.2.1 X.2.2.2.1 X.2.2.1.1 X.2.2.1.2 X.2.1 i 0 he rfl (q_in_vp hs.tl.hd hin) hd ?_
  intro H1 locs1 h1 h2 h3
  rw [q_pos hin.1 hs.tl.hd, q_W_upd x.toNat v hS] at h1 h2
  exact kk hl hs.tl.tl.tl (hM.set hs.hd) p e s m args below meth c H1 locs1 lsR ⟨X.1, h3, ⟨h1, h2⟩, X.2.2.2.1, X.2.2.2.2.1, X.2.2.2.2.2.1, X.2.2.2.2.2.2⟩
theorem q_nat32 {N : Nat} (h : N < 2147483648) : r32 (N : Int) := by unfold r32; omega
theorem R_alen (i : Nat) {a N : Nat} (hS : S[i]? = some (a, .inl N)) (hN : N < 2147483648) {pc' : Nat} (hd : q_d mm.2.1 pc (.arraylength) 1 pc')
    (kk : RW l g mm R mc ms Post pc' S M k n ls (.inl (N : Int) :: st)) : RW l g mm R mc ms Post pc S M k n ls (.inr (.inr (some a)) :: st) := by
  obtain ⟨hd, rfl⟩ := hd
  intro hl hs hM p e s m args below meth c H locs lsR X
  have kw := kk hl (q_RL.cons (q_nat32 hN) hs.tl) hM p e s m args below meth c H locs lsR X
  have he := q_W_at (cI := g.2.2.1) (M := M) hS
  exact va_alen X.1.1 X.1.2.1 X.2.2.2.1 X.2.2.1.1 i 0 he rfl (Int32.ofInt_eq_ofNat (n := N)).symm hd kw
/-- the frozen rows -/
theorem R_ialdF (j : Nat) (hj : j < 3) {x : Int} (hin : 0 ≤ x ∧ x < q_fl g j) {pc' : Nat} (hd : q_d mm.2.1 pc (.iaload) 1 pc')
    (kk : RW l g mm R mc ms Post pc' S M k n ls (.inl (q_ff g j x.toNat) :: st)) : RW l g mm R mc ms Post pc S M k n ls (.inl x :: .inr (.inr (some (g.2.2.2.1 j))) :: st) := by
  obtain ⟨hd, rfl⟩ := hd
  intro hl hs hM p e s m args below meth c H locs lsR X
  have kw := kk hl (q_RL.cons (X.2.2.2.2.1.1.1 j _) hs.tl.tl) hM p e s m args below meth c H locs lsR X
  exact va_ti X.1.1 X.1.2.1 (X.2.2.2.2.1.2.1 j hj) X.2.1 (q_in_vp hs.hd hin) (by rw [q_pos hin.1 hs.hd]; rfl) hd kw
theorem R_alenF (j : Nat) (hj : j < 3) {pc' : Nat} (hd : q_d mm.2.1 pc (.arraylength) 1 pc')
    (kk : RW l g mm R mc ms Post pc' S M k n ls (.inl (q_fl g j : Int) :: st)) : RW l g mm R mc ms Post pc S M k n ls (.inr (.inr (some (g.2.2.2.1 j))) :: st) := by
  obtain ⟨hd, rfl⟩ := hd
  intro hl hs hM p e s m args below meth c H locs lsR X
  have hN : q_fl g j < 2147483648 := by
    have h := X.2.2.2.2.1.1.2
    rcases j with _ | j
    · show g.2.2.2.2.2.1 < _; omega
    · show 6 < _; omega
  have kw := kk hl (q_RL.cons (q_nat32 hN) hs.tl) hM p e s m args below meth c H locs lsR X
  exact va_tlen X.1.1 X.1.2.1 (X.2.2.2.2.1.2.1 j hj) X.2.1 (Int32.ofInt_eq_ofNat (n := q_fl g j)).symm hd kw
theorem R_gets {C nm d : String} {v : SV} (sel : ∀ (s : State) (H : Heap), q_Z g s H → va_Z C nm d (q_V v) (q_A g) s H) (hv : q_R v) {index : Nat} (hw : q_in (.fieldLink mm.1.cls index C nm d) ∨ ∃ host, q_in (.fieldLinkNest mm.1.cls index C nm d host)) {pc' : Nat} (hd : q_d mm.2.1 pc (.getstatic index) 3 pc')
    (kk : RW l g mm R mc ms Post pc' S M k n ls (v :: st)) : RW l g mm R mc ms Post pc S M k n ls st := by
  obtain ⟨hd, rfl⟩ := hd
  intro hl hs hM p e s m args below meth c H locs lsR X
  have kw := kk hl (q_RL.cons hv hs) hM p e s m args below meth c H locs lsR X
  rcases hw with hw | ⟨host, hw⟩
  · exact va_gets X.1.1 X.1.2.1 (sel s s.heap X.2.2.2.2.1) X.2.1 X.1.2.2.2.2.1 (X.1.2.2.2.2.2.1.use hw) (fun _ h => h) hd kw
  · exact va_getsN X.1.1 X.1.2.1 (sel s s.heap X.2.2.2.2.1) X.2.1 X.1.2.2.2.2.1 (X.1.2.2.2.2.2.1.use hw) (fun _ h => h) hd kw
theorem sel_T (s : State) (H : Heap) (h : q_Z g s H) : va_Z "CardNobodyReads" "TURNS" "[I" (q_V (.inr (.inr (some (g.2.2.2.1 1))))) (q_A g) s H := h.2.2.1
theorem sel_K (s : State) (H : Heap) (h : q_Z g s H) : va_Z "CardNobodyReads" "KIND_ABOVE" "[I" (q_V (.inr (.inr (some (g.2.2.2.1 2))))) (q_A g) s H := h.2.2.2.1
theorem sel_C (s : State) (H : Heap) (h : q_Z g s H) : va_Z "java/lang/String" "COMPACT_STRINGS" "Z" (q_V (.inl 1)) (q_A g) s H := h.2.2.2.2.1
theorem sel_F (s : State) (H : Heap) (h : q_Z g s H) : va_Z "jdk/internal/util/Preconditions" "SIOOBE_FORMATTER" "Ljava/util/function/BiFunction;" (q_V (.inr (.inr g.2.2.2.2.1))) (q_A g) s H := h.2.2.2.2.2.1
theorem q_sB_get (i j : Nat) : (q_sB.getD i []).getD j 0 = Int32.ofInt ((q_sb i).getD j 0) := by
  unfold q_sB q_sb
  rw [List.getD_eq_getElem?_getD, List.getD_eq_getElem?_getD, List.getD_eq_getElem?_getD, List.getD_eq_getElem?_getD, List.getElem?_map, List.getElem?_map]
  cases q_str[i]? with
  | none => rfl
  | some q =>
    simp only [Option.map_some, Option.getD_some, List.getElem?_map]
    cases q.2.2.2[j]? <;> rfl
theorem q_sb_r (i j : Nat) : 0 ≤ (q_sb i).getD j 0 ∧ (q_sb i).getD j 0 < 128 := by
  have h : ∀ q ∈ q_str, ∀ b ∈ q.2.2.2, 0 ≤ b ∧ b < 128 := by decide +kernel
  unfold q_sb
  rw [List.getD_eq_getElem?_getD, List.getD_eq_getElem?_getD, List.getElem?_map]
  cases hq : q_str[i]? with
  | none => simp
  | some q =>
    simp only [Option.map_some, Option.getD_some]
    cases hb : q.2.2.2[j]? with
    | none => simp
    | some b => exact h q (List.mem_of_getElem? hq) b (List.mem_of_getElem? hb)
theorem R_bald (i : Nat) (hi : i < 14) {x : Int} (hin : 0 ≤ x ∧ x < (q_sl.getD i 0 : Nat)) {pc' : Nat} (hd : q_d mm.2.1 pc (.baload) 1 pc')
    (kk : RW l g mm R mc ms Post pc' S M k n ls (.inl ((q_sb i).getD x.toNat 0) :: st)) : RW l g mm R mc ms Post pc S M k n ls (.inl x :: .inr (.inr (some (g.2.2.2.1 (30 + i)))) :: st) := by
  obtain ⟨hd, rfl⟩ := hd
  intro hl hs hM p e s m args below meth c H locs lsR X
  have hr : r32 ((q_sb i).getD x.toNat 0) := by have := q_sb_r i x.toNat; unfold r32; omega
  have kw := kk hl (q_RL.cons hr hs.tl.tl) hM p e s m args below meth c H locs lsR X
  exact va_tb X.1.1 X.1.2.1 (X.2.2.2.2.1.2.2.2.2.2.2.1.1 i hi).2.2.2 X.2.1 (q_in_vp hs.hd hin) (by rw [q_pos hin.1 hs.hd]; show Value.int _ = _; rw [q_sB_get]; rfl) hd kw
theorem R_blen (i : Nat) (hi : i < 14) {pc' : Nat} (hd : q_d mm.2.1 pc (.arraylength) 1 pc')
    (kk : RW l g mm R mc ms Post pc' S M k n ls (.inl ((q_sl.getD i 0 : Nat) : Int) :: st)) : RW l g mm R mc ms Post pc S M k n ls (.inr (.inr (some (g.2.2.2.1 (30 + i)))) :: st) := by
  obtain ⟨hd, rfl⟩ := hd
  intro hl hs hM p e s m args below meth c H locs lsR X
  have hN : ∀ i, i < 14 → q_sl.getD i 0 < 2147483648 := by decide +kernel
  have kw := kk hl (q_RL.cons (q_nat32 (hN i hi)) hs.tl) hM p e s m args below meth c H locs lsR X
  exact va_tlen X.1.1 X.1.2.1 (X.2.2.2.2.1.2.2.2.2.2.2.1.1 i hi).2.2.2 X.2.1 (Int32.ofInt_eq_ofNat (n := q_sl.getD i 0)).symm hd kw
theorem R_strV (i : Nat) (hi : i < 14) {index : Nat} (hw : q_in (.fieldLink mm.1.cls index "java/lang/String" "value" "[B")) {pc' : Nat} (hd : q_d mm.2.1 pc (.getfield index) 3 pc')
    (kk : RW l g mm R mc ms Post pc' S M k n ls (.inr (.inr (some (g.2.2.2.1 (30 + i)))) :: st)) : RW l g mm R mc ms Post pc S M k n ls (.inr (.inr (some (g.2.2.2.1 (10 + i)))) :: st) := by
  obtain ⟨hd, rfl⟩ := hd
  intro hl hs hM p e s m args below meth c H locs lsR X
  have kw := kk hl (q_RL.cons trivial hs.tl) hM p e s m args below meth c H locs lsR X
  exact vk_getf X.1.1 X.1.2.1 (X.2.2.2.2.1.2.2.2.2.2.2.1.1 i hi).2.2.1 X.2.1 X.1.2.2.2.2.1 (X.1.2.2.2.2.2.1.use hw) (fun _ h => h) hd kw
theorem R_strC (i : Nat) (hi : i < 14) {index : Nat} (hw : q_in (.fieldLink mm.1.cls index "java/lang/String" "coder" "B")) {pc' : Nat} (hd : q_d mm.2.1 pc (.getfield index) 3 pc')
    (kk : RW l g mm R mc ms Post pc' S M k n ls (.inl 0 :: st)) : RW l g mm R mc ms Post pc S M k n ls (.inr (.inr (some (g.2.2.2.1 (10 + i)))) :: st) := by
  obtain ⟨hd, rfl⟩ := hd
  intro hl hs hM p e s m args below meth c H locs lsR X
  have kw := kk hl (q_RL.cons z32 hs.tl) hM p e s m args below meth c H locs lsR X
  exact vk_getf X.1.1 X.1.2.1 (X.2.2.2.2.1.2.2.2.2.2.2.1.1 i hi).2.1 X.2.1 X.1.2.2.2.2.1 (X.1.2.2.2.2.2.1.use hw) (fun _ h => h) hd kw
theorem q_Ah {s : State} (h : g.1 ≤ s.heap.size) : ∀ q, s.heap.size ≤ q → q_A g q := fun q hq => Nat.le_trans h hq
theorem R_newa {N : Nat} {z : Int} (hz : z = (N : Int)) (hb4 : N * componentBytes .int ≤ 536870912) (hk : k + 1 ≤ R.cells) (hn : n + N ≤ R.slots) {pc' : Nat} (hd : q_d mm.2.1 pc (.newarray .int) 2 pc')
    (kk : ∀ q : Nat, RW l g mm R mc ms Post pc' (S ++ [(q, .inl N)]) (mup M S.length (fun _ => 0)) (k + 1) (n + N) ls (.inr (.inr (some q)) :: st)) : RW l g mm R mc ms Post pc S M k n ls (.inl z :: st) := by
  obtain ⟨hd, rfl⟩ := hd
  subst hz
  intro hl hs hM p e s m args below meth c H locs lsR X
  have h0 : (0 : Int) ≤ (N : Int) := by omega
  refine va_newa (atype := .int) (ty := .int) (N' := N) (a0 := (N, .inl (fun _ => Int32.ofInt 0))) X.1.1 X.1.2.1 (by exact (word_at (State.WarmedH.refl s) (Or.inr ⟨_, rfl⟩) X.1.2.2.2.2.2.1.2)) rfl X.2.2.2.1 X.2.2.1.1 X.2.2.1.2 X.2.1 (q_Ah X.2.2.2.2.2.1) (fun cA => rfl) (by rw [i0, lt32 hs.hd z32]; omega) (by rw [q_pos h0 hs.hd]; rfl) hb4 hk hn hd ?_
  intro q cA H1 hK1 hP1 hD1 hS1
  have e1 := (hK1.2 0 (g.2.2.1, .int) rfl).2
  have e2 := (hK1.2 1 (cA, .int) rfl).2
  have e3 : cA = g.2.2.1 := Option.some.inj (e2.symm.trans e1)
  subst e3
  have e4 := q_W_push g.2.2.1 M S q (.inl N) (fun _ => 0)
  have hP2 : va_P g.2.1 q_cl (q_W g.2.2.1 M 0 S ++ [(q, q_E g.2.2.1 (fun _ => 0) (.inl N))]) H1 := hP1
  have hD2 : va_D (q_A g) (q_W g.2.2.1 M 0 S ++ [(q, q_E g.2.2.1 (fun _ => 0) (.inl N))]) := hD1
  rw [e4] at hP2 hD2
  exact kk q hl (q_RL.cons trivial hs.tl) (hM.up (fun _ => z32)) p e s m args below meth c H1 locs lsR ⟨X.1, hS1, ⟨hP2, hD2⟩, X.2.2.2.1, X.2.2.2.2.1, X.2.2.2.2.2.1, X.2.2.2.2.2.2⟩
theorem R_new {ci N : Nat} {C : String} {T : u_T} {ty : Nat → FieldType} (hC : q_cg ci C T N ty) (fs : List (Option (Option Nat))) (hfs : ∀ j, j < N → defaultValue (ty j) = vp_V (q_F (fun _ => 0) 0 fs) j) {index : Nat} (hcl : q_in (.classLink mm.1.cls index C)) (hinst : q_in (.instantiable C N)) (hini : q_in (.initialized C)) (hk : k + 1 ≤ R.cells) (hn : n + N ≤ R.slots) {pc' : Nat} (hd : q_d mm.2.1 pc (.new index) 3 pc')
    (kk : ∀ q : Nat, RW l g mm R mc ms Post pc' (S ++ [(q, .inr (ci, fs))]) (mup M S.length (fun _ => 0)) (k + 1) (n + N) ls (.inr (.inr (some q)) :: st)) : RW l g mm R mc ms Post pc S M k n ls st := by
  obtain ⟨hd, rfl⟩ := hd
  intro hl hs hM p e s m args below meth c H locs lsR X
  refine va_new (own := mm.1.cls) (Ts := u_ws C T N) (fs := q_F (fun _ => 0) 0 fs) X.1.1 X.1.2.1 (fun w h => X.1.2.2.2.2.2.1.use (hC.2.1 w h)) (fun w h => h) ty hC.2.2.1 X.1.2.2.2.2.1 (X.1.2.2.2.2.2.1.use hcl) (X.1.2.2.2.2.2.1.use hinst) (X.1.2.2.2.2.2.1.use hini) X.2.2.2.1 X.2.2.1.1 X.2.2.1.2 X.2.1 (q_Ah X.2.2.2.2.2.1) hC.1 hfs hk hn hd ?_
  intro q H1 hP1 hD1 hS1
  have e4 := q_W_push g.2.2.1 M S q (.inr (ci, fs)) (fun _ => 0)
  have hP2 : va_P g.2.1 q_cl (q_W g.2.2.1 M 0 S ++ [(q, q_E g.2.2.1 (fun _ => 0) (.inr (ci, fs)))]) H1 := hP1
  have hD2 : va_D (q_A g) (q_W g.2.2.1 M 0 S ++ [(q, q_E g.2.2.1 (fun _ => 0) (.inr (ci, fs)))]) := hD1
  rw [e4] at hP2 hD2
  exact kk q hl (q_RL.cons trivial hs) (hM.up (fun _ => z32)) p e s m args below meth c H1 locs lsR ⟨X.1, hS1, ⟨hP2, hD2⟩, X.2.2.2.1, X.2.2.2.2.1, X.2.2.2.2.2.1, X.2.2.2.2.2.2⟩
theorem q_sum (st : List SV) : ((st.map q_V).map fun v => v.category).sum = (st.map q_cat).sum := by
  congr 1
  rw [List.map_map]
  exact List.map_congr_left (fun v _ => q_cat_eq v)
theorem R_objInit {a : Nat} {index : Nat} (hlink : q_in (.methodLink mm.1.cls index Lib.objectInit)) (hinst : q_in (.instanceMethod Lib.objectInit)) (hcode : q_in (.code Lib.objectInit ⟨#[0xb1]⟩ 1 none)) (hf : 1 ≤ R.frames) (hlo : 20 ≤ R.locals) (hcat : (st.map q_cat).sum ≤ 8) {pc' : Nat} (hd : q_d mm.2.1 pc (.invokespecial index) 3 pc')
    (kk : RW l g mm R mc ms Post pc' S M k n ls st) : RW l g mm R mc ms Post pc S M k n ls (.inr (.inr (some a)) :: st) := by
  obtain ⟨hd, rfl⟩ := hd
  intro hl hs hM p e s m args below meth c H locs lsR X
  have kw := kk hl hs.tl hM p e s m args below meth c H locs lsR X
  refine W.objInit (own := mm.1.cls) X.1.1 X.1.2.1 X.1.2.2.2.2.1 (X.1.2.2.2.2.2.1.use hlink) (X.1.2.2.2.2.2.1.use hinst) (X.1.2.2.2.2.2.1.use hcode) rfl (by rw [X.1.2.2.2.1]; exact X.2.2.2.2.2.2.1) rfl hd hf ?_ (W.eq (g2 := F0 m (pc + 3) lsR (st.map q_V)) rfl kw)
  have h := lv_room (m := m) (pc := pc) (ls := lsR) (rest := []) (st := st.map q_V) (by rw [q_sum]; exact hcat)
  have h2 : 2 * (F0 m pc lsR ((Sum.inr (Sum.inr (some a)) :: st : List SV).map q_V)).monitorRoom + ((st.map q_V).map fun v => v.category).sum ≤ 8 := h
  exact Nat.le_trans (Nat.add_le_add_right h2 12) hlo
theorem R_copy (i j : Nat) {a b N1 N2 : Nat} (hi : S[i]? = some (a, .inl N1)) (hj : S[j]? = some (b, .inl N2)) {sp dp z : Int} (h1 : 0 ≤ sp) (h2 : 0 ≤ dp) (h3 : 0 ≤ z) (h4 : sp + z ≤ N1) (h5 : dp + z ≤ N2) {index : Nat} (hlink : q_in (.methodLink mm.1.cls index arraycopyName)) (hnat : q_in (.native arraycopyName)) (hstat : q_in (.static arraycopyName)) (hini : q_in (.initialized "java/lang/System")) (hf : 1 ≤ R.frames) (hlo : 64 ≤ R.locals) (hcat : (st.map q_cat).sum ≤ 8) {pc' : Nat} (hd : q_d mm.2.1 pc (.invokestatic index) 3 pc')
    (kk : RW l g mm R mc ms Post pc' S (mup M j (fun x => if dp.toNat ≤ x ∧ x < dp.toNat + z.toNat then M i (sp.toNat + (x - dp.toNat)) else M j x)) k n ls st) : RW l g mm R mc ms Post pc S M k n ls (.inl z :: .inl dp :: .inr (.inr (some b)) :: .inl sp :: .inr (.inr (some a)) :: st) := by
  obtain ⟨hd, rfl⟩ := hd
  intro hl hs hM p e s m args below meth c H locs lsR X
  have rz : r32 z := hs.hd
  have rd : r32 dp := hs.tl.hd
  have rs : r32 sp := hs.tl.tl.tl.hd
  have e1 := q_pos h1 rs
  have e2 := q_pos h2 rd
  have e3 := q_pos h3 rz
  refine va_copyi X.1.1 X.1.2.1 (by rw [X.1.2.2.2.1]; exact X.2.2.2.2.2.2.1.symm) X.1.2.2.2.2.1 (X.1.2.2.2.2.2.1.use hlink) (X.1.2.2.2.2.2.1.use hnat) (X.1.2.2.2.2.2.1.use hstat) (X.1.2.2.2.2.2.1.use hini) X.2.2.2.1 X.2.2.1.1 X.2.2.1.2 X.2.1 i j 0 0 (ty := .int) (q_W_at hi) (q_W_at hj) rfl rfl rfl (by rw [i0, lt32 rs z32]; omega) (by rw [i0, lt32 rd z32]; omega) (by rw [i0, lt32 rz z32]; omega) (by rw [e1, e3]; omega) (by rw [e2, e3]; omega) (fun _ _ => rfl) hf ?_ hd ?_
  · rw [q_sum]
    have hw : nativeFrameWords "java/lang/System" "arraycopy" 5 ≤ 40 := by decide +kernel
    omega
  · intro H1 locs1 hP1 hD1 hS1
    have ef : va_cpy (fun x => Int32.ofInt (M i x)) (fun x => Int32.ofInt (M j x)) (Int32.ofInt sp).toNatClampNeg (Int32.ofInt dp).toNatClampNeg (Int32.ofInt z).toNatClampNeg = fun x => Int32.ofInt ((fun x => if dp.toNat ≤ x ∧ x < dp.toNat + z.toNat then M i (sp.toNat + (x - dp.toNat)) else M j x) x) := by
      funext x
      rw [e1, e2, e3]
      unfold va_cpy
      show (if _ then _ else _) = Int32.ofInt (if _ then _ else _)
      split <;> rfl
    have h := q_W_set (cI := g.2.2.1) (M := M) (c' := .inl N2) (fun x => if dp.toNat ≤ x ∧ x < dp.toNat + z.toNat then M i (sp.toNat + (x - dp.toNat)) else M j x) hj
    rw [q_set_same hj] at h
    have hP2 : va_P g.2.1 q_cl ((q_W g.2.2.1 M 0 S).set j (b, q_E g.2.2.1 (fun x => if dp.toNat ≤ x ∧ x < dp.toNat + z.toNat then M i (sp.toNat + (x - dp.toNat)) else M j x) (.inl N2))) H1 := by
      rw [ef] at hP1
      exact hP1
    have hD2 : va_D (q_A g) ((q_W g.2.2.1 M 0 S).set j (b, q_E g.2.2.1 (fun x => if dp.toNat ≤ x ∧ x < dp.toNat + z.toNat then M i (sp.toNat + (x - dp.toNat)) else M j x) (.inl N2))) := by
      rw [ef] at hD1
      exact hD1
    rw [h] at hP2 hD2
    exact kk hl hs.tl.tl.tl.tl.tl (hM.up (fun x => by split <;> exact hM _ _)) p e s m args below meth c H1 locs1 lsR ⟨X.1, hS1, ⟨hP2, hD2⟩, X.2.2.2.1, X.2.2.2.2.1, X.2.2.2.2.2.1, X.2.2.2.2.2.2⟩
theorem R_mmax {a b : Int} {index : Nat} (hlink : q_in (.methodLink mm.1.cls index Lib.Math.max.name)) (hstat : q_in (.static Lib.Math.max.name)) (hini : q_in (.initialized "java/lang/Math")) (hcode : q_in (.code Lib.Math.max.name Lib.Math.max.code 2 (some .int))) (hf : 1 ≤ R.frames) (hlo : 64 ≤ R.locals) (hcat : (st.map q_cat).sum ≤ 8) (hk : k ≤ R.cells) (hn : n ≤ R.slots) {pc' : Nat} (hd : q_d mm.2.1 pc (.invokestatic index) 3 pc')
    (kk : RW l g mm R mc ms Post pc' S M k n ls (.inl (if a < b then b else a) :: st)) : RW l g mm R mc ms Post pc S M k n ls (.inl b :: .inl a :: st) := by
  obtain ⟨hd, rfl⟩ := hd
  intro hl hs hM p e s m args below meth c H locs lsR X
  have hr : r32 (if a < b then b else a) := by
    split
    · exact hs.hd
    · exact hs.tl.hd
  have kw := kk hl (q_RL.cons hr hs.tl.tl) hM p e s m args below meth c H locs lsR X
  refine va_mmax X.1.1 X.1.2.1 (by rw [X.1.2.2.2.1]; exact X.2.2.2.2.2.2.1.symm) X.1.2.2.2.2.1 (X.1.2.2.2.2.2.1.use hlink) (X.1.2.2.2.2.2.1.use hstat) (X.1.2.2.2.2.2.1.use hini) (X.1.2.2.2.2.2.1.use hcode) hf (by rw [q_sum]; omega) hk hn hd (W.eq ?_ kw)
  have e1 : (if Int32.ofInt a < Int32.ofInt b then Int32.ofInt b else Int32.ofInt a) = Int32.ofInt (if a < b then b else a) := by
    by_cases h : a < b
    · rw [if_pos h, if_pos ((lt32 hs.tl.hd hs.hd).mpr h)]
    · rw [if_neg h, if_neg (fun q => h ((lt32 hs.tl.hd hs.hd).mp q))]
  rw [e1]
  rfl
theorem R_mmin {a b : Int} {index : Nat} (hlink : q_in (.methodLink mm.1.cls index Lib.Math.min.name)) (hstat : q_in (.static Lib.Math.min.name)) (hini : q_in (.initialized "java/lang/Math")) (hcode : q_in (.code Lib.Math.min.name Lib.Math.min.code 2 (some .int))) (hf : 1 ≤ R.frames) (hlo : 64 ≤ R.locals) (hcat : (st.map q_cat).sum ≤ 8) (hk : k ≤ R.cells) (hn : n ≤ R.slots) {pc' : Nat} (hd : q_d mm.2.1 pc (.invokestatic index) 3 pc')
    (kk : RW l g mm R mc ms Post pc' S M k n ls (.inl (if b < a then b else a) :: st)) : RW l g mm R mc ms Post pc S M k n ls (.inl b :: .inl a :: st) := by
  obtain ⟨hd, rfl⟩ := hd
  intro hl hs hM p e s m args below meth c H locs lsR X
  have hr : r32 (if b < a then b else a) := by
    split
    · exact hs.hd
    · exact hs.tl.hd
  have kw := kk hl (q_RL.cons hr hs.tl.tl) hM p e s m args below meth c H locs lsR X
  refine va_mmin X.1.1 X.1.2.1 (by rw [X.1.2.2.2.1]; exact X.2.2.2.2.2.2.1.symm) X.1.2.2.2.2.1 (X.1.2.2.2.2.2.1.use hlink) (X.1.2.2.2.2.2.1.use hstat) (X.1.2.2.2.2.2.1.use hini) (X.1.2.2.2.2.2.1.use hcode) hf (by rw [q_sum]; omega) hk hn hd (W.eq ?_ kw)
  have e1 : (if Int32.ofInt b < Int32.ofInt a then Int32.ofInt b else Int32.ofInt a) = Int32.ofInt (if b < a then b else a) := by
    by_cases h : b < a
    · rw [if_pos h, if_pos ((lt32 hs.hd hs.tl.hd).mpr h)]
    · rw [if_neg h, if_neg (fun q => h ((lt32 hs.hd hs.tl.hd).mp q))]
  rw [e1]
  rfl
end CELLS
end
section
/-! calls, ends, contracts -/
theorem q_B.calling {g : GG} {S : SW} {M : Mem} {U : State} (gg : JFrame) (mk : MethodId) (a : Array Value) (h : q_B g S M U) : q_B g S M (U.calling gg mk a) := by
  obtain ⟨h1, h2, h3, h4, h5⟩ := h
  have hW : U.WarmedH (U.calling gg mk a).vm := State.WarmedH.refl U
  exact ⟨h1, h2, h3.moved (U := U.calling gg mk a) (Vm.Alike.refl U.vm), h4.warm hW, h5.warm hW⟩
theorem q_blind (av : List Value) (g : GG) (S : SW) (M : Mem) : FrameBlind (va_Pc av (q_B g S M)) := fun _ _ gg mk h => ⟨h.1, h.2.calling gg mk _⟩
/-- a method that may be called -/
def q_mb (mm : MM) (n : Nat) : Prop := q_in (.code mm.1 mm.2.1 mm.2.2.1 mm.2.2.2) ∧ q_in (.initialized mm.1.cls) ∧ (mm.1.cls ≠ "java/lang/invoke/MethodHandle" ∧ mm.1.cls ≠ "java/lang/invoke/VarHandle") ∧ (parseMethodDescriptor mm.1.desc).map (fun d => d.parameters.length) = some n
def q_ms (mm : MM) (n : Nat) : Prop := q_mb mm n ∧ q_in (.static mm.1)
def q_mv (mm : MM) (n : Nat) : Prop := q_mb mm n ∧ q_in (.instanceMethod mm.1) ∧ q_in (.selects mm.1.cls mm.1 mm.1)
def q_mi (mm : MM) (n : Nat) : Prop := q_mb mm n ∧ q_in (.instanceMethod mm.1) ∧ mm.1.name = "<init>" ∧ mm.2.2.2 = none
def q_ml (own : String) (index : Nat) (y : MethodName) : Prop := q_in (.methodLink own index y) ∨ ∃ host, q_in (.methodLinkNest own index y host)
/-- what may be sent a message of class C -/
def q_rc (g : GG) (S : SW) (b : Nat) (C : String) : Prop := (∃ (i ci : Nat) (fs : List (Option (Option Nat))) (T : u_T) (N : Nat), S[i]? = some (b, .inr (ci, fs)) ∧ q_cl[ci]? = some (C, T, N)) ∨ ∃ i, i < 14 ∧ b = g.2.2.2.1 (10 + i) ∧ C = "java/lang/String"
section CALLS
variable {l : Launch} {g : GG} {mm : MM} {R : Room} {mc ms : Nat} {Post : PP} {pc : Nat} {S : SW} {M : Mem} {k n : Nat} {ls : List (Option SV)} {st : List SV}
theorem q_pre {p : Program} {s : State} {m : MethodId} {meth : Method} {c : Code} {H : Heap} {locs : List Loc} {lsR : Array Slot} (X : q_X g mm S M ls p s m meth c H locs lsR) {U : State} (hU : U.heap = H) (hW : s.WarmedH U.vm) : q_B g S M U := by
  refine ⟨by rw [hU]; exact Nat.le_trans X.2.2.2.2.2.1 X.2.1.1, by rw [hU]; exact X.2.2.1, X.2.2.2.1.moved hW.alike, ?_, X.1.2.2.2.2.2.1.warm hW⟩
  rw [hU]
  exact (X.2.2.2.2.1.kept X.2.1.2.1).warm hW
theorem q_recv {p : Program} {s : State} {m : MethodId} {meth : Method} {c : Code} {H : Heap} {locs : List Loc} {lsR : Array Slot} (X : q_X g mm S M ls p s m meth c H locs lsR) {b : Nat} {C : String} (h : q_rc g S b C) : ∃ cellB : Cell, H[b]? = some cellB ∧ cellB.vm.isStatics = false ∧ s.vm.findClass C = some cellB.cls := by
  rcases h with ⟨i, ci, fs, T, N, hS, hc⟩ | ⟨i, hi, rfl, rfl⟩
  · have he := q_W_at (cI := g.2.2.1) (M := M) hS
    exact va_recv X.2.2.2.1 X.2.2.1.1 hc he
  · exact vk_recv (adK := fun i => g.2.2.2.1 (10 + i)) (i := i) X.2.2.2.2.1.2.2.2.2.2.2.1 hi X.2.1
theorem R_run {mc2 ms2 : Nat} {args2 : Array Value} {Post2 : PP} {rest : List SV}
    (hrun : q_RO ls → q_RL st → q_RM M → ∀ (p : Program) (e : Env) (s : State) (m : MethodId) (args : Array Value) (below : List Frame) (meth : Method) (c : Code) (H : Heap) (locs : List Loc) (lsR : Array Slot), q_X g mm S M ls p s m meth c H locs lsR → va_Run p l e R s m args below meth c H locs k n mc2 ms2 (F0 m pc lsR (st.map q_V)) (rest.map q_V) (q_Q g Post2 args2) (q_A g))
    (hrest : q_RL st → q_RL rest)
    (kk : ∀ (r : Option SV) (S' : SW) (M' : Mem), Post2 r S' M' → RW l g mm R mc ms Post (pc + 3) S' M' (k + mc2) (n + ms2) ls (r.toList ++ rest)) : RW l g mm R mc ms Post pc S M k n ls st := by
  intro hl hs hM p e s m args below meth c H locs lsR X T hT XX
  obtain ⟨v, st₀, t, T', L, h0, X', hL, e1, e2, ⟨⟨r, S', M', hp, hr, hM', ho, hP', hK'⟩, hz, hk⟩, stp⟩ := hrun hl hs hM p e s m args below meth c H locs lsR X T hT XX
  have hv : v = r.map q_V := by cases ho; rfl
  subst hv
  rw [h0] at hz hk
  have hres : q_RL (r.toList ++ rest) := by
    intro w hw
    rcases List.mem_append.mp hw with h | h
    · cases r with
      | none => simp at h
      | some r0 => simp at h; subst h; exact hr _ rfl
    · exact hrest hs w h
  have hS := X.2.1
  have hS' : va_S (q_A g) s.heap T'.heap (locs ++ L) := ⟨Nat.le_trans hS.1 (by rw [e1]; exact hz), fun q h1 h2 => by rw [e1, hk q (Nat.lt_of_lt_of_le h1 hS.1) h2]; exact hS.2.1 q h1 h2, fun q hq => by
      rcases List.mem_append.mp hq with h | h
      · exact hS.2.2 q h
      · exact hL q h⟩
  obtain ⟨t2, a1, b1⟩ := kk r S' M' hp hl hres hM' p e s m args below meth c T'.heap (locs ++ L) lsR ⟨X.1, hS', by rw [e1]; exact hP', X.2.2.2.1, X.2.2.2.2.1, X.2.2.2.2.2.1, X.2.2.2.2.2.2⟩ T' rfl X'
  refine ⟨t2, stp t2 ?_, b1⟩
  have e3 : (r.toList ++ rest).map q_V = (r.map q_V).toList ++ rest.map q_V := by cases r <;> simp
  rw [e3] at a1
  exact a1
theorem q_arg {st args2 rest : List SV} (h : q_RL st) (e : st = args2.reverse ++ rest) : q_RL args2 ∧ q_RL rest := by
  subst e
  exact ⟨fun v hv => h v (List.mem_append_left _ (List.mem_reverse.mpr hv)), fun v hv => h v (List.mem_append_right _ hv)⟩
theorem q_callB {mm2 : MM} {n2 : Nat} (hm : q_mb mm2 n2) {d2 mc2 ms2 : Nat} (hR : d2 + 1 ≤ R.frames ∧ 19 + mm2.2.2.1 + 64 * d2 ≤ R.locals) {s : State} {args : Array Value} (hT : q_T s) :
    (q_rm d2 mc2 ms2).cells = mc2 ∧ (q_rm d2 mc2 ms2).slots = ms2 ∧ (q_rm d2 mc2 ms2).frames + 1 ≤ R.frames ∧ 8 + (mm2.2.2.1 + 11) + (q_rm d2 mc2 ms2).locals ≤ R.locals ∧ (∀ w ∈ [Cond.code mm2.1 mm2.2.1 mm2.2.2.1 mm2.2.2.2], ∀ (a' : Array Value) (U : State), s.WarmedH U.vm → w.before a' U = true) ∧ Cond.code mm2.1 mm2.2.1 mm2.2.2.1 mm2.2.2.2 ∈ [Cond.code mm2.1 mm2.2.1 mm2.2.2.1 mm2.2.2.2] ∧ (Cond.code mm2.1 mm2.2.1 mm2.2.2.1 mm2.2.2.2).before args s = true ∧ (Cond.initialized mm2.1.cls).before args s = true ∧ (∀ sig, parseMethodDescriptor mm2.1.desc = some sig → n2 = sig.parameters.length) := by
  refine ⟨rfl, rfl, hR.1, ?_, fun w hw a' U hW => ?_, List.mem_cons_self, hT.use hm.1, hT.use hm.2.1, fun sig h => ?_⟩
  · show 8 + (mm2.2.2.1 + 11) + 64 * d2 ≤ R.locals
    omega
  · rcases List.mem_cons.mp hw with rfl | hw
    · exact (hT.warm hW).use hm.1
    · exact absurd hw List.not_mem_nil
  · have h2 := hm.2.2.2
    rw [h] at h2
    exact (Option.some.inj h2).symm
theorem R_callS {mm2 : MM} {d2 mc2 ms2 n2 : Nat} {args2 rest : List SV} {Post2 : PP} (hM2 : CT l g mm2 d2 mc2 ms2 S M args2 Post2) (hm : q_ms mm2 n2) {index : Nat} (hw : q_ml mm.1.cls index mm2.1) (hR : d2 + 1 ≤ R.frames ∧ 19 + mm2.2.2.1 + 64 * d2 ≤ R.locals) (hf : k + mc2 ≤ R.cells ∧ n + ms2 ≤ R.slots) (hlen : args2.length = n2) (hst : st = args2.reverse ++ rest) (hcat : (rest.map q_cat).sum ≤ 8) {pc' : Nat} (hd : q_d mm.2.1 pc (.invokestatic index) 3 pc')
    (kk : ∀ (r : Option SV) (S' : SW) (M' : Mem), Post2 r S' M' → RW l g mm R mc ms Post pc' S' M' (k + mc2) (n + ms2) ls (r.toList ++ rest)) : RW l g mm R mc ms Post pc S M k n ls st := by
  obtain ⟨hd, rfl⟩ := hd
  refine R_run (Post2 := Post2) (rest := rest) (args2 := (args2.map q_V).toArray) ?_ (fun h => (q_arg h hst).2) kk
  intro hl hs hM p e s m args below meth c H locs lsR X
  have hMet := hM2 (q_arg hs hst).1 hM
  obtain ⟨c1, c2, c3, c4, c5, c6, c7, c8, c9⟩ := q_callB (R := R) (mc2 := mc2) (ms2 := ms2) (args := args) hm.1 hR X.1.2.2.2.2.2.1
  have hp : PreS s H (va_Pc (args2.map q_V) (q_B g S M)) (args2.map q_V) := ⟨q_blind _ _ _ _, fun U hU hW => ⟨rfl, q_pre X hU hW⟩⟩
  have hstk : (F0 m pc lsR (st.map q_V)).stack = (args2.map q_V).reverse ++ rest.map q_V := by
    show st.map q_V = _
    rw [hst, List.map_append, List.map_reverse]
  rcases hw with hw | ⟨host, hw⟩
  · exact va_runS (Ts := []) (own := mm.1.cls) (n := n2) ⟨X.1.1, X.1.2.1, X.1.2.2.2.1, X.1.2.2.2.2.1, fun w h => absurd h List.not_mem_nil⟩ hMet ⟨⟨c1, c2, c3, c4, c5, c6, c7, c8, hm.1.2.2.1, c9, X.1.2.2.2.2.2.1.use hw⟩, X.1.2.2.2.2.2.1.use hm.2⟩ hp rfl (by rw [List.length_map]; exact hlen) X.2.2.2.2.2.2.1 hstk (lv_room (by rw [q_sum]; exact hcat)) hd hf
  · exact va_runSN (Ts := []) (own := mm.1.cls) (n := n2) (host := host) ⟨X.1.1, X.1.2.1, X.1.2.2.2.1, X.1.2.2.2.2.1, fun w h => absurd h List.not_mem_nil⟩ hMet ⟨⟨⟨c1, c2, c3, c4, c5, c6⟩, c7, c8, hm.1.2.2.1, c9, X.1.2.2.2.2.2.1.use hw⟩, X.1.2.2.2.2.2.1.use hm.2, trivial⟩ hp rfl (by rw [List.length_map]; exact hlen) X.2.2.2.2.2.2.1 hstk (lv_room (by rw [q_sum]; exact hcat)) hd hf
theorem R_callV {mm2 : MM} {d2 mc2 ms2 n2 b : Nat} {As rest : List SV} {Post2 : PP} (hM2 : CT l g mm2 d2 mc2 ms2 S M (.inr (.inr (some b)) :: As) Post2) (hm : q_mv mm2 n2) {index : Nat} (hw : q_ml mm.1.cls index mm2.1) (hrc : q_rc g S b mm2.1.cls) (hR : d2 + 1 ≤ R.frames ∧ 19 + mm2.2.2.1 + 64 * d2 ≤ R.locals) (hf : k + mc2 ≤ R.cells ∧ n + ms2 ≤ R.slots) (hlen : As.length = n2) (hst : st = As.reverse ++ .inr (.inr (some b)) :: rest) (hcat : (rest.map q_cat).sum ≤ 8) {pc' : Nat} (hd : q_d mm.2.1 pc (.invokevirtual index) 3 pc')
    (kk : ∀ (r : Option SV) (S' : SW) (M' : Mem), Post2 r S' M' → RW l g mm R mc ms Post pc' S' M' (k + mc2) (n + ms2) ls (r.toList ++ rest)) : RW l g mm R mc ms Post pc S M k n ls st := by
  obtain ⟨hd, rfl⟩ := hd
  have hst2 : st = (.inr (.inr (some b)) :: As : List SV).reverse ++ rest := by rw [hst]; simp
  refine R_run (Post2 := Post2) (rest := rest) (args2 := ((.inr (.inr (some b)) :: As : List SV).map q_V).toArray) ?_ (fun h => (q_arg h hst2).2) kk
  intro hl hs hM p e s m args below meth c H locs lsR X
  have hMet := hM2 (q_arg hs hst2).1 hM
  obtain ⟨c1, c2, c3, c4, c5, c6, c7, c8, c9⟩ := q_callB (R := R) (mc2 := mc2) (ms2 := ms2) (args := args) hm.1 hR X.1.2.2.2.2.2.1
  have hp : PreV s H mm2.1.cls b (va_Pc ((.inr (.inr (some b)) :: As : List SV).map q_V) (q_B g S M)) (As.map q_V) := ⟨q_blind _ _ _ _, q_recv X hrc, fun U hU hW => ⟨rfl, q_pre X hU hW⟩⟩
  have hstk : (F0 m pc lsR (st.map q_V)).stack = (As.map q_V).reverse ++ .ref b :: rest.map q_V := by
    show st.map q_V = _
    rw [hst, List.map_append, List.map_reverse]
    rfl
  rcases hw with hw | ⟨host, hw⟩
  · exact va_runV (Ts := []) (own := mm.1.cls) (n := n2) (C := mm2.1.cls) ⟨X.1.1, X.1.2.1, X.1.2.2.2.1, X.1.2.2.2.2.1, fun w h => absurd h List.not_mem_nil⟩ hMet ⟨⟨c1, c2, c3, c4, c5, c6, c7, c8, hm.1.2.2.1, c9, X.1.2.2.2.2.2.1.use hw⟩, X.1.2.2.2.2.2.1.use hm.2.1, X.1.2.2.2.2.2.1.use hm.2.2⟩ hp rfl (by rw [List.length_map]; exact hlen) X.2.2.2.2.2.2.1 hstk (lv_room (by rw [q_sum]; exact hcat)) hd hf
  · exact va_runVN (Ts := []) (own := mm.1.cls) (n := n2) (C := mm2.1.cls) (host := host) ⟨X.1.1, X.1.2.1, X.1.2.2.2.1, X.1.2.2.2.2.1, fun w h => absurd h List.not_mem_nil⟩ hMet ⟨⟨⟨c1, c2, c3, c4, c5, c6⟩, c7, c8, hm.1.2.2.1, c9, X.1.2.2.2.2.2.1.use hw⟩, X.1.2.2.2.2.2.1.use hm.2.1, X.1.2.2.2.2.2.1.use hm.2.2⟩ hp rfl (by rw [List.length_map]; exact hlen) X.2.2.2.2.2.2.1 hstk (lv_room (by rw [q_sum]; exact hcat)) hd hf
theorem R_callI {mm2 : MM} {d2 mc2 ms2 n2 b : Nat} {As rest : List SV} {Post2 : PP} (hM2 : CT l g mm2 d2 mc2 ms2 S M (.inr (.inr (some b)) :: As) Post2) (hm : q_mi mm2 n2) {index : Nat} (hw : q_ml mm.1.cls index mm2.1) (hR : d2 + 1 ≤ R.frames ∧ 19 + mm2.2.2.1 + 64 * d2 ≤ R.locals) (hf : k + mc2 ≤ R.cells ∧ n + ms2 ≤ R.slots) (hlen : As.length = n2) (hst : st = As.reverse ++ .inr (.inr (some b)) :: rest) (hcat : (rest.map q_cat).sum ≤ 8) {pc' : Nat} (hd : q_d mm.2.1 pc (.invokespecial index) 3 pc')
    (kk : ∀ (r : Option SV) (S' : SW) (M' : Mem), Post2 r S' M' → RW l g mm R mc ms Post pc' S' M' (k + mc2) (n + ms2) ls (r.toList ++ rest)) : RW l g mm R mc ms Post pc S M k n ls st := by
  obtain ⟨hd, rfl⟩ := hd
  have hst2 : st = (.inr (.inr (some b)) :: As : List SV).reverse ++ rest := by rw [hst]; simp
  refine R_run (Post2 := Post2) (rest := rest) (args2 := ((.inr (.inr (some b)) :: As : List SV).map q_V).toArray) ?_ (fun h => (q_arg h hst2).2) kk
  intro hl hs hM p e s m args below meth c H locs lsR X
  have hMet := hM2 (q_arg hs hst2).1 hM
  obtain ⟨c1, c2, c3, c4, c5, c6, c7, c8, c9⟩ := q_callB (R := R) (mc2 := mc2) (ms2 := ms2) (args := args) hm.1 hR X.1.2.2.2.2.2.1
  have hp : PreS s H (va_Pc ((.inr (.inr (some b)) :: As : List SV).map q_V) (q_B g S M)) (.ref b :: As.map q_V) := ⟨q_blind _ _ _ _, fun U hU hW => ⟨rfl, q_pre X hU hW⟩⟩
  have hstk : (F0 m pc lsR (st.map q_V)).stack = (As.map q_V).reverse ++ .ref b :: rest.map q_V := by
    show st.map q_V = _
    rw [hst, List.map_append, List.map_reverse]
    rfl
  obtain ⟨⟨y, cd, mL, rt⟩, hmm⟩ : ∃ z, z = mm2 := ⟨_, rfl⟩
  subst hmm
  have hrt : rt = none := hm.2.2.2
  subst hrt
  rcases hw with hw | ⟨host, hw⟩
  · exact va_runI (Ts := []) (own := mm.1.cls) (n := n2) ⟨X.1.1, X.1.2.1, X.1.2.2.2.1, X.1.2.2.2.2.1, fun w h => absurd h List.not_mem_nil⟩ hMet ⟨⟨c1, c2, c3, c4, c5, c6, c7, c8, hm.1.2.2.1, c9, X.1.2.2.2.2.2.1.use hw⟩, hm.2.2.1, X.1.2.2.2.2.2.1.use hm.2.1⟩ hp rfl (by rw [List.length_map]; exact hlen) X.2.2.2.2.2.2.1 hstk (lv_room (by rw [q_sum]; exact hcat)) hd hf
  · exact va_runIN (Ts := []) (own := mm.1.cls) (n := n2) (host := host) ⟨X.1.1, X.1.2.1, X.1.2.2.2.1, X.1.2.2.2.2.1, fun w h => absurd h List.not_mem_nil⟩ hMet ⟨⟨⟨c1, c2, c3, c4, c5, c6⟩, c7, c8, hm.1.2.2.1, c9, X.1.2.2.2.2.2.1.use hw⟩, hm.2.2.1, X.1.2.2.2.2.2.1.use hm.2.1⟩ hp rfl (by rw [List.length_map]; exact hlen) X.2.2.2.2.2.2.1 hstk (lv_room (by rw [q_sum]; exact hcat)) hd hf
/-! ends -/
theorem q_end {p : Program} {s : State} {m : MethodId} {meth : Method} {c : Code} {H : Heap} {locs : List Loc} {lsR : Array Slot} {args : Array Value} (hM : q_RM M) (X : q_X g mm S M ls p s m meth c H locs lsR) {r : Option SV} (hp : Post r S M) (hr : ∀ v, r = some v → q_R v) {t : State} (ht : t.heap = H) (hW : s.WarmedH t.vm) : q_Q g Post args s (.returned (r.map q_V)) t :=
  ⟨⟨r, S, M, hp, hr, hM, rfl, by rw [ht]; exact X.2.2.1, X.2.2.2.1.moved hW.alike⟩, X.2.1.F ht⟩
theorem R_iret {v : Int} {ty : FieldType} (hr : mm.2.2.2 = some ty) (hn : narrow ty (.int (Int32.ofInt v)) = .int (Int32.ofInt v)) (hk : k ≤ mc) (hn2 : n ≤ ms) {pc' : Nat} (hd : q_d mm.2.1 pc (.ireturn) 1 pc') (hp : Post (some (.inl v)) S M) : RW l g mm R mc ms Post pc S M k n ls [.inl v] := by
  obtain ⟨hd, rfl⟩ := hd
  intro hl hs hM p e s m args below meth c H locs lsR X
  refine W.widen hk hn2 ?_
  exact W.zret (ty := ty) X.1.1 X.1.2.1 (X.1.2.2.1.trans hr) hn (fun t ht hW => q_end (r := some (.inl v)) hM X hp (fun w hw => by cases hw; exact hs.hd) ht hW) (fun q hq => X.2.1.2.2 q hq) hd X.1.2.2.2.2.2.2.1
theorem R_lret {v : Int} (hr : mm.2.2.2 = some .long) (hk : k ≤ mc) (hn2 : n ≤ ms) {pc' : Nat} (hd : q_d mm.2.1 pc (.lreturn) 1 pc') (hp : Post (some (.inr (.inl v))) S M) : RW l g mm R mc ms Post pc S M k n ls [.inr (.inl v)] := by
  obtain ⟨hd, rfl⟩ := hd
  intro hl hs hM p e s m args below meth c H locs lsR X
  refine W.widen hk hn2 ?_
  exact W.lret X.1.1 X.1.2.1 (X.1.2.2.1.trans hr) (fun t ht hW => q_end (r := some (.inr (.inl v))) hM X hp (fun w hw => by cases hw; exact hs.hd) ht hW) (fun q hq => X.2.1.2.2 q hq) hd X.1.2.2.2.2.2.2.1
theorem q_V_ref (v : Option Nat) : q_V (.inr (.inr v)) = .null ∨ ∃ a, q_V (.inr (.inr v)) = .ref a := by
  cases v with
  | none => exact Or.inl rfl
  | some a => exact Or.inr ⟨a, rfl⟩
theorem R_aret {v : Option Nat} {rt : FieldType} (hr : mm.2.2.2 = some rt) (hrt : (∃ n, rt = .object n) ∨ ∃ t, rt = .array t) (hk : k ≤ mc) (hn2 : n ≤ ms) {pc' : Nat} (hd : q_d mm.2.1 pc (.areturn) 1 pc') (hp : Post (some (.inr (.inr v))) S M) : RW l g mm R mc ms Post pc S M k n ls [.inr (.inr v)] := by
  obtain ⟨hd, rfl⟩ := hd
  intro hl hs hM p e s m args below meth c H locs lsR X
  refine W.widen hk hn2 ?_
  exact W.aret (v := q_V (.inr (.inr v))) X.1.1 X.1.2.1 (X.1.2.2.1.trans hr) hrt (q_V_ref v) (fun t ht hW => q_end (r := some (.inr (.inr v))) hM X hp (fun w hw => by cases hw; exact trivial) ht hW) (fun q hq => X.2.1.2.2 q hq) hd X.1.2.2.2.2.2.2.1
theorem R_vret (hr : mm.2.2.2 = none) (hk : k ≤ mc) (hn2 : n ≤ ms) {pc' : Nat} (hd : q_d mm.2.1 pc (.return_) 1 pc') (hp : Post none S M) : RW l g mm R mc ms Post pc S M k n ls [] := by
  obtain ⟨hd, rfl⟩ := hd
  intro hl hs hM p e s m args below meth c H locs lsR X
  refine W.widen hk hn2 ?_
  exact W.vret X.1.1 X.1.2.1 (X.1.2.2.1.trans hr) (fun t ht hW => q_end (r := none) hM X hp (fun w hw => by cases hw) ht hW) (fun q hq => X.2.1.2.2 q hq) hd X.1.2.2.2.2.2.2.1
end CALLS
/-- the locals at a method's entry -/
def q_ent : List SV → List (Option SV)
  | [] => []
  | .inl z :: l => some (.inl z) :: q_ent l
  | .inr (.inl z) :: l => some (.inr (.inl z)) :: none :: q_ent l
  | .inr (.inr r) :: l => some (.inr (.inr r)) :: q_ent l
theorem q_ent_at : ∀ (vs : List SV) (i j : Nat) (v : SV), (q_ent vs)[j]? = some (some v) → (i + j, q_V v) ∈ lv_args i (vs.map q_V) := by
  intro vs
  induction vs with
  | nil => intro i j v h; simp [q_ent] at h
  | cons w vs ih =>
    intro i j v h
    rcases w with z | (z | r)
    · cases j with
      | zero => simp [q_ent] at h; subst h; simp [lv_args]
      | succ j =>
        simp [q_ent] at h
        have h2 := ih (i + 1) j v h
        rw [List.map_cons, lv_args]
        refine List.mem_cons_of_mem _ ?_
        rw [if_neg (by simp [q_V, Value.category]), show i + (j + 1) = i + 1 + j by omega]
        exact h2
    · cases j with
      | zero => simp [q_ent] at h; subst h; simp [lv_args]
      | succ j =>
        cases j with
        | zero => simp [q_ent] at h
        | succ j =>
          simp [q_ent] at h
          have h2 := ih (i + 2) j v h
          rw [List.map_cons, lv_args]
          refine List.mem_cons_of_mem _ ?_
          rw [if_pos (by simp [q_V, Value.category]), show i + (j + 1 + 1) = i + 2 + j by omega]
          exact h2
    · have hc : ¬ (q_V (.inr (.inr r))).category = 2 := by rw [q_cat_eq]; simp [q_cat]
      cases j with
      | zero => simp [q_ent] at h; subst h; simp [lv_args]
      | succ j =>
        simp [q_ent] at h
        have h2 := ih (i + 1) j v h
        rw [List.map_cons, lv_args]
        refine List.mem_cons_of_mem _ ?_
        rw [if_neg hc, show i + (j + 1) = i + 1 + j by omega]
        exact h2
theorem q_ent_len : ∀ vs : List SV, (lg_sl (vs.map q_V)).length = (q_ent vs).length := by
  intro vs
  induction vs with
  | nil => rfl
  | cons w vs ih => rcases w with z | (z | (_ | a)) <;> simp [q_ent, lg_sl, q_V, Value.category] at ih ⊢ <;> omega
theorem q_ent_R : ∀ (vs : List SV), q_RL vs → q_RO (q_ent vs) := by
  intro vs
  induction vs with
  | nil => intro _ v h; simp [q_ent] at h
  | cons w vs ih =>
    intro h v hv
    rcases w with z | (z | r)
    · simp [q_ent] at hv
      rcases hv with rfl | hv
      · exact h.hd
      · exact ih h.tl v hv
    · simp [q_ent] at hv
      rcases hv with rfl | hv
      · exact h.hd
      · exact ih h.tl v hv
    · simp [q_ent] at hv
      rcases hv with rfl | hv
      · exact h.hd
      · exact ih h.tl v hv
theorem CT_of {l : Launch} {g : GG} {mm : MM} {d mc ms : Nat} {S : SW} {M : Mem} {args : List SV} {Post : PP} (hy : plainName mm.1.cls = true) (hlen : (q_ent args).length ≤ mm.2.2.1) {ls0 : List (Option SV)} (he : q_ent args ++ List.replicate (mm.2.2.1 - (q_ent args).length) none = ls0)
    (body : RW l g mm (q_rm d mc ms) mc ms Post 0 S M 0 0 ls0 []) : CT l g mm d mc ms S M args Post := by
  subst he
  intro hr hM
  refine Met.ofW (cc := mm.2.1) (maxL := mm.2.2.1) (ret := mm.2.2.2) hy rfl ?_
  intro p e s m args' below meth c s₁ B hml hv
  obtain ⟨rfl, hB, hP, hK, hZ, hT⟩ := hv
  have hl := lv_entry (args.map q_V) (n := mm.2.2.1) (by rw [q_ent_len]; exact hlen)
  rw [lg_entry_eq]
  generalize (lg_sl (args.map q_V) ++ List.replicate (mm.2.2.1 - (lg_sl (args.map q_V)).length) Slot.unset).toArray = lsR at hl ⊢
  have hL : q_L lsR mm.2.2.1 (q_ent args ++ List.replicate (mm.2.2.1 - (q_ent args).length) none) := by
    refine ⟨hl.1, hl.2.1, fun i v hi => ?_⟩
    by_cases h : i < (q_ent args).length
    · rw [List.getElem?_append_left h] at hi
      have h2 := q_ent_at args 0 i v hi
      rw [Nat.zero_add] at h2
      exact hl.2.2 _ h2
    · rw [List.getElem?_append_right (by omega)] at hi
      have h3 := List.eq_of_mem_replicate (List.mem_of_getElem? hi)
      cases h3
  have hRO : q_RO (q_ent args ++ List.replicate (mm.2.2.1 - (q_ent args).length) none) := by
    intro v hv
    rcases List.mem_append.mp hv with h | h
    · exact q_ent_R args hr v h
    · cases List.eq_of_mem_replicate h
  have hC : q_C mm p s m meth c := ⟨B.exec, B.bytes, B.returns, hml, findClass_of_methodNamed B.named, hT, B.notSynchronized, (name_of_methodNamed B.named B.method).1⟩
  exact body hRO q_RL.nil hM p e s m (args.map q_V).toArray below meth c s.heap [] lsR ⟨hC, va_S.rf, hP, hK, hZ, hB, hL⟩
theorem q_room_mono {s : State} {pl : Platform} {r r' : Room} (hf : r.frames ≤ r'.frames) (hl : r.locals ≤ r'.locals) (hc : r.cells ≤ r'.cells) (hs : r.slots ≤ r'.slots) (h : s.hasRoom pl r' = true) : s.hasRoom pl r = true := by
  simp only [State.hasRoom, Bool.and_eq_true, decide_eq_true_eq] at h ⊢
  obtain ⟨⟨⟨⟨y, a, b, c, d, e⟩, f⟩, g⟩, i⟩ := h
  exact ⟨⟨⟨⟨by omega, by omega, by omega, by omega, by omega, e⟩, by omega⟩, by omega⟩, i⟩
theorem CT_mono {l : Launch} {g : GG} {mm : MM} {d d2 mc ms : Nat} {S : SW} {M : Mem} {args : List SV} {Post : PP} (h : CT l g mm d mc ms S M args Post) (hd : d ≤ d2) : CT l g mm d2 mc ms S M args Post := by
  intro hr hM p e ha hcs hk s m a below hfr happ hP hK
  obtain ⟨a1, a2, a3, a4, a5, a6, a7, a8⟩ := (Spec.appliesLoose_iff hfr).mp happ
  refine h hr hM p e ha hcs hk s m a below hfr ((Spec.appliesLoose_iff hfr).mpr ⟨a1, a2, a3, a4, a5, a6, ?_, a8⟩) hP hK
  exact q_room_mono (r := q_rm d mc ms) (r' := q_rm d2 mc ms) hd (Nat.mul_le_mul_left 64 hd) (Nat.le_refl _) (Nat.le_refl _) a7
/-- an exact answer: this value, this memory, the same cells -/
def q_ex (S : SW) (r : Option SV) (M' : Mem) : PP := fun r2 S2 M2 => r2 = r ∧ S2 = S ∧ M2 = M'
section EXACT
variable {l : Launch} {g : GG} {mm : MM} {R : Room} {mc ms : Nat} {Post : PP} {pc : Nat} {S : SW} {M M2 : Mem} {k n : Nat} {ls : List (Option SV)} {st st' : List SV}
theorem R_cS {mm2 : MM} {d2 n2 : Nat} {r : Option SV} (args2 rest : List SV) (hM2 : CT l g mm2 d2 0 0 S M args2 (q_ex S r M2)) (hm : q_ms mm2 n2) {index : Nat} (hw : q_ml mm.1.cls index mm2.1) (hR : d2 + 1 ≤ R.frames ∧ 19 + mm2.2.2.1 + 64 * d2 ≤ R.locals) (hk : k ≤ R.cells) (hn : n ≤ R.slots) (hlen : args2.length = n2) (hst : st = args2.reverse ++ rest) (hcat : (rest.map q_cat).sum ≤ 8) (hst' : r.toList ++ rest = st') {pc' : Nat} (hd : q_d mm.2.1 pc (.invokestatic index) 3 pc')
    (kk : RW l g mm R mc ms Post pc' S M2 k n ls st') : RW l g mm R mc ms Post pc S M k n ls st := by
  obtain ⟨hd, rfl⟩ := hd
  subst hst'
  refine R_callS (rest := rest) hM2 hm hw hR ⟨hk, hn⟩ hlen hst hcat ⟨hd, rfl⟩ ?_
  rintro r2 S2 M3 ⟨rfl, rfl, rfl⟩
  exact kk
theorem R_cV {mm2 : MM} {d2 n2 b : Nat} {r : Option SV} (As rest : List SV) (hM2 : CT l g mm2 d2 0 0 S M (.inr (.inr (some b)) :: As) (q_ex S r M2)) (hm : q_mv mm2 n2) {index : Nat} (hw : q_ml mm.1.cls index mm2.1) (hrc : q_rc g S b mm2.1.cls) (hR : d2 + 1 ≤ R.frames ∧ 19 + mm2.2.2.1 + 64 * d2 ≤ R.locals) (hk : k ≤ R.cells) (hn : n ≤ R.slots) (hlen : As.length = n2) (hst : st = As.reverse ++ .inr (.inr (some b)) :: rest) (hcat : (rest.map q_cat).sum ≤ 8) (hst' : r.toList ++ rest = st') {pc' : Nat} (hd : q_d mm.2.1 pc (.invokevirtual index) 3 pc')
    (kk : RW l g mm R mc ms Post pc' S M2 k n ls st') : RW l g mm R mc ms Post pc S M k n ls st := by
  obtain ⟨hd, rfl⟩ := hd
  subst hst'
  refine R_callV (rest := rest) hM2 hm hw hrc hR ⟨hk, hn⟩ hlen hst hcat ⟨hd, rfl⟩ ?_
  rintro r2 S2 M3 ⟨rfl, rfl, rfl⟩
  exact kk
end EXACT
/-! the told functions -/
theorem ite_T {α : Sort _} {c : Prop} [Decidable c] {x y o : α} (h : (if c then x else y) = o) (hc : c) : x = o := (if_pos hc).symm.trans h
theorem ite_F {α : Sort _} {c : Prop} [Decidable c] {x y o : α} (h : (if c then x else y) = o) (hc : ¬ c) : y = o := (if_neg hc).symm.trans h
/-- a guard: what is told behind it holds where it holds -/
theorem ite_G {α : Type} {c : Prop} [Decidable c] {x : Option α} {o : α} (h : (if c then x else none) = some o) : c ∧ x = some o := by
  by_cases hc : c
  · exact ⟨hc, ite_T h hc⟩
  · exact absurd (ite_F h hc) (by simp)
def ob {α : Type} (x : Option (Int × Mem)) (k : Int → Mem → Option α) : Option α := match x with
  | none => none
  | some p => k p.1 p.2
theorem ob_E {α : Type} {x : Option (Int × Mem)} {k : Int → Mem → Option α} {o : α} (h : ob x k = some o) : ∃ (r : Int) (M1 : Mem), x = some (r, M1) ∧ k r M1 = some o := by
  cases x with
  | none => cases h
  | some p => exact ⟨p.1, p.2, rfl, h⟩
theorem ob_I {α : Type} {x : Option (Int × Mem)} {k : Int → Mem → Option α} {o : Option α} {r : Int} {M1 : Mem} (h : x = some (r, M1)) (hk : k r M1 = o) : ob x k = o := by subst h; exact hk
theorem op_E {α : Type} {x : Option Int} {k : Int → Option α} {o : α} (h : x.bind k = some o) : ∃ r : Int, x = some r ∧ k r = some o := by
  cases x with
  | none => cases h
  | some p => exact ⟨p, rfl, h⟩
def rd (N : Nat) (f : Nat → Int) (i : Int) : Int := if 0 ≤ i ∧ i < (N : Int) then f i.toNat else 0
def wr (M : Mem) (c N : Nat) (i v : Int) : Mem := if 0 ≤ i ∧ i < (N : Int) then mset M c i.toNat v else M
def frT : Nat → Int := fun j => ([120, 24, 6, 2, 1, 1] : List Int).getD j 0
def frK : Nat → Int := fun j => ([-1, 0, 0, 2, 1, 2] : List Int).getD j 0
theorem q_nbz {v : Int} (h : v = 0 ∨ v = 1) : narrow .boolean (.int (Int32.ofInt v)) = .int (Int32.ofInt v) := by
  rcases h with rfl | rfl <;> rfl
theorem q_fbz {v : Int} (h : v = 0 ∨ v = 1) : fits .boolean (.int (Int32.ofInt v)) = true := by
  rcases h with rfl | rfl <;> rfl
def mcpy (M : Mem) (i j sp dp z : Nat) : Mem := mup M j (fun x => if dp ≤ x ∧ x < dp + z then M i (sp + (x - dp)) else M j x)
theorem sc_nar2 (a : Int) : narrow .char (.int (Int32.ofInt (b_i2c a))) = .int (Int32.ofInt (b_i2c a)) := by
  unfold b_i2c
  rw [Int32.ofInt_toInt]
  exact pk_nc _
end
section
theorem tbm_1 : ∀ w ∈ tables_1_1, w ∈ lw_tbl := fun w h => List.mem_append_right _ (List.mem_append_left _ h)
theorem tbm_2 : ∀ w ∈ tables_1_2, w ∈ lw_tbl := fun w h => List.mem_append_right _ (List.mem_append_right _ (List.mem_append_left _ h))
theorem tbm_3 : ∀ w ∈ tables_1_3, w ∈ lw_tbl := fun w h => List.mem_append_right _ (List.mem_append_right _ (List.mem_append_right _ (List.mem_append_left _ h)))
theorem tbm_4 : ∀ w ∈ tables_1_4, w ∈ lw_tbl := fun w h => List.mem_append_right _ (List.mem_append_right _ (List.mem_append_right _ (List.mem_append_right _ (List.mem_append_left _ h))))
theorem tbm_5 : ∀ w ∈ tables_1_5, w ∈ lw_tbl := fun w h => List.mem_append_right _ (List.mem_append_right _ (List.mem_append_right _ (List.mem_append_right _ (List.mem_append_right _ (List.mem_append_left _ h)))))
theorem tbm_6 : ∀ w ∈ tables_1_6, w ∈ lw_tbl := fun w h => List.mem_append_right _ (List.mem_append_right _ (List.mem_append_right _ (List.mem_append_right _ (List.mem_append_right _ (List.mem_append_right _ (List.mem_append_left _ h))))))
theorem tbm_7 : ∀ w ∈ tables_1_7, w ∈ lw_tbl := fun w h => List.mem_append_right _ (List.mem_append_right _ (List.mem_append_right _ (List.mem_append_right _ (List.mem_append_right _ (List.mem_append_right _ (List.mem_append_right _ (h)))))))
theorem tb_1 : q_in (.selects "CardNobodyReads$Tape" yX5_endOf yX5_endOf) := ⟨List.mem_append_left _ (List.mem_of_getElem? (i := 1) rfl), rfl⟩
theorem tb_2 : q_in (.selects "CardNobodyReads$Tape" yX5_tokenOf yX5_tokenOf) := ⟨List.mem_append_left _ (List.mem_of_getElem? (i := 2) rfl), rfl⟩
theorem tb_3 : q_in (.selects "CardNobodyReads$Tape" yX5_word yX5_word) := ⟨List.mem_append_left _ (List.mem_of_getElem? (i := 3) rfl), rfl⟩
theorem tb_4 : q_in (.selects "CardNobodyReads$Tape" yX5_spells yX5_spells) := ⟨List.mem_append_left _ (List.mem_of_getElem? (i := 4) rfl), rfl⟩
theorem tb_5 : q_in (.selects "CardNobodyReads$Tape" yX5_value yX5_value) := ⟨List.mem_append_left _ (List.mem_of_getElem? (i := 5) rfl), rfl⟩
theorem tb_6 : q_in (.selects "CardNobodyReads$Texts" yX6_readPart yX6_readPart) := ⟨List.mem_append_left _ (List.mem_of_getElem? (i := 6) rfl), rfl⟩
theorem tb_7 : q_in (.selects "CardNobodyReads$Texts" yX6_pass yX6_pass) := ⟨List.mem_append_left _ (List.mem_of_getElem? (i := 7) rfl), rfl⟩
theorem tb_8 : q_in (.selects "CardNobodyReads$Texts" yX6_token yX6_token) := ⟨List.mem_append_left _ (List.mem_of_getElem? (i := 8) rfl), rfl⟩
theorem tb_9 : q_in (.selects "CardNobodyReads$Texts" yX6_readEither yX6_readEither) := ⟨List.mem_append_left _ (List.mem_of_getElem? (i := 9) rfl), rfl⟩
theorem tb_10 : q_in (.selects "CardNobodyReads$Texts" yX6_readBoth yX6_readBoth) := ⟨List.mem_append_left _ (List.mem_of_getElem? (i := 10) rfl), rfl⟩
theorem tb_11 : q_in (.selects "CardNobodyReads$Texts" yX6_readNot yX6_readNot) := ⟨List.mem_append_left _ (List.mem_of_getElem? (i := 11) rfl), rfl⟩
theorem tb_12 : q_in (.selects "CardNobodyReads$Texts" yX6_readCompared yX6_readCompared) := ⟨List.mem_append_left _ (List.mem_of_getElem? (i := 12) rfl), rfl⟩
theorem tb_13 : q_in (.selects "CardNobodyReads$Texts" yX6_readSum yX6_readSum) := ⟨List.mem_append_left _ (List.mem_of_getElem? (i := 13) rfl), rfl⟩
theorem tb_14 : q_in (.selects "CardNobodyReads$Texts" yX6_readTerm yX6_readTerm) := ⟨List.mem_append_left _ (List.mem_of_getElem? (i := 14) rfl), rfl⟩
theorem tb_15 : q_in (.selects "CardNobodyReads$Texts" yX6_readOne yX6_readOne) := ⟨List.mem_append_left _ (List.mem_of_getElem? (i := 15) rfl), rfl⟩
theorem tb_16 : q_in (.selects "CardNobodyReads$Texts" yX6_write yX6_write) := ⟨List.mem_append_left _ (List.mem_of_getElem? (i := 16) rfl), rfl⟩
theorem tb_17 : q_in (.selects "CardNobodyReads" yX9_addLine yX9_addLine) := ⟨List.mem_append_left _ (List.mem_of_getElem? (i := 17) rfl), rfl⟩
theorem tb_18 : q_in (.selects "CardNobodyReads" yX9_isLine yX9_isLine) := ⟨List.mem_append_left _ (List.mem_of_getElem? (i := 18) rfl), rfl⟩
theorem tb_19 : q_in (.selects "CardNobodyReads" yX9_isGuest yX9_isGuest) := ⟨List.mem_append_left _ (List.mem_of_getElem? (i := 19) rfl), rfl⟩
theorem tb_20 : q_in (.selects "CardNobodyReads$Texts" yX6_valueOf yX6_valueOf) := ⟨List.mem_append_left _ (List.mem_of_getElem? (i := 20) rfl), rfl⟩
theorem tb_21 : q_in (.selects "CardNobodyReads" yX9_mayBeFact yX9_mayBeFact) := ⟨List.mem_append_left _ (List.mem_of_getElem? (i := 21) rfl), rfl⟩
theorem tb_22 : q_in (.selects "CardNobodyReads" yX9_fitting yX9_fitting) := ⟨List.mem_append_left _ (List.mem_of_getElem? (i := 22) rfl), rfl⟩
theorem tb_23 : q_in (.selects "CardNobodyReads$Fits" yX1_allow yX1_allow) := ⟨List.mem_append_left _ (List.mem_of_getElem? (i := 23) rfl), rfl⟩
theorem tb_24 : q_in (.selects "CardNobodyReads$Fits" yX1_isLawful yX1_isLawful) := ⟨List.mem_append_left _ (List.mem_of_getElem? (i := 24) rfl), rfl⟩
theorem tb_25 : q_in (.selects "CardNobodyReads$Fits" yX1_take yX1_take) := ⟨List.mem_append_left _ (List.mem_of_getElem? (i := 25) rfl), rfl⟩
theorem tb_26 : q_in (.selects "CardNobodyReads" yX9_safeLines yX9_safeLines) := ⟨List.mem_append_left _ (List.mem_of_getElem? (i := 26) rfl), rfl⟩
theorem tb_27 : q_in (.selects "CardNobodyReads" yX9_planTonight yX9_planTonight) := ⟨List.mem_append_left _ (List.mem_of_getElem? (i := 27) rfl), rfl⟩
theorem tb_28 : q_in (.selects "CardNobodyReads" yX9_liking yX9_liking) := ⟨List.mem_append_left _ (List.mem_of_getElem? (i := 28) rfl), rfl⟩
theorem tb_29 : q_in (.selects "CardNobodyReads$Tonight" yX8_serve yX8_serve) := ⟨List.mem_append_left _ (List.mem_of_getElem? (i := 29) rfl), rfl⟩
theorem tb_30 : q_in (.selects "CardNobodyReads$Tonight" yX8_keepIfBetter yX8_keepIfBetter) := ⟨List.mem_append_left _ (List.mem_of_getElem? (i := 30) rfl), rfl⟩
theorem tb_31 : q_in (.selects "CardNobodyReads" yX9_mostLiking yX9_mostLiking) := ⟨List.mem_append_left _ (List.mem_of_getElem? (i := 31) rfl), rfl⟩
theorem tb_32 : q_in (.selects "CardNobodyReads" yX9_teaching yX9_teaching) := ⟨List.mem_append_left _ (List.mem_of_getElem? (i := 32) rfl), rfl⟩
theorem tb_33 : q_in (.selects "CardNobodyReads" yX9_isMeal yX9_isMeal) := ⟨List.mem_append_left _ (List.mem_of_getElem? (i := 33) rfl), rfl⟩
theorem tb_34 : q_in (.selects "CardNobodyReadsModel" yX10_next yX10_next) := ⟨List.mem_append_left _ (List.mem_of_getElem? (i := 34) rfl), rfl⟩
theorem tb_35 : q_in (.selects "CardNobodyReadsModel" yX10_wordFrom yX10_wordFrom) := ⟨List.mem_append_left _ (List.mem_of_getElem? (i := 35) rfl), rfl⟩
theorem tb_36 : q_in (.selects "CardNobodyReadsModel" yX10_eRead yX10_eRead) := ⟨List.mem_append_left _ (List.mem_of_getElem? (i := 36) rfl), rfl⟩
theorem tb_37 : q_in (.selects "CardNobodyReadsModel" yX10_puts yX10_puts) := ⟨List.mem_append_left _ (List.mem_of_getElem? (i := 37) rfl), rfl⟩
theorem tb_38 : q_in (.selects "CardNobodyReadsModel" yX10_unwinds yX10_unwinds) := ⟨List.mem_append_left _ (List.mem_of_getElem? (i := 38) rfl), rfl⟩
theorem tb_39 : q_in (.selects "CardNobodyReadsModel" yX10_opensOne yX10_opensOne) := ⟨List.mem_append_left _ (List.mem_of_getElem? (i := 39) rfl), rfl⟩
theorem tb_40 : q_in (.selects "CardNobodyReadsModel" yX10_holds yX10_holds) := ⟨List.mem_append_left _ (List.mem_of_getElem? (i := 40) rfl), rfl⟩
theorem tb_41 : q_in (.selects "CardNobodyReadsModel" yX10_signOf yX10_signOf) := ⟨List.mem_append_left _ (List.mem_of_getElem? (i := 41) rfl), rfl⟩
theorem tb_42 : q_in (.selects "CardNobodyReadsModel" yX10_between yX10_between) := ⟨List.mem_append_left _ (List.mem_of_getElem? (i := 42) rfl), rfl⟩
theorem tb_44 : q_in (.selects "CardNobodyReadsModel" yX10_isLine yX10_isLine) := ⟨List.mem_append_left _ (List.mem_of_getElem? (i := 44) rfl), rfl⟩
theorem tb_45 : q_in (.selects "CardNobodyReadsModel" yX10_isGuest yX10_isGuest) := ⟨List.mem_append_left _ (List.mem_of_getElem? (i := 45) rfl), rfl⟩
theorem tb_46 : q_in (.selects "CardNobodyReadsModel" yX10_asksOf yX10_asksOf) := ⟨List.mem_append_left _ (List.mem_of_getElem? (i := 46) rfl), rfl⟩
theorem tb_47 : q_in (.selects "CardNobodyReadsModel" yX10_worth yX10_worth) := ⟨List.mem_append_left _ (List.mem_of_getElem? (i := 47) rfl), rfl⟩
theorem tb_48 : q_in (.selects "CardNobodyReadsModel" yX10_isFact yX10_isFact) := ⟨List.mem_append_left _ (List.mem_of_getElem? (i := 48) rfl), rfl⟩
theorem tb_49 : q_in (.selects "CardNobodyReadsModel" yX10_lays yX10_lays) := ⟨List.mem_append_left _ (List.mem_of_getElem? (i := 49) rfl), rfl⟩
theorem tb_50 : q_in (.selects "CardNobodyReadsModel" yX10_finds yX10_finds) := ⟨List.mem_append_left _ (List.mem_of_getElem? (i := 50) rfl), rfl⟩
theorem tb_51 : q_in (.selects "CardNobodyReadsModel" yX10_mays yX10_mays) := ⟨List.mem_append_left _ (List.mem_of_getElem? (i := 51) rfl), rfl⟩
theorem tb_52 : q_in (.selects "CardNobodyReadsModel" yX10_mayBe yX10_mayBe) := ⟨List.mem_append_left _ (List.mem_of_getElem? (i := 52) rfl), rfl⟩
theorem tb_53 : q_in (.selects "CardNobodyReadsModel" yX10_hasIn yX10_hasIn) := ⟨List.mem_append_left _ (List.mem_of_getElem? (i := 53) rfl), rfl⟩
theorem tb_54 : q_in (.selects "CardNobodyReadsModel" yX10_holds_ yX10_holds_) := ⟨List.mem_append_left _ (List.mem_of_getElem? (i := 54) rfl), rfl⟩
theorem tb_55 : q_in (.selects "CardNobodyReadsModel" yX10_partIn yX10_partIn) := ⟨List.mem_append_left _ (List.mem_of_getElem? (i := 55) rfl), rfl⟩
theorem tb_56 : q_in (.selects "CardNobodyReadsModel" yX10_meansIn yX10_meansIn) := ⟨List.mem_append_left _ (List.mem_of_getElem? (i := 56) rfl), rfl⟩
theorem tb_57 : q_in (.selects "CardNobodyReadsModel" yX10_unlikeOf yX10_unlikeOf) := ⟨List.mem_append_left _ (List.mem_of_getElem? (i := 57) rfl), rfl⟩
theorem tb_58 : q_in (.selects "CardNobodyReadsModel" yX10_ofAll yX10_ofAll) := ⟨List.mem_append_left _ (List.mem_of_getElem? (i := 58) rfl), rfl⟩
theorem tb_59 : q_in (.selects "CardNobodyReadsModel" yX10_safeFor yX10_safeFor) := ⟨List.mem_append_left _ (List.mem_of_getElem? (i := 59) rfl), rfl⟩
theorem tb_60 : q_in (.selects "CardNobodyReadsModel" yX10_shunnedIn yX10_shunnedIn) := ⟨List.mem_append_left _ (List.mem_of_getElem? (i := 60) rfl), rfl⟩
theorem tb_61 : q_in (.selects "CardNobodyReadsModel" yX10_tonight yX10_tonight) := ⟨List.mem_append_left _ (List.mem_of_getElem? (i := 61) rfl), rfl⟩
theorem tb_62 : q_in (.selects "CardNobodyReadsModel" yX10_likes yX10_likes) := ⟨List.mem_append_left _ (List.mem_of_getElem? (i := 62) rfl), rfl⟩
theorem tb_63 : q_in (.selects "CardNobodyReadsModel" yX10_liking yX10_liking) := ⟨List.mem_append_left _ (List.mem_of_getElem? (i := 63) rfl), rfl⟩
theorem tb_64 : q_in (.selects "CardNobodyReadsModel" yX10_orders yX10_orders) := ⟨List.mem_append_left _ (List.mem_of_getElem? (i := 64) rfl), rfl⟩
theorem tb_65 : q_in (.selects "CardNobodyReadsModel" yX10_teaching yX10_teaching) := ⟨List.mem_append_left _ (List.mem_of_getElem? (i := 65) rfl), rfl⟩
theorem tb_66 : q_in (.selects "CardNobodyReadsModel" yX10_counts yX10_counts) := ⟨List.mem_append_left _ (List.mem_of_getElem? (i := 66) rfl), rfl⟩
theorem tb_67 : q_in (.selects "CardNobodyReadsModel" yX10_fitWithout yX10_fitWithout) := ⟨List.mem_append_left _ (List.mem_of_getElem? (i := 67) rfl), rfl⟩
theorem tb_68 : q_in (.selects "CardNobodyReadsModel" yX10_drawnOf yX10_drawnOf) := ⟨List.mem_append_left _ (List.mem_of_getElem? (i := 68) rfl), rfl⟩
theorem tb_70 : q_in (.initialized "CardNobodyReads") := ⟨tbm_1 _ (List.mem_of_getElem? (i := 1) rfl), rfl⟩
theorem tb_71 : q_in (.initialized "CardNobodyReads$Tongues") := ⟨tbm_1 _ (List.mem_of_getElem? (i := 2) rfl), rfl⟩
theorem tb_72 : q_in (.initialized "java/lang/Math") := ⟨tbm_1 _ (List.mem_of_getElem? (i := 3) rfl), rfl⟩
theorem tb_73 : q_in (.initialized "java/lang/Integer") := ⟨tbm_1 _ (List.mem_of_getElem? (i := 4) rfl), rfl⟩
theorem tb_74 : q_in (.initialized "CardNobodyReads$Lines") := ⟨tbm_1 _ (List.mem_of_getElem? (i := 5) rfl), rfl⟩
theorem tb_75 : q_in (.initialized "CardNobodyReads$Facts") := ⟨tbm_1 _ (List.mem_of_getElem? (i := 6) rfl), rfl⟩
theorem tb_76 : q_in (.initialized "CardNobodyReads$Texts") := ⟨tbm_1 _ (List.mem_of_getElem? (i := 7) rfl), rfl⟩
theorem tb_77 : q_in (.initialized "CardNobodyReads$Tape") := ⟨tbm_1 _ (List.mem_of_getElem? (i := 8) rfl), rfl⟩
theorem tb_78 : q_in (.initialized "java/lang/String") := ⟨tbm_1 _ (List.mem_of_getElem? (i := 9) rfl), rfl⟩
theorem tb_79 : q_in (.initialized "java/lang/StringLatin1") := ⟨tbm_1 _ (List.mem_of_getElem? (i := 10) rfl), rfl⟩
theorem tb_80 : q_in (.initialized "jdk/internal/util/Preconditions") := ⟨tbm_1 _ (List.mem_of_getElem? (i := 11) rfl), rfl⟩
theorem tb_83 : q_in (.initialized "CardNobodyReads$Fits") := ⟨tbm_1 _ (List.mem_of_getElem? (i := 14) rfl), rfl⟩
theorem tb_84 : q_in (.initialized "CardNobodyReads$Tonight") := ⟨tbm_1 _ (List.mem_of_getElem? (i := 15) rfl), rfl⟩
theorem tb_86 : q_in (.initialized "CardNobodyReads$Sheets") := ⟨tbm_1 _ (List.mem_of_getElem? (i := 17) rfl), rfl⟩
theorem tb_87 : q_in (.initialized "CardNobodyReadsModel") := ⟨tbm_1 _ (List.mem_of_getElem? (i := 18) rfl), rfl⟩
theorem tb_88 : q_in (.initialized "java/lang/System") := ⟨tbm_1 _ (List.mem_of_getElem? (i := 19) rfl), rfl⟩
theorem tb_107 : q_in (.fieldLinkNest "CardNobodyReads$Tongues" 19 "CardNobodyReads" "TURNS" "[I" "CardNobodyReads") := ⟨tbm_1 _ (List.mem_of_getElem? (i := 38) rfl), rfl⟩
theorem tb_109 : q_in (.methodLinkNest "CardNobodyReads$Tongues" 22 yX9_at "CardNobodyReads") := ⟨tbm_1 _ (List.mem_of_getElem? (i := 40) rfl), rfl⟩
theorem tb_110 : q_in (.static yX9_at) := ⟨tbm_1 _ (List.mem_of_getElem? (i := 41) rfl), rfl⟩
theorem tb_111 : q_in (.code yX9_at cX9_at 2 (some .int)) := ⟨tbm_1 _ (List.mem_of_getElem? (i := 42) rfl), rfl⟩
theorem tb_112 : q_in (.methodLink "CardNobodyReads$Tongues" 26 Lib.Math.max.name) := ⟨tbm_1 _ (List.mem_of_getElem? (i := 43) rfl), rfl⟩
theorem tb_113 : q_in (.static Lib.Math.max.name) := ⟨tbm_1 _ (List.mem_of_getElem? (i := 44) rfl), rfl⟩
theorem tb_114 : q_in (.code Lib.Math.max.name Lib.Math.max.code 2 (some .int)) := ⟨tbm_1 _ (List.mem_of_getElem? (i := 45) rfl), rfl⟩
theorem tb_115 : q_in (.methodLink "CardNobodyReads$Tongues" 32 yX7_member) := ⟨tbm_1 _ (List.mem_of_getElem? (i := 46) rfl), rfl⟩
theorem tb_116 : q_in (.static yX7_member) := ⟨tbm_1 _ (List.mem_of_getElem? (i := 47) rfl), rfl⟩
theorem tb_117 : q_in (.code yX7_member cX7_member 4 (some .int)) := ⟨tbm_1 _ (List.mem_of_getElem? (i := 48) rfl), rfl⟩
theorem tb_118 : q_in (.methodLink "CardNobodyReads$Tongues" 39 yJ6_numberOfTrailingZeros_0f7a4) := ⟨tbm_1 _ (List.mem_of_getElem? (i := 49) rfl), rfl⟩
theorem tb_119 : q_in (.static yJ6_numberOfTrailingZeros_0f7a4) := ⟨tbm_1 _ (List.mem_of_getElem? (i := 50) rfl), rfl⟩
theorem tb_120 : q_in (.code yJ6_numberOfTrailingZeros_0f7a4 cJ6_numberOfTrailingZeros_0f7a4 2 (some .int)) := ⟨tbm_1 _ (List.mem_of_getElem? (i := 51) rfl), rfl⟩
theorem tb_121 : q_in (.constant "java/lang/Integer" 264 (Int32.ofInt 65536)) := ⟨tbm_1 _ (List.mem_of_getElem? (i := 52) rfl), rfl⟩
theorem tb_122 : q_in (.methodLinkNest "CardNobodyReads$Tongues" 35 yX9_put "CardNobodyReads") := ⟨tbm_1 _ (List.mem_of_getElem? (i := 53) rfl), rfl⟩
theorem tb_123 : q_in (.static yX9_put) := ⟨tbm_1 _ (List.mem_of_getElem? (i := 54) rfl), rfl⟩
theorem tb_124 : q_in (.code yX9_put cX9_put 3 none) := ⟨tbm_1 _ (List.mem_of_getElem? (i := 55) rfl), rfl⟩
theorem tb_125 : q_in (.fieldLink "CardNobodyReads$Tongues" 9 "CardNobodyReads$Tongues" "parts" "[I") := ⟨tbm_1 _ (List.mem_of_getElem? (i := 56) rfl), rfl⟩
theorem tb_126 : q_in (.laysFinal "CardNobodyReads$Tongues" "CardNobodyReads$Tongues" "parts" "[I") := ⟨tbm_1 _ (List.mem_of_getElem? (i := 57) rfl), rfl⟩
theorem tb_136 : q_in (.fieldLink "CardNobodyReads$Lines" 9 "CardNobodyReads$Lines" "signs" "[I") := ⟨tbm_1 _ (List.mem_of_getElem? (i := 67) rfl), rfl⟩
theorem tb_137 : q_in (.fieldLink "CardNobodyReads$Lines" 15 "CardNobodyReads$Lines" "prices" "[I") := ⟨tbm_1 _ (List.mem_of_getElem? (i := 68) rfl), rfl⟩
theorem tb_138 : q_in (.fieldLinkNest "CardNobodyReads" 103 "CardNobodyReads$Lines" "prices" "[I" "CardNobodyReads") := ⟨tbm_1 _ (List.mem_of_getElem? (i := 69) rfl), rfl⟩
theorem tb_139 : q_in (.fieldLink "CardNobodyReads$Lines" 18 "CardNobodyReads$Lines" "hads" "[I") := ⟨tbm_1 _ (List.mem_of_getElem? (i := 70) rfl), rfl⟩
theorem tb_140 : q_in (.fieldLinkNest "CardNobodyReads" 81 "CardNobodyReads$Lines" "number" "I" "CardNobodyReads") := ⟨tbm_1 _ (List.mem_of_getElem? (i := 71) rfl), rfl⟩
theorem tb_141 : q_in (.fieldLink "CardNobodyReads$Lines" 35 "CardNobodyReads$Lines" "number" "I") := ⟨tbm_1 _ (List.mem_of_getElem? (i := 72) rfl), rfl⟩
theorem tb_142 : q_in (.fieldLinkNest "CardNobodyReads$Tonight" 50 "CardNobodyReads$Lines" "number" "I" "CardNobodyReads") := ⟨tbm_1 _ (List.mem_of_getElem? (i := 73) rfl), rfl⟩
theorem tb_143 : q_in (.fieldLinkNest "CardNobodyReads$Fits" 62 "CardNobodyReads$Lines" "number" "I" "CardNobodyReads") := ⟨tbm_1 _ (List.mem_of_getElem? (i := 74) rfl), rfl⟩
theorem tb_144 : q_in (.laysFinal "CardNobodyReads$Lines" "CardNobodyReads$Lines" "signs" "[I") := ⟨tbm_1 _ (List.mem_of_getElem? (i := 75) rfl), rfl⟩
theorem tb_146 : q_in (.laysFinal "CardNobodyReads$Lines" "CardNobodyReads$Lines" "prices" "[I") := ⟨tbm_1 _ (List.mem_of_getElem? (i := 77) rfl), rfl⟩
theorem tb_148 : q_in (.laysFinal "CardNobodyReads$Lines" "CardNobodyReads$Lines" "hads" "[I") := ⟨tbm_1 _ (List.mem_of_getElem? (i := 79) rfl), rfl⟩
theorem tb_150 : q_in (.lays "CardNobodyReads$Lines" "CardNobodyReads$Lines" "number" "I") := ⟨tbm_1 _ (List.mem_of_getElem? (i := 81) rfl), rfl⟩
theorem tb_159 : q_in (.fieldLink "CardNobodyReads$Facts" 9 "CardNobodyReads$Facts" "kinds" "[I") := ⟨tbm_1 _ (List.mem_of_getElem? (i := 90) rfl), rfl⟩
theorem tb_160 : q_in (.fieldLinkNest "CardNobodyReads" 165 "CardNobodyReads$Facts" "kinds" "[I" "CardNobodyReads") := ⟨tbm_1 _ (List.mem_of_getElem? (i := 91) rfl), rfl⟩
theorem tb_161 : q_in (.fieldLink "CardNobodyReads$Facts" 15 "CardNobodyReads$Facts" "lines" "[I") := ⟨tbm_1 _ (List.mem_of_getElem? (i := 92) rfl), rfl⟩
theorem tb_162 : q_in (.fieldLinkNest "CardNobodyReads" 168 "CardNobodyReads$Facts" "lines" "[I" "CardNobodyReads") := ⟨tbm_1 _ (List.mem_of_getElem? (i := 93) rfl), rfl⟩
theorem tb_163 : q_in (.fieldLink "CardNobodyReads$Facts" 18 "CardNobodyReads$Facts" "parts" "[I") := ⟨tbm_1 _ (List.mem_of_getElem? (i := 94) rfl), rfl⟩
theorem tb_164 : q_in (.fieldLinkNest "CardNobodyReads" 171 "CardNobodyReads$Facts" "parts" "[I" "CardNobodyReads") := ⟨tbm_1 _ (List.mem_of_getElem? (i := 95) rfl), rfl⟩
theorem tb_165 : q_in (.fieldLink "CardNobodyReads$Facts" 21 "CardNobodyReads$Facts" "mores" "[I") := ⟨tbm_1 _ (List.mem_of_getElem? (i := 96) rfl), rfl⟩
theorem tb_166 : q_in (.fieldLinkNest "CardNobodyReads" 174 "CardNobodyReads$Facts" "mores" "[I" "CardNobodyReads") := ⟨tbm_1 _ (List.mem_of_getElem? (i := 97) rfl), rfl⟩
theorem tb_167 : q_in (.fieldLink "CardNobodyReads$Facts" 24 "CardNobodyReads$Facts" "number" "I") := ⟨tbm_1 _ (List.mem_of_getElem? (i := 98) rfl), rfl⟩
theorem tb_168 : q_in (.fieldLinkNest "CardNobodyReads" 123 "CardNobodyReads$Facts" "number" "I" "CardNobodyReads") := ⟨tbm_1 _ (List.mem_of_getElem? (i := 99) rfl), rfl⟩
theorem tb_169 : q_in (.laysFinal "CardNobodyReads$Facts" "CardNobodyReads$Facts" "kinds" "[I") := ⟨tbm_1 _ (List.mem_of_getElem? (i := 100) rfl), rfl⟩
theorem tb_171 : q_in (.laysFinal "CardNobodyReads$Facts" "CardNobodyReads$Facts" "lines" "[I") := ⟨tbm_1 _ (List.mem_of_getElem? (i := 102) rfl), rfl⟩
theorem tb_173 : q_in (.laysFinal "CardNobodyReads$Facts" "CardNobodyReads$Facts" "parts" "[I") := ⟨tbm_1 _ (List.mem_of_getElem? (i := 104) rfl), rfl⟩
theorem tb_175 : q_in (.laysFinal "CardNobodyReads$Facts" "CardNobodyReads$Facts" "mores" "[I") := ⟨tbm_1 _ (List.mem_of_getElem? (i := 106) rfl), rfl⟩
theorem tb_177 : q_in (.lays "CardNobodyReads$Facts" "CardNobodyReads$Facts" "number" "I") := ⟨tbm_1 _ (List.mem_of_getElem? (i := 108) rfl), rfl⟩
theorem tb_192 : q_in (.fieldLink "CardNobodyReads$Tape" 9 "CardNobodyReads$Tape" "bytes" "[I") := ⟨tbm_1 _ (List.mem_of_getElem? (i := 123) rfl), rfl⟩
theorem tb_193 : q_in (.fieldLink "CardNobodyReads$Tape" 15 "CardNobodyReads$Tape" "tokens" "[I") := ⟨tbm_1 _ (List.mem_of_getElem? (i := 124) rfl), rfl⟩
theorem tb_194 : q_in (.fieldLinkNest "CardNobodyReads$Texts" 90 "CardNobodyReads$Tape" "tokens" "[I" "CardNobodyReads") := ⟨tbm_1 _ (List.mem_of_getElem? (i := 125) rfl), rfl⟩
theorem tb_195 : q_in (.fieldLink "CardNobodyReads$Tape" 18 "CardNobodyReads$Tape" "places" "[I") := ⟨tbm_1 _ (List.mem_of_getElem? (i := 126) rfl), rfl⟩
theorem tb_196 : q_in (.fieldLinkNest "CardNobodyReads$Texts" 69 "CardNobodyReads$Tape" "places" "[I" "CardNobodyReads") := ⟨tbm_1 _ (List.mem_of_getElem? (i := 127) rfl), rfl⟩
theorem tb_197 : q_in (.fieldLink "CardNobodyReads$Tape" 21 "CardNobodyReads$Tape" "size" "I") := ⟨tbm_1 _ (List.mem_of_getElem? (i := 128) rfl), rfl⟩
theorem tb_198 : q_in (.fieldLinkNest "CardNobodyReads" 132 "CardNobodyReads$Tape" "size" "I" "CardNobodyReads") := ⟨tbm_1 _ (List.mem_of_getElem? (i := 129) rfl), rfl⟩
theorem tb_199 : q_in (.laysFinal "CardNobodyReads$Tape" "CardNobodyReads$Tape" "bytes" "[I") := ⟨tbm_1 _ (List.mem_of_getElem? (i := 130) rfl), rfl⟩
theorem tb_201 : q_in (.laysFinal "CardNobodyReads$Tape" "CardNobodyReads$Tape" "tokens" "[I") := ⟨tbm_1 _ (List.mem_of_getElem? (i := 132) rfl), rfl⟩
theorem tb_203 : q_in (.laysFinal "CardNobodyReads$Tape" "CardNobodyReads$Tape" "places" "[I") := ⟨tbm_1 _ (List.mem_of_getElem? (i := 134) rfl), rfl⟩
theorem tb_205 : q_in (.lays "CardNobodyReads$Tape" "CardNobodyReads$Tape" "size" "I") := ⟨tbm_1 _ (List.mem_of_getElem? (i := 136) rfl), rfl⟩
theorem tb_210 : q_in (.instanceMethod yJ0_length_8abf5) := ⟨tbm_1 _ (List.mem_of_getElem? (i := 141) rfl), rfl⟩
theorem tb_211 : q_in (.selects "java/lang/String" yJ0_length_8abf5 yJ0_length_8abf5) := ⟨tbm_1 _ (List.mem_of_getElem? (i := 142) rfl), rfl⟩
theorem tb_212 : q_in (.code yJ0_length_8abf5 cJ0_length_8abf5 1 (some .int)) := ⟨tbm_1 _ (List.mem_of_getElem? (i := 143) rfl), rfl⟩
theorem tb_213 : q_in (.methodLink "java/lang/String" 335 yJ0_coder_7d493) := ⟨tbm_1 _ (List.mem_of_getElem? (i := 144) rfl), rfl⟩
theorem tb_214 : q_in (.instanceMethod yJ0_coder_7d493) := ⟨tbm_1 _ (List.mem_of_getElem? (i := 145) rfl), rfl⟩
theorem tb_215 : q_in (.selects "java/lang/String" yJ0_coder_7d493 yJ0_coder_7d493) := ⟨tbm_1 _ (List.mem_of_getElem? (i := 146) rfl), rfl⟩
theorem tb_216 : q_in (.code yJ0_coder_7d493 cJ0_coder_7d493 1 (some .byte)) := ⟨tbm_1 _ (List.mem_of_getElem? (i := 147) rfl), rfl⟩
theorem tb_217 : q_in (.fieldLink "java/lang/String" 38 "java/lang/String" "COMPACT_STRINGS" "Z") := ⟨tbm_1 _ (List.mem_of_getElem? (i := 148) rfl), rfl⟩
theorem tb_220 : q_in (.instanceMethod yJ0_charAt_5068e) := ⟨tbm_1 _ (List.mem_of_getElem? (i := 151) rfl), rfl⟩
theorem tb_221 : q_in (.selects "java/lang/String" yJ0_charAt_5068e yJ0_charAt_5068e) := ⟨tbm_1 _ (List.mem_of_getElem? (i := 152) rfl), rfl⟩
theorem tb_222 : q_in (.code yJ0_charAt_5068e cJ0_charAt_5068e 2 (some .char)) := ⟨tbm_1 _ (List.mem_of_getElem? (i := 153) rfl), rfl⟩
theorem tb_223 : q_in (.methodLink "java/lang/String" 492 yJ0_isLatin1_aae02) := ⟨tbm_1 _ (List.mem_of_getElem? (i := 154) rfl), rfl⟩
theorem tb_224 : q_in (.instanceMethod yJ0_isLatin1_aae02) := ⟨tbm_1 _ (List.mem_of_getElem? (i := 155) rfl), rfl⟩
theorem tb_225 : q_in (.selects "java/lang/String" yJ0_isLatin1_aae02 yJ0_isLatin1_aae02) := ⟨tbm_1 _ (List.mem_of_getElem? (i := 156) rfl), rfl⟩
theorem tb_226 : q_in (.code yJ0_isLatin1_aae02 cJ0_isLatin1_aae02 1 (some .boolean)) := ⟨tbm_1 _ (List.mem_of_getElem? (i := 157) rfl), rfl⟩
theorem tb_227 : q_in (.methodLink "java/lang/String" 495 yJ1_charAt_3b067) := ⟨tbm_1 _ (List.mem_of_getElem? (i := 158) rfl), rfl⟩
theorem tb_228 : q_in (.static yJ1_charAt_3b067) := ⟨tbm_1 _ (List.mem_of_getElem? (i := 159) rfl), rfl⟩
theorem tb_229 : q_in (.code yJ1_charAt_3b067 cJ1_charAt_3b067 2 (some .char)) := ⟨tbm_1 _ (List.mem_of_getElem? (i := 160) rfl), rfl⟩
theorem tb_230 : q_in (.methodLink "java/lang/StringLatin1" 9 yJ0_checkIndex_df160) := ⟨tbm_1 _ (List.mem_of_getElem? (i := 161) rfl), rfl⟩
theorem tb_231 : q_in (.static yJ0_checkIndex_df160) := ⟨tbm_1 _ (List.mem_of_getElem? (i := 162) rfl), rfl⟩
theorem tb_232 : q_in (.code yJ0_checkIndex_df160 cJ0_checkIndex_df160 2 none) := ⟨tbm_1 _ (List.mem_of_getElem? (i := 163) rfl), rfl⟩
theorem tb_233 : q_in (.fieldLink "java/lang/String" 1053 "jdk/internal/util/Preconditions" "SIOOBE_FORMATTER" "Ljava/util/function/BiFunction;") := ⟨tbm_1 _ (List.mem_of_getElem? (i := 164) rfl), rfl⟩
theorem tb_235 : q_in (.methodLink "java/lang/String" 1059 yJ3_checkIndex_8e157) := ⟨tbm_1 _ (List.mem_of_getElem? (i := 166) rfl), rfl⟩
theorem tb_236 : q_in (.static yJ3_checkIndex_8e157) := ⟨tbm_1 _ (List.mem_of_getElem? (i := 167) rfl), rfl⟩
theorem tb_237 : q_in (.code yJ3_checkIndex_8e157 cJ3_checkIndex_8e157 3 (some .int)) := ⟨tbm_1 _ (List.mem_of_getElem? (i := 168) rfl), rfl⟩
theorem tb_258 : q_in (.instanceMethod yX5_add) := ⟨tbm_1 _ (List.mem_of_getElem? (i := 189) rfl), rfl⟩
theorem tb_259 : q_in (.selects "CardNobodyReads$Tape" yX5_add yX5_add) := ⟨tbm_1 _ (List.mem_of_getElem? (i := 190) rfl), rfl⟩
theorem tb_260 : q_in (.code yX5_add cX5_add 2 none) := ⟨tbm_1 _ (List.mem_of_getElem? (i := 191) rfl), rfl⟩
theorem tb_261 : q_in (.methodLinkNest "CardNobodyReads$Tape" 25 yX9_put "CardNobodyReads") := ⟨tbm_1 _ (List.mem_of_getElem? (i := 192) rfl), rfl⟩
theorem tb_263 : q_in (.instanceMethod yX6_read) := ⟨tbm_1 _ (List.mem_of_getElem? (i := 194) rfl), rfl⟩
theorem tb_264 : q_in (.selects "CardNobodyReads$Texts" yX6_read yX6_read) := ⟨tbm_1 _ (List.mem_of_getElem? (i := 195) rfl), rfl⟩
theorem tb_265 : q_in (.code yX6_read cX6_read 2 (some .int)) := ⟨tbm_1 _ (List.mem_of_getElem? (i := 196) rfl), rfl⟩
theorem tb_266 : q_in (.methodLink "CardNobodyReads$Texts" 56 yX5_cut) := ⟨tbm_1 _ (List.mem_of_getElem? (i := 197) rfl), rfl⟩
theorem tb_267 : q_in (.instanceMethod yX5_cut) := ⟨tbm_1 _ (List.mem_of_getElem? (i := 198) rfl), rfl⟩
theorem tb_268 : q_in (.selects "CardNobodyReads$Tape" yX5_cut yX5_cut) := ⟨tbm_1 _ (List.mem_of_getElem? (i := 199) rfl), rfl⟩
theorem tb_269 : q_in (.code yX5_cut cX5_cut 4 none) := ⟨tbm_1 _ (List.mem_of_getElem? (i := 200) rfl), rfl⟩
theorem tb_270 : q_in (.methodLinkNest "CardNobodyReads$Tape" 29 yX9_at "CardNobodyReads") := ⟨tbm_1 _ (List.mem_of_getElem? (i := 201) rfl), rfl⟩
theorem tb_271 : q_in (.methodLink "CardNobodyReads$Tape" 33 yX5_isBlank) := ⟨tbm_1 _ (List.mem_of_getElem? (i := 202) rfl), rfl⟩
theorem tb_272 : q_in (.static yX5_isBlank) := ⟨tbm_1 _ (List.mem_of_getElem? (i := 203) rfl), rfl⟩
theorem tb_273 : q_in (.code yX5_isBlank cX5_isBlank 1 (some .boolean)) := ⟨tbm_1 _ (List.mem_of_getElem? (i := 204) rfl), rfl⟩
theorem tb_274 : q_in (.methodLink "CardNobodyReads$Tape" 37 yX5_endOf) := ⟨tbm_1 _ (List.mem_of_getElem? (i := 205) rfl), rfl⟩
theorem tb_276 : q_in (.instanceMethod yX5_endOf) := ⟨tbm_1 _ (List.mem_of_getElem? (i := 207) rfl), rfl⟩
theorem tb_277 : q_in (.code yX5_endOf cX5_endOf 5 (some .int)) := ⟨tbm_1 _ (List.mem_of_getElem? (i := 208) rfl), rfl⟩
theorem tb_278 : q_in (.methodLink "CardNobodyReads$Tape" 49 yX5_isLetter) := ⟨tbm_1 _ (List.mem_of_getElem? (i := 209) rfl), rfl⟩
theorem tb_279 : q_in (.static yX5_isLetter) := ⟨tbm_1 _ (List.mem_of_getElem? (i := 210) rfl), rfl⟩
theorem tb_280 : q_in (.code yX5_isLetter cX5_isLetter 1 (some .boolean)) := ⟨tbm_1 _ (List.mem_of_getElem? (i := 211) rfl), rfl⟩
theorem tb_281 : q_in (.methodLinkNest "CardNobodyReads$Tape" 45 yX9_within "CardNobodyReads") := ⟨tbm_1 _ (List.mem_of_getElem? (i := 212) rfl), rfl⟩
theorem tb_282 : q_in (.static yX9_within) := ⟨tbm_1 _ (List.mem_of_getElem? (i := 213) rfl), rfl⟩
theorem tb_283 : q_in (.code yX9_within cX9_within 3 (some .boolean)) := ⟨tbm_1 _ (List.mem_of_getElem? (i := 214) rfl), rfl⟩
theorem tb_284 : q_in (.methodLink "CardNobodyReads$Tape" 52 yX5_isDigit) := ⟨tbm_1 _ (List.mem_of_getElem? (i := 215) rfl), rfl⟩
theorem tb_285 : q_in (.static yX5_isDigit) := ⟨tbm_1 _ (List.mem_of_getElem? (i := 216) rfl), rfl⟩
theorem tb_286 : q_in (.code yX5_isDigit cX5_isDigit 1 (some .boolean)) := ⟨tbm_1 _ (List.mem_of_getElem? (i := 217) rfl), rfl⟩
theorem tb_287 : q_in (.methodLink "CardNobodyReads$Tape" 41 yX5_tokenOf) := ⟨tbm_1 _ (List.mem_of_getElem? (i := 218) rfl), rfl⟩
theorem tb_289 : q_in (.instanceMethod yX5_tokenOf) := ⟨tbm_1 _ (List.mem_of_getElem? (i := 220) rfl), rfl⟩
theorem tb_290 : q_in (.code yX5_tokenOf cX5_tokenOf 4 (some .int)) := ⟨tbm_1 _ (List.mem_of_getElem? (i := 221) rfl), rfl⟩
theorem tb_291 : q_in (.methodLink "CardNobodyReads$Tape" 55 yX5_word) := ⟨tbm_1 _ (List.mem_of_getElem? (i := 222) rfl), rfl⟩
theorem tb_293 : q_in (.instanceMethod yX5_word) := ⟨tbm_1 _ (List.mem_of_getElem? (i := 224) rfl), rfl⟩
theorem tb_294 : q_in (.code yX5_word cX5_word 3 (some .int)) := ⟨tbm_1 _ (List.mem_of_getElem? (i := 225) rfl), rfl⟩
theorem tb_296 : q_in (.methodLink "CardNobodyReads$Tape" 70 yX5_spells) := ⟨tbm_1 _ (List.mem_of_getElem? (i := 227) rfl), rfl⟩
theorem tb_298 : q_in (.instanceMethod yX5_spells) := ⟨tbm_1 _ (List.mem_of_getElem? (i := 229) rfl), rfl⟩
theorem tb_299 : q_in (.code yX5_spells cX5_spells 5 (some .boolean)) := ⟨tbm_1 _ (List.mem_of_getElem? (i := 230) rfl), rfl⟩
theorem tb_300 : q_in (.methodLink "CardNobodyReads$Tape" 98 yJ0_length_8abf5) := ⟨tbm_1 _ (List.mem_of_getElem? (i := 231) rfl), rfl⟩
theorem tb_301 : q_in (.methodLink "CardNobodyReads$Tape" 102 yJ0_charAt_5068e) := ⟨tbm_1 _ (List.mem_of_getElem? (i := 232) rfl), rfl⟩
theorem tb_313 : q_in (.methodLink "CardNobodyReads$Tape" 58 yX5_value) := ⟨tbm_2 _ (List.mem_of_getElem? (i := 4) rfl), rfl⟩
theorem tb_315 : q_in (.instanceMethod yX5_value) := ⟨tbm_2 _ (List.mem_of_getElem? (i := 6) rfl), rfl⟩
theorem tb_316 : q_in (.code yX5_value cX5_value 5 (some .int)) := ⟨tbm_2 _ (List.mem_of_getElem? (i := 7) rfl), rfl⟩
theorem tb_318 : q_in (.methodLink "CardNobodyReads$Tape" 63 yJ0_indexOf_0f7a4) := ⟨tbm_2 _ (List.mem_of_getElem? (i := 9) rfl), rfl⟩
theorem tb_319 : q_in (.instanceMethod yJ0_indexOf_0f7a4) := ⟨tbm_2 _ (List.mem_of_getElem? (i := 10) rfl), rfl⟩
theorem tb_320 : q_in (.selects "java/lang/String" yJ0_indexOf_0f7a4 yJ0_indexOf_0f7a4) := ⟨tbm_2 _ (List.mem_of_getElem? (i := 11) rfl), rfl⟩
theorem tb_321 : q_in (.code yJ0_indexOf_0f7a4 cJ0_indexOf_0f7a4 2 (some .int)) := ⟨tbm_2 _ (List.mem_of_getElem? (i := 12) rfl), rfl⟩
theorem tb_322 : q_in (.methodLink "java/lang/String" 633 yJ0_indexOf_7cf53) := ⟨tbm_2 _ (List.mem_of_getElem? (i := 13) rfl), rfl⟩
theorem tb_323 : q_in (.instanceMethod yJ0_indexOf_7cf53) := ⟨tbm_2 _ (List.mem_of_getElem? (i := 14) rfl), rfl⟩
theorem tb_324 : q_in (.selects "java/lang/String" yJ0_indexOf_7cf53 yJ0_indexOf_7cf53) := ⟨tbm_2 _ (List.mem_of_getElem? (i := 15) rfl), rfl⟩
theorem tb_325 : q_in (.code yJ0_indexOf_7cf53 cJ0_indexOf_7cf53 3 (some .int)) := ⟨tbm_2 _ (List.mem_of_getElem? (i := 16) rfl), rfl⟩
theorem tb_326 : q_in (.methodLink "java/lang/String" 505 yJ0_length_8abf5) := ⟨tbm_2 _ (List.mem_of_getElem? (i := 17) rfl), rfl⟩
theorem tb_327 : q_in (.methodLink "java/lang/String" 637 yJ1_indexOf_4cfef) := ⟨tbm_2 _ (List.mem_of_getElem? (i := 18) rfl), rfl⟩
theorem tb_328 : q_in (.static yJ1_indexOf_4cfef) := ⟨tbm_2 _ (List.mem_of_getElem? (i := 19) rfl), rfl⟩
theorem tb_329 : q_in (.code yJ1_indexOf_4cfef cJ1_indexOf_4cfef 4 (some .int)) := ⟨tbm_2 _ (List.mem_of_getElem? (i := 20) rfl), rfl⟩
theorem tb_330 : q_in (.methodLink "java/lang/StringLatin1" 88 yJ1_canEncode_9a6ad) := ⟨tbm_2 _ (List.mem_of_getElem? (i := 21) rfl), rfl⟩
theorem tb_331 : q_in (.static yJ1_canEncode_9a6ad) := ⟨tbm_2 _ (List.mem_of_getElem? (i := 22) rfl), rfl⟩
theorem tb_332 : q_in (.code yJ1_canEncode_9a6ad cJ1_canEncode_9a6ad 1 (some .boolean)) := ⟨tbm_2 _ (List.mem_of_getElem? (i := 23) rfl), rfl⟩
theorem tb_333 : q_in (.methodLink "java/lang/StringLatin1" 92 Lib.Math.max.name) := ⟨tbm_2 _ (List.mem_of_getElem? (i := 24) rfl), rfl⟩
theorem tb_334 : q_in (.methodLink "java/lang/StringLatin1" 38 Lib.Math.min.name) := ⟨tbm_2 _ (List.mem_of_getElem? (i := 25) rfl), rfl⟩
theorem tb_335 : q_in (.static Lib.Math.min.name) := ⟨tbm_2 _ (List.mem_of_getElem? (i := 26) rfl), rfl⟩
theorem tb_336 : q_in (.code Lib.Math.min.name Lib.Math.min.code 2 (some .int)) := ⟨tbm_2 _ (List.mem_of_getElem? (i := 27) rfl), rfl⟩
theorem tb_337 : q_in (.methodLink "java/lang/StringLatin1" 95 yJ1_indexOfChar_4cfef) := ⟨tbm_2 _ (List.mem_of_getElem? (i := 28) rfl), rfl⟩
theorem tb_338 : q_in (.static yJ1_indexOfChar_4cfef) := ⟨tbm_2 _ (List.mem_of_getElem? (i := 29) rfl), rfl⟩
theorem tb_339 : q_in (.code yJ1_indexOfChar_4cfef cJ1_indexOfChar_4cfef 6 (some .int)) := ⟨tbm_2 _ (List.mem_of_getElem? (i := 30) rfl), rfl⟩
theorem tb_375 : q_in (.methodLink "CardNobodyReads$Texts" 59 yX6_readPart) := ⟨tbm_2 _ (List.mem_of_getElem? (i := 66) rfl), rfl⟩
theorem tb_377 : q_in (.instanceMethod yX6_readPart) := ⟨tbm_2 _ (List.mem_of_getElem? (i := 68) rfl), rfl⟩
theorem tb_378 : q_in (.code yX6_readPart cX6_readPart 3 (some .boolean)) := ⟨tbm_2 _ (List.mem_of_getElem? (i := 69) rfl), rfl⟩
theorem tb_379 : q_in (.methodLink "CardNobodyReads$Texts" 79 yX6_pass) := ⟨tbm_2 _ (List.mem_of_getElem? (i := 70) rfl), rfl⟩
theorem tb_381 : q_in (.instanceMethod yX6_pass) := ⟨tbm_2 _ (List.mem_of_getElem? (i := 72) rfl), rfl⟩
theorem tb_382 : q_in (.code yX6_pass cX6_pass 2 (some .boolean)) := ⟨tbm_2 _ (List.mem_of_getElem? (i := 73) rfl), rfl⟩
theorem tb_383 : q_in (.methodLink "CardNobodyReads$Texts" 63 yX6_token) := ⟨tbm_2 _ (List.mem_of_getElem? (i := 74) rfl), rfl⟩
theorem tb_385 : q_in (.instanceMethod yX6_token) := ⟨tbm_2 _ (List.mem_of_getElem? (i := 76) rfl), rfl⟩
theorem tb_386 : q_in (.code yX6_token cX6_token 1 (some .int)) := ⟨tbm_2 _ (List.mem_of_getElem? (i := 77) rfl), rfl⟩
theorem tb_387 : q_in (.methodLinkNest "CardNobodyReads$Texts" 72 yX9_at "CardNobodyReads") := ⟨tbm_2 _ (List.mem_of_getElem? (i := 78) rfl), rfl⟩
theorem tb_388 : q_in (.methodLink "CardNobodyReads$Texts" 83 yX6_readEither) := ⟨tbm_2 _ (List.mem_of_getElem? (i := 79) rfl), rfl⟩
theorem tb_390 : q_in (.instanceMethod yX6_readEither) := ⟨tbm_2 _ (List.mem_of_getElem? (i := 81) rfl), rfl⟩
theorem tb_391 : q_in (.code yX6_readEither cX6_readEither 3 (some .boolean)) := ⟨tbm_2 _ (List.mem_of_getElem? (i := 82) rfl), rfl⟩
theorem tb_392 : q_in (.methodLink "CardNobodyReads$Texts" 93 yX6_readBoth) := ⟨tbm_2 _ (List.mem_of_getElem? (i := 83) rfl), rfl⟩
theorem tb_394 : q_in (.instanceMethod yX6_readBoth) := ⟨tbm_2 _ (List.mem_of_getElem? (i := 85) rfl), rfl⟩
theorem tb_395 : q_in (.code yX6_readBoth cX6_readBoth 3 (some .boolean)) := ⟨tbm_2 _ (List.mem_of_getElem? (i := 86) rfl), rfl⟩
theorem tb_396 : q_in (.methodLink "CardNobodyReads$Texts" 99 yX6_readNot) := ⟨tbm_2 _ (List.mem_of_getElem? (i := 87) rfl), rfl⟩
theorem tb_398 : q_in (.instanceMethod yX6_readNot) := ⟨tbm_2 _ (List.mem_of_getElem? (i := 89) rfl), rfl⟩
theorem tb_399 : q_in (.code yX6_readNot cX6_readNot 2 (some .boolean)) := ⟨tbm_2 _ (List.mem_of_getElem? (i := 90) rfl), rfl⟩
theorem tb_400 : q_in (.methodLink "CardNobodyReads$Texts" 102 yX6_readCompared) := ⟨tbm_2 _ (List.mem_of_getElem? (i := 91) rfl), rfl⟩
theorem tb_402 : q_in (.instanceMethod yX6_readCompared) := ⟨tbm_2 _ (List.mem_of_getElem? (i := 93) rfl), rfl⟩
theorem tb_403 : q_in (.code yX6_readCompared cX6_readCompared 3 (some .boolean)) := ⟨tbm_2 _ (List.mem_of_getElem? (i := 94) rfl), rfl⟩
theorem tb_404 : q_in (.methodLink "CardNobodyReads$Texts" 105 yX6_readSum) := ⟨tbm_2 _ (List.mem_of_getElem? (i := 95) rfl), rfl⟩
theorem tb_406 : q_in (.instanceMethod yX6_readSum) := ⟨tbm_2 _ (List.mem_of_getElem? (i := 97) rfl), rfl⟩
theorem tb_407 : q_in (.code yX6_readSum cX6_readSum 4 (some .boolean)) := ⟨tbm_2 _ (List.mem_of_getElem? (i := 98) rfl), rfl⟩
theorem tb_408 : q_in (.methodLink "CardNobodyReads$Texts" 108 yX6_readTerm) := ⟨tbm_2 _ (List.mem_of_getElem? (i := 99) rfl), rfl⟩
theorem tb_410 : q_in (.instanceMethod yX6_readTerm) := ⟨tbm_2 _ (List.mem_of_getElem? (i := 101) rfl), rfl⟩
theorem tb_411 : q_in (.code yX6_readTerm cX6_readTerm 3 (some .boolean)) := ⟨tbm_2 _ (List.mem_of_getElem? (i := 102) rfl), rfl⟩
theorem tb_412 : q_in (.methodLink "CardNobodyReads$Texts" 111 yX6_readOne) := ⟨tbm_2 _ (List.mem_of_getElem? (i := 103) rfl), rfl⟩
theorem tb_414 : q_in (.instanceMethod yX6_readOne) := ⟨tbm_2 _ (List.mem_of_getElem? (i := 105) rfl), rfl⟩
theorem tb_415 : q_in (.code yX6_readOne cX6_readOne 3 (some .boolean)) := ⟨tbm_2 _ (List.mem_of_getElem? (i := 106) rfl), rfl⟩
theorem tb_416 : q_in (.methodLink "CardNobodyReads$Texts" 96 yX6_write) := ⟨tbm_2 _ (List.mem_of_getElem? (i := 107) rfl), rfl⟩
theorem tb_418 : q_in (.instanceMethod yX6_write) := ⟨tbm_2 _ (List.mem_of_getElem? (i := 109) rfl), rfl⟩
theorem tb_419 : q_in (.code yX6_write cX6_write 2 none) := ⟨tbm_2 _ (List.mem_of_getElem? (i := 110) rfl), rfl⟩
theorem tb_420 : q_in (.methodLinkNest "CardNobodyReads$Texts" 86 yX9_put "CardNobodyReads") := ⟨tbm_2 _ (List.mem_of_getElem? (i := 111) rfl), rfl⟩
theorem tb_421 : q_in (.methodLink "CardNobodyReads$Texts" 66 yX5_empty) := ⟨tbm_2 _ (List.mem_of_getElem? (i := 112) rfl), rfl⟩
theorem tb_422 : q_in (.instanceMethod yX5_empty) := ⟨tbm_2 _ (List.mem_of_getElem? (i := 113) rfl), rfl⟩
theorem tb_423 : q_in (.selects "CardNobodyReads$Tape" yX5_empty yX5_empty) := ⟨tbm_2 _ (List.mem_of_getElem? (i := 114) rfl), rfl⟩
theorem tb_424 : q_in (.code yX5_empty cX5_empty 1 none) := ⟨tbm_2 _ (List.mem_of_getElem? (i := 115) rfl), rfl⟩
theorem tb_425 : q_in (.fieldLink "CardNobodyReads$Texts" 12 "CardNobodyReads$Texts" "tape" "LCardNobodyReads$Tape;") := ⟨tbm_2 _ (List.mem_of_getElem? (i := 116) rfl), rfl⟩
theorem tb_426 : q_in (.fieldLinkNest "CardNobodyReads" 128 "CardNobodyReads$Texts" "tape" "LCardNobodyReads$Tape;" "CardNobodyReads") := ⟨tbm_2 _ (List.mem_of_getElem? (i := 117) rfl), rfl⟩
theorem tb_427 : q_in (.fieldLink "CardNobodyReads$Texts" 18 "CardNobodyReads$Texts" "steps" "[I") := ⟨tbm_2 _ (List.mem_of_getElem? (i := 118) rfl), rfl⟩
theorem tb_428 : q_in (.fieldLink "CardNobodyReads$Texts" 22 "CardNobodyReads$Texts" "ends" "[I") := ⟨tbm_2 _ (List.mem_of_getElem? (i := 119) rfl), rfl⟩
theorem tb_429 : q_in (.fieldLink "CardNobodyReads$Texts" 25 "CardNobodyReads$Texts" "stack" "[I") := ⟨tbm_2 _ (List.mem_of_getElem? (i := 120) rfl), rfl⟩
theorem tb_430 : q_in (.fieldLink "CardNobodyReads$Texts" 28 "CardNobodyReads$Texts" "names" "[I") := ⟨tbm_2 _ (List.mem_of_getElem? (i := 121) rfl), rfl⟩
theorem tb_431 : q_in (.fieldLink "CardNobodyReads$Texts" 76 "CardNobodyReads$Texts" "number" "I") := ⟨tbm_2 _ (List.mem_of_getElem? (i := 122) rfl), rfl⟩
theorem tb_432 : q_in (.fieldLinkNest "CardNobodyReads" 124 "CardNobodyReads$Texts" "number" "I" "CardNobodyReads") := ⟨tbm_2 _ (List.mem_of_getElem? (i := 123) rfl), rfl⟩
theorem tb_433 : q_in (.fieldLink "CardNobodyReads$Texts" 50 "CardNobodyReads$Texts" "length" "I") := ⟨tbm_2 _ (List.mem_of_getElem? (i := 124) rfl), rfl⟩
theorem tb_434 : q_in (.fieldLink "CardNobodyReads$Texts" 53 "CardNobodyReads$Texts" "next" "I") := ⟨tbm_2 _ (List.mem_of_getElem? (i := 125) rfl), rfl⟩
theorem tb_435 : q_in (.laysFinal "CardNobodyReads$Texts" "CardNobodyReads$Texts" "tape" "LCardNobodyReads$Tape;") := ⟨tbm_2 _ (List.mem_of_getElem? (i := 126) rfl), rfl⟩
theorem tb_437 : q_in (.laysFinal "CardNobodyReads$Texts" "CardNobodyReads$Texts" "steps" "[I") := ⟨tbm_2 _ (List.mem_of_getElem? (i := 128) rfl), rfl⟩
theorem tb_439 : q_in (.laysFinal "CardNobodyReads$Texts" "CardNobodyReads$Texts" "ends" "[I") := ⟨tbm_2 _ (List.mem_of_getElem? (i := 130) rfl), rfl⟩
theorem tb_441 : q_in (.laysFinal "CardNobodyReads$Texts" "CardNobodyReads$Texts" "stack" "[I") := ⟨tbm_2 _ (List.mem_of_getElem? (i := 132) rfl), rfl⟩
theorem tb_443 : q_in (.laysFinal "CardNobodyReads$Texts" "CardNobodyReads$Texts" "names" "[I") := ⟨tbm_2 _ (List.mem_of_getElem? (i := 134) rfl), rfl⟩
theorem tb_445 : q_in (.lays "CardNobodyReads$Texts" "CardNobodyReads$Texts" "number" "I") := ⟨tbm_2 _ (List.mem_of_getElem? (i := 136) rfl), rfl⟩
theorem tb_447 : q_in (.lays "CardNobodyReads$Texts" "CardNobodyReads$Texts" "length" "I") := ⟨tbm_2 _ (List.mem_of_getElem? (i := 138) rfl), rfl⟩
theorem tb_449 : q_in (.lays "CardNobodyReads$Texts" "CardNobodyReads$Texts" "next" "I") := ⟨tbm_2 _ (List.mem_of_getElem? (i := 140) rfl), rfl⟩
theorem tb_459 : q_in (.fieldLink "CardNobodyReads$Fits" 9 "CardNobodyReads$Fits" "fitting" "[I") := ⟨tbm_2 _ (List.mem_of_getElem? (i := 150) rfl), rfl⟩
theorem tb_460 : q_in (.fieldLink "CardNobodyReads$Fits" 15 "CardNobodyReads$Fits" "meanings" "[I") := ⟨tbm_2 _ (List.mem_of_getElem? (i := 151) rfl), rfl⟩
theorem tb_461 : q_in (.fieldLink "CardNobodyReads$Fits" 18 "CardNobodyReads$Fits" "havings" "[I") := ⟨tbm_2 _ (List.mem_of_getElem? (i := 152) rfl), rfl⟩
theorem tb_462 : q_in (.fieldLink "CardNobodyReads$Fits" 21 "CardNobodyReads$Fits" "mays" "[I") := ⟨tbm_2 _ (List.mem_of_getElem? (i := 153) rfl), rfl⟩
theorem tb_463 : q_in (.fieldLink "CardNobodyReads$Fits" 24 "CardNobodyReads$Fits" "pairs" "[I") := ⟨tbm_2 _ (List.mem_of_getElem? (i := 154) rfl), rfl⟩
theorem tb_464 : q_in (.fieldLink "CardNobodyReads$Fits" 27 "CardNobodyReads$Fits" "number" "I") := ⟨tbm_2 _ (List.mem_of_getElem? (i := 155) rfl), rfl⟩
theorem tb_465 : q_in (.fieldLinkNest "CardNobodyReads" 181 "CardNobodyReads$Fits" "number" "I" "CardNobodyReads") := ⟨tbm_2 _ (List.mem_of_getElem? (i := 156) rfl), rfl⟩
theorem tb_466 : q_in (.fieldLink "CardNobodyReads$Fits" 31 "CardNobodyReads$Fits" "lone" "I") := ⟨tbm_2 _ (List.mem_of_getElem? (i := 157) rfl), rfl⟩
theorem tb_467 : q_in (.fieldLinkNest "CardNobodyReads" 264 "CardNobodyReads$Fits" "lone" "I" "CardNobodyReads") := ⟨tbm_2 _ (List.mem_of_getElem? (i := 158) rfl), rfl⟩
theorem tb_468 : q_in (.laysFinal "CardNobodyReads$Fits" "CardNobodyReads$Fits" "fitting" "[I") := ⟨tbm_2 _ (List.mem_of_getElem? (i := 159) rfl), rfl⟩
theorem tb_470 : q_in (.laysFinal "CardNobodyReads$Fits" "CardNobodyReads$Fits" "meanings" "[I") := ⟨tbm_2 _ (List.mem_of_getElem? (i := 161) rfl), rfl⟩
theorem tb_472 : q_in (.laysFinal "CardNobodyReads$Fits" "CardNobodyReads$Fits" "havings" "[I") := ⟨tbm_2 _ (List.mem_of_getElem? (i := 163) rfl), rfl⟩
theorem tb_474 : q_in (.laysFinal "CardNobodyReads$Fits" "CardNobodyReads$Fits" "mays" "[I") := ⟨tbm_2 _ (List.mem_of_getElem? (i := 165) rfl), rfl⟩
theorem tb_476 : q_in (.laysFinal "CardNobodyReads$Fits" "CardNobodyReads$Fits" "pairs" "[I") := ⟨tbm_2 _ (List.mem_of_getElem? (i := 167) rfl), rfl⟩
theorem tb_478 : q_in (.lays "CardNobodyReads$Fits" "CardNobodyReads$Fits" "number" "I") := ⟨tbm_2 _ (List.mem_of_getElem? (i := 169) rfl), rfl⟩
theorem tb_480 : q_in (.lays "CardNobodyReads$Fits" "CardNobodyReads$Fits" "lone" "I") := ⟨tbm_2 _ (List.mem_of_getElem? (i := 171) rfl), rfl⟩
theorem tb_489 : q_in (.fieldLink "CardNobodyReads$Tonight" 9 "CardNobodyReads$Tonight" "likings" "[I") := ⟨tbm_2 _ (List.mem_of_getElem? (i := 180) rfl), rfl⟩
theorem tb_490 : q_in (.fieldLink "CardNobodyReads$Tonight" 15 "CardNobodyReads$Tonight" "way" "[I") := ⟨tbm_2 _ (List.mem_of_getElem? (i := 181) rfl), rfl⟩
theorem tb_491 : q_in (.fieldLink "CardNobodyReads$Tonight" 18 "CardNobodyReads$Tonight" "best" "[I") := ⟨tbm_2 _ (List.mem_of_getElem? (i := 182) rfl), rfl⟩
theorem tb_492 : q_in (.fieldLinkNest "CardNobodyReads" 229 "CardNobodyReads$Tonight" "best" "[I" "CardNobodyReads") := ⟨tbm_2 _ (List.mem_of_getElem? (i := 183) rfl), rfl⟩
theorem tb_493 : q_in (.fieldLink "CardNobodyReads$Tonight" 25 "CardNobodyReads$Tonight" "liked" "I") := ⟨tbm_2 _ (List.mem_of_getElem? (i := 184) rfl), rfl⟩
theorem tb_494 : q_in (.fieldLinkNest "CardNobodyReads" 232 "CardNobodyReads$Tonight" "liked" "I" "CardNobodyReads") := ⟨tbm_2 _ (List.mem_of_getElem? (i := 185) rfl), rfl⟩
theorem tb_495 : q_in (.fieldLink "CardNobodyReads$Tonight" 33 "CardNobodyReads$Tonight" "spent" "I") := ⟨tbm_2 _ (List.mem_of_getElem? (i := 186) rfl), rfl⟩
theorem tb_496 : q_in (.fieldLinkNest "CardNobodyReads" 235 "CardNobodyReads$Tonight" "spent" "I" "CardNobodyReads") := ⟨tbm_2 _ (List.mem_of_getElem? (i := 187) rfl), rfl⟩
theorem tb_497 : q_in (.laysFinal "CardNobodyReads$Tonight" "CardNobodyReads$Tonight" "likings" "[I") := ⟨tbm_2 _ (List.mem_of_getElem? (i := 188) rfl), rfl⟩
theorem tb_499 : q_in (.laysFinal "CardNobodyReads$Tonight" "CardNobodyReads$Tonight" "way" "[I") := ⟨tbm_2 _ (List.mem_of_getElem? (i := 190) rfl), rfl⟩
theorem tb_501 : q_in (.laysFinal "CardNobodyReads$Tonight" "CardNobodyReads$Tonight" "best" "[I") := ⟨tbm_2 _ (List.mem_of_getElem? (i := 192) rfl), rfl⟩
theorem tb_503 : q_in (.lays "CardNobodyReads$Tonight" "CardNobodyReads$Tonight" "liked" "I") := ⟨tbm_2 _ (List.mem_of_getElem? (i := 194) rfl), rfl⟩
theorem tb_505 : q_in (.lays "CardNobodyReads$Tonight" "CardNobodyReads$Tonight" "spent" "I") := ⟨tbm_2 _ (List.mem_of_getElem? (i := 196) rfl), rfl⟩
theorem tb_515 : q_in (.fieldLinkNest "CardNobodyReads" 307 "CardNobodyReads$Image" "prices" "[I" "CardNobodyReads") := ⟨tbm_2 _ (List.mem_of_getElem? (i := 206) rfl), rfl⟩
theorem tb_516 : q_in (.fieldLinkNest "CardNobodyReads" 162 "CardNobodyReads$Image" "there" "Z" "CardNobodyReads") := ⟨tbm_2 _ (List.mem_of_getElem? (i := 207) rfl), rfl⟩
theorem tb_517 : q_in (.fieldLinkNest "CardNobodyReads" 302 "CardNobodyReads$Image" "lines" "I" "CardNobodyReads") := ⟨tbm_2 _ (List.mem_of_getElem? (i := 208) rfl), rfl⟩
theorem tb_518 : q_in (.fieldLinkNest "CardNobodyReads" 304 "CardNobodyReads$Image" "guests" "I" "CardNobodyReads") := ⟨tbm_2 _ (List.mem_of_getElem? (i := 209) rfl), rfl⟩
theorem tb_519 : q_in (.fieldLinkNest "CardNobodyReads" 159 "CardNobodyReads$Image" "facts" "I" "CardNobodyReads") := ⟨tbm_2 _ (List.mem_of_getElem? (i := 210) rfl), rfl⟩
theorem tb_520 : q_in (.fieldLinkNest "CardNobodyReads" 305 "CardNobodyReads$Image" "coin" "I" "CardNobodyReads") := ⟨tbm_2 _ (List.mem_of_getElem? (i := 211) rfl), rfl⟩
theorem tb_521 : q_in (.fieldLinkNest "CardNobodyReads" 306 "CardNobodyReads$Image" "law" "I" "CardNobodyReads") := ⟨tbm_2 _ (List.mem_of_getElem? (i := 212) rfl), rfl⟩
theorem tb_522 : q_in (.laysFinal "CardNobodyReads$Image" "CardNobodyReads$Image" "prices" "[I") := ⟨tbm_2 _ (List.mem_of_getElem? (i := 213) rfl), rfl⟩
theorem tb_524 : q_in (.lays "CardNobodyReads$Image" "CardNobodyReads$Image" "there" "Z") := ⟨tbm_2 _ (List.mem_of_getElem? (i := 215) rfl), rfl⟩
theorem tb_526 : q_in (.lays "CardNobodyReads$Image" "CardNobodyReads$Image" "lines" "I") := ⟨tbm_2 _ (List.mem_of_getElem? (i := 217) rfl), rfl⟩
theorem tb_528 : q_in (.lays "CardNobodyReads$Image" "CardNobodyReads$Image" "guests" "I") := ⟨tbm_2 _ (List.mem_of_getElem? (i := 219) rfl), rfl⟩
theorem tb_530 : q_in (.lays "CardNobodyReads$Image" "CardNobodyReads$Image" "facts" "I") := ⟨tbm_2 _ (List.mem_of_getElem? (i := 221) rfl), rfl⟩
theorem tb_532 : q_in (.lays "CardNobodyReads$Image" "CardNobodyReads$Image" "coin" "I") := ⟨tbm_2 _ (List.mem_of_getElem? (i := 223) rfl), rfl⟩
theorem tb_534 : q_in (.lays "CardNobodyReads$Image" "CardNobodyReads$Image" "law" "I") := ⟨tbm_2 _ (List.mem_of_getElem? (i := 225) rfl), rfl⟩
theorem tb_543 : q_in (.fieldLink "CardNobodyReads$Sheets" 9 "CardNobodyReads$Sheets" "sorts" "[I") := ⟨tbm_2 _ (List.mem_of_getElem? (i := 234) rfl), rfl⟩
theorem tb_544 : q_in (.fieldLink "CardNobodyReads$Sheets" 15 "CardNobodyReads$Sheets" "sizes" "[I") := ⟨tbm_2 _ (List.mem_of_getElem? (i := 235) rfl), rfl⟩
theorem tb_545 : q_in (.fieldLink "CardNobodyReads$Sheets" 18 "CardNobodyReads$Sheets" "cells" "[I") := ⟨tbm_2 _ (List.mem_of_getElem? (i := 236) rfl), rfl⟩
theorem tb_546 : q_in (.laysFinal "CardNobodyReads$Sheets" "CardNobodyReads$Sheets" "sorts" "[I") := ⟨tbm_2 _ (List.mem_of_getElem? (i := 237) rfl), rfl⟩
theorem tb_548 : q_in (.laysFinal "CardNobodyReads$Sheets" "CardNobodyReads$Sheets" "sizes" "[I") := ⟨tbm_2 _ (List.mem_of_getElem? (i := 239) rfl), rfl⟩
theorem tb_550 : q_in (.laysFinal "CardNobodyReads$Sheets" "CardNobodyReads$Sheets" "cells" "[I") := ⟨tbm_3 _ (List.mem_of_getElem? (i := 1) rfl), rfl⟩
theorem tb_553 : q_in (.fieldLink "CardNobodyReads" 10 "CardNobodyReads" "tongues" "LCardNobodyReads$Tongues;") := ⟨tbm_3 _ (List.mem_of_getElem? (i := 4) rfl), rfl⟩
theorem tb_554 : q_in (.fieldLink "CardNobodyReads" 19 "CardNobodyReads" "card" "LCardNobodyReads$Lines;") := ⟨tbm_3 _ (List.mem_of_getElem? (i := 5) rfl), rfl⟩
theorem tb_555 : q_in (.fieldLink "CardNobodyReads" 26 "CardNobodyReads" "known" "LCardNobodyReads$Facts;") := ⟨tbm_3 _ (List.mem_of_getElem? (i := 6) rfl), rfl⟩
theorem tb_556 : q_in (.fieldLink "CardNobodyReads" 33 "CardNobodyReads" "book" "LCardNobodyReads$Texts;") := ⟨tbm_3 _ (List.mem_of_getElem? (i := 7) rfl), rfl⟩
theorem tb_557 : q_in (.fieldLink "CardNobodyReads" 40 "CardNobodyReads" "fits" "LCardNobodyReads$Fits;") := ⟨tbm_3 _ (List.mem_of_getElem? (i := 8) rfl), rfl⟩
theorem tb_558 : q_in (.fieldLink "CardNobodyReads" 47 "CardNobodyReads" "tonight" "LCardNobodyReads$Tonight;") := ⟨tbm_3 _ (List.mem_of_getElem? (i := 9) rfl), rfl⟩
theorem tb_559 : q_in (.fieldLink "CardNobodyReads" 54 "CardNobodyReads" "kept" "LCardNobodyReads$Image;") := ⟨tbm_3 _ (List.mem_of_getElem? (i := 10) rfl), rfl⟩
theorem tb_560 : q_in (.fieldLink "CardNobodyReads" 61 "CardNobodyReads" "host" "LCardNobodyReads$Sheets;") := ⟨tbm_3 _ (List.mem_of_getElem? (i := 11) rfl), rfl⟩
theorem tb_561 : q_in (.fieldLink "CardNobodyReads" 65 "CardNobodyReads" "shuns" "[I") := ⟨tbm_3 _ (List.mem_of_getElem? (i := 12) rfl), rfl⟩
theorem tb_562 : q_in (.fieldLink "CardNobodyReads" 113 "CardNobodyReads" "guests" "I") := ⟨tbm_3 _ (List.mem_of_getElem? (i := 13) rfl), rfl⟩
theorem tb_563 : q_in (.fieldLink "CardNobodyReads" 69 "CardNobodyReads" "coin" "I") := ⟨tbm_3 _ (List.mem_of_getElem? (i := 14) rfl), rfl⟩
theorem tb_564 : q_in (.fieldLink "CardNobodyReads" 125 "CardNobodyReads" "law" "I") := ⟨tbm_3 _ (List.mem_of_getElem? (i := 15) rfl), rfl⟩
theorem tb_565 : q_in (.fieldLink "CardNobodyReads" 73 "CardNobodyReads" "stale" "Z") := ⟨tbm_3 _ (List.mem_of_getElem? (i := 16) rfl), rfl⟩
theorem tb_566 : q_in (.laysFinal "CardNobodyReads" "CardNobodyReads" "tongues" "LCardNobodyReads$Tongues;") := ⟨tbm_3 _ (List.mem_of_getElem? (i := 17) rfl), rfl⟩
theorem tb_568 : q_in (.laysFinal "CardNobodyReads" "CardNobodyReads" "card" "LCardNobodyReads$Lines;") := ⟨tbm_3 _ (List.mem_of_getElem? (i := 19) rfl), rfl⟩
theorem tb_570 : q_in (.laysFinal "CardNobodyReads" "CardNobodyReads" "known" "LCardNobodyReads$Facts;") := ⟨tbm_3 _ (List.mem_of_getElem? (i := 21) rfl), rfl⟩
theorem tb_572 : q_in (.laysFinal "CardNobodyReads" "CardNobodyReads" "book" "LCardNobodyReads$Texts;") := ⟨tbm_3 _ (List.mem_of_getElem? (i := 23) rfl), rfl⟩
theorem tb_574 : q_in (.laysFinal "CardNobodyReads" "CardNobodyReads" "fits" "LCardNobodyReads$Fits;") := ⟨tbm_3 _ (List.mem_of_getElem? (i := 25) rfl), rfl⟩
theorem tb_576 : q_in (.laysFinal "CardNobodyReads" "CardNobodyReads" "tonight" "LCardNobodyReads$Tonight;") := ⟨tbm_3 _ (List.mem_of_getElem? (i := 27) rfl), rfl⟩
theorem tb_578 : q_in (.laysFinal "CardNobodyReads" "CardNobodyReads" "kept" "LCardNobodyReads$Image;") := ⟨tbm_3 _ (List.mem_of_getElem? (i := 29) rfl), rfl⟩
theorem tb_580 : q_in (.laysFinal "CardNobodyReads" "CardNobodyReads" "host" "LCardNobodyReads$Sheets;") := ⟨tbm_3 _ (List.mem_of_getElem? (i := 31) rfl), rfl⟩
theorem tb_582 : q_in (.laysFinal "CardNobodyReads" "CardNobodyReads" "shuns" "[I") := ⟨tbm_3 _ (List.mem_of_getElem? (i := 33) rfl), rfl⟩
theorem tb_584 : q_in (.lays "CardNobodyReads" "CardNobodyReads" "guests" "I") := ⟨tbm_3 _ (List.mem_of_getElem? (i := 35) rfl), rfl⟩
theorem tb_586 : q_in (.lays "CardNobodyReads" "CardNobodyReads" "coin" "I") := ⟨tbm_3 _ (List.mem_of_getElem? (i := 37) rfl), rfl⟩
theorem tb_588 : q_in (.lays "CardNobodyReads" "CardNobodyReads" "law" "I") := ⟨tbm_3 _ (List.mem_of_getElem? (i := 39) rfl), rfl⟩
theorem tb_590 : q_in (.lays "CardNobodyReads" "CardNobodyReads" "stale" "Z") := ⟨tbm_3 _ (List.mem_of_getElem? (i := 41) rfl), rfl⟩
theorem tb_597 : q_in (.methodLink "CardNobodyReads" 77 yX3_mayStand) := ⟨tbm_3 _ (List.mem_of_getElem? (i := 48) rfl), rfl⟩
theorem tb_598 : q_in (.static yX3_mayStand) := ⟨tbm_3 _ (List.mem_of_getElem? (i := 49) rfl), rfl⟩
theorem tb_599 : q_in (.code yX3_mayStand cX3_mayStand 2 (some .boolean)) := ⟨tbm_3 _ (List.mem_of_getElem? (i := 50) rfl), rfl⟩
theorem tb_600 : q_in (.methodLinkNest "CardNobodyReads$Lines" 21 yX9_isParts "CardNobodyReads") := ⟨tbm_3 _ (List.mem_of_getElem? (i := 51) rfl), rfl⟩
theorem tb_601 : q_in (.static yX9_isParts) := ⟨tbm_3 _ (List.mem_of_getElem? (i := 52) rfl), rfl⟩
theorem tb_602 : q_in (.code yX9_isParts cX9_isParts 1 (some .boolean)) := ⟨tbm_3 _ (List.mem_of_getElem? (i := 53) rfl), rfl⟩
theorem tb_603 : q_in (.methodLink "CardNobodyReads" 92 yX9_within) := ⟨tbm_3 _ (List.mem_of_getElem? (i := 54) rfl), rfl⟩
theorem tb_604 : q_in (.methodLink "CardNobodyReads$Lines" 25 yJ6_bitCount_0f7a4) := ⟨tbm_3 _ (List.mem_of_getElem? (i := 55) rfl), rfl⟩
theorem tb_605 : q_in (.static yJ6_bitCount_0f7a4) := ⟨tbm_3 _ (List.mem_of_getElem? (i := 56) rfl), rfl⟩
theorem tb_606 : q_in (.code yJ6_bitCount_0f7a4 cJ6_bitCount_0f7a4 1 (some .int)) := ⟨tbm_3 _ (List.mem_of_getElem? (i := 57) rfl), rfl⟩
theorem tb_607 : q_in (.constant "java/lang/Integer" 265 (Int32.ofInt 1431655765)) := ⟨tbm_3 _ (List.mem_of_getElem? (i := 58) rfl), rfl⟩
theorem tb_608 : q_in (.constant "java/lang/Integer" 266 (Int32.ofInt 858993459)) := ⟨tbm_3 _ (List.mem_of_getElem? (i := 59) rfl), rfl⟩
theorem tb_609 : q_in (.constant "java/lang/Integer" 267 (Int32.ofInt 252645135)) := ⟨tbm_3 _ (List.mem_of_getElem? (i := 60) rfl), rfl⟩
theorem tb_610 : q_in (.methodLinkNest "CardNobodyReads$Lines" 31 yX9_within "CardNobodyReads") := ⟨tbm_3 _ (List.mem_of_getElem? (i := 61) rfl), rfl⟩
theorem tb_611 : q_in (.methodLink "CardNobodyReads" 84 yX9_addLine) := ⟨tbm_3 _ (List.mem_of_getElem? (i := 62) rfl), rfl⟩
theorem tb_613 : q_in (.instanceMethod yX9_addLine) := ⟨tbm_3 _ (List.mem_of_getElem? (i := 64) rfl), rfl⟩
theorem tb_614 : q_in (.code yX9_addLine cX9_addLine 3 (some .int)) := ⟨tbm_3 _ (List.mem_of_getElem? (i := 65) rfl), rfl⟩
theorem tb_615 : q_in (.methodLink "CardNobodyReads" 329 yX3_add) := ⟨tbm_3 _ (List.mem_of_getElem? (i := 66) rfl), rfl⟩
theorem tb_616 : q_in (.instanceMethod yX3_add) := ⟨tbm_3 _ (List.mem_of_getElem? (i := 67) rfl), rfl⟩
theorem tb_617 : q_in (.selects "CardNobodyReads$Lines" yX3_add yX3_add) := ⟨tbm_3 _ (List.mem_of_getElem? (i := 68) rfl), rfl⟩
theorem tb_618 : q_in (.code yX3_add cX3_add 6 (some .int)) := ⟨tbm_3 _ (List.mem_of_getElem? (i := 69) rfl), rfl⟩
theorem tb_619 : q_in (.methodLinkNest "CardNobodyReads$Lines" 39 yX9_put "CardNobodyReads") := ⟨tbm_3 _ (List.mem_of_getElem? (i := 70) rfl), rfl⟩
theorem tb_620 : q_in (.methodLink "CardNobodyReads$Lines" 43 yX7_partsOf) := ⟨tbm_3 _ (List.mem_of_getElem? (i := 71) rfl), rfl⟩
theorem tb_621 : q_in (.instanceMethod yX7_partsOf) := ⟨tbm_3 _ (List.mem_of_getElem? (i := 72) rfl), rfl⟩
theorem tb_622 : q_in (.selects "CardNobodyReads$Tongues" yX7_partsOf yX7_partsOf) := ⟨tbm_3 _ (List.mem_of_getElem? (i := 73) rfl), rfl⟩
theorem tb_623 : q_in (.code yX7_partsOf cX7_partsOf 5 (some .int)) := ⟨tbm_3 _ (List.mem_of_getElem? (i := 74) rfl), rfl⟩
theorem tb_624 : q_in (.methodLink "CardNobodyReads$Tongues" 45 yX7_partOf) := ⟨tbm_3 _ (List.mem_of_getElem? (i := 75) rfl), rfl⟩
theorem tb_625 : q_in (.instanceMethod yX7_partOf) := ⟨tbm_3 _ (List.mem_of_getElem? (i := 76) rfl), rfl⟩
theorem tb_626 : q_in (.selects "CardNobodyReads$Tongues" yX7_partOf yX7_partOf) := ⟨tbm_3 _ (List.mem_of_getElem? (i := 77) rfl), rfl⟩
theorem tb_627 : q_in (.code yX7_partOf cX7_partOf 3 (some .int)) := ⟨tbm_3 _ (List.mem_of_getElem? (i := 78) rfl), rfl⟩
theorem tb_632 : q_in (.methodLink "CardNobodyReads" 88 yX9_isLine) := ⟨tbm_3 _ (List.mem_of_getElem? (i := 83) rfl), rfl⟩
theorem tb_634 : q_in (.instanceMethod yX9_isLine) := ⟨tbm_3 _ (List.mem_of_getElem? (i := 85) rfl), rfl⟩
theorem tb_635 : q_in (.code yX9_isLine cX9_isLine 2 (some .boolean)) := ⟨tbm_3 _ (List.mem_of_getElem? (i := 86) rfl), rfl⟩
theorem tb_636 : q_in (.methodLink "CardNobodyReads" 96 yX3_signsOf) := ⟨tbm_3 _ (List.mem_of_getElem? (i := 87) rfl), rfl⟩
theorem tb_637 : q_in (.instanceMethod yX3_signsOf) := ⟨tbm_3 _ (List.mem_of_getElem? (i := 88) rfl), rfl⟩
theorem tb_638 : q_in (.selects "CardNobodyReads$Lines" yX3_signsOf yX3_signsOf) := ⟨tbm_3 _ (List.mem_of_getElem? (i := 89) rfl), rfl⟩
theorem tb_639 : q_in (.code yX3_signsOf cX3_signsOf 2 (some .int)) := ⟨tbm_3 _ (List.mem_of_getElem? (i := 90) rfl), rfl⟩
theorem tb_640 : q_in (.methodLinkNest "CardNobodyReads$Lines" 49 yX9_at "CardNobodyReads") := ⟨tbm_3 _ (List.mem_of_getElem? (i := 91) rfl), rfl⟩
theorem tb_641 : q_in (.methodLink "CardNobodyReads" 100 yX3_priceOf) := ⟨tbm_3 _ (List.mem_of_getElem? (i := 92) rfl), rfl⟩
theorem tb_642 : q_in (.instanceMethod yX3_priceOf) := ⟨tbm_3 _ (List.mem_of_getElem? (i := 93) rfl), rfl⟩
theorem tb_643 : q_in (.selects "CardNobodyReads$Lines" yX3_priceOf yX3_priceOf) := ⟨tbm_3 _ (List.mem_of_getElem? (i := 94) rfl), rfl⟩
theorem tb_644 : q_in (.code yX3_priceOf cX3_priceOf 2 (some .int)) := ⟨tbm_3 _ (List.mem_of_getElem? (i := 95) rfl), rfl⟩
theorem tb_649 : q_in (.methodLink "CardNobodyReads" 106 yX9_put) := ⟨tbm_3 _ (List.mem_of_getElem? (i := 100) rfl), rfl⟩
theorem tb_654 : q_in (.methodLink "CardNobodyReads" 110 yX9_isParts) := ⟨tbm_3 _ (List.mem_of_getElem? (i := 105) rfl), rfl⟩
theorem tb_659 : q_in (.methodLink "CardNobodyReads" 116 yX9_isGuest) := ⟨tbm_3 _ (List.mem_of_getElem? (i := 110) rfl), rfl⟩
theorem tb_661 : q_in (.instanceMethod yX9_isGuest) := ⟨tbm_3 _ (List.mem_of_getElem? (i := 112) rfl), rfl⟩
theorem tb_662 : q_in (.code yX9_isGuest cX9_isGuest 2 (some .boolean)) := ⟨tbm_3 _ (List.mem_of_getElem? (i := 113) rfl), rfl⟩
theorem tb_663 : q_in (.methodLink "CardNobodyReads" 119 yX9_at) := ⟨tbm_3 _ (List.mem_of_getElem? (i := 114) rfl), rfl⟩
theorem tb_676 : q_in (.methodLink "CardNobodyReads" 137 yX9_isByte) := ⟨tbm_3 _ (List.mem_of_getElem? (i := 127) rfl), rfl⟩
theorem tb_677 : q_in (.static yX9_isByte) := ⟨tbm_3 _ (List.mem_of_getElem? (i := 128) rfl), rfl⟩
theorem tb_678 : q_in (.code yX9_isByte cX9_isByte 1 (some .boolean)) := ⟨tbm_3 _ (List.mem_of_getElem? (i := 129) rfl), rfl⟩
theorem tb_679 : q_in (.methodLink "CardNobodyReads" 140 yX5_add) := ⟨tbm_3 _ (List.mem_of_getElem? (i := 130) rfl), rfl⟩
theorem tb_684 : q_in (.methodLink "CardNobodyReads" 144 yX6_read) := ⟨tbm_3 _ (List.mem_of_getElem? (i := 135) rfl), rfl⟩
theorem tb_693 : q_in (.methodLink "CardNobodyReads" 148 yX6_says) := ⟨tbm_3 _ (List.mem_of_getElem? (i := 144) rfl), rfl⟩
theorem tb_694 : q_in (.instanceMethod yX6_says) := ⟨tbm_3 _ (List.mem_of_getElem? (i := 145) rfl), rfl⟩
theorem tb_695 : q_in (.selects "CardNobodyReads$Texts" yX6_says yX6_says) := ⟨tbm_3 _ (List.mem_of_getElem? (i := 146) rfl), rfl⟩
theorem tb_696 : q_in (.code yX6_says cX6_says 9 (some .int)) := ⟨tbm_3 _ (List.mem_of_getElem? (i := 147) rfl), rfl⟩
theorem tb_697 : q_in (.methodLink "CardNobodyReads$Texts" 114 yJ6_bitCount_0f7a4) := ⟨tbm_3 _ (List.mem_of_getElem? (i := 148) rfl), rfl⟩
theorem tb_698 : q_in (.methodLink "CardNobodyReads$Texts" 120 yX6_valueOf) := ⟨tbm_3 _ (List.mem_of_getElem? (i := 149) rfl), rfl⟩
theorem tb_700 : q_in (.instanceMethod yX6_valueOf) := ⟨tbm_3 _ (List.mem_of_getElem? (i := 151) rfl), rfl⟩
theorem tb_701 : q_in (.code yX6_valueOf cX6_valueOf 8 (some .int)) := ⟨tbm_3 _ (List.mem_of_getElem? (i := 152) rfl), rfl⟩
theorem tb_702 : q_in (.methodLink "CardNobodyReads$Texts" 132 yX6_joined) := ⟨tbm_3 _ (List.mem_of_getElem? (i := 153) rfl), rfl⟩
theorem tb_703 : q_in (.static yX6_joined) := ⟨tbm_3 _ (List.mem_of_getElem? (i := 154) rfl), rfl⟩
theorem tb_704 : q_in (.code yX6_joined cX6_joined 3 (some .int)) := ⟨tbm_3 _ (List.mem_of_getElem? (i := 155) rfl), rfl⟩
theorem tb_705 : q_in (.methodLink "CardNobodyReads$Texts" 124 Lib.Math.min.name) := ⟨tbm_3 _ (List.mem_of_getElem? (i := 156) rfl), rfl⟩
theorem tb_706 : q_in (.methodLink "CardNobodyReads$Texts" 129 Lib.Math.max.name) := ⟨tbm_3 _ (List.mem_of_getElem? (i := 157) rfl), rfl⟩
theorem tb_711 : q_in (.methodLink "CardNobodyReads" 152 yX9_mayBeFact) := ⟨tbm_3 _ (List.mem_of_getElem? (i := 162) rfl), rfl⟩
theorem tb_713 : q_in (.instanceMethod yX9_mayBeFact) := ⟨tbm_3 _ (List.mem_of_getElem? (i := 164) rfl), rfl⟩
theorem tb_714 : q_in (.code yX9_mayBeFact cX9_mayBeFact 5 (some .boolean)) := ⟨tbm_3 _ (List.mem_of_getElem? (i := 165) rfl), rfl⟩
theorem tb_715 : q_in (.methodLink "CardNobodyReads" 156 yX0_add) := ⟨tbm_3 _ (List.mem_of_getElem? (i := 166) rfl), rfl⟩
theorem tb_716 : q_in (.instanceMethod yX0_add) := ⟨tbm_3 _ (List.mem_of_getElem? (i := 167) rfl), rfl⟩
theorem tb_717 : q_in (.selects "CardNobodyReads$Facts" yX0_add yX0_add) := ⟨tbm_3 _ (List.mem_of_getElem? (i := 168) rfl), rfl⟩
theorem tb_718 : q_in (.code yX0_add cX0_add 6 (some .int)) := ⟨tbm_3 _ (List.mem_of_getElem? (i := 169) rfl), rfl⟩
theorem tb_719 : q_in (.methodLinkNest "CardNobodyReads$Facts" 28 yX9_put "CardNobodyReads") := ⟨tbm_3 _ (List.mem_of_getElem? (i := 170) rfl), rfl⟩
theorem tb_732 : q_in (.methodLink "CardNobodyReads" 177 yX9_fitting) := ⟨tbm_3 _ (List.mem_of_getElem? (i := 183) rfl), rfl⟩
theorem tb_734 : q_in (.instanceMethod yX9_fitting) := ⟨tbm_3 _ (List.mem_of_getElem? (i := 185) rfl), rfl⟩
theorem tb_735 : q_in (.code yX9_fitting cX9_fitting 1 (some (.object "CardNobodyReads$Fits"))) := ⟨tbm_3 _ (List.mem_of_getElem? (i := 186) rfl), rfl⟩
theorem tb_736 : q_in (.methodLink "CardNobodyReads" 332 yX1_find) := ⟨tbm_3 _ (List.mem_of_getElem? (i := 187) rfl), rfl⟩
theorem tb_737 : q_in (.instanceMethod yX1_find) := ⟨tbm_3 _ (List.mem_of_getElem? (i := 188) rfl), rfl⟩
theorem tb_738 : q_in (.selects "CardNobodyReads$Fits" yX1_find yX1_find) := ⟨tbm_3 _ (List.mem_of_getElem? (i := 189) rfl), rfl⟩
theorem tb_739 : q_in (.code yX1_find cX1_find 8 none) := ⟨tbm_3 _ (List.mem_of_getElem? (i := 190) rfl), rfl⟩
theorem tb_740 : q_in (.methodLink "CardNobodyReads$Fits" 34 yX1_clear) := ⟨tbm_3 _ (List.mem_of_getElem? (i := 191) rfl), rfl⟩
theorem tb_741 : q_in (.static yX1_clear) := ⟨tbm_3 _ (List.mem_of_getElem? (i := 192) rfl), rfl⟩
theorem tb_742 : q_in (.code yX1_clear cX1_clear 2 none) := ⟨tbm_3 _ (List.mem_of_getElem? (i := 193) rfl), rfl⟩
theorem tb_743 : q_in (.methodLink "CardNobodyReads$Fits" 38 yX1_allow) := ⟨tbm_3 _ (List.mem_of_getElem? (i := 194) rfl), rfl⟩
theorem tb_745 : q_in (.instanceMethod yX1_allow) := ⟨tbm_3 _ (List.mem_of_getElem? (i := 196) rfl), rfl⟩
theorem tb_746 : q_in (.code yX1_allow cX1_allow 8 none) := ⟨tbm_3 _ (List.mem_of_getElem? (i := 197) rfl), rfl⟩
theorem tb_747 : q_in (.methodLink "CardNobodyReads$Fits" 65 yX3_signsOf) := ⟨tbm_3 _ (List.mem_of_getElem? (i := 198) rfl), rfl⟩
theorem tb_748 : q_in (.methodLink "CardNobodyReads$Fits" 56 yJ6_bitCount_0f7a4) := ⟨tbm_3 _ (List.mem_of_getElem? (i := 199) rfl), rfl⟩
theorem tb_749 : q_in (.methodLink "CardNobodyReads$Fits" 68 yX3_priceOf) := ⟨tbm_3 _ (List.mem_of_getElem? (i := 200) rfl), rfl⟩
theorem tb_750 : q_in (.methodLink "CardNobodyReads$Fits" 71 yX6_says) := ⟨tbm_3 _ (List.mem_of_getElem? (i := 201) rfl), rfl⟩
theorem tb_751 : q_in (.methodLinkNest "CardNobodyReads$Fits" 77 yX9_put "CardNobodyReads") := ⟨tbm_3 _ (List.mem_of_getElem? (i := 202) rfl), rfl⟩
theorem tb_752 : q_in (.methodLink "CardNobodyReads$Fits" 42 yX1_isLawful) := ⟨tbm_3 _ (List.mem_of_getElem? (i := 203) rfl), rfl⟩
theorem tb_754 : q_in (.instanceMethod yX1_isLawful) := ⟨tbm_3 _ (List.mem_of_getElem? (i := 205) rfl), rfl⟩
theorem tb_755 : q_in (.code yX1_isLawful cX1_isLawful 4 (some .boolean)) := ⟨tbm_3 _ (List.mem_of_getElem? (i := 206) rfl), rfl⟩
theorem tb_756 : q_in (.methodLink "CardNobodyReads$Fits" 81 yX3_had) := ⟨tbm_3 _ (List.mem_of_getElem? (i := 207) rfl), rfl⟩
theorem tb_757 : q_in (.instanceMethod yX3_had) := ⟨tbm_3 _ (List.mem_of_getElem? (i := 208) rfl), rfl⟩
theorem tb_758 : q_in (.selects "CardNobodyReads$Lines" yX3_had yX3_had) := ⟨tbm_3 _ (List.mem_of_getElem? (i := 209) rfl), rfl⟩
theorem tb_759 : q_in (.code yX3_had cX3_had 3 (some .int)) := ⟨tbm_3 _ (List.mem_of_getElem? (i := 210) rfl), rfl⟩
theorem tb_760 : q_in (.methodLinkNest "CardNobodyReads$Fits" 85 yX9_at "CardNobodyReads") := ⟨tbm_3 _ (List.mem_of_getElem? (i := 211) rfl), rfl⟩
theorem tb_761 : q_in (.methodLink "CardNobodyReads$Fits" 46 yX0_brokenIn) := ⟨tbm_3 _ (List.mem_of_getElem? (i := 212) rfl), rfl⟩
theorem tb_762 : q_in (.instanceMethod yX0_brokenIn) := ⟨tbm_3 _ (List.mem_of_getElem? (i := 213) rfl), rfl⟩
theorem tb_763 : q_in (.selects "CardNobodyReads$Facts" yX0_brokenIn yX0_brokenIn) := ⟨tbm_3 _ (List.mem_of_getElem? (i := 214) rfl), rfl⟩
theorem tb_764 : q_in (.code yX0_brokenIn cX0_brokenIn 7 (some .int)) := ⟨tbm_3 _ (List.mem_of_getElem? (i := 215) rfl), rfl⟩
theorem tb_765 : q_in (.methodLinkNest "CardNobodyReads$Facts" 38 yX9_at "CardNobodyReads") := ⟨tbm_3 _ (List.mem_of_getElem? (i := 216) rfl), rfl⟩
theorem tb_766 : q_in (.methodLink "CardNobodyReads$Facts" 42 yX3_had) := ⟨tbm_3 _ (List.mem_of_getElem? (i := 217) rfl), rfl⟩
theorem tb_767 : q_in (.methodLink "CardNobodyReads$Facts" 48 yX0_holds) := ⟨tbm_3 _ (List.mem_of_getElem? (i := 218) rfl), rfl⟩
theorem tb_768 : q_in (.static yX0_holds) := ⟨tbm_3 _ (List.mem_of_getElem? (i := 219) rfl), rfl⟩
theorem tb_769 : q_in (.code yX0_holds cX0_holds 6 (some .boolean)) := ⟨tbm_3 _ (List.mem_of_getElem? (i := 220) rfl), rfl⟩
theorem tb_770 : q_in (.methodLink "CardNobodyReads$Facts" 32 yJ6_bitCount_0f7a4) := ⟨tbm_3 _ (List.mem_of_getElem? (i := 221) rfl), rfl⟩
theorem tb_771 : q_in (.methodLink "CardNobodyReads$Fits" 52 yX1_take) := ⟨tbm_3 _ (List.mem_of_getElem? (i := 222) rfl), rfl⟩
theorem tb_773 : q_in (.instanceMethod yX1_take) := ⟨tbm_3 _ (List.mem_of_getElem? (i := 224) rfl), rfl⟩
theorem tb_774 : q_in (.code yX1_take cX1_take 6 none) := ⟨tbm_3 _ (List.mem_of_getElem? (i := 225) rfl), rfl⟩
theorem tb_775 : q_in (.methodLink "CardNobodyReads$Fits" 89 yX7_partOf) := ⟨tbm_3 _ (List.mem_of_getElem? (i := 226) rfl), rfl⟩
theorem tb_780 : q_in (.methodLink "CardNobodyReads" 182 yX9_isSign) := ⟨tbm_3 _ (List.mem_of_getElem? (i := 231) rfl), rfl⟩
theorem tb_781 : q_in (.static yX9_isSign) := ⟨tbm_3 _ (List.mem_of_getElem? (i := 232) rfl), rfl⟩
theorem tb_782 : q_in (.code yX9_isSign cX9_isSign 1 (some .boolean)) := ⟨tbm_3 _ (List.mem_of_getElem? (i := 233) rfl), rfl⟩
theorem tb_783 : q_in (.methodLink "CardNobodyReads" 185 yX1_tongueOf) := ⟨tbm_3 _ (List.mem_of_getElem? (i := 234) rfl), rfl⟩
theorem tb_784 : q_in (.instanceMethod yX1_tongueOf) := ⟨tbm_3 _ (List.mem_of_getElem? (i := 235) rfl), rfl⟩
theorem tb_785 : q_in (.selects "CardNobodyReads$Fits" yX1_tongueOf yX1_tongueOf) := ⟨tbm_3 _ (List.mem_of_getElem? (i := 236) rfl), rfl⟩
theorem tb_786 : q_in (.code yX1_tongueOf cX1_tongueOf 2 (some .int)) := ⟨tbm_3 _ (List.mem_of_getElem? (i := 237) rfl), rfl⟩
theorem tb_787 : q_in (.methodLink "CardNobodyReads" 188 yX7_partOf) := ⟨tbm_3 _ (List.mem_of_getElem? (i := 238) rfl), rfl⟩
theorem tb_792 : q_in (.methodLink "CardNobodyReads" 191 yX9_isPart) := ⟨tbm_4 _ (List.mem_of_getElem? (i := 3) rfl), rfl⟩
theorem tb_793 : q_in (.static yX9_isPart) := ⟨tbm_4 _ (List.mem_of_getElem? (i := 4) rfl), rfl⟩
theorem tb_794 : q_in (.code yX9_isPart cX9_isPart 1 (some .boolean)) := ⟨tbm_4 _ (List.mem_of_getElem? (i := 5) rfl), rfl⟩
theorem tb_795 : q_in (.methodLink "CardNobodyReads" 194 yX1_meaning) := ⟨tbm_4 _ (List.mem_of_getElem? (i := 6) rfl), rfl⟩
theorem tb_796 : q_in (.instanceMethod yX1_meaning) := ⟨tbm_4 _ (List.mem_of_getElem? (i := 7) rfl), rfl⟩
theorem tb_797 : q_in (.selects "CardNobodyReads$Fits" yX1_meaning yX1_meaning) := ⟨tbm_4 _ (List.mem_of_getElem? (i := 8) rfl), rfl⟩
theorem tb_798 : q_in (.code yX1_meaning cX1_meaning 3 (some .int)) := ⟨tbm_4 _ (List.mem_of_getElem? (i := 9) rfl), rfl⟩
theorem tb_807 : q_in (.methodLink "CardNobodyReads" 197 yX1_meaningsOf) := ⟨tbm_4 _ (List.mem_of_getElem? (i := 18) rfl), rfl⟩
theorem tb_808 : q_in (.instanceMethod yX1_meaningsOf) := ⟨tbm_4 _ (List.mem_of_getElem? (i := 19) rfl), rfl⟩
theorem tb_809 : q_in (.selects "CardNobodyReads$Fits" yX1_meaningsOf yX1_meaningsOf) := ⟨tbm_4 _ (List.mem_of_getElem? (i := 20) rfl), rfl⟩
theorem tb_810 : q_in (.code yX1_meaningsOf cX1_meaningsOf 4 (some .int)) := ⟨tbm_4 _ (List.mem_of_getElem? (i := 21) rfl), rfl⟩
theorem tb_811 : q_in (.methodLink "CardNobodyReads$Fits" 94 yX1_meaning) := ⟨tbm_4 _ (List.mem_of_getElem? (i := 22) rfl), rfl⟩
theorem tb_816 : q_in (.methodLink "CardNobodyReads" 200 yX9_isFractionPart) := ⟨tbm_4 _ (List.mem_of_getElem? (i := 27) rfl), rfl⟩
theorem tb_817 : q_in (.static yX9_isFractionPart) := ⟨tbm_4 _ (List.mem_of_getElem? (i := 28) rfl), rfl⟩
theorem tb_818 : q_in (.code yX9_isFractionPart cX9_isFractionPart 1 (some .boolean)) := ⟨tbm_4 _ (List.mem_of_getElem? (i := 29) rfl), rfl⟩
theorem tb_819 : q_in (.constantLong "CardNobodyReads" 203 (Int64.ofInt (-4611686018427387904))) := ⟨tbm_4 _ (List.mem_of_getElem? (i := 30) rfl), rfl⟩
theorem tb_820 : q_in (.methodLink "CardNobodyReads" 205 yX9_fraction) := ⟨tbm_4 _ (List.mem_of_getElem? (i := 31) rfl), rfl⟩
theorem tb_821 : q_in (.static yX9_fraction) := ⟨tbm_4 _ (List.mem_of_getElem? (i := 32) rfl), rfl⟩
theorem tb_822 : q_in (.code yX9_fraction cX9_fraction 4 (some .long)) := ⟨tbm_4 _ (List.mem_of_getElem? (i := 33) rfl), rfl⟩
theorem tb_823 : q_in (.methodLink "CardNobodyReads" 326 yX9_commonDivisor) := ⟨tbm_4 _ (List.mem_of_getElem? (i := 34) rfl), rfl⟩
theorem tb_824 : q_in (.static yX9_commonDivisor) := ⟨tbm_4 _ (List.mem_of_getElem? (i := 35) rfl), rfl⟩
theorem tb_825 : q_in (.code yX9_commonDivisor cX9_commonDivisor 6 (some .int)) := ⟨tbm_4 _ (List.mem_of_getElem? (i := 36) rfl), rfl⟩
theorem tb_830 : q_in (.methodLink "CardNobodyReads" 209 yX1_withAll) := ⟨tbm_4 _ (List.mem_of_getElem? (i := 41) rfl), rfl⟩
theorem tb_831 : q_in (.instanceMethod yX1_withAll) := ⟨tbm_4 _ (List.mem_of_getElem? (i := 42) rfl), rfl⟩
theorem tb_832 : q_in (.selects "CardNobodyReads$Fits" yX1_withAll yX1_withAll) := ⟨tbm_4 _ (List.mem_of_getElem? (i := 43) rfl), rfl⟩
theorem tb_833 : q_in (.code yX1_withAll cX1_withAll 5 (some .int)) := ⟨tbm_4 _ (List.mem_of_getElem? (i := 44) rfl), rfl⟩
theorem tb_834 : q_in (.methodLink "CardNobodyReads$Fits" 97 yX1_having) := ⟨tbm_4 _ (List.mem_of_getElem? (i := 45) rfl), rfl⟩
theorem tb_835 : q_in (.instanceMethod yX1_having) := ⟨tbm_4 _ (List.mem_of_getElem? (i := 46) rfl), rfl⟩
theorem tb_836 : q_in (.selects "CardNobodyReads$Fits" yX1_having yX1_having) := ⟨tbm_4 _ (List.mem_of_getElem? (i := 47) rfl), rfl⟩
theorem tb_837 : q_in (.code yX1_having cX1_having 3 (some .int)) := ⟨tbm_4 _ (List.mem_of_getElem? (i := 48) rfl), rfl⟩
theorem tb_842 : q_in (.methodLink "CardNobodyReads" 212 yX1_partsInAll) := ⟨tbm_4 _ (List.mem_of_getElem? (i := 53) rfl), rfl⟩
theorem tb_843 : q_in (.instanceMethod yX1_partsInAll) := ⟨tbm_4 _ (List.mem_of_getElem? (i := 54) rfl), rfl⟩
theorem tb_844 : q_in (.selects "CardNobodyReads$Fits" yX1_partsInAll yX1_partsInAll) := ⟨tbm_4 _ (List.mem_of_getElem? (i := 55) rfl), rfl⟩
theorem tb_845 : q_in (.code yX1_partsInAll cX1_partsInAll 4 (some .int)) := ⟨tbm_4 _ (List.mem_of_getElem? (i := 56) rfl), rfl⟩
theorem tb_846 : q_in (.methodLink "CardNobodyReads" 215 yX1_partsInAny) := ⟨tbm_4 _ (List.mem_of_getElem? (i := 57) rfl), rfl⟩
theorem tb_847 : q_in (.instanceMethod yX1_partsInAny) := ⟨tbm_4 _ (List.mem_of_getElem? (i := 58) rfl), rfl⟩
theorem tb_848 : q_in (.selects "CardNobodyReads$Fits" yX1_partsInAny yX1_partsInAny) := ⟨tbm_4 _ (List.mem_of_getElem? (i := 59) rfl), rfl⟩
theorem tb_849 : q_in (.code yX1_partsInAny cX1_partsInAny 4 (some .int)) := ⟨tbm_4 _ (List.mem_of_getElem? (i := 60) rfl), rfl⟩
theorem tb_854 : q_in (.methodLink "CardNobodyReads" 218 yX9_safeLines) := ⟨tbm_4 _ (List.mem_of_getElem? (i := 65) rfl), rfl⟩
theorem tb_856 : q_in (.instanceMethod yX9_safeLines) := ⟨tbm_4 _ (List.mem_of_getElem? (i := 67) rfl), rfl⟩
theorem tb_857 : q_in (.code yX9_safeLines cX9_safeLines 5 (some .int)) := ⟨tbm_4 _ (List.mem_of_getElem? (i := 68) rfl), rfl⟩
theorem tb_858 : q_in (.methodLink "CardNobodyReads" 222 yX1_withAny) := ⟨tbm_4 _ (List.mem_of_getElem? (i := 69) rfl), rfl⟩
theorem tb_859 : q_in (.instanceMethod yX1_withAny) := ⟨tbm_4 _ (List.mem_of_getElem? (i := 70) rfl), rfl⟩
theorem tb_860 : q_in (.selects "CardNobodyReads$Fits" yX1_withAny yX1_withAny) := ⟨tbm_4 _ (List.mem_of_getElem? (i := 71) rfl), rfl⟩
theorem tb_861 : q_in (.code yX1_withAny cX1_withAny 5 (some .int)) := ⟨tbm_4 _ (List.mem_of_getElem? (i := 72) rfl), rfl⟩
theorem tb_870 : q_in (.methodLink "CardNobodyReads" 225 yX9_planTonight) := ⟨tbm_4 _ (List.mem_of_getElem? (i := 81) rfl), rfl⟩
theorem tb_872 : q_in (.instanceMethod yX9_planTonight) := ⟨tbm_4 _ (List.mem_of_getElem? (i := 83) rfl), rfl⟩
theorem tb_873 : q_in (.code yX9_planTonight cX9_planTonight 5 none) := ⟨tbm_4 _ (List.mem_of_getElem? (i := 84) rfl), rfl⟩
theorem tb_874 : q_in (.methodLink "CardNobodyReads" 339 yX9_liking) := ⟨tbm_4 _ (List.mem_of_getElem? (i := 85) rfl), rfl⟩
theorem tb_876 : q_in (.instanceMethod yX9_liking) := ⟨tbm_4 _ (List.mem_of_getElem? (i := 87) rfl), rfl⟩
theorem tb_877 : q_in (.code yX9_liking cX9_liking 7 (some .int)) := ⟨tbm_4 _ (List.mem_of_getElem? (i := 88) rfl), rfl⟩
theorem tb_878 : q_in (.methodLink "CardNobodyReads" 336 yX1_having) := ⟨tbm_4 _ (List.mem_of_getElem? (i := 89) rfl), rfl⟩
theorem tb_879 : q_in (.methodLink "CardNobodyReads" 345 yX8_offer) := ⟨tbm_4 _ (List.mem_of_getElem? (i := 90) rfl), rfl⟩
theorem tb_880 : q_in (.instanceMethod yX8_offer) := ⟨tbm_4 _ (List.mem_of_getElem? (i := 91) rfl), rfl⟩
theorem tb_881 : q_in (.selects "CardNobodyReads$Tonight" yX8_offer yX8_offer) := ⟨tbm_4 _ (List.mem_of_getElem? (i := 92) rfl), rfl⟩
theorem tb_882 : q_in (.code yX8_offer cX8_offer 4 none) := ⟨tbm_4 _ (List.mem_of_getElem? (i := 93) rfl), rfl⟩
theorem tb_883 : q_in (.methodLinkNest "CardNobodyReads$Tonight" 21 yX9_put "CardNobodyReads") := ⟨tbm_4 _ (List.mem_of_getElem? (i := 94) rfl), rfl⟩
theorem tb_884 : q_in (.methodLink "CardNobodyReads" 348 yX8_plan) := ⟨tbm_4 _ (List.mem_of_getElem? (i := 95) rfl), rfl⟩
theorem tb_885 : q_in (.instanceMethod yX8_plan) := ⟨tbm_4 _ (List.mem_of_getElem? (i := 96) rfl), rfl⟩
theorem tb_886 : q_in (.selects "CardNobodyReads$Tonight" yX8_plan yX8_plan) := ⟨tbm_4 _ (List.mem_of_getElem? (i := 97) rfl), rfl⟩
theorem tb_887 : q_in (.code yX8_plan cX8_plan 6 none) := ⟨tbm_4 _ (List.mem_of_getElem? (i := 98) rfl), rfl⟩
theorem tb_888 : q_in (.methodLink "CardNobodyReads$Tonight" 29 yX8_serve) := ⟨tbm_4 _ (List.mem_of_getElem? (i := 99) rfl), rfl⟩
theorem tb_890 : q_in (.instanceMethod yX8_serve) := ⟨tbm_4 _ (List.mem_of_getElem? (i := 101) rfl), rfl⟩
theorem tb_891 : q_in (.code yX8_serve cX8_serve 9 none) := ⟨tbm_4 _ (List.mem_of_getElem? (i := 102) rfl), rfl⟩
theorem tb_892 : q_in (.methodLink "CardNobodyReads$Tonight" 46 yX8_keepIfBetter) := ⟨tbm_4 _ (List.mem_of_getElem? (i := 103) rfl), rfl⟩
theorem tb_894 : q_in (.instanceMethod yX8_keepIfBetter) := ⟨tbm_4 _ (List.mem_of_getElem? (i := 105) rfl), rfl⟩
theorem tb_895 : q_in (.code yX8_keepIfBetter cX8_keepIfBetter 2 none) := ⟨tbm_4 _ (List.mem_of_getElem? (i := 106) rfl), rfl⟩
theorem tb_896 : q_in (.methodLink "CardNobodyReads$Tonight" 53 arraycopyName) := ⟨tbm_4 _ (List.mem_of_getElem? (i := 107) rfl), rfl⟩
theorem tb_897 : q_in (.static arraycopyName) := ⟨tbm_4 _ (List.mem_of_getElem? (i := 108) rfl), rfl⟩
theorem tb_898 : q_in (.native arraycopyName) := ⟨tbm_4 _ (List.mem_of_getElem? (i := 109) rfl), rfl⟩
theorem tb_899 : q_in (.methodLinkNest "CardNobodyReads$Tonight" 36 yX9_at "CardNobodyReads") := ⟨tbm_4 _ (List.mem_of_getElem? (i := 110) rfl), rfl⟩
theorem tb_900 : q_in (.methodLink "CardNobodyReads$Tonight" 40 yX3_priceOf) := ⟨tbm_4 _ (List.mem_of_getElem? (i := 111) rfl), rfl⟩
theorem tb_909 : q_in (.methodLink "CardNobodyReads" 238 yX3_everyLine) := ⟨tbm_4 _ (List.mem_of_getElem? (i := 120) rfl), rfl⟩
theorem tb_910 : q_in (.instanceMethod yX3_everyLine) := ⟨tbm_4 _ (List.mem_of_getElem? (i := 121) rfl), rfl⟩
theorem tb_911 : q_in (.selects "CardNobodyReads$Lines" yX3_everyLine yX3_everyLine) := ⟨tbm_4 _ (List.mem_of_getElem? (i := 122) rfl), rfl⟩
theorem tb_912 : q_in (.code yX3_everyLine cX3_everyLine 1 (some .int)) := ⟨tbm_4 _ (List.mem_of_getElem? (i := 123) rfl), rfl⟩
theorem tb_913 : q_in (.methodLink "CardNobodyReads" 241 yX9_mostLiking) := ⟨tbm_4 _ (List.mem_of_getElem? (i := 124) rfl), rfl⟩
theorem tb_915 : q_in (.instanceMethod yX9_mostLiking) := ⟨tbm_4 _ (List.mem_of_getElem? (i := 126) rfl), rfl⟩
theorem tb_916 : q_in (.code yX9_mostLiking cX9_mostLiking 6 (some .int)) := ⟨tbm_4 _ (List.mem_of_getElem? (i := 127) rfl), rfl⟩
theorem tb_917 : q_in (.methodLink "CardNobodyReads" 342 Lib.Math.max.name) := ⟨tbm_4 _ (List.mem_of_getElem? (i := 128) rfl), rfl⟩
theorem tb_922 : q_in (.methodLink "CardNobodyReads" 245 yX9_teaching) := ⟨tbm_4 _ (List.mem_of_getElem? (i := 133) rfl), rfl⟩
theorem tb_924 : q_in (.instanceMethod yX9_teaching) := ⟨tbm_4 _ (List.mem_of_getElem? (i := 135) rfl), rfl⟩
theorem tb_925 : q_in (.code yX9_teaching cX9_teaching 6 (some .int)) := ⟨tbm_4 _ (List.mem_of_getElem? (i := 136) rfl), rfl⟩
theorem tb_930 : q_in (.methodLink "CardNobodyReads" 248 yX1_squares) := ⟨tbm_4 _ (List.mem_of_getElem? (i := 141) rfl), rfl⟩
theorem tb_931 : q_in (.instanceMethod yX1_squares) := ⟨tbm_4 _ (List.mem_of_getElem? (i := 142) rfl), rfl⟩
theorem tb_932 : q_in (.selects "CardNobodyReads$Fits" yX1_squares yX1_squares) := ⟨tbm_4 _ (List.mem_of_getElem? (i := 143) rfl), rfl⟩
theorem tb_933 : q_in (.code yX1_squares cX1_squares 9 (some .int)) := ⟨tbm_4 _ (List.mem_of_getElem? (i := 144) rfl), rfl⟩
theorem tb_934 : q_in (.methodLink "CardNobodyReads$Fits" 100 yX1_tongueOf) := ⟨tbm_4 _ (List.mem_of_getElem? (i := 145) rfl), rfl⟩
theorem tb_939 : q_in (.methodLink "CardNobodyReads" 252 Lib.Math.min.name) := ⟨tbm_4 _ (List.mem_of_getElem? (i := 150) rfl), rfl⟩
theorem tb_944 : q_in (.methodLink "CardNobodyReads" 257 yX3_had) := ⟨tbm_4 _ (List.mem_of_getElem? (i := 155) rfl), rfl⟩
theorem tb_945 : q_in (.methodLink "CardNobodyReads" 260 yX0_holds) := ⟨tbm_4 _ (List.mem_of_getElem? (i := 156) rfl), rfl⟩
theorem tb_958 : q_in (.methodLink "CardNobodyReads" 267 yJ6_bitCount_0f7a4) := ⟨tbm_4 _ (List.mem_of_getElem? (i := 169) rfl), rfl⟩
theorem tb_959 : q_in (.methodLink "CardNobodyReads" 272 yX3_pricesOf) := ⟨tbm_4 _ (List.mem_of_getElem? (i := 170) rfl), rfl⟩
theorem tb_960 : q_in (.instanceMethod yX3_pricesOf) := ⟨tbm_4 _ (List.mem_of_getElem? (i := 171) rfl), rfl⟩
theorem tb_961 : q_in (.selects "CardNobodyReads$Lines" yX3_pricesOf yX3_pricesOf) := ⟨tbm_4 _ (List.mem_of_getElem? (i := 172) rfl), rfl⟩
theorem tb_962 : q_in (.code yX3_pricesOf cX3_pricesOf 4 (some .int)) := ⟨tbm_4 _ (List.mem_of_getElem? (i := 173) rfl), rfl⟩
theorem tb_963 : q_in (.methodLink "CardNobodyReads$Lines" 53 yX3_priceOf) := ⟨tbm_4 _ (List.mem_of_getElem? (i := 174) rfl), rfl⟩
theorem tb_968 : q_in (.methodLink "CardNobodyReads" 275 yX9_isSheet) := ⟨tbm_4 _ (List.mem_of_getElem? (i := 179) rfl), rfl⟩
theorem tb_969 : q_in (.static yX9_isSheet) := ⟨tbm_4 _ (List.mem_of_getElem? (i := 180) rfl), rfl⟩
theorem tb_970 : q_in (.code yX9_isSheet cX9_isSheet 1 (some .boolean)) := ⟨tbm_4 _ (List.mem_of_getElem? (i := 181) rfl), rfl⟩
theorem tb_971 : q_in (.methodLink "CardNobodyReads" 278 yX4_isMissing) := ⟨tbm_4 _ (List.mem_of_getElem? (i := 182) rfl), rfl⟩
theorem tb_972 : q_in (.instanceMethod yX4_isMissing) := ⟨tbm_4 _ (List.mem_of_getElem? (i := 183) rfl), rfl⟩
theorem tb_973 : q_in (.selects "CardNobodyReads$Sheets" yX4_isMissing yX4_isMissing) := ⟨tbm_4 _ (List.mem_of_getElem? (i := 184) rfl), rfl⟩
theorem tb_974 : q_in (.code yX4_isMissing cX4_isMissing 2 (some .boolean)) := ⟨tbm_4 _ (List.mem_of_getElem? (i := 185) rfl), rfl⟩
theorem tb_975 : q_in (.methodLink "CardNobodyReads$Sheets" 21 yX4_sortOf) := ⟨tbm_4 _ (List.mem_of_getElem? (i := 186) rfl), rfl⟩
theorem tb_976 : q_in (.instanceMethod yX4_sortOf) := ⟨tbm_4 _ (List.mem_of_getElem? (i := 187) rfl), rfl⟩
theorem tb_977 : q_in (.selects "CardNobodyReads$Sheets" yX4_sortOf yX4_sortOf) := ⟨tbm_4 _ (List.mem_of_getElem? (i := 188) rfl), rfl⟩
theorem tb_978 : q_in (.code yX4_sortOf cX4_sortOf 2 (some .int)) := ⟨tbm_4 _ (List.mem_of_getElem? (i := 189) rfl), rfl⟩
theorem tb_979 : q_in (.methodLinkNest "CardNobodyReads$Sheets" 25 yX9_at "CardNobodyReads") := ⟨tbm_4 _ (List.mem_of_getElem? (i := 190) rfl), rfl⟩
theorem tb_980 : q_in (.methodLink "CardNobodyReads" 281 yX4_sizeOf) := ⟨tbm_4 _ (List.mem_of_getElem? (i := 191) rfl), rfl⟩
theorem tb_981 : q_in (.instanceMethod yX4_sizeOf) := ⟨tbm_4 _ (List.mem_of_getElem? (i := 192) rfl), rfl⟩
theorem tb_982 : q_in (.selects "CardNobodyReads$Sheets" yX4_sizeOf yX4_sizeOf) := ⟨tbm_4 _ (List.mem_of_getElem? (i := 193) rfl), rfl⟩
theorem tb_983 : q_in (.code yX4_sizeOf cX4_sizeOf 2 (some .int)) := ⟨tbm_4 _ (List.mem_of_getElem? (i := 194) rfl), rfl⟩
theorem tb_984 : q_in (.methodLink "CardNobodyReads" 284 yX9_isMeal) := ⟨tbm_4 _ (List.mem_of_getElem? (i := 195) rfl), rfl⟩
theorem tb_986 : q_in (.instanceMethod yX9_isMeal) := ⟨tbm_4 _ (List.mem_of_getElem? (i := 197) rfl), rfl⟩
theorem tb_987 : q_in (.code yX9_isMeal cX9_isMeal 4 (some .boolean)) := ⟨tbm_4 _ (List.mem_of_getElem? (i := 198) rfl), rfl⟩
theorem tb_988 : q_in (.methodLink "CardNobodyReads" 321 yX4_read) := ⟨tbm_4 _ (List.mem_of_getElem? (i := 199) rfl), rfl⟩
theorem tb_989 : q_in (.instanceMethod yX4_read) := ⟨tbm_4 _ (List.mem_of_getElem? (i := 200) rfl), rfl⟩
theorem tb_990 : q_in (.selects "CardNobodyReads$Sheets" yX4_read yX4_read) := ⟨tbm_4 _ (List.mem_of_getElem? (i := 201) rfl), rfl⟩
theorem tb_991 : q_in (.code yX4_read cX4_read 3 (some .int)) := ⟨tbm_4 _ (List.mem_of_getElem? (i := 202) rfl), rfl⟩
theorem tb_996 : q_in (.methodLink "CardNobodyReads" 287 yX4_become) := ⟨tbm_4 _ (List.mem_of_getElem? (i := 207) rfl), rfl⟩
theorem tb_997 : q_in (.instanceMethod yX4_become) := ⟨tbm_4 _ (List.mem_of_getElem? (i := 208) rfl), rfl⟩
theorem tb_998 : q_in (.selects "CardNobodyReads$Sheets" yX4_become yX4_become) := ⟨tbm_4 _ (List.mem_of_getElem? (i := 209) rfl), rfl⟩
theorem tb_999 : q_in (.code yX4_become cX4_become 5 none) := ⟨tbm_4 _ (List.mem_of_getElem? (i := 210) rfl), rfl⟩
theorem tb_1000 : q_in (.methodLinkNest "CardNobodyReads$Sheets" 29 yX9_put "CardNobodyReads") := ⟨tbm_4 _ (List.mem_of_getElem? (i := 211) rfl), rfl⟩
theorem tb_1001 : q_in (.methodLink "CardNobodyReads" 291 yX4_write) := ⟨tbm_4 _ (List.mem_of_getElem? (i := 212) rfl), rfl⟩
theorem tb_1002 : q_in (.instanceMethod yX4_write) := ⟨tbm_4 _ (List.mem_of_getElem? (i := 213) rfl), rfl⟩
theorem tb_1003 : q_in (.selects "CardNobodyReads$Sheets" yX4_write yX4_write) := ⟨tbm_4 _ (List.mem_of_getElem? (i := 214) rfl), rfl⟩
theorem tb_1004 : q_in (.code yX4_write cX4_write 5 none) := ⟨tbm_4 _ (List.mem_of_getElem? (i := 215) rfl), rfl⟩
theorem tb_1009 : q_in (.methodLink "CardNobodyReads" 294 yX1_anyBy) := ⟨tbm_4 _ (List.mem_of_getElem? (i := 220) rfl), rfl⟩
theorem tb_1010 : q_in (.instanceMethod yX1_anyBy) := ⟨tbm_4 _ (List.mem_of_getElem? (i := 221) rfl), rfl⟩
theorem tb_1011 : q_in (.selects "CardNobodyReads$Fits" yX1_anyBy yX1_anyBy) := ⟨tbm_4 _ (List.mem_of_getElem? (i := 222) rfl), rfl⟩
theorem tb_1012 : q_in (.code yX1_anyBy cX1_anyBy 6 (some .boolean)) := ⟨tbm_4 _ (List.mem_of_getElem? (i := 223) rfl), rfl⟩
theorem tb_1017 : q_in (.constant "CardNobodyReads" 298 (Int32.ofInt 99999)) := ⟨tbm_4 _ (List.mem_of_getElem? (i := 228) rfl), rfl⟩
theorem tb_1018 : q_in (.methodLink "CardNobodyReads" 299 yX1_drawnBy) := ⟨tbm_4 _ (List.mem_of_getElem? (i := 229) rfl), rfl⟩
theorem tb_1019 : q_in (.instanceMethod yX1_drawnBy) := ⟨tbm_4 _ (List.mem_of_getElem? (i := 230) rfl), rfl⟩
theorem tb_1020 : q_in (.selects "CardNobodyReads$Fits" yX1_drawnBy yX1_drawnBy) := ⟨tbm_4 _ (List.mem_of_getElem? (i := 231) rfl), rfl⟩
theorem tb_1021 : q_in (.code yX1_drawnBy cX1_drawnBy 4 (some .int)) := ⟨tbm_4 _ (List.mem_of_getElem? (i := 232) rfl), rfl⟩
theorem tb_1022 : q_in (.constantLong "CardNobodyReads$Fits" 103 (Int64.ofInt 48271)) := ⟨tbm_4 _ (List.mem_of_getElem? (i := 233) rfl), rfl⟩
theorem tb_1023 : q_in (.constantLong "CardNobodyReads$Fits" 105 (Int64.ofInt 2147483647)) := ⟨tbm_4 _ (List.mem_of_getElem? (i := 234) rfl), rfl⟩
theorem tb_1032 : q_in (.methodLink "CardNobodyReads" 308 arraycopyName) := ⟨tbm_5 _ (List.mem_of_getElem? (i := 3) rfl), rfl⟩
theorem tb_1049 : q_in (.methodLink "CardNobodyReads" 314 yX4_sortOf) := ⟨tbm_5 _ (List.mem_of_getElem? (i := 20) rfl), rfl⟩
theorem tb_1050 : q_in (.methodLink "CardNobodyReads" 317 yX4_move) := ⟨tbm_5 _ (List.mem_of_getElem? (i := 21) rfl), rfl⟩
theorem tb_1051 : q_in (.instanceMethod yX4_move) := ⟨tbm_5 _ (List.mem_of_getElem? (i := 22) rfl), rfl⟩
theorem tb_1052 : q_in (.selects "CardNobodyReads$Sheets" yX4_move yX4_move) := ⟨tbm_5 _ (List.mem_of_getElem? (i := 23) rfl), rfl⟩
theorem tb_1053 : q_in (.code yX4_move cX4_move 8 none) := ⟨tbm_5 _ (List.mem_of_getElem? (i := 24) rfl), rfl⟩
theorem tb_1054 : q_in (.methodLinkNest "CardNobodyReads$Sheets" 33 yX9_within "CardNobodyReads") := ⟨tbm_5 _ (List.mem_of_getElem? (i := 25) rfl), rfl⟩
theorem tb_1055 : q_in (.methodLink "CardNobodyReads$Sheets" 37 arraycopyName) := ⟨tbm_5 _ (List.mem_of_getElem? (i := 26) rfl), rfl⟩
theorem tb_1064 : q_in (.methodLink "CardNobodyReads" 323 yX0_isOne) := ⟨tbm_5 _ (List.mem_of_getElem? (i := 35) rfl), rfl⟩
theorem tb_1065 : q_in (.static yX0_isOne) := ⟨tbm_5 _ (List.mem_of_getElem? (i := 36) rfl), rfl⟩
theorem tb_1066 : q_in (.code yX0_isOne cX0_isOne 4 (some .boolean)) := ⟨tbm_5 _ (List.mem_of_getElem? (i := 37) rfl), rfl⟩
theorem tb_1067 : q_in (.fieldLinkNest "CardNobodyReads$Facts" 52 "CardNobodyReads" "KIND_ABOVE" "[I" "CardNobodyReads") := ⟨tbm_5 _ (List.mem_of_getElem? (i := 38) rfl), rfl⟩
theorem tb_1079 : q_in (.methodLink "CardNobodyReadsModel" 169 yX10_next) := ⟨tbm_5 _ (List.mem_of_getElem? (i := 50) rfl), rfl⟩
theorem tb_1081 : q_in (.instanceMethod yX10_next) := ⟨tbm_5 _ (List.mem_of_getElem? (i := 52) rfl), rfl⟩
theorem tb_1082 : q_in (.code yX10_next cX10_next 3 none) := ⟨tbm_5 _ (List.mem_of_getElem? (i := 53) rfl), rfl⟩
theorem tb_1083 : q_in (.methodLink "CardNobodyReadsModel" 101 yX10_in) := ⟨tbm_5 _ (List.mem_of_getElem? (i := 54) rfl), rfl⟩
theorem tb_1084 : q_in (.static yX10_in) := ⟨tbm_5 _ (List.mem_of_getElem? (i := 55) rfl), rfl⟩
theorem tb_1085 : q_in (.code yX10_in cX10_in 3 (some .boolean)) := ⟨tbm_5 _ (List.mem_of_getElem? (i := 56) rfl), rfl⟩
theorem tb_1086 : q_in (.methodLink "CardNobodyReadsModel" 143 yX10_wordFrom) := ⟨tbm_5 _ (List.mem_of_getElem? (i := 57) rfl), rfl⟩
theorem tb_1088 : q_in (.instanceMethod yX10_wordFrom) := ⟨tbm_5 _ (List.mem_of_getElem? (i := 59) rfl), rfl⟩
theorem tb_1089 : q_in (.code yX10_wordFrom cX10_wordFrom 6 (some .int)) := ⟨tbm_5 _ (List.mem_of_getElem? (i := 60) rfl), rfl⟩
theorem tb_1090 : q_in (.methodLink "CardNobodyReadsModel" 182 yX10_eRead) := ⟨tbm_5 _ (List.mem_of_getElem? (i := 61) rfl), rfl⟩
theorem tb_1092 : q_in (.instanceMethod yX10_eRead) := ⟨tbm_5 _ (List.mem_of_getElem? (i := 63) rfl), rfl⟩
theorem tb_1093 : q_in (.code yX10_eRead cX10_eRead 4 (some .boolean)) := ⟨tbm_5 _ (List.mem_of_getElem? (i := 64) rfl), rfl⟩
theorem tb_1094 : q_in (.constant "CardNobodyReadsModel" 172 (Int32.ofInt 100000)) := ⟨tbm_5 _ (List.mem_of_getElem? (i := 65) rfl), rfl⟩
theorem tb_1095 : q_in (.methodLink "CardNobodyReadsModel" 159 yX10_puts) := ⟨tbm_5 _ (List.mem_of_getElem? (i := 66) rfl), rfl⟩
theorem tb_1097 : q_in (.instanceMethod yX10_puts) := ⟨tbm_5 _ (List.mem_of_getElem? (i := 68) rfl), rfl⟩
theorem tb_1098 : q_in (.code yX10_puts cX10_puts 2 none) := ⟨tbm_5 _ (List.mem_of_getElem? (i := 69) rfl), rfl⟩
theorem tb_1099 : q_in (.methodLink "CardNobodyReadsModel" 166 yX10_unwinds) := ⟨tbm_5 _ (List.mem_of_getElem? (i := 70) rfl), rfl⟩
theorem tb_1101 : q_in (.instanceMethod yX10_unwinds) := ⟨tbm_5 _ (List.mem_of_getElem? (i := 72) rfl), rfl⟩
theorem tb_1102 : q_in (.code yX10_unwinds cX10_unwinds 3 none) := ⟨tbm_5 _ (List.mem_of_getElem? (i := 73) rfl), rfl⟩
theorem tb_1103 : q_in (.methodLink "CardNobodyReadsModel" 153 yX10_rank) := ⟨tbm_5 _ (List.mem_of_getElem? (i := 74) rfl), rfl⟩
theorem tb_1104 : q_in (.static yX10_rank) := ⟨tbm_5 _ (List.mem_of_getElem? (i := 75) rfl), rfl⟩
theorem tb_1105 : q_in (.code yX10_rank cX10_rank 1 (some .int)) := ⟨tbm_5 _ (List.mem_of_getElem? (i := 76) rfl), rfl⟩
theorem tb_1106 : q_in (.methodLink "CardNobodyReadsModel" 173 yX10_opensOne) := ⟨tbm_5 _ (List.mem_of_getElem? (i := 77) rfl), rfl⟩
theorem tb_1108 : q_in (.instanceMethod yX10_opensOne) := ⟨tbm_5 _ (List.mem_of_getElem? (i := 79) rfl), rfl⟩
theorem tb_1109 : q_in (.code yX10_opensOne cX10_opensOne 2 (some .boolean)) := ⟨tbm_5 _ (List.mem_of_getElem? (i := 80) rfl), rfl⟩
theorem tb_1110 : q_in (.methodLink "CardNobodyReadsModel" 163 yX10_holds) := ⟨tbm_5 _ (List.mem_of_getElem? (i := 81) rfl), rfl⟩
theorem tb_1112 : q_in (.instanceMethod yX10_holds) := ⟨tbm_5 _ (List.mem_of_getElem? (i := 83) rfl), rfl⟩
theorem tb_1113 : q_in (.code yX10_holds cX10_holds 2 none) := ⟨tbm_5 _ (List.mem_of_getElem? (i := 84) rfl), rfl⟩
theorem tb_1114 : q_in (.methodLink "CardNobodyReadsModel" 176 yX10_signOf) := ⟨tbm_5 _ (List.mem_of_getElem? (i := 85) rfl), rfl⟩
theorem tb_1116 : q_in (.instanceMethod yX10_signOf) := ⟨tbm_5 _ (List.mem_of_getElem? (i := 87) rfl), rfl⟩
theorem tb_1117 : q_in (.code yX10_signOf cX10_signOf 1 (some .int)) := ⟨tbm_5 _ (List.mem_of_getElem? (i := 88) rfl), rfl⟩
theorem tb_1118 : q_in (.methodLink "CardNobodyReadsModel" 179 yX10_between) := ⟨tbm_5 _ (List.mem_of_getElem? (i := 89) rfl), rfl⟩
theorem tb_1120 : q_in (.instanceMethod yX10_between) := ⟨tbm_5 _ (List.mem_of_getElem? (i := 91) rfl), rfl⟩
theorem tb_1121 : q_in (.code yX10_between cX10_between 2 (some .boolean)) := ⟨tbm_5 _ (List.mem_of_getElem? (i := 92) rfl), rfl⟩
theorem tb_1127 : q_in (.fieldLink "CardNobodyReadsModel" 98 "CardNobodyReadsModel" "lines" "I") := ⟨tbm_5 _ (List.mem_of_getElem? (i := 98) rfl), rfl⟩
theorem tb_1128 : q_in (.fieldLink "CardNobodyReadsModel" 7 "CardNobodyReadsModel" "signsOf" "[I") := ⟨tbm_5 _ (List.mem_of_getElem? (i := 99) rfl), rfl⟩
theorem tb_1129 : q_in (.fieldLink "CardNobodyReadsModel" 13 "CardNobodyReadsModel" "priceOf" "[I") := ⟨tbm_5 _ (List.mem_of_getElem? (i := 100) rfl), rfl⟩
theorem tb_1130 : q_in (.fieldLink "CardNobodyReadsModel" 105 "CardNobodyReadsModel" "guests" "I") := ⟨tbm_5 _ (List.mem_of_getElem? (i := 101) rfl), rfl⟩
theorem tb_1131 : q_in (.fieldLink "CardNobodyReadsModel" 16 "CardNobodyReadsModel" "shuns" "[I") := ⟨tbm_5 _ (List.mem_of_getElem? (i := 102) rfl), rfl⟩
theorem tb_1132 : q_in (.fieldLink "CardNobodyReadsModel" 19 "CardNobodyReadsModel" "coin" "I") := ⟨tbm_5 _ (List.mem_of_getElem? (i := 103) rfl), rfl⟩
theorem tb_1133 : q_in (.fieldLink "CardNobodyReadsModel" 119 "CardNobodyReadsModel" "facts" "I") := ⟨tbm_5 _ (List.mem_of_getElem? (i := 104) rfl), rfl⟩
theorem tb_1134 : q_in (.fieldLink "CardNobodyReadsModel" 23 "CardNobodyReadsModel" "factOf" "[I") := ⟨tbm_5 _ (List.mem_of_getElem? (i := 105) rfl), rfl⟩
theorem tb_1135 : q_in (.fieldLink "CardNobodyReadsModel" 26 "CardNobodyReadsModel" "tongues" "[I") := ⟨tbm_5 _ (List.mem_of_getElem? (i := 106) rfl), rfl⟩
theorem tb_1136 : q_in (.fieldLink "CardNobodyReadsModel" 29 "CardNobodyReadsModel" "tape" "[I") := ⟨tbm_5 _ (List.mem_of_getElem? (i := 107) rfl), rfl⟩
theorem tb_1137 : q_in (.fieldLink "CardNobodyReadsModel" 86 "CardNobodyReadsModel" "taped" "I") := ⟨tbm_5 _ (List.mem_of_getElem? (i := 108) rfl), rfl⟩
theorem tb_1138 : q_in (.fieldLink "CardNobodyReadsModel" 32 "CardNobodyReadsModel" "codes" "[I") := ⟨tbm_5 _ (List.mem_of_getElem? (i := 109) rfl), rfl⟩
theorem tb_1139 : q_in (.fieldLink "CardNobodyReadsModel" 35 "CardNobodyReadsModel" "starts" "[I") := ⟨tbm_5 _ (List.mem_of_getElem? (i := 110) rfl), rfl⟩
theorem tb_1140 : q_in (.fieldLink "CardNobodyReadsModel" 122 "CardNobodyReadsModel" "texts" "I") := ⟨tbm_5 _ (List.mem_of_getElem? (i := 111) rfl), rfl⟩
theorem tb_1141 : q_in (.fieldLink "CardNobodyReadsModel" 125 "CardNobodyReadsModel" "rule" "I") := ⟨tbm_5 _ (List.mem_of_getElem? (i := 112) rfl), rfl⟩
theorem tb_1142 : q_in (.fieldLink "CardNobodyReadsModel" 208 "CardNobodyReadsModel" "hasImage" "Z") := ⟨tbm_5 _ (List.mem_of_getElem? (i := 113) rfl), rfl⟩
theorem tb_1143 : q_in (.fieldLink "CardNobodyReadsModel" 296 "CardNobodyReadsModel" "imageLines" "I") := ⟨tbm_5 _ (List.mem_of_getElem? (i := 114) rfl), rfl⟩
theorem tb_1144 : q_in (.fieldLink "CardNobodyReadsModel" 299 "CardNobodyReadsModel" "imageGuests" "I") := ⟨tbm_5 _ (List.mem_of_getElem? (i := 115) rfl), rfl⟩
theorem tb_1145 : q_in (.fieldLink "CardNobodyReadsModel" 212 "CardNobodyReadsModel" "imageFacts" "I") := ⟨tbm_5 _ (List.mem_of_getElem? (i := 116) rfl), rfl⟩
theorem tb_1146 : q_in (.fieldLink "CardNobodyReadsModel" 302 "CardNobodyReadsModel" "imageCoin" "I") := ⟨tbm_5 _ (List.mem_of_getElem? (i := 117) rfl), rfl⟩
theorem tb_1147 : q_in (.fieldLink "CardNobodyReadsModel" 305 "CardNobodyReadsModel" "imageRule" "I") := ⟨tbm_5 _ (List.mem_of_getElem? (i := 118) rfl), rfl⟩
theorem tb_1148 : q_in (.fieldLink "CardNobodyReadsModel" 38 "CardNobodyReadsModel" "imagePrices" "[I") := ⟨tbm_5 _ (List.mem_of_getElem? (i := 119) rfl), rfl⟩
theorem tb_1149 : q_in (.fieldLink "CardNobodyReadsModel" 41 "CardNobodyReadsModel" "sheetSort" "[I") := ⟨tbm_5 _ (List.mem_of_getElem? (i := 120) rfl), rfl⟩
theorem tb_1150 : q_in (.fieldLink "CardNobodyReadsModel" 44 "CardNobodyReadsModel" "sheetSize" "[I") := ⟨tbm_5 _ (List.mem_of_getElem? (i := 121) rfl), rfl⟩
theorem tb_1151 : q_in (.fieldLink "CardNobodyReadsModel" 47 "CardNobodyReadsModel" "cells" "[I") := ⟨tbm_5 _ (List.mem_of_getElem? (i := 122) rfl), rfl⟩
theorem tb_1153 : q_in (.fieldLink "CardNobodyReadsModel" 131 "CardNobodyReadsModel" "at" "I") := ⟨tbm_5 _ (List.mem_of_getElem? (i := 124) rfl), rfl⟩
theorem tb_1154 : q_in (.fieldLink "CardNobodyReadsModel" 134 "CardNobodyReadsModel" "begun" "I") := ⟨tbm_5 _ (List.mem_of_getElem? (i := 125) rfl), rfl⟩
theorem tb_1155 : q_in (.fieldLink "CardNobodyReadsModel" 137 "CardNobodyReadsModel" "token" "I") := ⟨tbm_5 _ (List.mem_of_getElem? (i := 126) rfl), rfl⟩
theorem tb_1156 : q_in (.fieldLink "CardNobodyReadsModel" 140 "CardNobodyReadsModel" "value" "I") := ⟨tbm_5 _ (List.mem_of_getElem? (i := 127) rfl), rfl⟩
theorem tb_1157 : q_in (.fieldLink "CardNobodyReadsModel" 53 "CardNobodyReadsModel" "words" "[I") := ⟨tbm_5 _ (List.mem_of_getElem? (i := 128) rfl), rfl⟩
theorem tb_1158 : q_in (.fieldLink "CardNobodyReadsModel" 56 "CardNobodyReadsModel" "held" "[I") := ⟨tbm_5 _ (List.mem_of_getElem? (i := 129) rfl), rfl⟩
theorem tb_1159 : q_in (.fieldLink "CardNobodyReadsModel" 150 "CardNobodyReadsModel" "heldMany" "I") := ⟨tbm_5 _ (List.mem_of_getElem? (i := 130) rfl), rfl⟩
theorem tb_1160 : q_in (.fieldLink "CardNobodyReadsModel" 156 "CardNobodyReadsModel" "opens" "I") := ⟨tbm_5 _ (List.mem_of_getElem? (i := 131) rfl), rfl⟩
theorem tb_1161 : q_in (.fieldLink "CardNobodyReadsModel" 147 "CardNobodyReadsModel" "out" "I") := ⟨tbm_5 _ (List.mem_of_getElem? (i := 132) rfl), rfl⟩
theorem tb_1162 : q_in (.fieldLink "CardNobodyReadsModel" 59 "CardNobodyReadsModel" "stack" "[I") := ⟨tbm_5 _ (List.mem_of_getElem? (i := 133) rfl), rfl⟩
theorem tb_1163 : q_in (.fieldLink "CardNobodyReadsModel" 62 "CardNobodyReadsModel" "named" "[I") := ⟨tbm_5 _ (List.mem_of_getElem? (i := 134) rfl), rfl⟩
theorem tb_1164 : q_in (.fieldLink "CardNobodyReadsModel" 65 "CardNobodyReadsModel" "fails" "[I") := ⟨tbm_5 _ (List.mem_of_getElem? (i := 135) rfl), rfl⟩
theorem tb_1165 : q_in (.fieldLink "CardNobodyReadsModel" 68 "CardNobodyReadsModel" "mays" "[I") := ⟨tbm_5 _ (List.mem_of_getElem? (i := 136) rfl), rfl⟩
theorem tb_1166 : q_in (.fieldLink "CardNobodyReadsModel" 71 "CardNobodyReadsModel" "fits" "[I") := ⟨tbm_5 _ (List.mem_of_getElem? (i := 137) rfl), rfl⟩
theorem tb_1167 : q_in (.fieldLink "CardNobodyReadsModel" 220 "CardNobodyReadsModel" "fitMany" "I") := ⟨tbm_5 _ (List.mem_of_getElem? (i := 138) rfl), rfl⟩
theorem tb_1168 : q_in (.fieldLink "CardNobodyReadsModel" 74 "CardNobodyReadsModel" "likings" "[I") := ⟨tbm_5 _ (List.mem_of_getElem? (i := 139) rfl), rfl⟩
theorem tb_1169 : q_in (.fieldLink "CardNobodyReadsModel" 77 "CardNobodyReadsModel" "ordering" "[I") := ⟨tbm_5 _ (List.mem_of_getElem? (i := 140) rfl), rfl⟩
theorem tb_1170 : q_in (.fieldLink "CardNobodyReadsModel" 80 "CardNobodyReadsModel" "best" "[I") := ⟨tbm_5 _ (List.mem_of_getElem? (i := 141) rfl), rfl⟩
theorem tb_1171 : q_in (.fieldLink "CardNobodyReadsModel" 262 "CardNobodyReadsModel" "bestLiking" "I") := ⟨tbm_5 _ (List.mem_of_getElem? (i := 142) rfl), rfl⟩
theorem tb_1172 : q_in (.fieldLink "CardNobodyReadsModel" 265 "CardNobodyReadsModel" "bestPrice" "I") := ⟨tbm_5 _ (List.mem_of_getElem? (i := 143) rfl), rfl⟩
theorem tb_1173 : q_in (.fieldLink "CardNobodyReadsModel" 83 "CardNobodyReadsModel" "manyHave" "[I") := ⟨tbm_5 _ (List.mem_of_getElem? (i := 144) rfl), rfl⟩
theorem tb_1174 : q_in (.lays "CardNobodyReadsModel" "CardNobodyReadsModel" "lines" "I") := ⟨tbm_5 _ (List.mem_of_getElem? (i := 145) rfl), rfl⟩
theorem tb_1176 : q_in (.laysFinal "CardNobodyReadsModel" "CardNobodyReadsModel" "signsOf" "[I") := ⟨tbm_5 _ (List.mem_of_getElem? (i := 147) rfl), rfl⟩
theorem tb_1178 : q_in (.laysFinal "CardNobodyReadsModel" "CardNobodyReadsModel" "priceOf" "[I") := ⟨tbm_5 _ (List.mem_of_getElem? (i := 149) rfl), rfl⟩
theorem tb_1180 : q_in (.lays "CardNobodyReadsModel" "CardNobodyReadsModel" "guests" "I") := ⟨tbm_5 _ (List.mem_of_getElem? (i := 151) rfl), rfl⟩
theorem tb_1182 : q_in (.laysFinal "CardNobodyReadsModel" "CardNobodyReadsModel" "shuns" "[I") := ⟨tbm_5 _ (List.mem_of_getElem? (i := 153) rfl), rfl⟩
theorem tb_1184 : q_in (.lays "CardNobodyReadsModel" "CardNobodyReadsModel" "coin" "I") := ⟨tbm_5 _ (List.mem_of_getElem? (i := 155) rfl), rfl⟩
theorem tb_1186 : q_in (.lays "CardNobodyReadsModel" "CardNobodyReadsModel" "facts" "I") := ⟨tbm_5 _ (List.mem_of_getElem? (i := 157) rfl), rfl⟩
theorem tb_1188 : q_in (.laysFinal "CardNobodyReadsModel" "CardNobodyReadsModel" "factOf" "[I") := ⟨tbm_5 _ (List.mem_of_getElem? (i := 159) rfl), rfl⟩
theorem tb_1190 : q_in (.laysFinal "CardNobodyReadsModel" "CardNobodyReadsModel" "tongues" "[I") := ⟨tbm_5 _ (List.mem_of_getElem? (i := 161) rfl), rfl⟩
theorem tb_1192 : q_in (.laysFinal "CardNobodyReadsModel" "CardNobodyReadsModel" "tape" "[I") := ⟨tbm_5 _ (List.mem_of_getElem? (i := 163) rfl), rfl⟩
theorem tb_1194 : q_in (.lays "CardNobodyReadsModel" "CardNobodyReadsModel" "taped" "I") := ⟨tbm_5 _ (List.mem_of_getElem? (i := 165) rfl), rfl⟩
theorem tb_1196 : q_in (.laysFinal "CardNobodyReadsModel" "CardNobodyReadsModel" "codes" "[I") := ⟨tbm_5 _ (List.mem_of_getElem? (i := 167) rfl), rfl⟩
theorem tb_1198 : q_in (.laysFinal "CardNobodyReadsModel" "CardNobodyReadsModel" "starts" "[I") := ⟨tbm_5 _ (List.mem_of_getElem? (i := 169) rfl), rfl⟩
theorem tb_1200 : q_in (.lays "CardNobodyReadsModel" "CardNobodyReadsModel" "texts" "I") := ⟨tbm_5 _ (List.mem_of_getElem? (i := 171) rfl), rfl⟩
theorem tb_1202 : q_in (.lays "CardNobodyReadsModel" "CardNobodyReadsModel" "rule" "I") := ⟨tbm_5 _ (List.mem_of_getElem? (i := 173) rfl), rfl⟩
theorem tb_1204 : q_in (.lays "CardNobodyReadsModel" "CardNobodyReadsModel" "hasImage" "Z") := ⟨tbm_5 _ (List.mem_of_getElem? (i := 175) rfl), rfl⟩
theorem tb_1206 : q_in (.lays "CardNobodyReadsModel" "CardNobodyReadsModel" "imageLines" "I") := ⟨tbm_5 _ (List.mem_of_getElem? (i := 177) rfl), rfl⟩
theorem tb_1208 : q_in (.lays "CardNobodyReadsModel" "CardNobodyReadsModel" "imageGuests" "I") := ⟨tbm_5 _ (List.mem_of_getElem? (i := 179) rfl), rfl⟩
theorem tb_1210 : q_in (.lays "CardNobodyReadsModel" "CardNobodyReadsModel" "imageFacts" "I") := ⟨tbm_5 _ (List.mem_of_getElem? (i := 181) rfl), rfl⟩
theorem tb_1212 : q_in (.lays "CardNobodyReadsModel" "CardNobodyReadsModel" "imageCoin" "I") := ⟨tbm_5 _ (List.mem_of_getElem? (i := 183) rfl), rfl⟩
theorem tb_1214 : q_in (.lays "CardNobodyReadsModel" "CardNobodyReadsModel" "imageRule" "I") := ⟨tbm_5 _ (List.mem_of_getElem? (i := 185) rfl), rfl⟩
theorem tb_1216 : q_in (.laysFinal "CardNobodyReadsModel" "CardNobodyReadsModel" "imagePrices" "[I") := ⟨tbm_5 _ (List.mem_of_getElem? (i := 187) rfl), rfl⟩
theorem tb_1218 : q_in (.laysFinal "CardNobodyReadsModel" "CardNobodyReadsModel" "sheetSort" "[I") := ⟨tbm_5 _ (List.mem_of_getElem? (i := 189) rfl), rfl⟩
theorem tb_1220 : q_in (.laysFinal "CardNobodyReadsModel" "CardNobodyReadsModel" "sheetSize" "[I") := ⟨tbm_5 _ (List.mem_of_getElem? (i := 191) rfl), rfl⟩
theorem tb_1222 : q_in (.laysFinal "CardNobodyReadsModel" "CardNobodyReadsModel" "cells" "[I") := ⟨tbm_5 _ (List.mem_of_getElem? (i := 193) rfl), rfl⟩
theorem tb_1224 : q_in (.laysFinal "CardNobodyReadsModel" "CardNobodyReadsModel" "law" "[I") := ⟨tbm_5 _ (List.mem_of_getElem? (i := 195) rfl), rfl⟩
theorem tb_1226 : q_in (.lays "CardNobodyReadsModel" "CardNobodyReadsModel" "at" "I") := ⟨tbm_5 _ (List.mem_of_getElem? (i := 197) rfl), rfl⟩
theorem tb_1228 : q_in (.lays "CardNobodyReadsModel" "CardNobodyReadsModel" "begun" "I") := ⟨tbm_5 _ (List.mem_of_getElem? (i := 199) rfl), rfl⟩
theorem tb_1230 : q_in (.lays "CardNobodyReadsModel" "CardNobodyReadsModel" "token" "I") := ⟨tbm_5 _ (List.mem_of_getElem? (i := 201) rfl), rfl⟩
theorem tb_1232 : q_in (.lays "CardNobodyReadsModel" "CardNobodyReadsModel" "value" "I") := ⟨tbm_5 _ (List.mem_of_getElem? (i := 203) rfl), rfl⟩
theorem tb_1234 : q_in (.laysFinal "CardNobodyReadsModel" "CardNobodyReadsModel" "words" "[I") := ⟨tbm_5 _ (List.mem_of_getElem? (i := 205) rfl), rfl⟩
theorem tb_1236 : q_in (.laysFinal "CardNobodyReadsModel" "CardNobodyReadsModel" "held" "[I") := ⟨tbm_5 _ (List.mem_of_getElem? (i := 207) rfl), rfl⟩
theorem tb_1238 : q_in (.lays "CardNobodyReadsModel" "CardNobodyReadsModel" "heldMany" "I") := ⟨tbm_5 _ (List.mem_of_getElem? (i := 209) rfl), rfl⟩
theorem tb_1240 : q_in (.lays "CardNobodyReadsModel" "CardNobodyReadsModel" "opens" "I") := ⟨tbm_5 _ (List.mem_of_getElem? (i := 211) rfl), rfl⟩
theorem tb_1242 : q_in (.lays "CardNobodyReadsModel" "CardNobodyReadsModel" "out" "I") := ⟨tbm_5 _ (List.mem_of_getElem? (i := 213) rfl), rfl⟩
theorem tb_1244 : q_in (.laysFinal "CardNobodyReadsModel" "CardNobodyReadsModel" "stack" "[I") := ⟨tbm_5 _ (List.mem_of_getElem? (i := 215) rfl), rfl⟩
theorem tb_1246 : q_in (.laysFinal "CardNobodyReadsModel" "CardNobodyReadsModel" "named" "[I") := ⟨tbm_5 _ (List.mem_of_getElem? (i := 217) rfl), rfl⟩
theorem tb_1248 : q_in (.laysFinal "CardNobodyReadsModel" "CardNobodyReadsModel" "fails" "[I") := ⟨tbm_5 _ (List.mem_of_getElem? (i := 219) rfl), rfl⟩
theorem tb_1250 : q_in (.laysFinal "CardNobodyReadsModel" "CardNobodyReadsModel" "mays" "[I") := ⟨tbm_5 _ (List.mem_of_getElem? (i := 221) rfl), rfl⟩
theorem tb_1252 : q_in (.laysFinal "CardNobodyReadsModel" "CardNobodyReadsModel" "fits" "[I") := ⟨tbm_5 _ (List.mem_of_getElem? (i := 223) rfl), rfl⟩
theorem tb_1254 : q_in (.lays "CardNobodyReadsModel" "CardNobodyReadsModel" "fitMany" "I") := ⟨tbm_5 _ (List.mem_of_getElem? (i := 225) rfl), rfl⟩
theorem tb_1256 : q_in (.laysFinal "CardNobodyReadsModel" "CardNobodyReadsModel" "likings" "[I") := ⟨tbm_5 _ (List.mem_of_getElem? (i := 227) rfl), rfl⟩
theorem tb_1258 : q_in (.laysFinal "CardNobodyReadsModel" "CardNobodyReadsModel" "ordering" "[I") := ⟨tbm_5 _ (List.mem_of_getElem? (i := 229) rfl), rfl⟩
theorem tb_1260 : q_in (.laysFinal "CardNobodyReadsModel" "CardNobodyReadsModel" "best" "[I") := ⟨tbm_5 _ (List.mem_of_getElem? (i := 231) rfl), rfl⟩
theorem tb_1262 : q_in (.lays "CardNobodyReadsModel" "CardNobodyReadsModel" "bestLiking" "I") := ⟨tbm_5 _ (List.mem_of_getElem? (i := 233) rfl), rfl⟩
theorem tb_1264 : q_in (.lays "CardNobodyReadsModel" "CardNobodyReadsModel" "bestPrice" "I") := ⟨tbm_5 _ (List.mem_of_getElem? (i := 235) rfl), rfl⟩
theorem tb_1266 : q_in (.laysFinal "CardNobodyReadsModel" "CardNobodyReadsModel" "manyHave" "[I") := ⟨tbm_5 _ (List.mem_of_getElem? (i := 237) rfl), rfl⟩
theorem tb_1270 : q_in (.instanceMethod yX10_line) := ⟨tbm_6 _ (List.mem_of_getElem? (i := 1) rfl), rfl⟩
theorem tb_1271 : q_in (.selects "CardNobodyReadsModel" yX10_line yX10_line) := ⟨tbm_6 _ (List.mem_of_getElem? (i := 2) rfl), rfl⟩
theorem tb_1272 : q_in (.code yX10_line cX10_line 3 (some .int)) := ⟨tbm_6 _ (List.mem_of_getElem? (i := 3) rfl), rfl⟩
theorem tb_1273 : q_in (.methodLink "CardNobodyReadsModel" 108 yX10_ones) := ⟨tbm_6 _ (List.mem_of_getElem? (i := 4) rfl), rfl⟩
theorem tb_1274 : q_in (.static yX10_ones) := ⟨tbm_6 _ (List.mem_of_getElem? (i := 5) rfl), rfl⟩
theorem tb_1275 : q_in (.code yX10_ones cX10_ones 3 (some .int)) := ⟨tbm_6 _ (List.mem_of_getElem? (i := 6) rfl), rfl⟩
theorem tb_1280 : q_in (.methodLink "CardNobodyReadsModel" 112 yX10_isLine) := ⟨tbm_6 _ (List.mem_of_getElem? (i := 11) rfl), rfl⟩
theorem tb_1282 : q_in (.instanceMethod yX10_isLine) := ⟨tbm_6 _ (List.mem_of_getElem? (i := 13) rfl), rfl⟩
theorem tb_1283 : q_in (.code yX10_isLine cX10_isLine 2 (some .boolean)) := ⟨tbm_6 _ (List.mem_of_getElem? (i := 14) rfl), rfl⟩
theorem tb_1296 : q_in (.methodLink "CardNobodyReadsModel" 116 yX10_isGuest) := ⟨tbm_6 _ (List.mem_of_getElem? (i := 27) rfl), rfl⟩
theorem tb_1298 : q_in (.instanceMethod yX10_isGuest) := ⟨tbm_6 _ (List.mem_of_getElem? (i := 29) rfl), rfl⟩
theorem tb_1299 : q_in (.code yX10_isGuest cX10_isGuest 2 (some .boolean)) := ⟨tbm_6 _ (List.mem_of_getElem? (i := 30) rfl), rfl⟩
theorem tb_1312 : q_in (.methodLink "CardNobodyReadsModel" 128 yX10_isByte) := ⟨tbm_6 _ (List.mem_of_getElem? (i := 43) rfl), rfl⟩
theorem tb_1313 : q_in (.static yX10_isByte) := ⟨tbm_6 _ (List.mem_of_getElem? (i := 44) rfl), rfl⟩
theorem tb_1314 : q_in (.code yX10_isByte cX10_isByte 1 (some .boolean)) := ⟨tbm_6 _ (List.mem_of_getElem? (i := 45) rfl), rfl⟩
theorem tb_1324 : q_in (.methodLink "CardNobodyReadsModel" 196 yX10_asksOf) := ⟨tbm_6 _ (List.mem_of_getElem? (i := 55) rfl), rfl⟩
theorem tb_1326 : q_in (.instanceMethod yX10_asksOf) := ⟨tbm_6 _ (List.mem_of_getElem? (i := 57) rfl), rfl⟩
theorem tb_1327 : q_in (.code yX10_asksOf cX10_asksOf 7 (some .int)) := ⟨tbm_6 _ (List.mem_of_getElem? (i := 58) rfl), rfl⟩
theorem tb_1328 : q_in (.methodLink "CardNobodyReadsModel" 190 yX10_worth) := ⟨tbm_6 _ (List.mem_of_getElem? (i := 59) rfl), rfl⟩
theorem tb_1330 : q_in (.instanceMethod yX10_worth) := ⟨tbm_6 _ (List.mem_of_getElem? (i := 61) rfl), rfl⟩
theorem tb_1331 : q_in (.code yX10_worth cX10_worth 5 (some .int)) := ⟨tbm_6 _ (List.mem_of_getElem? (i := 62) rfl), rfl⟩
theorem tb_1332 : q_in (.methodLink "CardNobodyReadsModel" 186 yX10_bothOf) := ⟨tbm_6 _ (List.mem_of_getElem? (i := 63) rfl), rfl⟩
theorem tb_1333 : q_in (.static yX10_bothOf) := ⟨tbm_6 _ (List.mem_of_getElem? (i := 64) rfl), rfl⟩
theorem tb_1334 : q_in (.code yX10_bothOf cX10_bothOf 3 (some .int)) := ⟨tbm_6 _ (List.mem_of_getElem? (i := 65) rfl), rfl⟩
theorem tb_1335 : q_in (.methodLink "CardNobodyReadsModel" 193 yX10_within) := ⟨tbm_6 _ (List.mem_of_getElem? (i := 66) rfl), rfl⟩
theorem tb_1336 : q_in (.static yX10_within) := ⟨tbm_6 _ (List.mem_of_getElem? (i := 67) rfl), rfl⟩
theorem tb_1337 : q_in (.code yX10_within cX10_within 3 (some .int)) := ⟨tbm_6 _ (List.mem_of_getElem? (i := 68) rfl), rfl⟩
theorem tb_1342 : q_in (.methodLink "CardNobodyReadsModel" 200 yX10_isFact) := ⟨tbm_6 _ (List.mem_of_getElem? (i := 73) rfl), rfl⟩
theorem tb_1344 : q_in (.instanceMethod yX10_isFact) := ⟨tbm_6 _ (List.mem_of_getElem? (i := 75) rfl), rfl⟩
theorem tb_1345 : q_in (.code yX10_isFact cX10_isFact 5 (some .boolean)) := ⟨tbm_6 _ (List.mem_of_getElem? (i := 76) rfl), rfl⟩
theorem tb_1346 : q_in (.methodLink "CardNobodyReadsModel" 204 yX10_lays) := ⟨tbm_6 _ (List.mem_of_getElem? (i := 77) rfl), rfl⟩
theorem tb_1348 : q_in (.instanceMethod yX10_lays) := ⟨tbm_6 _ (List.mem_of_getElem? (i := 79) rfl), rfl⟩
theorem tb_1349 : q_in (.code yX10_lays cX10_lays 5 none) := ⟨tbm_6 _ (List.mem_of_getElem? (i := 80) rfl), rfl⟩
theorem tb_1362 : q_in (.methodLink "CardNobodyReadsModel" 228 yX10_finds) := ⟨tbm_6 _ (List.mem_of_getElem? (i := 93) rfl), rfl⟩
theorem tb_1364 : q_in (.instanceMethod yX10_finds) := ⟨tbm_6 _ (List.mem_of_getElem? (i := 95) rfl), rfl⟩
theorem tb_1365 : q_in (.code yX10_finds cX10_finds 3 none) := ⟨tbm_6 _ (List.mem_of_getElem? (i := 96) rfl), rfl⟩
theorem tb_1366 : q_in (.methodLink "CardNobodyReadsModel" 218 yX10_mays) := ⟨tbm_6 _ (List.mem_of_getElem? (i := 97) rfl), rfl⟩
theorem tb_1368 : q_in (.instanceMethod yX10_mays) := ⟨tbm_6 _ (List.mem_of_getElem? (i := 99) rfl), rfl⟩
theorem tb_1369 : q_in (.code yX10_mays cX10_mays 2 none) := ⟨tbm_6 _ (List.mem_of_getElem? (i := 100) rfl), rfl⟩
theorem tb_1370 : q_in (.methodLink "CardNobodyReadsModel" 223 yX10_mayBe) := ⟨tbm_6 _ (List.mem_of_getElem? (i := 101) rfl), rfl⟩
theorem tb_1372 : q_in (.instanceMethod yX10_mayBe) := ⟨tbm_6 _ (List.mem_of_getElem? (i := 103) rfl), rfl⟩
theorem tb_1373 : q_in (.code yX10_mayBe cX10_mayBe 3 (some .boolean)) := ⟨tbm_6 _ (List.mem_of_getElem? (i := 104) rfl), rfl⟩
theorem tb_1374 : q_in (.methodLink "CardNobodyReadsModel" 215 yX10_hasIn) := ⟨tbm_6 _ (List.mem_of_getElem? (i := 105) rfl), rfl⟩
theorem tb_1376 : q_in (.instanceMethod yX10_hasIn) := ⟨tbm_6 _ (List.mem_of_getElem? (i := 107) rfl), rfl⟩
theorem tb_1377 : q_in (.code yX10_hasIn cX10_hasIn 5 (some .int)) := ⟨tbm_6 _ (List.mem_of_getElem? (i := 108) rfl), rfl⟩
theorem tb_1378 : q_in (.methodLink "CardNobodyReadsModel" 226 yX10_holds_) := ⟨tbm_6 _ (List.mem_of_getElem? (i := 109) rfl), rfl⟩
theorem tb_1380 : q_in (.instanceMethod yX10_holds_) := ⟨tbm_6 _ (List.mem_of_getElem? (i := 111) rfl), rfl⟩
theorem tb_1381 : q_in (.code yX10_holds_ cX10_holds_ 6 (some .boolean)) := ⟨tbm_6 _ (List.mem_of_getElem? (i := 112) rfl), rfl⟩
theorem tb_1386 : q_in (.methodLink "CardNobodyReadsModel" 231 yX10_isSign) := ⟨tbm_6 _ (List.mem_of_getElem? (i := 117) rfl), rfl⟩
theorem tb_1387 : q_in (.static yX10_isSign) := ⟨tbm_6 _ (List.mem_of_getElem? (i := 118) rfl), rfl⟩
theorem tb_1388 : q_in (.code yX10_isSign cX10_isSign 1 (some .boolean)) := ⟨tbm_6 _ (List.mem_of_getElem? (i := 119) rfl), rfl⟩
theorem tb_1389 : q_in (.methodLink "CardNobodyReadsModel" 234 yX10_partIn) := ⟨tbm_6 _ (List.mem_of_getElem? (i := 120) rfl), rfl⟩
theorem tb_1391 : q_in (.instanceMethod yX10_partIn) := ⟨tbm_6 _ (List.mem_of_getElem? (i := 122) rfl), rfl⟩
theorem tb_1392 : q_in (.code yX10_partIn cX10_partIn 3 (some .int)) := ⟨tbm_6 _ (List.mem_of_getElem? (i := 123) rfl), rfl⟩
theorem tb_1397 : q_in (.methodLink "CardNobodyReadsModel" 237 yX10_meansIn) := ⟨tbm_6 _ (List.mem_of_getElem? (i := 128) rfl), rfl⟩
theorem tb_1399 : q_in (.instanceMethod yX10_meansIn) := ⟨tbm_6 _ (List.mem_of_getElem? (i := 130) rfl), rfl⟩
theorem tb_1400 : q_in (.code yX10_meansIn cX10_meansIn 5 (some .int)) := ⟨tbm_6 _ (List.mem_of_getElem? (i := 131) rfl), rfl⟩
theorem tb_1405 : q_in (.methodLink "CardNobodyReadsModel" 240 yX10_unlikeOf) := ⟨tbm_6 _ (List.mem_of_getElem? (i := 136) rfl), rfl⟩
theorem tb_1407 : q_in (.instanceMethod yX10_unlikeOf) := ⟨tbm_6 _ (List.mem_of_getElem? (i := 138) rfl), rfl⟩
theorem tb_1408 : q_in (.code yX10_unlikeOf cX10_unlikeOf 4 (some .int)) := ⟨tbm_6 _ (List.mem_of_getElem? (i := 139) rfl), rfl⟩
theorem tb_1417 : q_in (.constantLong "CardNobodyReadsModel" 243 (Int64.ofInt (-4611686018427387904))) := ⟨tbm_6 _ (List.mem_of_getElem? (i := 148) rfl), rfl⟩
theorem tb_1418 : q_in (.methodLink "CardNobodyReadsModel" 249 yX10_ofAll) := ⟨tbm_6 _ (List.mem_of_getElem? (i := 149) rfl), rfl⟩
theorem tb_1420 : q_in (.instanceMethod yX10_ofAll) := ⟨tbm_6 _ (List.mem_of_getElem? (i := 151) rfl), rfl⟩
theorem tb_1421 : q_in (.code yX10_ofAll cX10_ofAll 3 (some .long)) := ⟨tbm_6 _ (List.mem_of_getElem? (i := 152) rfl), rfl⟩
theorem tb_1422 : q_in (.methodLink "CardNobodyReadsModel" 245 yX10_lowest) := ⟨tbm_6 _ (List.mem_of_getElem? (i := 153) rfl), rfl⟩
theorem tb_1423 : q_in (.static yX10_lowest) := ⟨tbm_6 _ (List.mem_of_getElem? (i := 154) rfl), rfl⟩
theorem tb_1424 : q_in (.code yX10_lowest cX10_lowest 11 (some .long)) := ⟨tbm_6 _ (List.mem_of_getElem? (i := 155) rfl), rfl⟩
theorem tb_1437 : q_in (.methodLink "CardNobodyReadsModel" 256 yX10_safeFor) := ⟨tbm_6 _ (List.mem_of_getElem? (i := 168) rfl), rfl⟩
theorem tb_1439 : q_in (.instanceMethod yX10_safeFor) := ⟨tbm_6 _ (List.mem_of_getElem? (i := 170) rfl), rfl⟩
theorem tb_1440 : q_in (.code yX10_safeFor cX10_safeFor 4 (some .int)) := ⟨tbm_6 _ (List.mem_of_getElem? (i := 171) rfl), rfl⟩
theorem tb_1441 : q_in (.methodLink "CardNobodyReadsModel" 253 yX10_shunnedIn) := ⟨tbm_6 _ (List.mem_of_getElem? (i := 172) rfl), rfl⟩
theorem tb_1443 : q_in (.instanceMethod yX10_shunnedIn) := ⟨tbm_6 _ (List.mem_of_getElem? (i := 174) rfl), rfl⟩
theorem tb_1444 : q_in (.code yX10_shunnedIn cX10_shunnedIn 5 (some .int)) := ⟨tbm_6 _ (List.mem_of_getElem? (i := 175) rfl), rfl⟩
theorem tb_1453 : q_in (.methodLink "CardNobodyReadsModel" 275 yX10_tonight) := ⟨tbm_6 _ (List.mem_of_getElem? (i := 184) rfl), rfl⟩
theorem tb_1455 : q_in (.instanceMethod yX10_tonight) := ⟨tbm_6 _ (List.mem_of_getElem? (i := 186) rfl), rfl⟩
theorem tb_1456 : q_in (.code yX10_tonight cX10_tonight 1 none) := ⟨tbm_6 _ (List.mem_of_getElem? (i := 187) rfl), rfl⟩
theorem tb_1457 : q_in (.methodLink "CardNobodyReadsModel" 272 yX10_likes) := ⟨tbm_6 _ (List.mem_of_getElem? (i := 188) rfl), rfl⟩
theorem tb_1459 : q_in (.instanceMethod yX10_likes) := ⟨tbm_6 _ (List.mem_of_getElem? (i := 190) rfl), rfl⟩
theorem tb_1460 : q_in (.code yX10_likes cX10_likes 4 none) := ⟨tbm_6 _ (List.mem_of_getElem? (i := 191) rfl), rfl⟩
theorem tb_1461 : q_in (.methodLink "CardNobodyReadsModel" 259 yX10_liking) := ⟨tbm_6 _ (List.mem_of_getElem? (i := 192) rfl), rfl⟩
theorem tb_1463 : q_in (.instanceMethod yX10_liking) := ⟨tbm_6 _ (List.mem_of_getElem? (i := 194) rfl), rfl⟩
theorem tb_1464 : q_in (.code yX10_liking cX10_liking 5 (some .int)) := ⟨tbm_6 _ (List.mem_of_getElem? (i := 195) rfl), rfl⟩
theorem tb_1465 : q_in (.methodLink "CardNobodyReadsModel" 268 yX10_orders) := ⟨tbm_6 _ (List.mem_of_getElem? (i := 196) rfl), rfl⟩
theorem tb_1467 : q_in (.instanceMethod yX10_orders) := ⟨tbm_6 _ (List.mem_of_getElem? (i := 198) rfl), rfl⟩
theorem tb_1468 : q_in (.code yX10_orders cX10_orders 5 none) := ⟨tbm_6 _ (List.mem_of_getElem? (i := 199) rfl), rfl⟩
theorem tb_1481 : q_in (.methodLink "CardNobodyReadsModel" 282 yX10_teaching) := ⟨tbm_6 _ (List.mem_of_getElem? (i := 212) rfl), rfl⟩
theorem tb_1483 : q_in (.instanceMethod yX10_teaching) := ⟨tbm_6 _ (List.mem_of_getElem? (i := 214) rfl), rfl⟩
theorem tb_1484 : q_in (.code yX10_teaching cX10_teaching 5 (some .int)) := ⟨tbm_6 _ (List.mem_of_getElem? (i := 215) rfl), rfl⟩
theorem tb_1485 : q_in (.methodLink "CardNobodyReadsModel" 278 yX10_counts) := ⟨tbm_6 _ (List.mem_of_getElem? (i := 216) rfl), rfl⟩
theorem tb_1487 : q_in (.instanceMethod yX10_counts) := ⟨tbm_6 _ (List.mem_of_getElem? (i := 218) rfl), rfl⟩
theorem tb_1488 : q_in (.code yX10_counts cX10_counts 4 none) := ⟨tbm_6 _ (List.mem_of_getElem? (i := 219) rfl), rfl⟩
theorem tb_1505 : q_in (.methodLink "CardNobodyReadsModel" 285 yX10_fitWithout) := ⟨tbm_6 _ (List.mem_of_getElem? (i := 236) rfl), rfl⟩
theorem tb_1507 : q_in (.instanceMethod yX10_fitWithout) := ⟨tbm_6 _ (List.mem_of_getElem? (i := 238) rfl), rfl⟩
theorem tb_1508 : q_in (.code yX10_fitWithout cX10_fitWithout 4 (some .int)) := ⟨tbm_6 _ (List.mem_of_getElem? (i := 239) rfl), rfl⟩
theorem tb_1533 : q_in (.constant "CardNobodyReadsModel" 292 (Int32.ofInt 99999)) := ⟨tbm_7 _ (List.mem_of_getElem? (i := 24) rfl), rfl⟩
theorem tb_1534 : q_in (.methodLink "CardNobodyReadsModel" 293 yX10_drawnOf) := ⟨tbm_7 _ (List.mem_of_getElem? (i := 25) rfl), rfl⟩
theorem tb_1536 : q_in (.instanceMethod yX10_drawnOf) := ⟨tbm_7 _ (List.mem_of_getElem? (i := 27) rfl), rfl⟩
theorem tb_1537 : q_in (.code yX10_drawnOf cX10_drawnOf 4 (some .int)) := ⟨tbm_7 _ (List.mem_of_getElem? (i := 28) rfl), rfl⟩
theorem tb_1538 : q_in (.constantLong "CardNobodyReadsModel" 288 (Int64.ofInt 48271)) := ⟨tbm_7 _ (List.mem_of_getElem? (i := 29) rfl), rfl⟩
theorem tb_1539 : q_in (.constantLong "CardNobodyReadsModel" 290 (Int64.ofInt 2147483647)) := ⟨tbm_7 _ (List.mem_of_getElem? (i := 30) rfl), rfl⟩
theorem tb_1568 : q_in (.methodLink "CardNobodyReadsModel" 308 yX10_line) := ⟨tbm_7 _ (List.mem_of_getElem? (i := 59) rfl), rfl⟩
theorem tb_1573 : q_in (.methodLink "CardNobodyReadsModel" 311 yX10_isUnder) := ⟨tbm_7 _ (List.mem_of_getElem? (i := 64) rfl), rfl⟩
theorem tb_1574 : q_in (.static yX10_isUnder) := ⟨tbm_7 _ (List.mem_of_getElem? (i := 65) rfl), rfl⟩
theorem tb_1575 : q_in (.code yX10_isUnder cX10_isUnder 2 (some .boolean)) := ⟨tbm_7 _ (List.mem_of_getElem? (i := 66) rfl), rfl⟩
theorem tb_1576 : q_in (.fieldLink "java/lang/String" 9 "java/lang/String" "value" "[B") := ⟨tbm_7 _ (List.mem_of_getElem? (i := 67) rfl), rfl⟩
theorem tb_1577 : q_in (.fieldLink "java/lang/String" 15 "java/lang/String" "coder" "B") := ⟨tbm_7 _ (List.mem_of_getElem? (i := 68) rfl), rfl⟩
theorem cgX0 : q_cg 0 RX0 TX0 5 tyX0 := ⟨rfl, (show ∀ w ∈ [Cond.laysFinal "CardNobodyReads$Facts" "CardNobodyReads$Facts" "kinds" "[I", Cond.laysFinal "CardNobodyReads$Facts" "CardNobodyReads$Facts" "lines" "[I", Cond.laysFinal "CardNobodyReads$Facts" "CardNobodyReads$Facts" "parts" "[I", Cond.laysFinal "CardNobodyReads$Facts" "CardNobodyReads$Facts" "mores" "[I", Cond.lays "CardNobodyReads$Facts" "CardNobodyReads$Facts" "number" "I"], q_in w from List.forall_mem_cons.mpr ⟨tb_169, List.forall_mem_cons.mpr ⟨tb_171, List.forall_mem_cons.mpr ⟨tb_173, List.forall_mem_cons.mpr ⟨tb_175, List.forall_mem_cons.mpr ⟨tb_177, fun _ h => absurd h List.not_mem_nil⟩⟩⟩⟩⟩), tyX0_ok, nmX0⟩
theorem cgX1 : q_cg 1 RX1 TX1 7 tyX1 := ⟨rfl, (show ∀ w ∈ [Cond.laysFinal "CardNobodyReads$Fits" "CardNobodyReads$Fits" "fitting" "[I", Cond.laysFinal "CardNobodyReads$Fits" "CardNobodyReads$Fits" "meanings" "[I", Cond.laysFinal "CardNobodyReads$Fits" "CardNobodyReads$Fits" "havings" "[I", Cond.laysFinal "CardNobodyReads$Fits" "CardNobodyReads$Fits" "mays" "[I", Cond.laysFinal "CardNobodyReads$Fits" "CardNobodyReads$Fits" "pairs" "[I", Cond.lays "CardNobodyReads$Fits" "CardNobodyReads$Fits" "number" "I", Cond.lays "CardNobodyReads$Fits" "CardNobodyReads$Fits" "lone" "I"], q_in w from List.forall_mem_cons.mpr ⟨tb_468, List.forall_mem_cons.mpr ⟨tb_470, List.forall_mem_cons.mpr ⟨tb_472, List.forall_mem_cons.mpr ⟨tb_474, List.forall_mem_cons.mpr ⟨tb_476, List.forall_mem_cons.mpr ⟨tb_478, List.forall_mem_cons.mpr ⟨tb_480, fun _ h => absurd h List.not_mem_nil⟩⟩⟩⟩⟩⟩⟩), tyX1_ok, nmX1⟩
theorem cgX2 : q_cg 2 RX2 TX2 7 tyX2 := ⟨rfl, (show ∀ w ∈ [Cond.laysFinal "CardNobodyReads$Image" "CardNobodyReads$Image" "prices" "[I", Cond.lays "CardNobodyReads$Image" "CardNobodyReads$Image" "there" "Z", Cond.lays "CardNobodyReads$Image" "CardNobodyReads$Image" "lines" "I", Cond.lays "CardNobodyReads$Image" "CardNobodyReads$Image" "guests" "I", Cond.lays "CardNobodyReads$Image" "CardNobodyReads$Image" "facts" "I", Cond.lays "CardNobodyReads$Image" "CardNobodyReads$Image" "coin" "I", Cond.lays "CardNobodyReads$Image" "CardNobodyReads$Image" "law" "I"], q_in w from List.forall_mem_cons.mpr ⟨tb_522, List.forall_mem_cons.mpr ⟨tb_524, List.forall_mem_cons.mpr ⟨tb_526, List.forall_mem_cons.mpr ⟨tb_528, List.forall_mem_cons.mpr ⟨tb_530, List.forall_mem_cons.mpr ⟨tb_532, List.forall_mem_cons.mpr ⟨tb_534, fun _ h => absurd h List.not_mem_nil⟩⟩⟩⟩⟩⟩⟩), tyX2_ok, nmX2⟩
theorem cgX3 : q_cg 3 RX3 TX3 4 tyX3 := ⟨rfl, (show ∀ w ∈ [Cond.laysFinal "CardNobodyReads$Lines" "CardNobodyReads$Lines" "signs" "[I", Cond.laysFinal "CardNobodyReads$Lines" "CardNobodyReads$Lines" "prices" "[I", Cond.laysFinal "CardNobodyReads$Lines" "CardNobodyReads$Lines" "hads" "[I", Cond.lays "CardNobodyReads$Lines" "CardNobodyReads$Lines" "number" "I"], q_in w from List.forall_mem_cons.mpr ⟨tb_144, List.forall_mem_cons.mpr ⟨tb_146, List.forall_mem_cons.mpr ⟨tb_148, List.forall_mem_cons.mpr ⟨tb_150, fun _ h => absurd h List.not_mem_nil⟩⟩⟩⟩), tyX3_ok, nmX3⟩
theorem cgX4 : q_cg 4 RX4 TX4 3 tyX4 := ⟨rfl, (show ∀ w ∈ [Cond.laysFinal "CardNobodyReads$Sheets" "CardNobodyReads$Sheets" "sorts" "[I", Cond.laysFinal "CardNobodyReads$Sheets" "CardNobodyReads$Sheets" "sizes" "[I", Cond.laysFinal "CardNobodyReads$Sheets" "CardNobodyReads$Sheets" "cells" "[I"], q_in w from List.forall_mem_cons.mpr ⟨tb_546, List.forall_mem_cons.mpr ⟨tb_548, List.forall_mem_cons.mpr ⟨tb_550, fun _ h => absurd h List.not_mem_nil⟩⟩⟩), tyX4_ok, nmX4⟩
theorem cgX5 : q_cg 5 RX5 TX5 4 tyX5 := ⟨rfl, (show ∀ w ∈ [Cond.laysFinal "CardNobodyReads$Tape" "CardNobodyReads$Tape" "bytes" "[I", Cond.laysFinal "CardNobodyReads$Tape" "CardNobodyReads$Tape" "tokens" "[I", Cond.laysFinal "CardNobodyReads$Tape" "CardNobodyReads$Tape" "places" "[I", Cond.lays "CardNobodyReads$Tape" "CardNobodyReads$Tape" "size" "I"], q_in w from List.forall_mem_cons.mpr ⟨tb_199, List.forall_mem_cons.mpr ⟨tb_201, List.forall_mem_cons.mpr ⟨tb_203, List.forall_mem_cons.mpr ⟨tb_205, fun _ h => absurd h List.not_mem_nil⟩⟩⟩⟩), tyX5_ok, nmX5⟩
theorem cgX6 : q_cg 6 RX6 TX6 8 tyX6 := ⟨rfl, (show ∀ w ∈ [Cond.laysFinal "CardNobodyReads$Texts" "CardNobodyReads$Texts" "tape" "LCardNobodyReads$Tape;", Cond.laysFinal "CardNobodyReads$Texts" "CardNobodyReads$Texts" "steps" "[I", Cond.laysFinal "CardNobodyReads$Texts" "CardNobodyReads$Texts" "ends" "[I", Cond.laysFinal "CardNobodyReads$Texts" "CardNobodyReads$Texts" "stack" "[I", Cond.laysFinal "CardNobodyReads$Texts" "CardNobodyReads$Texts" "names" "[I", Cond.lays "CardNobodyReads$Texts" "CardNobodyReads$Texts" "number" "I", Cond.lays "CardNobodyReads$Texts" "CardNobodyReads$Texts" "length" "I", Cond.lays "CardNobodyReads$Texts" "CardNobodyReads$Texts" "next" "I"], q_in w from List.forall_mem_cons.mpr ⟨tb_435, List.forall_mem_cons.mpr ⟨tb_437, List.forall_mem_cons.mpr ⟨tb_439, List.forall_mem_cons.mpr ⟨tb_441, List.forall_mem_cons.mpr ⟨tb_443, List.forall_mem_cons.mpr ⟨tb_445, List.forall_mem_cons.mpr ⟨tb_447, List.forall_mem_cons.mpr ⟨tb_449, fun _ h => absurd h List.not_mem_nil⟩⟩⟩⟩⟩⟩⟩⟩), tyX6_ok, nmX6⟩
theorem cgX7 : q_cg 7 RX7 TX7 1 tyX7 := ⟨rfl, (show ∀ w ∈ [Cond.laysFinal "CardNobodyReads$Tongues" "CardNobodyReads$Tongues" "parts" "[I"], q_in w from List.forall_mem_cons.mpr ⟨tb_126, fun _ h => absurd h List.not_mem_nil⟩), tyX7_ok, nmX7⟩
theorem cgX8 : q_cg 8 RX8 TX8 5 tyX8 := ⟨rfl, (show ∀ w ∈ [Cond.laysFinal "CardNobodyReads$Tonight" "CardNobodyReads$Tonight" "likings" "[I", Cond.laysFinal "CardNobodyReads$Tonight" "CardNobodyReads$Tonight" "way" "[I", Cond.laysFinal "CardNobodyReads$Tonight" "CardNobodyReads$Tonight" "best" "[I", Cond.lays "CardNobodyReads$Tonight" "CardNobodyReads$Tonight" "liked" "I", Cond.lays "CardNobodyReads$Tonight" "CardNobodyReads$Tonight" "spent" "I"], q_in w from List.forall_mem_cons.mpr ⟨tb_497, List.forall_mem_cons.mpr ⟨tb_499, List.forall_mem_cons.mpr ⟨tb_501, List.forall_mem_cons.mpr ⟨tb_503, List.forall_mem_cons.mpr ⟨tb_505, fun _ h => absurd h List.not_mem_nil⟩⟩⟩⟩⟩), tyX8_ok, nmX8⟩
theorem cgX9 : q_cg 9 RX9 TX9 13 tyX9 := ⟨rfl, (show ∀ w ∈ [Cond.laysFinal "CardNobodyReads" "CardNobodyReads" "tongues" "LCardNobodyReads$Tongues;", Cond.laysFinal "CardNobodyReads" "CardNobodyReads" "card" "LCardNobodyReads$Lines;", Cond.laysFinal "CardNobodyReads" "CardNobodyReads" "known" "LCardNobodyReads$Facts;", Cond.laysFinal "CardNobodyReads" "CardNobodyReads" "book" "LCardNobodyReads$Texts;", Cond.laysFinal "CardNobodyReads" "CardNobodyReads" "fits" "LCardNobodyReads$Fits;", Cond.laysFinal "CardNobodyReads" "CardNobodyReads" "tonight" "LCardNobodyReads$Tonight;", Cond.laysFinal "CardNobodyReads" "CardNobodyReads" "kept" "LCardNobodyReads$Image;", Cond.laysFinal "CardNobodyReads" "CardNobodyReads" "host" "LCardNobodyReads$Sheets;", Cond.laysFinal "CardNobodyReads" "CardNobodyReads" "shuns" "[I", Cond.lays "CardNobodyReads" "CardNobodyReads" "guests" "I", Cond.lays "CardNobodyReads" "CardNobodyReads" "coin" "I", Cond.lays "CardNobodyReads" "CardNobodyReads" "law" "I", Cond.lays "CardNobodyReads" "CardNobodyReads" "stale" "Z"], q_in w from List.forall_mem_cons.mpr ⟨tb_566, List.forall_mem_cons.mpr ⟨tb_568, List.forall_mem_cons.mpr ⟨tb_570, List.forall_mem_cons.mpr ⟨tb_572, List.forall_mem_cons.mpr ⟨tb_574, List.forall_mem_cons.mpr ⟨tb_576, List.forall_mem_cons.mpr ⟨tb_578, List.forall_mem_cons.mpr ⟨tb_580, List.forall_mem_cons.mpr ⟨tb_582, List.forall_mem_cons.mpr ⟨tb_584, List.forall_mem_cons.mpr ⟨tb_586, List.forall_mem_cons.mpr ⟨tb_588, List.forall_mem_cons.mpr ⟨tb_590, fun _ h => absurd h List.not_mem_nil⟩⟩⟩⟩⟩⟩⟩⟩⟩⟩⟩⟩⟩), tyX9_ok, nmX9⟩
theorem cgX10 : q_cg 10 RX10 TX10 47 tyX10 := ⟨rfl, (show ∀ w ∈ [Cond.lays "CardNobodyReadsModel" "CardNobodyReadsModel" "lines" "I", Cond.laysFinal "CardNobodyReadsModel" "CardNobodyReadsModel" "signsOf" "[I", Cond.laysFinal "CardNobodyReadsModel" "CardNobodyReadsModel" "priceOf" "[I", Cond.lays "CardNobodyReadsModel" "CardNobodyReadsModel" "guests" "I", Cond.laysFinal "CardNobodyReadsModel" "CardNobodyReadsModel" "shuns" "[I", Cond.lays "CardNobodyReadsModel" "CardNobodyReadsModel" "coin" "I", Cond.lays "CardNobodyReadsModel" "CardNobodyReadsModel" "facts" "I", Cond.laysFinal "CardNobodyReadsModel" "CardNobodyReadsModel" "factOf" "[I", Cond.laysFinal "CardNobodyReadsModel" "CardNobodyReadsModel" "tongues" "[I", Cond.laysFinal "CardNobodyReadsModel" "CardNobodyReadsModel" "tape" "[I", Cond.lays "CardNobodyReadsModel" "CardNobodyReadsModel" "taped" "I", Cond.laysFinal "CardNobodyReadsModel" "CardNobodyReadsModel" "codes" "[I", Cond.laysFinal "CardNobodyReadsModel" "CardNobodyReadsModel" "starts" "[I", Cond.lays "CardNobodyReadsModel" "CardNobodyReadsModel" "texts" "I", Cond.lays "CardNobodyReadsModel" "CardNobodyReadsModel" "rule" "I", Cond.lays "CardNobodyReadsModel" "CardNobodyReadsModel" "hasImage" "Z", Cond.lays "CardNobodyReadsModel" "CardNobodyReadsModel" "imageLines" "I", Cond.lays "CardNobodyReadsModel" "CardNobodyReadsModel" "imageGuests" "I", Cond.lays "CardNobodyReadsModel" "CardNobodyReadsModel" "imageFacts" "I", Cond.lays "CardNobodyReadsModel" "CardNobodyReadsModel" "imageCoin" "I", Cond.lays "CardNobodyReadsModel" "CardNobodyReadsModel" "imageRule" "I", Cond.laysFinal "CardNobodyReadsModel" "CardNobodyReadsModel" "imagePrices" "[I", Cond.laysFinal "CardNobodyReadsModel" "CardNobodyReadsModel" "sheetSort" "[I", Cond.laysFinal "CardNobodyReadsModel" "CardNobodyReadsModel" "sheetSize" "[I", Cond.laysFinal "CardNobodyReadsModel" "CardNobodyReadsModel" "cells" "[I", Cond.laysFinal "CardNobodyReadsModel" "CardNobodyReadsModel" "law" "[I", Cond.lays "CardNobodyReadsModel" "CardNobodyReadsModel" "at" "I", Cond.lays "CardNobodyReadsModel" "CardNobodyReadsModel" "begun" "I", Cond.lays "CardNobodyReadsModel" "CardNobodyReadsModel" "token" "I", Cond.lays "CardNobodyReadsModel" "CardNobodyReadsModel" "value" "I", Cond.laysFinal "CardNobodyReadsModel" "CardNobodyReadsModel" "words" "[I", Cond.laysFinal "CardNobodyReadsModel" "CardNobodyReadsModel" "held" "[I", Cond.lays "CardNobodyReadsModel" "CardNobodyReadsModel" "heldMany" "I", Cond.lays "CardNobodyReadsModel" "CardNobodyReadsModel" "opens" "I", Cond.lays "CardNobodyReadsModel" "CardNobodyReadsModel" "out" "I", Cond.laysFinal "CardNobodyReadsModel" "CardNobodyReadsModel" "stack" "[I", Cond.laysFinal "CardNobodyReadsModel" "CardNobodyReadsModel" "named" "[I", Cond.laysFinal "CardNobodyReadsModel" "CardNobodyReadsModel" "fails" "[I", Cond.laysFinal "CardNobodyReadsModel" "CardNobodyReadsModel" "mays" "[I", Cond.laysFinal "CardNobodyReadsModel" "CardNobodyReadsModel" "fits" "[I", Cond.lays "CardNobodyReadsModel" "CardNobodyReadsModel" "fitMany" "I", Cond.laysFinal "CardNobodyReadsModel" "CardNobodyReadsModel" "likings" "[I", Cond.laysFinal "CardNobodyReadsModel" "CardNobodyReadsModel" "ordering" "[I", Cond.laysFinal "CardNobodyReadsModel" "CardNobodyReadsModel" "best" "[I", Cond.lays "CardNobodyReadsModel" "CardNobodyReadsModel" "bestLiking" "I", Cond.lays "CardNobodyReadsModel" "CardNobodyReadsModel" "bestPrice" "I", Cond.laysFinal "CardNobodyReadsModel" "CardNobodyReadsModel" "manyHave" "[I"], q_in w from List.forall_mem_cons.mpr ⟨tb_1174, List.forall_mem_cons.mpr ⟨tb_1176, List.forall_mem_cons.mpr ⟨tb_1178, List.forall_mem_cons.mpr ⟨tb_1180, List.forall_mem_cons.mpr ⟨tb_1182, List.forall_mem_cons.mpr ⟨tb_1184, List.forall_mem_cons.mpr ⟨tb_1186, List.forall_mem_cons.mpr ⟨tb_1188, List.forall_mem_cons.mpr ⟨tb_1190, List.forall_mem_cons.mpr ⟨tb_1192, List.forall_mem_cons.mpr ⟨tb_1194, List.forall_mem_cons.mpr ⟨tb_1196, List.forall_mem_cons.mpr ⟨tb_1198, List.forall_mem_cons.mpr ⟨tb_1200, List.forall_mem_cons.mpr ⟨tb_1202, List.forall_mem_cons.mpr ⟨tb_1204, List.forall_mem_cons.mpr ⟨tb_1206, List.forall_mem_cons.mpr ⟨tb_1208, List.forall_mem_cons.mpr ⟨tb_1210, List.forall_mem_cons.mpr ⟨tb_1212, List.forall_mem_cons.mpr ⟨tb_1214, List.forall_mem_cons.mpr ⟨tb_1216, List.forall_mem_cons.mpr ⟨tb_1218, List.forall_mem_cons.mpr ⟨tb_1220, List.forall_mem_cons.mpr ⟨tb_1222, List.forall_mem_cons.mpr ⟨tb_1224, List.forall_mem_cons.mpr ⟨tb_1226, List.forall_mem_cons.mpr ⟨tb_1228, List.forall_mem_cons.mpr ⟨tb_1230, List.forall_mem_cons.mpr ⟨tb_1232, List.forall_mem_cons.mpr ⟨tb_1234, List.forall_mem_cons.mpr ⟨tb_1236, List.forall_mem_cons.mpr ⟨tb_1238, List.forall_mem_cons.mpr ⟨tb_1240, List.forall_mem_cons.mpr ⟨tb_1242, List.forall_mem_cons.mpr ⟨tb_1244, List.forall_mem_cons.mpr ⟨tb_1246, List.forall_mem_cons.mpr ⟨tb_1248, List.forall_mem_cons.mpr ⟨tb_1250, List.forall_mem_cons.mpr ⟨tb_1252, List.forall_mem_cons.mpr ⟨tb_1254, List.forall_mem_cons.mpr ⟨tb_1256, List.forall_mem_cons.mpr ⟨tb_1258, List.forall_mem_cons.mpr ⟨tb_1260, List.forall_mem_cons.mpr ⟨tb_1262, List.forall_mem_cons.mpr ⟨tb_1264, List.forall_mem_cons.mpr ⟨tb_1266, fun _ h => absurd h List.not_mem_nil⟩⟩⟩⟩⟩⟩⟩⟩⟩⟩⟩⟩⟩⟩⟩⟩⟩⟩⟩⟩⟩⟩⟩⟩⟩⟩⟩⟩⟩⟩⟩⟩⟩⟩⟩⟩⟩⟩⟩⟩⟩⟩⟩⟩⟩⟩⟩), tyX10_ok, nmX10⟩
/-- all cells, behind both constructors -/
def q_SA (ad : Nat → Nat) : SW := [
  (ad 0, .inr (9, [some (some (ad 1)), some (some (ad 3)), some (some (ad 7)), some (some (ad 12)), some (some (ad 21)), some (some (ad 27)), some (some (ad 31)), some (some (ad 33)), some (some (ad 37)), none, none, none, none])),
  (ad 1, .inr (7, [some (some (ad 2))])),
  (ad 2, .inl 4320),
  (ad 3, .inr (3, [some (some (ad 4)), some (some (ad 5)), some (some (ad 6)), none])),
  (ad 4, .inl 10),
  (ad 5, .inl 10),
  (ad 6, .inl 7200),
  (ad 7, .inr (0, [some (some (ad 8)), some (some (ad 9)), some (some (ad 10)), some (some (ad 11)), none])),
  (ad 8, .inl 12),
  (ad 9, .inl 12),
  (ad 10, .inl 12),
  (ad 11, .inl 12),
  (ad 12, .inr (6, [some (some (ad 13)), some (some (ad 17)), some (some (ad 18)), some (some (ad 19)), some (some (ad 20)), none, none, none])),
  (ad 13, .inr (5, [some (some (ad 14)), some (some (ad 15)), some (some (ad 16)), none])),
  (ad 14, .inl 160),
  (ad 15, .inl 161),
  (ad 16, .inl 161),
  (ad 17, .inl 960),
  (ad 18, .inl 18),
  (ad 19, .inl 31),
  (ad 20, .inl 6),
  (ad 21, .inr (1, [some (some (ad 22)), some (some (ad 23)), some (some (ad 24)), some (some (ad 25)), some (some (ad 26)), none, none])),
  (ad 22, .inl 720),
  (ad 23, .inl 36),
  (ad 24, .inl 640),
  (ad 25, .inl 640),
  (ad 26, .inl 4096),
  (ad 27, .inr (8, [some (some (ad 28)), some (some (ad 29)), some (some (ad 30)), none, none])),
  (ad 28, .inl 40),
  (ad 29, .inl 4),
  (ad 30, .inl 4),
  (ad 31, .inr (2, [some (some (ad 32)), none, none, none, none, none, none])),
  (ad 32, .inl 10),
  (ad 33, .inr (4, [some (some (ad 34)), some (some (ad 35)), some (some (ad 36))])),
  (ad 34, .inl 4),
  (ad 35, .inl 4),
  (ad 36, .inl 160),
  (ad 37, .inl 4),
  (ad 38, .inr (10, [none, some (some (ad 39)), some (some (ad 40)), none, some (some (ad 41)), none, none, some (some (ad 42)), some (some (ad 43)), some (some (ad 44)), none, some (some (ad 45)), some (some (ad 46)), none, none, none, none, none, none, none, none, some (some (ad 47)), some (some (ad 48)), some (some (ad 49)), some (some (ad 50)), some (some (ad 51)), none, none, none, none, some (some (ad 52)), some (some (ad 53)), none, none, none, some (some (ad 54)), some (some (ad 55)), some (some (ad 56)), some (some (ad 57)), some (some (ad 58)), none, some (some (ad 59)), some (some (ad 60)), some (some (ad 61)), none, none, some (some (ad 62))])),
  (ad 39, .inl 10),
  (ad 40, .inl 10),
  (ad 41, .inl 4),
  (ad 42, .inl 52),
  (ad 43, .inl 4320),
  (ad 44, .inl 160),
  (ad 45, .inl 1200),
  (ad 46, .inl 24),
  (ad 47, .inl 10),
  (ad 48, .inl 4),
  (ad 49, .inl 4),
  (ad 50, .inl 160),
  (ad 51, .inl 53),
  (ad 52, .inl 96),
  (ad 53, .inl 200),
  (ad 54, .inl 200),
  (ad 55, .inl 6),
  (ad 56, .inl 720),
  (ad 57, .inl 640),
  (ad 58, .inl 720),
  (ad 59, .inl 40),
  (ad 60, .inl 4),
  (ad 61, .inl 4),
  (ad 62, .inl 4096)]
def q_ag (lo hi : Nat) (ad : Nat → Nat) (S : SW) : Prop := ∀ k, lo ≤ k → k < hi → S[k]? = (q_SA ad)[k]?
theorem q_ag_sub {lo hi lo2 hi2 : Nat} {ad : Nat → Nat} {S : SW} (h : q_ag lo hi ad S) (h1 : lo ≤ lo2) (h2 : hi2 ≤ hi) : q_ag lo2 hi2 ad S := fun k a b => h k (Nat.le_trans h1 a) (Nat.lt_of_lt_of_le b h2)
theorem cl0 {lo hi : Nat} {ad : Nat → Nat} {S : SW} (h : q_ag lo hi ad S) (h1 : lo ≤ 0 := by decide) (h2 : 0 < hi := by decide) : S[0]? = some (ad 0, .inr (9, [some (some (ad 1)), some (some (ad 3)), some (some (ad 7)), some (some (ad 12)), some (some (ad 21)), some (some (ad 27)), some (some (ad 31)), some (some (ad 33)), some (some (ad 37)), none, none, none, none])) := (h 0 h1 h2).trans rfl
theorem cl1 {lo hi : Nat} {ad : Nat → Nat} {S : SW} (h : q_ag lo hi ad S) (h1 : lo ≤ 1 := by decide) (h2 : 1 < hi := by decide) : S[1]? = some (ad 1, .inr (7, [some (some (ad 2))])) := (h 1 h1 h2).trans rfl
theorem cl2 {lo hi : Nat} {ad : Nat → Nat} {S : SW} (h : q_ag lo hi ad S) (h1 : lo ≤ 2 := by decide) (h2 : 2 < hi := by decide) : S[2]? = some (ad 2, .inl 4320) := (h 2 h1 h2).trans rfl
theorem cl3 {lo hi : Nat} {ad : Nat → Nat} {S : SW} (h : q_ag lo hi ad S) (h1 : lo ≤ 3 := by decide) (h2 : 3 < hi := by decide) : S[3]? = some (ad 3, .inr (3, [some (some (ad 4)), some (some (ad 5)), some (some (ad 6)), none])) := (h 3 h1 h2).trans rfl
theorem cl4 {lo hi : Nat} {ad : Nat → Nat} {S : SW} (h : q_ag lo hi ad S) (h1 : lo ≤ 4 := by decide) (h2 : 4 < hi := by decide) : S[4]? = some (ad 4, .inl 10) := (h 4 h1 h2).trans rfl
theorem cl5 {lo hi : Nat} {ad : Nat → Nat} {S : SW} (h : q_ag lo hi ad S) (h1 : lo ≤ 5 := by decide) (h2 : 5 < hi := by decide) : S[5]? = some (ad 5, .inl 10) := (h 5 h1 h2).trans rfl
theorem cl6 {lo hi : Nat} {ad : Nat → Nat} {S : SW} (h : q_ag lo hi ad S) (h1 : lo ≤ 6 := by decide) (h2 : 6 < hi := by decide) : S[6]? = some (ad 6, .inl 7200) := (h 6 h1 h2).trans rfl
theorem cl7 {lo hi : Nat} {ad : Nat → Nat} {S : SW} (h : q_ag lo hi ad S) (h1 : lo ≤ 7 := by decide) (h2 : 7 < hi := by decide) : S[7]? = some (ad 7, .inr (0, [some (some (ad 8)), some (some (ad 9)), some (some (ad 10)), some (some (ad 11)), none])) := (h 7 h1 h2).trans rfl
theorem cl8 {lo hi : Nat} {ad : Nat → Nat} {S : SW} (h : q_ag lo hi ad S) (h1 : lo ≤ 8 := by decide) (h2 : 8 < hi := by decide) : S[8]? = some (ad 8, .inl 12) := (h 8 h1 h2).trans rfl
theorem cl9 {lo hi : Nat} {ad : Nat → Nat} {S : SW} (h : q_ag lo hi ad S) (h1 : lo ≤ 9 := by decide) (h2 : 9 < hi := by decide) : S[9]? = some (ad 9, .inl 12) := (h 9 h1 h2).trans rfl
theorem cl10 {lo hi : Nat} {ad : Nat → Nat} {S : SW} (h : q_ag lo hi ad S) (h1 : lo ≤ 10 := by decide) (h2 : 10 < hi := by decide) : S[10]? = some (ad 10, .inl 12) := (h 10 h1 h2).trans rfl
theorem cl11 {lo hi : Nat} {ad : Nat → Nat} {S : SW} (h : q_ag lo hi ad S) (h1 : lo ≤ 11 := by decide) (h2 : 11 < hi := by decide) : S[11]? = some (ad 11, .inl 12) := (h 11 h1 h2).trans rfl
theorem cl12 {lo hi : Nat} {ad : Nat → Nat} {S : SW} (h : q_ag lo hi ad S) (h1 : lo ≤ 12 := by decide) (h2 : 12 < hi := by decide) : S[12]? = some (ad 12, .inr (6, [some (some (ad 13)), some (some (ad 17)), some (some (ad 18)), some (some (ad 19)), some (some (ad 20)), none, none, none])) := (h 12 h1 h2).trans rfl
theorem cl13 {lo hi : Nat} {ad : Nat → Nat} {S : SW} (h : q_ag lo hi ad S) (h1 : lo ≤ 13 := by decide) (h2 : 13 < hi := by decide) : S[13]? = some (ad 13, .inr (5, [some (some (ad 14)), some (some (ad 15)), some (some (ad 16)), none])) := (h 13 h1 h2).trans rfl
theorem cl14 {lo hi : Nat} {ad : Nat → Nat} {S : SW} (h : q_ag lo hi ad S) (h1 : lo ≤ 14 := by decide) (h2 : 14 < hi := by decide) : S[14]? = some (ad 14, .inl 160) := (h 14 h1 h2).trans rfl
theorem cl15 {lo hi : Nat} {ad : Nat → Nat} {S : SW} (h : q_ag lo hi ad S) (h1 : lo ≤ 15 := by decide) (h2 : 15 < hi := by decide) : S[15]? = some (ad 15, .inl 161) := (h 15 h1 h2).trans rfl
theorem cl16 {lo hi : Nat} {ad : Nat → Nat} {S : SW} (h : q_ag lo hi ad S) (h1 : lo ≤ 16 := by decide) (h2 : 16 < hi := by decide) : S[16]? = some (ad 16, .inl 161) := (h 16 h1 h2).trans rfl
theorem cl17 {lo hi : Nat} {ad : Nat → Nat} {S : SW} (h : q_ag lo hi ad S) (h1 : lo ≤ 17 := by decide) (h2 : 17 < hi := by decide) : S[17]? = some (ad 17, .inl 960) := (h 17 h1 h2).trans rfl
theorem cl18 {lo hi : Nat} {ad : Nat → Nat} {S : SW} (h : q_ag lo hi ad S) (h1 : lo ≤ 18 := by decide) (h2 : 18 < hi := by decide) : S[18]? = some (ad 18, .inl 18) := (h 18 h1 h2).trans rfl
theorem cl19 {lo hi : Nat} {ad : Nat → Nat} {S : SW} (h : q_ag lo hi ad S) (h1 : lo ≤ 19 := by decide) (h2 : 19 < hi := by decide) : S[19]? = some (ad 19, .inl 31) := (h 19 h1 h2).trans rfl
theorem cl20 {lo hi : Nat} {ad : Nat → Nat} {S : SW} (h : q_ag lo hi ad S) (h1 : lo ≤ 20 := by decide) (h2 : 20 < hi := by decide) : S[20]? = some (ad 20, .inl 6) := (h 20 h1 h2).trans rfl
theorem cl21 {lo hi : Nat} {ad : Nat → Nat} {S : SW} (h : q_ag lo hi ad S) (h1 : lo ≤ 21 := by decide) (h2 : 21 < hi := by decide) : S[21]? = some (ad 21, .inr (1, [some (some (ad 22)), some (some (ad 23)), some (some (ad 24)), some (some (ad 25)), some (some (ad 26)), none, none])) := (h 21 h1 h2).trans rfl
theorem cl22 {lo hi : Nat} {ad : Nat → Nat} {S : SW} (h : q_ag lo hi ad S) (h1 : lo ≤ 22 := by decide) (h2 : 22 < hi := by decide) : S[22]? = some (ad 22, .inl 720) := (h 22 h1 h2).trans rfl
theorem cl23 {lo hi : Nat} {ad : Nat → Nat} {S : SW} (h : q_ag lo hi ad S) (h1 : lo ≤ 23 := by decide) (h2 : 23 < hi := by decide) : S[23]? = some (ad 23, .inl 36) := (h 23 h1 h2).trans rfl
theorem cl24 {lo hi : Nat} {ad : Nat → Nat} {S : SW} (h : q_ag lo hi ad S) (h1 : lo ≤ 24 := by decide) (h2 : 24 < hi := by decide) : S[24]? = some (ad 24, .inl 640) := (h 24 h1 h2).trans rfl
theorem cl25 {lo hi : Nat} {ad : Nat → Nat} {S : SW} (h : q_ag lo hi ad S) (h1 : lo ≤ 25 := by decide) (h2 : 25 < hi := by decide) : S[25]? = some (ad 25, .inl 640) := (h 25 h1 h2).trans rfl
theorem cl26 {lo hi : Nat} {ad : Nat → Nat} {S : SW} (h : q_ag lo hi ad S) (h1 : lo ≤ 26 := by decide) (h2 : 26 < hi := by decide) : S[26]? = some (ad 26, .inl 4096) := (h 26 h1 h2).trans rfl
theorem cl27 {lo hi : Nat} {ad : Nat → Nat} {S : SW} (h : q_ag lo hi ad S) (h1 : lo ≤ 27 := by decide) (h2 : 27 < hi := by decide) : S[27]? = some (ad 27, .inr (8, [some (some (ad 28)), some (some (ad 29)), some (some (ad 30)), none, none])) := (h 27 h1 h2).trans rfl
theorem cl28 {lo hi : Nat} {ad : Nat → Nat} {S : SW} (h : q_ag lo hi ad S) (h1 : lo ≤ 28 := by decide) (h2 : 28 < hi := by decide) : S[28]? = some (ad 28, .inl 40) := (h 28 h1 h2).trans rfl
theorem cl29 {lo hi : Nat} {ad : Nat → Nat} {S : SW} (h : q_ag lo hi ad S) (h1 : lo ≤ 29 := by decide) (h2 : 29 < hi := by decide) : S[29]? = some (ad 29, .inl 4) := (h 29 h1 h2).trans rfl
theorem cl30 {lo hi : Nat} {ad : Nat → Nat} {S : SW} (h : q_ag lo hi ad S) (h1 : lo ≤ 30 := by decide) (h2 : 30 < hi := by decide) : S[30]? = some (ad 30, .inl 4) := (h 30 h1 h2).trans rfl
theorem cl31 {lo hi : Nat} {ad : Nat → Nat} {S : SW} (h : q_ag lo hi ad S) (h1 : lo ≤ 31 := by decide) (h2 : 31 < hi := by decide) : S[31]? = some (ad 31, .inr (2, [some (some (ad 32)), none, none, none, none, none, none])) := (h 31 h1 h2).trans rfl
theorem cl32 {lo hi : Nat} {ad : Nat → Nat} {S : SW} (h : q_ag lo hi ad S) (h1 : lo ≤ 32 := by decide) (h2 : 32 < hi := by decide) : S[32]? = some (ad 32, .inl 10) := (h 32 h1 h2).trans rfl
theorem cl33 {lo hi : Nat} {ad : Nat → Nat} {S : SW} (h : q_ag lo hi ad S) (h1 : lo ≤ 33 := by decide) (h2 : 33 < hi := by decide) : S[33]? = some (ad 33, .inr (4, [some (some (ad 34)), some (some (ad 35)), some (some (ad 36))])) := (h 33 h1 h2).trans rfl
theorem cl34 {lo hi : Nat} {ad : Nat → Nat} {S : SW} (h : q_ag lo hi ad S) (h1 : lo ≤ 34 := by decide) (h2 : 34 < hi := by decide) : S[34]? = some (ad 34, .inl 4) := (h 34 h1 h2).trans rfl
theorem cl35 {lo hi : Nat} {ad : Nat → Nat} {S : SW} (h : q_ag lo hi ad S) (h1 : lo ≤ 35 := by decide) (h2 : 35 < hi := by decide) : S[35]? = some (ad 35, .inl 4) := (h 35 h1 h2).trans rfl
theorem cl36 {lo hi : Nat} {ad : Nat → Nat} {S : SW} (h : q_ag lo hi ad S) (h1 : lo ≤ 36 := by decide) (h2 : 36 < hi := by decide) : S[36]? = some (ad 36, .inl 160) := (h 36 h1 h2).trans rfl
theorem cl37 {lo hi : Nat} {ad : Nat → Nat} {S : SW} (h : q_ag lo hi ad S) (h1 : lo ≤ 37 := by decide) (h2 : 37 < hi := by decide) : S[37]? = some (ad 37, .inl 4) := (h 37 h1 h2).trans rfl
theorem cl38 {lo hi : Nat} {ad : Nat → Nat} {S : SW} (h : q_ag lo hi ad S) (h1 : lo ≤ 38 := by decide) (h2 : 38 < hi := by decide) : S[38]? = some (ad 38, .inr (10, [none, some (some (ad 39)), some (some (ad 40)), none, some (some (ad 41)), none, none, some (some (ad 42)), some (some (ad 43)), some (some (ad 44)), none, some (some (ad 45)), some (some (ad 46)), none, none, none, none, none, none, none, none, some (some (ad 47)), some (some (ad 48)), some (some (ad 49)), some (some (ad 50)), some (some (ad 51)), none, none, none, none, some (some (ad 52)), some (some (ad 53)), none, none, none, some (some (ad 54)), some (some (ad 55)), some (some (ad 56)), some (some (ad 57)), some (some (ad 58)), none, some (some (ad 59)), some (some (ad 60)), some (some (ad 61)), none, none, some (some (ad 62))])) := (h 38 h1 h2).trans rfl
theorem cl39 {lo hi : Nat} {ad : Nat → Nat} {S : SW} (h : q_ag lo hi ad S) (h1 : lo ≤ 39 := by decide) (h2 : 39 < hi := by decide) : S[39]? = some (ad 39, .inl 10) := (h 39 h1 h2).trans rfl
theorem cl40 {lo hi : Nat} {ad : Nat → Nat} {S : SW} (h : q_ag lo hi ad S) (h1 : lo ≤ 40 := by decide) (h2 : 40 < hi := by decide) : S[40]? = some (ad 40, .inl 10) := (h 40 h1 h2).trans rfl
theorem cl41 {lo hi : Nat} {ad : Nat → Nat} {S : SW} (h : q_ag lo hi ad S) (h1 : lo ≤ 41 := by decide) (h2 : 41 < hi := by decide) : S[41]? = some (ad 41, .inl 4) := (h 41 h1 h2).trans rfl
theorem cl42 {lo hi : Nat} {ad : Nat → Nat} {S : SW} (h : q_ag lo hi ad S) (h1 : lo ≤ 42 := by decide) (h2 : 42 < hi := by decide) : S[42]? = some (ad 42, .inl 52) := (h 42 h1 h2).trans rfl
theorem cl43 {lo hi : Nat} {ad : Nat → Nat} {S : SW} (h : q_ag lo hi ad S) (h1 : lo ≤ 43 := by decide) (h2 : 43 < hi := by decide) : S[43]? = some (ad 43, .inl 4320) := (h 43 h1 h2).trans rfl
theorem cl44 {lo hi : Nat} {ad : Nat → Nat} {S : SW} (h : q_ag lo hi ad S) (h1 : lo ≤ 44 := by decide) (h2 : 44 < hi := by decide) : S[44]? = some (ad 44, .inl 160) := (h 44 h1 h2).trans rfl
theorem cl45 {lo hi : Nat} {ad : Nat → Nat} {S : SW} (h : q_ag lo hi ad S) (h1 : lo ≤ 45 := by decide) (h2 : 45 < hi := by decide) : S[45]? = some (ad 45, .inl 1200) := (h 45 h1 h2).trans rfl
theorem cl46 {lo hi : Nat} {ad : Nat → Nat} {S : SW} (h : q_ag lo hi ad S) (h1 : lo ≤ 46 := by decide) (h2 : 46 < hi := by decide) : S[46]? = some (ad 46, .inl 24) := (h 46 h1 h2).trans rfl
theorem cl47 {lo hi : Nat} {ad : Nat → Nat} {S : SW} (h : q_ag lo hi ad S) (h1 : lo ≤ 47 := by decide) (h2 : 47 < hi := by decide) : S[47]? = some (ad 47, .inl 10) := (h 47 h1 h2).trans rfl
theorem cl48 {lo hi : Nat} {ad : Nat → Nat} {S : SW} (h : q_ag lo hi ad S) (h1 : lo ≤ 48 := by decide) (h2 : 48 < hi := by decide) : S[48]? = some (ad 48, .inl 4) := (h 48 h1 h2).trans rfl
theorem cl49 {lo hi : Nat} {ad : Nat → Nat} {S : SW} (h : q_ag lo hi ad S) (h1 : lo ≤ 49 := by decide) (h2 : 49 < hi := by decide) : S[49]? = some (ad 49, .inl 4) := (h 49 h1 h2).trans rfl
theorem cl50 {lo hi : Nat} {ad : Nat → Nat} {S : SW} (h : q_ag lo hi ad S) (h1 : lo ≤ 50 := by decide) (h2 : 50 < hi := by decide) : S[50]? = some (ad 50, .inl 160) := (h 50 h1 h2).trans rfl
theorem cl51 {lo hi : Nat} {ad : Nat → Nat} {S : SW} (h : q_ag lo hi ad S) (h1 : lo ≤ 51 := by decide) (h2 : 51 < hi := by decide) : S[51]? = some (ad 51, .inl 53) := (h 51 h1 h2).trans rfl
theorem cl52 {lo hi : Nat} {ad : Nat → Nat} {S : SW} (h : q_ag lo hi ad S) (h1 : lo ≤ 52 := by decide) (h2 : 52 < hi := by decide) : S[52]? = some (ad 52, .inl 96) := (h 52 h1 h2).trans rfl
theorem cl53 {lo hi : Nat} {ad : Nat → Nat} {S : SW} (h : q_ag lo hi ad S) (h1 : lo ≤ 53 := by decide) (h2 : 53 < hi := by decide) : S[53]? = some (ad 53, .inl 200) := (h 53 h1 h2).trans rfl
theorem cl54 {lo hi : Nat} {ad : Nat → Nat} {S : SW} (h : q_ag lo hi ad S) (h1 : lo ≤ 54 := by decide) (h2 : 54 < hi := by decide) : S[54]? = some (ad 54, .inl 200) := (h 54 h1 h2).trans rfl
theorem cl55 {lo hi : Nat} {ad : Nat → Nat} {S : SW} (h : q_ag lo hi ad S) (h1 : lo ≤ 55 := by decide) (h2 : 55 < hi := by decide) : S[55]? = some (ad 55, .inl 6) := (h 55 h1 h2).trans rfl
theorem cl56 {lo hi : Nat} {ad : Nat → Nat} {S : SW} (h : q_ag lo hi ad S) (h1 : lo ≤ 56 := by decide) (h2 : 56 < hi := by decide) : S[56]? = some (ad 56, .inl 720) := (h 56 h1 h2).trans rfl
theorem cl57 {lo hi : Nat} {ad : Nat → Nat} {S : SW} (h : q_ag lo hi ad S) (h1 : lo ≤ 57 := by decide) (h2 : 57 < hi := by decide) : S[57]? = some (ad 57, .inl 640) := (h 57 h1 h2).trans rfl
theorem cl58 {lo hi : Nat} {ad : Nat → Nat} {S : SW} (h : q_ag lo hi ad S) (h1 : lo ≤ 58 := by decide) (h2 : 58 < hi := by decide) : S[58]? = some (ad 58, .inl 720) := (h 58 h1 h2).trans rfl
theorem cl59 {lo hi : Nat} {ad : Nat → Nat} {S : SW} (h : q_ag lo hi ad S) (h1 : lo ≤ 59 := by decide) (h2 : 59 < hi := by decide) : S[59]? = some (ad 59, .inl 40) := (h 59 h1 h2).trans rfl
theorem cl60 {lo hi : Nat} {ad : Nat → Nat} {S : SW} (h : q_ag lo hi ad S) (h1 : lo ≤ 60 := by decide) (h2 : 60 < hi := by decide) : S[60]? = some (ad 60, .inl 4) := (h 60 h1 h2).trans rfl
theorem cl61 {lo hi : Nat} {ad : Nat → Nat} {S : SW} (h : q_ag lo hi ad S) (h1 : lo ≤ 61 := by decide) (h2 : 61 < hi := by decide) : S[61]? = some (ad 61, .inl 4) := (h 61 h1 h2).trans rfl
theorem cl62 {lo hi : Nat} {ad : Nat → Nat} {S : SW} (h : q_ag lo hi ad S) (h1 : lo ≤ 62 := by decide) (h2 : 62 < hi := by decide) : S[62]? = some (ad 62, .inl 4096) := (h 62 h1 h2).trans rfl
end
section
abbrev MX9_put : MM := (yX9_put, cX9_put, 3, none)
def eX9_put : List (Nat × Instr × Nat × Nat) := [(0, .iload_n 1, 1, 1), (1, .ifCond .lt 13, 3, 4), (4, .iload_n 1, 1, 5), (5, .aload_n 0, 1, 6), (6, .arraylength, 1, 7), (7, .if_icmp .ge 7, 3, 10), (10, .aload_n 0, 1, 11), (11, .iload_n 1, 1, 12), (12, .iload_n 2, 1, 13), (13, .iastore, 1, 14), (14, .return_, 1, 15)]
theorem hX9_put : ∀ q ∈ eX9_put, decode cX9_put q.1 = .ok (q.2.1, q.2.2.1) ∧ q.1 + q.2.2.1 = q.2.2.2 := by decide +kernel
theorem dX9_put (i : Nat) {pc : Nat} {ins : Instr} {len pc' : Nat} (hi : eX9_put[i]? = some (pc, ins, len, pc')) : q_d cX9_put pc ins len pc' := q_dt hX9_put i hi
abbrev MX0_add : MM := (yX0_add, cX0_add, 6, some .int)
def eX0_add : List (Nat × Instr × Nat × Nat) := [(0, .aload_n 0, 1, 1), (1, .getfield 24, 3, 4), (4, .istore 5, 2, 6), (6, .aload_n 0, 1, 7), (7, .getfield 9, 3, 10), (10, .iload 5, 2, 12), (12, .iload_n 1, 1, 13), (13, .invokestatic 28, 3, 16), (16, .aload_n 0, 1, 17), (17, .getfield 15, 3, 20), (20, .iload 5, 2, 22), (22, .iload_n 2, 1, 23), (23, .invokestatic 28, 3, 26), (26, .aload_n 0, 1, 27), (27, .getfield 18, 3, 30), (30, .iload 5, 2, 32), (32, .iload_n 3, 1, 33), (33, .invokestatic 28, 3, 36), (36, .aload_n 0, 1, 37), (37, .getfield 21, 3, 40), (40, .iload 5, 2, 42), (42, .iload 4, 2, 44), (44, .invokestatic 28, 3, 47), (47, .aload_n 0, 1, 48), (48, .dup, 1, 49), (49, .getfield 24, 3, 52), (52, .iconst 1, 1, 53), (53, .iadd, 1, 54), (54, .putfield 24, 3, 57), (57, .iload 5, 2, 59), (59, .ireturn, 1, 60)]
theorem hX0_add : ∀ q ∈ eX0_add, decode cX0_add q.1 = .ok (q.2.1, q.2.2.1) ∧ q.1 + q.2.2.1 = q.2.2.2 := by decide +kernel
theorem dX0_add (i : Nat) {pc : Nat} {ins : Instr} {len pc' : Nat} (hi : eX0_add[i]? = some (pc, ins, len, pc')) : q_d cX0_add pc ins len pc' := q_dt hX0_add i hi
abbrev MJ6_bitCount_0f7a4 : MM := (yJ6_bitCount_0f7a4, cJ6_bitCount_0f7a4, 1, some .int)
def eJ6_bitCount_0f7a4 : List (Nat × Instr × Nat × Nat) := [(0, .iload_n 0, 1, 1), (1, .iload_n 0, 1, 2), (2, .iconst 1, 1, 3), (3, .iushr, 1, 4), (4, .ldc_w 265, 3, 7), (7, .iand, 1, 8), (8, .isub, 1, 9), (9, .istore_n 0, 1, 10), (10, .iload_n 0, 1, 11), (11, .ldc_w 266, 3, 14), (14, .iand, 1, 15), (15, .iload_n 0, 1, 16), (16, .iconst 2, 1, 17), (17, .iushr, 1, 18), (18, .ldc_w 266, 3, 21), (21, .iand, 1, 22), (22, .iadd, 1, 23), (23, .istore_n 0, 1, 24), (24, .iload_n 0, 1, 25), (25, .iload_n 0, 1, 26), (26, .iconst 4, 1, 27), (27, .iushr, 1, 28), (28, .iadd, 1, 29), (29, .ldc_w 267, 3, 32), (32, .iand, 1, 33), (33, .istore_n 0, 1, 34), (34, .iload_n 0, 1, 35), (35, .iload_n 0, 1, 36), (36, .bipush 8, 2, 38), (38, .iushr, 1, 39), (39, .iadd, 1, 40), (40, .istore_n 0, 1, 41), (41, .iload_n 0, 1, 42), (42, .iload_n 0, 1, 43), (43, .bipush 16, 2, 45), (45, .iushr, 1, 46), (46, .iadd, 1, 47), (47, .istore_n 0, 1, 48), (48, .iload_n 0, 1, 49), (49, .bipush 63, 2, 51), (51, .iand, 1, 52), (52, .ireturn, 1, 53)]
theorem hJ6_bitCount_0f7a4 : ∀ q ∈ eJ6_bitCount_0f7a4, decode cJ6_bitCount_0f7a4 q.1 = .ok (q.2.1, q.2.2.1) ∧ q.1 + q.2.2.1 = q.2.2.2 := by decide +kernel
theorem dJ6_bitCount_0f7a4 (i : Nat) {pc : Nat} {ins : Instr} {len pc' : Nat} (hi : eJ6_bitCount_0f7a4[i]? = some (pc, ins, len, pc')) : q_d cJ6_bitCount_0f7a4 pc ins len pc' := q_dt hJ6_bitCount_0f7a4 i hi
abbrev MX0_holds : MM := (yX0_holds, cX0_holds, 6, some .boolean)
def eX0_holds : List (Nat × Instr × Nat × Nat) := [(0, .iload_n 3, 1, 1), (1, .iload_n 1, 1, 2), (2, .iand, 1, 3), (3, .istore 5, 2, 5), (5, .iload_n 0, 1, 6), (6, .tableswitch 103 1 5 #[34, 45, 57, 78, 92], 34, 40), (40, .iload_n 3, 1, 41), (41, .iload_n 1, 1, 42), (42, .if_icmp .ne 7, 3, 45), (45, .iconst 1, 1, 46), (46, .goto 4, 3, 49), (49, .iconst 0, 1, 50), (50, .ireturn, 1, 51), (51, .iload 5, 2, 53), (53, .iload_n 1, 1, 54), (54, .if_icmp .ne 7, 3, 57), (57, .iconst 1, 1, 58), (58, .goto 4, 3, 61), (61, .iconst 0, 1, 62), (62, .ireturn, 1, 63), (63, .iload 5, 2, 65), (65, .iload_n 1, 1, 66), (66, .if_icmp .eq 12, 3, 69), (69, .iload 5, 2, 71), (71, .invokestatic 32, 3, 74), (74, .iload_n 2, 1, 75), (75, .if_icmp .lt 7, 3, 78), (78, .iconst 1, 1, 79), (79, .goto 4, 3, 82), (82, .iconst 0, 1, 83), (83, .ireturn, 1, 84), (84, .iload_n 3, 1, 85), (85, .iload 4, 2, 87), (87, .iand, 1, 88), (88, .iload_n 1, 1, 89), (89, .if_icmp .ne 7, 3, 92), (92, .iconst 1, 1, 93), (93, .goto 4, 3, 96), (96, .iconst 0, 1, 97), (97, .ireturn, 1, 98), (98, .iload 5, 2, 100), (100, .ifCond .ne 7, 3, 103), (103, .iconst 1, 1, 104), (104, .goto 4, 3, 107), (107, .iconst 0, 1, 108), (108, .ireturn, 1, 109), (109, .iconst 1, 1, 110), (110, .ireturn, 1, 111)]
theorem hX0_holds : ∀ q ∈ eX0_holds, decode cX0_holds q.1 = .ok (q.2.1, q.2.2.1) ∧ q.1 + q.2.2.1 = q.2.2.2 := by decide +kernel
theorem dX0_holds (i : Nat) {pc : Nat} {ins : Instr} {len pc' : Nat} (hi : eX0_holds[i]? = some (pc, ins, len, pc')) : q_d cX0_holds pc ins len pc' := q_dt hX0_holds i hi
abbrev MX9_at : MM := (yX9_at, cX9_at, 2, some .int)
def eX9_at : List (Nat × Instr × Nat × Nat) := [(0, .iload_n 1, 1, 1), (1, .ifCond .lt 15, 3, 4), (4, .iload_n 1, 1, 5), (5, .aload_n 0, 1, 6), (6, .arraylength, 1, 7), (7, .if_icmp .ge 9, 3, 10), (10, .aload_n 0, 1, 11), (11, .iload_n 1, 1, 12), (12, .iaload, 1, 13), (13, .goto 4, 3, 16), (16, .iconst 0, 1, 17), (17, .ireturn, 1, 18)]
theorem hX9_at : ∀ q ∈ eX9_at, decode cX9_at q.1 = .ok (q.2.1, q.2.2.1) ∧ q.1 + q.2.2.1 = q.2.2.2 := by decide +kernel
theorem dX9_at (i : Nat) {pc : Nat} {ins : Instr} {len pc' : Nat} (hi : eX9_at[i]? = some (pc, ins, len, pc')) : q_d cX9_at pc ins len pc' := q_dt hX9_at i hi
abbrev MX3_had : MM := (yX3_had, cX3_had, 3, some .int)
def eX3_had : List (Nat × Instr × Nat × Nat) := [(0, .aload_n 0, 1, 1), (1, .getfield 18, 3, 4), (4, .iload_n 1, 1, 5), (5, .sipush 720, 3, 8), (8, .imul, 1, 9), (9, .iload_n 2, 1, 10), (10, .iadd, 1, 11), (11, .invokestatic 49, 3, 14), (14, .ireturn, 1, 15)]
theorem hX3_had : ∀ q ∈ eX3_had, decode cX3_had q.1 = .ok (q.2.1, q.2.2.1) ∧ q.1 + q.2.2.1 = q.2.2.2 := by decide +kernel
theorem dX3_had (i : Nat) {pc : Nat} {ins : Instr} {len pc' : Nat} (hi : eX3_had[i]? = some (pc, ins, len, pc')) : q_d cX3_had pc ins len pc' := q_dt hX3_had i hi
abbrev MX0_brokenIn : MM := (yX0_brokenIn, cX0_brokenIn, 7, some .int)
def eX0_brokenIn : List (Nat × Instr × Nat × Nat) := [(0, .iconst 0, 1, 1), (1, .istore_n 3, 1, 2), (2, .iconst 0, 1, 3), (3, .istore 4, 2, 5), (5, .iload 4, 2, 7), (7, .aload_n 0, 1, 8), (8, .getfield 24, 3, 11), (11, .if_icmp .ge 78, 3, 14), (14, .aload_n 0, 1, 15), (15, .getfield 21, 3, 18), (18, .iload 4, 2, 20), (20, .invokestatic 38, 3, 23), (23, .istore 5, 2, 25), (25, .aload_n 1, 1, 26), (26, .aload_n 0, 1, 27), (27, .getfield 15, 3, 30), (30, .iload 4, 2, 32), (32, .invokestatic 38, 3, 35), (35, .iload_n 2, 1, 36), (36, .invokevirtual 42, 3, 39), (39, .istore 6, 2, 41), (41, .aload_n 0, 1, 42), (42, .getfield 9, 3, 45), (45, .iload 4, 2, 47), (47, .invokestatic 38, 3, 50), (50, .aload_n 0, 1, 51), (51, .getfield 18, 3, 54), (54, .iload 4, 2, 56), (56, .invokestatic 38, 3, 59), (59, .iload 5, 2, 61), (61, .iload 6, 2, 63), (63, .aload_n 1, 1, 64), (64, .iload 5, 2, 66), (66, .iload_n 2, 1, 67), (67, .invokevirtual 42, 3, 70), (70, .invokestatic 48, 3, 73), (73, .ifCond .ne 10, 3, 76), (76, .iload_n 3, 1, 77), (77, .iconst 1, 1, 78), (78, .iload 4, 2, 80), (80, .ishl, 1, 81), (81, .ior, 1, 82), (82, .istore_n 3, 1, 83), (83, .iinc 4 1, 3, 86), (86, .goto (-81), 3, 89), (89, .iload_n 3, 1, 90), (90, .ireturn, 1, 91)]
theorem hX0_brokenIn : ∀ q ∈ eX0_brokenIn, decode cX0_brokenIn q.1 = .ok (q.2.1, q.2.2.1) ∧ q.1 + q.2.2.1 = q.2.2.2 := by decide +kernel
theorem dX0_brokenIn (i : Nat) {pc : Nat} {ins : Instr} {len pc' : Nat} (hi : eX0_brokenIn[i]? = some (pc, ins, len, pc')) : q_d cX0_brokenIn pc ins len pc' := q_dt hX0_brokenIn i hi
abbrev MX0_isOne : MM := (yX0_isOne, cX0_isOne, 4, some .boolean)
def eX0_isOne : List (Nat × Instr × Nat × Nat) := [(0, .iload_n 0, 1, 1), (1, .istore_n 2, 1, 2), (2, .iconst 0, 1, 3), (3, .istore_n 3, 1, 4), (4, .iload_n 3, 1, 5), (5, .getstatic 52, 3, 8), (8, .arraylength, 1, 9), (9, .if_icmp .ge 28, 3, 12), (12, .iload_n 2, 1, 13), (13, .ifCond .lt 24, 3, 16), (16, .iload_n 2, 1, 17), (17, .iload_n 1, 1, 18), (18, .if_icmp .ne 5, 3, 21), (21, .iconst 1, 1, 22), (22, .ireturn, 1, 23), (23, .getstatic 52, 3, 26), (26, .iload_n 2, 1, 27), (27, .invokestatic 38, 3, 30), (30, .istore_n 2, 1, 31), (31, .iinc 3 1, 3, 34), (34, .goto (-30), 3, 37), (37, .iconst 0, 1, 38), (38, .ireturn, 1, 39)]
theorem hX0_isOne : ∀ q ∈ eX0_isOne, decode cX0_isOne q.1 = .ok (q.2.1, q.2.2.1) ∧ q.1 + q.2.2.1 = q.2.2.2 := by decide +kernel
theorem dX0_isOne (i : Nat) {pc : Nat} {ins : Instr} {len pc' : Nat} (hi : eX0_isOne[i]? = some (pc, ins, len, pc')) : q_d cX0_isOne pc ins len pc' := q_dt hX0_isOne i hi
abbrev MX1_clear : MM := (yX1_clear, cX1_clear, 2, none)
def eX1_clear : List (Nat × Instr × Nat × Nat) := [(0, .iconst 0, 1, 1), (1, .istore_n 1, 1, 2), (2, .iload_n 1, 1, 3), (3, .aload_n 0, 1, 4), (4, .arraylength, 1, 5), (5, .if_icmp .ge 13, 3, 8), (8, .aload_n 0, 1, 9), (9, .iload_n 1, 1, 10), (10, .iconst 0, 1, 11), (11, .iastore, 1, 12), (12, .iinc 1 1, 3, 15), (15, .goto (-13), 3, 18), (18, .return_, 1, 19)]
theorem hX1_clear : ∀ q ∈ eX1_clear, decode cX1_clear q.1 = .ok (q.2.1, q.2.2.1) ∧ q.1 + q.2.2.1 = q.2.2.2 := by decide +kernel
theorem dX1_clear (i : Nat) {pc : Nat} {ins : Instr} {len pc' : Nat} (hi : eX1_clear[i]? = some (pc, ins, len, pc')) : q_d cX1_clear pc ins len pc' := q_dt hX1_clear i hi
abbrev MX3_signsOf : MM := (yX3_signsOf, cX3_signsOf, 2, some .int)
def eX3_signsOf : List (Nat × Instr × Nat × Nat) := [(0, .aload_n 0, 1, 1), (1, .getfield 9, 3, 4), (4, .iload_n 1, 1, 5), (5, .invokestatic 49, 3, 8), (8, .ireturn, 1, 9)]
theorem hX3_signsOf : ∀ q ∈ eX3_signsOf, decode cX3_signsOf q.1 = .ok (q.2.1, q.2.2.1) ∧ q.1 + q.2.2.1 = q.2.2.2 := by decide +kernel
theorem dX3_signsOf (i : Nat) {pc : Nat} {ins : Instr} {len pc' : Nat} (hi : eX3_signsOf[i]? = some (pc, ins, len, pc')) : q_d cX3_signsOf pc ins len pc' := q_dt hX3_signsOf i hi
abbrev MX3_priceOf : MM := (yX3_priceOf, cX3_priceOf, 2, some .int)
def eX3_priceOf : List (Nat × Instr × Nat × Nat) := [(0, .aload_n 0, 1, 1), (1, .getfield 15, 3, 4), (4, .iload_n 1, 1, 5), (5, .invokestatic 49, 3, 8), (8, .ireturn, 1, 9)]
theorem hX3_priceOf : ∀ q ∈ eX3_priceOf, decode cX3_priceOf q.1 = .ok (q.2.1, q.2.2.1) ∧ q.1 + q.2.2.1 = q.2.2.2 := by decide +kernel
theorem dX3_priceOf (i : Nat) {pc : Nat} {ins : Instr} {len pc' : Nat} (hi : eX3_priceOf[i]? = some (pc, ins, len, pc')) : q_d cX3_priceOf pc ins len pc' := q_dt hX3_priceOf i hi
abbrev MX6_joined : MM := (yX6_joined, cX6_joined, 3, some .int)
def eX6_joined : List (Nat × Instr × Nat × Nat) := [(0, .iload_n 0, 1, 1), (1, .lookupswitch 107 #[(42, 59), (43, 63), (45, 67), (60, 71), (61, 82), (260, 93)], 59, 60), (60, .iload_n 1, 1, 61), (61, .iload_n 2, 1, 62), (62, .imul, 1, 63), (63, .ireturn, 1, 64), (64, .iload_n 1, 1, 65), (65, .iload_n 2, 1, 66), (66, .iadd, 1, 67), (67, .ireturn, 1, 68), (68, .iload_n 1, 1, 69), (69, .iload_n 2, 1, 70), (70, .isub, 1, 71), (71, .ireturn, 1, 72), (72, .iload_n 1, 1, 73), (73, .iload_n 2, 1, 74), (74, .if_icmp .ge 7, 3, 77), (77, .iconst 1, 1, 78), (78, .goto 4, 3, 81), (81, .iconst 0, 1, 82), (82, .ireturn, 1, 83), (83, .iload_n 1, 1, 84), (84, .iload_n 2, 1, 85), (85, .if_icmp .ne 7, 3, 88), (88, .iconst 1, 1, 89), (89, .goto 4, 3, 92), (92, .iconst 0, 1, 93), (93, .ireturn, 1, 94), (94, .iload_n 1, 1, 95), (95, .ifCond .eq 11, 3, 98), (98, .iload_n 2, 1, 99), (99, .ifCond .eq 7, 3, 102), (102, .iconst 1, 1, 103), (103, .goto 4, 3, 106), (106, .iconst 0, 1, 107), (107, .ireturn, 1, 108), (108, .iload_n 1, 1, 109), (109, .ifCond .ne 7, 3, 112), (112, .iload_n 2, 1, 113), (113, .ifCond .eq 7, 3, 116), (116, .iconst 1, 1, 117), (117, .goto 4, 3, 120), (120, .iconst 0, 1, 121), (121, .ireturn, 1, 122)]
theorem hX6_joined : ∀ q ∈ eX6_joined, decode cX6_joined q.1 = .ok (q.2.1, q.2.2.1) ∧ q.1 + q.2.2.1 = q.2.2.2 := by decide +kernel
theorem dX6_joined (i : Nat) {pc : Nat} {ins : Instr} {len pc' : Nat} (hi : eX6_joined[i]? = some (pc, ins, len, pc')) : q_d cX6_joined pc ins len pc' := q_dt hX6_joined i hi
abbrev MX6_valueOf : MM := (yX6_valueOf, cX6_valueOf, 8, some .int)
def eX6_valueOf_0 : List (Nat × Instr × Nat × Nat) := [(0, .iload_n 2, 1, 1), (1, .ifCond .ne 7, 3, 4), (4, .iconst 0, 1, 5), (5, .goto 17, 3, 8), (8, .aload_n 0, 1, 9), (9, .getfield 22, 3, 12), (12, .iload_n 1, 1, 13), (13, .iconst 3, 1, 14), (14, .imul, 1, 15), (15, .iload_n 2, 1, 16), (16, .iadd, 1, 17), (17, .iconst 1, 1, 18), (18, .isub, 1, 19), (19, .invokestatic 72, 3, 22), (22, .istore_n 3, 1, 23), (23, .aload_n 0, 1, 24), (24, .getfield 22, 3, 27), (27, .iload_n 1, 1, 28), (28, .iconst 3, 1, 29), (29, .imul, 1, 30), (30, .iload_n 2, 1, 31), (31, .iadd, 1, 32), (32, .invokestatic 72, 3, 35), (35, .istore 4, 2, 37), (37, .iconst (-1), 1, 38), (38, .istore 5, 2, 40), (40, .iload_n 3, 1, 41), (41, .istore 6, 2, 43), (43, .iload 6, 2, 45), (45, .iload 4, 2, 47), (47, .if_icmp .ge 183, 3, 50), (50, .aload_n 0, 1, 51), (51, .getfield 18, 3, 54), (54, .iload_n 1, 1, 55), (55, .sipush 160, 3, 58), (58, .imul, 1, 59), (59, .iload 6, 2, 61), (61, .iadd, 1, 62), (62, .invokestatic 72, 3, 65), (65, .istore 7, 2, 67), (67, .iload 7, 2, 69), (69, .sipush 300, 3, 72), (72, .if_icmp .lt 48, 3, 75), (75, .iinc 5 1, 3, 78), (78, .aload_n 0, 1, 79), (79, .getfield 25, 3, 82), (82, .iload 5, 2, 84), (84, .iload 7, 2, 86), (86, .sipush 1000, 3, 89), (89, .if_icmp .lt 12, 3, 92), (92, .iload 7, 2, 94), (94, .sipush 1000, 3, 97), (97, .isub, 1, 98), (98, .goto 16, 3, 101), (101, .aload_n 0, 1, 102), (102, .getfield 28, 3, 105), (105, .iload 7, 2, 107), (107, .sipush 300, 3, 110), (110, .isub, 1, 111), (111, .invokestatic 72, 3, 114)]
theorem hX6_valueOf_0 : ∀ q ∈ eX6_valueOf_0, decode cX6_valueOf q.1 = .ok (q.2.1, q.2.2.1) ∧ q.1 + q.2.2.1 = q.2.2.2 := by decide +kernel
theorem dX6_valueOf_0 (i : Nat) {pc : Nat} {ins : Instr} {len pc' : Nat} (hi : eX6_valueOf_0[i]? = some (pc, ins, len, pc')) : q_d cX6_valueOf pc ins len pc' := q_dt hX6_valueOf_0 i hi
def eX6_valueOf_1 : List (Nat × Instr × Nat × Nat) := [(114, .invokestatic 86, 3, 117), (117, .goto 107, 3, 120), (120, .iload 7, 2, 122), (122, .sipush 261, 3, 125), (125, .if_icmp .ne 32, 3, 128), (128, .aload_n 0, 1, 129), (129, .getfield 25, 3, 132), (132, .iload 5, 2, 134), (134, .aload_n 0, 1, 135), (135, .getfield 25, 3, 138), (138, .iload 5, 2, 140), (140, .invokestatic 72, 3, 143), (143, .ifCond .ne 7, 3, 146), (146, .iconst 1, 1, 147), (147, .goto 4, 3, 150), (150, .iconst 0, 1, 151), (151, .invokestatic 86, 3, 154), (154, .goto 70, 3, 157), (157, .iload 7, 2, 159), (159, .sipush 262, 3, 162), (162, .if_icmp .ne 25, 3, 165), (165, .aload_n 0, 1, 166), (166, .getfield 25, 3, 169), (169, .iload 5, 2, 171), (171, .aload_n 0, 1, 172), (172, .getfield 25, 3, 175), (175, .iload 5, 2, 177), (177, .invokestatic 72, 3, 180), (180, .ineg, 1, 181), (181, .invokestatic 86, 3, 184), (184, .goto 40, 3, 187), (187, .iinc 5 (-1), 3, 190), (190, .aload_n 0, 1, 191), (191, .getfield 25, 3, 194), (194, .iload 5, 2, 196), (196, .iload 7, 2, 198), (198, .aload_n 0, 1, 199), (199, .getfield 25, 3, 202), (202, .iload 5, 2, 204), (204, .invokestatic 72, 3, 207), (207, .aload_n 0, 1, 208), (208, .getfield 25, 3, 211), (211, .iload 5, 2, 213), (213, .iconst 1, 1, 214), (214, .iadd, 1, 215), (215, .invokestatic 72, 3, 218), (218, .invokestatic 132, 3, 221), (221, .invokestatic 86, 3, 224), (224, .iinc 6 1, 3, 227), (227, .goto (-184), 3, 230), (230, .aload_n 0, 1, 231), (231, .getfield 25, 3, 234), (234, .iconst 0, 1, 235), (235, .invokestatic 72, 3, 238), (238, .ireturn, 1, 239)]
theorem hX6_valueOf_1 : ∀ q ∈ eX6_valueOf_1, decode cX6_valueOf q.1 = .ok (q.2.1, q.2.2.1) ∧ q.1 + q.2.2.1 = q.2.2.2 := by decide +kernel
theorem dX6_valueOf_1 (i : Nat) {pc : Nat} {ins : Instr} {len pc' : Nat} (hi : eX6_valueOf_1[i]? = some (pc, ins, len, pc')) : q_d cX6_valueOf pc ins len pc' := q_dt hX6_valueOf_1 i hi
abbrev MX6_says : MM := (yX6_says, cX6_says, 9, some .int)
def eX6_says : List (Nat × Instr × Nat × Nat) := [(0, .aload_n 0, 1, 1), (1, .getfield 28, 3, 4), (4, .iconst 0, 1, 5), (5, .iload_n 3, 1, 6), (6, .invokestatic 86, 3, 9), (9, .aload_n 0, 1, 10), (10, .getfield 28, 3, 13), (13, .iconst 1, 1, 14), (14, .iload 4, 2, 16), (16, .invokestatic 86, 3, 19), (19, .aload_n 0, 1, 20), (20, .getfield 28, 3, 23), (23, .iconst 2, 1, 24), (24, .iload 5, 2, 26), (26, .invokestatic 86, 3, 29), (29, .aload_n 0, 1, 30), (30, .getfield 28, 3, 33), (33, .iconst 3, 1, 34), (34, .iload 4, 2, 36), (36, .invokestatic 114, 3, 39), (39, .invokestatic 86, 3, 42), (42, .aload_n 0, 1, 43), (43, .getfield 28, 3, 46), (46, .iconst 4, 1, 47), (47, .iload 6, 2, 49), (49, .invokestatic 86, 3, 52), (52, .aload_n 0, 1, 53), (53, .getfield 28, 3, 56), (56, .iconst 5, 1, 57), (57, .iload 7, 2, 59), (59, .invokestatic 86, 3, 62), (62, .aload_n 0, 1, 63), (63, .iload_n 1, 1, 64), (64, .iload_n 2, 1, 65), (65, .invokevirtual 120, 3, 68), (68, .istore 8, 2, 70), (70, .iload_n 2, 1, 71), (71, .ifCond .ne 14, 3, 74), (74, .iload 8, 2, 76), (76, .ifCond .eq 7, 3, 79), (79, .iconst 1, 1, 80), (80, .goto 4, 3, 83), (83, .iconst 0, 1, 84), (84, .ireturn, 1, 85), (85, .iconst 0, 1, 86), (86, .iload_n 2, 1, 87), (87, .iconst 1, 1, 88), (88, .if_icmp .ne 8, 3, 91), (91, .bipush 99, 2, 93), (93, .goto 6, 3, 96), (96, .sipush 999, 3, 99), (99, .iload 8, 2, 101), (101, .invokestatic 124, 3, 104), (104, .invokestatic 129, 3, 107), (107, .ireturn, 1, 108)]
theorem hX6_says : ∀ q ∈ eX6_says, decode cX6_says q.1 = .ok (q.2.1, q.2.2.1) ∧ q.1 + q.2.2.1 = q.2.2.2 := by decide +kernel
theorem dX6_says (i : Nat) {pc : Nat} {ins : Instr} {len pc' : Nat} (hi : eX6_says[i]? = some (pc, ins, len, pc')) : q_d cX6_says pc ins len pc' := q_dt hX6_says i hi
abbrev MX1_allow : MM := (yX1_allow, cX1_allow, 8, none)
def eX1_allow : List (Nat × Instr × Nat × Nat) := [(0, .iconst 0, 1, 1), (1, .istore 4, 2, 3), (3, .iload 4, 2, 5), (5, .aload_n 1, 1, 6), (6, .getfield 62, 3, 9), (9, .if_icmp .ge 83, 3, 12), (12, .aload_n 1, 1, 13), (13, .iload 4, 2, 15), (15, .invokevirtual 65, 3, 18), (18, .invokestatic 56, 3, 21), (21, .istore 5, 2, 23), (23, .aload_n 1, 1, 24), (24, .iload 4, 2, 26), (26, .invokevirtual 68, 3, 29), (29, .istore 6, 2, 31), (31, .iconst 0, 1, 32), (32, .istore 7, 2, 34), (34, .iload 7, 2, 36), (36, .bipush 64, 2, 38), (38, .if_icmp .ge 48, 3, 41), (41, .iload 7, 2, 43), (43, .invokestatic 56, 3, 46), (46, .iload 5, 2, 48), (48, .if_icmp .ne 32, 3, 51), (51, .aload_n 0, 1, 52), (52, .getfield 21, 3, 55), (55, .iload 4, 2, 57), (57, .bipush 64, 2, 59), (59, .imul, 1, 60), (60, .iload 7, 2, 62), (62, .iadd, 1, 63), (63, .aload_n 2, 1, 64), (64, .iload_n 3, 1, 65), (65, .iconst 0, 1, 66), (66, .iload 6, 2, 68), (68, .iload 7, 2, 70), (70, .iload 4, 2, 72), (72, .iconst 0, 1, 73), (73, .iconst 0, 1, 74), (74, .invokevirtual 71, 3, 77), (77, .invokestatic 77, 3, 80), (80, .iinc 7 1, 3, 83), (83, .goto (-49), 3, 86), (86, .iinc 4 1, 3, 89), (89, .goto (-86), 3, 92), (92, .return_, 1, 93)]
theorem hX1_allow : ∀ q ∈ eX1_allow, decode cX1_allow q.1 = .ok (q.2.1, q.2.2.1) ∧ q.1 + q.2.2.1 = q.2.2.2 := by decide +kernel
theorem dX1_allow (i : Nat) {pc : Nat} {ins : Instr} {len pc' : Nat} (hi : eX1_allow[i]? = some (pc, ins, len, pc')) : q_d cX1_allow pc ins len pc' := q_dt hX1_allow i hi
abbrev MX1_isLawful : MM := (yX1_isLawful, cX1_isLawful, 4, some .boolean)
def eX1_isLawful : List (Nat × Instr × Nat × Nat) := [(0, .iconst 0, 1, 1), (1, .istore_n 3, 1, 2), (2, .iload_n 3, 1, 3), (3, .aload_n 1, 1, 4), (4, .getfield 62, 3, 7), (7, .if_icmp .ge 32, 3, 10), (10, .aload_n 0, 1, 11), (11, .getfield 21, 3, 14), (14, .iload_n 3, 1, 15), (15, .bipush 64, 2, 17), (17, .imul, 1, 18), (18, .aload_n 1, 1, 19), (19, .iload_n 3, 1, 20), (20, .iload_n 2, 1, 21), (21, .invokevirtual 81, 3, 24), (24, .iadd, 1, 25), (25, .invokestatic 85, 3, 28), (28, .ifCond .ne 5, 3, 31), (31, .iconst 0, 1, 32), (32, .ireturn, 1, 33), (33, .iinc 3 1, 3, 36), (36, .goto (-34), 3, 39), (39, .iconst 1, 1, 40), (40, .ireturn, 1, 41)]
theorem hX1_isLawful : ∀ q ∈ eX1_isLawful, decode cX1_isLawful q.1 = .ok (q.2.1, q.2.2.1) ∧ q.1 + q.2.2.1 = q.2.2.2 := by decide +kernel
theorem dX1_isLawful (i : Nat) {pc : Nat} {ins : Instr} {len pc' : Nat} (hi : eX1_isLawful[i]? = some (pc, ins, len, pc')) : q_d cX1_isLawful pc ins len pc' := q_dt hX1_isLawful i hi
abbrev MX7_partOf : MM := (yX7_partOf, cX7_partOf, 3, some .int)
def eX7_partOf : List (Nat × Instr × Nat × Nat) := [(0, .aload_n 0, 1, 1), (1, .getfield 9, 3, 4), (4, .iload_n 1, 1, 5), (5, .bipush 6, 2, 7), (7, .imul, 1, 8), (8, .iload_n 2, 1, 9), (9, .iadd, 1, 10), (10, .invokestatic 22, 3, 13), (13, .ireturn, 1, 14)]
theorem hX7_partOf : ∀ q ∈ eX7_partOf, decode cX7_partOf q.1 = .ok (q.2.1, q.2.2.1) ∧ q.1 + q.2.2.1 = q.2.2.2 := by decide +kernel
theorem dX7_partOf (i : Nat) {pc : Nat} {ins : Instr} {len pc' : Nat} (hi : eX7_partOf[i]? = some (pc, ins, len, pc')) : q_d cX7_partOf pc ins len pc' := q_dt hX7_partOf i hi
abbrev MX1_take : MM := (yX1_take, cX1_take, 6, none)
def eX1_take_0 : List (Nat × Instr × Nat × Nat) := [(0, .aload_n 0, 1, 1), (1, .getfield 9, 3, 4), (4, .aload_n 0, 1, 5), (5, .getfield 27, 3, 8), (8, .iload_n 3, 1, 9), (9, .invokestatic 77, 3, 12), (12, .aload_n 0, 1, 13), (13, .dup, 1, 14), (14, .getfield 27, 3, 17), (17, .iconst 1, 1, 18), (18, .iadd, 1, 19), (19, .putfield 27, 3, 22), (22, .iconst 0, 1, 23), (23, .istore 4, 2, 25), (25, .iload 4, 2, 27), (27, .bipush 6, 2, 29), (29, .if_icmp .ge 44, 3, 32), (32, .iload 4, 2, 34), (34, .bipush 6, 2, 36), (36, .imul, 1, 37), (37, .aload_n 1, 1, 38), (38, .iload_n 3, 1, 39), (39, .iload 4, 2, 41), (41, .invokevirtual 89, 3, 44), (44, .iadd, 1, 45), (45, .istore 5, 2, 47), (47, .aload_n 0, 1, 48), (48, .getfield 15, 3, 51), (51, .iload 5, 2, 53), (53, .aload_n 0, 1, 54), (54, .getfield 15, 3, 57), (57, .iload 5, 2, 59), (59, .invokestatic 85, 3, 62), (62, .iconst 1, 1, 63), (63, .iadd, 1, 64), (64, .invokestatic 77, 3, 67), (67, .iinc 4 1, 3, 70), (70, .goto (-45), 3, 73), (73, .iconst 0, 1, 74), (74, .istore 4, 2, 76), (76, .iload 4, 2, 78), (78, .aload_n 2, 1, 79), (79, .getfield 62, 3, 82), (82, .if_icmp .ge 44, 3, 85), (85, .iload 4, 2, 87), (87, .bipush 64, 2, 89), (89, .imul, 1, 90), (90, .aload_n 2, 1, 91), (91, .iload 4, 2, 93), (93, .iload_n 3, 1, 94), (94, .invokevirtual 81, 3, 97), (97, .iadd, 1, 98), (98, .istore 5, 2, 100), (100, .aload_n 0, 1, 101), (101, .getfield 18, 3, 104), (104, .iload 5, 2, 106), (106, .aload_n 0, 1, 107), (107, .getfield 18, 3, 110), (110, .iload 5, 2, 112), (112, .invokestatic 85, 3, 115)]
theorem hX1_take_0 : ∀ q ∈ eX1_take_0, decode cX1_take q.1 = .ok (q.2.1, q.2.2.1) ∧ q.1 + q.2.2.1 = q.2.2.2 := by decide +kernel
theorem dX1_take_0 (i : Nat) {pc : Nat} {ins : Instr} {len pc' : Nat} (hi : eX1_take_0[i]? = some (pc, ins, len, pc')) : q_d cX1_take pc ins len pc' := q_dt hX1_take_0 i hi
def eX1_take_1 : List (Nat × Instr × Nat × Nat) := [(115, .iconst 1, 1, 116), (116, .iadd, 1, 117), (117, .invokestatic 77, 3, 120), (120, .iinc 4 1, 3, 123), (123, .goto (-47), 3, 126), (126, .return_, 1, 127)]
theorem hX1_take_1 : ∀ q ∈ eX1_take_1, decode cX1_take q.1 = .ok (q.2.1, q.2.2.1) ∧ q.1 + q.2.2.1 = q.2.2.2 := by decide +kernel
theorem dX1_take_1 (i : Nat) {pc : Nat} {ins : Instr} {len pc' : Nat} (hi : eX1_take_1[i]? = some (pc, ins, len, pc')) : q_d cX1_take pc ins len pc' := q_dt hX1_take_1 i hi
abbrev MX1_find : MM := (yX1_find, cX1_find, 8, none)
def eX1_find : List (Nat × Instr × Nat × Nat) := [(0, .aload_n 0, 1, 1), (1, .iconst 0, 1, 2), (2, .putfield 27, 3, 5), (5, .aload_n 0, 1, 6), (6, .iconst 0, 1, 7), (7, .putfield 31, 3, 10), (10, .aload_n 0, 1, 11), (11, .getfield 15, 3, 14), (14, .invokestatic 34, 3, 17), (17, .aload_n 0, 1, 18), (18, .getfield 18, 3, 21), (21, .invokestatic 34, 3, 24), (24, .aload_n 0, 1, 25), (25, .aload_n 2, 1, 26), (26, .aload 4, 2, 28), (28, .iload 5, 2, 30), (30, .invokevirtual 38, 3, 33), (33, .iconst 0, 1, 34), (34, .istore 6, 2, 36), (36, .iload 6, 2, 38), (38, .sipush 720, 3, 41), (41, .if_icmp .ge 68, 3, 44), (44, .aload_n 0, 1, 45), (45, .aload_n 2, 1, 46), (46, .iload 6, 2, 48), (48, .invokevirtual 42, 3, 51), (51, .ifCond .eq 13, 3, 54), (54, .aload_n 3, 1, 55), (55, .aload_n 2, 1, 56), (56, .iload 6, 2, 58), (58, .invokevirtual 46, 3, 61), (61, .goto 4, 3, 64), (64, .iconst (-1), 1, 65), (65, .istore 7, 2, 67), (67, .iload 7, 2, 69), (69, .ifCond .ne 14, 3, 72), (72, .aload_n 0, 1, 73), (73, .aload_n 1, 1, 74), (74, .aload_n 2, 1, 75), (75, .iload 6, 2, 77), (77, .invokevirtual 52, 3, 80), (80, .goto 23, 3, 83), (83, .iload 7, 2, 85), (85, .invokestatic 56, 3, 88), (88, .iconst 1, 1, 89), (89, .if_icmp .ne 14, 3, 92), (92, .aload_n 0, 1, 93), (93, .dup, 1, 94), (94, .getfield 31, 3, 97), (97, .iload 7, 2, 99), (99, .ior, 1, 100), (100, .putfield 31, 3, 103), (103, .iinc 6 1, 3, 106), (106, .goto (-70), 3, 109), (109, .return_, 1, 110)]
theorem hX1_find : ∀ q ∈ eX1_find, decode cX1_find q.1 = .ok (q.2.1, q.2.2.1) ∧ q.1 + q.2.2.1 = q.2.2.2 := by decide +kernel
theorem dX1_find (i : Nat) {pc : Nat} {ins : Instr} {len pc' : Nat} (hi : eX1_find[i]? = some (pc, ins, len, pc')) : q_d cX1_find pc ins len pc' := q_dt hX1_find i hi
abbrev MX1_anyBy : MM := (yX1_anyBy, cX1_anyBy, 6, some .boolean)
def eX1_anyBy : List (Nat × Instr × Nat × Nat) := [(0, .aload_n 0, 1, 1), (1, .aload_n 1, 1, 2), (2, .aload_n 3, 1, 3), (3, .iload 4, 2, 5), (5, .invokevirtual 38, 3, 8), (8, .iconst 0, 1, 9), (9, .istore 5, 2, 11), (11, .iload 5, 2, 13), (13, .sipush 720, 3, 16), (16, .if_icmp .ge 31, 3, 19), (19, .aload_n 0, 1, 20), (20, .aload_n 1, 1, 21), (21, .iload 5, 2, 23), (23, .invokevirtual 42, 3, 26), (26, .ifCond .eq 15, 3, 29), (29, .aload_n 2, 1, 30), (30, .aload_n 1, 1, 31), (31, .iload 5, 2, 33), (33, .invokevirtual 46, 3, 36), (36, .ifCond .ne 5, 3, 39), (39, .iconst 1, 1, 40), (40, .ireturn, 1, 41), (41, .iinc 5 1, 3, 44), (44, .goto (-33), 3, 47), (47, .iconst 0, 1, 48), (48, .ireturn, 1, 49)]
theorem hX1_anyBy : ∀ q ∈ eX1_anyBy, decode cX1_anyBy q.1 = .ok (q.2.1, q.2.2.1) ∧ q.1 + q.2.2.1 = q.2.2.2 := by decide +kernel
theorem dX1_anyBy (i : Nat) {pc : Nat} {ins : Instr} {len pc' : Nat} (hi : eX1_anyBy[i]? = some (pc, ins, len, pc')) : q_d cX1_anyBy pc ins len pc' := q_dt hX1_anyBy i hi
abbrev MX1_tongueOf : MM := (yX1_tongueOf, cX1_tongueOf, 2, some .int)
def eX1_tongueOf : List (Nat × Instr × Nat × Nat) := [(0, .aload_n 0, 1, 1), (1, .getfield 9, 3, 4), (4, .iload_n 1, 1, 5), (5, .invokestatic 85, 3, 8), (8, .ireturn, 1, 9)]
theorem hX1_tongueOf : ∀ q ∈ eX1_tongueOf, decode cX1_tongueOf q.1 = .ok (q.2.1, q.2.2.1) ∧ q.1 + q.2.2.1 = q.2.2.2 := by decide +kernel
theorem dX1_tongueOf (i : Nat) {pc : Nat} {ins : Instr} {len pc' : Nat} (hi : eX1_tongueOf[i]? = some (pc, ins, len, pc')) : q_d cX1_tongueOf pc ins len pc' := q_dt hX1_tongueOf i hi
abbrev MX1_meaning : MM := (yX1_meaning, cX1_meaning, 3, some .int)
def eX1_meaning : List (Nat × Instr × Nat × Nat) := [(0, .aload_n 0, 1, 1), (1, .getfield 15, 3, 4), (4, .iload_n 1, 1, 5), (5, .bipush 6, 2, 7), (7, .imul, 1, 8), (8, .iload_n 2, 1, 9), (9, .iadd, 1, 10), (10, .invokestatic 85, 3, 13), (13, .ireturn, 1, 14)]
theorem hX1_meaning : ∀ q ∈ eX1_meaning, decode cX1_meaning q.1 = .ok (q.2.1, q.2.2.1) ∧ q.1 + q.2.2.1 = q.2.2.2 := by decide +kernel
theorem dX1_meaning (i : Nat) {pc : Nat} {ins : Instr} {len pc' : Nat} (hi : eX1_meaning[i]? = some (pc, ins, len, pc')) : q_d cX1_meaning pc ins len pc' := q_dt hX1_meaning i hi
abbrev MX1_meaningsOf : MM := (yX1_meaningsOf, cX1_meaningsOf, 4, some .int)
def eX1_meaningsOf : List (Nat × Instr × Nat × Nat) := [(0, .iconst 0, 1, 1), (1, .istore_n 2, 1, 2), (2, .iconst 0, 1, 3), (3, .istore_n 3, 1, 4), (4, .iload_n 3, 1, 5), (5, .bipush 6, 2, 7), (7, .if_icmp .ge 21, 3, 10), (10, .aload_n 0, 1, 11), (11, .iload_n 1, 1, 12), (12, .iload_n 3, 1, 13), (13, .invokevirtual 94, 3, 16), (16, .ifCond .le 6, 3, 19), (19, .iinc 2 1, 3, 22), (22, .iinc 3 1, 3, 25), (25, .goto (-21), 3, 28), (28, .iload_n 2, 1, 29), (29, .ireturn, 1, 30)]
theorem hX1_meaningsOf : ∀ q ∈ eX1_meaningsOf, decode cX1_meaningsOf q.1 = .ok (q.2.1, q.2.2.1) ∧ q.1 + q.2.2.1 = q.2.2.2 := by decide +kernel
theorem dX1_meaningsOf (i : Nat) {pc : Nat} {ins : Instr} {len pc' : Nat} (hi : eX1_meaningsOf[i]? = some (pc, ins, len, pc')) : q_d cX1_meaningsOf pc ins len pc' := q_dt hX1_meaningsOf i hi
abbrev MX1_having : MM := (yX1_having, cX1_having, 3, some .int)
def eX1_having : List (Nat × Instr × Nat × Nat) := [(0, .aload_n 0, 1, 1), (1, .getfield 18, 3, 4), (4, .iload_n 1, 1, 5), (5, .bipush 64, 2, 7), (7, .imul, 1, 8), (8, .iload_n 2, 1, 9), (9, .iadd, 1, 10), (10, .invokestatic 85, 3, 13), (13, .ireturn, 1, 14)]
theorem hX1_having : ∀ q ∈ eX1_having, decode cX1_having q.1 = .ok (q.2.1, q.2.2.1) ∧ q.1 + q.2.2.1 = q.2.2.2 := by decide +kernel
theorem dX1_having (i : Nat) {pc : Nat} {ins : Instr} {len pc' : Nat} (hi : eX1_having[i]? = some (pc, ins, len, pc')) : q_d cX1_having pc ins len pc' := q_dt hX1_having i hi
abbrev MX1_withAll : MM := (yX1_withAll, cX1_withAll, 5, some .int)
def eX1_withAll : List (Nat × Instr × Nat × Nat) := [(0, .iconst 0, 1, 1), (1, .istore_n 3, 1, 2), (2, .iconst 0, 1, 3), (3, .istore 4, 2, 5), (5, .iload 4, 2, 7), (7, .bipush 64, 2, 9), (9, .if_icmp .ge 27, 3, 12), (12, .iload 4, 2, 14), (14, .iload_n 2, 1, 15), (15, .iand, 1, 16), (16, .iload_n 2, 1, 17), (17, .if_icmp .ne 13, 3, 20), (20, .iload_n 3, 1, 21), (21, .aload_n 0, 1, 22), (22, .iload_n 1, 1, 23), (23, .iload 4, 2, 25), (25, .invokevirtual 97, 3, 28), (28, .iadd, 1, 29), (29, .istore_n 3, 1, 30), (30, .iinc 4 1, 3, 33), (33, .goto (-28), 3, 36), (36, .iload_n 3, 1, 37), (37, .ireturn, 1, 38)]
theorem hX1_withAll : ∀ q ∈ eX1_withAll, decode cX1_withAll q.1 = .ok (q.2.1, q.2.2.1) ∧ q.1 + q.2.2.1 = q.2.2.2 := by decide +kernel
theorem dX1_withAll (i : Nat) {pc : Nat} {ins : Instr} {len pc' : Nat} (hi : eX1_withAll[i]? = some (pc, ins, len, pc')) : q_d cX1_withAll pc ins len pc' := q_dt hX1_withAll i hi
abbrev MX1_withAny : MM := (yX1_withAny, cX1_withAny, 5, some .int)
def eX1_withAny : List (Nat × Instr × Nat × Nat) := [(0, .iconst 0, 1, 1), (1, .istore_n 3, 1, 2), (2, .iconst 0, 1, 3), (3, .istore 4, 2, 5), (5, .iload 4, 2, 7), (7, .bipush 64, 2, 9), (9, .if_icmp .ge 26, 3, 12), (12, .iload 4, 2, 14), (14, .iload_n 2, 1, 15), (15, .iand, 1, 16), (16, .ifCond .eq 13, 3, 19), (19, .iload_n 3, 1, 20), (20, .aload_n 0, 1, 21), (21, .iload_n 1, 1, 22), (22, .iload 4, 2, 24), (24, .invokevirtual 97, 3, 27), (27, .iadd, 1, 28), (28, .istore_n 3, 1, 29), (29, .iinc 4 1, 3, 32), (32, .goto (-27), 3, 35), (35, .iload_n 3, 1, 36), (36, .ireturn, 1, 37)]
theorem hX1_withAny : ∀ q ∈ eX1_withAny, decode cX1_withAny q.1 = .ok (q.2.1, q.2.2.1) ∧ q.1 + q.2.2.1 = q.2.2.2 := by decide +kernel
theorem dX1_withAny (i : Nat) {pc : Nat} {ins : Instr} {len pc' : Nat} (hi : eX1_withAny[i]? = some (pc, ins, len, pc')) : q_d cX1_withAny pc ins len pc' := q_dt hX1_withAny i hi
abbrev MX1_partsInAll : MM := (yX1_partsInAll, cX1_partsInAll, 4, some .int)
def eX1_partsInAll : List (Nat × Instr × Nat × Nat) := [(0, .bipush 63, 2, 2), (2, .istore_n 2, 1, 3), (3, .iconst 0, 1, 4), (4, .istore_n 3, 1, 5), (5, .iload_n 3, 1, 6), (6, .bipush 64, 2, 8), (8, .if_icmp .ge 22, 3, 11), (11, .aload_n 0, 1, 12), (12, .iload_n 1, 1, 13), (13, .iload_n 3, 1, 14), (14, .invokevirtual 97, 3, 17), (17, .ifCond .le 7, 3, 20), (20, .iload_n 2, 1, 21), (21, .iload_n 3, 1, 22), (22, .iand, 1, 23), (23, .istore_n 2, 1, 24), (24, .iinc 3 1, 3, 27), (27, .goto (-22), 3, 30), (30, .iload_n 2, 1, 31), (31, .ireturn, 1, 32)]
theorem hX1_partsInAll : ∀ q ∈ eX1_partsInAll, decode cX1_partsInAll q.1 = .ok (q.2.1, q.2.2.1) ∧ q.1 + q.2.2.1 = q.2.2.2 := by decide +kernel
theorem dX1_partsInAll (i : Nat) {pc : Nat} {ins : Instr} {len pc' : Nat} (hi : eX1_partsInAll[i]? = some (pc, ins, len, pc')) : q_d cX1_partsInAll pc ins len pc' := q_dt hX1_partsInAll i hi
abbrev MX1_partsInAny : MM := (yX1_partsInAny, cX1_partsInAny, 4, some .int)
def eX1_partsInAny : List (Nat × Instr × Nat × Nat) := [(0, .iconst 0, 1, 1), (1, .istore_n 2, 1, 2), (2, .iconst 0, 1, 3), (3, .istore_n 3, 1, 4), (4, .iload_n 3, 1, 5), (5, .bipush 64, 2, 7), (7, .if_icmp .ge 22, 3, 10), (10, .aload_n 0, 1, 11), (11, .iload_n 1, 1, 12), (12, .iload_n 3, 1, 13), (13, .invokevirtual 97, 3, 16), (16, .ifCond .le 7, 3, 19), (19, .iload_n 2, 1, 20), (20, .iload_n 3, 1, 21), (21, .ior, 1, 22), (22, .istore_n 2, 1, 23), (23, .iinc 3 1, 3, 26), (26, .goto (-22), 3, 29), (29, .iload_n 2, 1, 30), (30, .ireturn, 1, 31)]
theorem hX1_partsInAny : ∀ q ∈ eX1_partsInAny, decode cX1_partsInAny q.1 = .ok (q.2.1, q.2.2.1) ∧ q.1 + q.2.2.1 = q.2.2.2 := by decide +kernel
theorem dX1_partsInAny (i : Nat) {pc : Nat} {ins : Instr} {len pc' : Nat} (hi : eX1_partsInAny[i]? = some (pc, ins, len, pc')) : q_d cX1_partsInAny pc ins len pc' := q_dt hX1_partsInAny i hi
abbrev MX1_squares : MM := (yX1_squares, cX1_squares, 9, some .int)
def eX1_squares : List (Nat × Instr × Nat × Nat) := [(0, .aload_n 0, 1, 1), (1, .getfield 24, 3, 4), (4, .invokestatic 34, 3, 7), (7, .iconst 0, 1, 8), (8, .istore 4, 2, 10), (10, .iconst 0, 1, 11), (11, .istore 5, 2, 13), (13, .iload 5, 2, 15), (15, .aload_n 0, 1, 16), (16, .getfield 27, 3, 19), (19, .if_icmp .ge 72, 3, 22), (22, .aload_n 0, 1, 23), (23, .iload 5, 2, 25), (25, .invokevirtual 100, 3, 28), (28, .istore 6, 2, 30), (30, .aload_n 1, 1, 31), (31, .iload_n 2, 1, 32), (32, .iload 6, 2, 34), (34, .invokevirtual 81, 3, 37), (37, .bipush 64, 2, 39), (39, .imul, 1, 40), (40, .aload_n 1, 1, 41), (41, .iload_n 3, 1, 42), (42, .iload 6, 2, 44), (44, .invokevirtual 81, 3, 47), (47, .iadd, 1, 48), (48, .istore 7, 2, 50), (50, .aload_n 0, 1, 51), (51, .getfield 24, 3, 54), (54, .iload 7, 2, 56), (56, .invokestatic 85, 3, 59), (59, .iconst 1, 1, 60), (60, .iadd, 1, 61), (61, .istore 8, 2, 63), (63, .aload_n 0, 1, 64), (64, .getfield 24, 3, 67), (67, .iload 7, 2, 69), (69, .iload 8, 2, 71), (71, .invokestatic 77, 3, 74), (74, .iload 4, 2, 76), (76, .iconst 2, 1, 77), (77, .iload 8, 2, 79), (79, .imul, 1, 80), (80, .iconst 1, 1, 81), (81, .isub, 1, 82), (82, .iadd, 1, 83), (83, .istore 4, 2, 85), (85, .iinc 5 1, 3, 88), (88, .goto (-75), 3, 91), (91, .iload 4, 2, 93), (93, .ireturn, 1, 94)]
theorem hX1_squares : ∀ q ∈ eX1_squares, decode cX1_squares q.1 = .ok (q.2.1, q.2.2.1) ∧ q.1 + q.2.2.1 = q.2.2.2 := by decide +kernel
theorem dX1_squares (i : Nat) {pc : Nat} {ins : Instr} {len pc' : Nat} (hi : eX1_squares[i]? = some (pc, ins, len, pc')) : q_d cX1_squares pc ins len pc' := q_dt hX1_squares i hi
abbrev MX1_drawnBy : MM := (yX1_drawnBy, cX1_drawnBy, 4, some .int)
def eX1_drawnBy : List (Nat × Instr × Nat × Nat) := [(0, .iload_n 1, 1, 1), (1, .i2l, 1, 2), (2, .lconst 1, 1, 3), (3, .ladd, 1, 4), (4, .ldc2_w 103, 3, 7), (7, .lmul, 1, 8), (8, .ldc2_w 105, 3, 11), (11, .lrem, 1, 12), (12, .lstore_n 2, 1, 13), (13, .aload_n 0, 1, 14), (14, .getfield 27, 3, 17), (17, .ifCond .le 18, 3, 20), (20, .aload_n 0, 1, 21), (21, .lload_n 2, 1, 22), (22, .aload_n 0, 1, 23), (23, .getfield 27, 3, 26), (26, .i2l, 1, 27), (27, .lrem, 1, 28), (28, .l2i, 1, 29), (29, .invokevirtual 100, 3, 32), (32, .goto 4, 3, 35), (35, .iconst 0, 1, 36), (36, .ireturn, 1, 37)]
theorem hX1_drawnBy : ∀ q ∈ eX1_drawnBy, decode cX1_drawnBy q.1 = .ok (q.2.1, q.2.2.1) ∧ q.1 + q.2.2.1 = q.2.2.2 := by decide +kernel
theorem dX1_drawnBy (i : Nat) {pc : Nat} {ins : Instr} {len pc' : Nat} (hi : eX1_drawnBy[i]? = some (pc, ins, len, pc')) : q_d cX1_drawnBy pc ins len pc' := q_dt hX1_drawnBy i hi
abbrev MX9_within : MM := (yX9_within, cX9_within, 3, some .boolean)
def eX9_within : List (Nat × Instr × Nat × Nat) := [(0, .iload_n 0, 1, 1), (1, .iload_n 1, 1, 2), (2, .if_icmp .lt 12, 3, 5), (5, .iload_n 0, 1, 6), (6, .iload_n 2, 1, 7), (7, .if_icmp .gt 7, 3, 10), (10, .iconst 1, 1, 11), (11, .goto 4, 3, 14), (14, .iconst 0, 1, 15), (15, .ireturn, 1, 16)]
theorem hX9_within : ∀ q ∈ eX9_within, decode cX9_within q.1 = .ok (q.2.1, q.2.2.1) ∧ q.1 + q.2.2.1 = q.2.2.2 := by decide +kernel
theorem dX9_within (i : Nat) {pc : Nat} {ins : Instr} {len pc' : Nat} (hi : eX9_within[i]? = some (pc, ins, len, pc')) : q_d cX9_within pc ins len pc' := q_dt hX9_within i hi
abbrev MX9_isParts : MM := (yX9_isParts, cX9_isParts, 1, some .boolean)
def eX9_isParts : List (Nat × Instr × Nat × Nat) := [(0, .iload_n 0, 1, 1), (1, .iconst 0, 1, 2), (2, .bipush 63, 2, 4), (4, .invokestatic 92, 3, 7), (7, .ireturn, 1, 8)]
theorem hX9_isParts : ∀ q ∈ eX9_isParts, decode cX9_isParts q.1 = .ok (q.2.1, q.2.2.1) ∧ q.1 + q.2.2.1 = q.2.2.2 := by decide +kernel
theorem dX9_isParts (i : Nat) {pc : Nat} {ins : Instr} {len pc' : Nat} (hi : eX9_isParts[i]? = some (pc, ins, len, pc')) : q_d cX9_isParts pc ins len pc' := q_dt hX9_isParts i hi
abbrev MX3_mayStand : MM := (yX3_mayStand, cX3_mayStand, 2, some .boolean)
def eX3_mayStand : List (Nat × Instr × Nat × Nat) := [(0, .iload_n 0, 1, 1), (1, .invokestatic 21, 3, 4), (4, .ifCond .eq 29, 3, 7), (7, .iload_n 0, 1, 8), (8, .invokestatic 25, 3, 11), (11, .iconst 1, 1, 12), (12, .iconst 3, 1, 13), (13, .invokestatic 31, 3, 16), (16, .ifCond .eq 17, 3, 19), (19, .iload_n 1, 1, 20), (20, .iconst 1, 1, 21), (21, .bipush 99, 2, 23), (23, .invokestatic 31, 3, 26), (26, .ifCond .eq 7, 3, 29), (29, .iconst 1, 1, 30), (30, .goto 4, 3, 33), (33, .iconst 0, 1, 34), (34, .ireturn, 1, 35)]
theorem hX3_mayStand : ∀ q ∈ eX3_mayStand, decode cX3_mayStand q.1 = .ok (q.2.1, q.2.2.1) ∧ q.1 + q.2.2.1 = q.2.2.2 := by decide +kernel
theorem dX3_mayStand (i : Nat) {pc : Nat} {ins : Instr} {len pc' : Nat} (hi : eX3_mayStand[i]? = some (pc, ins, len, pc')) : q_d cX3_mayStand pc ins len pc' := q_dt hX3_mayStand i hi
abbrev MX7_partsOf : MM := (yX7_partsOf, cX7_partsOf, 5, some .int)
def eX7_partsOf : List (Nat × Instr × Nat × Nat) := [(0, .iconst 0, 1, 1), (1, .istore_n 3, 1, 2), (2, .iconst 0, 1, 3), (3, .istore 4, 2, 5), (5, .iload 4, 2, 7), (7, .bipush 6, 2, 9), (9, .if_icmp .ge 30, 3, 12), (12, .iload_n 2, 1, 13), (13, .iload 4, 2, 15), (15, .ishr, 1, 16), (16, .iconst 1, 1, 17), (17, .iand, 1, 18), (18, .ifCond .eq 15, 3, 21), (21, .iload_n 3, 1, 22), (22, .iconst 1, 1, 23), (23, .aload_n 0, 1, 24), (24, .iload_n 1, 1, 25), (25, .iload 4, 2, 27), (27, .invokevirtual 45, 3, 30), (30, .ishl, 1, 31), (31, .ior, 1, 32), (32, .istore_n 3, 1, 33), (33, .iinc 4 1, 3, 36), (36, .goto (-31), 3, 39), (39, .iload_n 3, 1, 40), (40, .ireturn, 1, 41)]
theorem hX7_partsOf : ∀ q ∈ eX7_partsOf, decode cX7_partsOf q.1 = .ok (q.2.1, q.2.2.1) ∧ q.1 + q.2.2.1 = q.2.2.2 := by decide +kernel
theorem dX7_partsOf (i : Nat) {pc : Nat} {ins : Instr} {len pc' : Nat} (hi : eX7_partsOf[i]? = some (pc, ins, len, pc')) : q_d cX7_partsOf pc ins len pc' := q_dt hX7_partsOf i hi
abbrev MX3_add : MM := (yX3_add, cX3_add, 6, some .int)
def eX3_add : List (Nat × Instr × Nat × Nat) := [(0, .aload_n 0, 1, 1), (1, .getfield 35, 3, 4), (4, .istore 4, 2, 6), (6, .aload_n 0, 1, 7), (7, .getfield 9, 3, 10), (10, .iload 4, 2, 12), (12, .iload_n 2, 1, 13), (13, .invokestatic 39, 3, 16), (16, .aload_n 0, 1, 17), (17, .getfield 15, 3, 20), (20, .iload 4, 2, 22), (22, .iload_n 3, 1, 23), (23, .invokestatic 39, 3, 26), (26, .iconst 0, 1, 27), (27, .istore 5, 2, 29), (29, .iload 5, 2, 31), (31, .sipush 720, 3, 34), (34, .if_icmp .ge 32, 3, 37), (37, .aload_n 0, 1, 38), (38, .getfield 18, 3, 41), (41, .iload 4, 2, 43), (43, .sipush 720, 3, 46), (46, .imul, 1, 47), (47, .iload 5, 2, 49), (49, .iadd, 1, 50), (50, .aload_n 1, 1, 51), (51, .iload 5, 2, 53), (53, .iload_n 2, 1, 54), (54, .invokevirtual 43, 3, 57), (57, .invokestatic 39, 3, 60), (60, .iinc 5 1, 3, 63), (63, .goto (-34), 3, 66), (66, .aload_n 0, 1, 67), (67, .dup, 1, 68), (68, .getfield 35, 3, 71), (71, .iconst 1, 1, 72), (72, .iadd, 1, 73), (73, .putfield 35, 3, 76), (76, .iload 4, 2, 78), (78, .ireturn, 1, 79)]
theorem hX3_add : ∀ q ∈ eX3_add, decode cX3_add q.1 = .ok (q.2.1, q.2.2.1) ∧ q.1 + q.2.2.1 = q.2.2.2 := by decide +kernel
theorem dX3_add (i : Nat) {pc : Nat} {ins : Instr} {len pc' : Nat} (hi : eX3_add[i]? = some (pc, ins, len, pc')) : q_d cX3_add pc ins len pc' := q_dt hX3_add i hi
abbrev MX3_everyLine : MM := (yX3_everyLine, cX3_everyLine, 1, some .int)
def eX3_everyLine : List (Nat × Instr × Nat × Nat) := [(0, .iconst 1, 1, 1), (1, .aload_n 0, 1, 2), (2, .getfield 35, 3, 5), (5, .ishl, 1, 6), (6, .iconst 1, 1, 7), (7, .isub, 1, 8), (8, .ireturn, 1, 9)]
theorem hX3_everyLine : ∀ q ∈ eX3_everyLine, decode cX3_everyLine q.1 = .ok (q.2.1, q.2.2.1) ∧ q.1 + q.2.2.1 = q.2.2.2 := by decide +kernel
theorem dX3_everyLine (i : Nat) {pc : Nat} {ins : Instr} {len pc' : Nat} (hi : eX3_everyLine[i]? = some (pc, ins, len, pc')) : q_d cX3_everyLine pc ins len pc' := q_dt hX3_everyLine i hi
abbrev MX3_pricesOf : MM := (yX3_pricesOf, cX3_pricesOf, 4, some .int)
def eX3_pricesOf : List (Nat × Instr × Nat × Nat) := [(0, .iconst 0, 1, 1), (1, .istore_n 2, 1, 2), (2, .iconst 0, 1, 3), (3, .istore_n 3, 1, 4), (4, .iload_n 3, 1, 5), (5, .aload_n 0, 1, 6), (6, .getfield 35, 3, 9), (9, .if_icmp .ge 25, 3, 12), (12, .iload_n 1, 1, 13), (13, .iload_n 3, 1, 14), (14, .ishr, 1, 15), (15, .iconst 1, 1, 16), (16, .iand, 1, 17), (17, .ifCond .eq 11, 3, 20), (20, .iload_n 2, 1, 21), (21, .aload_n 0, 1, 22), (22, .iload_n 3, 1, 23), (23, .invokevirtual 53, 3, 26), (26, .iadd, 1, 27), (27, .istore_n 2, 1, 28), (28, .iinc 3 1, 3, 31), (31, .goto (-27), 3, 34), (34, .iload_n 2, 1, 35), (35, .ireturn, 1, 36)]
theorem hX3_pricesOf : ∀ q ∈ eX3_pricesOf, decode cX3_pricesOf q.1 = .ok (q.2.1, q.2.2.1) ∧ q.1 + q.2.2.1 = q.2.2.2 := by decide +kernel
theorem dX3_pricesOf (i : Nat) {pc : Nat} {ins : Instr} {len pc' : Nat} (hi : eX3_pricesOf[i]? = some (pc, ins, len, pc')) : q_d cX3_pricesOf pc ins len pc' := q_dt hX3_pricesOf i hi
abbrev MX4_sortOf : MM := (yX4_sortOf, cX4_sortOf, 2, some .int)
def eX4_sortOf : List (Nat × Instr × Nat × Nat) := [(0, .aload_n 0, 1, 1), (1, .getfield 9, 3, 4), (4, .iload_n 1, 1, 5), (5, .invokestatic 25, 3, 8), (8, .ireturn, 1, 9)]
theorem hX4_sortOf : ∀ q ∈ eX4_sortOf, decode cX4_sortOf q.1 = .ok (q.2.1, q.2.2.1) ∧ q.1 + q.2.2.1 = q.2.2.2 := by decide +kernel
theorem dX4_sortOf (i : Nat) {pc : Nat} {ins : Instr} {len pc' : Nat} (hi : eX4_sortOf[i]? = some (pc, ins, len, pc')) : q_d cX4_sortOf pc ins len pc' := q_dt hX4_sortOf i hi
abbrev MX4_isMissing : MM := (yX4_isMissing, cX4_isMissing, 2, some .boolean)
def eX4_isMissing : List (Nat × Instr × Nat × Nat) := [(0, .aload_n 0, 1, 1), (1, .iload_n 1, 1, 2), (2, .invokevirtual 21, 3, 5), (5, .iconst (-1), 1, 6), (6, .if_icmp .ne 7, 3, 9), (9, .iconst 1, 1, 10), (10, .goto 4, 3, 13), (13, .iconst 0, 1, 14), (14, .ireturn, 1, 15)]
theorem hX4_isMissing : ∀ q ∈ eX4_isMissing, decode cX4_isMissing q.1 = .ok (q.2.1, q.2.2.1) ∧ q.1 + q.2.2.1 = q.2.2.2 := by decide +kernel
theorem dX4_isMissing (i : Nat) {pc : Nat} {ins : Instr} {len pc' : Nat} (hi : eX4_isMissing[i]? = some (pc, ins, len, pc')) : q_d cX4_isMissing pc ins len pc' := q_dt hX4_isMissing i hi
abbrev MX4_sizeOf : MM := (yX4_sizeOf, cX4_sizeOf, 2, some .int)
def eX4_sizeOf : List (Nat × Instr × Nat × Nat) := [(0, .aload_n 0, 1, 1), (1, .getfield 15, 3, 4), (4, .iload_n 1, 1, 5), (5, .invokestatic 25, 3, 8), (8, .ireturn, 1, 9)]
theorem hX4_sizeOf : ∀ q ∈ eX4_sizeOf, decode cX4_sizeOf q.1 = .ok (q.2.1, q.2.2.1) ∧ q.1 + q.2.2.1 = q.2.2.2 := by decide +kernel
theorem dX4_sizeOf (i : Nat) {pc : Nat} {ins : Instr} {len pc' : Nat} (hi : eX4_sizeOf[i]? = some (pc, ins, len, pc')) : q_d cX4_sizeOf pc ins len pc' := q_dt hX4_sizeOf i hi
abbrev MX4_become : MM := (yX4_become, cX4_become, 5, none)
def eX4_become : List (Nat × Instr × Nat × Nat) := [(0, .aload_n 0, 1, 1), (1, .getfield 9, 3, 4), (4, .iload_n 1, 1, 5), (5, .iload_n 2, 1, 6), (6, .invokestatic 29, 3, 9), (9, .aload_n 0, 1, 10), (10, .getfield 15, 3, 13), (13, .iload_n 1, 1, 14), (14, .iload_n 3, 1, 15), (15, .invokestatic 29, 3, 18), (18, .iconst 0, 1, 19), (19, .istore 4, 2, 21), (21, .iload 4, 2, 23), (23, .bipush 40, 2, 25), (25, .if_icmp .ge 24, 3, 28), (28, .aload_n 0, 1, 29), (29, .getfield 18, 3, 32), (32, .iload_n 1, 1, 33), (33, .bipush 40, 2, 35), (35, .imul, 1, 36), (36, .iload 4, 2, 38), (38, .iadd, 1, 39), (39, .iconst 0, 1, 40), (40, .invokestatic 29, 3, 43), (43, .iinc 4 1, 3, 46), (46, .goto (-25), 3, 49), (49, .return_, 1, 50)]
theorem hX4_become : ∀ q ∈ eX4_become, decode cX4_become q.1 = .ok (q.2.1, q.2.2.1) ∧ q.1 + q.2.2.1 = q.2.2.2 := by decide +kernel
theorem dX4_become (i : Nat) {pc : Nat} {ins : Instr} {len pc' : Nat} (hi : eX4_become[i]? = some (pc, ins, len, pc')) : q_d cX4_become pc ins len pc' := q_dt hX4_become i hi
abbrev MX4_read : MM := (yX4_read, cX4_read, 3, some .int)
def eX4_read : List (Nat × Instr × Nat × Nat) := [(0, .aload_n 0, 1, 1), (1, .getfield 18, 3, 4), (4, .iload_n 1, 1, 5), (5, .bipush 40, 2, 7), (7, .imul, 1, 8), (8, .iload_n 2, 1, 9), (9, .iadd, 1, 10), (10, .invokestatic 25, 3, 13), (13, .ireturn, 1, 14)]
theorem hX4_read : ∀ q ∈ eX4_read, decode cX4_read q.1 = .ok (q.2.1, q.2.2.1) ∧ q.1 + q.2.2.1 = q.2.2.2 := by decide +kernel
theorem dX4_read (i : Nat) {pc : Nat} {ins : Instr} {len pc' : Nat} (hi : eX4_read[i]? = some (pc, ins, len, pc')) : q_d cX4_read pc ins len pc' := q_dt hX4_read i hi
abbrev MX4_write : MM := (yX4_write, cX4_write, 5, none)
def eX4_write : List (Nat × Instr × Nat × Nat) := [(0, .aload_n 0, 1, 1), (1, .iload_n 1, 1, 2), (2, .invokevirtual 21, 3, 5), (5, .istore 4, 2, 7), (7, .aload_n 0, 1, 8), (8, .getfield 18, 3, 11), (11, .iload_n 1, 1, 12), (12, .bipush 40, 2, 14), (14, .imul, 1, 15), (15, .iload_n 2, 1, 16), (16, .iadd, 1, 17), (17, .iload 4, 2, 19), (19, .ifCond .ne 8, 3, 22), (22, .iload_n 3, 1, 23), (23, .i2b, 1, 24), (24, .goto 15, 3, 27), (27, .iload 4, 2, 29), (29, .iconst 1, 1, 30), (30, .if_icmp .ne 8, 3, 33), (33, .iload_n 3, 1, 34), (34, .i2s, 1, 35), (35, .goto 4, 3, 38), (38, .iload_n 3, 1, 39), (39, .invokestatic 29, 3, 42), (42, .return_, 1, 43)]
theorem hX4_write : ∀ q ∈ eX4_write, decode cX4_write q.1 = .ok (q.2.1, q.2.2.1) ∧ q.1 + q.2.2.1 = q.2.2.2 := by decide +kernel
theorem dX4_write (i : Nat) {pc : Nat} {ins : Instr} {len pc' : Nat} (hi : eX4_write[i]? = some (pc, ins, len, pc')) : q_d cX4_write pc ins len pc' := q_dt hX4_write i hi
abbrev MX4_move : MM := (yX4_move, cX4_move, 8, none)
def eX4_move : List (Nat × Instr × Nat × Nat) := [(0, .iload_n 1, 1, 1), (1, .bipush 40, 2, 3), (3, .imul, 1, 4), (4, .iload_n 2, 1, 5), (5, .iadd, 1, 6), (6, .istore 6, 2, 8), (8, .iload_n 3, 1, 9), (9, .bipush 40, 2, 11), (11, .imul, 1, 12), (12, .iload 4, 2, 14), (14, .iadd, 1, 15), (15, .istore 7, 2, 17), (17, .iload 5, 2, 19), (19, .ifCond .lt 54, 3, 22), (22, .iload 6, 2, 24), (24, .iconst 0, 1, 25), (25, .aload_n 0, 1, 26), (26, .getfield 18, 3, 29), (29, .arraylength, 1, 30), (30, .iload 5, 2, 32), (32, .isub, 1, 33), (33, .invokestatic 33, 3, 36), (36, .ifCond .eq 37, 3, 39), (39, .iload 7, 2, 41), (41, .iconst 0, 1, 42), (42, .aload_n 0, 1, 43), (43, .getfield 18, 3, 46), (46, .arraylength, 1, 47), (47, .iload 5, 2, 49), (49, .isub, 1, 50), (50, .invokestatic 33, 3, 53), (53, .ifCond .eq 20, 3, 56), (56, .aload_n 0, 1, 57), (57, .getfield 18, 3, 60), (60, .iload 6, 2, 62), (62, .aload_n 0, 1, 63), (63, .getfield 18, 3, 66), (66, .iload 7, 2, 68), (68, .iload 5, 2, 70), (70, .invokestatic 37, 3, 73), (73, .return_, 1, 74)]
theorem hX4_move : ∀ q ∈ eX4_move, decode cX4_move q.1 = .ok (q.2.1, q.2.2.1) ∧ q.1 + q.2.2.1 = q.2.2.2 := by decide +kernel
theorem dX4_move (i : Nat) {pc : Nat} {ins : Instr} {len pc' : Nat} (hi : eX4_move[i]? = some (pc, ins, len, pc')) : q_d cX4_move pc ins len pc' := q_dt hX4_move i hi
abbrev MX5_add : MM := (yX5_add, cX5_add, 2, none)
def eX5_add : List (Nat × Instr × Nat × Nat) := [(0, .aload_n 0, 1, 1), (1, .getfield 21, 3, 4), (4, .sipush 160, 3, 7), (7, .if_icmp .ge 25, 3, 10), (10, .aload_n 0, 1, 11), (11, .getfield 9, 3, 14), (14, .aload_n 0, 1, 15), (15, .getfield 21, 3, 18), (18, .iload_n 1, 1, 19), (19, .invokestatic 25, 3, 22), (22, .aload_n 0, 1, 23), (23, .dup, 1, 24), (24, .getfield 21, 3, 27), (27, .iconst 1, 1, 28), (28, .iadd, 1, 29), (29, .putfield 21, 3, 32), (32, .return_, 1, 33)]
theorem hX5_add : ∀ q ∈ eX5_add, decode cX5_add q.1 = .ok (q.2.1, q.2.2.1) ∧ q.1 + q.2.2.1 = q.2.2.2 := by decide +kernel
theorem dX5_add (i : Nat) {pc : Nat} {ins : Instr} {len pc' : Nat} (hi : eX5_add[i]? = some (pc, ins, len, pc')) : q_d cX5_add pc ins len pc' := q_dt hX5_add i hi
abbrev MX5_empty : MM := (yX5_empty, cX5_empty, 1, none)
def eX5_empty : List (Nat × Instr × Nat × Nat) := [(0, .aload_n 0, 1, 1), (1, .iconst 0, 1, 2), (2, .putfield 21, 3, 5), (5, .return_, 1, 6)]
theorem hX5_empty : ∀ q ∈ eX5_empty, decode cX5_empty q.1 = .ok (q.2.1, q.2.2.1) ∧ q.1 + q.2.2.1 = q.2.2.2 := by decide +kernel
theorem dX5_empty (i : Nat) {pc : Nat} {ins : Instr} {len pc' : Nat} (hi : eX5_empty[i]? = some (pc, ins, len, pc')) : q_d cX5_empty pc ins len pc' := q_dt hX5_empty i hi
abbrev MX5_isBlank : MM := (yX5_isBlank, cX5_isBlank, 1, some .boolean)
def eX5_isBlank : List (Nat × Instr × Nat × Nat) := [(0, .iload_n 0, 1, 1), (1, .bipush 32, 2, 3), (3, .if_icmp .eq 9, 3, 6), (6, .iload_n 0, 1, 7), (7, .bipush 10, 2, 9), (9, .if_icmp .ne 7, 3, 12), (12, .iconst 1, 1, 13), (13, .goto 4, 3, 16), (16, .iconst 0, 1, 17), (17, .ireturn, 1, 18)]
theorem hX5_isBlank : ∀ q ∈ eX5_isBlank, decode cX5_isBlank q.1 = .ok (q.2.1, q.2.2.1) ∧ q.1 + q.2.2.1 = q.2.2.2 := by decide +kernel
theorem dX5_isBlank (i : Nat) {pc : Nat} {ins : Instr} {len pc' : Nat} (hi : eX5_isBlank[i]? = some (pc, ins, len, pc')) : q_d cX5_isBlank pc ins len pc' := q_dt hX5_isBlank i hi
abbrev MX5_isLetter : MM := (yX5_isLetter, cX5_isLetter, 1, some .boolean)
def eX5_isLetter : List (Nat × Instr × Nat × Nat) := [(0, .iload_n 0, 1, 1), (1, .bipush 97, 2, 3), (3, .bipush 122, 2, 5), (5, .invokestatic 45, 3, 8), (8, .ireturn, 1, 9)]
theorem hX5_isLetter : ∀ q ∈ eX5_isLetter, decode cX5_isLetter q.1 = .ok (q.2.1, q.2.2.1) ∧ q.1 + q.2.2.1 = q.2.2.2 := by decide +kernel
theorem dX5_isLetter (i : Nat) {pc : Nat} {ins : Instr} {len pc' : Nat} (hi : eX5_isLetter[i]? = some (pc, ins, len, pc')) : q_d cX5_isLetter pc ins len pc' := q_dt hX5_isLetter i hi
abbrev MX5_isDigit : MM := (yX5_isDigit, cX5_isDigit, 1, some .boolean)
def eX5_isDigit : List (Nat × Instr × Nat × Nat) := [(0, .iload_n 0, 1, 1), (1, .bipush 48, 2, 3), (3, .bipush 57, 2, 5), (5, .invokestatic 45, 3, 8), (8, .ireturn, 1, 9)]
theorem hX5_isDigit : ∀ q ∈ eX5_isDigit, decode cX5_isDigit q.1 = .ok (q.2.1, q.2.2.1) ∧ q.1 + q.2.2.1 = q.2.2.2 := by decide +kernel
theorem dX5_isDigit (i : Nat) {pc : Nat} {ins : Instr} {len pc' : Nat} (hi : eX5_isDigit[i]? = some (pc, ins, len, pc')) : q_d cX5_isDigit pc ins len pc' := q_dt hX5_isDigit i hi
abbrev MX5_endOf : MM := (yX5_endOf, cX5_endOf, 5, some .int)
def eX5_endOf : List (Nat × Instr × Nat × Nat) := [(0, .iload_n 1, 1, 1), (1, .iconst 1, 1, 2), (2, .iadd, 1, 3), (3, .istore_n 2, 1, 4), (4, .aload_n 0, 1, 5), (5, .getfield 9, 3, 8), (8, .iload_n 1, 1, 9), (9, .invokestatic 29, 3, 12), (12, .invokestatic 49, 3, 15), (15, .istore_n 3, 1, 16), (16, .aload_n 0, 1, 17), (17, .getfield 9, 3, 20), (20, .iload_n 1, 1, 21), (21, .invokestatic 29, 3, 24), (24, .invokestatic 52, 3, 27), (27, .istore 4, 2, 29), (29, .iload_n 2, 1, 30), (30, .aload_n 0, 1, 31), (31, .getfield 21, 3, 34), (34, .if_icmp .ge 46, 3, 37), (37, .iload_n 3, 1, 38), (38, .ifCond .eq 17, 3, 41), (41, .aload_n 0, 1, 42), (42, .getfield 9, 3, 45), (45, .iload_n 2, 1, 46), (46, .invokestatic 29, 3, 49), (49, .invokestatic 49, 3, 52), (52, .ifCond .ne 22, 3, 55), (55, .iload 4, 2, 57), (57, .ifCond .eq 23, 3, 60), (60, .aload_n 0, 1, 61), (61, .getfield 9, 3, 64), (64, .iload_n 2, 1, 65), (65, .invokestatic 29, 3, 68), (68, .invokestatic 52, 3, 71), (71, .ifCond .eq 9, 3, 74), (74, .iinc 2 1, 3, 77), (77, .goto (-48), 3, 80), (80, .iload_n 2, 1, 81), (81, .ireturn, 1, 82)]
theorem hX5_endOf : ∀ q ∈ eX5_endOf, decode cX5_endOf q.1 = .ok (q.2.1, q.2.2.1) ∧ q.1 + q.2.2.1 = q.2.2.2 := by decide +kernel
theorem dX5_endOf (i : Nat) {pc : Nat} {ins : Instr} {len pc' : Nat} (hi : eX5_endOf[i]? = some (pc, ins, len, pc')) : q_d cX5_endOf pc ins len pc' := q_dt hX5_endOf i hi
abbrev MJ0_coder_7d493 : MM := (yJ0_coder_7d493, cJ0_coder_7d493, 1, some .byte)
def eJ0_coder_7d493 : List (Nat × Instr × Nat × Nat) := [(0, .getstatic 38, 3, 3), (3, .ifCond .eq 10, 3, 6), (6, .aload_n 0, 1, 7), (7, .getfield 15, 3, 10), (10, .goto 4, 3, 13), (13, .iconst 1, 1, 14), (14, .ireturn, 1, 15)]
theorem hJ0_coder_7d493 : ∀ q ∈ eJ0_coder_7d493, decode cJ0_coder_7d493 q.1 = .ok (q.2.1, q.2.2.1) ∧ q.1 + q.2.2.1 = q.2.2.2 := by decide +kernel
theorem dJ0_coder_7d493 (i : Nat) {pc : Nat} {ins : Instr} {len pc' : Nat} (hi : eJ0_coder_7d493[i]? = some (pc, ins, len, pc')) : q_d cJ0_coder_7d493 pc ins len pc' := q_dt hJ0_coder_7d493 i hi
abbrev MJ0_length_8abf5 : MM := (yJ0_length_8abf5, cJ0_length_8abf5, 1, some .int)
def eJ0_length_8abf5 : List (Nat × Instr × Nat × Nat) := [(0, .aload_n 0, 1, 1), (1, .getfield 9, 3, 4), (4, .arraylength, 1, 5), (5, .aload_n 0, 1, 6), (6, .invokevirtual 335, 3, 9), (9, .ishr, 1, 10), (10, .ireturn, 1, 11)]
theorem hJ0_length_8abf5 : ∀ q ∈ eJ0_length_8abf5, decode cJ0_length_8abf5 q.1 = .ok (q.2.1, q.2.2.1) ∧ q.1 + q.2.2.1 = q.2.2.2 := by decide +kernel
theorem dJ0_length_8abf5 (i : Nat) {pc : Nat} {ins : Instr} {len pc' : Nat} (hi : eJ0_length_8abf5[i]? = some (pc, ins, len, pc')) : q_d cJ0_length_8abf5 pc ins len pc' := q_dt hJ0_length_8abf5 i hi
abbrev MJ0_isLatin1_aae02 : MM := (yJ0_isLatin1_aae02, cJ0_isLatin1_aae02, 1, some .boolean)
def eJ0_isLatin1_aae02 : List (Nat × Instr × Nat × Nat) := [(0, .getstatic 38, 3, 3), (3, .ifCond .eq 14, 3, 6), (6, .aload_n 0, 1, 7), (7, .getfield 15, 3, 10), (10, .ifCond .ne 7, 3, 13), (13, .iconst 1, 1, 14), (14, .goto 4, 3, 17), (17, .iconst 0, 1, 18), (18, .ireturn, 1, 19)]
theorem hJ0_isLatin1_aae02 : ∀ q ∈ eJ0_isLatin1_aae02, decode cJ0_isLatin1_aae02 q.1 = .ok (q.2.1, q.2.2.1) ∧ q.1 + q.2.2.1 = q.2.2.2 := by decide +kernel
theorem dJ0_isLatin1_aae02 (i : Nat) {pc : Nat} {ins : Instr} {len pc' : Nat} (hi : eJ0_isLatin1_aae02[i]? = some (pc, ins, len, pc')) : q_d cJ0_isLatin1_aae02 pc ins len pc' := q_dt hJ0_isLatin1_aae02 i hi
abbrev MJ3_checkIndex_8e157 : MM := (yJ3_checkIndex_8e157, cJ3_checkIndex_8e157, 3, some .int)
def eJ3_checkIndex_8e157 : List (Nat × Instr × Nat × Nat) := [(0, .iload_n 0, 1, 1), (1, .ifCond .lt 8, 3, 4), (4, .iload_n 0, 1, 5), (5, .iload_n 1, 1, 6), (6, .if_icmp .lt 10, 3, 9), (9, .aload_n 2, 1, 10), (10, .iload_n 0, 1, 11), (11, .iload_n 1, 1, 12), (12, .invokestatic 95, 3, 15), (15, .athrow, 1, 16), (16, .iload_n 0, 1, 17), (17, .ireturn, 1, 18)]
theorem hJ3_checkIndex_8e157 : ∀ q ∈ eJ3_checkIndex_8e157, decode cJ3_checkIndex_8e157 q.1 = .ok (q.2.1, q.2.2.1) ∧ q.1 + q.2.2.1 = q.2.2.2 := by decide +kernel
theorem dJ3_checkIndex_8e157 (i : Nat) {pc : Nat} {ins : Instr} {len pc' : Nat} (hi : eJ3_checkIndex_8e157[i]? = some (pc, ins, len, pc')) : q_d cJ3_checkIndex_8e157 pc ins len pc' := q_dt hJ3_checkIndex_8e157 i hi
abbrev MJ0_checkIndex_df160 : MM := (yJ0_checkIndex_df160, cJ0_checkIndex_df160, 2, none)
def eJ0_checkIndex_df160 : List (Nat × Instr × Nat × Nat) := [(0, .iload_n 0, 1, 1), (1, .iload_n 1, 1, 2), (2, .getstatic 1053, 3, 5), (5, .invokestatic 1059, 3, 8), (8, .pop, 1, 9), (9, .return_, 1, 10)]
theorem hJ0_checkIndex_df160 : ∀ q ∈ eJ0_checkIndex_df160, decode cJ0_checkIndex_df160 q.1 = .ok (q.2.1, q.2.2.1) ∧ q.1 + q.2.2.1 = q.2.2.2 := by decide +kernel
theorem dJ0_checkIndex_df160 (i : Nat) {pc : Nat} {ins : Instr} {len pc' : Nat} (hi : eJ0_checkIndex_df160[i]? = some (pc, ins, len, pc')) : q_d cJ0_checkIndex_df160 pc ins len pc' := q_dt hJ0_checkIndex_df160 i hi
abbrev MJ1_charAt_3b067 : MM := (yJ1_charAt_3b067, cJ1_charAt_3b067, 2, some .char)
def eJ1_charAt_3b067 : List (Nat × Instr × Nat × Nat) := [(0, .iload_n 1, 1, 1), (1, .aload_n 0, 1, 2), (2, .arraylength, 1, 3), (3, .invokestatic 9, 3, 6), (6, .aload_n 0, 1, 7), (7, .iload_n 1, 1, 8), (8, .baload, 1, 9), (9, .sipush 255, 3, 12), (12, .iand, 1, 13), (13, .i2c, 1, 14), (14, .ireturn, 1, 15)]
theorem hJ1_charAt_3b067 : ∀ q ∈ eJ1_charAt_3b067, decode cJ1_charAt_3b067 q.1 = .ok (q.2.1, q.2.2.1) ∧ q.1 + q.2.2.1 = q.2.2.2 := by decide +kernel
theorem dJ1_charAt_3b067 (i : Nat) {pc : Nat} {ins : Instr} {len pc' : Nat} (hi : eJ1_charAt_3b067[i]? = some (pc, ins, len, pc')) : q_d cJ1_charAt_3b067 pc ins len pc' := q_dt hJ1_charAt_3b067 i hi
abbrev MJ0_charAt_5068e : MM := (yJ0_charAt_5068e, cJ0_charAt_5068e, 2, some .char)
def eJ0_charAt_5068e : List (Nat × Instr × Nat × Nat) := [(0, .aload_n 0, 1, 1), (1, .invokevirtual 492, 3, 4), (4, .ifCond .eq 12, 3, 7), (7, .aload_n 0, 1, 8), (8, .getfield 9, 3, 11), (11, .iload_n 1, 1, 12), (12, .invokestatic 495, 3, 15), (15, .ireturn, 1, 16), (16, .aload_n 0, 1, 17), (17, .getfield 9, 3, 20), (20, .iload_n 1, 1, 21), (21, .invokestatic 498, 3, 24), (24, .ireturn, 1, 25)]
theorem hJ0_charAt_5068e : ∀ q ∈ eJ0_charAt_5068e, decode cJ0_charAt_5068e q.1 = .ok (q.2.1, q.2.2.1) ∧ q.1 + q.2.2.1 = q.2.2.2 := by decide +kernel
theorem dJ0_charAt_5068e (i : Nat) {pc : Nat} {ins : Instr} {len pc' : Nat} (hi : eJ0_charAt_5068e[i]? = some (pc, ins, len, pc')) : q_d cJ0_charAt_5068e pc ins len pc' := q_dt hJ0_charAt_5068e i hi
abbrev MX5_spells : MM := (yX5_spells, cX5_spells, 5, some .boolean)
def eX5_spells : List (Nat × Instr × Nat × Nat) := [(0, .iload_n 3, 1, 1), (1, .iload_n 2, 1, 2), (2, .isub, 1, 3), (3, .aload_n 1, 1, 4), (4, .invokevirtual 98, 3, 7), (7, .if_icmp .eq 5, 3, 10), (10, .iconst 0, 1, 11), (11, .ireturn, 1, 12), (12, .iconst 0, 1, 13), (13, .istore 4, 2, 15), (15, .iload 4, 2, 17), (17, .aload_n 1, 1, 18), (18, .invokevirtual 98, 3, 21), (21, .if_icmp .ge 31, 3, 24), (24, .aload_n 0, 1, 25), (25, .getfield 9, 3, 28), (28, .iload_n 2, 1, 29), (29, .iload 4, 2, 31), (31, .iadd, 1, 32), (32, .invokestatic 29, 3, 35), (35, .aload_n 1, 1, 36), (36, .iload 4, 2, 38), (38, .invokevirtual 102, 3, 41), (41, .if_icmp .eq 5, 3, 44), (44, .iconst 0, 1, 45), (45, .ireturn, 1, 46), (46, .iinc 4 1, 3, 49), (49, .goto (-34), 3, 52), (52, .iconst 1, 1, 53), (53, .ireturn, 1, 54)]
theorem hX5_spells : ∀ q ∈ eX5_spells, decode cX5_spells q.1 = .ok (q.2.1, q.2.2.1) ∧ q.1 + q.2.2.1 = q.2.2.2 := by decide +kernel
theorem dX5_spells (i : Nat) {pc : Nat} {ins : Instr} {len pc' : Nat} (hi : eX5_spells[i]? = some (pc, ins, len, pc')) : q_d cX5_spells pc ins len pc' := q_dt hX5_spells i hi
abbrev MX5_word : MM := (yX5_word, cX5_word, 3, some .int)
def eX5_word_0 : List (Nat × Instr × Nat × Nat) := [(0, .aload_n 0, 1, 1), (1, .ldc 68, 2, 3), (3, .iload_n 1, 1, 4), (4, .iload_n 2, 1, 5), (5, .invokevirtual 70, 3, 8), (8, .ifCond .eq 9, 3, 11), (11, .sipush 256, 3, 14), (14, .goto 191, 3, 17), (17, .aload_n 0, 1, 18), (18, .ldc 74, 2, 20), (20, .iload_n 1, 1, 21), (21, .iload_n 2, 1, 22), (22, .invokevirtual 70, 3, 25), (25, .ifCond .eq 9, 3, 28), (28, .sipush 257, 3, 31), (31, .goto 174, 3, 34), (34, .aload_n 0, 1, 35), (35, .ldc 76, 2, 37), (37, .iload_n 1, 1, 38), (38, .iload_n 2, 1, 39), (39, .invokevirtual 70, 3, 42), (42, .ifCond .eq 9, 3, 45), (45, .sipush 258, 3, 48), (48, .goto 157, 3, 51), (51, .aload_n 0, 1, 52), (52, .ldc 78, 2, 54), (54, .iload_n 1, 1, 55), (55, .iload_n 2, 1, 56), (56, .invokevirtual 70, 3, 59), (59, .ifCond .eq 9, 3, 62), (62, .sipush 259, 3, 65), (65, .goto 140, 3, 68), (68, .aload_n 0, 1, 69), (69, .ldc 80, 2, 71), (71, .iload_n 1, 1, 72), (72, .iload_n 2, 1, 73), (73, .invokevirtual 70, 3, 76), (76, .ifCond .eq 9, 3, 79), (79, .sipush 260, 3, 82), (82, .goto 123, 3, 85), (85, .aload_n 0, 1, 86), (86, .ldc 82, 2, 88), (88, .iload_n 1, 1, 89), (89, .iload_n 2, 1, 90), (90, .invokevirtual 70, 3, 93), (93, .ifCond .eq 9, 3, 96), (96, .sipush 261, 3, 99), (99, .goto 106, 3, 102), (102, .aload_n 0, 1, 103), (103, .ldc 84, 2, 105), (105, .iload_n 1, 1, 106), (106, .iload_n 2, 1, 107), (107, .invokevirtual 70, 3, 110), (110, .ifCond .eq 9, 3, 113), (113, .sipush 300, 3, 116), (116, .goto 89, 3, 119), (119, .aload_n 0, 1, 120), (120, .ldc 88, 2, 122), (122, .iload_n 1, 1, 123), (123, .iload_n 2, 1, 124)]
theorem hX5_word_0 : ∀ q ∈ eX5_word_0, decode cX5_word q.1 = .ok (q.2.1, q.2.2.1) ∧ q.1 + q.2.2.1 = q.2.2.2 := by decide +kernel
theorem dX5_word_0 (i : Nat) {pc : Nat} {ins : Instr} {len pc' : Nat} (hi : eX5_word_0[i]? = some (pc, ins, len, pc')) : q_d cX5_word pc ins len pc' := q_dt hX5_word_0 i hi
def eX5_word_1 : List (Nat × Instr × Nat × Nat) := [(124, .invokevirtual 70, 3, 127), (127, .ifCond .eq 9, 3, 130), (130, .sipush 301, 3, 133), (133, .goto 72, 3, 136), (136, .aload_n 0, 1, 137), (137, .ldc 90, 2, 139), (139, .iload_n 1, 1, 140), (140, .iload_n 2, 1, 141), (141, .invokevirtual 70, 3, 144), (144, .ifCond .eq 9, 3, 147), (147, .sipush 302, 3, 150), (150, .goto 55, 3, 153), (153, .aload_n 0, 1, 154), (154, .ldc 92, 2, 156), (156, .iload_n 1, 1, 157), (157, .iload_n 2, 1, 158), (158, .invokevirtual 70, 3, 161), (161, .ifCond .eq 9, 3, 164), (164, .sipush 303, 3, 167), (167, .goto 38, 3, 170), (170, .aload_n 0, 1, 171), (171, .ldc 94, 2, 173), (173, .iload_n 1, 1, 174), (174, .iload_n 2, 1, 175), (175, .invokevirtual 70, 3, 178), (178, .ifCond .eq 9, 3, 181), (181, .sipush 304, 3, 184), (184, .goto 21, 3, 187), (187, .aload_n 0, 1, 188), (188, .ldc 96, 2, 190), (190, .iload_n 1, 1, 191), (191, .iload_n 2, 1, 192), (192, .invokevirtual 70, 3, 195), (195, .ifCond .eq 9, 3, 198), (198, .sipush 305, 3, 201), (201, .goto 4, 3, 204), (204, .iconst 1, 1, 205), (205, .ireturn, 1, 206)]
theorem hX5_word_1 : ∀ q ∈ eX5_word_1, decode cX5_word q.1 = .ok (q.2.1, q.2.2.1) ∧ q.1 + q.2.2.1 = q.2.2.2 := by decide +kernel
theorem dX5_word_1 (i : Nat) {pc : Nat} {ins : Instr} {len pc' : Nat} (hi : eX5_word_1[i]? = some (pc, ins, len, pc')) : q_d cX5_word pc ins len pc' := q_dt hX5_word_1 i hi
abbrev MX5_value : MM := (yX5_value, cX5_value, 5, some .int)
def eX5_value : List (Nat × Instr × Nat × Nat) := [(0, .iconst 0, 1, 1), (1, .istore_n 3, 1, 2), (2, .iload_n 1, 1, 3), (3, .istore 4, 2, 5), (5, .iload 4, 2, 7), (7, .iload_n 2, 1, 8), (8, .if_icmp .ge 27, 3, 11), (11, .iload_n 3, 1, 12), (12, .bipush 10, 2, 14), (14, .imul, 1, 15), (15, .aload_n 0, 1, 16), (16, .getfield 9, 3, 19), (19, .iload 4, 2, 21), (21, .invokestatic 29, 3, 24), (24, .iadd, 1, 25), (25, .bipush 48, 2, 27), (27, .isub, 1, 28), (28, .istore_n 3, 1, 29), (29, .iinc 4 1, 3, 32), (32, .goto (-27), 3, 35), (35, .iload_n 3, 1, 36), (36, .ireturn, 1, 37)]
theorem hX5_value : ∀ q ∈ eX5_value, decode cX5_value q.1 = .ok (q.2.1, q.2.2.1) ∧ q.1 + q.2.2.1 = q.2.2.2 := by decide +kernel
theorem dX5_value (i : Nat) {pc : Nat} {ins : Instr} {len pc' : Nat} (hi : eX5_value[i]? = some (pc, ins, len, pc')) : q_d cX5_value pc ins len pc' := q_dt hX5_value i hi
abbrev MJ1_canEncode_9a6ad : MM := (yJ1_canEncode_9a6ad, cJ1_canEncode_9a6ad, 1, some .boolean)
def eJ1_canEncode_9a6ad : List (Nat × Instr × Nat × Nat) := [(0, .iload_n 0, 1, 1), (1, .ifCond .lt 14, 3, 4), (4, .iload_n 0, 1, 5), (5, .sipush 255, 3, 8), (8, .if_icmp .gt 7, 3, 11), (11, .iconst 1, 1, 12), (12, .goto 4, 3, 15), (15, .iconst 0, 1, 16), (16, .ireturn, 1, 17)]
theorem hJ1_canEncode_9a6ad : ∀ q ∈ eJ1_canEncode_9a6ad, decode cJ1_canEncode_9a6ad q.1 = .ok (q.2.1, q.2.2.1) ∧ q.1 + q.2.2.1 = q.2.2.2 := by decide +kernel
theorem dJ1_canEncode_9a6ad (i : Nat) {pc : Nat} {ins : Instr} {len pc' : Nat} (hi : eJ1_canEncode_9a6ad[i]? = some (pc, ins, len, pc')) : q_d cJ1_canEncode_9a6ad pc ins len pc' := q_dt hJ1_canEncode_9a6ad i hi
abbrev MJ1_indexOfChar_4cfef : MM := (yJ1_indexOfChar_4cfef, cJ1_indexOfChar_4cfef, 6, some .int)
def eJ1_indexOfChar_4cfef : List (Nat × Instr × Nat × Nat) := [(0, .iload_n 1, 1, 1), (1, .i2b, 1, 2), (2, .istore 4, 2, 4), (4, .iload_n 2, 1, 5), (5, .istore 5, 2, 7), (7, .iload 5, 2, 9), (9, .iload_n 3, 1, 10), (10, .if_icmp .ge 21, 3, 13), (13, .aload_n 0, 1, 14), (14, .iload 5, 2, 16), (16, .baload, 1, 17), (17, .iload 4, 2, 19), (19, .if_icmp .ne 6, 3, 22), (22, .iload 5, 2, 24), (24, .ireturn, 1, 25), (25, .iinc 5 1, 3, 28), (28, .goto (-21), 3, 31), (31, .iconst (-1), 1, 32), (32, .ireturn, 1, 33)]
theorem hJ1_indexOfChar_4cfef : ∀ q ∈ eJ1_indexOfChar_4cfef, decode cJ1_indexOfChar_4cfef q.1 = .ok (q.2.1, q.2.2.1) ∧ q.1 + q.2.2.1 = q.2.2.2 := by decide +kernel
theorem dJ1_indexOfChar_4cfef (i : Nat) {pc : Nat} {ins : Instr} {len pc' : Nat} (hi : eJ1_indexOfChar_4cfef[i]? = some (pc, ins, len, pc')) : q_d cJ1_indexOfChar_4cfef pc ins len pc' := q_dt hJ1_indexOfChar_4cfef i hi
abbrev MJ1_indexOf_4cfef : MM := (yJ1_indexOf_4cfef, cJ1_indexOf_4cfef, 4, some .int)
def eJ1_indexOf_4cfef : List (Nat × Instr × Nat × Nat) := [(0, .iload_n 1, 1, 1), (1, .invokestatic 88, 3, 4), (4, .ifCond .ne 5, 3, 7), (7, .iconst (-1), 1, 8), (8, .ireturn, 1, 9), (9, .iload_n 2, 1, 10), (10, .iconst 0, 1, 11), (11, .invokestatic 92, 3, 14), (14, .istore_n 2, 1, 15), (15, .iload_n 3, 1, 16), (16, .aload_n 0, 1, 17), (17, .arraylength, 1, 18), (18, .invokestatic 38, 3, 21), (21, .istore_n 3, 1, 22), (22, .iload_n 2, 1, 23), (23, .iload_n 3, 1, 24), (24, .if_icmp .lt 5, 3, 27), (27, .iconst (-1), 1, 28), (28, .ireturn, 1, 29), (29, .aload_n 0, 1, 30), (30, .iload_n 1, 1, 31), (31, .iload_n 2, 1, 32), (32, .iload_n 3, 1, 33), (33, .invokestatic 95, 3, 36), (36, .ireturn, 1, 37)]
theorem hJ1_indexOf_4cfef : ∀ q ∈ eJ1_indexOf_4cfef, decode cJ1_indexOf_4cfef q.1 = .ok (q.2.1, q.2.2.1) ∧ q.1 + q.2.2.1 = q.2.2.2 := by decide +kernel
theorem dJ1_indexOf_4cfef (i : Nat) {pc : Nat} {ins : Instr} {len pc' : Nat} (hi : eJ1_indexOf_4cfef[i]? = some (pc, ins, len, pc')) : q_d cJ1_indexOf_4cfef pc ins len pc' := q_dt hJ1_indexOf_4cfef i hi
abbrev MJ0_indexOf_7cf53 : MM := (yJ0_indexOf_7cf53, cJ0_indexOf_7cf53, 3, some .int)
def eJ0_indexOf_7cf53 : List (Nat × Instr × Nat × Nat) := [(0, .aload_n 0, 1, 1), (1, .invokevirtual 492, 3, 4), (4, .ifCond .eq 19, 3, 7), (7, .aload_n 0, 1, 8), (8, .getfield 9, 3, 11), (11, .iload_n 1, 1, 12), (12, .iload_n 2, 1, 13), (13, .aload_n 0, 1, 14), (14, .invokevirtual 505, 3, 17), (17, .invokestatic 637, 3, 20), (20, .goto 16, 3, 23), (23, .aload_n 0, 1, 24), (24, .getfield 9, 3, 27), (27, .iload_n 1, 1, 28), (28, .iload_n 2, 1, 29), (29, .aload_n 0, 1, 30), (30, .invokevirtual 505, 3, 33), (33, .invokestatic 640, 3, 36), (36, .ireturn, 1, 37)]
theorem hJ0_indexOf_7cf53 : ∀ q ∈ eJ0_indexOf_7cf53, decode cJ0_indexOf_7cf53 q.1 = .ok (q.2.1, q.2.2.1) ∧ q.1 + q.2.2.1 = q.2.2.2 := by decide +kernel
theorem dJ0_indexOf_7cf53 (i : Nat) {pc : Nat} {ins : Instr} {len pc' : Nat} (hi : eJ0_indexOf_7cf53[i]? = some (pc, ins, len, pc')) : q_d cJ0_indexOf_7cf53 pc ins len pc' := q_dt hJ0_indexOf_7cf53 i hi
abbrev MJ0_indexOf_0f7a4 : MM := (yJ0_indexOf_0f7a4, cJ0_indexOf_0f7a4, 2, some .int)
def eJ0_indexOf_0f7a4 : List (Nat × Instr × Nat × Nat) := [(0, .aload_n 0, 1, 1), (1, .iload_n 1, 1, 2), (2, .iconst 0, 1, 3), (3, .invokevirtual 633, 3, 6), (6, .ireturn, 1, 7)]
theorem hJ0_indexOf_0f7a4 : ∀ q ∈ eJ0_indexOf_0f7a4, decode cJ0_indexOf_0f7a4 q.1 = .ok (q.2.1, q.2.2.1) ∧ q.1 + q.2.2.1 = q.2.2.2 := by decide +kernel
theorem dJ0_indexOf_0f7a4 (i : Nat) {pc : Nat} {ins : Instr} {len pc' : Nat} (hi : eJ0_indexOf_0f7a4[i]? = some (pc, ins, len, pc')) : q_d cJ0_indexOf_0f7a4 pc ins len pc' := q_dt hJ0_indexOf_0f7a4 i hi
abbrev MX5_tokenOf : MM := (yX5_tokenOf, cX5_tokenOf, 4, some .int)
def eX5_tokenOf : List (Nat × Instr × Nat × Nat) := [(0, .aload_n 0, 1, 1), (1, .getfield 9, 3, 4), (4, .iload_n 1, 1, 5), (5, .invokestatic 29, 3, 8), (8, .istore_n 3, 1, 9), (9, .iload_n 3, 1, 10), (10, .invokestatic 49, 3, 13), (13, .ifCond .eq 10, 3, 16), (16, .aload_n 0, 1, 17), (17, .iload_n 1, 1, 18), (18, .iload_n 2, 1, 19), (19, .invokevirtual 55, 3, 22), (22, .ireturn, 1, 23), (23, .iload_n 3, 1, 24), (24, .invokestatic 52, 3, 27), (27, .ifCond .eq 25, 3, 30), (30, .iload_n 2, 1, 31), (31, .iload_n 1, 1, 32), (32, .isub, 1, 33), (33, .iconst 4, 1, 34), (34, .if_icmp .le 7, 3, 37), (37, .iconst 1, 1, 38), (38, .goto 13, 3, 41), (41, .sipush 1000, 3, 44), (44, .aload_n 0, 1, 45), (45, .iload_n 1, 1, 46), (46, .iload_n 2, 1, 47), (47, .invokevirtual 58, 3, 50), (50, .iadd, 1, 51), (51, .ireturn, 1, 52), (52, .ldc 61, 2, 54), (54, .iload_n 3, 1, 55), (55, .i2c, 1, 56), (56, .invokevirtual 63, 3, 59), (59, .ifCond .lt 7, 3, 62), (62, .iload_n 3, 1, 63), (63, .goto 4, 3, 66), (66, .iconst 1, 1, 67), (67, .ireturn, 1, 68)]
theorem hX5_tokenOf : ∀ q ∈ eX5_tokenOf, decode cX5_tokenOf q.1 = .ok (q.2.1, q.2.2.1) ∧ q.1 + q.2.2.1 = q.2.2.2 := by decide +kernel
theorem dX5_tokenOf (i : Nat) {pc : Nat} {ins : Instr} {len pc' : Nat} (hi : eX5_tokenOf[i]? = some (pc, ins, len, pc')) : q_d cX5_tokenOf pc ins len pc' := q_dt hX5_tokenOf i hi
abbrev MX5_cut : MM := (yX5_cut, cX5_cut, 4, none)
def eX5_cut : List (Nat × Instr × Nat × Nat) := [(0, .iconst 0, 1, 1), (1, .istore_n 1, 1, 2), (2, .iconst 0, 1, 3), (3, .istore_n 2, 1, 4), (4, .iconst 0, 1, 5), (5, .istore_n 3, 1, 6), (6, .iload_n 3, 1, 7), (7, .aload_n 0, 1, 8), (8, .getfield 21, 3, 11), (11, .if_icmp .ge 60, 3, 14), (14, .iload_n 3, 1, 15), (15, .iload_n 2, 1, 16), (16, .if_icmp .lt 49, 3, 19), (19, .aload_n 0, 1, 20), (20, .getfield 9, 3, 23), (23, .iload_n 3, 1, 24), (24, .invokestatic 29, 3, 27), (27, .invokestatic 33, 3, 30), (30, .ifCond .ne 35, 3, 33), (33, .aload_n 0, 1, 34), (34, .iload_n 3, 1, 35), (35, .invokevirtual 37, 3, 38), (38, .istore_n 2, 1, 39), (39, .aload_n 0, 1, 40), (40, .getfield 15, 3, 43), (43, .iload_n 1, 1, 44), (44, .aload_n 0, 1, 45), (45, .iload_n 3, 1, 46), (46, .iload_n 2, 1, 47), (47, .invokevirtual 41, 3, 50), (50, .invokestatic 25, 3, 53), (53, .aload_n 0, 1, 54), (54, .getfield 18, 3, 57), (57, .iload_n 1, 1, 58), (58, .iload_n 3, 1, 59), (59, .invokestatic 25, 3, 62), (62, .iinc 1 1, 3, 65), (65, .iinc 3 1, 3, 68), (68, .goto (-62), 3, 71), (71, .aload_n 0, 1, 72), (72, .getfield 15, 3, 75), (75, .iload_n 1, 1, 76), (76, .iconst 0, 1, 77), (77, .invokestatic 25, 3, 80), (80, .aload_n 0, 1, 81), (81, .getfield 18, 3, 84), (84, .iload_n 1, 1, 85), (85, .aload_n 0, 1, 86), (86, .getfield 21, 3, 89), (89, .invokestatic 25, 3, 92), (92, .return_, 1, 93)]
theorem hX5_cut : ∀ q ∈ eX5_cut, decode cX5_cut q.1 = .ok (q.2.1, q.2.2.1) ∧ q.1 + q.2.2.1 = q.2.2.2 := by decide +kernel
theorem dX5_cut (i : Nat) {pc : Nat} {ins : Instr} {len pc' : Nat} (hi : eX5_cut[i]? = some (pc, ins, len, pc')) : q_d cX5_cut pc ins len pc' := q_dt hX5_cut i hi
abbrev MX6_token : MM := (yX6_token, cX6_token, 1, some .int)
def eX6_token : List (Nat × Instr × Nat × Nat) := [(0, .aload_n 0, 1, 1), (1, .getfield 12, 3, 4), (4, .getfield 90, 3, 7), (7, .aload_n 0, 1, 8), (8, .getfield 53, 3, 11), (11, .invokestatic 72, 3, 14), (14, .ireturn, 1, 15)]
theorem hX6_token : ∀ q ∈ eX6_token, decode cX6_token q.1 = .ok (q.2.1, q.2.2.1) ∧ q.1 + q.2.2.1 = q.2.2.2 := by decide +kernel
theorem dX6_token (i : Nat) {pc : Nat} {ins : Instr} {len pc' : Nat} (hi : eX6_token[i]? = some (pc, ins, len, pc')) : q_d cX6_token pc ins len pc' := q_dt hX6_token i hi
abbrev MX6_pass : MM := (yX6_pass, cX6_pass, 2, some .boolean)
def eX6_pass : List (Nat × Instr × Nat × Nat) := [(0, .aload_n 0, 1, 1), (1, .invokevirtual 63, 3, 4), (4, .iload_n 1, 1, 5), (5, .if_icmp .eq 5, 3, 8), (8, .iconst 0, 1, 9), (9, .ireturn, 1, 10), (10, .aload_n 0, 1, 11), (11, .dup, 1, 12), (12, .getfield 53, 3, 15), (15, .iconst 1, 1, 16), (16, .iadd, 1, 17), (17, .putfield 53, 3, 20), (20, .iconst 1, 1, 21), (21, .ireturn, 1, 22)]
theorem hX6_pass : ∀ q ∈ eX6_pass, decode cX6_pass q.1 = .ok (q.2.1, q.2.2.1) ∧ q.1 + q.2.2.1 = q.2.2.2 := by decide +kernel
theorem dX6_pass (i : Nat) {pc : Nat} {ins : Instr} {len pc' : Nat} (hi : eX6_pass[i]? = some (pc, ins, len, pc')) : q_d cX6_pass pc ins len pc' := q_dt hX6_pass i hi
abbrev MX6_write : MM := (yX6_write, cX6_write, 2, none)
def eX6_write : List (Nat × Instr × Nat × Nat) := [(0, .aload_n 0, 1, 1), (1, .getfield 18, 3, 4), (4, .aload_n 0, 1, 5), (5, .getfield 76, 3, 8), (8, .sipush 160, 3, 11), (11, .imul, 1, 12), (12, .aload_n 0, 1, 13), (13, .getfield 50, 3, 16), (16, .iadd, 1, 17), (17, .iload_n 1, 1, 18), (18, .invokestatic 86, 3, 21), (21, .aload_n 0, 1, 22), (22, .dup, 1, 23), (23, .getfield 50, 3, 26), (26, .iconst 1, 1, 27), (27, .iadd, 1, 28), (28, .putfield 50, 3, 31), (31, .return_, 1, 32)]
theorem hX6_write : ∀ q ∈ eX6_write, decode cX6_write q.1 = .ok (q.2.1, q.2.2.1) ∧ q.1 + q.2.2.1 = q.2.2.2 := by decide +kernel
theorem dX6_write (i : Nat) {pc : Nat} {ins : Instr} {len pc' : Nat} (hi : eX6_write[i]? = some (pc, ins, len, pc')) : q_d cX6_write pc ins len pc' := q_dt hX6_write i hi
abbrev MX6_readBoth : MM := (yX6_readBoth, cX6_readBoth, 3, some .boolean)
def eX6_readBoth : List (Nat × Instr × Nat × Nat) := [(0, .aload_n 0, 1, 1), (1, .iload_n 1, 1, 2), (2, .invokevirtual 99, 3, 5), (5, .ifCond .ne 5, 3, 8), (8, .iconst 0, 1, 9), (9, .ireturn, 1, 10), (10, .iconst 0, 1, 11), (11, .istore_n 2, 1, 12), (12, .iload_n 2, 1, 13), (13, .sipush 160, 3, 16), (16, .if_icmp .ge 36, 3, 19), (19, .aload_n 0, 1, 20), (20, .sipush 260, 3, 23), (23, .invokevirtual 79, 3, 26), (26, .ifCond .eq 26, 3, 29), (29, .aload_n 0, 1, 30), (30, .iload_n 1, 1, 31), (31, .invokevirtual 99, 3, 34), (34, .ifCond .ne 5, 3, 37), (37, .iconst 0, 1, 38), (38, .ireturn, 1, 39), (39, .aload_n 0, 1, 40), (40, .sipush 260, 3, 43), (43, .invokevirtual 96, 3, 46), (46, .iinc 2 1, 3, 49), (49, .goto (-37), 3, 52), (52, .iconst 1, 1, 53), (53, .ireturn, 1, 54)]
theorem hX6_readBoth : ∀ q ∈ eX6_readBoth, decode cX6_readBoth q.1 = .ok (q.2.1, q.2.2.1) ∧ q.1 + q.2.2.1 = q.2.2.2 := by decide +kernel
theorem dX6_readBoth (i : Nat) {pc : Nat} {ins : Instr} {len pc' : Nat} (hi : eX6_readBoth[i]? = some (pc, ins, len, pc')) : q_d cX6_readBoth pc ins len pc' := q_dt hX6_readBoth i hi
abbrev MX6_readEither : MM := (yX6_readEither, cX6_readEither, 3, some .boolean)
def eX6_readEither : List (Nat × Instr × Nat × Nat) := [(0, .aload_n 0, 1, 1), (1, .iload_n 1, 1, 2), (2, .invokevirtual 93, 3, 5), (5, .ifCond .ne 5, 3, 8), (8, .iconst 0, 1, 9), (9, .ireturn, 1, 10), (10, .iconst 0, 1, 11), (11, .istore_n 2, 1, 12), (12, .iload_n 2, 1, 13), (13, .sipush 160, 3, 16), (16, .if_icmp .ge 36, 3, 19), (19, .aload_n 0, 1, 20), (20, .sipush 259, 3, 23), (23, .invokevirtual 79, 3, 26), (26, .ifCond .eq 26, 3, 29), (29, .aload_n 0, 1, 30), (30, .iload_n 1, 1, 31), (31, .invokevirtual 93, 3, 34), (34, .ifCond .ne 5, 3, 37), (37, .iconst 0, 1, 38), (38, .ireturn, 1, 39), (39, .aload_n 0, 1, 40), (40, .sipush 259, 3, 43), (43, .invokevirtual 96, 3, 46), (46, .iinc 2 1, 3, 49), (49, .goto (-37), 3, 52), (52, .iconst 1, 1, 53), (53, .ireturn, 1, 54)]
theorem hX6_readEither : ∀ q ∈ eX6_readEither, decode cX6_readEither q.1 = .ok (q.2.1, q.2.2.1) ∧ q.1 + q.2.2.1 = q.2.2.2 := by decide +kernel
theorem dX6_readEither (i : Nat) {pc : Nat} {ins : Instr} {len pc' : Nat} (hi : eX6_readEither[i]? = some (pc, ins, len, pc')) : q_d cX6_readEither pc ins len pc' := q_dt hX6_readEither i hi
abbrev MX6_readTerm : MM := (yX6_readTerm, cX6_readTerm, 3, some .boolean)
def eX6_readTerm : List (Nat × Instr × Nat × Nat) := [(0, .aload_n 0, 1, 1), (1, .iload_n 1, 1, 2), (2, .invokevirtual 111, 3, 5), (5, .ifCond .ne 5, 3, 8), (8, .iconst 0, 1, 9), (9, .ireturn, 1, 10), (10, .iconst 0, 1, 11), (11, .istore_n 2, 1, 12), (12, .iload_n 2, 1, 13), (13, .sipush 160, 3, 16), (16, .if_icmp .ge 34, 3, 19), (19, .aload_n 0, 1, 20), (20, .bipush 42, 2, 22), (22, .invokevirtual 79, 3, 25), (25, .ifCond .eq 25, 3, 28), (28, .aload_n 0, 1, 29), (29, .iload_n 1, 1, 30), (30, .invokevirtual 111, 3, 33), (33, .ifCond .ne 5, 3, 36), (36, .iconst 0, 1, 37), (37, .ireturn, 1, 38), (38, .aload_n 0, 1, 39), (39, .bipush 42, 2, 41), (41, .invokevirtual 96, 3, 44), (44, .iinc 2 1, 3, 47), (47, .goto (-35), 3, 50), (50, .iconst 1, 1, 51), (51, .ireturn, 1, 52)]
theorem hX6_readTerm : ∀ q ∈ eX6_readTerm, decode cX6_readTerm q.1 = .ok (q.2.1, q.2.2.1) ∧ q.1 + q.2.2.1 = q.2.2.2 := by decide +kernel
theorem dX6_readTerm (i : Nat) {pc : Nat} {ins : Instr} {len pc' : Nat} (hi : eX6_readTerm[i]? = some (pc, ins, len, pc')) : q_d cX6_readTerm pc ins len pc' := q_dt hX6_readTerm i hi
abbrev MX6_readSum : MM := (yX6_readSum, cX6_readSum, 4, some .boolean)
def eX6_readSum : List (Nat × Instr × Nat × Nat) := [(0, .aload_n 0, 1, 1), (1, .iload_n 1, 1, 2), (2, .invokevirtual 108, 3, 5), (5, .ifCond .ne 5, 3, 8), (8, .iconst 0, 1, 9), (9, .ireturn, 1, 10), (10, .iconst 0, 1, 11), (11, .istore_n 2, 1, 12), (12, .iload_n 2, 1, 13), (13, .sipush 160, 3, 16), (16, .if_icmp .ge 57, 3, 19), (19, .aload_n 0, 1, 20), (20, .invokevirtual 63, 3, 23), (23, .bipush 43, 2, 25), (25, .if_icmp .eq 12, 3, 28), (28, .aload_n 0, 1, 29), (29, .invokevirtual 63, 3, 32), (32, .bipush 45, 2, 34), (34, .if_icmp .ne 39, 3, 37), (37, .aload_n 0, 1, 38), (38, .invokevirtual 63, 3, 41), (41, .istore_n 3, 1, 42), (42, .aload_n 0, 1, 43), (43, .dup, 1, 44), (44, .getfield 53, 3, 47), (47, .iconst 1, 1, 48), (48, .iadd, 1, 49), (49, .putfield 53, 3, 52), (52, .aload_n 0, 1, 53), (53, .iload_n 1, 1, 54), (54, .invokevirtual 108, 3, 57), (57, .ifCond .ne 5, 3, 60), (60, .iconst 0, 1, 61), (61, .ireturn, 1, 62), (62, .aload_n 0, 1, 63), (63, .iload_n 3, 1, 64), (64, .invokevirtual 96, 3, 67), (67, .iinc 2 1, 3, 70), (70, .goto (-58), 3, 73), (73, .iconst 1, 1, 74), (74, .ireturn, 1, 75)]
theorem hX6_readSum : ∀ q ∈ eX6_readSum, decode cX6_readSum q.1 = .ok (q.2.1, q.2.2.1) ∧ q.1 + q.2.2.1 = q.2.2.2 := by decide +kernel
theorem dX6_readSum (i : Nat) {pc : Nat} {ins : Instr} {len pc' : Nat} (hi : eX6_readSum[i]? = some (pc, ins, len, pc')) : q_d cX6_readSum pc ins len pc' := q_dt hX6_readSum i hi
abbrev MX6_readCompared : MM := (yX6_readCompared, cX6_readCompared, 3, some .boolean)
def eX6_readCompared : List (Nat × Instr × Nat × Nat) := [(0, .aload_n 0, 1, 1), (1, .iload_n 1, 1, 2), (2, .invokevirtual 105, 3, 5), (5, .ifCond .ne 5, 3, 8), (8, .iconst 0, 1, 9), (9, .ireturn, 1, 10), (10, .aload_n 0, 1, 11), (11, .invokevirtual 63, 3, 14), (14, .istore_n 2, 1, 15), (15, .iload_n 2, 1, 16), (16, .bipush 60, 2, 18), (18, .if_icmp .eq 11, 3, 21), (21, .iload_n 2, 1, 22), (22, .bipush 61, 2, 24), (24, .if_icmp .eq 5, 3, 27), (27, .iconst 1, 1, 28), (28, .ireturn, 1, 29), (29, .aload_n 0, 1, 30), (30, .dup, 1, 31), (31, .getfield 53, 3, 34), (34, .iconst 1, 1, 35), (35, .iadd, 1, 36), (36, .putfield 53, 3, 39), (39, .aload_n 0, 1, 40), (40, .iload_n 1, 1, 41), (41, .invokevirtual 105, 3, 44), (44, .ifCond .ne 5, 3, 47), (47, .iconst 0, 1, 48), (48, .ireturn, 1, 49), (49, .aload_n 0, 1, 50), (50, .iload_n 2, 1, 51), (51, .invokevirtual 96, 3, 54), (54, .iconst 1, 1, 55), (55, .ireturn, 1, 56)]
theorem hX6_readCompared : ∀ q ∈ eX6_readCompared, decode cX6_readCompared q.1 = .ok (q.2.1, q.2.2.1) ∧ q.1 + q.2.2.1 = q.2.2.2 := by decide +kernel
theorem dX6_readCompared (i : Nat) {pc : Nat} {ins : Instr} {len pc' : Nat} (hi : eX6_readCompared[i]? = some (pc, ins, len, pc')) : q_d cX6_readCompared pc ins len pc' := q_dt hX6_readCompared i hi
abbrev MX6_readNot : MM := (yX6_readNot, cX6_readNot, 2, some .boolean)
def eX6_readNot : List (Nat × Instr × Nat × Nat) := [(0, .aload_n 0, 1, 1), (1, .invokevirtual 63, 3, 4), (4, .sipush 261, 3, 7), (7, .if_icmp .eq 9, 3, 10), (10, .aload_n 0, 1, 11), (11, .iload_n 1, 1, 12), (12, .invokevirtual 102, 3, 15), (15, .ireturn, 1, 16), (16, .iload_n 1, 1, 17), (17, .iconst 5, 1, 18), (18, .if_icmp .lt 5, 3, 21), (21, .iconst 0, 1, 22), (22, .ireturn, 1, 23), (23, .aload_n 0, 1, 24), (24, .dup, 1, 25), (25, .getfield 53, 3, 28), (28, .iconst 1, 1, 29), (29, .iadd, 1, 30), (30, .putfield 53, 3, 33), (33, .aload_n 0, 1, 34), (34, .iload_n 1, 1, 35), (35, .iconst 1, 1, 36), (36, .iadd, 1, 37), (37, .invokevirtual 99, 3, 40), (40, .ifCond .ne 5, 3, 43), (43, .iconst 0, 1, 44), (44, .ireturn, 1, 45), (45, .aload_n 0, 1, 46), (46, .sipush 261, 3, 49), (49, .invokevirtual 96, 3, 52), (52, .iconst 1, 1, 53), (53, .ireturn, 1, 54)]
theorem hX6_readNot : ∀ q ∈ eX6_readNot, decode cX6_readNot q.1 = .ok (q.2.1, q.2.2.1) ∧ q.1 + q.2.2.1 = q.2.2.2 := by decide +kernel
theorem dX6_readNot (i : Nat) {pc : Nat} {ins : Instr} {len pc' : Nat} (hi : eX6_readNot[i]? = some (pc, ins, len, pc')) : q_d cX6_readNot pc ins len pc' := q_dt hX6_readNot i hi
abbrev MX6_readOne : MM := (yX6_readOne, cX6_readOne, 3, some .boolean)
def eX6_readOne_0 : List (Nat × Instr × Nat × Nat) := [(0, .aload_n 0, 1, 1), (1, .invokevirtual 63, 3, 4), (4, .istore_n 2, 1, 5), (5, .iload_n 2, 1, 6), (6, .sipush 300, 3, 9), (9, .if_icmp .lt 20, 3, 12), (12, .aload_n 0, 1, 13), (13, .dup, 1, 14), (14, .getfield 53, 3, 17), (17, .iconst 1, 1, 18), (18, .iadd, 1, 19), (19, .putfield 53, 3, 22), (22, .aload_n 0, 1, 23), (23, .iload_n 2, 1, 24), (24, .invokevirtual 96, 3, 27), (27, .iconst 1, 1, 28), (28, .ireturn, 1, 29), (29, .iload_n 2, 1, 30), (30, .bipush 45, 2, 32), (32, .if_icmp .eq 9, 3, 35), (35, .iload_n 2, 1, 36), (36, .bipush 40, 2, 38), (38, .if_icmp .ne 8, 3, 41), (41, .iload_n 1, 1, 42), (42, .iconst 5, 1, 43), (43, .if_icmp .lt 5, 3, 46), (46, .iconst 0, 1, 47), (47, .ireturn, 1, 48), (48, .aload_n 0, 1, 49), (49, .dup, 1, 50), (50, .getfield 53, 3, 53), (53, .iconst 1, 1, 54), (54, .iadd, 1, 55), (55, .putfield 53, 3, 58), (58, .iload_n 2, 1, 59), (59, .bipush 40, 2, 61), (61, .if_icmp .ne 28, 3, 64), (64, .aload_n 0, 1, 65), (65, .iload_n 1, 1, 66), (66, .iconst 1, 1, 67), (67, .iadd, 1, 68), (68, .invokevirtual 83, 3, 71), (71, .ifCond .eq 16, 3, 74), (74, .aload_n 0, 1, 75), (75, .bipush 41, 2, 77), (77, .invokevirtual 79, 3, 80), (80, .ifCond .eq 7, 3, 83), (83, .iconst 1, 1, 84), (84, .goto 4, 3, 87), (87, .iconst 0, 1, 88), (88, .ireturn, 1, 89), (89, .aload_n 0, 1, 90), (90, .iload_n 1, 1, 91), (91, .iconst 1, 1, 92), (92, .iadd, 1, 93), (93, .invokevirtual 111, 3, 96), (96, .ifCond .ne 5, 3, 99), (99, .iconst 0, 1, 100), (100, .ireturn, 1, 101), (101, .aload_n 0, 1, 102)]
theorem hX6_readOne_0 : ∀ q ∈ eX6_readOne_0, decode cX6_readOne q.1 = .ok (q.2.1, q.2.2.1) ∧ q.1 + q.2.2.1 = q.2.2.2 := by decide +kernel
theorem dX6_readOne_0 (i : Nat) {pc : Nat} {ins : Instr} {len pc' : Nat} (hi : eX6_readOne_0[i]? = some (pc, ins, len, pc')) : q_d cX6_readOne pc ins len pc' := q_dt hX6_readOne_0 i hi
def eX6_readOne_1 : List (Nat × Instr × Nat × Nat) := [(102, .sipush 262, 3, 105), (105, .invokevirtual 96, 3, 108), (108, .iconst 1, 1, 109), (109, .ireturn, 1, 110)]
theorem hX6_readOne_1 : ∀ q ∈ eX6_readOne_1, decode cX6_readOne q.1 = .ok (q.2.1, q.2.2.1) ∧ q.1 + q.2.2.1 = q.2.2.2 := by decide +kernel
theorem dX6_readOne_1 (i : Nat) {pc : Nat} {ins : Instr} {len pc' : Nat} (hi : eX6_readOne_1[i]? = some (pc, ins, len, pc')) : q_d cX6_readOne pc ins len pc' := q_dt hX6_readOne_1 i hi
abbrev MX6_readPart : MM := (yX6_readPart, cX6_readPart, 3, some .boolean)
def eX6_readPart : List (Nat × Instr × Nat × Nat) := [(0, .aload_n 0, 1, 1), (1, .iload_n 1, 1, 2), (2, .invokevirtual 79, 3, 5), (5, .ifCond .eq 20, 3, 8), (8, .aload_n 0, 1, 9), (9, .iconst 0, 1, 10), (10, .invokevirtual 83, 3, 13), (13, .ifCond .eq 12, 3, 16), (16, .aload_n 0, 1, 17), (17, .bipush 59, 2, 19), (19, .invokevirtual 79, 3, 22), (22, .ifCond .ne 5, 3, 25), (25, .iconst 0, 1, 26), (26, .ireturn, 1, 27), (27, .aload_n 0, 1, 28), (28, .getfield 22, 3, 31), (31, .aload_n 0, 1, 32), (32, .getfield 76, 3, 35), (35, .iconst 3, 1, 36), (36, .imul, 1, 37), (37, .iload_n 2, 1, 38), (38, .iadd, 1, 39), (39, .aload_n 0, 1, 40), (40, .getfield 50, 3, 43), (43, .invokestatic 86, 3, 46), (46, .iconst 1, 1, 47), (47, .ireturn, 1, 48)]
theorem hX6_readPart : ∀ q ∈ eX6_readPart, decode cX6_readPart q.1 = .ok (q.2.1, q.2.2.1) ∧ q.1 + q.2.2.1 = q.2.2.2 := by decide +kernel
theorem dX6_readPart (i : Nat) {pc : Nat} {ins : Instr} {len pc' : Nat} (hi : eX6_readPart[i]? = some (pc, ins, len, pc')) : q_d cX6_readPart pc ins len pc' := q_dt hX6_readPart i hi
abbrev MX6_read : MM := (yX6_read, cX6_read, 2, some .int)
def eX6_read : List (Nat × Instr × Nat × Nat) := [(0, .aload_n 0, 1, 1), (1, .iconst 0, 1, 2), (2, .putfield 50, 3, 5), (5, .aload_n 0, 1, 6), (6, .iconst 0, 1, 7), (7, .putfield 53, 3, 10), (10, .aload_n 0, 1, 11), (11, .getfield 12, 3, 14), (14, .invokevirtual 56, 3, 17), (17, .aload_n 0, 1, 18), (18, .sipush 256, 3, 21), (21, .iconst 0, 1, 22), (22, .invokevirtual 59, 3, 25), (25, .ifCond .eq 36, 3, 28), (28, .aload_n 0, 1, 29), (29, .sipush 257, 3, 32), (32, .iconst 1, 1, 33), (33, .invokevirtual 59, 3, 36), (36, .ifCond .eq 25, 3, 39), (39, .aload_n 0, 1, 40), (40, .sipush 258, 3, 43), (43, .iconst 2, 1, 44), (44, .invokevirtual 59, 3, 47), (47, .ifCond .eq 14, 3, 50), (50, .aload_n 0, 1, 51), (51, .invokevirtual 63, 3, 54), (54, .ifCond .ne 7, 3, 57), (57, .iconst 1, 1, 58), (58, .goto 4, 3, 61), (61, .iconst 0, 1, 62), (62, .istore_n 1, 1, 63), (63, .aload_n 0, 1, 64), (64, .getfield 12, 3, 67), (67, .invokevirtual 66, 3, 70), (70, .iload_n 1, 1, 71), (71, .ifCond .ne 18, 3, 74), (74, .aload_n 0, 1, 75), (75, .getfield 12, 3, 78), (78, .getfield 69, 3, 81), (81, .aload_n 0, 1, 82), (82, .getfield 53, 3, 85), (85, .invokestatic 72, 3, 88), (88, .ireturn, 1, 89), (89, .aload_n 0, 1, 90), (90, .dup, 1, 91), (91, .getfield 76, 3, 94), (94, .iconst 1, 1, 95), (95, .iadd, 1, 96), (96, .putfield 76, 3, 99), (99, .iconst (-1), 1, 100), (100, .ireturn, 1, 101)]
theorem hX6_read : ∀ q ∈ eX6_read, decode cX6_read q.1 = .ok (q.2.1, q.2.2.1) ∧ q.1 + q.2.2.1 = q.2.2.2 := by decide +kernel
theorem dX6_read (i : Nat) {pc : Nat} {ins : Instr} {len pc' : Nat} (hi : eX6_read[i]? = some (pc, ins, len, pc')) : q_d cX6_read pc ins len pc' := q_dt hX6_read i hi
abbrev MJ6_numberOfTrailingZeros_0f7a4 : MM := (yJ6_numberOfTrailingZeros_0f7a4, cJ6_numberOfTrailingZeros_0f7a4, 2, some .int)
def eJ6_numberOfTrailingZeros_0f7a4 : List (Nat × Instr × Nat × Nat) := [(0, .iload_n 0, 1, 1), (1, .iconst (-1), 1, 2), (2, .ixor, 1, 3), (3, .iload_n 0, 1, 4), (4, .iconst 1, 1, 5), (5, .isub, 1, 6), (6, .iand, 1, 7), (7, .istore_n 0, 1, 8), (8, .iload_n 0, 1, 9), (9, .ifCond .gt 8, 3, 12), (12, .iload_n 0, 1, 13), (13, .bipush 32, 2, 15), (15, .iand, 1, 16), (16, .ireturn, 1, 17), (17, .iconst 1, 1, 18), (18, .istore_n 1, 1, 19), (19, .iload_n 0, 1, 20), (20, .ldc_w 264, 3, 23), (23, .if_icmp .le 11, 3, 26), (26, .iinc 1 16, 3, 29), (29, .iload_n 0, 1, 30), (30, .bipush 16, 2, 32), (32, .iushr, 1, 33), (33, .istore_n 0, 1, 34), (34, .iload_n 0, 1, 35), (35, .sipush 256, 3, 38), (38, .if_icmp .le 11, 3, 41), (41, .iinc 1 8, 3, 44), (44, .iload_n 0, 1, 45), (45, .bipush 8, 2, 47), (47, .iushr, 1, 48), (48, .istore_n 0, 1, 49), (49, .iload_n 0, 1, 50), (50, .bipush 16, 2, 52), (52, .if_icmp .le 10, 3, 55), (55, .iinc 1 4, 3, 58), (58, .iload_n 0, 1, 59), (59, .iconst 4, 1, 60), (60, .iushr, 1, 61), (61, .istore_n 0, 1, 62), (62, .iload_n 0, 1, 63), (63, .iconst 4, 1, 64), (64, .if_icmp .le 10, 3, 67), (67, .iinc 1 2, 3, 70), (70, .iload_n 0, 1, 71), (71, .iconst 2, 1, 72), (72, .iushr, 1, 73), (73, .istore_n 0, 1, 74), (74, .iload_n 1, 1, 75), (75, .iload_n 0, 1, 76), (76, .iconst 1, 1, 77), (77, .iushr, 1, 78), (78, .iadd, 1, 79), (79, .ireturn, 1, 80)]
theorem hJ6_numberOfTrailingZeros_0f7a4 : ∀ q ∈ eJ6_numberOfTrailingZeros_0f7a4, decode cJ6_numberOfTrailingZeros_0f7a4 q.1 = .ok (q.2.1, q.2.2.1) ∧ q.1 + q.2.2.1 = q.2.2.2 := by decide +kernel
theorem dJ6_numberOfTrailingZeros_0f7a4 (i : Nat) {pc : Nat} {ins : Instr} {len pc' : Nat} (hi : eJ6_numberOfTrailingZeros_0f7a4[i]? = some (pc, ins, len, pc')) : q_d cJ6_numberOfTrailingZeros_0f7a4 pc ins len pc' := q_dt hJ6_numberOfTrailingZeros_0f7a4 i hi
abbrev MX7_member : MM := (yX7_member, cX7_member, 4, some .int)
def eX7_member : List (Nat × Instr × Nat × Nat) := [(0, .iload_n 0, 1, 1), (1, .istore_n 2, 1, 2), (2, .iconst 0, 1, 3), (3, .istore_n 3, 1, 4), (4, .iload_n 3, 1, 5), (5, .iload_n 1, 1, 6), (6, .if_icmp .ge 15, 3, 9), (9, .iload_n 2, 1, 10), (10, .iload_n 2, 1, 11), (11, .iconst 1, 1, 12), (12, .isub, 1, 13), (13, .iand, 1, 14), (14, .istore_n 2, 1, 15), (15, .iinc 3 1, 3, 18), (18, .goto (-14), 3, 21), (21, .iload_n 2, 1, 22), (22, .invokestatic 39, 3, 25), (25, .ireturn, 1, 26)]
theorem hX7_member : ∀ q ∈ eX7_member, decode cX7_member q.1 = .ok (q.2.1, q.2.2.1) ∧ q.1 + q.2.2.1 = q.2.2.2 := by decide +kernel
theorem dX7_member (i : Nat) {pc : Nat} {ins : Instr} {len pc' : Nat} (hi : eX7_member[i]? = some (pc, ins, len, pc')) : q_d cX7_member pc ins len pc' := q_dt hX7_member i hi
abbrev MX7_spell : MM := (yX7_spell, cX7_spell, 7, none)
def eX7_spell : List (Nat × Instr × Nat × Nat) := [(0, .iload_n 1, 1, 1), (1, .istore_n 2, 1, 2), (2, .bipush 63, 2, 4), (4, .istore_n 3, 1, 5), (5, .iconst 0, 1, 6), (6, .istore 4, 2, 8), (8, .iload 4, 2, 10), (10, .bipush 6, 2, 12), (12, .if_icmp .ge 63, 3, 15), (15, .iconst 1, 1, 16), (16, .getstatic 19, 3, 19), (19, .iload 4, 2, 21), (21, .invokestatic 22, 3, 24), (24, .invokestatic 26, 3, 27), (27, .istore 5, 2, 29), (29, .iload_n 3, 1, 30), (30, .iload_n 2, 1, 31), (31, .iload 5, 2, 33), (33, .idiv, 1, 34), (34, .invokestatic 32, 3, 37), (37, .istore 6, 2, 39), (39, .aload_n 0, 1, 40), (40, .getfield 9, 3, 43), (43, .iload_n 1, 1, 44), (44, .bipush 6, 2, 46), (46, .imul, 1, 47), (47, .iload 4, 2, 49), (49, .iadd, 1, 50), (50, .iload 6, 2, 52), (52, .invokestatic 35, 3, 55), (55, .iload_n 3, 1, 56), (56, .iconst 1, 1, 57), (57, .iload 6, 2, 59), (59, .ishl, 1, 60), (60, .iconst (-1), 1, 61), (61, .ixor, 1, 62), (62, .iand, 1, 63), (63, .istore_n 3, 1, 64), (64, .iload_n 2, 1, 65), (65, .iload 5, 2, 67), (67, .irem, 1, 68), (68, .istore_n 2, 1, 69), (69, .iinc 4 1, 3, 72), (72, .goto (-64), 3, 75), (75, .return_, 1, 76)]
theorem hX7_spell : ∀ q ∈ eX7_spell, decode cX7_spell q.1 = .ok (q.2.1, q.2.2.1) ∧ q.1 + q.2.2.1 = q.2.2.2 := by decide +kernel
theorem dX7_spell (i : Nat) {pc : Nat} {ins : Instr} {len pc' : Nat} (hi : eX7_spell[i]? = some (pc, ins, len, pc')) : q_d cX7_spell pc ins len pc' := q_dt hX7_spell i hi
abbrev MX8_offer : MM := (yX8_offer, cX8_offer, 4, none)
def eX8_offer : List (Nat × Instr × Nat × Nat) := [(0, .aload_n 0, 1, 1), (1, .getfield 9, 3, 4), (4, .iload_n 1, 1, 5), (5, .bipush 10, 2, 7), (7, .imul, 1, 8), (8, .iload_n 2, 1, 9), (9, .iadd, 1, 10), (10, .iload_n 3, 1, 11), (11, .invokestatic 21, 3, 14), (14, .return_, 1, 15)]
theorem hX8_offer : ∀ q ∈ eX8_offer, decode cX8_offer q.1 = .ok (q.2.1, q.2.2.1) ∧ q.1 + q.2.2.1 = q.2.2.2 := by decide +kernel
theorem dX8_offer (i : Nat) {pc : Nat} {ins : Instr} {len pc' : Nat} (hi : eX8_offer[i]? = some (pc, ins, len, pc')) : q_d cX8_offer pc ins len pc' := q_dt hX8_offer i hi
abbrev MX8_keepIfBetter : MM := (yX8_keepIfBetter, cX8_keepIfBetter, 2, none)
def eX8_keepIfBetter : List (Nat × Instr × Nat × Nat) := [(0, .iload_n 1, 1, 1), (1, .aload_n 0, 1, 2), (2, .getfield 25, 3, 5), (5, .if_icmp .le 22, 3, 8), (8, .aload_n 0, 1, 9), (9, .iload_n 1, 1, 10), (10, .putfield 25, 3, 13), (13, .aload_n 0, 1, 14), (14, .getfield 15, 3, 17), (17, .iconst 0, 1, 18), (18, .aload_n 0, 1, 19), (19, .getfield 18, 3, 22), (22, .iconst 0, 1, 23), (23, .iconst 4, 1, 24), (24, .invokestatic 53, 3, 27), (27, .return_, 1, 28)]
theorem hX8_keepIfBetter : ∀ q ∈ eX8_keepIfBetter, decode cX8_keepIfBetter q.1 = .ok (q.2.1, q.2.2.1) ∧ q.1 + q.2.2.1 = q.2.2.2 := by decide +kernel
theorem dX8_keepIfBetter (i : Nat) {pc : Nat} {ins : Instr} {len pc' : Nat} (hi : eX8_keepIfBetter[i]? = some (pc, ins, len, pc')) : q_d cX8_keepIfBetter pc ins len pc' := q_dt hX8_keepIfBetter i hi
abbrev MX8_serve : MM := (yX8_serve, cX8_serve, 9, none)
def eX8_serve_0 : List (Nat × Instr × Nat × Nat) := [(0, .iload_n 1, 1, 1), (1, .iload_n 2, 1, 2), (2, .if_icmp .ge 8, 3, 5), (5, .iload_n 1, 1, 6), (6, .iconst 4, 1, 7), (7, .if_icmp .lt 10, 3, 10), (10, .aload_n 0, 1, 11), (11, .iload 5, 2, 13), (13, .invokevirtual 46, 3, 16), (16, .return_, 1, 17), (17, .aload_n 0, 1, 18), (18, .getfield 15, 3, 21), (21, .iload_n 1, 1, 22), (22, .iconst (-1), 1, 23), (23, .invokestatic 21, 3, 26), (26, .aload_n 0, 1, 27), (27, .iload_n 1, 1, 28), (28, .iconst 1, 1, 29), (29, .iadd, 1, 30), (30, .iload_n 2, 1, 31), (31, .aload_n 3, 1, 32), (32, .iload 4, 2, 34), (34, .iload 5, 2, 36), (36, .invokevirtual 29, 3, 39), (39, .iconst 0, 1, 40), (40, .istore 6, 2, 42), (42, .iload 6, 2, 44), (44, .aload_n 3, 1, 45), (45, .getfield 50, 3, 48), (48, .if_icmp .ge 75, 3, 51), (51, .aload_n 0, 1, 52), (52, .getfield 9, 3, 55), (55, .iload_n 1, 1, 56), (56, .bipush 10, 2, 58), (58, .imul, 1, 59), (59, .iload 6, 2, 61), (61, .iadd, 1, 62), (62, .invokestatic 36, 3, 65), (65, .istore 7, 2, 67), (67, .aload_n 3, 1, 68), (68, .iload 6, 2, 70), (70, .invokevirtual 40, 3, 73), (73, .istore 8, 2, 75), (75, .iload 7, 2, 77), (77, .iconst (-1), 1, 78), (78, .if_icmp .eq 39, 3, 81), (81, .iload 8, 2, 83), (83, .iload 4, 2, 85), (85, .if_icmp .gt 32, 3, 88), (88, .aload_n 0, 1, 89), (89, .getfield 15, 3, 92), (92, .iload_n 1, 1, 93), (93, .iload 6, 2, 95), (95, .invokestatic 21, 3, 98), (98, .aload_n 0, 1, 99), (99, .iload_n 1, 1, 100), (100, .iconst 1, 1, 101), (101, .iadd, 1, 102), (102, .iload_n 2, 1, 103), (103, .aload_n 3, 1, 104)]
theorem hX8_serve_0 : ∀ q ∈ eX8_serve_0, decode cX8_serve q.1 = .ok (q.2.1, q.2.2.1) ∧ q.1 + q.2.2.1 = q.2.2.2 := by decide +kernel
theorem dX8_serve_0 (i : Nat) {pc : Nat} {ins : Instr} {len pc' : Nat} (hi : eX8_serve_0[i]? = some (pc, ins, len, pc')) : q_d cX8_serve pc ins len pc' := q_dt hX8_serve_0 i hi
def eX8_serve_1 : List (Nat × Instr × Nat × Nat) := [(104, .iload 4, 2, 106), (106, .iload 8, 2, 108), (108, .isub, 1, 109), (109, .iload 5, 2, 111), (111, .iload 7, 2, 113), (113, .iadd, 1, 114), (114, .invokevirtual 29, 3, 117), (117, .iinc 6 1, 3, 120), (120, .goto (-78), 3, 123), (123, .return_, 1, 124)]
theorem hX8_serve_1 : ∀ q ∈ eX8_serve_1, decode cX8_serve q.1 = .ok (q.2.1, q.2.2.1) ∧ q.1 + q.2.2.1 = q.2.2.2 := by decide +kernel
theorem dX8_serve_1 (i : Nat) {pc : Nat} {ins : Instr} {len pc' : Nat} (hi : eX8_serve_1[i]? = some (pc, ins, len, pc')) : q_d cX8_serve pc ins len pc' := q_dt hX8_serve_1 i hi
abbrev MX8_plan : MM := (yX8_plan, cX8_plan, 6, none)
def eX8_plan : List (Nat × Instr × Nat × Nat) := [(0, .aload_n 0, 1, 1), (1, .iconst (-1), 1, 2), (2, .putfield 25, 3, 5), (5, .aload_n 0, 1, 6), (6, .iconst 0, 1, 7), (7, .iload_n 1, 1, 8), (8, .aload_n 2, 1, 9), (9, .iload_n 3, 1, 10), (10, .iconst 0, 1, 11), (11, .invokevirtual 29, 3, 14), (14, .aload_n 0, 1, 15), (15, .iconst 0, 1, 16), (16, .putfield 33, 3, 19), (19, .iconst 0, 1, 20), (20, .istore 4, 2, 22), (22, .iload 4, 2, 24), (24, .iload_n 1, 1, 25), (25, .if_icmp .ge 45, 3, 28), (28, .aload_n 0, 1, 29), (29, .getfield 18, 3, 32), (32, .iload 4, 2, 34), (34, .invokestatic 36, 3, 37), (37, .istore 5, 2, 39), (39, .aload_n 0, 1, 40), (40, .dup, 1, 41), (41, .getfield 33, 3, 44), (44, .iload 5, 2, 46), (46, .iconst (-1), 1, 47), (47, .if_icmp .ne 7, 3, 50), (50, .iconst 0, 1, 51), (51, .goto 9, 3, 54), (54, .aload_n 2, 1, 55), (55, .iload 5, 2, 57), (57, .invokevirtual 40, 3, 60), (60, .iadd, 1, 61), (61, .putfield 33, 3, 64), (64, .iinc 4 1, 3, 67), (67, .goto (-45), 3, 70), (70, .return_, 1, 71)]
theorem hX8_plan : ∀ q ∈ eX8_plan, decode cX8_plan q.1 = .ok (q.2.1, q.2.2.1) ∧ q.1 + q.2.2.1 = q.2.2.2 := by decide +kernel
theorem dX8_plan (i : Nat) {pc : Nat} {ins : Instr} {len pc' : Nat} (hi : eX8_plan[i]? = some (pc, ins, len, pc')) : q_d cX8_plan pc ins len pc' := q_dt hX8_plan i hi
abbrev MX9_addLine : MM := (yX9_addLine, cX9_addLine, 3, some .int)
def eX9_addLine : List (Nat × Instr × Nat × Nat) := [(0, .aload_n 0, 1, 1), (1, .iconst 1, 1, 2), (2, .putfield 73, 3, 5), (5, .aload_n 0, 1, 6), (6, .getfield 19, 3, 9), (9, .aload_n 0, 1, 10), (10, .getfield 10, 3, 13), (13, .iload_n 1, 1, 14), (14, .iload_n 2, 1, 15), (15, .invokevirtual 329, 3, 18), (18, .ireturn, 1, 19)]
theorem hX9_addLine : ∀ q ∈ eX9_addLine, decode cX9_addLine q.1 = .ok (q.2.1, q.2.2.1) ∧ q.1 + q.2.2.1 = q.2.2.2 := by decide +kernel
theorem dX9_addLine (i : Nat) {pc : Nat} {ins : Instr} {len pc' : Nat} (hi : eX9_addLine[i]? = some (pc, ins, len, pc')) : q_d cX9_addLine pc ins len pc' := q_dt hX9_addLine i hi
abbrev MX9_line : MM := (yX9_line, cX9_line, 3, some .int)
def eX9_line : List (Nat × Instr × Nat × Nat) := [(0, .iload_n 1, 1, 1), (1, .iload_n 2, 1, 2), (2, .invokestatic 77, 3, 5), (5, .ifCond .ne 6, 3, 8), (8, .bipush (-2), 2, 10), (10, .ireturn, 1, 11), (11, .aload_n 0, 1, 12), (12, .getfield 19, 3, 15), (15, .getfield 81, 3, 18), (18, .bipush 10, 2, 20), (20, .if_icmp .lt 6, 3, 23), (23, .bipush (-4), 2, 25), (25, .ireturn, 1, 26), (26, .aload_n 0, 1, 27), (27, .iload_n 1, 1, 28), (28, .iload_n 2, 1, 29), (29, .invokevirtual 84, 3, 32), (32, .ireturn, 1, 33)]
theorem hX9_line : ∀ q ∈ eX9_line, decode cX9_line q.1 = .ok (q.2.1, q.2.2.1) ∧ q.1 + q.2.2.1 = q.2.2.2 := by decide +kernel
theorem dX9_line (i : Nat) {pc : Nat} {ins : Instr} {len pc' : Nat} (hi : eX9_line[i]? = some (pc, ins, len, pc')) : q_d cX9_line pc ins len pc' := q_dt hX9_line i hi
abbrev MX9_isLine : MM := (yX9_isLine, cX9_isLine, 2, some .boolean)
def eX9_isLine : List (Nat × Instr × Nat × Nat) := [(0, .iload_n 1, 1, 1), (1, .iconst 0, 1, 2), (2, .aload_n 0, 1, 3), (3, .getfield 19, 3, 6), (6, .getfield 81, 3, 9), (9, .iconst 1, 1, 10), (10, .isub, 1, 11), (11, .invokestatic 92, 3, 14), (14, .ireturn, 1, 15)]
theorem hX9_isLine : ∀ q ∈ eX9_isLine, decode cX9_isLine q.1 = .ok (q.2.1, q.2.2.1) ∧ q.1 + q.2.2.1 = q.2.2.2 := by decide +kernel
theorem dX9_isLine (i : Nat) {pc : Nat} {ins : Instr} {len pc' : Nat} (hi : eX9_isLine[i]? = some (pc, ins, len, pc')) : q_d cX9_isLine pc ins len pc' := q_dt hX9_isLine i hi
abbrev MX9_lineTold : MM := (yX9_lineTold, cX9_lineTold, 3, some .int)
def eX9_lineTold : List (Nat × Instr × Nat × Nat) := [(0, .aload_n 0, 1, 1), (1, .iload_n 1, 1, 2), (2, .invokevirtual 88, 3, 5), (5, .ifCond .ne 6, 3, 8), (8, .bipush (-5), 2, 10), (10, .ireturn, 1, 11), (11, .iload_n 2, 1, 12), (12, .iconst 0, 1, 13), (13, .iconst 1, 1, 14), (14, .invokestatic 92, 3, 17), (17, .ifCond .ne 6, 3, 20), (20, .bipush (-7), 2, 22), (22, .ireturn, 1, 23), (23, .iload_n 2, 1, 24), (24, .ifCond .ne 14, 3, 27), (27, .aload_n 0, 1, 28), (28, .getfield 19, 3, 31), (31, .iload_n 1, 1, 32), (32, .invokevirtual 96, 3, 35), (35, .goto 11, 3, 38), (38, .aload_n 0, 1, 39), (39, .getfield 19, 3, 42), (42, .iload_n 1, 1, 43), (43, .invokevirtual 100, 3, 46), (46, .ireturn, 1, 47)]
theorem hX9_lineTold : ∀ q ∈ eX9_lineTold, decode cX9_lineTold q.1 = .ok (q.2.1, q.2.2.1) ∧ q.1 + q.2.2.1 = q.2.2.2 := by decide +kernel
theorem dX9_lineTold (i : Nat) {pc : Nat} {ins : Instr} {len pc' : Nat} (hi : eX9_lineTold[i]? = some (pc, ins, len, pc')) : q_d cX9_lineTold pc ins len pc' := q_dt hX9_lineTold i hi
abbrev MX9_set : MM := (yX9_set, cX9_set, 4, some .int)
def eX9_set : List (Nat × Instr × Nat × Nat) := [(0, .aload_n 0, 1, 1), (1, .iload_n 1, 1, 2), (2, .invokevirtual 88, 3, 5), (5, .ifCond .ne 6, 3, 8), (8, .bipush (-5), 2, 10), (10, .ireturn, 1, 11), (11, .iload_n 2, 1, 12), (12, .iconst 1, 1, 13), (13, .bipush 99, 2, 15), (15, .invokestatic 92, 3, 18), (18, .ifCond .ne 6, 3, 21), (21, .bipush (-7), 2, 23), (23, .ireturn, 1, 24), (24, .aload_n 0, 1, 25), (25, .getfield 19, 3, 28), (28, .iload_n 1, 1, 29), (29, .invokevirtual 100, 3, 32), (32, .istore_n 3, 1, 33), (33, .aload_n 0, 1, 34), (34, .getfield 19, 3, 37), (37, .getfield 103, 3, 40), (40, .iload_n 1, 1, 41), (41, .iload_n 2, 1, 42), (42, .invokestatic 106, 3, 45), (45, .aload_n 0, 1, 46), (46, .iconst 1, 1, 47), (47, .putfield 73, 3, 50), (50, .iload_n 3, 1, 51), (51, .ireturn, 1, 52)]
theorem hX9_set : ∀ q ∈ eX9_set, decode cX9_set q.1 = .ok (q.2.1, q.2.2.1) ∧ q.1 + q.2.2.1 = q.2.2.2 := by decide +kernel
theorem dX9_set (i : Nat) {pc : Nat} {ins : Instr} {len pc' : Nat} (hi : eX9_set[i]? = some (pc, ins, len, pc')) : q_d cX9_set pc ins len pc' := q_dt hX9_set i hi
abbrev MX9_guest : MM := (yX9_guest, cX9_guest, 2, some .int)
def eX9_guest : List (Nat × Instr × Nat × Nat) := [(0, .iload_n 1, 1, 1), (1, .invokestatic 110, 3, 4), (4, .ifCond .ne 6, 3, 7), (7, .bipush (-2), 2, 9), (9, .ireturn, 1, 10), (10, .aload_n 0, 1, 11), (11, .getfield 113, 3, 14), (14, .iconst 4, 1, 15), (15, .if_icmp .lt 6, 3, 18), (18, .bipush (-4), 2, 20), (20, .ireturn, 1, 21), (21, .aload_n 0, 1, 22), (22, .getfield 65, 3, 25), (25, .aload_n 0, 1, 26), (26, .getfield 113, 3, 29), (29, .iload_n 1, 1, 30), (30, .invokestatic 106, 3, 33), (33, .aload_n 0, 1, 34), (34, .dup, 1, 35), (35, .getfield 113, 3, 38), (38, .iconst 1, 1, 39), (39, .iadd, 1, 40), (40, .putfield 113, 3, 43), (43, .aload_n 0, 1, 44), (44, .getfield 113, 3, 47), (47, .iconst 1, 1, 48), (48, .isub, 1, 49), (49, .ireturn, 1, 50)]
theorem hX9_guest : ∀ q ∈ eX9_guest, decode cX9_guest q.1 = .ok (q.2.1, q.2.2.1) ∧ q.1 + q.2.2.1 = q.2.2.2 := by decide +kernel
theorem dX9_guest (i : Nat) {pc : Nat} {ins : Instr} {len pc' : Nat} (hi : eX9_guest[i]? = some (pc, ins, len, pc')) : q_d cX9_guest pc ins len pc' := q_dt hX9_guest i hi
abbrev MX9_isGuest : MM := (yX9_isGuest, cX9_isGuest, 2, some .boolean)
def eX9_isGuest : List (Nat × Instr × Nat × Nat) := [(0, .iload_n 1, 1, 1), (1, .iconst 0, 1, 2), (2, .aload_n 0, 1, 3), (3, .getfield 113, 3, 6), (6, .iconst 1, 1, 7), (7, .isub, 1, 8), (8, .invokestatic 92, 3, 11), (11, .ireturn, 1, 12)]
theorem hX9_isGuest : ∀ q ∈ eX9_isGuest, decode cX9_isGuest q.1 = .ok (q.2.1, q.2.2.1) ∧ q.1 + q.2.2.1 = q.2.2.2 := by decide +kernel
theorem dX9_isGuest (i : Nat) {pc : Nat} {ins : Instr} {len pc' : Nat} (hi : eX9_isGuest[i]? = some (pc, ins, len, pc')) : q_d cX9_isGuest pc ins len pc' := q_dt hX9_isGuest i hi
abbrev MX9_guestTold : MM := (yX9_guestTold, cX9_guestTold, 2, some .int)
def eX9_guestTold : List (Nat × Instr × Nat × Nat) := [(0, .aload_n 0, 1, 1), (1, .iload_n 1, 1, 2), (2, .invokevirtual 116, 3, 5), (5, .ifCond .eq 14, 3, 8), (8, .aload_n 0, 1, 9), (9, .getfield 65, 3, 12), (12, .iload_n 1, 1, 13), (13, .invokestatic 119, 3, 16), (16, .goto 5, 3, 19), (19, .bipush (-5), 2, 21), (21, .ireturn, 1, 22)]
theorem hX9_guestTold : ∀ q ∈ eX9_guestTold, decode cX9_guestTold q.1 = .ok (q.2.1, q.2.2.1) ∧ q.1 + q.2.2.1 = q.2.2.2 := by decide +kernel
theorem dX9_guestTold (i : Nat) {pc : Nat} {ins : Instr} {len pc' : Nat} (hi : eX9_guestTold[i]? = some (pc, ins, len, pc')) : q_d cX9_guestTold pc ins len pc' := q_dt hX9_guestTold i hi
abbrev MX9_pays : MM := (yX9_pays, cX9_pays, 3, some .int)
def eX9_pays : List (Nat × Instr × Nat × Nat) := [(0, .iload_n 1, 1, 1), (1, .iconst 0, 1, 2), (2, .sipush 999, 3, 5), (5, .invokestatic 92, 3, 8), (8, .ifCond .ne 6, 3, 11), (11, .bipush (-2), 2, 13), (13, .ireturn, 1, 14), (14, .aload_n 0, 1, 15), (15, .getfield 69, 3, 18), (18, .istore_n 2, 1, 19), (19, .aload_n 0, 1, 20), (20, .iload_n 1, 1, 21), (21, .putfield 69, 3, 24), (24, .iload_n 2, 1, 25), (25, .ireturn, 1, 26)]
theorem hX9_pays : ∀ q ∈ eX9_pays, decode cX9_pays q.1 = .ok (q.2.1, q.2.2.1) ∧ q.1 + q.2.2.1 = q.2.2.2 := by decide +kernel
theorem dX9_pays (i : Nat) {pc : Nat} {ins : Instr} {len pc' : Nat} (hi : eX9_pays[i]? = some (pc, ins, len, pc')) : q_d cX9_pays pc ins len pc' := q_dt hX9_pays i hi
abbrev MX9_count : MM := (yX9_count, cX9_count, 2, some .int)
def eX9_count : List (Nat × Instr × Nat × Nat) := [(0, .iload_n 1, 1, 1), (1, .tableswitch 93 0 6 #[43, 51, 56, 64, 69, 77, 82], 43, 44), (44, .aload_n 0, 1, 45), (45, .getfield 19, 3, 48), (48, .getfield 81, 3, 51), (51, .ireturn, 1, 52), (52, .aload_n 0, 1, 53), (53, .getfield 113, 3, 56), (56, .ireturn, 1, 57), (57, .aload_n 0, 1, 58), (58, .getfield 26, 3, 61), (61, .getfield 123, 3, 64), (64, .ireturn, 1, 65), (65, .aload_n 0, 1, 66), (66, .getfield 69, 3, 69), (69, .ireturn, 1, 70), (70, .aload_n 0, 1, 71), (71, .getfield 33, 3, 74), (74, .getfield 124, 3, 77), (77, .ireturn, 1, 78), (78, .aload_n 0, 1, 79), (79, .getfield 125, 3, 82), (82, .ireturn, 1, 83), (83, .aload_n 0, 1, 84), (84, .getfield 33, 3, 87), (87, .getfield 128, 3, 90), (90, .getfield 132, 3, 93), (93, .ireturn, 1, 94), (94, .bipush (-2), 2, 96), (96, .ireturn, 1, 97)]
theorem hX9_count : ∀ q ∈ eX9_count, decode cX9_count q.1 = .ok (q.2.1, q.2.2.1) ∧ q.1 + q.2.2.1 = q.2.2.2 := by decide +kernel
theorem dX9_count (i : Nat) {pc : Nat} {ins : Instr} {len pc' : Nat} (hi : eX9_count[i]? = some (pc, ins, len, pc')) : q_d cX9_count pc ins len pc' := q_dt hX9_count i hi
abbrev MX9_isByte : MM := (yX9_isByte, cX9_isByte, 1, some .boolean)
def eX9_isByte : List (Nat × Instr × Nat × Nat) := [(0, .iload_n 0, 1, 1), (1, .iconst 0, 1, 2), (2, .sipush 255, 3, 5), (5, .invokestatic 92, 3, 8), (8, .ireturn, 1, 9)]
theorem hX9_isByte : ∀ q ∈ eX9_isByte, decode cX9_isByte q.1 = .ok (q.2.1, q.2.2.1) ∧ q.1 + q.2.2.1 = q.2.2.2 := by decide +kernel
theorem dX9_isByte (i : Nat) {pc : Nat} {ins : Instr} {len pc' : Nat} (hi : eX9_isByte[i]? = some (pc, ins, len, pc')) : q_d cX9_isByte pc ins len pc' := q_dt hX9_isByte i hi
abbrev MX9_feed : MM := (yX9_feed, cX9_feed, 8, some .int)
def eX9_feed_0 : List (Nat × Instr × Nat × Nat) := [(0, .iload_n 1, 1, 1), (1, .iconst 1, 1, 2), (2, .iconst 5, 1, 3), (3, .invokestatic 92, 3, 6), (6, .ifCond .eq 41, 3, 9), (9, .iload_n 2, 1, 10), (10, .invokestatic 137, 3, 13), (13, .ifCond .eq 34, 3, 16), (16, .iload_n 3, 1, 17), (17, .invokestatic 137, 3, 20), (20, .ifCond .eq 27, 3, 23), (23, .iload 4, 2, 25), (25, .invokestatic 137, 3, 28), (28, .ifCond .eq 19, 3, 31), (31, .iload 5, 2, 33), (33, .invokestatic 137, 3, 36), (36, .ifCond .eq 11, 3, 39), (39, .iload 6, 2, 41), (41, .invokestatic 137, 3, 44), (44, .ifCond .ne 6, 3, 47), (47, .bipush (-2), 2, 49), (49, .ireturn, 1, 50), (50, .aload_n 0, 1, 51), (51, .getfield 33, 3, 54), (54, .getfield 128, 3, 57), (57, .getfield 132, 3, 60), (60, .sipush 160, 3, 63), (63, .iload_n 1, 1, 64), (64, .isub, 1, 65), (65, .if_icmp .le 6, 3, 68), (68, .bipush (-4), 2, 70), (70, .ireturn, 1, 71), (71, .iconst 0, 1, 72), (72, .istore 7, 2, 74), (74, .iload 7, 2, 76), (76, .iload_n 1, 1, 77), (77, .if_icmp .ge 62, 3, 80), (80, .aload_n 0, 1, 81), (81, .getfield 33, 3, 84), (84, .getfield 128, 3, 87), (87, .iload 7, 2, 89), (89, .ifCond .ne 7, 3, 92), (92, .iload_n 2, 1, 93), (93, .goto 37, 3, 96), (96, .iload 7, 2, 98), (98, .iconst 1, 1, 99), (99, .if_icmp .ne 7, 3, 102), (102, .iload_n 3, 1, 103), (103, .goto 27, 3, 106), (106, .iload 7, 2, 108), (108, .iconst 2, 1, 109), (109, .if_icmp .ne 8, 3, 112), (112, .iload 4, 2, 114), (114, .goto 16, 3, 117), (117, .iload 7, 2, 119), (119, .iconst 3, 1, 120), (120, .if_icmp .ne 8, 3, 123), (123, .iload 5, 2, 125), (125, .goto 5, 3, 128), (128, .iload 6, 2, 130)]
theorem hX9_feed_0 : ∀ q ∈ eX9_feed_0, decode cX9_feed q.1 = .ok (q.2.1, q.2.2.1) ∧ q.1 + q.2.2.1 = q.2.2.2 := by decide +kernel
theorem dX9_feed_0 (i : Nat) {pc : Nat} {ins : Instr} {len pc' : Nat} (hi : eX9_feed_0[i]? = some (pc, ins, len, pc')) : q_d cX9_feed pc ins len pc' := q_dt hX9_feed_0 i hi
def eX9_feed_1 : List (Nat × Instr × Nat × Nat) := [(130, .invokevirtual 140, 3, 133), (133, .iinc 7 1, 3, 136), (136, .goto (-62), 3, 139), (139, .aload_n 0, 1, 140), (140, .getfield 33, 3, 143), (143, .getfield 128, 3, 146), (146, .getfield 132, 3, 149), (149, .ireturn, 1, 150)]
theorem hX9_feed_1 : ∀ q ∈ eX9_feed_1, decode cX9_feed q.1 = .ok (q.2.1, q.2.2.1) ∧ q.1 + q.2.2.1 = q.2.2.2 := by decide +kernel
theorem dX9_feed_1 (i : Nat) {pc : Nat} {ins : Instr} {len pc' : Nat} (hi : eX9_feed_1[i]? = some (pc, ins, len, pc')) : q_d cX9_feed pc ins len pc' := q_dt hX9_feed_1 i hi
abbrev MX9_text : MM := (yX9_text, cX9_text, 2, some .int)
def eX9_text : List (Nat × Instr × Nat × Nat) := [(0, .aload_n 0, 1, 1), (1, .getfield 33, 3, 4), (4, .getfield 124, 3, 7), (7, .bipush 6, 2, 9), (9, .if_icmp .lt 6, 3, 12), (12, .bipush (-4), 2, 14), (14, .ireturn, 1, 15), (15, .aload_n 0, 1, 16), (16, .getfield 33, 3, 19), (19, .invokevirtual 144, 3, 22), (22, .istore_n 1, 1, 23), (23, .iload_n 1, 1, 24), (24, .iconst (-1), 1, 25), (25, .if_icmp .ne 15, 3, 28), (28, .aload_n 0, 1, 29), (29, .getfield 33, 3, 32), (32, .getfield 124, 3, 35), (35, .iconst 1, 1, 36), (36, .isub, 1, 37), (37, .goto 7, 3, 40), (40, .bipush (-100), 2, 42), (42, .iload_n 1, 1, 43), (43, .isub, 1, 44), (44, .ireturn, 1, 45)]
theorem hX9_text : ∀ q ∈ eX9_text, decode cX9_text q.1 = .ok (q.2.1, q.2.2.1) ∧ q.1 + q.2.2.1 = q.2.2.2 := by decide +kernel
theorem dX9_text (i : Nat) {pc : Nat} {ins : Instr} {len pc' : Nat} (hi : eX9_text[i]? = some (pc, ins, len, pc')) : q_d cX9_text pc ins len pc' := q_dt hX9_text i hi
abbrev MX9_force : MM := (yX9_force, cX9_force, 3, some .int)
def eX9_force : List (Nat × Instr × Nat × Nat) := [(0, .iload_n 1, 1, 1), (1, .iconst 0, 1, 2), (2, .aload_n 0, 1, 3), (3, .getfield 33, 3, 6), (6, .getfield 124, 3, 9), (9, .iconst 1, 1, 10), (10, .isub, 1, 11), (11, .invokestatic 92, 3, 14), (14, .ifCond .ne 6, 3, 17), (17, .bipush (-2), 2, 19), (19, .ireturn, 1, 20), (20, .aload_n 0, 1, 21), (21, .getfield 125, 3, 24), (24, .istore_n 2, 1, 25), (25, .aload_n 0, 1, 26), (26, .iload_n 1, 1, 27), (27, .putfield 125, 3, 30), (30, .aload_n 0, 1, 31), (31, .iconst 1, 1, 32), (32, .putfield 73, 3, 35), (35, .iload_n 2, 1, 36), (36, .ireturn, 1, 37)]
theorem hX9_force : ∀ q ∈ eX9_force, decode cX9_force q.1 = .ok (q.2.1, q.2.2.1) ∧ q.1 + q.2.2.1 = q.2.2.2 := by decide +kernel
theorem dX9_force (i : Nat) {pc : Nat} {ins : Instr} {len pc' : Nat} (hi : eX9_force[i]? = some (pc, ins, len, pc')) : q_d cX9_force pc ins len pc' := q_dt hX9_force i hi
abbrev MX9_asks : MM := (yX9_asks, cX9_asks, 6, some .int)
def eX9_asks : List (Nat × Instr × Nat × Nat) := [(0, .aload_n 0, 1, 1), (1, .iload_n 2, 1, 2), (2, .invokevirtual 88, 3, 5), (5, .ifCond .ne 6, 3, 8), (8, .bipush (-5), 2, 10), (10, .ireturn, 1, 11), (11, .iload_n 1, 1, 12), (12, .iconst 0, 1, 13), (13, .iconst 2, 1, 14), (14, .invokestatic 92, 3, 17), (17, .ifCond .eq 32, 3, 20), (20, .iload_n 3, 1, 21), (21, .invokestatic 110, 3, 24), (24, .ifCond .eq 25, 3, 27), (27, .iload 4, 2, 29), (29, .iconst 0, 1, 30), (30, .iconst 3, 1, 31), (31, .invokestatic 92, 3, 34), (34, .ifCond .eq 15, 3, 37), (37, .iload 5, 2, 39), (39, .iconst 0, 1, 40), (40, .sipush 720, 3, 43), (43, .invokestatic 92, 3, 46), (46, .ifCond .ne 6, 3, 49), (49, .bipush (-7), 2, 51), (51, .ireturn, 1, 52), (52, .aload_n 0, 1, 53), (53, .getfield 33, 3, 56), (56, .aload_n 0, 1, 57), (57, .getfield 125, 3, 60), (60, .iload_n 1, 1, 61), (61, .aload_n 0, 1, 62), (62, .getfield 19, 3, 65), (65, .iload_n 2, 1, 66), (66, .invokevirtual 100, 3, 69), (69, .iload_n 3, 1, 70), (70, .iload_n 2, 1, 71), (71, .iload 4, 2, 73), (73, .iload 5, 2, 75), (75, .invokevirtual 148, 3, 78), (78, .ireturn, 1, 79)]
theorem hX9_asks : ∀ q ∈ eX9_asks, decode cX9_asks q.1 = .ok (q.2.1, q.2.2.1) ∧ q.1 + q.2.2.1 = q.2.2.2 := by decide +kernel
theorem dX9_asks (i : Nat) {pc : Nat} {ins : Instr} {len pc' : Nat} (hi : eX9_asks[i]? = some (pc, ins, len, pc')) : q_d cX9_asks pc ins len pc' := q_dt hX9_asks i hi
abbrev MX9_mayBeFact : MM := (yX9_mayBeFact, cX9_mayBeFact, 5, some .boolean)
def eX9_mayBeFact : List (Nat × Instr × Nat × Nat) := [(0, .iload_n 1, 1, 1), (1, .iconst 0, 1, 2), (2, .iconst 5, 1, 3), (3, .invokestatic 92, 3, 6), (6, .ifCond .eq 47, 3, 9), (9, .aload_n 0, 1, 10), (10, .iload_n 2, 1, 11), (11, .invokevirtual 88, 3, 14), (14, .ifCond .eq 39, 3, 17), (17, .iload_n 3, 1, 18), (18, .invokestatic 110, 3, 21), (21, .ifCond .eq 32, 3, 24), (24, .iload 4, 2, 26), (26, .iconst 0, 1, 27), (27, .bipush 9, 2, 29), (29, .invokestatic 92, 3, 32), (32, .ifCond .eq 21, 3, 35), (35, .iload_n 1, 1, 36), (36, .iconst 4, 1, 37), (37, .if_icmp .ne 12, 3, 40), (40, .aload_n 0, 1, 41), (41, .iload 4, 2, 43), (43, .invokevirtual 88, 3, 46), (46, .ifCond .eq 7, 3, 49), (49, .iconst 1, 1, 50), (50, .goto 4, 3, 53), (53, .iconst 0, 1, 54), (54, .ireturn, 1, 55)]
theorem hX9_mayBeFact : ∀ q ∈ eX9_mayBeFact, decode cX9_mayBeFact q.1 = .ok (q.2.1, q.2.2.1) ∧ q.1 + q.2.2.1 = q.2.2.2 := by decide +kernel
theorem dX9_mayBeFact (i : Nat) {pc : Nat} {ins : Instr} {len pc' : Nat} (hi : eX9_mayBeFact[i]? = some (pc, ins, len, pc')) : q_d cX9_mayBeFact pc ins len pc' := q_dt hX9_mayBeFact i hi
abbrev MX9_know : MM := (yX9_know, cX9_know, 5, some .int)
def eX9_know : List (Nat × Instr × Nat × Nat) := [(0, .aload_n 0, 1, 1), (1, .iload_n 1, 1, 2), (2, .iload_n 2, 1, 3), (3, .iload_n 3, 1, 4), (4, .iload 4, 2, 6), (6, .invokevirtual 152, 3, 9), (9, .ifCond .ne 6, 3, 12), (12, .bipush (-2), 2, 14), (14, .ireturn, 1, 15), (15, .aload_n 0, 1, 16), (16, .getfield 26, 3, 19), (19, .getfield 123, 3, 22), (22, .bipush 12, 2, 24), (24, .if_icmp .lt 6, 3, 27), (27, .bipush (-4), 2, 29), (29, .ireturn, 1, 30), (30, .aload_n 0, 1, 31), (31, .iconst 1, 1, 32), (32, .putfield 73, 3, 35), (35, .aload_n 0, 1, 36), (36, .getfield 26, 3, 39), (39, .iload_n 1, 1, 40), (40, .iload_n 2, 1, 41), (41, .iload_n 3, 1, 42), (42, .iload 4, 2, 44), (44, .invokevirtual 156, 3, 47), (47, .ireturn, 1, 48)]
theorem hX9_know : ∀ q ∈ eX9_know, decode cX9_know q.1 = .ok (q.2.1, q.2.2.1) ∧ q.1 + q.2.2.1 = q.2.2.2 := by decide +kernel
theorem dX9_know (i : Nat) {pc : Nat} {ins : Instr} {len pc' : Nat} (hi : eX9_know[i]? = some (pc, ins, len, pc')) : q_d cX9_know pc ins len pc' := q_dt hX9_know i hi
abbrev MX9_forget : MM := (yX9_forget, cX9_forget, 1, some .int)
def eX9_forget : List (Nat × Instr × Nat × Nat) := [(0, .aload_n 0, 1, 1), (1, .getfield 26, 3, 4), (4, .getfield 123, 3, 7), (7, .ifCond .gt 6, 3, 10), (10, .bipush (-3), 2, 12), (12, .ireturn, 1, 13), (13, .aload_n 0, 1, 14), (14, .getfield 54, 3, 17), (17, .getfield 159, 3, 20), (20, .aload_n 0, 1, 21), (21, .getfield 26, 3, 24), (24, .getfield 123, 3, 27), (27, .if_icmp .lt 11, 3, 30), (30, .aload_n 0, 1, 31), (31, .getfield 54, 3, 34), (34, .iconst 0, 1, 35), (35, .putfield 162, 3, 38), (38, .aload_n 0, 1, 39), (39, .getfield 26, 3, 42), (42, .dup, 1, 43), (43, .getfield 123, 3, 46), (46, .iconst 1, 1, 47), (47, .isub, 1, 48), (48, .putfield 123, 3, 51), (51, .aload_n 0, 1, 52), (52, .iconst 1, 1, 53), (53, .putfield 73, 3, 56), (56, .aload_n 0, 1, 57), (57, .getfield 26, 3, 60), (60, .getfield 123, 3, 63), (63, .ireturn, 1, 64)]
theorem hX9_forget : ∀ q ∈ eX9_forget, decode cX9_forget q.1 = .ok (q.2.1, q.2.2.1) ∧ q.1 + q.2.2.1 = q.2.2.2 := by decide +kernel
theorem dX9_forget (i : Nat) {pc : Nat} {ins : Instr} {len pc' : Nat} (hi : eX9_forget[i]? = some (pc, ins, len, pc')) : q_d cX9_forget pc ins len pc' := q_dt hX9_forget i hi
abbrev MX9_factTold : MM := (yX9_factTold, cX9_factTold, 3, some .int)
def eX9_factTold : List (Nat × Instr × Nat × Nat) := [(0, .iload_n 1, 1, 1), (1, .iconst 0, 1, 2), (2, .aload_n 0, 1, 3), (3, .getfield 26, 3, 6), (6, .getfield 123, 3, 9), (9, .iconst 1, 1, 10), (10, .isub, 1, 11), (11, .invokestatic 92, 3, 14), (14, .ifCond .ne 6, 3, 17), (17, .bipush (-5), 2, 19), (19, .ireturn, 1, 20), (20, .iload_n 2, 1, 21), (21, .tableswitch 79 0 3 #[31, 43, 55, 67], 31, 52), (52, .aload_n 0, 1, 53), (53, .getfield 26, 3, 56), (56, .getfield 165, 3, 59), (59, .iload_n 1, 1, 60), (60, .invokestatic 119, 3, 63), (63, .ireturn, 1, 64), (64, .aload_n 0, 1, 65), (65, .getfield 26, 3, 68), (68, .getfield 168, 3, 71), (71, .iload_n 1, 1, 72), (72, .invokestatic 119, 3, 75), (75, .ireturn, 1, 76), (76, .aload_n 0, 1, 77), (77, .getfield 26, 3, 80), (80, .getfield 171, 3, 83), (83, .iload_n 1, 1, 84), (84, .invokestatic 119, 3, 87), (87, .ireturn, 1, 88), (88, .aload_n 0, 1, 89), (89, .getfield 26, 3, 92), (92, .getfield 174, 3, 95), (95, .iload_n 1, 1, 96), (96, .invokestatic 119, 3, 99), (99, .ireturn, 1, 100), (100, .bipush (-7), 2, 102), (102, .ireturn, 1, 103)]
theorem hX9_factTold : ∀ q ∈ eX9_factTold, decode cX9_factTold q.1 = .ok (q.2.1, q.2.2.1) ∧ q.1 + q.2.2.1 = q.2.2.2 := by decide +kernel
theorem dX9_factTold (i : Nat) {pc : Nat} {ins : Instr} {len pc' : Nat} (hi : eX9_factTold[i]? = some (pc, ins, len, pc')) : q_d cX9_factTold pc ins len pc' := q_dt hX9_factTold i hi
abbrev MX9_fitting : MM := (yX9_fitting, cX9_fitting, 1, some (.object "CardNobodyReads$Fits"))
def eX9_fitting : List (Nat × Instr × Nat × Nat) := [(0, .aload_n 0, 1, 1), (1, .getfield 73, 3, 4), (4, .ifCond .eq 35, 3, 7), (7, .aload_n 0, 1, 8), (8, .getfield 40, 3, 11), (11, .aload_n 0, 1, 12), (12, .getfield 10, 3, 15), (15, .aload_n 0, 1, 16), (16, .getfield 19, 3, 19), (19, .aload_n 0, 1, 20), (20, .getfield 26, 3, 23), (23, .aload_n 0, 1, 24), (24, .getfield 33, 3, 27), (27, .aload_n 0, 1, 28), (28, .getfield 125, 3, 31), (31, .invokevirtual 332, 3, 34), (34, .aload_n 0, 1, 35), (35, .iconst 0, 1, 36), (36, .putfield 73, 3, 39), (39, .aload_n 0, 1, 40), (40, .getfield 40, 3, 43), (43, .areturn, 1, 44)]
theorem hX9_fitting : ∀ q ∈ eX9_fitting, decode cX9_fitting q.1 = .ok (q.2.1, q.2.2.1) ∧ q.1 + q.2.2.1 = q.2.2.2 := by decide +kernel
theorem dX9_fitting (i : Nat) {pc : Nat} {ins : Instr} {len pc' : Nat} (hi : eX9_fitting[i]? = some (pc, ins, len, pc')) : q_d cX9_fitting pc ins len pc' := q_dt hX9_fitting i hi
abbrev MX9_sets : MM := (yX9_sets, cX9_sets, 1, some .int)
def eX9_sets : List (Nat × Instr × Nat × Nat) := [(0, .aload_n 0, 1, 1), (1, .invokevirtual 177, 3, 4), (4, .getfield 181, 3, 7), (7, .ireturn, 1, 8)]
theorem hX9_sets : ∀ q ∈ eX9_sets, decode cX9_sets q.1 = .ok (q.2.1, q.2.2.1) ∧ q.1 + q.2.2.1 = q.2.2.2 := by decide +kernel
theorem dX9_sets (i : Nat) {pc : Nat} {ins : Instr} {len pc' : Nat} (hi : eX9_sets[i]? = some (pc, ins, len, pc')) : q_d cX9_sets pc ins len pc' := q_dt hX9_sets i hi
abbrev MX9_isSign : MM := (yX9_isSign, cX9_isSign, 1, some .boolean)
def eX9_isSign : List (Nat × Instr × Nat × Nat) := [(0, .iload_n 0, 1, 1), (1, .iconst 0, 1, 2), (2, .iconst 5, 1, 3), (3, .invokestatic 92, 3, 6), (6, .ireturn, 1, 7)]
theorem hX9_isSign : ∀ q ∈ eX9_isSign, decode cX9_isSign q.1 = .ok (q.2.1, q.2.2.1) ∧ q.1 + q.2.2.1 = q.2.2.2 := by decide +kernel
theorem dX9_isSign (i : Nat) {pc : Nat} {ins : Instr} {len pc' : Nat} (hi : eX9_isSign[i]? = some (pc, ins, len, pc')) : q_d cX9_isSign pc ins len pc' := q_dt hX9_isSign i hi
abbrev MX9_first : MM := (yX9_first, cX9_first, 3, some .int)
def eX9_first : List (Nat × Instr × Nat × Nat) := [(0, .iload_n 1, 1, 1), (1, .invokestatic 182, 3, 4), (4, .ifCond .ne 6, 3, 7), (7, .bipush (-5), 2, 9), (9, .ireturn, 1, 10), (10, .aload_n 0, 1, 11), (11, .invokevirtual 177, 3, 14), (14, .astore_n 2, 1, 15), (15, .aload_n 2, 1, 16), (16, .getfield 181, 3, 19), (19, .ifCond .ne 7, 3, 22), (22, .iconst (-1), 1, 23), (23, .goto 16, 3, 26), (26, .aload_n 0, 1, 27), (27, .getfield 10, 3, 30), (30, .aload_n 2, 1, 31), (31, .iconst 0, 1, 32), (32, .invokevirtual 185, 3, 35), (35, .iload_n 1, 1, 36), (36, .invokevirtual 188, 3, 39), (39, .ireturn, 1, 40)]
theorem hX9_first : ∀ q ∈ eX9_first, decode cX9_first q.1 = .ok (q.2.1, q.2.2.1) ∧ q.1 + q.2.2.1 = q.2.2.2 := by decide +kernel
theorem dX9_first (i : Nat) {pc : Nat} {ins : Instr} {len pc' : Nat} (hi : eX9_first[i]? = some (pc, ins, len, pc')) : q_d cX9_first pc ins len pc' := q_dt hX9_first i hi
abbrev MX9_isPart : MM := (yX9_isPart, cX9_isPart, 1, some .boolean)
def eX9_isPart : List (Nat × Instr × Nat × Nat) := [(0, .iload_n 0, 1, 1), (1, .iconst 0, 1, 2), (2, .iconst 5, 1, 3), (3, .invokestatic 92, 3, 6), (6, .ireturn, 1, 7)]
theorem hX9_isPart : ∀ q ∈ eX9_isPart, decode cX9_isPart q.1 = .ok (q.2.1, q.2.2.1) ∧ q.1 + q.2.2.1 = q.2.2.2 := by decide +kernel
theorem dX9_isPart (i : Nat) {pc : Nat} {ins : Instr} {len pc' : Nat} (hi : eX9_isPart[i]? = some (pc, ins, len, pc')) : q_d cX9_isPart pc ins len pc' := q_dt hX9_isPart i hi
abbrev MX9_means : MM := (yX9_means, cX9_means, 3, some .int)
def eX9_means : List (Nat × Instr × Nat × Nat) := [(0, .iload_n 1, 1, 1), (1, .invokestatic 182, 3, 4), (4, .ifCond .eq 22, 3, 7), (7, .iload_n 2, 1, 8), (8, .invokestatic 191, 3, 11), (11, .ifCond .eq 15, 3, 14), (14, .aload_n 0, 1, 15), (15, .invokevirtual 177, 3, 18), (18, .iload_n 1, 1, 19), (19, .iload_n 2, 1, 20), (20, .invokevirtual 194, 3, 23), (23, .goto 5, 3, 26), (26, .bipush (-5), 2, 28), (28, .ireturn, 1, 29)]
theorem hX9_means : ∀ q ∈ eX9_means, decode cX9_means q.1 = .ok (q.2.1, q.2.2.1) ∧ q.1 + q.2.2.1 = q.2.2.2 := by decide +kernel
theorem dX9_means (i : Nat) {pc : Nat} {ins : Instr} {len pc' : Nat} (hi : eX9_means[i]? = some (pc, ins, len, pc')) : q_d cX9_means pc ins len pc' := q_dt hX9_means i hi
abbrev MX9_sure : MM := (yX9_sure, cX9_sure, 4, some .int)
def eX9_sure : List (Nat × Instr × Nat × Nat) := [(0, .iload_n 1, 1, 1), (1, .invokestatic 182, 3, 4), (4, .ifCond .ne 6, 3, 7), (7, .bipush (-5), 2, 9), (9, .ireturn, 1, 10), (10, .aload_n 0, 1, 11), (11, .invokevirtual 177, 3, 14), (14, .astore_n 2, 1, 15), (15, .iconst 0, 1, 16), (16, .istore_n 3, 1, 17), (17, .iload_n 3, 1, 18), (18, .bipush 6, 2, 20), (20, .if_icmp .ge 31, 3, 23), (23, .aload_n 2, 1, 24), (24, .getfield 181, 3, 27), (27, .ifCond .le 24, 3, 30), (30, .aload_n 2, 1, 31), (31, .iload_n 1, 1, 32), (32, .iload_n 3, 1, 33), (33, .invokevirtual 194, 3, 36), (36, .aload_n 2, 1, 37), (37, .getfield 181, 3, 40), (40, .if_icmp .ne 5, 3, 43), (43, .iload_n 3, 1, 44), (44, .ireturn, 1, 45), (45, .iinc 3 1, 3, 48), (48, .goto (-31), 3, 51), (51, .iconst (-1), 1, 52), (52, .ireturn, 1, 53)]
theorem hX9_sure : ∀ q ∈ eX9_sure, decode cX9_sure q.1 = .ok (q.2.1, q.2.2.1) ∧ q.1 + q.2.2.1 = q.2.2.2 := by decide +kernel
theorem dX9_sure (i : Nat) {pc : Nat} {ins : Instr} {len pc' : Nat} (hi : eX9_sure[i]? = some (pc, ins, len, pc')) : q_d cX9_sure pc ins len pc' := q_dt hX9_sure i hi
abbrev MX9_doubt : MM := (yX9_doubt, cX9_doubt, 5, some .int)
def eX9_doubt : List (Nat × Instr × Nat × Nat) := [(0, .iload_n 1, 1, 1), (1, .invokestatic 182, 3, 4), (4, .ifCond .ne 11, 3, 7), (7, .iload_n 1, 1, 8), (8, .iconst (-1), 1, 9), (9, .if_icmp .eq 6, 3, 12), (12, .bipush (-5), 2, 14), (14, .ireturn, 1, 15), (15, .aload_n 0, 1, 16), (16, .invokevirtual 177, 3, 19), (19, .astore_n 2, 1, 20), (20, .iload_n 1, 1, 21), (21, .iconst (-1), 1, 22), (22, .if_icmp .eq 9, 3, 25), (25, .aload_n 2, 1, 26), (26, .iload_n 1, 1, 27), (27, .invokevirtual 197, 3, 30), (30, .ireturn, 1, 31), (31, .iconst 0, 1, 32), (32, .istore_n 3, 1, 33), (33, .iconst 1, 1, 34), (34, .istore 4, 2, 36), (36, .iload 4, 2, 38), (38, .bipush 6, 2, 40), (40, .if_icmp .ge 26, 3, 43), (43, .aload_n 2, 1, 44), (44, .iload 4, 2, 46), (46, .invokevirtual 197, 3, 49), (49, .aload_n 2, 1, 50), (50, .iload_n 3, 1, 51), (51, .invokevirtual 197, 3, 54), (54, .if_icmp .le 6, 3, 57), (57, .iload 4, 2, 59), (59, .istore_n 3, 1, 60), (60, .iinc 4 1, 3, 63), (63, .goto (-27), 3, 66), (66, .iload_n 3, 1, 67), (67, .ireturn, 1, 68)]
theorem hX9_doubt : ∀ q ∈ eX9_doubt, decode cX9_doubt q.1 = .ok (q.2.1, q.2.2.1) ∧ q.1 + q.2.2.1 = q.2.2.2 := by decide +kernel
theorem dX9_doubt (i : Nat) {pc : Nat} {ins : Instr} {len pc' : Nat} (hi : eX9_doubt[i]? = some (pc, ins, len, pc')) : q_d cX9_doubt pc ins len pc' := q_dt hX9_doubt i hi
abbrev MX9_isFractionPart : MM := (yX9_isFractionPart, cX9_isFractionPart, 1, some .boolean)
def eX9_isFractionPart : List (Nat × Instr × Nat × Nat) := [(0, .iload_n 0, 1, 1), (1, .iconst 0, 1, 2), (2, .iconst 1, 1, 3), (3, .invokestatic 92, 3, 6), (6, .ireturn, 1, 7)]
theorem hX9_isFractionPart : ∀ q ∈ eX9_isFractionPart, decode cX9_isFractionPart q.1 = .ok (q.2.1, q.2.2.1) ∧ q.1 + q.2.2.1 = q.2.2.2 := by decide +kernel
theorem dX9_isFractionPart (i : Nat) {pc : Nat} {ins : Instr} {len pc' : Nat} (hi : eX9_isFractionPart[i]? = some (pc, ins, len, pc')) : q_d cX9_isFractionPart pc ins len pc' := q_dt hX9_isFractionPart i hi
abbrev MX9_commonDivisor : MM := (yX9_commonDivisor, cX9_commonDivisor, 6, some .int)
def eX9_commonDivisor : List (Nat × Instr × Nat × Nat) := [(0, .iload_n 1, 1, 1), (1, .istore_n 2, 1, 2), (2, .iload_n 0, 1, 3), (3, .istore_n 3, 1, 4), (4, .iconst 0, 1, 5), (5, .istore 4, 2, 7), (7, .iload 4, 2, 9), (9, .bipush 64, 2, 11), (11, .if_icmp .ge 23, 3, 14), (14, .iload_n 3, 1, 15), (15, .ifCond .le 19, 3, 18), (18, .iload_n 2, 1, 19), (19, .iload_n 3, 1, 20), (20, .irem, 1, 21), (21, .istore 5, 2, 23), (23, .iload_n 3, 1, 24), (24, .istore_n 2, 1, 25), (25, .iload 5, 2, 27), (27, .istore_n 3, 1, 28), (28, .iinc 4 1, 3, 31), (31, .goto (-24), 3, 34), (34, .iload_n 2, 1, 35), (35, .ireturn, 1, 36)]
theorem hX9_commonDivisor : ∀ q ∈ eX9_commonDivisor, decode cX9_commonDivisor q.1 = .ok (q.2.1, q.2.2.1) ∧ q.1 + q.2.2.1 = q.2.2.2 := by decide +kernel
theorem dX9_commonDivisor (i : Nat) {pc : Nat} {ins : Instr} {len pc' : Nat} (hi : eX9_commonDivisor[i]? = some (pc, ins, len, pc')) : q_d cX9_commonDivisor pc ins len pc' := q_dt hX9_commonDivisor i hi
abbrev MX9_fraction : MM := (yX9_fraction, cX9_fraction, 4, some .long)
def eX9_fraction : List (Nat × Instr × Nat × Nat) := [(0, .iload_n 0, 1, 1), (1, .iload_n 1, 1, 2), (2, .invokestatic 326, 3, 5), (5, .istore_n 3, 1, 6), (6, .iload_n 1, 1, 7), (7, .ifCond .le 7, 3, 10), (10, .iload_n 3, 1, 11), (11, .ifCond .gt 7, 3, 14), (14, .ldc2_w 203, 3, 17), (17, .lreturn, 1, 18), (18, .iload_n 2, 1, 19), (19, .ifCond .ne 10, 3, 22), (22, .iload_n 0, 1, 23), (23, .iload_n 3, 1, 24), (24, .idiv, 1, 25), (25, .i2l, 1, 26), (26, .goto 7, 3, 29), (29, .iload_n 1, 1, 30), (30, .iload_n 3, 1, 31), (31, .idiv, 1, 32), (32, .i2l, 1, 33), (33, .lreturn, 1, 34)]
theorem hX9_fraction : ∀ q ∈ eX9_fraction, decode cX9_fraction q.1 = .ok (q.2.1, q.2.2.1) ∧ q.1 + q.2.2.1 = q.2.2.2 := by decide +kernel
theorem dX9_fraction (i : Nat) {pc : Nat} {ins : Instr} {len pc' : Nat} (hi : eX9_fraction[i]? = some (pc, ins, len, pc')) : q_d cX9_fraction pc ins len pc' := q_dt hX9_fraction i hi
abbrev MX9_odds : MM := (yX9_odds, cX9_odds, 5, some .long)
def eX9_odds : List (Nat × Instr × Nat × Nat) := [(0, .iload_n 1, 1, 1), (1, .invokestatic 182, 3, 4), (4, .ifCond .eq 17, 3, 7), (7, .iload_n 2, 1, 8), (8, .invokestatic 191, 3, 11), (11, .ifCond .eq 10, 3, 14), (14, .iload_n 3, 1, 15), (15, .invokestatic 200, 3, 18), (18, .ifCond .ne 7, 3, 21), (21, .ldc2_w 203, 3, 24), (24, .lreturn, 1, 25), (25, .aload_n 0, 1, 26), (26, .invokevirtual 177, 3, 29), (29, .astore 4, 2, 31), (31, .aload 4, 2, 33), (33, .iload_n 1, 1, 34), (34, .iload_n 2, 1, 35), (35, .invokevirtual 194, 3, 38), (38, .aload 4, 2, 40), (40, .getfield 181, 3, 43), (43, .iload_n 3, 1, 44), (44, .invokestatic 205, 3, 47), (47, .lreturn, 1, 48)]
theorem hX9_odds : ∀ q ∈ eX9_odds, decode cX9_odds q.1 = .ok (q.2.1, q.2.2.1) ∧ q.1 + q.2.2.1 = q.2.2.2 := by decide +kernel
theorem dX9_odds (i : Nat) {pc : Nat} {ins : Instr} {len pc' : Nat} (hi : eX9_odds[i]? = some (pc, ins, len, pc')) : q_d cX9_odds pc ins len pc' := q_dt hX9_odds i hi
abbrev MX9_has : MM := (yX9_has, cX9_has, 5, some .long)
def eX9_has : List (Nat × Instr × Nat × Nat) := [(0, .aload_n 0, 1, 1), (1, .iload_n 1, 1, 2), (2, .invokevirtual 88, 3, 5), (5, .ifCond .eq 17, 3, 8), (8, .iload_n 2, 1, 9), (9, .invokestatic 110, 3, 12), (12, .ifCond .eq 10, 3, 15), (15, .iload_n 3, 1, 16), (16, .invokestatic 200, 3, 19), (19, .ifCond .ne 7, 3, 22), (22, .ldc2_w 203, 3, 25), (25, .lreturn, 1, 26), (26, .aload_n 0, 1, 27), (27, .invokevirtual 177, 3, 30), (30, .astore 4, 2, 32), (32, .aload 4, 2, 34), (34, .iload_n 1, 1, 35), (35, .iload_n 2, 1, 36), (36, .invokevirtual 209, 3, 39), (39, .aload 4, 2, 41), (41, .getfield 181, 3, 44), (44, .iload_n 3, 1, 45), (45, .invokestatic 205, 3, 48), (48, .lreturn, 1, 49)]
theorem hX9_has : ∀ q ∈ eX9_has, decode cX9_has q.1 = .ok (q.2.1, q.2.2.1) ∧ q.1 + q.2.2.1 = q.2.2.2 := by decide +kernel
theorem dX9_has (i : Nat) {pc : Nat} {ins : Instr} {len pc' : Nat} (hi : eX9_has[i]? = some (pc, ins, len, pc')) : q_d cX9_has pc ins len pc' := q_dt hX9_has i hi
abbrev MX9_partsOfLine : MM := (yX9_partsOfLine, cX9_partsOfLine, 4, some .int)
def eX9_partsOfLine : List (Nat × Instr × Nat × Nat) := [(0, .aload_n 0, 1, 1), (1, .iload_n 1, 1, 2), (2, .invokevirtual 88, 3, 5), (5, .ifCond .ne 6, 3, 8), (8, .bipush (-5), 2, 10), (10, .ireturn, 1, 11), (11, .iload_n 2, 1, 12), (12, .iconst 0, 1, 13), (13, .iconst 1, 1, 14), (14, .invokestatic 92, 3, 17), (17, .ifCond .ne 6, 3, 20), (20, .bipush (-7), 2, 22), (22, .ireturn, 1, 23), (23, .aload_n 0, 1, 24), (24, .invokevirtual 177, 3, 27), (27, .astore_n 3, 1, 28), (28, .aload_n 3, 1, 29), (29, .getfield 181, 3, 32), (32, .ifCond .ne 5, 3, 35), (35, .iconst (-1), 1, 36), (36, .ireturn, 1, 37), (37, .iload_n 2, 1, 38), (38, .ifCond .ne 11, 3, 41), (41, .aload_n 3, 1, 42), (42, .iload_n 1, 1, 43), (43, .invokevirtual 212, 3, 46), (46, .goto 8, 3, 49), (49, .aload_n 3, 1, 50), (50, .iload_n 1, 1, 51), (51, .invokevirtual 215, 3, 54), (54, .ireturn, 1, 55)]
theorem hX9_partsOfLine : ∀ q ∈ eX9_partsOfLine, decode cX9_partsOfLine q.1 = .ok (q.2.1, q.2.2.1) ∧ q.1 + q.2.2.1 = q.2.2.2 := by decide +kernel
theorem dX9_partsOfLine (i : Nat) {pc : Nat} {ins : Instr} {len pc' : Nat} (hi : eX9_partsOfLine[i]? = some (pc, ins, len, pc')) : q_d cX9_partsOfLine pc ins len pc' := q_dt hX9_partsOfLine i hi
abbrev MX9_safeLines : MM := (yX9_safeLines, cX9_safeLines, 5, some .int)
def eX9_safeLines : List (Nat × Instr × Nat × Nat) := [(0, .iconst 0, 1, 1), (1, .istore_n 3, 1, 2), (2, .iconst 0, 1, 3), (3, .istore 4, 2, 5), (5, .iload 4, 2, 7), (7, .aload_n 0, 1, 8), (8, .getfield 19, 3, 11), (11, .getfield 81, 3, 14), (14, .if_icmp .ge 40, 3, 17), (17, .aload_n 1, 1, 18), (18, .getfield 181, 3, 21), (21, .ifCond .le 33, 3, 24), (24, .aload_n 1, 1, 25), (25, .iload 4, 2, 27), (27, .aload_n 0, 1, 28), (28, .getfield 65, 3, 31), (31, .iload_n 2, 1, 32), (32, .invokestatic 119, 3, 35), (35, .invokevirtual 222, 3, 38), (38, .ifCond .ne 10, 3, 41), (41, .iload_n 3, 1, 42), (42, .iconst 1, 1, 43), (43, .iload 4, 2, 45), (45, .ishl, 1, 46), (46, .ior, 1, 47), (47, .istore_n 3, 1, 48), (48, .iinc 4 1, 3, 51), (51, .goto (-46), 3, 54), (54, .iload_n 3, 1, 55), (55, .ireturn, 1, 56)]
theorem hX9_safeLines : ∀ q ∈ eX9_safeLines, decode cX9_safeLines q.1 = .ok (q.2.1, q.2.2.1) ∧ q.1 + q.2.2.1 = q.2.2.2 := by decide +kernel
theorem dX9_safeLines (i : Nat) {pc : Nat} {ins : Instr} {len pc' : Nat} (hi : eX9_safeLines[i]? = some (pc, ins, len, pc')) : q_d cX9_safeLines pc ins len pc' := q_dt hX9_safeLines i hi
abbrev MX9_safe : MM := (yX9_safe, cX9_safe, 2, some .int)
def eX9_safe : List (Nat × Instr × Nat × Nat) := [(0, .aload_n 0, 1, 1), (1, .iload_n 1, 1, 2), (2, .invokevirtual 116, 3, 5), (5, .ifCond .eq 15, 3, 8), (8, .aload_n 0, 1, 9), (9, .aload_n 0, 1, 10), (10, .invokevirtual 177, 3, 13), (13, .iload_n 1, 1, 14), (14, .invokevirtual 218, 3, 17), (17, .goto 5, 3, 20), (20, .bipush (-5), 2, 22), (22, .ireturn, 1, 23)]
theorem hX9_safe : ∀ q ∈ eX9_safe, decode cX9_safe q.1 = .ok (q.2.1, q.2.2.1) ∧ q.1 + q.2.2.1 = q.2.2.2 := by decide +kernel
theorem dX9_safe (i : Nat) {pc : Nat} {ins : Instr} {len pc' : Nat} (hi : eX9_safe[i]? = some (pc, ins, len, pc')) : q_d cX9_safe pc ins len pc' := q_dt hX9_safe i hi
abbrev MX9_risk : MM := (yX9_risk, cX9_risk, 5, some .long)
def eX9_risk : List (Nat × Instr × Nat × Nat) := [(0, .aload_n 0, 1, 1), (1, .iload_n 1, 1, 2), (2, .invokevirtual 116, 3, 5), (5, .ifCond .eq 18, 3, 8), (8, .aload_n 0, 1, 9), (9, .iload_n 2, 1, 10), (10, .invokevirtual 88, 3, 13), (13, .ifCond .eq 10, 3, 16), (16, .iload_n 3, 1, 17), (17, .invokestatic 200, 3, 20), (20, .ifCond .ne 7, 3, 23), (23, .ldc2_w 203, 3, 26), (26, .lreturn, 1, 27), (27, .aload_n 0, 1, 28), (28, .invokevirtual 177, 3, 31), (31, .astore 4, 2, 33), (33, .aload 4, 2, 35), (35, .iload_n 2, 1, 36), (36, .aload_n 0, 1, 37), (37, .getfield 65, 3, 40), (40, .iload_n 1, 1, 41), (41, .invokestatic 119, 3, 44), (44, .invokevirtual 222, 3, 47), (47, .aload 4, 2, 49), (49, .getfield 181, 3, 52), (52, .iload_n 3, 1, 53), (53, .invokestatic 205, 3, 56), (56, .lreturn, 1, 57)]
theorem hX9_risk : ∀ q ∈ eX9_risk, decode cX9_risk q.1 = .ok (q.2.1, q.2.2.1) ∧ q.1 + q.2.2.1 = q.2.2.2 := by decide +kernel
theorem dX9_risk (i : Nat) {pc : Nat} {ins : Instr} {len pc' : Nat} (hi : eX9_risk[i]? = some (pc, ins, len, pc')) : q_d cX9_risk pc ins len pc' := q_dt hX9_risk i hi
abbrev MX9_liking : MM := (yX9_liking, cX9_liking, 7, some .int)
def eX9_liking : List (Nat × Instr × Nat × Nat) := [(0, .iconst 0, 1, 1), (1, .istore 4, 2, 3), (3, .iconst 0, 1, 4), (4, .istore 5, 2, 6), (6, .iload 5, 2, 8), (8, .bipush 64, 2, 10), (10, .if_icmp .ge 59, 3, 13), (13, .aload_n 1, 1, 14), (14, .iload_n 3, 1, 15), (15, .iload 5, 2, 17), (17, .invokevirtual 336, 3, 20), (20, .istore 6, 2, 22), (22, .iload 6, 2, 24), (24, .ifCond .le 39, 3, 27), (27, .iload 4, 2, 29), (29, .iload 6, 2, 31), (31, .aload_n 0, 1, 32), (32, .getfield 33, 3, 35), (35, .aload_n 0, 1, 36), (36, .getfield 125, 3, 39), (39, .iconst 1, 1, 40), (40, .aload_n 0, 1, 41), (41, .getfield 19, 3, 44), (44, .iload_n 3, 1, 45), (45, .invokevirtual 100, 3, 48), (48, .iload 5, 2, 50), (50, .iload_n 3, 1, 51), (51, .iload_n 2, 1, 52), (52, .aload_n 1, 1, 53), (53, .getfield 181, 3, 56), (56, .invokevirtual 148, 3, 59), (59, .imul, 1, 60), (60, .iadd, 1, 61), (61, .istore 4, 2, 63), (63, .iinc 5 1, 3, 66), (66, .goto (-60), 3, 69), (69, .iload 4, 2, 71), (71, .ireturn, 1, 72)]
theorem hX9_liking : ∀ q ∈ eX9_liking, decode cX9_liking q.1 = .ok (q.2.1, q.2.2.1) ∧ q.1 + q.2.2.1 = q.2.2.2 := by decide +kernel
theorem dX9_liking (i : Nat) {pc : Nat} {ins : Instr} {len pc' : Nat} (hi : eX9_liking[i]? = some (pc, ins, len, pc')) : q_d cX9_liking pc ins len pc' := q_dt hX9_liking i hi
abbrev MX9_planTonight : MM := (yX9_planTonight, cX9_planTonight, 5, none)
def eX9_planTonight : List (Nat × Instr × Nat × Nat) := [(0, .iconst 0, 1, 1), (1, .istore_n 2, 1, 2), (2, .iload_n 2, 1, 3), (3, .aload_n 0, 1, 4), (4, .getfield 113, 3, 7), (7, .if_icmp .ge 68, 3, 10), (10, .aload_n 0, 1, 11), (11, .aload_n 1, 1, 12), (12, .iload_n 2, 1, 13), (13, .invokevirtual 218, 3, 16), (16, .istore_n 3, 1, 17), (17, .iconst 0, 1, 18), (18, .istore 4, 2, 20), (20, .iload 4, 2, 22), (22, .aload_n 0, 1, 23), (23, .getfield 19, 3, 26), (26, .getfield 81, 3, 29), (29, .if_icmp .ge 40, 3, 32), (32, .aload_n 0, 1, 33), (33, .getfield 47, 3, 36), (36, .iload_n 2, 1, 37), (37, .iload 4, 2, 39), (39, .iload_n 3, 1, 40), (40, .iload 4, 2, 42), (42, .ishr, 1, 43), (43, .iconst 1, 1, 44), (44, .iand, 1, 45), (45, .ifCond .eq 14, 3, 48), (48, .aload_n 0, 1, 49), (49, .aload_n 1, 1, 50), (50, .iload_n 2, 1, 51), (51, .iload 4, 2, 53), (53, .invokevirtual 339, 3, 56), (56, .goto 4, 3, 59), (59, .iconst (-1), 1, 60), (60, .invokevirtual 345, 3, 63), (63, .iinc 4 1, 3, 66), (66, .goto (-46), 3, 69), (69, .iinc 2 1, 3, 72), (72, .goto (-70), 3, 75), (75, .aload_n 0, 1, 76), (76, .getfield 47, 3, 79), (79, .aload_n 0, 1, 80), (80, .getfield 113, 3, 83), (83, .aload_n 0, 1, 84), (84, .getfield 19, 3, 87), (87, .aload_n 0, 1, 88), (88, .getfield 69, 3, 91), (91, .invokevirtual 348, 3, 94), (94, .return_, 1, 95)]
theorem hX9_planTonight : ∀ q ∈ eX9_planTonight, decode cX9_planTonight q.1 = .ok (q.2.1, q.2.2.1) ∧ q.1 + q.2.2.1 = q.2.2.2 := by decide +kernel
theorem dX9_planTonight (i : Nat) {pc : Nat} {ins : Instr} {len pc' : Nat} (hi : eX9_planTonight[i]? = some (pc, ins, len, pc')) : q_d cX9_planTonight pc ins len pc' := q_dt hX9_planTonight i hi
abbrev MX9_order : MM := (yX9_order, cX9_order, 2, some .int)
def eX9_order : List (Nat × Instr × Nat × Nat) := [(0, .aload_n 0, 1, 1), (1, .iload_n 1, 1, 2), (2, .invokevirtual 116, 3, 5), (5, .ifCond .ne 6, 3, 8), (8, .bipush (-5), 2, 10), (10, .ireturn, 1, 11), (11, .aload_n 0, 1, 12), (12, .aload_n 0, 1, 13), (13, .invokevirtual 177, 3, 16), (16, .invokevirtual 225, 3, 19), (19, .aload_n 0, 1, 20), (20, .getfield 47, 3, 23), (23, .getfield 229, 3, 26), (26, .iload_n 1, 1, 27), (27, .invokestatic 119, 3, 30), (30, .ireturn, 1, 31)]
theorem hX9_order : ∀ q ∈ eX9_order, decode cX9_order q.1 = .ok (q.2.1, q.2.2.1) ∧ q.1 + q.2.2.1 = q.2.2.2 := by decide +kernel
theorem dX9_order (i : Nat) {pc : Nat} {ins : Instr} {len pc' : Nat} (hi : eX9_order[i]? = some (pc, ins, len, pc')) : q_d cX9_order pc ins len pc' := q_dt hX9_order i hi
abbrev MX9_ordered : MM := (yX9_ordered, cX9_ordered, 2, some .int)
def eX9_ordered : List (Nat × Instr × Nat × Nat) := [(0, .iload_n 1, 1, 1), (1, .iconst 0, 1, 2), (2, .iconst 1, 1, 3), (3, .invokestatic 92, 3, 6), (6, .ifCond .ne 6, 3, 9), (9, .bipush (-2), 2, 11), (11, .ireturn, 1, 12), (12, .aload_n 0, 1, 13), (13, .aload_n 0, 1, 14), (14, .invokevirtual 177, 3, 17), (17, .invokevirtual 225, 3, 20), (20, .iload_n 1, 1, 21), (21, .ifCond .ne 13, 3, 24), (24, .aload_n 0, 1, 25), (25, .getfield 47, 3, 28), (28, .getfield 232, 3, 31), (31, .goto 10, 3, 34), (34, .aload_n 0, 1, 35), (35, .getfield 47, 3, 38), (38, .getfield 235, 3, 41), (41, .ireturn, 1, 42)]
theorem hX9_ordered : ∀ q ∈ eX9_ordered, decode cX9_ordered q.1 = .ok (q.2.1, q.2.2.1) ∧ q.1 + q.2.2.1 = q.2.2.2 := by decide +kernel
theorem dX9_ordered (i : Nat) {pc : Nat} {ins : Instr} {len pc' : Nat} (hi : eX9_ordered[i]? = some (pc, ins, len, pc')) : q_d cX9_ordered pc ins len pc' := q_dt hX9_ordered i hi
abbrev MX9_mostLiking : MM := (yX9_mostLiking, cX9_mostLiking, 6, some .int)
def eX9_mostLiking : List (Nat × Instr × Nat × Nat) := [(0, .iconst 0, 1, 1), (1, .istore 4, 2, 3), (3, .iconst 0, 1, 4), (4, .istore 5, 2, 6), (6, .iload 5, 2, 8), (8, .aload_n 0, 1, 9), (9, .getfield 19, 3, 12), (12, .getfield 81, 3, 15), (15, .if_icmp .ge 33, 3, 18), (18, .iload_n 3, 1, 19), (19, .iload 5, 2, 21), (21, .ishr, 1, 22), (22, .iconst 1, 1, 23), (23, .iand, 1, 24), (24, .ifCond .eq 18, 3, 27), (27, .iload 4, 2, 29), (29, .aload_n 0, 1, 30), (30, .aload_n 1, 1, 31), (31, .iload_n 2, 1, 32), (32, .iload 5, 2, 34), (34, .invokevirtual 339, 3, 37), (37, .invokestatic 342, 3, 40), (40, .istore 4, 2, 42), (42, .iinc 5 1, 3, 45), (45, .goto (-39), 3, 48), (48, .iload 4, 2, 50), (50, .ireturn, 1, 51)]
theorem hX9_mostLiking : ∀ q ∈ eX9_mostLiking, decode cX9_mostLiking q.1 = .ok (q.2.1, q.2.2.1) ∧ q.1 + q.2.2.1 = q.2.2.2 := by decide +kernel
theorem dX9_mostLiking (i : Nat) {pc : Nat} {ins : Instr} {len pc' : Nat} (hi : eX9_mostLiking[i]? = some (pc, ins, len, pc')) : q_d cX9_mostLiking pc ins len pc' := q_dt hX9_mostLiking i hi
abbrev MX9_middle : MM := (yX9_middle, cX9_middle, 5, some .int)
def eX9_middle : List (Nat × Instr × Nat × Nat) := [(0, .iload_n 1, 1, 1), (1, .iconst 0, 1, 2), (2, .aload_n 0, 1, 3), (3, .getfield 19, 3, 6), (6, .invokevirtual 238, 3, 9), (9, .invokestatic 92, 3, 12), (12, .ifCond .ne 6, 3, 15), (15, .bipush (-2), 2, 17), (17, .ireturn, 1, 18), (18, .aload_n 0, 1, 19), (19, .invokevirtual 177, 3, 22), (22, .astore_n 2, 1, 23), (23, .iconst 0, 1, 24), (24, .istore_n 3, 1, 25), (25, .iconst 0, 1, 26), (26, .istore 4, 2, 28), (28, .iload 4, 2, 30), (30, .aload_n 0, 1, 31), (31, .getfield 113, 3, 34), (34, .if_icmp .ge 28, 3, 37), (37, .iload_n 3, 1, 38), (38, .aload_n 0, 1, 39), (39, .aload_n 2, 1, 40), (40, .iload 4, 2, 42), (42, .iload_n 1, 1, 43), (43, .aload_n 0, 1, 44), (44, .aload_n 2, 1, 45), (45, .iload 4, 2, 47), (47, .invokevirtual 218, 3, 50), (50, .iand, 1, 51), (51, .invokevirtual 241, 3, 54), (54, .iadd, 1, 55), (55, .istore_n 3, 1, 56), (56, .iinc 4 1, 3, 59), (59, .goto (-31), 3, 62), (62, .iload_n 3, 1, 63), (63, .ireturn, 1, 64)]
theorem hX9_middle : ∀ q ∈ eX9_middle, decode cX9_middle q.1 = .ok (q.2.1, q.2.2.1) ∧ q.1 + q.2.2.1 = q.2.2.2 := by decide +kernel
theorem dX9_middle (i : Nat) {pc : Nat} {ins : Instr} {len pc' : Nat} (hi : eX9_middle[i]? = some (pc, ins, len, pc')) : q_d cX9_middle pc ins len pc' := q_dt hX9_middle i hi
abbrev MX9_teaching : MM := (yX9_teaching, cX9_teaching, 6, some .int)
def eX9_teaching : List (Nat × Instr × Nat × Nat) := [(0, .iconst 0, 1, 1), (1, .istore_n 3, 1, 2), (2, .iconst 0, 1, 3), (3, .istore 4, 2, 5), (5, .iload 4, 2, 7), (7, .bipush 64, 2, 9), (9, .if_icmp .ge 55, 3, 12), (12, .aload_n 1, 1, 13), (13, .iload_n 2, 1, 14), (14, .iload 4, 2, 16), (16, .invokevirtual 336, 3, 19), (19, .istore 5, 2, 21), (21, .iload 5, 2, 23), (23, .ifCond .le 35, 3, 26), (26, .iload_n 3, 1, 27), (27, .iload 5, 2, 29), (29, .aload_n 0, 1, 30), (30, .getfield 33, 3, 33), (33, .aload_n 0, 1, 34), (34, .getfield 125, 3, 37), (37, .iconst 2, 1, 38), (38, .aload_n 0, 1, 39), (39, .getfield 19, 3, 42), (42, .iload_n 2, 1, 43), (43, .invokevirtual 100, 3, 46), (46, .iload 4, 2, 48), (48, .iload_n 2, 1, 49), (49, .iconst 0, 1, 50), (50, .iload 5, 2, 52), (52, .invokevirtual 148, 3, 55), (55, .imul, 1, 56), (56, .iadd, 1, 57), (57, .istore_n 3, 1, 58), (58, .iinc 4 1, 3, 61), (61, .goto (-56), 3, 64), (64, .iload_n 3, 1, 65), (65, .ireturn, 1, 66)]
theorem hX9_teaching : ∀ q ∈ eX9_teaching, decode cX9_teaching q.1 = .ok (q.2.1, q.2.2.1) ∧ q.1 + q.2.2.1 = q.2.2.2 := by decide +kernel
theorem dX9_teaching (i : Nat) {pc : Nat} {ins : Instr} {len pc' : Nat} (hi : eX9_teaching[i]? = some (pc, ins, len, pc')) : q_d cX9_teaching pc ins len pc' := q_dt hX9_teaching i hi
abbrev MX9_taste : MM := (yX9_taste, cX9_taste, 7, some .int)
def eX9_taste : List (Nat × Instr × Nat × Nat) := [(0, .iload_n 1, 1, 1), (1, .iconst 0, 1, 2), (2, .iconst 1, 1, 3), (3, .invokestatic 92, 3, 6), (6, .ifCond .ne 6, 3, 9), (9, .bipush (-2), 2, 11), (11, .ireturn, 1, 12), (12, .aload_n 0, 1, 13), (13, .invokevirtual 177, 3, 16), (16, .astore_n 2, 1, 17), (17, .iconst (-1), 1, 18), (18, .istore_n 3, 1, 19), (19, .iconst 0, 1, 20), (20, .istore 4, 2, 22), (22, .iconst 0, 1, 23), (23, .istore 5, 2, 25), (25, .iload 5, 2, 27), (27, .aload_n 0, 1, 28), (28, .getfield 19, 3, 31), (31, .getfield 81, 3, 34), (34, .if_icmp .ge 37, 3, 37), (37, .aload_n 0, 1, 38), (38, .aload_n 2, 1, 39), (39, .iload 5, 2, 41), (41, .invokevirtual 245, 3, 44), (44, .istore 6, 2, 46), (46, .iload_n 3, 1, 47), (47, .iconst (-1), 1, 48), (48, .if_icmp .eq 10, 3, 51), (51, .iload 6, 2, 53), (53, .iload 4, 2, 55), (55, .if_icmp .le 10, 3, 58), (58, .iload 5, 2, 60), (60, .istore_n 3, 1, 61), (61, .iload 6, 2, 63), (63, .istore 4, 2, 65), (65, .iinc 5 1, 3, 68), (68, .goto (-43), 3, 71), (71, .iload_n 1, 1, 72), (72, .ifCond .ne 7, 3, 75), (75, .iload_n 3, 1, 76), (76, .goto 5, 3, 79), (79, .iload 4, 2, 81), (81, .ireturn, 1, 82)]
theorem hX9_taste : ∀ q ∈ eX9_taste, decode cX9_taste q.1 = .ok (q.2.1, q.2.2.1) ∧ q.1 + q.2.2.1 = q.2.2.2 := by decide +kernel
theorem dX9_taste (i : Nat) {pc : Nat} {ins : Instr} {len pc' : Nat} (hi : eX9_taste[i]? = some (pc, ins, len, pc')) : q_d cX9_taste pc ins len pc' := q_dt hX9_taste i hi
abbrev MX9_two : MM := (yX9_two, cX9_two, 8, some .int)
def eX9_two_0 : List (Nat × Instr × Nat × Nat) := [(0, .iload_n 1, 1, 1), (1, .iconst 0, 1, 2), (2, .iconst 1, 1, 3), (3, .invokestatic 92, 3, 6), (6, .ifCond .ne 6, 3, 9), (9, .bipush (-2), 2, 11), (11, .ireturn, 1, 12), (12, .aload_n 0, 1, 13), (13, .invokevirtual 177, 3, 16), (16, .astore_n 2, 1, 17), (17, .iconst (-1), 1, 18), (18, .istore_n 3, 1, 19), (19, .iconst 0, 1, 20), (20, .istore 4, 2, 22), (22, .iconst 0, 1, 23), (23, .istore 5, 2, 25), (25, .iload 5, 2, 27), (27, .aload_n 0, 1, 28), (28, .getfield 19, 3, 31), (31, .getfield 81, 3, 34), (34, .if_icmp .ge 72, 3, 37), (37, .iload 5, 2, 39), (39, .iconst 1, 1, 40), (40, .iadd, 1, 41), (41, .istore 6, 2, 43), (43, .iload 6, 2, 45), (45, .aload_n 0, 1, 46), (46, .getfield 19, 3, 49), (49, .getfield 81, 3, 52), (52, .if_icmp .ge 48, 3, 55), (55, .aload_n 2, 1, 56), (56, .aload_n 0, 1, 57), (57, .getfield 19, 3, 60), (60, .iload 5, 2, 62), (62, .iload 6, 2, 64), (64, .invokevirtual 248, 3, 67), (67, .istore 7, 2, 69), (69, .iload_n 3, 1, 70), (70, .iconst (-1), 1, 71), (71, .if_icmp .eq 10, 3, 74), (74, .iload 7, 2, 76), (76, .iload 4, 2, 78), (78, .if_icmp .ge 16, 3, 81), (81, .bipush 10, 2, 83), (83, .iload 5, 2, 85), (85, .imul, 1, 86), (86, .iload 6, 2, 88), (88, .iadd, 1, 89), (89, .istore_n 3, 1, 90), (90, .iload 7, 2, 92), (92, .istore 4, 2, 94), (94, .iinc 6 1, 3, 97), (97, .goto (-54), 3, 100), (100, .iinc 5 1, 3, 103), (103, .goto (-78), 3, 106), (106, .iload_n 1, 1, 107), (107, .ifCond .ne 7, 3, 110), (110, .iload_n 3, 1, 111), (111, .goto 5, 3, 114), (114, .iload 4, 2, 116)]
theorem hX9_two_0 : ∀ q ∈ eX9_two_0, decode cX9_two q.1 = .ok (q.2.1, q.2.2.1) ∧ q.1 + q.2.2.1 = q.2.2.2 := by decide +kernel
theorem dX9_two_0 (i : Nat) {pc : Nat} {ins : Instr} {len pc' : Nat} (hi : eX9_two_0[i]? = some (pc, ins, len, pc')) : q_d cX9_two pc ins len pc' := q_dt hX9_two_0 i hi
def eX9_two_1 : List (Nat × Instr × Nat × Nat) := [(116, .ireturn, 1, 117)]
theorem hX9_two_1 : ∀ q ∈ eX9_two_1, decode cX9_two q.1 = .ok (q.2.1, q.2.2.1) ∧ q.1 + q.2.2.1 = q.2.2.2 := by decide +kernel
theorem dX9_two_1 (i : Nat) {pc : Nat} {ins : Instr} {len pc' : Nat} (hi : eX9_two_1[i]? = some (pc, ins, len, pc')) : q_d cX9_two pc ins len pc' := q_dt hX9_two_1 i hi
abbrev MX9_ask : MM := (yX9_ask, cX9_ask, 9, some .int)
def eX9_ask_0 : List (Nat × Instr × Nat × Nat) := [(0, .iload_n 1, 1, 1), (1, .iconst 0, 1, 2), (2, .iconst 1, 1, 3), (3, .invokestatic 92, 3, 6), (6, .ifCond .ne 6, 3, 9), (9, .bipush (-2), 2, 11), (11, .ireturn, 1, 12), (12, .aload_n 0, 1, 13), (13, .invokevirtual 177, 3, 16), (16, .astore_n 2, 1, 17), (17, .iconst (-1), 1, 18), (18, .istore_n 3, 1, 19), (19, .iconst 0, 1, 20), (20, .istore 4, 2, 22), (22, .iconst 0, 1, 23), (23, .istore 5, 2, 25), (25, .iload 5, 2, 27), (27, .aload_n 0, 1, 28), (28, .getfield 19, 3, 31), (31, .getfield 81, 3, 34), (34, .if_icmp .ge 76, 3, 37), (37, .iconst 0, 1, 38), (38, .istore 6, 2, 40), (40, .iload 6, 2, 42), (42, .bipush 6, 2, 44), (44, .if_icmp .ge 60, 3, 47), (47, .aload_n 2, 1, 48), (48, .iload 5, 2, 50), (50, .iconst 1, 1, 51), (51, .iload 6, 2, 53), (53, .ishl, 1, 54), (54, .invokevirtual 209, 3, 57), (57, .istore 7, 2, 59), (59, .iload 7, 2, 61), (61, .aload_n 2, 1, 62), (62, .getfield 181, 3, 65), (65, .iload 7, 2, 67), (67, .isub, 1, 68), (68, .invokestatic 252, 3, 71), (71, .istore 8, 2, 73), (73, .iload_n 3, 1, 74), (74, .iconst (-1), 1, 75), (75, .if_icmp .eq 10, 3, 78), (78, .iload 8, 2, 80), (80, .iload 4, 2, 82), (82, .if_icmp .le 16, 3, 85), (85, .bipush 10, 2, 87), (87, .iload 5, 2, 89), (89, .imul, 1, 90), (90, .iload 6, 2, 92), (92, .iadd, 1, 93), (93, .istore_n 3, 1, 94), (94, .iload 8, 2, 96), (96, .istore 4, 2, 98), (98, .iinc 6 1, 3, 101), (101, .goto (-61), 3, 104), (104, .iinc 5 1, 3, 107), (107, .goto (-82), 3, 110), (110, .iload_n 1, 1, 111), (111, .ifCond .ne 7, 3, 114)]
theorem hX9_ask_0 : ∀ q ∈ eX9_ask_0, decode cX9_ask q.1 = .ok (q.2.1, q.2.2.1) ∧ q.1 + q.2.2.1 = q.2.2.2 := by decide +kernel
theorem dX9_ask_0 (i : Nat) {pc : Nat} {ins : Instr} {len pc' : Nat} (hi : eX9_ask_0[i]? = some (pc, ins, len, pc')) : q_d cX9_ask pc ins len pc' := q_dt hX9_ask_0 i hi
def eX9_ask_1 : List (Nat × Instr × Nat × Nat) := [(114, .iload_n 3, 1, 115), (115, .goto 5, 3, 118), (118, .iload 4, 2, 120), (120, .ireturn, 1, 121)]
theorem hX9_ask_1 : ∀ q ∈ eX9_ask_1, decode cX9_ask q.1 = .ok (q.2.1, q.2.2.1) ∧ q.1 + q.2.2.1 = q.2.2.2 := by decide +kernel
theorem dX9_ask_1 (i : Nat) {pc : Nat} {ins : Instr} {len pc' : Nat} (hi : eX9_ask_1[i]? = some (pc, ins, len, pc')) : q_d cX9_ask pc ins len pc' := q_dt hX9_ask_1 i hi
abbrev MX9_would : MM := (yX9_would, cX9_would, 9, some .int)
def eX9_would : List (Nat × Instr × Nat × Nat) := [(0, .aload_n 0, 1, 1), (1, .getfield 26, 3, 4), (4, .getfield 123, 3, 7), (7, .bipush 12, 2, 9), (9, .if_icmp .lt 6, 3, 12), (12, .bipush (-3), 2, 14), (14, .ireturn, 1, 15), (15, .aload_n 0, 1, 16), (16, .iload_n 1, 1, 17), (17, .iload_n 2, 1, 18), (18, .iload_n 3, 1, 19), (19, .iload 4, 2, 21), (21, .invokevirtual 152, 3, 24), (24, .ifCond .ne 6, 3, 27), (27, .bipush (-2), 2, 29), (29, .ireturn, 1, 30), (30, .aload_n 0, 1, 31), (31, .invokevirtual 177, 3, 34), (34, .astore 5, 2, 36), (36, .iconst 0, 1, 37), (37, .istore 6, 2, 39), (39, .iconst 0, 1, 40), (40, .istore 7, 2, 42), (42, .iload 7, 2, 44), (44, .aload 5, 2, 46), (46, .getfield 181, 3, 49), (49, .if_icmp .ge 52, 3, 52), (52, .aload 5, 2, 54), (54, .iload 7, 2, 56), (56, .invokevirtual 185, 3, 59), (59, .istore 8, 2, 61), (61, .iload_n 1, 1, 62), (62, .iload_n 3, 1, 63), (63, .iload 4, 2, 65), (65, .aload_n 0, 1, 66), (66, .getfield 19, 3, 69), (69, .iload_n 2, 1, 70), (70, .iload 8, 2, 72), (72, .invokevirtual 257, 3, 75), (75, .aload_n 0, 1, 76), (76, .getfield 19, 3, 79), (79, .iload 4, 2, 81), (81, .iload 8, 2, 83), (83, .invokevirtual 257, 3, 86), (86, .invokestatic 260, 3, 89), (89, .ifCond .eq 6, 3, 92), (92, .iinc 6 1, 3, 95), (95, .iinc 7 1, 3, 98), (98, .goto (-56), 3, 101), (101, .iload 6, 2, 103), (103, .ireturn, 1, 104)]
theorem hX9_would : ∀ q ∈ eX9_would, decode cX9_would q.1 = .ok (q.2.1, q.2.2.1) ∧ q.1 + q.2.2.1 = q.2.2.2 := by decide +kernel
theorem dX9_would (i : Nat) {pc : Nat} {ins : Instr} {len pc' : Nat} (hi : eX9_would[i]? = some (pc, ins, len, pc')) : q_d cX9_would pc ins len pc' := q_dt hX9_would i hi
abbrev MX9_clash : MM := (yX9_clash, cX9_clash, 2, some .int)
def eX9_clash : List (Nat × Instr × Nat × Nat) := [(0, .aload_n 0, 1, 1), (1, .invokevirtual 177, 3, 4), (4, .astore_n 1, 1, 5), (5, .aload_n 1, 1, 6), (6, .getfield 181, 3, 9), (9, .ifCond .ne 10, 3, 12), (12, .aload_n 1, 1, 13), (13, .getfield 264, 3, 16), (16, .goto 4, 3, 19), (19, .iconst 0, 1, 20), (20, .ireturn, 1, 21)]
theorem hX9_clash : ∀ q ∈ eX9_clash, decode cX9_clash q.1 = .ok (q.2.1, q.2.2.1) ∧ q.1 + q.2.2.1 = q.2.2.2 := by decide +kernel
theorem dX9_clash (i : Nat) {pc : Nat} {ins : Instr} {len pc' : Nat} (hi : eX9_clash[i]? = some (pc, ins, len, pc')) : q_d cX9_clash pc ins len pc' := q_dt hX9_clash i hi
abbrev MX9_idle : MM := (yX9_idle, cX9_idle, 3, some .int)
def eX9_idle : List (Nat × Instr × Nat × Nat) := [(0, .aload_n 0, 1, 1), (1, .invokevirtual 177, 3, 4), (4, .astore_n 1, 1, 5), (5, .iconst 1, 1, 6), (6, .aload_n 0, 1, 7), (7, .getfield 26, 3, 10), (10, .getfield 123, 3, 13), (13, .ishl, 1, 14), (14, .iconst 1, 1, 15), (15, .isub, 1, 16), (16, .istore_n 2, 1, 17), (17, .iload_n 2, 1, 18), (18, .aload_n 1, 1, 19), (19, .getfield 264, 3, 22), (22, .iconst (-1), 1, 23), (23, .ixor, 1, 24), (24, .iand, 1, 25), (25, .ireturn, 1, 26)]
theorem hX9_idle : ∀ q ∈ eX9_idle, decode cX9_idle q.1 = .ok (q.2.1, q.2.2.1) ∧ q.1 + q.2.2.1 = q.2.2.2 := by decide +kernel
theorem dX9_idle (i : Nat) {pc : Nat} {ins : Instr} {len pc' : Nat} (hi : eX9_idle[i]? = some (pc, ins, len, pc')) : q_d cX9_idle pc ins len pc' := q_dt hX9_idle i hi
abbrev MX9_bill : MM := (yX9_bill, cX9_bill, 9, some .int)
def eX9_bill_0 : List (Nat × Instr × Nat × Nat) := [(0, .iload_n 1, 1, 1), (1, .iconst 0, 1, 2), (2, .bipush 10, 2, 4), (4, .invokestatic 92, 3, 7), (7, .ifCond .eq 23, 3, 10), (10, .iload_n 2, 1, 11), (11, .iconst 0, 1, 12), (12, .sipush 999, 3, 15), (15, .invokestatic 92, 3, 18), (18, .ifCond .eq 12, 3, 21), (21, .iload_n 3, 1, 22), (22, .iconst 0, 1, 23), (23, .iconst 2, 1, 24), (24, .invokestatic 92, 3, 27), (27, .ifCond .ne 6, 3, 30), (30, .bipush (-2), 2, 32), (32, .ireturn, 1, 33), (33, .aload_n 0, 1, 34), (34, .getfield 19, 3, 37), (37, .invokevirtual 238, 3, 40), (40, .istore 4, 2, 42), (42, .iconst 0, 1, 43), (43, .istore 5, 2, 45), (45, .iload 4, 2, 47), (47, .istore 6, 2, 49), (49, .iconst 0, 1, 50), (50, .istore 7, 2, 52), (52, .iconst 0, 1, 53), (53, .istore 8, 2, 55), (55, .iload 8, 2, 57), (57, .iload 4, 2, 59), (59, .if_icmp .gt 48, 3, 62), (62, .iload 8, 2, 64), (64, .invokestatic 267, 3, 67), (67, .iload_n 1, 1, 68), (68, .if_icmp .ne 33, 3, 71), (71, .aload_n 0, 1, 72), (72, .getfield 19, 3, 75), (75, .iload 8, 2, 77), (77, .invokevirtual 272, 3, 80), (80, .iload_n 2, 1, 81), (81, .if_icmp .ne 20, 3, 84), (84, .iinc 5 1, 3, 87), (87, .iload 6, 2, 89), (89, .iload 8, 2, 91), (91, .iand, 1, 92), (92, .istore 6, 2, 94), (94, .iload 7, 2, 96), (96, .iload 8, 2, 98), (98, .ior, 1, 99), (99, .istore 7, 2, 101), (101, .iinc 8 1, 3, 104), (104, .goto (-49), 3, 107), (107, .iload_n 3, 1, 108), (108, .ifCond .eq 8, 3, 111), (111, .iload 5, 2, 113), (113, .ifCond .ne 6, 3, 116), (116, .iload 5, 2, 118), (118, .ireturn, 1, 119), (119, .iload_n 3, 1, 120)]
theorem hX9_bill_0 : ∀ q ∈ eX9_bill_0, decode cX9_bill q.1 = .ok (q.2.1, q.2.2.1) ∧ q.1 + q.2.2.1 = q.2.2.2 := by decide +kernel
theorem dX9_bill_0 (i : Nat) {pc : Nat} {ins : Instr} {len pc' : Nat} (hi : eX9_bill_0[i]? = some (pc, ins, len, pc')) : q_d cX9_bill pc ins len pc' := q_dt hX9_bill_0 i hi
def eX9_bill_1 : List (Nat × Instr × Nat × Nat) := [(120, .iconst 1, 1, 121), (121, .if_icmp .ne 8, 3, 124), (124, .iload 6, 2, 126), (126, .goto 5, 3, 129), (129, .iload 7, 2, 131), (131, .ireturn, 1, 132)]
theorem hX9_bill_1 : ∀ q ∈ eX9_bill_1, decode cX9_bill q.1 = .ok (q.2.1, q.2.2.1) ∧ q.1 + q.2.2.1 = q.2.2.2 := by decide +kernel
theorem dX9_bill_1 (i : Nat) {pc : Nat} {ins : Instr} {len pc' : Nat} (hi : eX9_bill_1[i]? = some (pc, ins, len, pc')) : q_d cX9_bill pc ins len pc' := q_dt hX9_bill_1 i hi
abbrev MX9_isSheet : MM := (yX9_isSheet, cX9_isSheet, 1, some .boolean)
def eX9_isSheet : List (Nat × Instr × Nat × Nat) := [(0, .iload_n 0, 1, 1), (1, .iconst 0, 1, 2), (2, .iconst 3, 1, 3), (3, .invokestatic 92, 3, 6), (6, .ireturn, 1, 7)]
theorem hX9_isSheet : ∀ q ∈ eX9_isSheet, decode cX9_isSheet q.1 = .ok (q.2.1, q.2.2.1) ∧ q.1 + q.2.2.1 = q.2.2.2 := by decide +kernel
theorem dX9_isSheet (i : Nat) {pc : Nat} {ins : Instr} {len pc' : Nat} (hi : eX9_isSheet[i]? = some (pc, ins, len, pc')) : q_d cX9_isSheet pc ins len pc' := q_dt hX9_isSheet i hi
abbrev MX9_isMeal : MM := (yX9_isMeal, cX9_isMeal, 4, some .boolean)
def eX9_isMeal : List (Nat × Instr × Nat × Nat) := [(0, .iconst 0, 1, 1), (1, .istore_n 3, 1, 2), (2, .iload_n 3, 1, 3), (3, .aload_n 0, 1, 4), (4, .getfield 19, 3, 7), (7, .getfield 81, 3, 10), (10, .if_icmp .ge 32, 3, 13), (13, .aload_n 0, 1, 14), (14, .getfield 61, 3, 17), (17, .iload_n 1, 1, 18), (18, .iload_n 3, 1, 19), (19, .invokevirtual 321, 3, 22), (22, .aload_n 0, 1, 23), (23, .getfield 19, 3, 26), (26, .iload_n 3, 1, 27), (27, .iload_n 2, 1, 28), (28, .invokevirtual 257, 3, 31), (31, .if_icmp .eq 5, 3, 34), (34, .iconst 0, 1, 35), (35, .ireturn, 1, 36), (36, .iinc 3 1, 3, 39), (39, .goto (-37), 3, 42), (42, .iconst 1, 1, 43), (43, .ireturn, 1, 44)]
theorem hX9_isMeal : ∀ q ∈ eX9_isMeal, decode cX9_isMeal q.1 = .ok (q.2.1, q.2.2.1) ∧ q.1 + q.2.2.1 = q.2.2.2 := by decide +kernel
theorem dX9_isMeal (i : Nat) {pc : Nat} {ins : Instr} {len pc' : Nat} (hi : eX9_isMeal[i]? = some (pc, ins, len, pc')) : q_d cX9_isMeal pc ins len pc' := q_dt hX9_isMeal i hi
abbrev MX9_match : MM := (yX9_match, cX9_match, 5, some .int)
def eX9_match : List (Nat × Instr × Nat × Nat) := [(0, .iload_n 1, 1, 1), (1, .invokestatic 275, 3, 4), (4, .ifCond .ne 6, 3, 7), (7, .bipush (-2), 2, 9), (9, .ireturn, 1, 10), (10, .aload_n 0, 1, 11), (11, .getfield 61, 3, 14), (14, .iload_n 1, 1, 15), (15, .invokevirtual 278, 3, 18), (18, .ifCond .eq 6, 3, 21), (21, .bipush (-11), 2, 23), (23, .ireturn, 1, 24), (24, .aload_n 0, 1, 25), (25, .getfield 61, 3, 28), (28, .iload_n 1, 1, 29), (29, .invokevirtual 281, 3, 32), (32, .aload_n 0, 1, 33), (33, .getfield 19, 3, 36), (36, .getfield 81, 3, 39), (39, .if_icmp .eq 6, 3, 42), (42, .bipush (-2), 2, 44), (44, .ireturn, 1, 45), (45, .aload_n 0, 1, 46), (46, .invokevirtual 177, 3, 49), (49, .astore_n 2, 1, 50), (50, .iconst 0, 1, 51), (51, .istore_n 3, 1, 52), (52, .iconst 0, 1, 53), (53, .istore 4, 2, 55), (55, .iload 4, 2, 57), (57, .aload_n 2, 1, 58), (58, .getfield 181, 3, 61), (61, .if_icmp .ge 26, 3, 64), (64, .aload_n 0, 1, 65), (65, .iload_n 1, 1, 66), (66, .aload_n 2, 1, 67), (67, .iload 4, 2, 69), (69, .invokevirtual 185, 3, 72), (72, .invokevirtual 284, 3, 75), (75, .ifCond .eq 6, 3, 78), (78, .iinc 3 1, 3, 81), (81, .iinc 4 1, 3, 84), (84, .goto (-29), 3, 87), (87, .iload_n 3, 1, 88), (88, .ireturn, 1, 89)]
theorem hX9_match : ∀ q ∈ eX9_match, decode cX9_match q.1 = .ok (q.2.1, q.2.2.1) ∧ q.1 + q.2.2.1 = q.2.2.2 := by decide +kernel
theorem dX9_match (i : Nat) {pc : Nat} {ins : Instr} {len pc' : Nat} (hi : eX9_match[i]? = some (pc, ins, len, pc')) : q_d cX9_match pc ins len pc' := q_dt hX9_match i hi
abbrev MX9_film : MM := (yX9_film, cX9_film, 4, some .int)
def eX9_film : List (Nat × Instr × Nat × Nat) := [(0, .iload_n 1, 1, 1), (1, .invokestatic 275, 3, 4), (4, .ifCond .ne 6, 3, 7), (7, .bipush (-2), 2, 9), (9, .ireturn, 1, 10), (10, .aload_n 0, 1, 11), (11, .invokevirtual 177, 3, 14), (14, .astore_n 2, 1, 15), (15, .aload_n 2, 1, 16), (16, .getfield 181, 3, 19), (19, .ifCond .ne 6, 3, 22), (22, .bipush (-3), 2, 24), (24, .ireturn, 1, 25), (25, .aload_n 0, 1, 26), (26, .getfield 61, 3, 29), (29, .iload_n 1, 1, 30), (30, .iconst 2, 1, 31), (31, .aload_n 0, 1, 32), (32, .getfield 19, 3, 35), (35, .getfield 81, 3, 38), (38, .invokevirtual 287, 3, 41), (41, .iconst 0, 1, 42), (42, .istore_n 3, 1, 43), (43, .iload_n 3, 1, 44), (44, .aload_n 0, 1, 45), (45, .getfield 19, 3, 48), (48, .getfield 81, 3, 51), (51, .if_icmp .ge 31, 3, 54), (54, .aload_n 0, 1, 55), (55, .getfield 61, 3, 58), (58, .iload_n 1, 1, 59), (59, .iload_n 3, 1, 60), (60, .aload_n 0, 1, 61), (61, .getfield 19, 3, 64), (64, .iload_n 3, 1, 65), (65, .aload_n 2, 1, 66), (66, .iconst 0, 1, 67), (67, .invokevirtual 185, 3, 70), (70, .invokevirtual 257, 3, 73), (73, .invokevirtual 291, 3, 76), (76, .iinc 3 1, 3, 79), (79, .goto (-36), 3, 82), (82, .aload_n 0, 1, 83), (83, .getfield 19, 3, 86), (86, .getfield 81, 3, 89), (89, .ireturn, 1, 90)]
theorem hX9_film : ∀ q ∈ eX9_film, decode cX9_film q.1 = .ok (q.2.1, q.2.2.1) ∧ q.1 + q.2.2.1 = q.2.2.2 := by decide +kernel
theorem dX9_film (i : Nat) {pc : Nat} {ins : Instr} {len pc' : Nat} (hi : eX9_film[i]? = some (pc, ins, len, pc')) : q_d cX9_film pc ins len pc' := q_dt hX9_film i hi
abbrev MX9_laws : MM := (yX9_laws, cX9_laws, 3, some .int)
def eX9_laws : List (Nat × Instr × Nat × Nat) := [(0, .iconst 0, 1, 1), (1, .istore_n 1, 1, 2), (2, .iconst 0, 1, 3), (3, .istore_n 2, 1, 4), (4, .iload_n 2, 1, 5), (5, .aload_n 0, 1, 6), (6, .getfield 33, 3, 9), (9, .getfield 124, 3, 12), (12, .if_icmp .ge 38, 3, 15), (15, .aload_n 0, 1, 16), (16, .getfield 40, 3, 19), (19, .aload_n 0, 1, 20), (20, .getfield 19, 3, 23), (23, .aload_n 0, 1, 24), (24, .getfield 26, 3, 27), (27, .aload_n 0, 1, 28), (28, .getfield 33, 3, 31), (31, .iload_n 2, 1, 32), (32, .invokevirtual 294, 3, 35), (35, .ifCond .eq 9, 3, 38), (38, .iload_n 1, 1, 39), (39, .iconst 1, 1, 40), (40, .iload_n 2, 1, 41), (41, .ishl, 1, 42), (42, .ior, 1, 43), (43, .istore_n 1, 1, 44), (44, .iinc 2 1, 3, 47), (47, .goto (-43), 3, 50), (50, .iload_n 1, 1, 51), (51, .ireturn, 1, 52)]
theorem hX9_laws : ∀ q ∈ eX9_laws, decode cX9_laws q.1 = .ok (q.2.1, q.2.2.1) ∧ q.1 + q.2.2.1 = q.2.2.2 := by decide +kernel
theorem dX9_laws (i : Nat) {pc : Nat} {ins : Instr} {len pc' : Nat} (hi : eX9_laws[i]? = some (pc, ins, len, pc')) : q_d cX9_laws pc ins len pc' := q_dt hX9_laws i hi
abbrev MX9_drawn : MM := (yX9_drawn, cX9_drawn, 4, some .int)
def eX9_drawn : List (Nat × Instr × Nat × Nat) := [(0, .iload_n 1, 1, 1), (1, .iconst 0, 1, 2), (2, .ldc_w 298, 3, 5), (5, .invokestatic 92, 3, 8), (8, .ifCond .eq 10, 3, 11), (11, .iload_n 2, 1, 12), (12, .invokestatic 182, 3, 15), (15, .ifCond .ne 6, 3, 18), (18, .bipush (-2), 2, 20), (20, .ireturn, 1, 21), (21, .aload_n 0, 1, 22), (22, .invokevirtual 177, 3, 25), (25, .astore_n 3, 1, 26), (26, .aload_n 3, 1, 27), (27, .getfield 181, 3, 30), (30, .ifCond .ne 7, 3, 33), (33, .iconst (-1), 1, 34), (34, .goto 16, 3, 37), (37, .aload_n 0, 1, 38), (38, .getfield 10, 3, 41), (41, .aload_n 3, 1, 42), (42, .iload_n 1, 1, 43), (43, .invokevirtual 299, 3, 46), (46, .iload_n 2, 1, 47), (47, .invokevirtual 188, 3, 50), (50, .ireturn, 1, 51)]
theorem hX9_drawn : ∀ q ∈ eX9_drawn, decode cX9_drawn q.1 = .ok (q.2.1, q.2.2.1) ∧ q.1 + q.2.2.1 = q.2.2.2 := by decide +kernel
theorem dX9_drawn (i : Nat) {pc : Nat} {ins : Instr} {len pc' : Nat} (hi : eX9_drawn[i]? = some (pc, ins, len, pc')) : q_d cX9_drawn pc ins len pc' := q_dt hX9_drawn i hi
abbrev MX9_chance : MM := (yX9_chance, cX9_chance, 9, some .long)
def eX9_chance_0 : List (Nat × Instr × Nat × Nat) := [(0, .aload_n 0, 1, 1), (1, .iload_n 1, 1, 2), (2, .invokevirtual 116, 3, 5), (5, .ifCond .eq 41, 3, 8), (8, .aload_n 0, 1, 9), (9, .iload_n 2, 1, 10), (10, .invokevirtual 88, 3, 13), (13, .ifCond .eq 33, 3, 16), (16, .iload_n 3, 1, 17), (17, .iconst 0, 1, 18), (18, .ldc_w 298, 3, 21), (21, .invokestatic 92, 3, 24), (24, .ifCond .eq 22, 3, 27), (27, .iload 4, 2, 29), (29, .iconst 1, 1, 30), (30, .bipush 30, 2, 32), (32, .invokestatic 92, 3, 35), (35, .ifCond .eq 11, 3, 38), (38, .iload 5, 2, 40), (40, .invokestatic 200, 3, 43), (43, .ifCond .ne 7, 3, 46), (46, .ldc2_w 203, 3, 49), (49, .lreturn, 1, 50), (50, .aload_n 0, 1, 51), (51, .invokevirtual 177, 3, 54), (54, .astore 6, 2, 56), (56, .aload 6, 2, 58), (58, .getfield 181, 3, 61), (61, .ifCond .ne 7, 3, 64), (64, .ldc2_w 203, 3, 67), (67, .lreturn, 1, 68), (68, .iconst 0, 1, 69), (69, .istore 7, 2, 71), (71, .iconst 0, 1, 72), (72, .istore 8, 2, 74), (74, .iload 8, 2, 76), (76, .iload 4, 2, 78), (78, .if_icmp .ge 41, 3, 81), (81, .aload_n 0, 1, 82), (82, .getfield 19, 3, 85), (85, .iload_n 2, 1, 86), (86, .aload 6, 2, 88), (88, .iload_n 3, 1, 89), (89, .iload 8, 2, 91), (91, .iadd, 1, 92), (92, .invokevirtual 299, 3, 95), (95, .invokevirtual 257, 3, 98), (98, .aload_n 0, 1, 99), (99, .getfield 65, 3, 102), (102, .iload_n 1, 1, 103), (103, .invokestatic 119, 3, 106), (106, .iand, 1, 107), (107, .ifCond .eq 6, 3, 110), (110, .iinc 7 1, 3, 113), (113, .iinc 8 1, 3, 116), (116, .goto (-42), 3, 119), (119, .iload 7, 2, 121), (121, .iload 4, 2, 123), (123, .iload 5, 2, 125), (125, .invokestatic 205, 3, 128)]
theorem hX9_chance_0 : ∀ q ∈ eX9_chance_0, decode cX9_chance q.1 = .ok (q.2.1, q.2.2.1) ∧ q.1 + q.2.2.1 = q.2.2.2 := by decide +kernel
theorem dX9_chance_0 (i : Nat) {pc : Nat} {ins : Instr} {len pc' : Nat} (hi : eX9_chance_0[i]? = some (pc, ins, len, pc')) : q_d cX9_chance pc ins len pc' := q_dt hX9_chance_0 i hi
def eX9_chance_1 : List (Nat × Instr × Nat × Nat) := [(128, .lreturn, 1, 129)]
theorem hX9_chance_1 : ∀ q ∈ eX9_chance_1, decode cX9_chance q.1 = .ok (q.2.1, q.2.2.1) ∧ q.1 + q.2.2.1 = q.2.2.2 := by decide +kernel
theorem dX9_chance_1 (i : Nat) {pc : Nat} {ins : Instr} {len pc' : Nat} (hi : eX9_chance_1[i]? = some (pc, ins, len, pc')) : q_d cX9_chance pc ins len pc' := q_dt hX9_chance_1 i hi
abbrev MX9_image : MM := (yX9_image, cX9_image, 1, some .int)
def eX9_image : List (Nat × Instr × Nat × Nat) := [(0, .aload_n 0, 1, 1), (1, .getfield 54, 3, 4), (4, .iconst 1, 1, 5), (5, .putfield 162, 3, 8), (8, .aload_n 0, 1, 9), (9, .getfield 54, 3, 12), (12, .aload_n 0, 1, 13), (13, .getfield 19, 3, 16), (16, .getfield 81, 3, 19), (19, .putfield 302, 3, 22), (22, .aload_n 0, 1, 23), (23, .getfield 54, 3, 26), (26, .aload_n 0, 1, 27), (27, .getfield 113, 3, 30), (30, .putfield 304, 3, 33), (33, .aload_n 0, 1, 34), (34, .getfield 54, 3, 37), (37, .aload_n 0, 1, 38), (38, .getfield 26, 3, 41), (41, .getfield 123, 3, 44), (44, .putfield 159, 3, 47), (47, .aload_n 0, 1, 48), (48, .getfield 54, 3, 51), (51, .aload_n 0, 1, 52), (52, .getfield 69, 3, 55), (55, .putfield 305, 3, 58), (58, .aload_n 0, 1, 59), (59, .getfield 54, 3, 62), (62, .aload_n 0, 1, 63), (63, .getfield 125, 3, 66), (66, .putfield 306, 3, 69), (69, .aload_n 0, 1, 70), (70, .getfield 19, 3, 73), (73, .getfield 103, 3, 76), (76, .iconst 0, 1, 77), (77, .aload_n 0, 1, 78), (78, .getfield 54, 3, 81), (81, .getfield 307, 3, 84), (84, .iconst 0, 1, 85), (85, .bipush 10, 2, 87), (87, .invokestatic 308, 3, 90), (90, .aload_n 0, 1, 91), (91, .getfield 19, 3, 94), (94, .getfield 81, 3, 97), (97, .ireturn, 1, 98)]
theorem hX9_image : ∀ q ∈ eX9_image, decode cX9_image q.1 = .ok (q.2.1, q.2.2.1) ∧ q.1 + q.2.2.1 = q.2.2.2 := by decide +kernel
theorem dX9_image (i : Nat) {pc : Nat} {ins : Instr} {len pc' : Nat} (hi : eX9_image[i]? = some (pc, ins, len, pc')) : q_d cX9_image pc ins len pc' := q_dt hX9_image i hi
abbrev MX9_back : MM := (yX9_back, cX9_back, 1, some .int)
def eX9_back : List (Nat × Instr × Nat × Nat) := [(0, .aload_n 0, 1, 1), (1, .getfield 54, 3, 4), (4, .getfield 162, 3, 7), (7, .ifCond .ne 6, 3, 10), (10, .bipush (-3), 2, 12), (12, .ireturn, 1, 13), (13, .aload_n 0, 1, 14), (14, .getfield 19, 3, 17), (17, .aload_n 0, 1, 18), (18, .getfield 54, 3, 21), (21, .getfield 302, 3, 24), (24, .putfield 81, 3, 27), (27, .aload_n 0, 1, 28), (28, .aload_n 0, 1, 29), (29, .getfield 54, 3, 32), (32, .getfield 304, 3, 35), (35, .putfield 113, 3, 38), (38, .aload_n 0, 1, 39), (39, .getfield 26, 3, 42), (42, .aload_n 0, 1, 43), (43, .getfield 54, 3, 46), (46, .getfield 159, 3, 49), (49, .putfield 123, 3, 52), (52, .aload_n 0, 1, 53), (53, .aload_n 0, 1, 54), (54, .getfield 54, 3, 57), (57, .getfield 305, 3, 60), (60, .putfield 69, 3, 63), (63, .aload_n 0, 1, 64), (64, .aload_n 0, 1, 65), (65, .getfield 54, 3, 68), (68, .getfield 306, 3, 71), (71, .putfield 125, 3, 74), (74, .aload_n 0, 1, 75), (75, .getfield 54, 3, 78), (78, .getfield 307, 3, 81), (81, .iconst 0, 1, 82), (82, .aload_n 0, 1, 83), (83, .getfield 19, 3, 86), (86, .getfield 103, 3, 89), (89, .iconst 0, 1, 90), (90, .bipush 10, 2, 92), (92, .invokestatic 308, 3, 95), (95, .aload_n 0, 1, 96), (96, .iconst 1, 1, 97), (97, .putfield 73, 3, 100), (100, .aload_n 0, 1, 101), (101, .getfield 19, 3, 104), (104, .getfield 81, 3, 107), (107, .ireturn, 1, 108)]
theorem hX9_back : ∀ q ∈ eX9_back, decode cX9_back q.1 = .ok (q.2.1, q.2.2.1) ∧ q.1 + q.2.2.1 = q.2.2.2 := by decide +kernel
theorem dX9_back (i : Nat) {pc : Nat} {ins : Instr} {len pc' : Nat} (hi : eX9_back[i]? = some (pc, ins, len, pc')) : q_d cX9_back pc ins len pc' := q_dt hX9_back i hi
abbrev MX9_sheet : MM := (yX9_sheet, cX9_sheet, 4, some .int)
def eX9_sheet : List (Nat × Instr × Nat × Nat) := [(0, .iload_n 1, 1, 1), (1, .invokestatic 275, 3, 4), (4, .ifCond .eq 12, 3, 7), (7, .iload_n 2, 1, 8), (8, .iconst (-1), 1, 9), (9, .iconst 2, 1, 10), (10, .invokestatic 92, 3, 13), (13, .ifCond .ne 6, 3, 16), (16, .bipush (-2), 2, 18), (18, .ireturn, 1, 19), (19, .iload_n 2, 1, 20), (20, .iconst (-1), 1, 21), (21, .if_icmp .ne 15, 3, 24), (24, .aload_n 0, 1, 25), (25, .getfield 61, 3, 28), (28, .iload_n 1, 1, 29), (29, .iconst (-1), 1, 30), (30, .iconst 0, 1, 31), (31, .invokevirtual 287, 3, 34), (34, .iconst 1, 1, 35), (35, .ireturn, 1, 36), (36, .iload_n 3, 1, 37), (37, .bipush 40, 2, 39), (39, .if_icmp .le 6, 3, 42), (42, .bipush (-2), 2, 44), (44, .ireturn, 1, 45), (45, .iload_n 3, 1, 46), (46, .ifCond .ge 6, 3, 49), (49, .bipush (-14), 2, 51), (51, .ireturn, 1, 52), (52, .aload_n 0, 1, 53), (53, .getfield 61, 3, 56), (56, .iload_n 1, 1, 57), (57, .iload_n 2, 1, 58), (58, .iload_n 3, 1, 59), (59, .invokevirtual 287, 3, 62), (62, .iconst 1, 1, 63), (63, .ireturn, 1, 64)]
theorem hX9_sheet : ∀ q ∈ eX9_sheet, decode cX9_sheet q.1 = .ok (q.2.1, q.2.2.1) ∧ q.1 + q.2.2.1 = q.2.2.2 := by decide +kernel
theorem dX9_sheet (i : Nat) {pc : Nat} {ins : Instr} {len pc' : Nat} (hi : eX9_sheet[i]? = some (pc, ins, len, pc')) : q_d cX9_sheet pc ins len pc' := q_dt hX9_sheet i hi
abbrev MX9_cell : MM := (yX9_cell, cX9_cell, 4, some .int)
def eX9_cell : List (Nat × Instr × Nat × Nat) := [(0, .iload_n 1, 1, 1), (1, .invokestatic 275, 3, 4), (4, .ifCond .ne 6, 3, 7), (7, .bipush (-2), 2, 9), (9, .ireturn, 1, 10), (10, .aload_n 0, 1, 11), (11, .getfield 61, 3, 14), (14, .iload_n 1, 1, 15), (15, .invokevirtual 278, 3, 18), (18, .ifCond .eq 6, 3, 21), (21, .bipush (-11), 2, 23), (23, .ireturn, 1, 24), (24, .iload_n 2, 1, 25), (25, .iconst 0, 1, 26), (26, .aload_n 0, 1, 27), (27, .getfield 61, 3, 30), (30, .iload_n 1, 1, 31), (31, .invokevirtual 281, 3, 34), (34, .iconst 1, 1, 35), (35, .isub, 1, 36), (36, .invokestatic 92, 3, 39), (39, .ifCond .ne 6, 3, 42), (42, .bipush (-12), 2, 44), (44, .ireturn, 1, 45), (45, .aload_n 0, 1, 46), (46, .getfield 61, 3, 49), (49, .iload_n 1, 1, 50), (50, .iload_n 2, 1, 51), (51, .iload_n 3, 1, 52), (52, .invokevirtual 291, 3, 55), (55, .iconst 1, 1, 56), (56, .ireturn, 1, 57)]
theorem hX9_cell : ∀ q ∈ eX9_cell, decode cX9_cell q.1 = .ok (q.2.1, q.2.2.1) ∧ q.1 + q.2.2.1 = q.2.2.2 := by decide +kernel
theorem dX9_cell (i : Nat) {pc : Nat} {ins : Instr} {len pc' : Nat} (hi : eX9_cell[i]? = some (pc, ins, len, pc')) : q_d cX9_cell pc ins len pc' := q_dt hX9_cell i hi
abbrev MX9_copy : MM := (yX9_copy, cX9_copy, 6, some .int)
def eX9_copy_0 : List (Nat × Instr × Nat × Nat) := [(0, .iload_n 1, 1, 1), (1, .invokestatic 275, 3, 4), (4, .ifCond .eq 10, 3, 7), (7, .iload_n 3, 1, 8), (8, .invokestatic 275, 3, 11), (11, .ifCond .ne 6, 3, 14), (14, .bipush (-2), 2, 16), (16, .ireturn, 1, 17), (17, .aload_n 0, 1, 18), (18, .getfield 61, 3, 21), (21, .iload_n 1, 1, 22), (22, .invokevirtual 278, 3, 25), (25, .ifCond .ne 14, 3, 28), (28, .aload_n 0, 1, 29), (29, .getfield 61, 3, 32), (32, .iload_n 3, 1, 33), (33, .invokevirtual 278, 3, 36), (36, .ifCond .eq 6, 3, 39), (39, .bipush (-11), 2, 41), (41, .ireturn, 1, 42), (42, .aload_n 0, 1, 43), (43, .getfield 61, 3, 46), (46, .iload_n 1, 1, 47), (47, .invokevirtual 314, 3, 50), (50, .aload_n 0, 1, 51), (51, .getfield 61, 3, 54), (54, .iload_n 3, 1, 55), (55, .invokevirtual 314, 3, 58), (58, .if_icmp .eq 6, 3, 61), (61, .bipush (-13), 2, 63), (63, .ireturn, 1, 64), (64, .iload 5, 2, 66), (66, .ifCond .lt 42, 3, 69), (69, .iload_n 2, 1, 70), (70, .iconst 0, 1, 71), (71, .aload_n 0, 1, 72), (72, .getfield 61, 3, 75), (75, .iload_n 1, 1, 76), (76, .invokevirtual 281, 3, 79), (79, .iload 5, 2, 81), (81, .isub, 1, 82), (82, .invokestatic 92, 3, 85), (85, .ifCond .eq 23, 3, 88), (88, .iload 4, 2, 90), (90, .iconst 0, 1, 91), (91, .aload_n 0, 1, 92), (92, .getfield 61, 3, 95), (95, .iload_n 3, 1, 96), (96, .invokevirtual 281, 3, 99), (99, .iload 5, 2, 101), (101, .isub, 1, 102), (102, .invokestatic 92, 3, 105), (105, .ifCond .ne 6, 3, 108), (108, .bipush (-12), 2, 110), (110, .ireturn, 1, 111), (111, .aload_n 0, 1, 112), (112, .getfield 61, 3, 115), (115, .iload_n 1, 1, 116), (116, .iload_n 2, 1, 117), (117, .iload_n 3, 1, 118)]
theorem hX9_copy_0 : ∀ q ∈ eX9_copy_0, decode cX9_copy q.1 = .ok (q.2.1, q.2.2.1) ∧ q.1 + q.2.2.1 = q.2.2.2 := by decide +kernel
theorem dX9_copy_0 (i : Nat) {pc : Nat} {ins : Instr} {len pc' : Nat} (hi : eX9_copy_0[i]? = some (pc, ins, len, pc')) : q_d cX9_copy pc ins len pc' := q_dt hX9_copy_0 i hi
def eX9_copy_1 : List (Nat × Instr × Nat × Nat) := [(118, .iload 4, 2, 120), (120, .iload 5, 2, 122), (122, .invokevirtual 317, 3, 125), (125, .iload 5, 2, 127), (127, .ireturn, 1, 128)]
theorem hX9_copy_1 : ∀ q ∈ eX9_copy_1, decode cX9_copy q.1 = .ok (q.2.1, q.2.2.1) ∧ q.1 + q.2.2.1 = q.2.2.2 := by decide +kernel
theorem dX9_copy_1 (i : Nat) {pc : Nat} {ins : Instr} {len pc' : Nat} (hi : eX9_copy_1[i]? = some (pc, ins, len, pc')) : q_d cX9_copy pc ins len pc' := q_dt hX9_copy_1 i hi
abbrev MX9_linesBy : MM := (yX9_linesBy, cX9_linesBy, 9, some .int)
def eX9_linesBy_0 : List (Nat × Instr × Nat × Nat) := [(0, .iload_n 1, 1, 1), (1, .invokestatic 275, 3, 4), (4, .ifCond .eq 23, 3, 7), (7, .iload_n 2, 1, 8), (8, .iconst 0, 1, 9), (9, .iconst 2, 1, 10), (10, .invokestatic 92, 3, 13), (13, .ifCond .eq 14, 3, 16), (16, .iload 4, 2, 18), (18, .iconst 0, 1, 19), (19, .bipush 10, 2, 21), (21, .invokestatic 92, 3, 24), (24, .ifCond .ne 6, 3, 27), (27, .bipush (-2), 2, 29), (29, .ireturn, 1, 30), (30, .aload_n 0, 1, 31), (31, .getfield 61, 3, 34), (34, .iload_n 1, 1, 35), (35, .invokevirtual 278, 3, 38), (38, .ifCond .eq 6, 3, 41), (41, .bipush (-11), 2, 43), (43, .ireturn, 1, 44), (44, .aload_n 0, 1, 45), (45, .getfield 61, 3, 48), (48, .iload_n 1, 1, 49), (49, .invokevirtual 314, 3, 52), (52, .iload_n 2, 1, 53), (53, .if_icmp .eq 6, 3, 56), (56, .bipush (-13), 2, 58), (58, .ireturn, 1, 59), (59, .iconst 0, 1, 60), (60, .istore 5, 2, 62), (62, .iconst 0, 1, 63), (63, .istore 6, 2, 65), (65, .iload 6, 2, 67), (67, .iload 4, 2, 69), (69, .if_icmp .ge 103, 3, 72), (72, .iload_n 3, 1, 73), (73, .iconst 0, 1, 74), (74, .aload_n 0, 1, 75), (75, .getfield 61, 3, 78), (78, .iload_n 1, 1, 79), (79, .invokevirtual 281, 3, 82), (82, .iconst 2, 1, 83), (83, .iload 6, 2, 85), (85, .imul, 1, 86), (86, .isub, 1, 87), (87, .iconst 2, 1, 88), (88, .isub, 1, 89), (89, .invokestatic 92, 3, 92), (92, .ifCond .ne 6, 3, 95), (95, .bipush (-12), 2, 97), (97, .ireturn, 1, 98), (98, .aload_n 0, 1, 99), (99, .getfield 61, 3, 102), (102, .iload_n 1, 1, 103), (103, .iload_n 3, 1, 104), (104, .iconst 2, 1, 105), (105, .iload 6, 2, 107), (107, .imul, 1, 108)]
theorem hX9_linesBy_0 : ∀ q ∈ eX9_linesBy_0, decode cX9_linesBy q.1 = .ok (q.2.1, q.2.2.1) ∧ q.1 + q.2.2.1 = q.2.2.2 := by decide +kernel
theorem dX9_linesBy_0 (i : Nat) {pc : Nat} {ins : Instr} {len pc' : Nat} (hi : eX9_linesBy_0[i]? = some (pc, ins, len, pc')) : q_d cX9_linesBy pc ins len pc' := q_dt hX9_linesBy_0 i hi
def eX9_linesBy_1 : List (Nat × Instr × Nat × Nat) := [(108, .iadd, 1, 109), (109, .invokevirtual 321, 3, 112), (112, .istore 7, 2, 114), (114, .aload_n 0, 1, 115), (115, .getfield 61, 3, 118), (118, .iload_n 1, 1, 119), (119, .iload_n 3, 1, 120), (120, .iconst 2, 1, 121), (121, .iload 6, 2, 123), (123, .imul, 1, 124), (124, .iadd, 1, 125), (125, .iconst 1, 1, 126), (126, .iadd, 1, 127), (127, .invokevirtual 321, 3, 130), (130, .istore 8, 2, 132), (132, .iload 7, 2, 134), (134, .iload 8, 2, 136), (136, .invokestatic 77, 3, 139), (139, .ifCond .eq 27, 3, 142), (142, .aload_n 0, 1, 143), (143, .getfield 19, 3, 146), (146, .getfield 81, 3, 149), (149, .bipush 10, 2, 151), (151, .if_icmp .ge 15, 3, 154), (154, .aload_n 0, 1, 155), (155, .iload 7, 2, 157), (157, .iload 8, 2, 159), (159, .invokevirtual 84, 3, 162), (162, .pop, 1, 163), (163, .iinc 5 1, 3, 166), (166, .iinc 6 1, 3, 169), (169, .goto (-104), 3, 172), (172, .iload 5, 2, 174), (174, .ireturn, 1, 175)]
theorem hX9_linesBy_1 : ∀ q ∈ eX9_linesBy_1, decode cX9_linesBy q.1 = .ok (q.2.1, q.2.2.1) ∧ q.1 + q.2.2.1 = q.2.2.2 := by decide +kernel
theorem dX9_linesBy_1 (i : Nat) {pc : Nat} {ins : Instr} {len pc' : Nat} (hi : eX9_linesBy_1[i]? = some (pc, ins, len, pc')) : q_d cX9_linesBy pc ins len pc' := q_dt hX9_linesBy_1 i hi
abbrev MX9_taken : MM := (yX9_taken, cX9_taken, 4, some .int)
def eX9_taken : List (Nat × Instr × Nat × Nat) := [(0, .iload_n 2, 1, 1), (1, .iconst 0, 1, 2), (2, .bipush 6, 2, 4), (4, .invokestatic 92, 3, 7), (7, .ifCond .ne 6, 3, 10), (10, .bipush (-2), 2, 12), (12, .ireturn, 1, 13), (13, .iload_n 1, 1, 14), (14, .iconst 0, 1, 15), (15, .bipush 21, 2, 17), (17, .invokestatic 92, 3, 20), (20, .ifCond .ne 6, 3, 23), (23, .bipush (-12), 2, 25), (25, .ireturn, 1, 26), (26, .iload_n 1, 1, 27), (27, .bipush 10, 2, 29), (29, .isub, 1, 30), (30, .istore_n 3, 1, 31), (31, .iload_n 3, 1, 32), (32, .ifCond .ge 14, 3, 35), (35, .aload_n 0, 1, 36), (36, .iload_n 1, 1, 37), (37, .invokevirtual 88, 3, 40), (40, .ifCond .ne 20, 3, 43), (43, .goto 14, 3, 46), (46, .iload_n 3, 1, 47), (47, .aload_n 0, 1, 48), (48, .getfield 26, 3, 51), (51, .getfield 123, 3, 54), (54, .if_icmp .lt 6, 3, 57), (57, .bipush (-11), 2, 59), (59, .ireturn, 1, 60), (60, .iload_n 3, 1, 61), (61, .ifCond .ge 23, 3, 64), (64, .iload_n 2, 1, 65), (65, .bipush 6, 2, 67), (67, .if_icmp .ne 14, 3, 70), (70, .aload_n 0, 1, 71), (71, .getfield 19, 3, 74), (74, .iload_n 1, 1, 75), (75, .invokevirtual 96, 3, 78), (78, .goto 5, 3, 81), (81, .bipush (-13), 2, 83), (83, .ireturn, 1, 84), (84, .iload_n 2, 1, 85), (85, .bipush 6, 2, 87), (87, .if_icmp .eq 25, 3, 90), (90, .aload_n 0, 1, 91), (91, .getfield 26, 3, 94), (94, .getfield 165, 3, 97), (97, .iload_n 3, 1, 98), (98, .invokestatic 119, 3, 101), (101, .iload_n 2, 1, 102), (102, .invokestatic 323, 3, 105), (105, .ifCond .eq 7, 3, 108), (108, .iload_n 3, 1, 109), (109, .goto 5, 3, 112), (112, .bipush (-13), 2, 114), (114, .ireturn, 1, 115)]
theorem hX9_taken : ∀ q ∈ eX9_taken, decode cX9_taken q.1 = .ok (q.2.1, q.2.2.1) ∧ q.1 + q.2.2.1 = q.2.2.2 := by decide +kernel
theorem dX9_taken (i : Nat) {pc : Nat} {ins : Instr} {len pc' : Nat} (hi : eX9_taken[i]? = some (pc, ins, len, pc')) : q_d cX9_taken pc ins len pc' := q_dt hX9_taken i hi
abbrev MX10_isTongue : MM := (yX10_isTongue, cX10_isTongue, 6, some .boolean)
def eX10_isTongue : List (Nat × Instr × Nat × Nat) := [(0, .iload_n 1, 1, 1), (1, .istore_n 3, 1, 2), (2, .iconst 0, 1, 3), (3, .istore 4, 2, 5), (5, .iconst 5, 1, 6), (6, .istore 5, 2, 8), (8, .iload 5, 2, 10), (10, .ifCond .lt 48, 3, 13), (13, .iload 4, 2, 15), (15, .iconst 1, 1, 16), (16, .iload_n 3, 1, 17), (17, .bipush 6, 2, 19), (19, .irem, 1, 20), (20, .ishl, 1, 21), (21, .ior, 1, 22), (22, .istore 4, 2, 24), (24, .iload_n 2, 1, 25), (25, .sipush 720, 3, 28), (28, .if_icmp .ge 19, 3, 31), (31, .aload_n 0, 1, 32), (32, .getfield 26, 3, 35), (35, .bipush 6, 2, 37), (37, .iload_n 2, 1, 38), (38, .imul, 1, 39), (39, .iload 5, 2, 41), (41, .iadd, 1, 42), (42, .iload_n 3, 1, 43), (43, .bipush 6, 2, 45), (45, .irem, 1, 46), (46, .iastore, 1, 47), (47, .iload_n 3, 1, 48), (48, .bipush 6, 2, 50), (50, .idiv, 1, 51), (51, .istore_n 3, 1, 52), (52, .iinc 5 (-1), 3, 55), (55, .goto (-47), 3, 58), (58, .iload 4, 2, 60), (60, .bipush 63, 2, 62), (62, .if_icmp .ne 7, 3, 65), (65, .iconst 1, 1, 66), (66, .goto 4, 3, 69), (69, .iconst 0, 1, 70), (70, .ireturn, 1, 71)]
theorem hX10_isTongue : ∀ q ∈ eX10_isTongue, decode cX10_isTongue q.1 = .ok (q.2.1, q.2.2.1) ∧ q.1 + q.2.2.1 = q.2.2.2 := by decide +kernel
theorem dX10_isTongue (i : Nat) {pc : Nat} {ins : Instr} {len pc' : Nat} (hi : eX10_isTongue[i]? = some (pc, ins, len, pc')) : q_d cX10_isTongue pc ins len pc' := q_dt hX10_isTongue i hi
abbrev MX10_in : MM := (yX10_in, cX10_in, 3, some .boolean)
def eX10_in : List (Nat × Instr × Nat × Nat) := [(0, .iload_n 0, 1, 1), (1, .iload_n 1, 1, 2), (2, .if_icmp .lt 12, 3, 5), (5, .iload_n 0, 1, 6), (6, .iload_n 2, 1, 7), (7, .if_icmp .gt 7, 3, 10), (10, .iconst 1, 1, 11), (11, .goto 4, 3, 14), (14, .iconst 0, 1, 15), (15, .ireturn, 1, 16)]
theorem hX10_in : ∀ q ∈ eX10_in, decode cX10_in q.1 = .ok (q.2.1, q.2.2.1) ∧ q.1 + q.2.2.1 = q.2.2.2 := by decide +kernel
theorem dX10_in (i : Nat) {pc : Nat} {ins : Instr} {len pc' : Nat} (hi : eX10_in[i]? = some (pc, ins, len, pc')) : q_d cX10_in pc ins len pc' := q_dt hX10_in i hi
abbrev MX10_within : MM := (yX10_within, cX10_within, 3, some .int)
def eX10_within : List (Nat × Instr × Nat × Nat) := [(0, .iload_n 0, 1, 1), (1, .iload_n 1, 1, 2), (2, .if_icmp .ge 7, 3, 5), (5, .iload_n 1, 1, 6), (6, .goto 13, 3, 9), (9, .iload_n 0, 1, 10), (10, .iload_n 2, 1, 11), (11, .if_icmp .le 7, 3, 14), (14, .iload_n 2, 1, 15), (15, .goto 4, 3, 18), (18, .iload_n 0, 1, 19), (19, .ireturn, 1, 20)]
theorem hX10_within : ∀ q ∈ eX10_within, decode cX10_within q.1 = .ok (q.2.1, q.2.2.1) ∧ q.1 + q.2.2.1 = q.2.2.2 := by decide +kernel
theorem dX10_within (i : Nat) {pc : Nat} {ins : Instr} {len pc' : Nat} (hi : eX10_within[i]? = some (pc, ins, len, pc')) : q_d cX10_within pc ins len pc' := q_dt hX10_within i hi
abbrev MX10_ones : MM := (yX10_ones, cX10_ones, 3, some .int)
def eX10_ones : List (Nat × Instr × Nat × Nat) := [(0, .iconst 0, 1, 1), (1, .istore_n 1, 1, 2), (2, .iconst 0, 1, 3), (3, .istore_n 2, 1, 4), (4, .iload_n 2, 1, 5), (5, .bipush 12, 2, 7), (7, .if_icmp .ge 17, 3, 10), (10, .iload_n 1, 1, 11), (11, .iload_n 0, 1, 12), (12, .iload_n 2, 1, 13), (13, .ishr, 1, 14), (14, .iconst 1, 1, 15), (15, .iand, 1, 16), (16, .iadd, 1, 17), (17, .istore_n 1, 1, 18), (18, .iinc 2 1, 3, 21), (21, .goto (-17), 3, 24), (24, .iload_n 1, 1, 25), (25, .ireturn, 1, 26)]
theorem hX10_ones : ∀ q ∈ eX10_ones, decode cX10_ones q.1 = .ok (q.2.1, q.2.2.1) ∧ q.1 + q.2.2.1 = q.2.2.2 := by decide +kernel
theorem dX10_ones (i : Nat) {pc : Nat} {ins : Instr} {len pc' : Nat} (hi : eX10_ones[i]? = some (pc, ins, len, pc')) : q_d cX10_ones pc ins len pc' := q_dt hX10_ones i hi
abbrev MX10_isLine : MM := (yX10_isLine, cX10_isLine, 2, some .boolean)
def eX10_isLine : List (Nat × Instr × Nat × Nat) := [(0, .iload_n 1, 1, 1), (1, .iconst 0, 1, 2), (2, .aload_n 0, 1, 3), (3, .getfield 98, 3, 6), (6, .iconst 1, 1, 7), (7, .isub, 1, 8), (8, .invokestatic 101, 3, 11), (11, .ireturn, 1, 12)]
theorem hX10_isLine : ∀ q ∈ eX10_isLine, decode cX10_isLine q.1 = .ok (q.2.1, q.2.2.1) ∧ q.1 + q.2.2.1 = q.2.2.2 := by decide +kernel
theorem dX10_isLine (i : Nat) {pc : Nat} {ins : Instr} {len pc' : Nat} (hi : eX10_isLine[i]? = some (pc, ins, len, pc')) : q_d cX10_isLine pc ins len pc' := q_dt hX10_isLine i hi
abbrev MX10_isGuest : MM := (yX10_isGuest, cX10_isGuest, 2, some .boolean)
def eX10_isGuest : List (Nat × Instr × Nat × Nat) := [(0, .iload_n 1, 1, 1), (1, .iconst 0, 1, 2), (2, .aload_n 0, 1, 3), (3, .getfield 105, 3, 6), (6, .iconst 1, 1, 7), (7, .isub, 1, 8), (8, .invokestatic 101, 3, 11), (11, .ireturn, 1, 12)]
theorem hX10_isGuest : ∀ q ∈ eX10_isGuest, decode cX10_isGuest q.1 = .ok (q.2.1, q.2.2.1) ∧ q.1 + q.2.2.1 = q.2.2.2 := by decide +kernel
theorem dX10_isGuest (i : Nat) {pc : Nat} {ins : Instr} {len pc' : Nat} (hi : eX10_isGuest[i]? = some (pc, ins, len, pc')) : q_d cX10_isGuest pc ins len pc' := q_dt hX10_isGuest i hi
abbrev MX10_isSign : MM := (yX10_isSign, cX10_isSign, 1, some .boolean)
def eX10_isSign : List (Nat × Instr × Nat × Nat) := [(0, .iload_n 0, 1, 1), (1, .iconst 0, 1, 2), (2, .iconst 5, 1, 3), (3, .invokestatic 101, 3, 6), (6, .ireturn, 1, 7)]
theorem hX10_isSign : ∀ q ∈ eX10_isSign, decode cX10_isSign q.1 = .ok (q.2.1, q.2.2.1) ∧ q.1 + q.2.2.1 = q.2.2.2 := by decide +kernel
theorem dX10_isSign (i : Nat) {pc : Nat} {ins : Instr} {len pc' : Nat} (hi : eX10_isSign[i]? = some (pc, ins, len, pc')) : q_d cX10_isSign pc ins len pc' := q_dt hX10_isSign i hi
abbrev MX10_line : MM := (yX10_line, cX10_line, 3, some .int)
def eX10_line : List (Nat × Instr × Nat × Nat) := [(0, .iload_n 1, 1, 1), (1, .iconst 1, 1, 2), (2, .bipush 63, 2, 4), (4, .invokestatic 101, 3, 7), (7, .ifCond .eq 21, 3, 10), (10, .iload_n 1, 1, 11), (11, .invokestatic 108, 3, 14), (14, .iconst 3, 1, 15), (15, .if_icmp .gt 13, 3, 18), (18, .iload_n 2, 1, 19), (19, .iconst 1, 1, 20), (20, .bipush 99, 2, 22), (22, .invokestatic 101, 3, 25), (25, .ifCond .ne 6, 3, 28), (28, .bipush (-2), 2, 30), (30, .ireturn, 1, 31), (31, .aload_n 0, 1, 32), (32, .getfield 98, 3, 35), (35, .bipush 10, 2, 37), (37, .if_icmp .ne 6, 3, 40), (40, .bipush (-4), 2, 42), (42, .ireturn, 1, 43), (43, .aload_n 0, 1, 44), (44, .getfield 7, 3, 47), (47, .aload_n 0, 1, 48), (48, .getfield 98, 3, 51), (51, .iload_n 1, 1, 52), (52, .iastore, 1, 53), (53, .aload_n 0, 1, 54), (54, .getfield 13, 3, 57), (57, .aload_n 0, 1, 58), (58, .getfield 98, 3, 61), (61, .iload_n 2, 1, 62), (62, .iastore, 1, 63), (63, .aload_n 0, 1, 64), (64, .dup, 1, 65), (65, .getfield 98, 3, 68), (68, .iconst 1, 1, 69), (69, .iadd, 1, 70), (70, .putfield 98, 3, 73), (73, .aload_n 0, 1, 74), (74, .getfield 98, 3, 77), (77, .iconst 1, 1, 78), (78, .isub, 1, 79), (79, .ireturn, 1, 80)]
theorem hX10_line : ∀ q ∈ eX10_line, decode cX10_line q.1 = .ok (q.2.1, q.2.2.1) ∧ q.1 + q.2.2.1 = q.2.2.2 := by decide +kernel
theorem dX10_line (i : Nat) {pc : Nat} {ins : Instr} {len pc' : Nat} (hi : eX10_line[i]? = some (pc, ins, len, pc')) : q_d cX10_line pc ins len pc' := q_dt hX10_line i hi
abbrev MX10_lineTold : MM := (yX10_lineTold, cX10_lineTold, 3, some .int)
def eX10_lineTold : List (Nat × Instr × Nat × Nat) := [(0, .aload_n 0, 1, 1), (1, .iload_n 1, 1, 2), (2, .invokevirtual 112, 3, 5), (5, .ifCond .ne 8, 3, 8), (8, .bipush (-5), 2, 10), (10, .goto 32, 3, 13), (13, .iload_n 2, 1, 14), (14, .ifCond .ne 12, 3, 17), (17, .aload_n 0, 1, 18), (18, .getfield 7, 3, 21), (21, .iload_n 1, 1, 22), (22, .iaload, 1, 23), (23, .goto 19, 3, 26), (26, .iload_n 2, 1, 27), (27, .iconst 1, 1, 28), (28, .if_icmp .ne 12, 3, 31), (31, .aload_n 0, 1, 32), (32, .getfield 13, 3, 35), (35, .iload_n 1, 1, 36), (36, .iaload, 1, 37), (37, .goto 5, 3, 40), (40, .bipush (-7), 2, 42), (42, .ireturn, 1, 43)]
theorem hX10_lineTold : ∀ q ∈ eX10_lineTold, decode cX10_lineTold q.1 = .ok (q.2.1, q.2.2.1) ∧ q.1 + q.2.2.1 = q.2.2.2 := by decide +kernel
theorem dX10_lineTold (i : Nat) {pc : Nat} {ins : Instr} {len pc' : Nat} (hi : eX10_lineTold[i]? = some (pc, ins, len, pc')) : q_d cX10_lineTold pc ins len pc' := q_dt hX10_lineTold i hi
abbrev MX10_set : MM := (yX10_set, cX10_set, 4, some .int)
def eX10_set : List (Nat × Instr × Nat × Nat) := [(0, .aload_n 0, 1, 1), (1, .iload_n 1, 1, 2), (2, .invokevirtual 112, 3, 5), (5, .ifCond .ne 6, 3, 8), (8, .bipush (-5), 2, 10), (10, .ireturn, 1, 11), (11, .iload_n 2, 1, 12), (12, .iconst 1, 1, 13), (13, .bipush 99, 2, 15), (15, .invokestatic 101, 3, 18), (18, .ifCond .ne 6, 3, 21), (21, .bipush (-7), 2, 23), (23, .ireturn, 1, 24), (24, .aload_n 0, 1, 25), (25, .getfield 13, 3, 28), (28, .iload_n 1, 1, 29), (29, .iaload, 1, 30), (30, .istore_n 3, 1, 31), (31, .aload_n 0, 1, 32), (32, .getfield 13, 3, 35), (35, .iload_n 1, 1, 36), (36, .iload_n 2, 1, 37), (37, .iastore, 1, 38), (38, .iload_n 3, 1, 39), (39, .ireturn, 1, 40)]
theorem hX10_set : ∀ q ∈ eX10_set, decode cX10_set q.1 = .ok (q.2.1, q.2.2.1) ∧ q.1 + q.2.2.1 = q.2.2.2 := by decide +kernel
theorem dX10_set (i : Nat) {pc : Nat} {ins : Instr} {len pc' : Nat} (hi : eX10_set[i]? = some (pc, ins, len, pc')) : q_d cX10_set pc ins len pc' := q_dt hX10_set i hi
abbrev MX10_guest : MM := (yX10_guest, cX10_guest, 2, some .int)
def eX10_guest : List (Nat × Instr × Nat × Nat) := [(0, .iload_n 1, 1, 1), (1, .iconst 0, 1, 2), (2, .bipush 63, 2, 4), (4, .invokestatic 101, 3, 7), (7, .ifCond .ne 6, 3, 10), (10, .bipush (-2), 2, 12), (12, .ireturn, 1, 13), (13, .aload_n 0, 1, 14), (14, .getfield 105, 3, 17), (17, .iconst 4, 1, 18), (18, .if_icmp .ne 6, 3, 21), (21, .bipush (-4), 2, 23), (23, .ireturn, 1, 24), (24, .aload_n 0, 1, 25), (25, .getfield 16, 3, 28), (28, .aload_n 0, 1, 29), (29, .getfield 105, 3, 32), (32, .iload_n 1, 1, 33), (33, .iastore, 1, 34), (34, .aload_n 0, 1, 35), (35, .dup, 1, 36), (36, .getfield 105, 3, 39), (39, .iconst 1, 1, 40), (40, .iadd, 1, 41), (41, .putfield 105, 3, 44), (44, .aload_n 0, 1, 45), (45, .getfield 105, 3, 48), (48, .iconst 1, 1, 49), (49, .isub, 1, 50), (50, .ireturn, 1, 51)]
theorem hX10_guest : ∀ q ∈ eX10_guest, decode cX10_guest q.1 = .ok (q.2.1, q.2.2.1) ∧ q.1 + q.2.2.1 = q.2.2.2 := by decide +kernel
theorem dX10_guest (i : Nat) {pc : Nat} {ins : Instr} {len pc' : Nat} (hi : eX10_guest[i]? = some (pc, ins, len, pc')) : q_d cX10_guest pc ins len pc' := q_dt hX10_guest i hi
abbrev MX10_guestTold : MM := (yX10_guestTold, cX10_guestTold, 2, some .int)
def eX10_guestTold : List (Nat × Instr × Nat × Nat) := [(0, .aload_n 0, 1, 1), (1, .iload_n 1, 1, 2), (2, .invokevirtual 116, 3, 5), (5, .ifCond .eq 12, 3, 8), (8, .aload_n 0, 1, 9), (9, .getfield 16, 3, 12), (12, .iload_n 1, 1, 13), (13, .iaload, 1, 14), (14, .goto 5, 3, 17), (17, .bipush (-5), 2, 19), (19, .ireturn, 1, 20)]
theorem hX10_guestTold : ∀ q ∈ eX10_guestTold, decode cX10_guestTold q.1 = .ok (q.2.1, q.2.2.1) ∧ q.1 + q.2.2.1 = q.2.2.2 := by decide +kernel
theorem dX10_guestTold (i : Nat) {pc : Nat} {ins : Instr} {len pc' : Nat} (hi : eX10_guestTold[i]? = some (pc, ins, len, pc')) : q_d cX10_guestTold pc ins len pc' := q_dt hX10_guestTold i hi
abbrev MX10_pays : MM := (yX10_pays, cX10_pays, 3, some .int)
def eX10_pays : List (Nat × Instr × Nat × Nat) := [(0, .iload_n 1, 1, 1), (1, .iconst 0, 1, 2), (2, .sipush 999, 3, 5), (5, .invokestatic 101, 3, 8), (8, .ifCond .ne 6, 3, 11), (11, .bipush (-2), 2, 13), (13, .ireturn, 1, 14), (14, .aload_n 0, 1, 15), (15, .getfield 19, 3, 18), (18, .istore_n 2, 1, 19), (19, .aload_n 0, 1, 20), (20, .iload_n 1, 1, 21), (21, .putfield 19, 3, 24), (24, .iload_n 2, 1, 25), (25, .ireturn, 1, 26)]
theorem hX10_pays : ∀ q ∈ eX10_pays, decode cX10_pays q.1 = .ok (q.2.1, q.2.2.1) ∧ q.1 + q.2.2.1 = q.2.2.2 := by decide +kernel
theorem dX10_pays (i : Nat) {pc : Nat} {ins : Instr} {len pc' : Nat} (hi : eX10_pays[i]? = some (pc, ins, len, pc')) : q_d cX10_pays pc ins len pc' := q_dt hX10_pays i hi
abbrev MX10_count : MM := (yX10_count, cX10_count, 2, some .int)
def eX10_count : List (Nat × Instr × Nat × Nat) := [(0, .iload_n 1, 1, 1), (1, .tableswitch 78 0 6 #[43, 48, 53, 58, 63, 68, 73], 43, 44), (44, .aload_n 0, 1, 45), (45, .getfield 98, 3, 48), (48, .ireturn, 1, 49), (49, .aload_n 0, 1, 50), (50, .getfield 105, 3, 53), (53, .ireturn, 1, 54), (54, .aload_n 0, 1, 55), (55, .getfield 119, 3, 58), (58, .ireturn, 1, 59), (59, .aload_n 0, 1, 60), (60, .getfield 19, 3, 63), (63, .ireturn, 1, 64), (64, .aload_n 0, 1, 65), (65, .getfield 122, 3, 68), (68, .ireturn, 1, 69), (69, .aload_n 0, 1, 70), (70, .getfield 125, 3, 73), (73, .ireturn, 1, 74), (74, .aload_n 0, 1, 75), (75, .getfield 86, 3, 78), (78, .ireturn, 1, 79), (79, .bipush (-2), 2, 81), (81, .ireturn, 1, 82)]
theorem hX10_count : ∀ q ∈ eX10_count, decode cX10_count q.1 = .ok (q.2.1, q.2.2.1) ∧ q.1 + q.2.2.1 = q.2.2.2 := by decide +kernel
theorem dX10_count (i : Nat) {pc : Nat} {ins : Instr} {len pc' : Nat} (hi : eX10_count[i]? = some (pc, ins, len, pc')) : q_d cX10_count pc ins len pc' := q_dt hX10_count i hi
abbrev MX10_isByte : MM := (yX10_isByte, cX10_isByte, 1, some .boolean)
def eX10_isByte : List (Nat × Instr × Nat × Nat) := [(0, .iload_n 0, 1, 1), (1, .iconst 0, 1, 2), (2, .sipush 255, 3, 5), (5, .invokestatic 101, 3, 8), (8, .ireturn, 1, 9)]
theorem hX10_isByte : ∀ q ∈ eX10_isByte, decode cX10_isByte q.1 = .ok (q.2.1, q.2.2.1) ∧ q.1 + q.2.2.1 = q.2.2.2 := by decide +kernel
theorem dX10_isByte (i : Nat) {pc : Nat} {ins : Instr} {len pc' : Nat} (hi : eX10_isByte[i]? = some (pc, ins, len, pc')) : q_d cX10_isByte pc ins len pc' := q_dt hX10_isByte i hi
abbrev MX10_feed : MM := (yX10_feed, cX10_feed, 8, some .int)
def eX10_feed_0 : List (Nat × Instr × Nat × Nat) := [(0, .iload_n 1, 1, 1), (1, .iconst 1, 1, 2), (2, .iconst 5, 1, 3), (3, .invokestatic 101, 3, 6), (6, .ifCond .eq 41, 3, 9), (9, .iload_n 2, 1, 10), (10, .invokestatic 128, 3, 13), (13, .ifCond .eq 34, 3, 16), (16, .iload_n 3, 1, 17), (17, .invokestatic 128, 3, 20), (20, .ifCond .eq 27, 3, 23), (23, .iload 4, 2, 25), (25, .invokestatic 128, 3, 28), (28, .ifCond .eq 19, 3, 31), (31, .iload 5, 2, 33), (33, .invokestatic 128, 3, 36), (36, .ifCond .eq 11, 3, 39), (39, .iload 6, 2, 41), (41, .invokestatic 128, 3, 44), (44, .ifCond .ne 6, 3, 47), (47, .bipush (-2), 2, 49), (49, .ireturn, 1, 50), (50, .aload_n 0, 1, 51), (51, .getfield 86, 3, 54), (54, .iload_n 1, 1, 55), (55, .iadd, 1, 56), (56, .sipush 160, 3, 59), (59, .if_icmp .le 6, 3, 62), (62, .bipush (-4), 2, 64), (64, .ireturn, 1, 65), (65, .iconst 0, 1, 66), (66, .istore 7, 2, 68), (68, .iload 7, 2, 70), (70, .iload_n 1, 1, 71), (71, .if_icmp .ge 71, 3, 74), (74, .aload_n 0, 1, 75), (75, .getfield 29, 3, 78), (78, .aload_n 0, 1, 79), (79, .getfield 86, 3, 82), (82, .iload 7, 2, 84), (84, .ifCond .ne 7, 3, 87), (87, .iload_n 2, 1, 88), (88, .goto 37, 3, 91), (91, .iload 7, 2, 93), (93, .iconst 1, 1, 94), (94, .if_icmp .ne 7, 3, 97), (97, .iload_n 3, 1, 98), (98, .goto 27, 3, 101), (101, .iload 7, 2, 103), (103, .iconst 2, 1, 104), (104, .if_icmp .ne 8, 3, 107), (107, .iload 4, 2, 109), (109, .goto 16, 3, 112), (112, .iload 7, 2, 114), (114, .iconst 3, 1, 115), (115, .if_icmp .ne 8, 3, 118), (118, .iload 5, 2, 120), (120, .goto 5, 3, 123), (123, .iload 6, 2, 125), (125, .iastore, 1, 126)]
theorem hX10_feed_0 : ∀ q ∈ eX10_feed_0, decode cX10_feed q.1 = .ok (q.2.1, q.2.2.1) ∧ q.1 + q.2.2.1 = q.2.2.2 := by decide +kernel
theorem dX10_feed_0 (i : Nat) {pc : Nat} {ins : Instr} {len pc' : Nat} (hi : eX10_feed_0[i]? = some (pc, ins, len, pc')) : q_d cX10_feed pc ins len pc' := q_dt hX10_feed_0 i hi
def eX10_feed_1 : List (Nat × Instr × Nat × Nat) := [(126, .aload_n 0, 1, 127), (127, .dup, 1, 128), (128, .getfield 86, 3, 131), (131, .iconst 1, 1, 132), (132, .iadd, 1, 133), (133, .putfield 86, 3, 136), (136, .iinc 7 1, 3, 139), (139, .goto (-71), 3, 142), (142, .aload_n 0, 1, 143), (143, .getfield 86, 3, 146), (146, .ireturn, 1, 147)]
theorem hX10_feed_1 : ∀ q ∈ eX10_feed_1, decode cX10_feed q.1 = .ok (q.2.1, q.2.2.1) ∧ q.1 + q.2.2.1 = q.2.2.2 := by decide +kernel
theorem dX10_feed_1 (i : Nat) {pc : Nat} {ins : Instr} {len pc' : Nat} (hi : eX10_feed_1[i]? = some (pc, ins, len, pc')) : q_d cX10_feed pc ins len pc' := q_dt hX10_feed_1 i hi
abbrev MX10_wordFrom : MM := (yX10_wordFrom, cX10_wordFrom, 6, some .int)
def eX10_wordFrom : List (Nat × Instr × Nat × Nat) := [(0, .iconst 0, 1, 1), (1, .istore_n 3, 1, 2), (2, .iload_n 3, 1, 3), (3, .bipush 12, 2, 5), (5, .if_icmp .ge 96, 3, 8), (8, .iload_n 2, 1, 9), (9, .iload_n 1, 1, 10), (10, .isub, 1, 11), (11, .bipush 8, 2, 13), (13, .if_icmp .gt 7, 3, 16), (16, .iconst 1, 1, 17), (17, .goto 4, 3, 20), (20, .iconst 0, 1, 21), (21, .istore 4, 2, 23), (23, .iconst 0, 1, 24), (24, .istore 5, 2, 26), (26, .iload 5, 2, 28), (28, .bipush 8, 2, 30), (30, .if_icmp .ge 58, 3, 33), (33, .iload 4, 2, 35), (35, .ifCond .eq 53, 3, 38), (38, .aload_n 0, 1, 39), (39, .getfield 53, 3, 42), (42, .bipush 8, 2, 44), (44, .iload_n 3, 1, 45), (45, .imul, 1, 46), (46, .iload 5, 2, 48), (48, .iadd, 1, 49), (49, .iaload, 1, 50), (50, .iload_n 1, 1, 51), (51, .iload 5, 2, 53), (53, .iadd, 1, 54), (54, .iload_n 2, 1, 55), (55, .if_icmp .ge 15, 3, 58), (58, .aload_n 0, 1, 59), (59, .getfield 29, 3, 62), (62, .iload_n 1, 1, 63), (63, .iload 5, 2, 65), (65, .iadd, 1, 66), (66, .iaload, 1, 67), (67, .goto 5, 3, 70), (70, .bipush 32, 2, 72), (72, .if_icmp .ne 7, 3, 75), (75, .iconst 1, 1, 76), (76, .goto 4, 3, 79), (79, .iconst 0, 1, 80), (80, .istore 4, 2, 82), (82, .iinc 5 1, 3, 85), (85, .goto (-59), 3, 88), (88, .iload 4, 2, 90), (90, .ifCond .eq 5, 3, 93), (93, .iload_n 3, 1, 94), (94, .ireturn, 1, 95), (95, .iinc 3 1, 3, 98), (98, .goto (-96), 3, 101), (101, .bipush 12, 2, 103), (103, .ireturn, 1, 104)]
theorem hX10_wordFrom : ∀ q ∈ eX10_wordFrom, decode cX10_wordFrom q.1 = .ok (q.2.1, q.2.2.1) ∧ q.1 + q.2.2.1 = q.2.2.2 := by decide +kernel
theorem dX10_wordFrom (i : Nat) {pc : Nat} {ins : Instr} {len pc' : Nat} (hi : eX10_wordFrom[i]? = some (pc, ins, len, pc')) : q_d cX10_wordFrom pc ins len pc' := q_dt hX10_wordFrom i hi
abbrev MX10_next : MM := (yX10_next, cX10_next, 3, none)
def eX10_next_0 : List (Nat × Instr × Nat × Nat) := [(0, .aload_n 0, 1, 1), (1, .getfield 131, 3, 4), (4, .aload_n 0, 1, 5), (5, .getfield 86, 3, 8), (8, .if_icmp .ge 44, 3, 11), (11, .aload_n 0, 1, 12), (12, .getfield 29, 3, 15), (15, .aload_n 0, 1, 16), (16, .getfield 131, 3, 19), (19, .iaload, 1, 20), (20, .bipush 32, 2, 22), (22, .if_icmp .eq 17, 3, 25), (25, .aload_n 0, 1, 26), (26, .getfield 29, 3, 29), (29, .aload_n 0, 1, 30), (30, .getfield 131, 3, 33), (33, .iaload, 1, 34), (34, .bipush 10, 2, 36), (36, .if_icmp .ne 16, 3, 39), (39, .aload_n 0, 1, 40), (40, .dup, 1, 41), (41, .getfield 131, 3, 44), (44, .iconst 1, 1, 45), (45, .iadd, 1, 46), (46, .putfield 131, 3, 49), (49, .goto (-49), 3, 52), (52, .aload_n 0, 1, 53), (53, .aload_n 0, 1, 54), (54, .getfield 131, 3, 57), (57, .putfield 134, 3, 60), (60, .aload_n 0, 1, 61), (61, .iconst 0, 1, 62), (62, .putfield 137, 3, 65), (65, .aload_n 0, 1, 66), (66, .iconst 0, 1, 67), (67, .putfield 140, 3, 70), (70, .aload_n 0, 1, 71), (71, .getfield 131, 3, 74), (74, .aload_n 0, 1, 75), (75, .getfield 86, 3, 78), (78, .if_icmp .ne 4, 3, 81), (81, .return_, 1, 82), (82, .aload_n 0, 1, 83), (83, .getfield 29, 3, 86), (86, .aload_n 0, 1, 87), (87, .getfield 131, 3, 90), (90, .iaload, 1, 91), (91, .istore_n 1, 1, 92), (92, .iload_n 1, 1, 93), (93, .bipush 97, 2, 95), (95, .bipush 122, 2, 97), (97, .invokestatic 101, 3, 100), (100, .ifCond .eq 117, 3, 103), (103, .aload_n 0, 1, 104), (104, .getfield 131, 3, 107), (107, .aload_n 0, 1, 108), (108, .getfield 86, 3, 111), (111, .if_icmp .ge 35, 3, 114), (114, .aload_n 0, 1, 115), (115, .getfield 29, 3, 118)]
theorem hX10_next_0 : ∀ q ∈ eX10_next_0, decode cX10_next q.1 = .ok (q.2.1, q.2.2.1) ∧ q.1 + q.2.2.1 = q.2.2.2 := by decide +kernel
theorem dX10_next_0 (i : Nat) {pc : Nat} {ins : Instr} {len pc' : Nat} (hi : eX10_next_0[i]? = some (pc, ins, len, pc')) : q_d cX10_next pc ins len pc' := q_dt hX10_next_0 i hi
def eX10_next_1 : List (Nat × Instr × Nat × Nat) := [(118, .aload_n 0, 1, 119), (119, .getfield 131, 3, 122), (122, .iaload, 1, 123), (123, .bipush 97, 2, 125), (125, .bipush 122, 2, 127), (127, .invokestatic 101, 3, 130), (130, .ifCond .eq 16, 3, 133), (133, .aload_n 0, 1, 134), (134, .dup, 1, 135), (135, .getfield 131, 3, 138), (138, .iconst 1, 1, 139), (139, .iadd, 1, 140), (140, .putfield 131, 3, 143), (143, .goto (-40), 3, 146), (146, .aload_n 0, 1, 147), (147, .aload_n 0, 1, 148), (148, .getfield 134, 3, 151), (151, .aload_n 0, 1, 152), (152, .getfield 131, 3, 155), (155, .invokevirtual 143, 3, 158), (158, .istore_n 2, 1, 159), (159, .aload_n 0, 1, 160), (160, .iload_n 2, 1, 161), (161, .iconst 3, 1, 162), (162, .if_icmp .ge 7, 3, 165), (165, .iconst 3, 1, 166), (166, .goto 29, 3, 169), (169, .iload_n 2, 1, 170), (170, .bipush 9, 2, 172), (172, .if_icmp .ge 7, 3, 175), (175, .iconst 2, 1, 176), (176, .goto 19, 3, 179), (179, .iload_n 2, 1, 180), (180, .bipush 12, 2, 182), (182, .if_icmp .ne 7, 3, 185), (185, .iconst (-1), 1, 186), (186, .goto 9, 3, 189), (189, .iconst 4, 1, 190), (190, .iload_n 2, 1, 191), (191, .iadd, 1, 192), (192, .bipush 9, 2, 194), (194, .isub, 1, 195), (195, .putfield 137, 3, 198), (198, .aload_n 0, 1, 199), (199, .iload_n 2, 1, 200), (200, .iconst 3, 1, 201), (201, .if_icmp .ge 7, 3, 204), (204, .iload_n 2, 1, 205), (205, .goto 6, 3, 208), (208, .iload_n 2, 1, 209), (209, .iconst 3, 1, 210), (210, .isub, 1, 211), (211, .putfield 140, 3, 214), (214, .goto 189, 3, 217), (217, .iload_n 1, 1, 218), (218, .bipush 48, 2, 220), (220, .bipush 57, 2, 222), (222, .invokestatic 101, 3, 225), (225, .ifCond .eq 101, 3, 228), (228, .iconst 0, 1, 229)]
theorem hX10_next_1 : ∀ q ∈ eX10_next_1, decode cX10_next q.1 = .ok (q.2.1, q.2.2.1) ∧ q.1 + q.2.2.1 = q.2.2.2 := by decide +kernel
theorem dX10_next_1 (i : Nat) {pc : Nat} {ins : Instr} {len pc' : Nat} (hi : eX10_next_1[i]? = some (pc, ins, len, pc')) : q_d cX10_next pc ins len pc' := q_dt hX10_next_1 i hi
def eX10_next_2 : List (Nat × Instr × Nat × Nat) := [(229, .istore_n 2, 1, 230), (230, .aload_n 0, 1, 231), (231, .getfield 131, 3, 234), (234, .aload_n 0, 1, 235), (235, .getfield 86, 3, 238), (238, .if_icmp .ge 71, 3, 241), (241, .aload_n 0, 1, 242), (242, .getfield 29, 3, 245), (245, .aload_n 0, 1, 246), (246, .getfield 131, 3, 249), (249, .iaload, 1, 250), (250, .bipush 48, 2, 252), (252, .bipush 57, 2, 254), (254, .invokestatic 101, 3, 257), (257, .ifCond .eq 52, 3, 260), (260, .aload_n 0, 1, 261), (261, .iload_n 2, 1, 262), (262, .iconst 4, 1, 263), (263, .if_icmp .ge 26, 3, 266), (266, .bipush 10, 2, 268), (268, .aload_n 0, 1, 269), (269, .getfield 140, 3, 272), (272, .imul, 1, 273), (273, .aload_n 0, 1, 274), (274, .getfield 29, 3, 277), (277, .aload_n 0, 1, 278), (278, .getfield 131, 3, 281), (281, .iaload, 1, 282), (282, .iadd, 1, 283), (283, .bipush 48, 2, 285), (285, .isub, 1, 286), (286, .goto 4, 3, 289), (289, .iconst 0, 1, 290), (290, .putfield 140, 3, 293), (293, .iinc 2 1, 3, 296), (296, .aload_n 0, 1, 297), (297, .dup, 1, 298), (298, .getfield 131, 3, 301), (301, .iconst 1, 1, 302), (302, .iadd, 1, 303), (303, .putfield 131, 3, 306), (306, .goto (-76), 3, 309), (309, .aload_n 0, 1, 310), (310, .iload_n 2, 1, 311), (311, .iconst 4, 1, 312), (312, .if_icmp .le 7, 3, 315), (315, .iconst (-1), 1, 316), (316, .goto 4, 3, 319), (319, .iconst 1, 1, 320), (320, .putfield 137, 3, 323), (323, .goto 80, 3, 326), (326, .iload_n 1, 1, 327), (327, .bipush 40, 2, 329), (329, .if_icmp .eq 45, 3, 332), (332, .iload_n 1, 1, 333), (333, .bipush 41, 2, 335), (335, .if_icmp .eq 39, 3, 338), (338, .iload_n 1, 1, 339), (339, .bipush 59, 2, 341), (341, .if_icmp .eq 33, 3, 344)]
theorem hX10_next_2 : ∀ q ∈ eX10_next_2, decode cX10_next q.1 = .ok (q.2.1, q.2.2.1) ∧ q.1 + q.2.2.1 = q.2.2.2 := by decide +kernel
theorem dX10_next_2 (i : Nat) {pc : Nat} {ins : Instr} {len pc' : Nat} (hi : eX10_next_2[i]? = some (pc, ins, len, pc')) : q_d cX10_next pc ins len pc' := q_dt hX10_next_2 i hi
def eX10_next_3 : List (Nat × Instr × Nat × Nat) := [(344, .iload_n 1, 1, 345), (345, .bipush 43, 2, 347), (347, .if_icmp .eq 27, 3, 350), (350, .iload_n 1, 1, 351), (351, .bipush 45, 2, 353), (353, .if_icmp .eq 21, 3, 356), (356, .iload_n 1, 1, 357), (357, .bipush 42, 2, 359), (359, .if_icmp .eq 15, 3, 362), (362, .iload_n 1, 1, 363), (363, .bipush 60, 2, 365), (365, .if_icmp .eq 9, 3, 368), (368, .iload_n 1, 1, 369), (369, .bipush 61, 2, 371), (371, .if_icmp .ne 7, 3, 374), (374, .iconst 1, 1, 375), (375, .goto 4, 3, 378), (378, .iconst 0, 1, 379), (379, .istore_n 2, 1, 380), (380, .aload_n 0, 1, 381), (381, .iload_n 2, 1, 382), (382, .ifCond .eq 7, 3, 385), (385, .iload_n 1, 1, 386), (386, .goto 4, 3, 389), (389, .iconst (-1), 1, 390), (390, .putfield 137, 3, 393), (393, .aload_n 0, 1, 394), (394, .dup, 1, 395), (395, .getfield 131, 3, 398), (398, .iconst 1, 1, 399), (399, .iadd, 1, 400), (400, .putfield 131, 3, 403), (403, .return_, 1, 404)]
theorem hX10_next_3 : ∀ q ∈ eX10_next_3, decode cX10_next q.1 = .ok (q.2.1, q.2.2.1) ∧ q.1 + q.2.2.1 = q.2.2.2 := by decide +kernel
theorem dX10_next_3 (i : Nat) {pc : Nat} {ins : Instr} {len pc' : Nat} (hi : eX10_next_3[i]? = some (pc, ins, len, pc')) : q_d cX10_next pc ins len pc' := q_dt hX10_next_3 i hi
abbrev MX10_rank : MM := (yX10_rank, cX10_rank, 1, some .int)
def eX10_rank : List (Nat × Instr × Nat × Nat) := [(0, .iload_n 0, 1, 1), (1, .ifCond .ne 7, 3, 4), (4, .iconst 0, 1, 5), (5, .goto 66, 3, 8), (8, .iload_n 0, 1, 9), (9, .bipush 11, 2, 11), (11, .if_icmp .ne 7, 3, 14), (14, .iconst 1, 1, 15), (15, .goto 56, 3, 18), (18, .iload_n 0, 1, 19), (19, .bipush 12, 2, 21), (21, .if_icmp .ne 7, 3, 24), (24, .iconst 2, 1, 25), (25, .goto 46, 3, 28), (28, .iload_n 0, 1, 29), (29, .bipush 13, 2, 31), (31, .if_icmp .ne 7, 3, 34), (34, .iconst 3, 1, 35), (35, .goto 36, 3, 38), (38, .iload_n 0, 1, 39), (39, .bipush 15, 2, 41), (41, .if_icmp .gt 7, 3, 44), (44, .iconst 4, 1, 45), (45, .goto 26, 3, 48), (48, .iload_n 0, 1, 49), (49, .bipush 17, 2, 51), (51, .if_icmp .gt 7, 3, 54), (54, .iconst 5, 1, 55), (55, .goto 16, 3, 58), (58, .iload_n 0, 1, 59), (59, .bipush 18, 2, 61), (61, .if_icmp .ne 8, 3, 64), (64, .bipush 6, 2, 66), (66, .goto 5, 3, 69), (69, .bipush 7, 2, 71), (71, .ireturn, 1, 72)]
theorem hX10_rank : ∀ q ∈ eX10_rank, decode cX10_rank q.1 = .ok (q.2.1, q.2.2.1) ∧ q.1 + q.2.2.1 = q.2.2.2 := by decide +kernel
theorem dX10_rank (i : Nat) {pc : Nat} {ins : Instr} {len pc' : Nat} (hi : eX10_rank[i]? = some (pc, ins, len, pc')) : q_d cX10_rank pc ins len pc' := q_dt hX10_rank i hi
abbrev MX10_puts : MM := (yX10_puts, cX10_puts, 2, none)
def eX10_puts : List (Nat × Instr × Nat × Nat) := [(0, .aload_n 0, 1, 1), (1, .getfield 32, 3, 4), (4, .sipush 200, 3, 7), (7, .aload_n 0, 1, 8), (8, .getfield 122, 3, 11), (11, .imul, 1, 12), (12, .aload_n 0, 1, 13), (13, .getfield 147, 3, 16), (16, .iadd, 1, 17), (17, .iload_n 1, 1, 18), (18, .iastore, 1, 19), (19, .aload_n 0, 1, 20), (20, .dup, 1, 21), (21, .getfield 147, 3, 24), (24, .iconst 1, 1, 25), (25, .iadd, 1, 26), (26, .putfield 147, 3, 29), (29, .return_, 1, 30)]
theorem hX10_puts : ∀ q ∈ eX10_puts, decode cX10_puts q.1 = .ok (q.2.1, q.2.2.1) ∧ q.1 + q.2.2.1 = q.2.2.2 := by decide +kernel
theorem dX10_puts (i : Nat) {pc : Nat} {ins : Instr} {len pc' : Nat} (hi : eX10_puts[i]? = some (pc, ins, len, pc')) : q_d cX10_puts pc ins len pc' := q_dt hX10_puts i hi
abbrev MX10_unwinds : MM := (yX10_unwinds, cX10_unwinds, 3, none)
def eX10_unwinds : List (Nat × Instr × Nat × Nat) := [(0, .aload_n 0, 1, 1), (1, .getfield 150, 3, 4), (4, .ifCond .le 75, 3, 7), (7, .aload_n 0, 1, 8), (8, .getfield 56, 3, 11), (11, .aload_n 0, 1, 12), (12, .getfield 150, 3, 15), (15, .iconst 1, 1, 16), (16, .isub, 1, 17), (17, .iaload, 1, 18), (18, .invokestatic 153, 3, 21), (21, .iload_n 1, 1, 22), (22, .if_icmp .lt 57, 3, 25), (25, .aload_n 0, 1, 26), (26, .dup, 1, 27), (27, .getfield 150, 3, 30), (30, .iconst 1, 1, 31), (31, .isub, 1, 32), (32, .putfield 150, 3, 35), (35, .aload_n 0, 1, 36), (36, .getfield 56, 3, 39), (39, .aload_n 0, 1, 40), (40, .getfield 150, 3, 43), (43, .iaload, 1, 44), (44, .istore_n 2, 1, 45), (45, .aload_n 0, 1, 46), (46, .dup, 1, 47), (47, .getfield 156, 3, 50), (50, .iload_n 2, 1, 51), (51, .bipush 13, 2, 53), (53, .if_icmp .eq 9, 3, 56), (56, .iload_n 2, 1, 57), (57, .bipush 19, 2, 59), (59, .if_icmp .ne 7, 3, 62), (62, .iconst 1, 1, 63), (63, .goto 4, 3, 66), (66, .iconst 0, 1, 67), (67, .isub, 1, 68), (68, .putfield 156, 3, 71), (71, .aload_n 0, 1, 72), (72, .iload_n 2, 1, 73), (73, .invokevirtual 159, 3, 76), (76, .goto (-76), 3, 79), (79, .return_, 1, 80)]
theorem hX10_unwinds : ∀ q ∈ eX10_unwinds, decode cX10_unwinds q.1 = .ok (q.2.1, q.2.2.1) ∧ q.1 + q.2.2.1 = q.2.2.2 := by decide +kernel
theorem dX10_unwinds (i : Nat) {pc : Nat} {ins : Instr} {len pc' : Nat} (hi : eX10_unwinds[i]? = some (pc, ins, len, pc')) : q_d cX10_unwinds pc ins len pc' := q_dt hX10_unwinds i hi
abbrev MX10_holds : MM := (yX10_holds, cX10_holds, 2, none)
def eX10_holds : List (Nat × Instr × Nat × Nat) := [(0, .aload_n 0, 1, 1), (1, .getfield 56, 3, 4), (4, .aload_n 0, 1, 5), (5, .getfield 150, 3, 8), (8, .iload_n 1, 1, 9), (9, .iastore, 1, 10), (10, .aload_n 0, 1, 11), (11, .dup, 1, 12), (12, .getfield 150, 3, 15), (15, .iconst 1, 1, 16), (16, .iadd, 1, 17), (17, .putfield 150, 3, 20), (20, .return_, 1, 21)]
theorem hX10_holds : ∀ q ∈ eX10_holds, decode cX10_holds q.1 = .ok (q.2.1, q.2.2.1) ∧ q.1 + q.2.2.1 = q.2.2.2 := by decide +kernel
theorem dX10_holds (i : Nat) {pc : Nat} {ins : Instr} {len pc' : Nat} (hi : eX10_holds[i]? = some (pc, ins, len, pc')) : q_d cX10_holds pc ins len pc' := q_dt hX10_holds i hi
abbrev MX10_opensOne : MM := (yX10_opensOne, cX10_opensOne, 2, some .boolean)
def eX10_opensOne : List (Nat × Instr × Nat × Nat) := [(0, .aload_n 0, 1, 1), (1, .getfield 156, 3, 4), (4, .iconst 5, 1, 5), (5, .if_icmp .ne 5, 3, 8), (8, .iconst 0, 1, 9), (9, .ireturn, 1, 10), (10, .aload_n 0, 1, 11), (11, .dup, 1, 12), (12, .getfield 156, 3, 15), (15, .iconst 1, 1, 16), (16, .iadd, 1, 17), (17, .putfield 156, 3, 20), (20, .aload_n 0, 1, 21), (21, .iload_n 1, 1, 22), (22, .invokevirtual 163, 3, 25), (25, .iconst 1, 1, 26), (26, .ireturn, 1, 27)]
theorem hX10_opensOne : ∀ q ∈ eX10_opensOne, decode cX10_opensOne q.1 = .ok (q.2.1, q.2.2.1) ∧ q.1 + q.2.2.1 = q.2.2.2 := by decide +kernel
theorem dX10_opensOne (i : Nat) {pc : Nat} {ins : Instr} {len pc' : Nat} (hi : eX10_opensOne[i]? = some (pc, ins, len, pc')) : q_d cX10_opensOne pc ins len pc' := q_dt hX10_opensOne i hi
abbrev MX10_between : MM := (yX10_between, cX10_between, 2, some .boolean)
def eX10_between : List (Nat × Instr × Nat × Nat) := [(0, .aload_n 0, 1, 1), (1, .iload_n 1, 1, 2), (2, .invokestatic 153, 3, 5), (5, .iconst 4, 1, 6), (6, .if_icmp .ne 7, 3, 9), (9, .iconst 5, 1, 10), (10, .goto 7, 3, 13), (13, .iload_n 1, 1, 14), (14, .invokestatic 153, 3, 17), (17, .invokevirtual 166, 3, 20), (20, .iload_n 1, 1, 21), (21, .invokestatic 153, 3, 24), (24, .iconst 4, 1, 25), (25, .if_icmp .ne 30, 3, 28), (28, .aload_n 0, 1, 29), (29, .getfield 150, 3, 32), (32, .ifCond .le 23, 3, 35), (35, .aload_n 0, 1, 36), (36, .getfield 56, 3, 39), (39, .aload_n 0, 1, 40), (40, .getfield 150, 3, 43), (43, .iconst 1, 1, 44), (44, .isub, 1, 45), (45, .iaload, 1, 46), (46, .invokestatic 153, 3, 49), (49, .iconst 4, 1, 50), (50, .if_icmp .ne 5, 3, 53), (53, .iconst 0, 1, 54), (54, .ireturn, 1, 55), (55, .aload_n 0, 1, 56), (56, .iload_n 1, 1, 57), (57, .invokevirtual 163, 3, 60), (60, .iconst 1, 1, 61), (61, .ireturn, 1, 62)]
theorem hX10_between : ∀ q ∈ eX10_between, decode cX10_between q.1 = .ok (q.2.1, q.2.2.1) ∧ q.1 + q.2.2.1 = q.2.2.2 := by decide +kernel
theorem dX10_between (i : Nat) {pc : Nat} {ins : Instr} {len pc' : Nat} (hi : eX10_between[i]? = some (pc, ins, len, pc')) : q_d cX10_between pc ins len pc' := q_dt hX10_between i hi
abbrev MX10_signOf : MM := (yX10_signOf, cX10_signOf, 1, some .int)
def eX10_signOf : List (Nat × Instr × Nat × Nat) := [(0, .aload_n 0, 1, 1), (1, .getfield 137, 3, 4), (4, .iconst 4, 1, 5), (5, .if_icmp .ne 8, 3, 8), (8, .bipush 11, 2, 10), (10, .goto 87, 3, 13), (13, .aload_n 0, 1, 14), (14, .getfield 137, 3, 17), (17, .iconst 5, 1, 18), (18, .if_icmp .ne 8, 3, 21), (21, .bipush 12, 2, 23), (23, .goto 74, 3, 26), (26, .aload_n 0, 1, 27), (27, .getfield 137, 3, 30), (30, .bipush 60, 2, 32), (32, .if_icmp .ne 8, 3, 35), (35, .bipush 14, 2, 37), (37, .goto 60, 3, 40), (40, .aload_n 0, 1, 41), (41, .getfield 137, 3, 44), (44, .bipush 61, 2, 46), (46, .if_icmp .ne 8, 3, 49), (49, .bipush 15, 2, 51), (51, .goto 46, 3, 54), (54, .aload_n 0, 1, 55), (55, .getfield 137, 3, 58), (58, .bipush 43, 2, 60), (60, .if_icmp .ne 8, 3, 63), (63, .bipush 16, 2, 65), (65, .goto 32, 3, 68), (68, .aload_n 0, 1, 69), (69, .getfield 137, 3, 72), (72, .bipush 45, 2, 74), (74, .if_icmp .ne 8, 3, 77), (77, .bipush 17, 2, 79), (79, .goto 18, 3, 82), (82, .aload_n 0, 1, 83), (83, .getfield 137, 3, 86), (86, .bipush 42, 2, 88), (88, .if_icmp .ne 8, 3, 91), (91, .bipush 18, 2, 93), (93, .goto 4, 3, 96), (96, .iconst (-1), 1, 97), (97, .ireturn, 1, 98)]
theorem hX10_signOf : ∀ q ∈ eX10_signOf, decode cX10_signOf q.1 = .ok (q.2.1, q.2.2.1) ∧ q.1 + q.2.2.1 = q.2.2.2 := by decide +kernel
theorem dX10_signOf (i : Nat) {pc : Nat} {ins : Instr} {len pc' : Nat} (hi : eX10_signOf[i]? = some (pc, ins, len, pc')) : q_d cX10_signOf pc ins len pc' := q_dt hX10_signOf i hi
abbrev MX10_eRead : MM := (yX10_eRead, cX10_eRead, 4, some .boolean)
def eX10_eRead_0 : List (Nat × Instr × Nat × Nat) := [(0, .aload_n 0, 1, 1), (1, .iconst 0, 1, 2), (2, .putfield 150, 3, 5), (5, .aload_n 0, 1, 6), (6, .iconst 0, 1, 7), (7, .putfield 156, 3, 10), (10, .iconst 1, 1, 11), (11, .istore_n 1, 1, 12), (12, .iconst 1, 1, 13), (13, .istore_n 2, 1, 14), (14, .aload_n 0, 1, 15), (15, .invokevirtual 169, 3, 18), (18, .iload_n 1, 1, 19), (19, .ifCond .eq 131, 3, 22), (22, .aload_n 0, 1, 23), (23, .getfield 137, 3, 26), (26, .iconst 1, 1, 27), (27, .if_icmp .eq 11, 3, 30), (30, .aload_n 0, 1, 31), (31, .getfield 137, 3, 34), (34, .iconst 2, 1, 35), (35, .if_icmp .ne 40, 3, 38), (38, .aload_n 0, 1, 39), (39, .aload_n 0, 1, 40), (40, .getfield 137, 3, 43), (43, .iconst 1, 1, 44), (44, .if_icmp .ne 13, 3, 47), (47, .ldc 172, 2, 49), (49, .aload_n 0, 1, 50), (50, .getfield 140, 3, 53), (53, .iadd, 1, 54), (54, .goto 7, 3, 57), (57, .aload_n 0, 1, 58), (58, .getfield 140, 3, 61), (61, .invokevirtual 159, 3, 64), (64, .aload_n 0, 1, 65), (65, .bipush 7, 2, 67), (67, .invokevirtual 166, 3, 70), (70, .iconst 0, 1, 71), (71, .istore_n 1, 1, 72), (72, .goto (-58), 3, 75), (75, .aload_n 0, 1, 76), (76, .getfield 137, 3, 79), (79, .bipush 6, 2, 81), (81, .if_icmp .ne 18, 3, 84), (84, .iload_n 2, 1, 85), (85, .ifCond .eq 14, 3, 88), (88, .aload_n 0, 1, 89), (89, .bipush 13, 2, 91), (91, .invokevirtual 173, 3, 94), (94, .ifCond .ne (-80), 3, 97), (97, .iconst 0, 1, 98), (98, .ireturn, 1, 99), (99, .aload_n 0, 1, 100), (100, .getfield 137, 3, 103), (103, .bipush 45, 2, 105), (105, .if_icmp .ne 19, 3, 108), (108, .aload_n 0, 1, 109), (109, .bipush 19, 2, 111), (111, .invokevirtual 173, 3, 114)]
theorem hX10_eRead_0 : ∀ q ∈ eX10_eRead_0, decode cX10_eRead q.1 = .ok (q.2.1, q.2.2.1) ∧ q.1 + q.2.2.1 = q.2.2.2 := by decide +kernel
theorem dX10_eRead_0 (i : Nat) {pc : Nat} {ins : Instr} {len pc' : Nat} (hi : eX10_eRead_0[i]? = some (pc, ins, len, pc')) : q_d cX10_eRead pc ins len pc' := q_dt hX10_eRead_0 i hi
def eX10_eRead_1 : List (Nat × Instr × Nat × Nat) := [(114, .ifCond .ne 5, 3, 117), (117, .iconst 0, 1, 118), (118, .ireturn, 1, 119), (119, .iconst 0, 1, 120), (120, .istore_n 2, 1, 121), (121, .goto (-107), 3, 124), (124, .aload_n 0, 1, 125), (125, .getfield 137, 3, 128), (128, .bipush 40, 2, 130), (130, .if_icmp .ne 18, 3, 133), (133, .aload_n 0, 1, 134), (134, .iconst 0, 1, 135), (135, .invokevirtual 173, 3, 138), (138, .ifCond .ne 5, 3, 141), (141, .iconst 0, 1, 142), (142, .ireturn, 1, 143), (143, .iconst 1, 1, 144), (144, .istore_n 2, 1, 145), (145, .goto (-131), 3, 148), (148, .iconst 0, 1, 149), (149, .ireturn, 1, 150), (150, .aload_n 0, 1, 151), (151, .getfield 137, 3, 154), (154, .bipush 59, 2, 156), (156, .if_icmp .ne 21, 3, 159), (159, .aload_n 0, 1, 160), (160, .iconst 1, 1, 161), (161, .invokevirtual 166, 3, 164), (164, .aload_n 0, 1, 165), (165, .getfield 150, 3, 168), (168, .ifCond .ne 7, 3, 171), (171, .iconst 1, 1, 172), (172, .goto 4, 3, 175), (175, .iconst 0, 1, 176), (176, .ireturn, 1, 177), (177, .aload_n 0, 1, 178), (178, .getfield 137, 3, 181), (181, .bipush 41, 2, 183), (183, .if_icmp .ne 46, 3, 186), (186, .aload_n 0, 1, 187), (187, .iconst 1, 1, 188), (188, .invokevirtual 166, 3, 191), (191, .aload_n 0, 1, 192), (192, .getfield 150, 3, 195), (195, .ifCond .ne 5, 3, 198), (198, .iconst 0, 1, 199), (199, .ireturn, 1, 200), (200, .aload_n 0, 1, 201), (201, .dup, 1, 202), (202, .getfield 150, 3, 205), (205, .iconst 1, 1, 206), (206, .isub, 1, 207), (207, .putfield 150, 3, 210), (210, .aload_n 0, 1, 211), (211, .dup, 1, 212), (212, .getfield 156, 3, 215), (215, .iconst 1, 1, 216), (216, .isub, 1, 217), (217, .putfield 156, 3, 220), (220, .aload_n 0, 1, 221)]
theorem hX10_eRead_1 : ∀ q ∈ eX10_eRead_1, decode cX10_eRead q.1 = .ok (q.2.1, q.2.2.1) ∧ q.1 + q.2.2.1 = q.2.2.2 := by decide +kernel
theorem dX10_eRead_1 (i : Nat) {pc : Nat} {ins : Instr} {len pc' : Nat} (hi : eX10_eRead_1[i]? = some (pc, ins, len, pc')) : q_d cX10_eRead pc ins len pc' := q_dt hX10_eRead_1 i hi
def eX10_eRead_2 : List (Nat × Instr × Nat × Nat) := [(221, .bipush 7, 2, 223), (223, .invokevirtual 166, 3, 226), (226, .goto (-212), 3, 229), (229, .aload_n 0, 1, 230), (230, .invokevirtual 176, 3, 233), (233, .istore_n 3, 1, 234), (234, .iload_n 3, 1, 235), (235, .iconst (-1), 1, 236), (236, .if_icmp .eq 11, 3, 239), (239, .aload_n 0, 1, 240), (240, .iload_n 3, 1, 241), (241, .invokevirtual 179, 3, 244), (244, .ifCond .ne 5, 3, 247), (247, .iconst 0, 1, 248), (248, .ireturn, 1, 249), (249, .iconst 1, 1, 250), (250, .istore_n 1, 1, 251), (251, .iload_n 3, 1, 252), (252, .bipush 12, 2, 254), (254, .if_icmp .gt 7, 3, 257), (257, .iconst 1, 1, 258), (258, .goto 4, 3, 261), (261, .iconst 0, 1, 262), (262, .istore_n 2, 1, 263), (263, .goto (-249), 3, 266)]
theorem hX10_eRead_2 : ∀ q ∈ eX10_eRead_2, decode cX10_eRead q.1 = .ok (q.2.1, q.2.2.1) ∧ q.1 + q.2.2.1 = q.2.2.2 := by decide +kernel
theorem dX10_eRead_2 (i : Nat) {pc : Nat} {ins : Instr} {len pc' : Nat} (hi : eX10_eRead_2[i]? = some (pc, ins, len, pc')) : q_d cX10_eRead pc ins len pc' := q_dt hX10_eRead_2 i hi
abbrev MX10_text : MM := (yX10_text, cX10_text, 3, some .int)
def eX10_text_0 : List (Nat × Instr × Nat × Nat) := [(0, .aload_n 0, 1, 1), (1, .getfield 122, 3, 4), (4, .bipush 6, 2, 6), (6, .if_icmp .ne 6, 3, 9), (9, .bipush (-4), 2, 11), (11, .ireturn, 1, 12), (12, .aload_n 0, 1, 13), (13, .iconst 0, 1, 14), (14, .putfield 131, 3, 17), (17, .aload_n 0, 1, 18), (18, .iconst 0, 1, 19), (19, .putfield 147, 3, 22), (22, .iconst 1, 1, 23), (23, .istore_n 1, 1, 24), (24, .iconst 0, 1, 25), (25, .istore_n 2, 1, 26), (26, .iload_n 2, 1, 27), (27, .iconst 3, 1, 28), (28, .if_icmp .ge 73, 3, 31), (31, .iload_n 1, 1, 32), (32, .ifCond .eq 69, 3, 35), (35, .aload_n 0, 1, 36), (36, .invokevirtual 169, 3, 39), (39, .aload_n 0, 1, 40), (40, .getfield 137, 3, 43), (43, .iconst 3, 1, 44), (44, .if_icmp .ne 15, 3, 47), (47, .aload_n 0, 1, 48), (48, .getfield 140, 3, 51), (51, .iload_n 2, 1, 52), (52, .if_icmp .ne 7, 3, 55), (55, .iconst 1, 1, 56), (56, .goto 4, 3, 59), (59, .iconst 0, 1, 60), (60, .istore_n 1, 1, 61), (61, .aload_n 0, 1, 62), (62, .getfield 35, 3, 65), (65, .iconst 4, 1, 66), (66, .aload_n 0, 1, 67), (67, .getfield 122, 3, 70), (70, .imul, 1, 71), (71, .iload_n 2, 1, 72), (72, .iadd, 1, 73), (73, .aload_n 0, 1, 74), (74, .getfield 147, 3, 77), (77, .iastore, 1, 78), (78, .iload_n 1, 1, 79), (79, .ifCond .eq 14, 3, 82), (82, .aload_n 0, 1, 83), (83, .invokevirtual 182, 3, 86), (86, .ifCond .eq 7, 3, 89), (89, .iconst 1, 1, 90), (90, .goto 4, 3, 93), (93, .iconst 0, 1, 94), (94, .istore_n 1, 1, 95), (95, .iinc 2 1, 3, 98), (98, .goto (-72), 3, 101), (101, .iload_n 1, 1, 102), (102, .ifCond .eq 20, 3, 105), (105, .aload_n 0, 1, 106)]
theorem hX10_text_0 : ∀ q ∈ eX10_text_0, decode cX10_text q.1 = .ok (q.2.1, q.2.2.1) ∧ q.1 + q.2.2.1 = q.2.2.2 := by decide +kernel
theorem dX10_text_0 (i : Nat) {pc : Nat} {ins : Instr} {len pc' : Nat} (hi : eX10_text_0[i]? = some (pc, ins, len, pc')) : q_d cX10_text pc ins len pc' := q_dt hX10_text_0 i hi
def eX10_text_1 : List (Nat × Instr × Nat × Nat) := [(106, .invokevirtual 169, 3, 109), (109, .aload_n 0, 1, 110), (110, .getfield 137, 3, 113), (113, .ifCond .ne 7, 3, 116), (116, .iconst 1, 1, 117), (117, .goto 4, 3, 120), (120, .iconst 0, 1, 121), (121, .istore_n 1, 1, 122), (122, .aload_n 0, 1, 123), (123, .getfield 35, 3, 126), (126, .iconst 4, 1, 127), (127, .aload_n 0, 1, 128), (128, .getfield 122, 3, 131), (131, .imul, 1, 132), (132, .iconst 3, 1, 133), (133, .iadd, 1, 134), (134, .aload_n 0, 1, 135), (135, .getfield 147, 3, 138), (138, .iastore, 1, 139), (139, .aload_n 0, 1, 140), (140, .iconst 0, 1, 141), (141, .putfield 86, 3, 144), (144, .iload_n 1, 1, 145), (145, .ifCond .ne 11, 3, 148), (148, .bipush (-100), 2, 150), (150, .aload_n 0, 1, 151), (151, .getfield 134, 3, 154), (154, .isub, 1, 155), (155, .ireturn, 1, 156), (156, .aload_n 0, 1, 157), (157, .dup, 1, 158), (158, .getfield 122, 3, 161), (161, .iconst 1, 1, 162), (162, .iadd, 1, 163), (163, .putfield 122, 3, 166), (166, .aload_n 0, 1, 167), (167, .getfield 122, 3, 170), (170, .iconst 1, 1, 171), (171, .isub, 1, 172), (172, .ireturn, 1, 173)]
theorem hX10_text_1 : ∀ q ∈ eX10_text_1, decode cX10_text q.1 = .ok (q.2.1, q.2.2.1) ∧ q.1 + q.2.2.1 = q.2.2.2 := by decide +kernel
theorem dX10_text_1 (i : Nat) {pc : Nat} {ins : Instr} {len pc' : Nat} (hi : eX10_text_1[i]? = some (pc, ins, len, pc')) : q_d cX10_text pc ins len pc' := q_dt hX10_text_1 i hi
abbrev MX10_bothOf : MM := (yX10_bothOf, cX10_bothOf, 3, some .int)
def eX10_bothOf : List (Nat × Instr × Nat × Nat) := [(0, .iload_n 0, 1, 1), (1, .tableswitch 101 11 17 #[43, 57, 101, 71, 82, 93, 97], 43, 44), (44, .iload_n 1, 1, 45), (45, .ifCond .ne 7, 3, 48), (48, .iload_n 2, 1, 49), (49, .ifCond .eq 7, 3, 52), (52, .iconst 1, 1, 53), (53, .goto 4, 3, 56), (56, .iconst 0, 1, 57), (57, .ireturn, 1, 58), (58, .iload_n 1, 1, 59), (59, .ifCond .eq 11, 3, 62), (62, .iload_n 2, 1, 63), (63, .ifCond .eq 7, 3, 66), (66, .iconst 1, 1, 67), (67, .goto 4, 3, 70), (70, .iconst 0, 1, 71), (71, .ireturn, 1, 72), (72, .iload_n 1, 1, 73), (73, .iload_n 2, 1, 74), (74, .if_icmp .ge 7, 3, 77), (77, .iconst 1, 1, 78), (78, .goto 4, 3, 81), (81, .iconst 0, 1, 82), (82, .ireturn, 1, 83), (83, .iload_n 1, 1, 84), (84, .iload_n 2, 1, 85), (85, .if_icmp .ne 7, 3, 88), (88, .iconst 1, 1, 89), (89, .goto 4, 3, 92), (92, .iconst 0, 1, 93), (93, .ireturn, 1, 94), (94, .iload_n 1, 1, 95), (95, .iload_n 2, 1, 96), (96, .iadd, 1, 97), (97, .ireturn, 1, 98), (98, .iload_n 1, 1, 99), (99, .iload_n 2, 1, 100), (100, .isub, 1, 101), (101, .ireturn, 1, 102), (102, .iload_n 1, 1, 103), (103, .iload_n 2, 1, 104), (104, .imul, 1, 105), (105, .ireturn, 1, 106)]
theorem hX10_bothOf : ∀ q ∈ eX10_bothOf, decode cX10_bothOf q.1 = .ok (q.2.1, q.2.2.1) ∧ q.1 + q.2.2.1 = q.2.2.2 := by decide +kernel
theorem dX10_bothOf (i : Nat) {pc : Nat} {ins : Instr} {len pc' : Nat} (hi : eX10_bothOf[i]? = some (pc, ins, len, pc')) : q_d cX10_bothOf pc ins len pc' := q_dt hX10_bothOf i hi
abbrev MX10_worth : MM := (yX10_worth, cX10_worth, 5, some .int)
def eX10_worth_0 : List (Nat × Instr × Nat × Nat) := [(0, .iconst 0, 1, 1), (1, .istore_n 2, 1, 2), (2, .aload_n 0, 1, 3), (3, .getfield 35, 3, 6), (6, .iconst 4, 1, 7), (7, .aload_n 0, 1, 8), (8, .getfield 125, 3, 11), (11, .imul, 1, 12), (12, .iload_n 1, 1, 13), (13, .iadd, 1, 14), (14, .iaload, 1, 15), (15, .istore_n 3, 1, 16), (16, .iload_n 3, 1, 17), (17, .aload_n 0, 1, 18), (18, .getfield 35, 3, 21), (21, .iconst 4, 1, 22), (22, .aload_n 0, 1, 23), (23, .getfield 125, 3, 26), (26, .imul, 1, 27), (27, .iload_n 1, 1, 28), (28, .iadd, 1, 29), (29, .iconst 1, 1, 30), (30, .iadd, 1, 31), (31, .iaload, 1, 32), (32, .if_icmp .ge 165, 3, 35), (35, .aload_n 0, 1, 36), (36, .getfield 32, 3, 39), (39, .sipush 200, 3, 42), (42, .aload_n 0, 1, 43), (43, .getfield 125, 3, 46), (46, .imul, 1, 47), (47, .iload_n 3, 1, 48), (48, .iadd, 1, 49), (49, .iaload, 1, 50), (50, .istore 4, 2, 52), (52, .iload 4, 2, 54), (54, .ldc 172, 2, 56), (56, .if_icmp .ge 10, 3, 59), (59, .iload 4, 2, 61), (61, .bipush 11, 2, 63), (63, .if_icmp .ge 37, 3, 66), (66, .aload_n 0, 1, 67), (67, .getfield 59, 3, 70), (70, .iload_n 2, 1, 71), (71, .iload 4, 2, 73), (73, .bipush 11, 2, 75), (75, .if_icmp .ge 13, 3, 78), (78, .aload_n 0, 1, 79), (79, .getfield 62, 3, 82), (82, .iload 4, 2, 84), (84, .iaload, 1, 85), (85, .goto 8, 3, 88), (88, .iload 4, 2, 90), (90, .ldc 172, 2, 92), (92, .isub, 1, 93), (93, .iastore, 1, 94), (94, .iinc 2 1, 3, 97), (97, .goto 94, 3, 100), (100, .iload 4, 2, 102), (102, .bipush 13, 2, 104)]
theorem hX10_worth_0 : ∀ q ∈ eX10_worth_0, decode cX10_worth q.1 = .ok (q.2.1, q.2.2.1) ∧ q.1 + q.2.2.1 = q.2.2.2 := by decide +kernel
theorem dX10_worth_0 (i : Nat) {pc : Nat} {ins : Instr} {len pc' : Nat} (hi : eX10_worth_0[i]? = some (pc, ins, len, pc')) : q_d cX10_worth pc ins len pc' := q_dt hX10_worth_0 i hi
def eX10_worth_1 : List (Nat × Instr × Nat × Nat) := [(104, .if_icmp .ne 30, 3, 107), (107, .aload_n 0, 1, 108), (108, .getfield 59, 3, 111), (111, .iload_n 2, 1, 112), (112, .iconst 1, 1, 113), (113, .isub, 1, 114), (114, .aload_n 0, 1, 115), (115, .getfield 59, 3, 118), (118, .iload_n 2, 1, 119), (119, .iconst 1, 1, 120), (120, .isub, 1, 121), (121, .iaload, 1, 122), (122, .ifCond .ne 7, 3, 125), (125, .iconst 1, 1, 126), (126, .goto 4, 3, 129), (129, .iconst 0, 1, 130), (130, .iastore, 1, 131), (131, .goto 60, 3, 134), (134, .iload 4, 2, 136), (136, .bipush 19, 2, 138), (138, .if_icmp .ne 23, 3, 141), (141, .aload_n 0, 1, 142), (142, .getfield 59, 3, 145), (145, .iload_n 2, 1, 146), (146, .iconst 1, 1, 147), (147, .isub, 1, 148), (148, .aload_n 0, 1, 149), (149, .getfield 59, 3, 152), (152, .iload_n 2, 1, 153), (153, .iconst 1, 1, 154), (154, .isub, 1, 155), (155, .iaload, 1, 156), (156, .ineg, 1, 157), (157, .iastore, 1, 158), (158, .goto 33, 3, 161), (161, .iinc 2 (-1), 3, 164), (164, .aload_n 0, 1, 165), (165, .getfield 59, 3, 168), (168, .iload_n 2, 1, 169), (169, .iconst 1, 1, 170), (170, .isub, 1, 171), (171, .iload 4, 2, 173), (173, .aload_n 0, 1, 174), (174, .getfield 59, 3, 177), (177, .iload_n 2, 1, 178), (178, .iconst 1, 1, 179), (179, .isub, 1, 180), (180, .iaload, 1, 181), (181, .aload_n 0, 1, 182), (182, .getfield 59, 3, 185), (185, .iload_n 2, 1, 186), (186, .iaload, 1, 187), (187, .invokestatic 186, 3, 190), (190, .iastore, 1, 191), (191, .iinc 3 1, 3, 194), (194, .goto (-178), 3, 197), (197, .aload_n 0, 1, 198), (198, .getfield 59, 3, 201), (201, .iconst 0, 1, 202), (202, .iaload, 1, 203)]
theorem hX10_worth_1 : ∀ q ∈ eX10_worth_1, decode cX10_worth q.1 = .ok (q.2.1, q.2.2.1) ∧ q.1 + q.2.2.1 = q.2.2.2 := by decide +kernel
theorem dX10_worth_1 (i : Nat) {pc : Nat} {ins : Instr} {len pc' : Nat} (hi : eX10_worth_1[i]? = some (pc, ins, len, pc')) : q_d cX10_worth pc ins len pc' := q_dt hX10_worth_1 i hi
def eX10_worth_2 : List (Nat × Instr × Nat × Nat) := [(203, .ireturn, 1, 204)]
theorem hX10_worth_2 : ∀ q ∈ eX10_worth_2, decode cX10_worth q.1 = .ok (q.2.1, q.2.2.1) ∧ q.1 + q.2.2.1 = q.2.2.2 := by decide +kernel
theorem dX10_worth_2 (i : Nat) {pc : Nat} {ins : Instr} {len pc' : Nat} (hi : eX10_worth_2[i]? = some (pc, ins, len, pc')) : q_d cX10_worth pc ins len pc' := q_dt hX10_worth_2 i hi
abbrev MX10_force : MM := (yX10_force, cX10_force, 3, some .int)
def eX10_force : List (Nat × Instr × Nat × Nat) := [(0, .iload_n 1, 1, 1), (1, .iconst 0, 1, 2), (2, .aload_n 0, 1, 3), (3, .getfield 122, 3, 6), (6, .iconst 1, 1, 7), (7, .isub, 1, 8), (8, .invokestatic 101, 3, 11), (11, .ifCond .ne 6, 3, 14), (14, .bipush (-2), 2, 16), (16, .ireturn, 1, 17), (17, .aload_n 0, 1, 18), (18, .getfield 125, 3, 21), (21, .istore_n 2, 1, 22), (22, .aload_n 0, 1, 23), (23, .iload_n 1, 1, 24), (24, .putfield 125, 3, 27), (27, .iload_n 2, 1, 28), (28, .ireturn, 1, 29)]
theorem hX10_force : ∀ q ∈ eX10_force, decode cX10_force q.1 = .ok (q.2.1, q.2.2.1) ∧ q.1 + q.2.2.1 = q.2.2.2 := by decide +kernel
theorem dX10_force (i : Nat) {pc : Nat} {ins : Instr} {len pc' : Nat} (hi : eX10_force[i]? = some (pc, ins, len, pc')) : q_d cX10_force pc ins len pc' := q_dt hX10_force i hi
abbrev MX10_asksOf : MM := (yX10_asksOf, cX10_asksOf, 7, some .int)
def eX10_asksOf : List (Nat × Instr × Nat × Nat) := [(0, .aload_n 0, 1, 1), (1, .getfield 62, 3, 4), (4, .iconst 0, 1, 5), (5, .aload_n 0, 1, 6), (6, .getfield 13, 3, 9), (9, .iload_n 2, 1, 10), (10, .iaload, 1, 11), (11, .iastore, 1, 12), (12, .aload_n 0, 1, 13), (13, .getfield 62, 3, 16), (16, .iconst 1, 1, 17), (17, .iload_n 3, 1, 18), (18, .iastore, 1, 19), (19, .aload_n 0, 1, 20), (20, .getfield 62, 3, 23), (23, .iconst 2, 1, 24), (24, .iload_n 2, 1, 25), (25, .iastore, 1, 26), (26, .aload_n 0, 1, 27), (27, .getfield 62, 3, 30), (30, .iconst 3, 1, 31), (31, .iload_n 3, 1, 32), (32, .invokestatic 108, 3, 35), (35, .iastore, 1, 36), (36, .aload_n 0, 1, 37), (37, .getfield 62, 3, 40), (40, .iconst 4, 1, 41), (41, .iload 4, 2, 43), (43, .iastore, 1, 44), (44, .aload_n 0, 1, 45), (45, .getfield 62, 3, 48), (48, .iconst 5, 1, 49), (49, .iload 5, 2, 51), (51, .iastore, 1, 52), (52, .aload_n 0, 1, 53), (53, .iload_n 1, 1, 54), (54, .invokevirtual 190, 3, 57), (57, .istore 6, 2, 59), (59, .iload_n 1, 1, 60), (60, .ifCond .ne 16, 3, 63), (63, .iload 6, 2, 65), (65, .ifCond .ne 7, 3, 68), (68, .iconst 0, 1, 69), (69, .goto 26, 3, 72), (72, .iconst 1, 1, 73), (73, .goto 22, 3, 76), (76, .iload 6, 2, 78), (78, .iconst 0, 1, 79), (79, .iload_n 1, 1, 80), (80, .iconst 1, 1, 81), (81, .if_icmp .ne 8, 3, 84), (84, .bipush 99, 2, 86), (86, .goto 6, 3, 89), (89, .sipush 999, 3, 92), (92, .invokestatic 193, 3, 95), (95, .ireturn, 1, 96)]
theorem hX10_asksOf : ∀ q ∈ eX10_asksOf, decode cX10_asksOf q.1 = .ok (q.2.1, q.2.2.1) ∧ q.1 + q.2.2.1 = q.2.2.2 := by decide +kernel
theorem dX10_asksOf (i : Nat) {pc : Nat} {ins : Instr} {len pc' : Nat} (hi : eX10_asksOf[i]? = some (pc, ins, len, pc')) : q_d cX10_asksOf pc ins len pc' := q_dt hX10_asksOf i hi
abbrev MX10_asks : MM := (yX10_asks, cX10_asks, 7, some .int)
def eX10_asks : List (Nat × Instr × Nat × Nat) := [(0, .aload_n 0, 1, 1), (1, .iload_n 2, 1, 2), (2, .invokevirtual 112, 3, 5), (5, .ifCond .ne 6, 3, 8), (8, .bipush (-5), 2, 10), (10, .ireturn, 1, 11), (11, .iload_n 1, 1, 12), (12, .iconst 0, 1, 13), (13, .iconst 2, 1, 14), (14, .invokestatic 101, 3, 17), (17, .ifCond .eq 39, 3, 20), (20, .iload_n 3, 1, 21), (21, .iconst 0, 1, 22), (22, .bipush 63, 2, 24), (24, .invokestatic 101, 3, 27), (27, .ifCond .eq 29, 3, 30), (30, .iload 4, 2, 32), (32, .iconst 0, 1, 33), (33, .iconst 3, 1, 34), (34, .invokestatic 101, 3, 37), (37, .ifCond .eq 19, 3, 40), (40, .iload 5, 2, 42), (42, .iconst 0, 1, 43), (43, .sipush 720, 3, 46), (46, .invokestatic 101, 3, 49), (49, .ifCond .eq 7, 3, 52), (52, .iconst 1, 1, 53), (53, .goto 4, 3, 56), (56, .iconst 0, 1, 57), (57, .istore 6, 2, 59), (59, .iload 6, 2, 61), (61, .ifCond .eq 17, 3, 64), (64, .aload_n 0, 1, 65), (65, .iload_n 1, 1, 66), (66, .iload_n 2, 1, 67), (67, .iload_n 3, 1, 68), (68, .iload 4, 2, 70), (70, .iload 5, 2, 72), (72, .invokevirtual 196, 3, 75), (75, .goto 5, 3, 78), (78, .bipush (-7), 2, 80), (80, .ireturn, 1, 81)]
theorem hX10_asks : ∀ q ∈ eX10_asks, decode cX10_asks q.1 = .ok (q.2.1, q.2.2.1) ∧ q.1 + q.2.2.1 = q.2.2.2 := by decide +kernel
theorem dX10_asks (i : Nat) {pc : Nat} {ins : Instr} {len pc' : Nat} (hi : eX10_asks[i]? = some (pc, ins, len, pc')) : q_d cX10_asks pc ins len pc' := q_dt hX10_asks i hi
abbrev MX10_isFact : MM := (yX10_isFact, cX10_isFact, 5, some .boolean)
def eX10_isFact : List (Nat × Instr × Nat × Nat) := [(0, .iload_n 1, 1, 1), (1, .iconst 0, 1, 2), (2, .iconst 5, 1, 3), (3, .invokestatic 101, 3, 6), (6, .ifCond .eq 50, 3, 9), (9, .aload_n 0, 1, 10), (10, .iload_n 2, 1, 11), (11, .invokevirtual 112, 3, 14), (14, .ifCond .eq 42, 3, 17), (17, .iload_n 3, 1, 18), (18, .iconst 0, 1, 19), (19, .bipush 63, 2, 21), (21, .invokestatic 101, 3, 24), (24, .ifCond .eq 32, 3, 27), (27, .iload 4, 2, 29), (29, .iconst 0, 1, 30), (30, .bipush 9, 2, 32), (32, .invokestatic 101, 3, 35), (35, .ifCond .eq 21, 3, 38), (38, .iload_n 1, 1, 39), (39, .iconst 4, 1, 40), (40, .if_icmp .ne 12, 3, 43), (43, .aload_n 0, 1, 44), (44, .iload 4, 2, 46), (46, .invokevirtual 112, 3, 49), (49, .ifCond .eq 7, 3, 52), (52, .iconst 1, 1, 53), (53, .goto 4, 3, 56), (56, .iconst 0, 1, 57), (57, .ireturn, 1, 58)]
theorem hX10_isFact : ∀ q ∈ eX10_isFact, decode cX10_isFact q.1 = .ok (q.2.1, q.2.2.1) ∧ q.1 + q.2.2.1 = q.2.2.2 := by decide +kernel
theorem dX10_isFact (i : Nat) {pc : Nat} {ins : Instr} {len pc' : Nat} (hi : eX10_isFact[i]? = some (pc, ins, len, pc')) : q_d cX10_isFact pc ins len pc' := q_dt hX10_isFact i hi
abbrev MX10_lays : MM := (yX10_lays, cX10_lays, 5, none)
def eX10_lays : List (Nat × Instr × Nat × Nat) := [(0, .aload_n 0, 1, 1), (1, .getfield 23, 3, 4), (4, .iconst 4, 1, 5), (5, .aload_n 0, 1, 6), (6, .getfield 119, 3, 9), (9, .imul, 1, 10), (10, .iload_n 1, 1, 11), (11, .iastore, 1, 12), (12, .aload_n 0, 1, 13), (13, .getfield 23, 3, 16), (16, .iconst 4, 1, 17), (17, .aload_n 0, 1, 18), (18, .getfield 119, 3, 21), (21, .imul, 1, 22), (22, .iconst 1, 1, 23), (23, .iadd, 1, 24), (24, .iload_n 2, 1, 25), (25, .iastore, 1, 26), (26, .aload_n 0, 1, 27), (27, .getfield 23, 3, 30), (30, .iconst 4, 1, 31), (31, .aload_n 0, 1, 32), (32, .getfield 119, 3, 35), (35, .imul, 1, 36), (36, .iconst 2, 1, 37), (37, .iadd, 1, 38), (38, .iload_n 3, 1, 39), (39, .iastore, 1, 40), (40, .aload_n 0, 1, 41), (41, .getfield 23, 3, 44), (44, .iconst 4, 1, 45), (45, .aload_n 0, 1, 46), (46, .getfield 119, 3, 49), (49, .imul, 1, 50), (50, .iconst 3, 1, 51), (51, .iadd, 1, 52), (52, .iload 4, 2, 54), (54, .iastore, 1, 55), (55, .return_, 1, 56)]
theorem hX10_lays : ∀ q ∈ eX10_lays, decode cX10_lays q.1 = .ok (q.2.1, q.2.2.1) ∧ q.1 + q.2.2.1 = q.2.2.2 := by decide +kernel
theorem dX10_lays (i : Nat) {pc : Nat} {ins : Instr} {len pc' : Nat} (hi : eX10_lays[i]? = some (pc, ins, len, pc')) : q_d cX10_lays pc ins len pc' := q_dt hX10_lays i hi
abbrev MX10_know : MM := (yX10_know, cX10_know, 5, some .int)
def eX10_know : List (Nat × Instr × Nat × Nat) := [(0, .aload_n 0, 1, 1), (1, .iload_n 1, 1, 2), (2, .iload_n 2, 1, 3), (3, .iload_n 3, 1, 4), (4, .iload 4, 2, 6), (6, .invokevirtual 200, 3, 9), (9, .ifCond .ne 6, 3, 12), (12, .bipush (-2), 2, 14), (14, .ireturn, 1, 15), (15, .aload_n 0, 1, 16), (16, .getfield 119, 3, 19), (19, .bipush 12, 2, 21), (21, .if_icmp .ne 6, 3, 24), (24, .bipush (-4), 2, 26), (26, .ireturn, 1, 27), (27, .aload_n 0, 1, 28), (28, .iload_n 1, 1, 29), (29, .iload_n 2, 1, 30), (30, .iload_n 3, 1, 31), (31, .iload 4, 2, 33), (33, .invokevirtual 204, 3, 36), (36, .aload_n 0, 1, 37), (37, .dup, 1, 38), (38, .getfield 119, 3, 41), (41, .iconst 1, 1, 42), (42, .iadd, 1, 43), (43, .putfield 119, 3, 46), (46, .aload_n 0, 1, 47), (47, .getfield 119, 3, 50), (50, .iconst 1, 1, 51), (51, .isub, 1, 52), (52, .ireturn, 1, 53)]
theorem hX10_know : ∀ q ∈ eX10_know, decode cX10_know q.1 = .ok (q.2.1, q.2.2.1) ∧ q.1 + q.2.2.1 = q.2.2.2 := by decide +kernel
theorem dX10_know (i : Nat) {pc : Nat} {ins : Instr} {len pc' : Nat} (hi : eX10_know[i]? = some (pc, ins, len, pc')) : q_d cX10_know pc ins len pc' := q_dt hX10_know i hi
abbrev MX10_forget : MM := (yX10_forget, cX10_forget, 1, some .int)
def eX10_forget : List (Nat × Instr × Nat × Nat) := [(0, .aload_n 0, 1, 1), (1, .getfield 119, 3, 4), (4, .ifCond .ne 6, 3, 7), (7, .bipush (-3), 2, 9), (9, .ireturn, 1, 10), (10, .aload_n 0, 1, 11), (11, .dup, 1, 12), (12, .getfield 119, 3, 15), (15, .iconst 1, 1, 16), (16, .isub, 1, 17), (17, .putfield 119, 3, 20), (20, .aload_n 0, 1, 21), (21, .aload_n 0, 1, 22), (22, .getfield 208, 3, 25), (25, .ifCond .eq 18, 3, 28), (28, .aload_n 0, 1, 29), (29, .getfield 212, 3, 32), (32, .aload_n 0, 1, 33), (33, .getfield 119, 3, 36), (36, .if_icmp .gt 7, 3, 39), (39, .iconst 1, 1, 40), (40, .goto 4, 3, 43), (43, .iconst 0, 1, 44), (44, .putfield 208, 3, 47), (47, .aload_n 0, 1, 48), (48, .getfield 119, 3, 51), (51, .ireturn, 1, 52)]
theorem hX10_forget : ∀ q ∈ eX10_forget, decode cX10_forget q.1 = .ok (q.2.1, q.2.2.1) ∧ q.1 + q.2.2.1 = q.2.2.2 := by decide +kernel
theorem dX10_forget (i : Nat) {pc : Nat} {ins : Instr} {len pc' : Nat} (hi : eX10_forget[i]? = some (pc, ins, len, pc')) : q_d cX10_forget pc ins len pc' := q_dt hX10_forget i hi
abbrev MX10_factTold : MM := (yX10_factTold, cX10_factTold, 3, some .int)
def eX10_factTold : List (Nat × Instr × Nat × Nat) := [(0, .iload_n 1, 1, 1), (1, .iconst 0, 1, 2), (2, .aload_n 0, 1, 3), (3, .getfield 119, 3, 6), (6, .iconst 1, 1, 7), (7, .isub, 1, 8), (8, .invokestatic 101, 3, 11), (11, .ifCond .ne 8, 3, 14), (14, .bipush (-5), 2, 16), (16, .goto 27, 3, 19), (19, .iload_n 2, 1, 20), (20, .iconst 0, 1, 21), (21, .iconst 3, 1, 22), (22, .invokestatic 101, 3, 25), (25, .ifCond .eq 16, 3, 28), (28, .aload_n 0, 1, 29), (29, .getfield 23, 3, 32), (32, .iconst 4, 1, 33), (33, .iload_n 1, 1, 34), (34, .imul, 1, 35), (35, .iload_n 2, 1, 36), (36, .iadd, 1, 37), (37, .iaload, 1, 38), (38, .goto 5, 3, 41), (41, .bipush (-7), 2, 43), (43, .ireturn, 1, 44)]
theorem hX10_factTold : ∀ q ∈ eX10_factTold, decode cX10_factTold q.1 = .ok (q.2.1, q.2.2.1) ∧ q.1 + q.2.2.1 = q.2.2.2 := by decide +kernel
theorem dX10_factTold (i : Nat) {pc : Nat} {ins : Instr} {len pc' : Nat} (hi : eX10_factTold[i]? = some (pc, ins, len, pc')) : q_d cX10_factTold pc ins len pc' := q_dt hX10_factTold i hi
abbrev MX10_hasIn : MM := (yX10_hasIn, cX10_hasIn, 5, some .int)
def eX10_hasIn : List (Nat × Instr × Nat × Nat) := [(0, .iconst 0, 1, 1), (1, .istore_n 3, 1, 2), (2, .iconst 0, 1, 3), (3, .istore 4, 2, 5), (5, .iload 4, 2, 7), (7, .bipush 6, 2, 9), (9, .if_icmp .ge 45, 3, 12), (12, .iload_n 3, 1, 13), (13, .aload_n 0, 1, 14), (14, .getfield 7, 3, 17), (17, .iload_n 1, 1, 18), (18, .iaload, 1, 19), (19, .iload 4, 2, 21), (21, .ishr, 1, 22), (22, .iconst 1, 1, 23), (23, .iand, 1, 24), (24, .iconst 1, 1, 25), (25, .if_icmp .ne 20, 3, 28), (28, .iconst 1, 1, 29), (29, .aload_n 0, 1, 30), (30, .getfield 26, 3, 33), (33, .bipush 6, 2, 35), (35, .iload_n 2, 1, 36), (36, .imul, 1, 37), (37, .iload 4, 2, 39), (39, .iadd, 1, 40), (40, .iaload, 1, 41), (41, .ishl, 1, 42), (42, .goto 4, 3, 45), (45, .iconst 0, 1, 46), (46, .ior, 1, 47), (47, .istore_n 3, 1, 48), (48, .iinc 4 1, 3, 51), (51, .goto (-46), 3, 54), (54, .iload_n 3, 1, 55), (55, .ireturn, 1, 56)]
theorem hX10_hasIn : ∀ q ∈ eX10_hasIn, decode cX10_hasIn q.1 = .ok (q.2.1, q.2.2.1) ∧ q.1 + q.2.2.1 = q.2.2.2 := by decide +kernel
theorem dX10_hasIn (i : Nat) {pc : Nat} {ins : Instr} {len pc' : Nat} (hi : eX10_hasIn[i]? = some (pc, ins, len, pc')) : q_d cX10_hasIn pc ins len pc' := q_dt hX10_hasIn i hi
abbrev MX10_holds_ : MM := (yX10_holds_, cX10_holds_, 6, some .boolean)
def eX10_holds__0 : List (Nat × Instr × Nat × Nat) := [(0, .aload_n 0, 1, 1), (1, .aload_n 0, 1, 2), (2, .getfield 23, 3, 5), (5, .iconst 4, 1, 6), (6, .iload_n 1, 1, 7), (7, .imul, 1, 8), (8, .iconst 1, 1, 9), (9, .iadd, 1, 10), (10, .iaload, 1, 11), (11, .iload_n 2, 1, 12), (12, .invokevirtual 215, 3, 15), (15, .istore_n 3, 1, 16), (16, .aload_n 0, 1, 17), (17, .getfield 23, 3, 20), (20, .iconst 4, 1, 21), (21, .iload_n 1, 1, 22), (22, .imul, 1, 23), (23, .iconst 2, 1, 24), (24, .iadd, 1, 25), (25, .iaload, 1, 26), (26, .istore 4, 2, 28), (28, .aload_n 0, 1, 29), (29, .getfield 23, 3, 32), (32, .iconst 4, 1, 33), (33, .iload_n 1, 1, 34), (34, .imul, 1, 35), (35, .iconst 3, 1, 36), (36, .iadd, 1, 37), (37, .iaload, 1, 38), (38, .istore 5, 2, 40), (40, .aload_n 0, 1, 41), (41, .getfield 23, 3, 44), (44, .iconst 4, 1, 45), (45, .iload_n 1, 1, 46), (46, .imul, 1, 47), (47, .iaload, 1, 48), (48, .tableswitch 123 1 5 #[36, 48, 63, 90, 110], 36, 84), (84, .iload_n 3, 1, 85), (85, .iload 4, 2, 87), (87, .if_icmp .ne 7, 3, 90), (90, .iconst 1, 1, 91), (91, .goto 4, 3, 94), (94, .iconst 0, 1, 95), (95, .ireturn, 1, 96), (96, .iload 4, 2, 98), (98, .iload_n 3, 1, 99), (99, .iconst (-1), 1, 100), (100, .ixor, 1, 101), (101, .iand, 1, 102), (102, .ifCond .ne 7, 3, 105), (105, .iconst 1, 1, 106), (106, .goto 4, 3, 109), (109, .iconst 0, 1, 110), (110, .ireturn, 1, 111), (111, .iload 4, 2, 113), (113, .iload_n 3, 1, 114), (114, .iconst (-1), 1, 115), (115, .ixor, 1, 116), (116, .iand, 1, 117), (117, .ifCond .eq 15, 3, 120)]
theorem hX10_holds__0 : ∀ q ∈ eX10_holds__0, decode cX10_holds_ q.1 = .ok (q.2.1, q.2.2.1) ∧ q.1 + q.2.2.1 = q.2.2.2 := by decide +kernel
theorem dX10_holds__0 (i : Nat) {pc : Nat} {ins : Instr} {len pc' : Nat} (hi : eX10_holds__0[i]? = some (pc, ins, len, pc')) : q_d cX10_holds_ pc ins len pc' := q_dt hX10_holds__0 i hi
def eX10_holds__1 : List (Nat × Instr × Nat × Nat) := [(120, .iload 4, 2, 122), (122, .iload_n 3, 1, 123), (123, .iand, 1, 124), (124, .invokestatic 108, 3, 127), (127, .iload 5, 2, 129), (129, .if_icmp .lt 7, 3, 132), (132, .iconst 1, 1, 133), (133, .goto 4, 3, 136), (136, .iconst 0, 1, 137), (137, .ireturn, 1, 138), (138, .iload_n 3, 1, 139), (139, .aload_n 0, 1, 140), (140, .iload 5, 2, 142), (142, .iload_n 2, 1, 143), (143, .invokevirtual 215, 3, 146), (146, .iand, 1, 147), (147, .iload 4, 2, 149), (149, .if_icmp .ne 7, 3, 152), (152, .iconst 1, 1, 153), (153, .goto 4, 3, 156), (156, .iconst 0, 1, 157), (157, .ireturn, 1, 158), (158, .iload 4, 2, 160), (160, .iload_n 3, 1, 161), (161, .iand, 1, 162), (162, .ifCond .ne 7, 3, 165), (165, .iconst 1, 1, 166), (166, .goto 4, 3, 169), (169, .iconst 0, 1, 170), (170, .ireturn, 1, 171), (171, .iconst 1, 1, 172), (172, .ireturn, 1, 173)]
theorem hX10_holds__1 : ∀ q ∈ eX10_holds__1, decode cX10_holds_ q.1 = .ok (q.2.1, q.2.2.1) ∧ q.1 + q.2.2.1 = q.2.2.2 := by decide +kernel
theorem dX10_holds__1 (i : Nat) {pc : Nat} {ins : Instr} {len pc' : Nat} (hi : eX10_holds__1[i]? = some (pc, ins, len, pc')) : q_d cX10_holds_ pc ins len pc' := q_dt hX10_holds__1 i hi
abbrev MX10_mays : MM := (yX10_mays, cX10_mays, 2, none)
def eX10_mays : List (Nat × Instr × Nat × Nat) := [(0, .iconst 0, 1, 1), (1, .istore_n 1, 1, 2), (2, .iload_n 1, 1, 3), (3, .bipush 64, 2, 5), (5, .aload_n 0, 1, 6), (6, .getfield 98, 3, 9), (9, .imul, 1, 10), (10, .if_icmp .ge 45, 3, 13), (13, .aload_n 0, 1, 14), (14, .getfield 68, 3, 17), (17, .iload_n 1, 1, 18), (18, .iload_n 1, 1, 19), (19, .bipush 64, 2, 21), (21, .irem, 1, 22), (22, .invokestatic 108, 3, 25), (25, .iconst 3, 1, 26), (26, .if_icmp .gt 21, 3, 29), (29, .aload_n 0, 1, 30), (30, .iconst 0, 1, 31), (31, .iload_n 1, 1, 32), (32, .bipush 64, 2, 34), (34, .idiv, 1, 35), (35, .iload_n 1, 1, 36), (36, .bipush 64, 2, 38), (38, .irem, 1, 39), (39, .iconst 0, 1, 40), (40, .iconst 0, 1, 41), (41, .invokevirtual 196, 3, 44), (44, .goto 4, 3, 47), (47, .iconst 0, 1, 48), (48, .iastore, 1, 49), (49, .iinc 1 1, 3, 52), (52, .goto (-50), 3, 55), (55, .return_, 1, 56)]
theorem hX10_mays : ∀ q ∈ eX10_mays, decode cX10_mays q.1 = .ok (q.2.1, q.2.2.1) ∧ q.1 + q.2.2.1 = q.2.2.2 := by decide +kernel
theorem dX10_mays (i : Nat) {pc : Nat} {ins : Instr} {len pc' : Nat} (hi : eX10_mays[i]? = some (pc, ins, len, pc')) : q_d cX10_mays pc ins len pc' := q_dt hX10_mays i hi
abbrev MX10_mayBe : MM := (yX10_mayBe, cX10_mayBe, 3, some .boolean)
def eX10_mayBe : List (Nat × Instr × Nat × Nat) := [(0, .iconst 0, 1, 1), (1, .istore_n 2, 1, 2), (2, .iload_n 2, 1, 3), (3, .aload_n 0, 1, 4), (4, .getfield 98, 3, 7), (7, .if_icmp .ge 30, 3, 10), (10, .aload_n 0, 1, 11), (11, .getfield 68, 3, 14), (14, .bipush 64, 2, 16), (16, .iload_n 2, 1, 17), (17, .imul, 1, 18), (18, .aload_n 0, 1, 19), (19, .iload_n 2, 1, 20), (20, .iload_n 1, 1, 21), (21, .invokevirtual 215, 3, 24), (24, .iadd, 1, 25), (25, .iaload, 1, 26), (26, .ifCond .ne 5, 3, 29), (29, .iconst 0, 1, 30), (30, .ireturn, 1, 31), (31, .iinc 2 1, 3, 34), (34, .goto (-32), 3, 37), (37, .iconst 1, 1, 38), (38, .ireturn, 1, 39)]
theorem hX10_mayBe : ∀ q ∈ eX10_mayBe, decode cX10_mayBe q.1 = .ok (q.2.1, q.2.2.1) ∧ q.1 + q.2.2.1 = q.2.2.2 := by decide +kernel
theorem dX10_mayBe (i : Nat) {pc : Nat} {ins : Instr} {len pc' : Nat} (hi : eX10_mayBe[i]? = some (pc, ins, len, pc')) : q_d cX10_mayBe pc ins len pc' := q_dt hX10_mayBe i hi
abbrev MX10_finds : MM := (yX10_finds, cX10_finds, 3, none)
def eX10_finds_0 : List (Nat × Instr × Nat × Nat) := [(0, .aload_n 0, 1, 1), (1, .invokevirtual 218, 3, 4), (4, .aload_n 0, 1, 5), (5, .iconst 0, 1, 6), (6, .putfield 220, 3, 9), (9, .iconst 0, 1, 10), (10, .istore_n 1, 1, 11), (11, .iload_n 1, 1, 12), (12, .sipush 720, 3, 15), (15, .if_icmp .ge 107, 3, 18), (18, .aload_n 0, 1, 19), (19, .getfield 65, 3, 22), (22, .iload_n 1, 1, 23), (23, .aload_n 0, 1, 24), (24, .iload_n 1, 1, 25), (25, .invokevirtual 223, 3, 28), (28, .ifCond .eq 7, 3, 31), (31, .iconst 0, 1, 32), (32, .goto 4, 3, 35), (35, .iconst (-1), 1, 36), (36, .iastore, 1, 37), (37, .iconst 0, 1, 38), (38, .istore_n 2, 1, 39), (39, .iload_n 2, 1, 40), (40, .aload_n 0, 1, 41), (41, .getfield 119, 3, 44), (44, .if_icmp .ge 43, 3, 47), (47, .aload_n 0, 1, 48), (48, .getfield 65, 3, 51), (51, .iload_n 1, 1, 52), (52, .iaload, 1, 53), (53, .ifCond .lt 34, 3, 56), (56, .aload_n 0, 1, 57), (57, .getfield 65, 3, 60), (60, .iload_n 1, 1, 61), (61, .dup2, 1, 62), (62, .iaload, 1, 63), (63, .aload_n 0, 1, 64), (64, .iload_n 2, 1, 65), (65, .iload_n 1, 1, 66), (66, .invokevirtual 226, 3, 69), (69, .ifCond .eq 7, 3, 72), (72, .iconst 0, 1, 73), (73, .goto 6, 3, 76), (76, .iconst 1, 1, 77), (77, .iload_n 2, 1, 78), (78, .ishl, 1, 79), (79, .ior, 1, 80), (80, .iastore, 1, 81), (81, .iinc 2 1, 3, 84), (84, .goto (-45), 3, 87), (87, .aload_n 0, 1, 88), (88, .getfield 65, 3, 91), (91, .iload_n 1, 1, 92), (92, .iaload, 1, 93), (93, .ifCond .ne 23, 3, 96), (96, .aload_n 0, 1, 97), (97, .getfield 71, 3, 100), (100, .aload_n 0, 1, 101), (101, .getfield 220, 3, 104)]
theorem hX10_finds_0 : ∀ q ∈ eX10_finds_0, decode cX10_finds q.1 = .ok (q.2.1, q.2.2.1) ∧ q.1 + q.2.2.1 = q.2.2.2 := by decide +kernel
theorem dX10_finds_0 (i : Nat) {pc : Nat} {ins : Instr} {len pc' : Nat} (hi : eX10_finds_0[i]? = some (pc, ins, len, pc')) : q_d cX10_finds pc ins len pc' := q_dt hX10_finds_0 i hi
def eX10_finds_1 : List (Nat × Instr × Nat × Nat) := [(104, .iload_n 1, 1, 105), (105, .iastore, 1, 106), (106, .aload_n 0, 1, 107), (107, .dup, 1, 108), (108, .getfield 220, 3, 111), (111, .iconst 1, 1, 112), (112, .iadd, 1, 113), (113, .putfield 220, 3, 116), (116, .iinc 1 1, 3, 119), (119, .goto (-108), 3, 122), (122, .return_, 1, 123)]
theorem hX10_finds_1 : ∀ q ∈ eX10_finds_1, decode cX10_finds q.1 = .ok (q.2.1, q.2.2.1) ∧ q.1 + q.2.2.1 = q.2.2.2 := by decide +kernel
theorem dX10_finds_1 (i : Nat) {pc : Nat} {ins : Instr} {len pc' : Nat} (hi : eX10_finds_1[i]? = some (pc, ins, len, pc')) : q_d cX10_finds pc ins len pc' := q_dt hX10_finds_1 i hi
abbrev MX10_sets : MM := (yX10_sets, cX10_sets, 1, some .int)
def eX10_sets : List (Nat × Instr × Nat × Nat) := [(0, .aload_n 0, 1, 1), (1, .invokevirtual 228, 3, 4), (4, .aload_n 0, 1, 5), (5, .getfield 220, 3, 8), (8, .ireturn, 1, 9)]
theorem hX10_sets : ∀ q ∈ eX10_sets, decode cX10_sets q.1 = .ok (q.2.1, q.2.2.1) ∧ q.1 + q.2.2.1 = q.2.2.2 := by decide +kernel
theorem dX10_sets (i : Nat) {pc : Nat} {ins : Instr} {len pc' : Nat} (hi : eX10_sets[i]? = some (pc, ins, len, pc')) : q_d cX10_sets pc ins len pc' := q_dt hX10_sets i hi
abbrev MX10_partIn : MM := (yX10_partIn, cX10_partIn, 3, some .int)
def eX10_partIn : List (Nat × Instr × Nat × Nat) := [(0, .aload_n 0, 1, 1), (1, .getfield 26, 3, 4), (4, .bipush 6, 2, 6), (6, .aload_n 0, 1, 7), (7, .getfield 71, 3, 10), (10, .iload_n 1, 1, 11), (11, .iaload, 1, 12), (12, .imul, 1, 13), (13, .iload_n 2, 1, 14), (14, .iadd, 1, 15), (15, .iaload, 1, 16), (16, .ireturn, 1, 17)]
theorem hX10_partIn : ∀ q ∈ eX10_partIn, decode cX10_partIn q.1 = .ok (q.2.1, q.2.2.1) ∧ q.1 + q.2.2.1 = q.2.2.2 := by decide +kernel
theorem dX10_partIn (i : Nat) {pc : Nat} {ins : Instr} {len pc' : Nat} (hi : eX10_partIn[i]? = some (pc, ins, len, pc')) : q_d cX10_partIn pc ins len pc' := q_dt hX10_partIn i hi
abbrev MX10_first : MM := (yX10_first, cX10_first, 2, some .int)
def eX10_first : List (Nat × Instr × Nat × Nat) := [(0, .iload_n 1, 1, 1), (1, .invokestatic 231, 3, 4), (4, .ifCond .ne 6, 3, 7), (7, .bipush (-5), 2, 9), (9, .ireturn, 1, 10), (10, .aload_n 0, 1, 11), (11, .invokevirtual 228, 3, 14), (14, .aload_n 0, 1, 15), (15, .getfield 220, 3, 18), (18, .ifCond .ne 7, 3, 21), (21, .iconst (-1), 1, 22), (22, .goto 9, 3, 25), (25, .aload_n 0, 1, 26), (26, .iconst 0, 1, 27), (27, .iload_n 1, 1, 28), (28, .invokevirtual 234, 3, 31), (31, .ireturn, 1, 32)]
theorem hX10_first : ∀ q ∈ eX10_first, decode cX10_first q.1 = .ok (q.2.1, q.2.2.1) ∧ q.1 + q.2.2.1 = q.2.2.2 := by decide +kernel
theorem dX10_first (i : Nat) {pc : Nat} {ins : Instr} {len pc' : Nat} (hi : eX10_first[i]? = some (pc, ins, len, pc')) : q_d cX10_first pc ins len pc' := q_dt hX10_first i hi
abbrev MX10_meansIn : MM := (yX10_meansIn, cX10_meansIn, 5, some .int)
def eX10_meansIn : List (Nat × Instr × Nat × Nat) := [(0, .iconst 0, 1, 1), (1, .istore_n 3, 1, 2), (2, .iconst 0, 1, 3), (3, .istore 4, 2, 5), (5, .iload 4, 2, 7), (7, .aload_n 0, 1, 8), (8, .getfield 220, 3, 11), (11, .if_icmp .ge 28, 3, 14), (14, .iload_n 3, 1, 15), (15, .aload_n 0, 1, 16), (16, .iload 4, 2, 18), (18, .iload_n 1, 1, 19), (19, .invokevirtual 234, 3, 22), (22, .iload_n 2, 1, 23), (23, .if_icmp .ne 7, 3, 26), (26, .iconst 1, 1, 27), (27, .goto 4, 3, 30), (30, .iconst 0, 1, 31), (31, .iadd, 1, 32), (32, .istore_n 3, 1, 33), (33, .iinc 4 1, 3, 36), (36, .goto (-31), 3, 39), (39, .iload_n 3, 1, 40), (40, .ireturn, 1, 41)]
theorem hX10_meansIn : ∀ q ∈ eX10_meansIn, decode cX10_meansIn q.1 = .ok (q.2.1, q.2.2.1) ∧ q.1 + q.2.2.1 = q.2.2.2 := by decide +kernel
theorem dX10_meansIn (i : Nat) {pc : Nat} {ins : Instr} {len pc' : Nat} (hi : eX10_meansIn[i]? = some (pc, ins, len, pc')) : q_d cX10_meansIn pc ins len pc' := q_dt hX10_meansIn i hi
abbrev MX10_means : MM := (yX10_means, cX10_means, 3, some .int)
def eX10_means : List (Nat × Instr × Nat × Nat) := [(0, .iload_n 1, 1, 1), (1, .invokestatic 231, 3, 4), (4, .ifCond .eq 10, 3, 7), (7, .iload_n 2, 1, 8), (8, .invokestatic 231, 3, 11), (11, .ifCond .ne 6, 3, 14), (14, .bipush (-5), 2, 16), (16, .ireturn, 1, 17), (17, .aload_n 0, 1, 18), (18, .invokevirtual 228, 3, 21), (21, .aload_n 0, 1, 22), (22, .iload_n 1, 1, 23), (23, .iload_n 2, 1, 24), (24, .invokevirtual 237, 3, 27), (27, .ireturn, 1, 28)]
theorem hX10_means : ∀ q ∈ eX10_means, decode cX10_means q.1 = .ok (q.2.1, q.2.2.1) ∧ q.1 + q.2.2.1 = q.2.2.2 := by decide +kernel
theorem dX10_means (i : Nat) {pc : Nat} {ins : Instr} {len pc' : Nat} (hi : eX10_means[i]? = some (pc, ins, len, pc')) : q_d cX10_means pc ins len pc' := q_dt hX10_means i hi
abbrev MX10_unlikeOf : MM := (yX10_unlikeOf, cX10_unlikeOf, 4, some .int)
def eX10_unlikeOf : List (Nat × Instr × Nat × Nat) := [(0, .iconst 0, 1, 1), (1, .istore_n 2, 1, 2), (2, .iconst 0, 1, 3), (3, .istore_n 3, 1, 4), (4, .iload_n 3, 1, 5), (5, .bipush 6, 2, 7), (7, .if_icmp .ge 26, 3, 10), (10, .iload_n 2, 1, 11), (11, .aload_n 0, 1, 12), (12, .iload_n 1, 1, 13), (13, .iload_n 3, 1, 14), (14, .invokevirtual 237, 3, 17), (17, .ifCond .le 7, 3, 20), (20, .iconst 1, 1, 21), (21, .goto 4, 3, 24), (24, .iconst 0, 1, 25), (25, .iadd, 1, 26), (26, .istore_n 2, 1, 27), (27, .iinc 3 1, 3, 30), (30, .goto (-26), 3, 33), (33, .iload_n 2, 1, 34), (34, .ireturn, 1, 35)]
theorem hX10_unlikeOf : ∀ q ∈ eX10_unlikeOf, decode cX10_unlikeOf q.1 = .ok (q.2.1, q.2.2.1) ∧ q.1 + q.2.2.1 = q.2.2.2 := by decide +kernel
theorem dX10_unlikeOf (i : Nat) {pc : Nat} {ins : Instr} {len pc' : Nat} (hi : eX10_unlikeOf[i]? = some (pc, ins, len, pc')) : q_d cX10_unlikeOf pc ins len pc' := q_dt hX10_unlikeOf i hi
abbrev MX10_sure : MM := (yX10_sure, cX10_sure, 2, some .int)
def eX10_sure : List (Nat × Instr × Nat × Nat) := [(0, .iload_n 1, 1, 1), (1, .invokestatic 231, 3, 4), (4, .ifCond .ne 6, 3, 7), (7, .bipush (-5), 2, 9), (9, .ireturn, 1, 10), (10, .aload_n 0, 1, 11), (11, .invokevirtual 228, 3, 14), (14, .aload_n 0, 1, 15), (15, .iload_n 1, 1, 16), (16, .invokevirtual 240, 3, 19), (19, .iconst 1, 1, 20), (20, .if_icmp .ne 12, 3, 23), (23, .aload_n 0, 1, 24), (24, .iconst 0, 1, 25), (25, .iload_n 1, 1, 26), (26, .invokevirtual 234, 3, 29), (29, .goto 4, 3, 32), (32, .iconst (-1), 1, 33), (33, .ireturn, 1, 34)]
theorem hX10_sure : ∀ q ∈ eX10_sure, decode cX10_sure q.1 = .ok (q.2.1, q.2.2.1) ∧ q.1 + q.2.2.1 = q.2.2.2 := by decide +kernel
theorem dX10_sure (i : Nat) {pc : Nat} {ins : Instr} {len pc' : Nat} (hi : eX10_sure[i]? = some (pc, ins, len, pc')) : q_d cX10_sure pc ins len pc' := q_dt hX10_sure i hi
abbrev MX10_doubt : MM := (yX10_doubt, cX10_doubt, 4, some .int)
def eX10_doubt : List (Nat × Instr × Nat × Nat) := [(0, .iload_n 1, 1, 1), (1, .iconst (-1), 1, 2), (2, .if_icmp .eq 13, 3, 5), (5, .iload_n 1, 1, 6), (6, .invokestatic 231, 3, 9), (9, .ifCond .ne 6, 3, 12), (12, .bipush (-5), 2, 14), (14, .ireturn, 1, 15), (15, .aload_n 0, 1, 16), (16, .invokevirtual 228, 3, 19), (19, .iconst 0, 1, 20), (20, .istore_n 2, 1, 21), (21, .iconst 1, 1, 22), (22, .istore_n 3, 1, 23), (23, .iload_n 3, 1, 24), (24, .bipush 6, 2, 26), (26, .if_icmp .ge 28, 3, 29), (29, .aload_n 0, 1, 30), (30, .iload_n 3, 1, 31), (31, .invokevirtual 240, 3, 34), (34, .aload_n 0, 1, 35), (35, .iload_n 2, 1, 36), (36, .invokevirtual 240, 3, 39), (39, .if_icmp .le 7, 3, 42), (42, .iload_n 3, 1, 43), (43, .goto 4, 3, 46), (46, .iload_n 2, 1, 47), (47, .istore_n 2, 1, 48), (48, .iinc 3 1, 3, 51), (51, .goto (-28), 3, 54), (54, .iload_n 1, 1, 55), (55, .iconst (-1), 1, 56), (56, .if_icmp .ne 7, 3, 59), (59, .iload_n 2, 1, 60), (60, .goto 8, 3, 63), (63, .aload_n 0, 1, 64), (64, .iload_n 1, 1, 65), (65, .invokevirtual 240, 3, 68), (68, .ireturn, 1, 69)]
theorem hX10_doubt : ∀ q ∈ eX10_doubt, decode cX10_doubt q.1 = .ok (q.2.1, q.2.2.1) ∧ q.1 + q.2.2.1 = q.2.2.2 := by decide +kernel
theorem dX10_doubt (i : Nat) {pc : Nat} {ins : Instr} {len pc' : Nat} (hi : eX10_doubt[i]? = some (pc, ins, len, pc')) : q_d cX10_doubt pc ins len pc' := q_dt hX10_doubt i hi
abbrev MX10_lowest : MM := (yX10_lowest, cX10_lowest, 11, some .long)
def eX10_lowest : List (Nat × Instr × Nat × Nat) := [(0, .lload_n 0, 1, 1), (1, .lconst 0, 1, 2), (2, .lcmp, 1, 3), (3, .ifCond .ne 7, 3, 6), (6, .iload 4, 2, 8), (8, .i2l, 1, 9), (9, .lreturn, 1, 10), (10, .lload_n 0, 1, 11), (11, .lstore 5, 2, 13), (13, .lload_n 2, 1, 14), (14, .lstore 7, 2, 16), (16, .lload 7, 2, 18), (18, .lconst 0, 1, 19), (19, .lcmp, 1, 20), (20, .ifCond .eq 21, 3, 23), (23, .lload 5, 2, 25), (25, .lload 7, 2, 27), (27, .lrem, 1, 28), (28, .lstore 9, 2, 30), (30, .lload 7, 2, 32), (32, .lstore 5, 2, 34), (34, .lload 9, 2, 36), (36, .lstore 7, 2, 38), (38, .goto (-22), 3, 41), (41, .iload 4, 2, 43), (43, .ifCond .ne 7, 3, 46), (46, .lload_n 0, 1, 47), (47, .goto 4, 3, 50), (50, .lload_n 2, 1, 51), (51, .lload 5, 2, 53), (53, .ldiv, 1, 54), (54, .lreturn, 1, 55)]
theorem hX10_lowest : ∀ q ∈ eX10_lowest, decode cX10_lowest q.1 = .ok (q.2.1, q.2.2.1) ∧ q.1 + q.2.2.1 = q.2.2.2 := by decide +kernel
theorem dX10_lowest (i : Nat) {pc : Nat} {ins : Instr} {len pc' : Nat} (hi : eX10_lowest[i]? = some (pc, ins, len, pc')) : q_d cX10_lowest pc ins len pc' := q_dt hX10_lowest i hi
abbrev MX10_ofAll : MM := (yX10_ofAll, cX10_ofAll, 3, some .long)
def eX10_ofAll : List (Nat × Instr × Nat × Nat) := [(0, .aload_n 0, 1, 1), (1, .getfield 220, 3, 4), (4, .ifCond .ne 9, 3, 7), (7, .ldc2_w 243, 3, 10), (10, .goto 14, 3, 13), (13, .iload_n 1, 1, 14), (14, .i2l, 1, 15), (15, .aload_n 0, 1, 16), (16, .getfield 220, 3, 19), (19, .i2l, 1, 20), (20, .iload_n 2, 1, 21), (21, .invokestatic 245, 3, 24), (24, .lreturn, 1, 25)]
theorem hX10_ofAll : ∀ q ∈ eX10_ofAll, decode cX10_ofAll q.1 = .ok (q.2.1, q.2.2.1) ∧ q.1 + q.2.2.1 = q.2.2.2 := by decide +kernel
theorem dX10_ofAll (i : Nat) {pc : Nat} {ins : Instr} {len pc' : Nat} (hi : eX10_ofAll[i]? = some (pc, ins, len, pc')) : q_d cX10_ofAll pc ins len pc' := q_dt hX10_ofAll i hi
abbrev MX10_odds : MM := (yX10_odds, cX10_odds, 4, some .long)
def eX10_odds : List (Nat × Instr × Nat × Nat) := [(0, .iload_n 1, 1, 1), (1, .invokestatic 231, 3, 4), (4, .ifCond .eq 19, 3, 7), (7, .iload_n 2, 1, 8), (8, .invokestatic 231, 3, 11), (11, .ifCond .eq 12, 3, 14), (14, .iload_n 3, 1, 15), (15, .iconst 0, 1, 16), (16, .iconst 1, 1, 17), (17, .invokestatic 101, 3, 20), (20, .ifCond .ne 7, 3, 23), (23, .ldc2_w 243, 3, 26), (26, .lreturn, 1, 27), (27, .aload_n 0, 1, 28), (28, .invokevirtual 228, 3, 31), (31, .aload_n 0, 1, 32), (32, .aload_n 0, 1, 33), (33, .iload_n 1, 1, 34), (34, .iload_n 2, 1, 35), (35, .invokevirtual 237, 3, 38), (38, .iload_n 3, 1, 39), (39, .invokevirtual 249, 3, 42), (42, .lreturn, 1, 43)]
theorem hX10_odds : ∀ q ∈ eX10_odds, decode cX10_odds q.1 = .ok (q.2.1, q.2.2.1) ∧ q.1 + q.2.2.1 = q.2.2.2 := by decide +kernel
theorem dX10_odds (i : Nat) {pc : Nat} {ins : Instr} {len pc' : Nat} (hi : eX10_odds[i]? = some (pc, ins, len, pc')) : q_d cX10_odds pc ins len pc' := q_dt hX10_odds i hi
abbrev MX10_has : MM := (yX10_has, cX10_has, 6, some .long)
def eX10_has : List (Nat × Instr × Nat × Nat) := [(0, .aload_n 0, 1, 1), (1, .iload_n 1, 1, 2), (2, .invokevirtual 112, 3, 5), (5, .ifCond .eq 22, 3, 8), (8, .iload_n 2, 1, 9), (9, .iconst 0, 1, 10), (10, .bipush 63, 2, 12), (12, .invokestatic 101, 3, 15), (15, .ifCond .eq 12, 3, 18), (18, .iload_n 3, 1, 19), (19, .iconst 0, 1, 20), (20, .iconst 1, 1, 21), (21, .invokestatic 101, 3, 24), (24, .ifCond .ne 7, 3, 27), (27, .ldc2_w 243, 3, 30), (30, .lreturn, 1, 31), (31, .aload_n 0, 1, 32), (32, .invokevirtual 228, 3, 35), (35, .iconst 0, 1, 36), (36, .istore 4, 2, 38), (38, .iconst 0, 1, 39), (39, .istore 5, 2, 41), (41, .iload 5, 2, 43), (43, .aload_n 0, 1, 44), (44, .getfield 220, 3, 47), (47, .if_icmp .ge 38, 3, 50), (50, .iload 4, 2, 52), (52, .iload_n 2, 1, 53), (53, .aload_n 0, 1, 54), (54, .iload_n 1, 1, 55), (55, .aload_n 0, 1, 56), (56, .getfield 71, 3, 59), (59, .iload 5, 2, 61), (61, .iaload, 1, 62), (62, .invokevirtual 215, 3, 65), (65, .iconst (-1), 1, 66), (66, .ixor, 1, 67), (67, .iand, 1, 68), (68, .ifCond .ne 7, 3, 71), (71, .iconst 1, 1, 72), (72, .goto 4, 3, 75), (75, .iconst 0, 1, 76), (76, .iadd, 1, 77), (77, .istore 4, 2, 79), (79, .iinc 5 1, 3, 82), (82, .goto (-41), 3, 85), (85, .aload_n 0, 1, 86), (86, .iload 4, 2, 88), (88, .iload_n 3, 1, 89), (89, .invokevirtual 249, 3, 92), (92, .lreturn, 1, 93)]
theorem hX10_has : ∀ q ∈ eX10_has, decode cX10_has q.1 = .ok (q.2.1, q.2.2.1) ∧ q.1 + q.2.2.1 = q.2.2.2 := by decide +kernel
theorem dX10_has (i : Nat) {pc : Nat} {ins : Instr} {len pc' : Nat} (hi : eX10_has[i]? = some (pc, ins, len, pc')) : q_d cX10_has pc ins len pc' := q_dt hX10_has i hi
abbrev MX10_partsOfLine : MM := (yX10_partsOfLine, cX10_partsOfLine, 6, some .int)
def eX10_partsOfLine : List (Nat × Instr × Nat × Nat) := [(0, .aload_n 0, 1, 1), (1, .iload_n 1, 1, 2), (2, .invokevirtual 112, 3, 5), (5, .ifCond .ne 6, 3, 8), (8, .bipush (-5), 2, 10), (10, .ireturn, 1, 11), (11, .iload_n 2, 1, 12), (12, .iconst 0, 1, 13), (13, .iconst 1, 1, 14), (14, .invokestatic 101, 3, 17), (17, .ifCond .ne 6, 3, 20), (20, .bipush (-7), 2, 22), (22, .ireturn, 1, 23), (23, .aload_n 0, 1, 24), (24, .invokevirtual 228, 3, 27), (27, .bipush 63, 2, 29), (29, .istore_n 3, 1, 30), (30, .iconst 0, 1, 31), (31, .istore 4, 2, 33), (33, .iconst 0, 1, 34), (34, .istore 5, 2, 36), (36, .iload 5, 2, 38), (38, .aload_n 0, 1, 39), (39, .getfield 220, 3, 42), (42, .if_icmp .ge 41, 3, 45), (45, .iload_n 3, 1, 46), (46, .aload_n 0, 1, 47), (47, .iload_n 1, 1, 48), (48, .aload_n 0, 1, 49), (49, .getfield 71, 3, 52), (52, .iload 5, 2, 54), (54, .iaload, 1, 55), (55, .invokevirtual 215, 3, 58), (58, .iand, 1, 59), (59, .istore_n 3, 1, 60), (60, .iload 4, 2, 62), (62, .aload_n 0, 1, 63), (63, .iload_n 1, 1, 64), (64, .aload_n 0, 1, 65), (65, .getfield 71, 3, 68), (68, .iload 5, 2, 70), (70, .iaload, 1, 71), (71, .invokevirtual 215, 3, 74), (74, .ior, 1, 75), (75, .istore 4, 2, 77), (77, .iinc 5 1, 3, 80), (80, .goto (-44), 3, 83), (83, .aload_n 0, 1, 84), (84, .getfield 220, 3, 87), (87, .ifCond .ne 7, 3, 90), (90, .iconst (-1), 1, 91), (91, .goto 13, 3, 94), (94, .iload_n 2, 1, 95), (95, .ifCond .ne 7, 3, 98), (98, .iload_n 3, 1, 99), (99, .goto 5, 3, 102), (102, .iload 4, 2, 104), (104, .ireturn, 1, 105)]
theorem hX10_partsOfLine : ∀ q ∈ eX10_partsOfLine, decode cX10_partsOfLine q.1 = .ok (q.2.1, q.2.2.1) ∧ q.1 + q.2.2.1 = q.2.2.2 := by decide +kernel
theorem dX10_partsOfLine (i : Nat) {pc : Nat} {ins : Instr} {len pc' : Nat} (hi : eX10_partsOfLine[i]? = some (pc, ins, len, pc')) : q_d cX10_partsOfLine pc ins len pc' := q_dt hX10_partsOfLine i hi
abbrev MX10_shunnedIn : MM := (yX10_shunnedIn, cX10_shunnedIn, 5, some .int)
def eX10_shunnedIn : List (Nat × Instr × Nat × Nat) := [(0, .iconst 0, 1, 1), (1, .istore_n 3, 1, 2), (2, .iconst 0, 1, 3), (3, .istore 4, 2, 5), (5, .iload 4, 2, 7), (7, .aload_n 0, 1, 8), (8, .getfield 220, 3, 11), (11, .if_icmp .ge 39, 3, 14), (14, .iload_n 3, 1, 15), (15, .aload_n 0, 1, 16), (16, .iload_n 2, 1, 17), (17, .aload_n 0, 1, 18), (18, .getfield 71, 3, 21), (21, .iload 4, 2, 23), (23, .iaload, 1, 24), (24, .invokevirtual 215, 3, 27), (27, .aload_n 0, 1, 28), (28, .getfield 16, 3, 31), (31, .iload_n 1, 1, 32), (32, .iaload, 1, 33), (33, .iand, 1, 34), (34, .ifCond .eq 7, 3, 37), (37, .iconst 1, 1, 38), (38, .goto 4, 3, 41), (41, .iconst 0, 1, 42), (42, .iadd, 1, 43), (43, .istore_n 3, 1, 44), (44, .iinc 4 1, 3, 47), (47, .goto (-42), 3, 50), (50, .iload_n 3, 1, 51), (51, .ireturn, 1, 52)]
theorem hX10_shunnedIn : ∀ q ∈ eX10_shunnedIn, decode cX10_shunnedIn q.1 = .ok (q.2.1, q.2.2.1) ∧ q.1 + q.2.2.1 = q.2.2.2 := by decide +kernel
theorem dX10_shunnedIn (i : Nat) {pc : Nat} {ins : Instr} {len pc' : Nat} (hi : eX10_shunnedIn[i]? = some (pc, ins, len, pc')) : q_d cX10_shunnedIn pc ins len pc' := q_dt hX10_shunnedIn i hi
abbrev MX10_safeFor : MM := (yX10_safeFor, cX10_safeFor, 4, some .int)
def eX10_safeFor : List (Nat × Instr × Nat × Nat) := [(0, .iconst 0, 1, 1), (1, .istore_n 2, 1, 2), (2, .iconst 0, 1, 3), (3, .istore_n 3, 1, 4), (4, .iload_n 3, 1, 5), (5, .aload_n 0, 1, 6), (6, .getfield 98, 3, 9), (9, .if_icmp .ge 35, 3, 12), (12, .iload_n 2, 1, 13), (13, .aload_n 0, 1, 14), (14, .getfield 220, 3, 17), (17, .ifCond .le 18, 3, 20), (20, .aload_n 0, 1, 21), (21, .iload_n 1, 1, 22), (22, .iload_n 3, 1, 23), (23, .invokevirtual 253, 3, 26), (26, .ifCond .ne 9, 3, 29), (29, .iconst 1, 1, 30), (30, .iload_n 3, 1, 31), (31, .ishl, 1, 32), (32, .goto 4, 3, 35), (35, .iconst 0, 1, 36), (36, .ior, 1, 37), (37, .istore_n 2, 1, 38), (38, .iinc 3 1, 3, 41), (41, .goto (-37), 3, 44), (44, .iload_n 2, 1, 45), (45, .ireturn, 1, 46)]
theorem hX10_safeFor : ∀ q ∈ eX10_safeFor, decode cX10_safeFor q.1 = .ok (q.2.1, q.2.2.1) ∧ q.1 + q.2.2.1 = q.2.2.2 := by decide +kernel
theorem dX10_safeFor (i : Nat) {pc : Nat} {ins : Instr} {len pc' : Nat} (hi : eX10_safeFor[i]? = some (pc, ins, len, pc')) : q_d cX10_safeFor pc ins len pc' := q_dt hX10_safeFor i hi
abbrev MX10_safe : MM := (yX10_safe, cX10_safe, 2, some .int)
def eX10_safe : List (Nat × Instr × Nat × Nat) := [(0, .aload_n 0, 1, 1), (1, .iload_n 1, 1, 2), (2, .invokevirtual 116, 3, 5), (5, .ifCond .ne 6, 3, 8), (8, .bipush (-5), 2, 10), (10, .ireturn, 1, 11), (11, .aload_n 0, 1, 12), (12, .invokevirtual 228, 3, 15), (15, .aload_n 0, 1, 16), (16, .iload_n 1, 1, 17), (17, .invokevirtual 256, 3, 20), (20, .ireturn, 1, 21)]
theorem hX10_safe : ∀ q ∈ eX10_safe, decode cX10_safe q.1 = .ok (q.2.1, q.2.2.1) ∧ q.1 + q.2.2.1 = q.2.2.2 := by decide +kernel
theorem dX10_safe (i : Nat) {pc : Nat} {ins : Instr} {len pc' : Nat} (hi : eX10_safe[i]? = some (pc, ins, len, pc')) : q_d cX10_safe pc ins len pc' := q_dt hX10_safe i hi
abbrev MX10_risk : MM := (yX10_risk, cX10_risk, 4, some .long)
def eX10_risk : List (Nat × Instr × Nat × Nat) := [(0, .aload_n 0, 1, 1), (1, .iload_n 1, 1, 2), (2, .invokevirtual 116, 3, 5), (5, .ifCond .eq 20, 3, 8), (8, .aload_n 0, 1, 9), (9, .iload_n 2, 1, 10), (10, .invokevirtual 112, 3, 13), (13, .ifCond .eq 12, 3, 16), (16, .iload_n 3, 1, 17), (17, .iconst 0, 1, 18), (18, .iconst 1, 1, 19), (19, .invokestatic 101, 3, 22), (22, .ifCond .ne 7, 3, 25), (25, .ldc2_w 243, 3, 28), (28, .lreturn, 1, 29), (29, .aload_n 0, 1, 30), (30, .invokevirtual 228, 3, 33), (33, .aload_n 0, 1, 34), (34, .aload_n 0, 1, 35), (35, .iload_n 1, 1, 36), (36, .iload_n 2, 1, 37), (37, .invokevirtual 253, 3, 40), (40, .iload_n 3, 1, 41), (41, .invokevirtual 249, 3, 44), (44, .lreturn, 1, 45)]
theorem hX10_risk : ∀ q ∈ eX10_risk, decode cX10_risk q.1 = .ok (q.2.1, q.2.2.1) ∧ q.1 + q.2.2.1 = q.2.2.2 := by decide +kernel
theorem dX10_risk (i : Nat) {pc : Nat} {ins : Instr} {len pc' : Nat} (hi : eX10_risk[i]? = some (pc, ins, len, pc')) : q_d cX10_risk pc ins len pc' := q_dt hX10_risk i hi
abbrev MX10_liking : MM := (yX10_liking, cX10_liking, 5, some .int)
def eX10_liking : List (Nat × Instr × Nat × Nat) := [(0, .iconst 0, 1, 1), (1, .istore_n 3, 1, 2), (2, .iconst 0, 1, 3), (3, .istore 4, 2, 5), (5, .iload 4, 2, 7), (7, .aload_n 0, 1, 8), (8, .getfield 220, 3, 11), (11, .if_icmp .ge 35, 3, 14), (14, .iload_n 3, 1, 15), (15, .aload_n 0, 1, 16), (16, .iconst 1, 1, 17), (17, .iload_n 1, 1, 18), (18, .aload_n 0, 1, 19), (19, .iload_n 1, 1, 20), (20, .aload_n 0, 1, 21), (21, .getfield 71, 3, 24), (24, .iload 4, 2, 26), (26, .iaload, 1, 27), (27, .invokevirtual 215, 3, 30), (30, .iload_n 2, 1, 31), (31, .aload_n 0, 1, 32), (32, .getfield 220, 3, 35), (35, .invokevirtual 196, 3, 38), (38, .iadd, 1, 39), (39, .istore_n 3, 1, 40), (40, .iinc 4 1, 3, 43), (43, .goto (-38), 3, 46), (46, .iload_n 3, 1, 47), (47, .ireturn, 1, 48)]
theorem hX10_liking : ∀ q ∈ eX10_liking, decode cX10_liking q.1 = .ok (q.2.1, q.2.2.1) ∧ q.1 + q.2.2.1 = q.2.2.2 := by decide +kernel
theorem dX10_liking (i : Nat) {pc : Nat} {ins : Instr} {len pc' : Nat} (hi : eX10_liking[i]? = some (pc, ins, len, pc')) : q_d cX10_liking pc ins len pc' := q_dt hX10_liking i hi
abbrev MX10_likes : MM := (yX10_likes, cX10_likes, 4, none)
def eX10_likes : List (Nat × Instr × Nat × Nat) := [(0, .aload_n 0, 1, 1), (1, .invokevirtual 228, 3, 4), (4, .iconst 0, 1, 5), (5, .istore_n 1, 1, 6), (6, .iload_n 1, 1, 7), (7, .aload_n 0, 1, 8), (8, .getfield 105, 3, 11), (11, .if_icmp .ge 61, 3, 14), (14, .aload_n 0, 1, 15), (15, .iload_n 1, 1, 16), (16, .invokevirtual 256, 3, 19), (19, .istore_n 2, 1, 20), (20, .iconst 0, 1, 21), (21, .istore_n 3, 1, 22), (22, .iload_n 3, 1, 23), (23, .aload_n 0, 1, 24), (24, .getfield 98, 3, 27), (27, .if_icmp .ge 39, 3, 30), (30, .aload_n 0, 1, 31), (31, .getfield 74, 3, 34), (34, .bipush 10, 2, 36), (36, .iload_n 1, 1, 37), (37, .imul, 1, 38), (38, .iload_n 3, 1, 39), (39, .iadd, 1, 40), (40, .iload_n 2, 1, 41), (41, .iload_n 3, 1, 42), (42, .ishr, 1, 43), (43, .iconst 1, 1, 44), (44, .iand, 1, 45), (45, .iconst 1, 1, 46), (46, .if_icmp .ne 12, 3, 49), (49, .aload_n 0, 1, 50), (50, .iload_n 3, 1, 51), (51, .iload_n 1, 1, 52), (52, .invokevirtual 259, 3, 55), (55, .goto 4, 3, 58), (58, .iconst (-1), 1, 59), (59, .iastore, 1, 60), (60, .iinc 3 1, 3, 63), (63, .goto (-41), 3, 66), (66, .iinc 1 1, 3, 69), (69, .goto (-63), 3, 72), (72, .return_, 1, 73)]
theorem hX10_likes : ∀ q ∈ eX10_likes, decode cX10_likes q.1 = .ok (q.2.1, q.2.2.1) ∧ q.1 + q.2.2.1 = q.2.2.2 := by decide +kernel
theorem dX10_likes (i : Nat) {pc : Nat} {ins : Instr} {len pc' : Nat} (hi : eX10_likes[i]? = some (pc, ins, len, pc')) : q_d cX10_likes pc ins len pc' := q_dt hX10_likes i hi
abbrev MX10_orders : MM := (yX10_orders, cX10_orders, 5, none)
def eX10_orders_0 : List (Nat × Instr × Nat × Nat) := [(0, .iload_n 1, 1, 1), (1, .aload_n 0, 1, 2), (2, .getfield 105, 3, 5), (5, .if_icmp .ne 59, 3, 8), (8, .aload_n 0, 1, 9), (9, .getfield 262, 3, 12), (12, .iconst (-1), 1, 13), (13, .if_icmp .eq 11, 3, 16), (16, .iload_n 2, 1, 17), (17, .aload_n 0, 1, 18), (18, .getfield 262, 3, 21), (21, .if_icmp .le 42, 3, 24), (24, .aload_n 0, 1, 25), (25, .iload_n 2, 1, 26), (26, .putfield 262, 3, 29), (29, .aload_n 0, 1, 30), (30, .iload_n 3, 1, 31), (31, .putfield 265, 3, 34), (34, .iconst 0, 1, 35), (35, .istore 4, 2, 37), (37, .iload 4, 2, 39), (39, .iconst 4, 1, 40), (40, .if_icmp .ge 23, 3, 43), (43, .aload_n 0, 1, 44), (44, .getfield 80, 3, 47), (47, .iload 4, 2, 49), (49, .aload_n 0, 1, 50), (50, .getfield 77, 3, 53), (53, .iload 4, 2, 55), (55, .iaload, 1, 56), (56, .iastore, 1, 57), (57, .iinc 4 1, 3, 60), (60, .goto (-23), 3, 63), (63, .return_, 1, 64), (64, .aload_n 0, 1, 65), (65, .getfield 77, 3, 68), (68, .iload_n 1, 1, 69), (69, .iconst (-1), 1, 70), (70, .iastore, 1, 71), (71, .aload_n 0, 1, 72), (72, .iload_n 1, 1, 73), (73, .iconst 1, 1, 74), (74, .iadd, 1, 75), (75, .iload_n 2, 1, 76), (76, .iload_n 3, 1, 77), (77, .invokevirtual 268, 3, 80), (80, .iconst 0, 1, 81), (81, .istore 4, 2, 83), (83, .iload 4, 2, 85), (85, .aload_n 0, 1, 86), (86, .getfield 98, 3, 89), (89, .if_icmp .ge 78, 3, 92), (92, .aload_n 0, 1, 93), (93, .getfield 74, 3, 96), (96, .bipush 10, 2, 98), (98, .iload_n 1, 1, 99), (99, .imul, 1, 100), (100, .iload 4, 2, 102), (102, .iadd, 1, 103), (103, .iaload, 1, 104)]
theorem hX10_orders_0 : ∀ q ∈ eX10_orders_0, decode cX10_orders q.1 = .ok (q.2.1, q.2.2.1) ∧ q.1 + q.2.2.1 = q.2.2.2 := by decide +kernel
theorem dX10_orders_0 (i : Nat) {pc : Nat} {ins : Instr} {len pc' : Nat} (hi : eX10_orders_0[i]? = some (pc, ins, len, pc')) : q_d cX10_orders pc ins len pc' := q_dt hX10_orders_0 i hi
def eX10_orders_1 : List (Nat × Instr × Nat × Nat) := [(104, .ifCond .lt 57, 3, 107), (107, .iload_n 3, 1, 108), (108, .aload_n 0, 1, 109), (109, .getfield 13, 3, 112), (112, .iload 4, 2, 114), (114, .iaload, 1, 115), (115, .iadd, 1, 116), (116, .aload_n 0, 1, 117), (117, .getfield 19, 3, 120), (120, .if_icmp .gt 41, 3, 123), (123, .aload_n 0, 1, 124), (124, .getfield 77, 3, 127), (127, .iload_n 1, 1, 128), (128, .iload 4, 2, 130), (130, .iastore, 1, 131), (131, .aload_n 0, 1, 132), (132, .iload_n 1, 1, 133), (133, .iconst 1, 1, 134), (134, .iadd, 1, 135), (135, .iload_n 2, 1, 136), (136, .aload_n 0, 1, 137), (137, .getfield 74, 3, 140), (140, .bipush 10, 2, 142), (142, .iload_n 1, 1, 143), (143, .imul, 1, 144), (144, .iload 4, 2, 146), (146, .iadd, 1, 147), (147, .iaload, 1, 148), (148, .iadd, 1, 149), (149, .iload_n 3, 1, 150), (150, .aload_n 0, 1, 151), (151, .getfield 13, 3, 154), (154, .iload 4, 2, 156), (156, .iaload, 1, 157), (157, .iadd, 1, 158), (158, .invokevirtual 268, 3, 161), (161, .iinc 4 1, 3, 164), (164, .goto (-81), 3, 167), (167, .return_, 1, 168)]
theorem hX10_orders_1 : ∀ q ∈ eX10_orders_1, decode cX10_orders q.1 = .ok (q.2.1, q.2.2.1) ∧ q.1 + q.2.2.1 = q.2.2.2 := by decide +kernel
theorem dX10_orders_1 (i : Nat) {pc : Nat} {ins : Instr} {len pc' : Nat} (hi : eX10_orders_1[i]? = some (pc, ins, len, pc')) : q_d cX10_orders pc ins len pc' := q_dt hX10_orders_1 i hi
abbrev MX10_tonight : MM := (yX10_tonight, cX10_tonight, 1, none)
def eX10_tonight : List (Nat × Instr × Nat × Nat) := [(0, .aload_n 0, 1, 1), (1, .invokevirtual 272, 3, 4), (4, .aload_n 0, 1, 5), (5, .iconst (-1), 1, 6), (6, .putfield 262, 3, 9), (9, .aload_n 0, 1, 10), (10, .iconst 0, 1, 11), (11, .iconst 0, 1, 12), (12, .iconst 0, 1, 13), (13, .invokevirtual 268, 3, 16), (16, .return_, 1, 17)]
theorem hX10_tonight : ∀ q ∈ eX10_tonight, decode cX10_tonight q.1 = .ok (q.2.1, q.2.2.1) ∧ q.1 + q.2.2.1 = q.2.2.2 := by decide +kernel
theorem dX10_tonight (i : Nat) {pc : Nat} {ins : Instr} {len pc' : Nat} (hi : eX10_tonight[i]? = some (pc, ins, len, pc')) : q_d cX10_tonight pc ins len pc' := q_dt hX10_tonight i hi
abbrev MX10_order : MM := (yX10_order, cX10_order, 2, some .int)
def eX10_order : List (Nat × Instr × Nat × Nat) := [(0, .aload_n 0, 1, 1), (1, .iload_n 1, 1, 2), (2, .invokevirtual 116, 3, 5), (5, .ifCond .ne 6, 3, 8), (8, .bipush (-5), 2, 10), (10, .ireturn, 1, 11), (11, .aload_n 0, 1, 12), (12, .invokevirtual 275, 3, 15), (15, .aload_n 0, 1, 16), (16, .getfield 80, 3, 19), (19, .iload_n 1, 1, 20), (20, .iaload, 1, 21), (21, .ireturn, 1, 22)]
theorem hX10_order : ∀ q ∈ eX10_order, decode cX10_order q.1 = .ok (q.2.1, q.2.2.1) ∧ q.1 + q.2.2.1 = q.2.2.2 := by decide +kernel
theorem dX10_order (i : Nat) {pc : Nat} {ins : Instr} {len pc' : Nat} (hi : eX10_order[i]? = some (pc, ins, len, pc')) : q_d cX10_order pc ins len pc' := q_dt hX10_order i hi
abbrev MX10_ordered : MM := (yX10_ordered, cX10_ordered, 2, some .int)
def eX10_ordered : List (Nat × Instr × Nat × Nat) := [(0, .iload_n 1, 1, 1), (1, .iconst 0, 1, 2), (2, .iconst 1, 1, 3), (3, .invokestatic 101, 3, 6), (6, .ifCond .ne 6, 3, 9), (9, .bipush (-2), 2, 11), (11, .ireturn, 1, 12), (12, .aload_n 0, 1, 13), (13, .invokevirtual 275, 3, 16), (16, .iload_n 1, 1, 17), (17, .ifCond .ne 10, 3, 20), (20, .aload_n 0, 1, 21), (21, .getfield 262, 3, 24), (24, .goto 7, 3, 27), (27, .aload_n 0, 1, 28), (28, .getfield 265, 3, 31), (31, .ireturn, 1, 32)]
theorem hX10_ordered : ∀ q ∈ eX10_ordered, decode cX10_ordered q.1 = .ok (q.2.1, q.2.2.1) ∧ q.1 + q.2.2.1 = q.2.2.2 := by decide +kernel
theorem dX10_ordered (i : Nat) {pc : Nat} {ins : Instr} {len pc' : Nat} (hi : eX10_ordered[i]? = some (pc, ins, len, pc')) : q_d cX10_ordered pc ins len pc' := q_dt hX10_ordered i hi
abbrev MX10_middle : MM := (yX10_middle, cX10_middle, 7, some .int)
def eX10_middle_0 : List (Nat × Instr × Nat × Nat) := [(0, .iload_n 1, 1, 1), (1, .iconst 0, 1, 2), (2, .iconst 1, 1, 3), (3, .aload_n 0, 1, 4), (4, .getfield 98, 3, 7), (7, .ishl, 1, 8), (8, .iconst 1, 1, 9), (9, .isub, 1, 10), (10, .invokestatic 101, 3, 13), (13, .ifCond .ne 6, 3, 16), (16, .bipush (-2), 2, 18), (18, .ireturn, 1, 19), (19, .aload_n 0, 1, 20), (20, .invokevirtual 272, 3, 23), (23, .iconst 0, 1, 24), (24, .istore_n 2, 1, 25), (25, .iconst 0, 1, 26), (26, .istore_n 3, 1, 27), (27, .iload_n 3, 1, 28), (28, .aload_n 0, 1, 29), (29, .getfield 105, 3, 32), (32, .if_icmp .ge 79, 3, 35), (35, .iconst 0, 1, 36), (36, .istore 4, 2, 38), (38, .iconst 0, 1, 39), (39, .istore 5, 2, 41), (41, .iload 5, 2, 43), (43, .aload_n 0, 1, 44), (44, .getfield 98, 3, 47), (47, .if_icmp .ge 53, 3, 50), (50, .iload_n 1, 1, 51), (51, .iload 5, 2, 53), (53, .ishr, 1, 54), (54, .iconst 1, 1, 55), (55, .iand, 1, 56), (56, .iconst 1, 1, 57), (57, .if_icmp .ne 18, 3, 60), (60, .aload_n 0, 1, 61), (61, .getfield 74, 3, 64), (64, .bipush 10, 2, 66), (66, .iload_n 3, 1, 67), (67, .imul, 1, 68), (68, .iload 5, 2, 70), (70, .iadd, 1, 71), (71, .iaload, 1, 72), (72, .goto 4, 3, 75), (75, .iconst 0, 1, 76), (76, .istore 6, 2, 78), (78, .iload 6, 2, 80), (80, .iload 4, 2, 82), (82, .if_icmp .le 8, 3, 85), (85, .iload 6, 2, 87), (87, .goto 5, 3, 90), (90, .iload 4, 2, 92), (92, .istore 4, 2, 94), (94, .iinc 5 1, 3, 97), (97, .goto (-56), 3, 100), (100, .iload_n 2, 1, 101), (101, .iload 4, 2, 103), (103, .iadd, 1, 104)]
theorem hX10_middle_0 : ∀ q ∈ eX10_middle_0, decode cX10_middle q.1 = .ok (q.2.1, q.2.2.1) ∧ q.1 + q.2.2.1 = q.2.2.2 := by decide +kernel
theorem dX10_middle_0 (i : Nat) {pc : Nat} {ins : Instr} {len pc' : Nat} (hi : eX10_middle_0[i]? = some (pc, ins, len, pc')) : q_d cX10_middle pc ins len pc' := q_dt hX10_middle_0 i hi
def eX10_middle_1 : List (Nat × Instr × Nat × Nat) := [(104, .istore_n 2, 1, 105), (105, .iinc 3 1, 3, 108), (108, .goto (-81), 3, 111), (111, .iload_n 2, 1, 112), (112, .ireturn, 1, 113)]
theorem hX10_middle_1 : ∀ q ∈ eX10_middle_1, decode cX10_middle q.1 = .ok (q.2.1, q.2.2.1) ∧ q.1 + q.2.2.1 = q.2.2.2 := by decide +kernel
theorem dX10_middle_1 (i : Nat) {pc : Nat} {ins : Instr} {len pc' : Nat} (hi : eX10_middle_1[i]? = some (pc, ins, len, pc')) : q_d cX10_middle pc ins len pc' := q_dt hX10_middle_1 i hi
abbrev MX10_counts : MM := (yX10_counts, cX10_counts, 4, none)
def eX10_counts : List (Nat × Instr × Nat × Nat) := [(0, .iconst 0, 1, 1), (1, .istore_n 3, 1, 2), (2, .iload_n 3, 1, 3), (3, .sipush 4096, 3, 6), (6, .if_icmp .ge 16, 3, 9), (9, .aload_n 0, 1, 10), (10, .getfield 83, 3, 13), (13, .iload_n 3, 1, 14), (14, .iconst 0, 1, 15), (15, .iastore, 1, 16), (16, .iinc 3 1, 3, 19), (19, .goto (-17), 3, 22), (22, .iconst 0, 1, 23), (23, .istore_n 3, 1, 24), (24, .iload_n 3, 1, 25), (25, .aload_n 0, 1, 26), (26, .getfield 220, 3, 29), (29, .if_icmp .ge 44, 3, 32), (32, .aload_n 0, 1, 33), (33, .getfield 83, 3, 36), (36, .bipush 64, 2, 38), (38, .aload_n 0, 1, 39), (39, .iload_n 1, 1, 40), (40, .aload_n 0, 1, 41), (41, .getfield 71, 3, 44), (44, .iload_n 3, 1, 45), (45, .iaload, 1, 46), (46, .invokevirtual 215, 3, 49), (49, .imul, 1, 50), (50, .aload_n 0, 1, 51), (51, .iload_n 2, 1, 52), (52, .aload_n 0, 1, 53), (53, .getfield 71, 3, 56), (56, .iload_n 3, 1, 57), (57, .iaload, 1, 58), (58, .invokevirtual 215, 3, 61), (61, .iadd, 1, 62), (62, .dup2, 1, 63), (63, .iaload, 1, 64), (64, .iconst 1, 1, 65), (65, .iadd, 1, 66), (66, .iastore, 1, 67), (67, .iinc 3 1, 3, 70), (70, .goto (-46), 3, 73), (73, .return_, 1, 74)]
theorem hX10_counts : ∀ q ∈ eX10_counts, decode cX10_counts q.1 = .ok (q.2.1, q.2.2.1) ∧ q.1 + q.2.2.1 = q.2.2.2 := by decide +kernel
theorem dX10_counts (i : Nat) {pc : Nat} {ins : Instr} {len pc' : Nat} (hi : eX10_counts[i]? = some (pc, ins, len, pc')) : q_d cX10_counts pc ins len pc' := q_dt hX10_counts i hi
abbrev MX10_teaching : MM := (yX10_teaching, cX10_teaching, 5, some .int)
def eX10_teaching : List (Nat × Instr × Nat × Nat) := [(0, .aload_n 0, 1, 1), (1, .iload_n 1, 1, 2), (2, .iload_n 1, 1, 3), (3, .invokevirtual 278, 3, 6), (6, .iconst 0, 1, 7), (7, .istore_n 2, 1, 8), (8, .iconst 0, 1, 9), (9, .istore_n 3, 1, 10), (10, .iload_n 3, 1, 11), (11, .bipush 64, 2, 13), (13, .if_icmp .ge 45, 3, 16), (16, .aload_n 0, 1, 17), (17, .getfield 83, 3, 20), (20, .bipush 65, 2, 22), (22, .iload_n 3, 1, 23), (23, .imul, 1, 24), (24, .iaload, 1, 25), (25, .istore 4, 2, 27), (27, .iload_n 2, 1, 28), (28, .iload 4, 2, 30), (30, .ifCond .le 19, 3, 33), (33, .iload 4, 2, 35), (35, .aload_n 0, 1, 36), (36, .iconst 2, 1, 37), (37, .iload_n 1, 1, 38), (38, .iload_n 3, 1, 39), (39, .iconst 0, 1, 40), (40, .iload 4, 2, 42), (42, .invokevirtual 196, 3, 45), (45, .imul, 1, 46), (46, .goto 4, 3, 49), (49, .iconst 0, 1, 50), (50, .iadd, 1, 51), (51, .istore_n 2, 1, 52), (52, .iinc 3 1, 3, 55), (55, .goto (-45), 3, 58), (58, .iload_n 2, 1, 59), (59, .ireturn, 1, 60)]
theorem hX10_teaching : ∀ q ∈ eX10_teaching, decode cX10_teaching q.1 = .ok (q.2.1, q.2.2.1) ∧ q.1 + q.2.2.1 = q.2.2.2 := by decide +kernel
theorem dX10_teaching (i : Nat) {pc : Nat} {ins : Instr} {len pc' : Nat} (hi : eX10_teaching[i]? = some (pc, ins, len, pc')) : q_d cX10_teaching pc ins len pc' := q_dt hX10_teaching i hi
abbrev MX10_taste : MM := (yX10_taste, cX10_taste, 6, some .int)
def eX10_taste : List (Nat × Instr × Nat × Nat) := [(0, .iload_n 1, 1, 1), (1, .iconst 0, 1, 2), (2, .iconst 1, 1, 3), (3, .invokestatic 101, 3, 6), (6, .ifCond .ne 6, 3, 9), (9, .bipush (-2), 2, 11), (11, .ireturn, 1, 12), (12, .aload_n 0, 1, 13), (13, .invokevirtual 228, 3, 16), (16, .iconst (-1), 1, 17), (17, .istore_n 2, 1, 18), (18, .iconst 0, 1, 19), (19, .istore_n 3, 1, 20), (20, .iconst 0, 1, 21), (21, .istore 4, 2, 23), (23, .iload 4, 2, 25), (25, .aload_n 0, 1, 26), (26, .getfield 98, 3, 29), (29, .if_icmp .ge 48, 3, 32), (32, .aload_n 0, 1, 33), (33, .iload 4, 2, 35), (35, .invokevirtual 282, 3, 38), (38, .istore 5, 2, 40), (40, .iload_n 2, 1, 41), (41, .iconst (-1), 1, 42), (42, .if_icmp .eq 9, 3, 45), (45, .iload 5, 2, 47), (47, .iload_n 3, 1, 48), (48, .if_icmp .le 8, 3, 51), (51, .iload 4, 2, 53), (53, .goto 4, 3, 56), (56, .iload_n 2, 1, 57), (57, .istore_n 2, 1, 58), (58, .iload 5, 2, 60), (60, .iload_n 3, 1, 61), (61, .if_icmp .le 8, 3, 64), (64, .iload 5, 2, 66), (66, .goto 4, 3, 69), (69, .iload_n 3, 1, 70), (70, .istore_n 3, 1, 71), (71, .iinc 4 1, 3, 74), (74, .goto (-51), 3, 77), (77, .iload_n 1, 1, 78), (78, .ifCond .ne 7, 3, 81), (81, .iload_n 2, 1, 82), (82, .goto 4, 3, 85), (85, .iload_n 3, 1, 86), (86, .ireturn, 1, 87)]
theorem hX10_taste : ∀ q ∈ eX10_taste, decode cX10_taste q.1 = .ok (q.2.1, q.2.2.1) ∧ q.1 + q.2.2.1 = q.2.2.2 := by decide +kernel
theorem dX10_taste (i : Nat) {pc : Nat} {ins : Instr} {len pc' : Nat} (hi : eX10_taste[i]? = some (pc, ins, len, pc')) : q_d cX10_taste pc ins len pc' := q_dt hX10_taste i hi
abbrev MX10_two : MM := (yX10_two, cX10_two, 8, some .int)
def eX10_two_0 : List (Nat × Instr × Nat × Nat) := [(0, .iload_n 1, 1, 1), (1, .iconst 0, 1, 2), (2, .iconst 1, 1, 3), (3, .invokestatic 101, 3, 6), (6, .ifCond .ne 6, 3, 9), (9, .bipush (-2), 2, 11), (11, .ireturn, 1, 12), (12, .aload_n 0, 1, 13), (13, .invokevirtual 228, 3, 16), (16, .iconst (-1), 1, 17), (17, .istore_n 2, 1, 18), (18, .iconst 0, 1, 19), (19, .istore_n 3, 1, 20), (20, .iconst 0, 1, 21), (21, .istore 4, 2, 23), (23, .iload 4, 2, 25), (25, .aload_n 0, 1, 26), (26, .getfield 98, 3, 29), (29, .if_icmp .ge 126, 3, 32), (32, .iload 4, 2, 34), (34, .iconst 1, 1, 35), (35, .iadd, 1, 36), (36, .istore 5, 2, 38), (38, .iload 5, 2, 40), (40, .aload_n 0, 1, 41), (41, .getfield 98, 3, 44), (44, .if_icmp .ge 105, 3, 47), (47, .aload_n 0, 1, 48), (48, .iload 4, 2, 50), (50, .iload 5, 2, 52), (52, .invokevirtual 278, 3, 55), (55, .iconst 0, 1, 56), (56, .istore 6, 2, 58), (58, .iconst 0, 1, 59), (59, .istore 7, 2, 61), (61, .iload 7, 2, 63), (63, .sipush 4096, 3, 66), (66, .if_icmp .ge 29, 3, 69), (69, .iload 6, 2, 71), (71, .aload_n 0, 1, 72), (72, .getfield 83, 3, 75), (75, .iload 7, 2, 77), (77, .iaload, 1, 78), (78, .aload_n 0, 1, 79), (79, .getfield 83, 3, 82), (82, .iload 7, 2, 84), (84, .iaload, 1, 85), (85, .imul, 1, 86), (86, .iadd, 1, 87), (87, .istore 6, 2, 89), (89, .iinc 7 1, 3, 92), (92, .goto (-31), 3, 95), (95, .iload_n 2, 1, 96), (96, .iconst (-1), 1, 97), (97, .if_icmp .eq 9, 3, 100), (100, .iload 6, 2, 102), (102, .iload_n 3, 1, 103), (103, .if_icmp .ge 7, 3, 106), (106, .iconst 1, 1, 107), (107, .goto 4, 3, 110)]
theorem hX10_two_0 : ∀ q ∈ eX10_two_0, decode cX10_two q.1 = .ok (q.2.1, q.2.2.1) ∧ q.1 + q.2.2.1 = q.2.2.2 := by decide +kernel
theorem dX10_two_0 (i : Nat) {pc : Nat} {ins : Instr} {len pc' : Nat} (hi : eX10_two_0[i]? = some (pc, ins, len, pc')) : q_d cX10_two pc ins len pc' := q_dt hX10_two_0 i hi
def eX10_two_1 : List (Nat × Instr × Nat × Nat) := [(110, .iconst 0, 1, 111), (111, .istore 7, 2, 113), (113, .iload 7, 2, 115), (115, .ifCond .eq 14, 3, 118), (118, .bipush 10, 2, 120), (120, .iload 4, 2, 122), (122, .imul, 1, 123), (123, .iload 5, 2, 125), (125, .iadd, 1, 126), (126, .goto 4, 3, 129), (129, .iload_n 2, 1, 130), (130, .istore_n 2, 1, 131), (131, .iload 7, 2, 133), (133, .ifCond .eq 8, 3, 136), (136, .iload 6, 2, 138), (138, .goto 4, 3, 141), (141, .iload_n 3, 1, 142), (142, .istore_n 3, 1, 143), (143, .iinc 5 1, 3, 146), (146, .goto (-108), 3, 149), (149, .iinc 4 1, 3, 152), (152, .goto (-129), 3, 155), (155, .iload_n 1, 1, 156), (156, .ifCond .ne 7, 3, 159), (159, .iload_n 2, 1, 160), (160, .goto 4, 3, 163), (163, .iload_n 3, 1, 164), (164, .ireturn, 1, 165)]
theorem hX10_two_1 : ∀ q ∈ eX10_two_1, decode cX10_two q.1 = .ok (q.2.1, q.2.2.1) ∧ q.1 + q.2.2.1 = q.2.2.2 := by decide +kernel
theorem dX10_two_1 (i : Nat) {pc : Nat} {ins : Instr} {len pc' : Nat} (hi : eX10_two_1[i]? = some (pc, ins, len, pc')) : q_d cX10_two pc ins len pc' := q_dt hX10_two_1 i hi
abbrev MX10_ask : MM := (yX10_ask, cX10_ask, 8, some .int)
def eX10_ask_0 : List (Nat × Instr × Nat × Nat) := [(0, .iload_n 1, 1, 1), (1, .iconst 0, 1, 2), (2, .iconst 1, 1, 3), (3, .invokestatic 101, 3, 6), (6, .ifCond .ne 6, 3, 9), (9, .bipush (-2), 2, 11), (11, .ireturn, 1, 12), (12, .aload_n 0, 1, 13), (13, .invokevirtual 228, 3, 16), (16, .iconst (-1), 1, 17), (17, .istore_n 2, 1, 18), (18, .iconst 0, 1, 19), (19, .istore_n 3, 1, 20), (20, .iconst 0, 1, 21), (21, .istore 4, 2, 23), (23, .iload 4, 2, 25), (25, .aload_n 0, 1, 26), (26, .getfield 98, 3, 29), (29, .if_icmp .ge 132, 3, 32), (32, .iconst 0, 1, 33), (33, .istore 5, 2, 35), (35, .iload 5, 2, 37), (37, .bipush 6, 2, 39), (39, .if_icmp .ge 116, 3, 42), (42, .iconst 0, 1, 43), (43, .istore 6, 2, 45), (45, .iconst 0, 1, 46), (46, .istore 7, 2, 48), (48, .iload 7, 2, 50), (50, .aload_n 0, 1, 51), (51, .getfield 220, 3, 54), (54, .if_icmp .ge 32, 3, 57), (57, .iload 6, 2, 59), (59, .aload_n 0, 1, 60), (60, .iload 4, 2, 62), (62, .aload_n 0, 1, 63), (63, .getfield 71, 3, 66), (66, .iload 7, 2, 68), (68, .iaload, 1, 69), (69, .invokevirtual 215, 3, 72), (72, .iload 5, 2, 74), (74, .ishr, 1, 75), (75, .iconst 1, 1, 76), (76, .iand, 1, 77), (77, .iadd, 1, 78), (78, .istore 6, 2, 80), (80, .iinc 7 1, 3, 83), (83, .goto (-35), 3, 86), (86, .iload 6, 2, 88), (88, .aload_n 0, 1, 89), (89, .getfield 220, 3, 92), (92, .iload 6, 2, 94), (94, .isub, 1, 95), (95, .if_icmp .ge 8, 3, 98), (98, .iload 6, 2, 100), (100, .goto 10, 3, 103), (103, .aload_n 0, 1, 104), (104, .getfield 220, 3, 107), (107, .iload 6, 2, 109), (109, .isub, 1, 110)]
theorem hX10_ask_0 : ∀ q ∈ eX10_ask_0, decode cX10_ask q.1 = .ok (q.2.1, q.2.2.1) ∧ q.1 + q.2.2.1 = q.2.2.2 := by decide +kernel
theorem dX10_ask_0 (i : Nat) {pc : Nat} {ins : Instr} {len pc' : Nat} (hi : eX10_ask_0[i]? = some (pc, ins, len, pc')) : q_d cX10_ask pc ins len pc' := q_dt hX10_ask_0 i hi
def eX10_ask_1 : List (Nat × Instr × Nat × Nat) := [(110, .istore 7, 2, 112), (112, .iload_n 2, 1, 113), (113, .iconst (-1), 1, 114), (114, .if_icmp .eq 9, 3, 117), (117, .iload 7, 2, 119), (119, .iload_n 3, 1, 120), (120, .if_icmp .le 14, 3, 123), (123, .bipush 10, 2, 125), (125, .iload 4, 2, 127), (127, .imul, 1, 128), (128, .iload 5, 2, 130), (130, .iadd, 1, 131), (131, .goto 4, 3, 134), (134, .iload_n 2, 1, 135), (135, .istore_n 2, 1, 136), (136, .iload 7, 2, 138), (138, .iload_n 3, 1, 139), (139, .if_icmp .le 8, 3, 142), (142, .iload 7, 2, 144), (144, .goto 4, 3, 147), (147, .iload_n 3, 1, 148), (148, .istore_n 3, 1, 149), (149, .iinc 5 1, 3, 152), (152, .goto (-117), 3, 155), (155, .iinc 4 1, 3, 158), (158, .goto (-135), 3, 161), (161, .iload_n 1, 1, 162), (162, .ifCond .ne 7, 3, 165), (165, .iload_n 2, 1, 166), (166, .goto 4, 3, 169), (169, .iload_n 3, 1, 170), (170, .ireturn, 1, 171)]
theorem hX10_ask_1 : ∀ q ∈ eX10_ask_1, decode cX10_ask q.1 = .ok (q.2.1, q.2.2.1) ∧ q.1 + q.2.2.1 = q.2.2.2 := by decide +kernel
theorem dX10_ask_1 (i : Nat) {pc : Nat} {ins : Instr} {len pc' : Nat} (hi : eX10_ask_1[i]? = some (pc, ins, len, pc')) : q_d cX10_ask pc ins len pc' := q_dt hX10_ask_1 i hi
abbrev MX10_would : MM := (yX10_would, cX10_would, 5, some .int)
def eX10_would : List (Nat × Instr × Nat × Nat) := [(0, .aload_n 0, 1, 1), (1, .getfield 119, 3, 4), (4, .bipush 12, 2, 6), (6, .if_icmp .ne 6, 3, 9), (9, .bipush (-3), 2, 11), (11, .ireturn, 1, 12), (12, .aload_n 0, 1, 13), (13, .iload_n 1, 1, 14), (14, .iload_n 2, 1, 15), (15, .iload_n 3, 1, 16), (16, .iload 4, 2, 18), (18, .invokevirtual 200, 3, 21), (21, .ifCond .ne 6, 3, 24), (24, .bipush (-2), 2, 26), (26, .ireturn, 1, 27), (27, .aload_n 0, 1, 28), (28, .iload_n 1, 1, 29), (29, .iload_n 2, 1, 30), (30, .iload_n 3, 1, 31), (31, .iload 4, 2, 33), (33, .invokevirtual 204, 3, 36), (36, .aload_n 0, 1, 37), (37, .dup, 1, 38), (38, .getfield 119, 3, 41), (41, .iconst 1, 1, 42), (42, .iadd, 1, 43), (43, .putfield 119, 3, 46), (46, .aload_n 0, 1, 47), (47, .invokevirtual 228, 3, 50), (50, .aload_n 0, 1, 51), (51, .dup, 1, 52), (52, .getfield 119, 3, 55), (55, .iconst 1, 1, 56), (56, .isub, 1, 57), (57, .putfield 119, 3, 60), (60, .aload_n 0, 1, 61), (61, .getfield 220, 3, 64), (64, .ireturn, 1, 65)]
theorem hX10_would : ∀ q ∈ eX10_would, decode cX10_would q.1 = .ok (q.2.1, q.2.2.1) ∧ q.1 + q.2.2.1 = q.2.2.2 := by decide +kernel
theorem dX10_would (i : Nat) {pc : Nat} {ins : Instr} {len pc' : Nat} (hi : eX10_would[i]? = some (pc, ins, len, pc')) : q_d cX10_would pc ins len pc' := q_dt hX10_would i hi
abbrev MX10_fitWithout : MM := (yX10_fitWithout, cX10_fitWithout, 4, some .int)
def eX10_fitWithout : List (Nat × Instr × Nat × Nat) := [(0, .iconst 0, 1, 1), (1, .istore_n 2, 1, 2), (2, .iconst 0, 1, 3), (3, .istore_n 3, 1, 4), (4, .iload_n 3, 1, 5), (5, .sipush 720, 3, 8), (8, .if_icmp .ge 41, 3, 11), (11, .iload_n 2, 1, 12), (12, .aload_n 0, 1, 13), (13, .getfield 65, 3, 16), (16, .iload_n 3, 1, 17), (17, .iaload, 1, 18), (18, .ifCond .lt 22, 3, 21), (21, .aload_n 0, 1, 22), (22, .getfield 65, 3, 25), (25, .iload_n 3, 1, 26), (26, .iaload, 1, 27), (27, .iconst 1, 1, 28), (28, .iload_n 1, 1, 29), (29, .ishl, 1, 30), (30, .iconst (-1), 1, 31), (31, .ixor, 1, 32), (32, .iand, 1, 33), (33, .ifCond .ne 7, 3, 36), (36, .iconst 1, 1, 37), (37, .goto 4, 3, 40), (40, .iconst 0, 1, 41), (41, .iadd, 1, 42), (42, .istore_n 2, 1, 43), (43, .iinc 3 1, 3, 46), (46, .goto (-42), 3, 49), (49, .iload_n 2, 1, 50), (50, .ireturn, 1, 51)]
theorem hX10_fitWithout : ∀ q ∈ eX10_fitWithout, decode cX10_fitWithout q.1 = .ok (q.2.1, q.2.2.1) ∧ q.1 + q.2.2.1 = q.2.2.2 := by decide +kernel
theorem dX10_fitWithout (i : Nat) {pc : Nat} {ins : Instr} {len pc' : Nat} (hi : eX10_fitWithout[i]? = some (pc, ins, len, pc')) : q_d cX10_fitWithout pc ins len pc' := q_dt hX10_fitWithout i hi
abbrev MX10_clash : MM := (yX10_clash, cX10_clash, 3, some .int)
def eX10_clash : List (Nat × Instr × Nat × Nat) := [(0, .aload_n 0, 1, 1), (1, .invokevirtual 228, 3, 4), (4, .iconst 0, 1, 5), (5, .istore_n 1, 1, 6), (6, .iconst 0, 1, 7), (7, .istore_n 2, 1, 8), (8, .iload_n 2, 1, 9), (9, .aload_n 0, 1, 10), (10, .getfield 119, 3, 13), (13, .if_icmp .ge 34, 3, 16), (16, .aload_n 0, 1, 17), (17, .getfield 220, 3, 20), (20, .ifCond .ne 27, 3, 23), (23, .iload_n 1, 1, 24), (24, .aload_n 0, 1, 25), (25, .iload_n 2, 1, 26), (26, .invokevirtual 285, 3, 29), (29, .ifCond .le 9, 3, 32), (32, .iconst 1, 1, 33), (33, .iload_n 2, 1, 34), (34, .ishl, 1, 35), (35, .goto 4, 3, 38), (38, .iconst 0, 1, 39), (39, .ior, 1, 40), (40, .istore_n 1, 1, 41), (41, .iinc 2 1, 3, 44), (44, .goto (-36), 3, 47), (47, .iload_n 1, 1, 48), (48, .ireturn, 1, 49)]
theorem hX10_clash : ∀ q ∈ eX10_clash, decode cX10_clash q.1 = .ok (q.2.1, q.2.2.1) ∧ q.1 + q.2.2.1 = q.2.2.2 := by decide +kernel
theorem dX10_clash (i : Nat) {pc : Nat} {ins : Instr} {len pc' : Nat} (hi : eX10_clash[i]? = some (pc, ins, len, pc')) : q_d cX10_clash pc ins len pc' := q_dt hX10_clash i hi
abbrev MX10_idle : MM := (yX10_idle, cX10_idle, 3, some .int)
def eX10_idle : List (Nat × Instr × Nat × Nat) := [(0, .aload_n 0, 1, 1), (1, .invokevirtual 228, 3, 4), (4, .iconst 0, 1, 5), (5, .istore_n 1, 1, 6), (6, .iconst 0, 1, 7), (7, .istore_n 2, 1, 8), (8, .iload_n 2, 1, 9), (9, .aload_n 0, 1, 10), (10, .getfield 119, 3, 13), (13, .if_icmp .ge 31, 3, 16), (16, .iload_n 1, 1, 17), (17, .aload_n 0, 1, 18), (18, .iload_n 2, 1, 19), (19, .invokevirtual 285, 3, 22), (22, .aload_n 0, 1, 23), (23, .getfield 220, 3, 26), (26, .if_icmp .ne 9, 3, 29), (29, .iconst 1, 1, 30), (30, .iload_n 2, 1, 31), (31, .ishl, 1, 32), (32, .goto 4, 3, 35), (35, .iconst 0, 1, 36), (36, .ior, 1, 37), (37, .istore_n 1, 1, 38), (38, .iinc 2 1, 3, 41), (41, .goto (-33), 3, 44), (44, .iload_n 1, 1, 45), (45, .ireturn, 1, 46)]
theorem hX10_idle : ∀ q ∈ eX10_idle, decode cX10_idle q.1 = .ok (q.2.1, q.2.2.1) ∧ q.1 + q.2.2.1 = q.2.2.2 := by decide +kernel
theorem dX10_idle (i : Nat) {pc : Nat} {ins : Instr} {len pc' : Nat} (hi : eX10_idle[i]? = some (pc, ins, len, pc')) : q_d cX10_idle pc ins len pc' := q_dt hX10_idle i hi
abbrev MX10_bill : MM := (yX10_bill, cX10_bill, 10, some .int)
def eX10_bill_0 : List (Nat × Instr × Nat × Nat) := [(0, .iload_n 1, 1, 1), (1, .iconst 0, 1, 2), (2, .bipush 10, 2, 4), (4, .invokestatic 101, 3, 7), (7, .ifCond .eq 23, 3, 10), (10, .iload_n 2, 1, 11), (11, .iconst 0, 1, 12), (12, .sipush 999, 3, 15), (15, .invokestatic 101, 3, 18), (18, .ifCond .eq 12, 3, 21), (21, .iload_n 3, 1, 22), (22, .iconst 0, 1, 23), (23, .iconst 2, 1, 24), (24, .invokestatic 101, 3, 27), (27, .ifCond .ne 6, 3, 30), (30, .bipush (-2), 2, 32), (32, .ireturn, 1, 33), (33, .iconst 0, 1, 34), (34, .istore 4, 2, 36), (36, .sipush 1023, 3, 39), (39, .istore 5, 2, 41), (41, .iconst 0, 1, 42), (42, .istore 6, 2, 44), (44, .iconst 0, 1, 45), (45, .istore 7, 2, 47), (47, .iload 7, 2, 49), (49, .iconst 1, 1, 50), (50, .aload_n 0, 1, 51), (51, .getfield 98, 3, 54), (54, .ishl, 1, 55), (55, .if_icmp .ge 89, 3, 58), (58, .iconst 0, 1, 59), (59, .istore 8, 2, 61), (61, .iconst 0, 1, 62), (62, .istore 9, 2, 64), (64, .iload 9, 2, 66), (66, .aload_n 0, 1, 67), (67, .getfield 98, 3, 70), (70, .if_icmp .ge 36, 3, 73), (73, .iload 8, 2, 75), (75, .iload 7, 2, 77), (77, .iload 9, 2, 79), (79, .ishr, 1, 80), (80, .iconst 1, 1, 81), (81, .iand, 1, 82), (82, .iconst 1, 1, 83), (83, .if_icmp .ne 13, 3, 86), (86, .aload_n 0, 1, 87), (87, .getfield 13, 3, 90), (90, .iload 9, 2, 92), (92, .iaload, 1, 93), (93, .goto 4, 3, 96), (96, .iconst 0, 1, 97), (97, .iadd, 1, 98), (98, .istore 8, 2, 100), (100, .iinc 9 1, 3, 103), (103, .goto (-39), 3, 106), (106, .iload 7, 2, 108), (108, .invokestatic 108, 3, 111), (111, .iload_n 1, 1, 112)]
theorem hX10_bill_0 : ∀ q ∈ eX10_bill_0, decode cX10_bill q.1 = .ok (q.2.1, q.2.2.1) ∧ q.1 + q.2.2.1 = q.2.2.2 := by decide +kernel
theorem dX10_bill_0 (i : Nat) {pc : Nat} {ins : Instr} {len pc' : Nat} (hi : eX10_bill_0[i]? = some (pc, ins, len, pc')) : q_d cX10_bill pc ins len pc' := q_dt hX10_bill_0 i hi
def eX10_bill_1 : List (Nat × Instr × Nat × Nat) := [(112, .if_icmp .ne 26, 3, 115), (115, .iload 8, 2, 117), (117, .iload_n 2, 1, 118), (118, .if_icmp .ne 20, 3, 121), (121, .iinc 4 1, 3, 124), (124, .iload 5, 2, 126), (126, .iload 7, 2, 128), (128, .iand, 1, 129), (129, .istore 5, 2, 131), (131, .iload 6, 2, 133), (133, .iload 7, 2, 135), (135, .ior, 1, 136), (136, .istore 6, 2, 138), (138, .iinc 7 1, 3, 141), (141, .goto (-94), 3, 144), (144, .iload_n 3, 1, 145), (145, .ifCond .ne 8, 3, 148), (148, .iload 4, 2, 150), (150, .goto 24, 3, 153), (153, .iload_n 3, 1, 154), (154, .iconst 2, 1, 155), (155, .if_icmp .ne 8, 3, 158), (158, .iload 6, 2, 160), (160, .goto 14, 3, 163), (163, .iload 4, 2, 165), (165, .ifCond .ne 7, 3, 168), (168, .iconst 0, 1, 169), (169, .goto 5, 3, 172), (172, .iload 5, 2, 174), (174, .ireturn, 1, 175)]
theorem hX10_bill_1 : ∀ q ∈ eX10_bill_1, decode cX10_bill q.1 = .ok (q.2.1, q.2.2.1) ∧ q.1 + q.2.2.1 = q.2.2.2 := by decide +kernel
theorem dX10_bill_1 (i : Nat) {pc : Nat} {ins : Instr} {len pc' : Nat} (hi : eX10_bill_1[i]? = some (pc, ins, len, pc')) : q_d cX10_bill pc ins len pc' := q_dt hX10_bill_1 i hi
abbrev MX10_match : MM := (yX10_match, cX10_match, 6, some .int)
def eX10_match_0 : List (Nat × Instr × Nat × Nat) := [(0, .iload_n 1, 1, 1), (1, .iconst 0, 1, 2), (2, .iconst 3, 1, 3), (3, .invokestatic 101, 3, 6), (6, .ifCond .ne 6, 3, 9), (9, .bipush (-2), 2, 11), (11, .ireturn, 1, 12), (12, .aload_n 0, 1, 13), (13, .getfield 41, 3, 16), (16, .iload_n 1, 1, 17), (17, .iaload, 1, 18), (18, .iconst (-1), 1, 19), (19, .if_icmp .ne 6, 3, 22), (22, .bipush (-11), 2, 24), (24, .ireturn, 1, 25), (25, .aload_n 0, 1, 26), (26, .getfield 44, 3, 29), (29, .iload_n 1, 1, 30), (30, .iaload, 1, 31), (31, .aload_n 0, 1, 32), (32, .getfield 98, 3, 35), (35, .if_icmp .eq 6, 3, 38), (38, .bipush (-2), 2, 40), (40, .ireturn, 1, 41), (41, .aload_n 0, 1, 42), (42, .invokevirtual 228, 3, 45), (45, .iconst 0, 1, 46), (46, .istore_n 2, 1, 47), (47, .iconst 0, 1, 48), (48, .istore_n 3, 1, 49), (49, .iload_n 3, 1, 50), (50, .aload_n 0, 1, 51), (51, .getfield 220, 3, 54), (54, .if_icmp .ge 82, 3, 57), (57, .iconst 1, 1, 58), (58, .istore 4, 2, 60), (60, .iconst 0, 1, 61), (61, .istore 5, 2, 63), (63, .iload 5, 2, 65), (65, .aload_n 0, 1, 66), (66, .getfield 98, 3, 69), (69, .if_icmp .ge 48, 3, 72), (72, .iload 4, 2, 74), (74, .ifCond .eq 34, 3, 77), (77, .aload_n 0, 1, 78), (78, .getfield 47, 3, 81), (81, .bipush 40, 2, 83), (83, .iload_n 1, 1, 84), (84, .imul, 1, 85), (85, .iload 5, 2, 87), (87, .iadd, 1, 88), (88, .iaload, 1, 89), (89, .aload_n 0, 1, 90), (90, .iload 5, 2, 92), (92, .aload_n 0, 1, 93), (93, .getfield 71, 3, 96), (96, .iload_n 3, 1, 97), (97, .iaload, 1, 98), (98, .invokevirtual 215, 3, 101), (101, .if_icmp .ne 7, 3, 104)]
theorem hX10_match_0 : ∀ q ∈ eX10_match_0, decode cX10_match q.1 = .ok (q.2.1, q.2.2.1) ∧ q.1 + q.2.2.1 = q.2.2.2 := by decide +kernel
theorem dX10_match_0 (i : Nat) {pc : Nat} {ins : Instr} {len pc' : Nat} (hi : eX10_match_0[i]? = some (pc, ins, len, pc')) : q_d cX10_match pc ins len pc' := q_dt hX10_match_0 i hi
def eX10_match_1 : List (Nat × Instr × Nat × Nat) := [(104, .iconst 1, 1, 105), (105, .goto 4, 3, 108), (108, .iconst 0, 1, 109), (109, .istore 4, 2, 111), (111, .iinc 5 1, 3, 114), (114, .goto (-51), 3, 117), (117, .iload_n 2, 1, 118), (118, .iload 4, 2, 120), (120, .ifCond .eq 7, 3, 123), (123, .iconst 1, 1, 124), (124, .goto 4, 3, 127), (127, .iconst 0, 1, 128), (128, .iadd, 1, 129), (129, .istore_n 2, 1, 130), (130, .iinc 3 1, 3, 133), (133, .goto (-84), 3, 136), (136, .iload_n 2, 1, 137), (137, .ireturn, 1, 138)]
theorem hX10_match_1 : ∀ q ∈ eX10_match_1, decode cX10_match q.1 = .ok (q.2.1, q.2.2.1) ∧ q.1 + q.2.2.1 = q.2.2.2 := by decide +kernel
theorem dX10_match_1 (i : Nat) {pc : Nat} {ins : Instr} {len pc' : Nat} (hi : eX10_match_1[i]? = some (pc, ins, len, pc')) : q_d cX10_match pc ins len pc' := q_dt hX10_match_1 i hi
abbrev MX10_film : MM := (yX10_film, cX10_film, 3, some .int)
def eX10_film : List (Nat × Instr × Nat × Nat) := [(0, .iload_n 1, 1, 1), (1, .iconst 0, 1, 2), (2, .iconst 3, 1, 3), (3, .invokestatic 101, 3, 6), (6, .ifCond .ne 6, 3, 9), (9, .bipush (-2), 2, 11), (11, .ireturn, 1, 12), (12, .aload_n 0, 1, 13), (13, .invokevirtual 228, 3, 16), (16, .aload_n 0, 1, 17), (17, .getfield 220, 3, 20), (20, .ifCond .ne 6, 3, 23), (23, .bipush (-3), 2, 25), (25, .ireturn, 1, 26), (26, .aload_n 0, 1, 27), (27, .getfield 41, 3, 30), (30, .iload_n 1, 1, 31), (31, .iconst 2, 1, 32), (32, .iastore, 1, 33), (33, .aload_n 0, 1, 34), (34, .getfield 44, 3, 37), (37, .iload_n 1, 1, 38), (38, .aload_n 0, 1, 39), (39, .getfield 98, 3, 42), (42, .iastore, 1, 43), (43, .iconst 0, 1, 44), (44, .istore_n 2, 1, 45), (45, .iload_n 2, 1, 46), (46, .bipush 40, 2, 48), (48, .if_icmp .ge 43, 3, 51), (51, .aload_n 0, 1, 52), (52, .getfield 47, 3, 55), (55, .bipush 40, 2, 57), (57, .iload_n 1, 1, 58), (58, .imul, 1, 59), (59, .iload_n 2, 1, 60), (60, .iadd, 1, 61), (61, .iload_n 2, 1, 62), (62, .aload_n 0, 1, 63), (63, .getfield 98, 3, 66), (66, .if_icmp .ge 17, 3, 69), (69, .aload_n 0, 1, 70), (70, .iload_n 2, 1, 71), (71, .aload_n 0, 1, 72), (72, .getfield 71, 3, 75), (75, .iconst 0, 1, 76), (76, .iaload, 1, 77), (77, .invokevirtual 215, 3, 80), (80, .goto 4, 3, 83), (83, .iconst 0, 1, 84), (84, .iastore, 1, 85), (85, .iinc 2 1, 3, 88), (88, .goto (-43), 3, 91), (91, .aload_n 0, 1, 92), (92, .getfield 98, 3, 95), (95, .ireturn, 1, 96)]
theorem hX10_film : ∀ q ∈ eX10_film, decode cX10_film q.1 = .ok (q.2.1, q.2.2.1) ∧ q.1 + q.2.2.1 = q.2.2.2 := by decide +kernel
theorem dX10_film (i : Nat) {pc : Nat} {ins : Instr} {len pc' : Nat} (hi : eX10_film[i]? = some (pc, ins, len, pc')) : q_d cX10_film pc ins len pc' := q_dt hX10_film i hi
abbrev MX10_laws : MM := (yX10_laws, cX10_laws, 4, some .int)
def eX10_laws : List (Nat × Instr × Nat × Nat) := [(0, .aload_n 0, 1, 1), (1, .getfield 125, 3, 4), (4, .istore_n 1, 1, 5), (5, .iconst 0, 1, 6), (6, .istore_n 2, 1, 7), (7, .iconst 0, 1, 8), (8, .istore_n 3, 1, 9), (9, .iload_n 3, 1, 10), (10, .aload_n 0, 1, 11), (11, .getfield 122, 3, 14), (14, .if_icmp .ge 35, 3, 17), (17, .aload_n 0, 1, 18), (18, .iload_n 3, 1, 19), (19, .putfield 125, 3, 22), (22, .aload_n 0, 1, 23), (23, .invokevirtual 228, 3, 26), (26, .iload_n 2, 1, 27), (27, .aload_n 0, 1, 28), (28, .getfield 220, 3, 31), (31, .ifCond .le 9, 3, 34), (34, .iconst 1, 1, 35), (35, .iload_n 3, 1, 36), (36, .ishl, 1, 37), (37, .goto 4, 3, 40), (40, .iconst 0, 1, 41), (41, .ior, 1, 42), (42, .istore_n 2, 1, 43), (43, .iinc 3 1, 3, 46), (46, .goto (-37), 3, 49), (49, .aload_n 0, 1, 50), (50, .iload_n 1, 1, 51), (51, .putfield 125, 3, 54), (54, .iload_n 2, 1, 55), (55, .ireturn, 1, 56)]
theorem hX10_laws : ∀ q ∈ eX10_laws, decode cX10_laws q.1 = .ok (q.2.1, q.2.2.1) ∧ q.1 + q.2.2.1 = q.2.2.2 := by decide +kernel
theorem dX10_laws (i : Nat) {pc : Nat} {ins : Instr} {len pc' : Nat} (hi : eX10_laws[i]? = some (pc, ins, len, pc')) : q_d cX10_laws pc ins len pc' := q_dt hX10_laws i hi
abbrev MX10_drawnOf : MM := (yX10_drawnOf, cX10_drawnOf, 4, some .int)
def eX10_drawnOf : List (Nat × Instr × Nat × Nat) := [(0, .iload_n 1, 1, 1), (1, .i2l, 1, 2), (2, .lconst 1, 1, 3), (3, .ladd, 1, 4), (4, .ldc2_w 288, 3, 7), (7, .lmul, 1, 8), (8, .ldc2_w 290, 3, 11), (11, .lrem, 1, 12), (12, .lstore_n 2, 1, 13), (13, .lload_n 2, 1, 14), (14, .aload_n 0, 1, 15), (15, .getfield 220, 3, 18), (18, .i2l, 1, 19), (19, .lrem, 1, 20), (20, .l2i, 1, 21), (21, .ireturn, 1, 22)]
theorem hX10_drawnOf : ∀ q ∈ eX10_drawnOf, decode cX10_drawnOf q.1 = .ok (q.2.1, q.2.2.1) ∧ q.1 + q.2.2.1 = q.2.2.2 := by decide +kernel
theorem dX10_drawnOf (i : Nat) {pc : Nat} {ins : Instr} {len pc' : Nat} (hi : eX10_drawnOf[i]? = some (pc, ins, len, pc')) : q_d cX10_drawnOf pc ins len pc' := q_dt hX10_drawnOf i hi
abbrev MX10_drawn : MM := (yX10_drawn, cX10_drawn, 3, some .int)
def eX10_drawn : List (Nat × Instr × Nat × Nat) := [(0, .iload_n 1, 1, 1), (1, .iconst 0, 1, 2), (2, .ldc_w 292, 3, 5), (5, .invokestatic 101, 3, 8), (8, .ifCond .eq 10, 3, 11), (11, .iload_n 2, 1, 12), (12, .invokestatic 231, 3, 15), (15, .ifCond .ne 6, 3, 18), (18, .bipush (-2), 2, 20), (20, .ireturn, 1, 21), (21, .aload_n 0, 1, 22), (22, .invokevirtual 228, 3, 25), (25, .aload_n 0, 1, 26), (26, .getfield 220, 3, 29), (29, .ifCond .ne 7, 3, 32), (32, .iconst (-1), 1, 33), (33, .goto 13, 3, 36), (36, .aload_n 0, 1, 37), (37, .aload_n 0, 1, 38), (38, .iload_n 1, 1, 39), (39, .invokevirtual 293, 3, 42), (42, .iload_n 2, 1, 43), (43, .invokevirtual 234, 3, 46), (46, .ireturn, 1, 47)]
theorem hX10_drawn : ∀ q ∈ eX10_drawn, decode cX10_drawn q.1 = .ok (q.2.1, q.2.2.1) ∧ q.1 + q.2.2.1 = q.2.2.2 := by decide +kernel
theorem dX10_drawn (i : Nat) {pc : Nat} {ins : Instr} {len pc' : Nat} (hi : eX10_drawn[i]? = some (pc, ins, len, pc')) : q_d cX10_drawn pc ins len pc' := q_dt hX10_drawn i hi
abbrev MX10_chance : MM := (yX10_chance, cX10_chance, 9, some .long)
def eX10_chance_0 : List (Nat × Instr × Nat × Nat) := [(0, .aload_n 0, 1, 1), (1, .iload_n 1, 1, 2), (2, .invokevirtual 116, 3, 5), (5, .ifCond .eq 43, 3, 8), (8, .aload_n 0, 1, 9), (9, .iload_n 2, 1, 10), (10, .invokevirtual 112, 3, 13), (13, .ifCond .eq 35, 3, 16), (16, .iload_n 3, 1, 17), (17, .iconst 0, 1, 18), (18, .ldc_w 292, 3, 21), (21, .invokestatic 101, 3, 24), (24, .ifCond .eq 24, 3, 27), (27, .iload 4, 2, 29), (29, .iconst 1, 1, 30), (30, .bipush 30, 2, 32), (32, .invokestatic 101, 3, 35), (35, .ifCond .eq 13, 3, 38), (38, .iload 5, 2, 40), (40, .iconst 0, 1, 41), (41, .iconst 1, 1, 42), (42, .invokestatic 101, 3, 45), (45, .ifCond .ne 7, 3, 48), (48, .ldc2_w 243, 3, 51), (51, .lreturn, 1, 52), (52, .aload_n 0, 1, 53), (53, .invokevirtual 228, 3, 56), (56, .lconst 0, 1, 57), (57, .lstore 6, 2, 59), (59, .iconst 0, 1, 60), (60, .istore 8, 2, 62), (62, .iload 8, 2, 64), (64, .iload 4, 2, 66), (66, .if_icmp .ge 54, 3, 69), (69, .aload_n 0, 1, 70), (70, .getfield 220, 3, 73), (73, .ifCond .le 47, 3, 76), (76, .lload 6, 2, 78), (78, .aload_n 0, 1, 79), (79, .iload_n 2, 1, 80), (80, .aload_n 0, 1, 81), (81, .getfield 71, 3, 84), (84, .aload_n 0, 1, 85), (85, .iload_n 3, 1, 86), (86, .iload 8, 2, 88), (88, .iadd, 1, 89), (89, .invokevirtual 293, 3, 92), (92, .iaload, 1, 93), (93, .invokevirtual 215, 3, 96), (96, .aload_n 0, 1, 97), (97, .getfield 16, 3, 100), (100, .iload_n 1, 1, 101), (101, .iaload, 1, 102), (102, .iand, 1, 103), (103, .ifCond .eq 7, 3, 106), (106, .lconst 1, 1, 107), (107, .goto 4, 3, 110), (110, .lconst 0, 1, 111), (111, .ladd, 1, 112), (112, .lstore 6, 2, 114)]
theorem hX10_chance_0 : ∀ q ∈ eX10_chance_0, decode cX10_chance q.1 = .ok (q.2.1, q.2.2.1) ∧ q.1 + q.2.2.1 = q.2.2.2 := by decide +kernel
theorem dX10_chance_0 (i : Nat) {pc : Nat} {ins : Instr} {len pc' : Nat} (hi : eX10_chance_0[i]? = some (pc, ins, len, pc')) : q_d cX10_chance pc ins len pc' := q_dt hX10_chance_0 i hi
def eX10_chance_1 : List (Nat × Instr × Nat × Nat) := [(114, .iinc 8 1, 3, 117), (117, .goto (-55), 3, 120), (120, .aload_n 0, 1, 121), (121, .getfield 220, 3, 124), (124, .ifCond .ne 9, 3, 127), (127, .ldc2_w 243, 3, 130), (130, .goto 13, 3, 133), (133, .lload 6, 2, 135), (135, .iload 4, 2, 137), (137, .i2l, 1, 138), (138, .iload 5, 2, 140), (140, .invokestatic 245, 3, 143), (143, .lreturn, 1, 144)]
theorem hX10_chance_1 : ∀ q ∈ eX10_chance_1, decode cX10_chance q.1 = .ok (q.2.1, q.2.2.1) ∧ q.1 + q.2.2.1 = q.2.2.2 := by decide +kernel
theorem dX10_chance_1 (i : Nat) {pc : Nat} {ins : Instr} {len pc' : Nat} (hi : eX10_chance_1[i]? = some (pc, ins, len, pc')) : q_d cX10_chance pc ins len pc' := q_dt hX10_chance_1 i hi
abbrev MX10_image : MM := (yX10_image, cX10_image, 2, some .int)
def eX10_image : List (Nat × Instr × Nat × Nat) := [(0, .aload_n 0, 1, 1), (1, .iconst 1, 1, 2), (2, .putfield 208, 3, 5), (5, .aload_n 0, 1, 6), (6, .aload_n 0, 1, 7), (7, .getfield 98, 3, 10), (10, .putfield 296, 3, 13), (13, .aload_n 0, 1, 14), (14, .aload_n 0, 1, 15), (15, .getfield 105, 3, 18), (18, .putfield 299, 3, 21), (21, .aload_n 0, 1, 22), (22, .aload_n 0, 1, 23), (23, .getfield 119, 3, 26), (26, .putfield 212, 3, 29), (29, .aload_n 0, 1, 30), (30, .aload_n 0, 1, 31), (31, .getfield 19, 3, 34), (34, .putfield 302, 3, 37), (37, .aload_n 0, 1, 38), (38, .aload_n 0, 1, 39), (39, .getfield 125, 3, 42), (42, .putfield 305, 3, 45), (45, .iconst 0, 1, 46), (46, .istore_n 1, 1, 47), (47, .iload_n 1, 1, 48), (48, .bipush 10, 2, 50), (50, .if_icmp .ge 21, 3, 53), (53, .aload_n 0, 1, 54), (54, .getfield 38, 3, 57), (57, .iload_n 1, 1, 58), (58, .aload_n 0, 1, 59), (59, .getfield 13, 3, 62), (62, .iload_n 1, 1, 63), (63, .iaload, 1, 64), (64, .iastore, 1, 65), (65, .iinc 1 1, 3, 68), (68, .goto (-21), 3, 71), (71, .aload_n 0, 1, 72), (72, .getfield 98, 3, 75), (75, .ireturn, 1, 76)]
theorem hX10_image : ∀ q ∈ eX10_image, decode cX10_image q.1 = .ok (q.2.1, q.2.2.1) ∧ q.1 + q.2.2.1 = q.2.2.2 := by decide +kernel
theorem dX10_image (i : Nat) {pc : Nat} {ins : Instr} {len pc' : Nat} (hi : eX10_image[i]? = some (pc, ins, len, pc')) : q_d cX10_image pc ins len pc' := q_dt hX10_image i hi
abbrev MX10_back : MM := (yX10_back, cX10_back, 2, some .int)
def eX10_back : List (Nat × Instr × Nat × Nat) := [(0, .aload_n 0, 1, 1), (1, .getfield 208, 3, 4), (4, .ifCond .ne 6, 3, 7), (7, .bipush (-3), 2, 9), (9, .ireturn, 1, 10), (10, .aload_n 0, 1, 11), (11, .aload_n 0, 1, 12), (12, .getfield 296, 3, 15), (15, .putfield 98, 3, 18), (18, .aload_n 0, 1, 19), (19, .aload_n 0, 1, 20), (20, .getfield 299, 3, 23), (23, .putfield 105, 3, 26), (26, .aload_n 0, 1, 27), (27, .aload_n 0, 1, 28), (28, .getfield 212, 3, 31), (31, .putfield 119, 3, 34), (34, .aload_n 0, 1, 35), (35, .aload_n 0, 1, 36), (36, .getfield 302, 3, 39), (39, .putfield 19, 3, 42), (42, .aload_n 0, 1, 43), (43, .aload_n 0, 1, 44), (44, .getfield 305, 3, 47), (47, .putfield 125, 3, 50), (50, .iconst 0, 1, 51), (51, .istore_n 1, 1, 52), (52, .iload_n 1, 1, 53), (53, .bipush 10, 2, 55), (55, .if_icmp .ge 21, 3, 58), (58, .aload_n 0, 1, 59), (59, .getfield 13, 3, 62), (62, .iload_n 1, 1, 63), (63, .aload_n 0, 1, 64), (64, .getfield 38, 3, 67), (67, .iload_n 1, 1, 68), (68, .iaload, 1, 69), (69, .iastore, 1, 70), (70, .iinc 1 1, 3, 73), (73, .goto (-21), 3, 76), (76, .aload_n 0, 1, 77), (77, .getfield 98, 3, 80), (80, .ireturn, 1, 81)]
theorem hX10_back : ∀ q ∈ eX10_back, decode cX10_back q.1 = .ok (q.2.1, q.2.2.1) ∧ q.1 + q.2.2.1 = q.2.2.2 := by decide +kernel
theorem dX10_back (i : Nat) {pc : Nat} {ins : Instr} {len pc' : Nat} (hi : eX10_back[i]? = some (pc, ins, len, pc')) : q_d cX10_back pc ins len pc' := q_dt hX10_back i hi
abbrev MX10_sheet : MM := (yX10_sheet, cX10_sheet, 5, some .int)
def eX10_sheet : List (Nat × Instr × Nat × Nat) := [(0, .iload_n 1, 1, 1), (1, .iconst 0, 1, 2), (2, .iconst 3, 1, 3), (3, .invokestatic 101, 3, 6), (6, .ifCond .eq 23, 3, 9), (9, .iload_n 2, 1, 10), (10, .iconst (-1), 1, 11), (11, .iconst 2, 1, 12), (12, .invokestatic 101, 3, 15), (15, .ifCond .eq 14, 3, 18), (18, .iload_n 2, 1, 19), (19, .iconst (-1), 1, 20), (20, .if_icmp .eq 12, 3, 23), (23, .iload_n 3, 1, 24), (24, .bipush 40, 2, 26), (26, .if_icmp .le 6, 3, 29), (29, .bipush (-2), 2, 31), (31, .ireturn, 1, 32), (32, .iload_n 2, 1, 33), (33, .iconst (-1), 1, 34), (34, .if_icmp .eq 10, 3, 37), (37, .iload_n 3, 1, 38), (38, .ifCond .ge 6, 3, 41), (41, .bipush (-14), 2, 43), (43, .ireturn, 1, 44), (44, .aload_n 0, 1, 45), (45, .getfield 41, 3, 48), (48, .iload_n 1, 1, 49), (49, .iload_n 2, 1, 50), (50, .iastore, 1, 51), (51, .aload_n 0, 1, 52), (52, .getfield 44, 3, 55), (55, .iload_n 1, 1, 56), (56, .iload_n 2, 1, 57), (57, .iconst (-1), 1, 58), (58, .if_icmp .ne 7, 3, 61), (61, .iconst 0, 1, 62), (62, .goto 4, 3, 65), (65, .iload_n 3, 1, 66), (66, .iastore, 1, 67), (67, .iconst 0, 1, 68), (68, .istore 4, 2, 70), (70, .iload 4, 2, 72), (72, .bipush 40, 2, 74), (74, .if_icmp .ge 22, 3, 77), (77, .aload_n 0, 1, 78), (78, .getfield 47, 3, 81), (81, .bipush 40, 2, 83), (83, .iload_n 1, 1, 84), (84, .imul, 1, 85), (85, .iload 4, 2, 87), (87, .iadd, 1, 88), (88, .iconst 0, 1, 89), (89, .iastore, 1, 90), (90, .iinc 4 1, 3, 93), (93, .goto (-23), 3, 96), (96, .iconst 1, 1, 97), (97, .ireturn, 1, 98)]
theorem hX10_sheet : ∀ q ∈ eX10_sheet, decode cX10_sheet q.1 = .ok (q.2.1, q.2.2.1) ∧ q.1 + q.2.2.1 = q.2.2.2 := by decide +kernel
theorem dX10_sheet (i : Nat) {pc : Nat} {ins : Instr} {len pc' : Nat} (hi : eX10_sheet[i]? = some (pc, ins, len, pc')) : q_d cX10_sheet pc ins len pc' := q_dt hX10_sheet i hi
abbrev MX10_cell : MM := (yX10_cell, cX10_cell, 4, some .int)
def eX10_cell : List (Nat × Instr × Nat × Nat) := [(0, .iload_n 1, 1, 1), (1, .iconst 0, 1, 2), (2, .iconst 3, 1, 3), (3, .invokestatic 101, 3, 6), (6, .ifCond .ne 6, 3, 9), (9, .bipush (-2), 2, 11), (11, .ireturn, 1, 12), (12, .aload_n 0, 1, 13), (13, .getfield 41, 3, 16), (16, .iload_n 1, 1, 17), (17, .iaload, 1, 18), (18, .iconst (-1), 1, 19), (19, .if_icmp .ne 6, 3, 22), (22, .bipush (-11), 2, 24), (24, .ireturn, 1, 25), (25, .iload_n 2, 1, 26), (26, .iconst 0, 1, 27), (27, .aload_n 0, 1, 28), (28, .getfield 44, 3, 31), (31, .iload_n 1, 1, 32), (32, .iaload, 1, 33), (33, .iconst 1, 1, 34), (34, .isub, 1, 35), (35, .invokestatic 101, 3, 38), (38, .ifCond .ne 6, 3, 41), (41, .bipush (-12), 2, 43), (43, .ireturn, 1, 44), (44, .aload_n 0, 1, 45), (45, .getfield 47, 3, 48), (48, .bipush 40, 2, 50), (50, .iload_n 1, 1, 51), (51, .imul, 1, 52), (52, .iload_n 2, 1, 53), (53, .iadd, 1, 54), (54, .aload_n 0, 1, 55), (55, .getfield 41, 3, 58), (58, .iload_n 1, 1, 59), (59, .iaload, 1, 60), (60, .ifCond .ne 8, 3, 63), (63, .iload_n 3, 1, 64), (64, .i2b, 1, 65), (65, .goto 19, 3, 68), (68, .aload_n 0, 1, 69), (69, .getfield 41, 3, 72), (72, .iload_n 1, 1, 73), (73, .iaload, 1, 74), (74, .iconst 1, 1, 75), (75, .if_icmp .ne 8, 3, 78), (78, .iload_n 3, 1, 79), (79, .i2s, 1, 80), (80, .goto 4, 3, 83), (83, .iload_n 3, 1, 84), (84, .iastore, 1, 85), (85, .iconst 1, 1, 86), (86, .ireturn, 1, 87)]
theorem hX10_cell : ∀ q ∈ eX10_cell, decode cX10_cell q.1 = .ok (q.2.1, q.2.2.1) ∧ q.1 + q.2.2.1 = q.2.2.2 := by decide +kernel
theorem dX10_cell (i : Nat) {pc : Nat} {ins : Instr} {len pc' : Nat} (hi : eX10_cell[i]? = some (pc, ins, len, pc')) : q_d cX10_cell pc ins len pc' := q_dt hX10_cell i hi
abbrev MX10_copy : MM := (yX10_copy, cX10_copy, 10, some .int)
def eX10_copy_0 : List (Nat × Instr × Nat × Nat) := [(0, .iload_n 1, 1, 1), (1, .iconst 0, 1, 2), (2, .iconst 3, 1, 3), (3, .invokestatic 101, 3, 6), (6, .ifCond .eq 12, 3, 9), (9, .iload_n 3, 1, 10), (10, .iconst 0, 1, 11), (11, .iconst 3, 1, 12), (12, .invokestatic 101, 3, 15), (15, .ifCond .ne 6, 3, 18), (18, .bipush (-2), 2, 20), (20, .ireturn, 1, 21), (21, .aload_n 0, 1, 22), (22, .getfield 41, 3, 25), (25, .iload_n 1, 1, 26), (26, .iaload, 1, 27), (27, .iconst (-1), 1, 28), (28, .if_icmp .eq 13, 3, 31), (31, .aload_n 0, 1, 32), (32, .getfield 41, 3, 35), (35, .iload_n 3, 1, 36), (36, .iaload, 1, 37), (37, .iconst (-1), 1, 38), (38, .if_icmp .ne 6, 3, 41), (41, .bipush (-11), 2, 43), (43, .ireturn, 1, 44), (44, .aload_n 0, 1, 45), (45, .getfield 41, 3, 48), (48, .iload_n 1, 1, 49), (49, .iaload, 1, 50), (50, .aload_n 0, 1, 51), (51, .getfield 41, 3, 54), (54, .iload_n 3, 1, 55), (55, .iaload, 1, 56), (56, .if_icmp .eq 6, 3, 59), (59, .bipush (-13), 2, 61), (61, .ireturn, 1, 62), (62, .iload 5, 2, 64), (64, .ifCond .lt 60, 3, 67), (67, .iload_n 2, 1, 68), (68, .ifCond .lt 56, 3, 71), (71, .iload 4, 2, 73), (73, .ifCond .lt 51, 3, 76), (76, .iload_n 2, 1, 77), (77, .aload_n 0, 1, 78), (78, .getfield 44, 3, 81), (81, .iload_n 1, 1, 82), (82, .iaload, 1, 83), (83, .if_icmp .gt 41, 3, 86), (86, .iload 4, 2, 88), (88, .aload_n 0, 1, 89), (89, .getfield 44, 3, 92), (92, .iload_n 3, 1, 93), (93, .iaload, 1, 94), (94, .if_icmp .gt 30, 3, 97), (97, .iload 5, 2, 99), (99, .aload_n 0, 1, 100), (100, .getfield 44, 3, 103), (103, .iload_n 1, 1, 104), (104, .iaload, 1, 105)]
theorem hX10_copy_0 : ∀ q ∈ eX10_copy_0, decode cX10_copy q.1 = .ok (q.2.1, q.2.2.1) ∧ q.1 + q.2.2.1 = q.2.2.2 := by decide +kernel
theorem dX10_copy_0 (i : Nat) {pc : Nat} {ins : Instr} {len pc' : Nat} (hi : eX10_copy_0[i]? = some (pc, ins, len, pc')) : q_d cX10_copy pc ins len pc' := q_dt hX10_copy_0 i hi
def eX10_copy_1 : List (Nat × Instr × Nat × Nat) := [(105, .iload_n 2, 1, 106), (106, .isub, 1, 107), (107, .if_icmp .gt 17, 3, 110), (110, .iload 5, 2, 112), (112, .aload_n 0, 1, 113), (113, .getfield 44, 3, 116), (116, .iload_n 3, 1, 117), (117, .iaload, 1, 118), (118, .iload 4, 2, 120), (120, .isub, 1, 121), (121, .if_icmp .le 6, 3, 124), (124, .bipush (-12), 2, 126), (126, .ireturn, 1, 127), (127, .bipush 40, 2, 129), (129, .iload_n 1, 1, 130), (130, .imul, 1, 131), (131, .iload_n 2, 1, 132), (132, .iadd, 1, 133), (133, .istore 6, 2, 135), (135, .bipush 40, 2, 137), (137, .iload_n 3, 1, 138), (138, .imul, 1, 139), (139, .iload 4, 2, 141), (141, .iadd, 1, 142), (142, .istore 7, 2, 144), (144, .iconst 0, 1, 145), (145, .istore 8, 2, 147), (147, .iload 8, 2, 149), (149, .iload 5, 2, 151), (151, .if_icmp .ge 50, 3, 154), (154, .iload 6, 2, 156), (156, .iload 7, 2, 158), (158, .if_icmp .ge 13, 3, 161), (161, .iload 5, 2, 163), (163, .iconst 1, 1, 164), (164, .isub, 1, 165), (165, .iload 8, 2, 167), (167, .isub, 1, 168), (168, .goto 5, 3, 171), (171, .iload 8, 2, 173), (173, .istore 9, 2, 175), (175, .aload_n 0, 1, 176), (176, .getfield 47, 3, 179), (179, .iload 7, 2, 181), (181, .iload 9, 2, 183), (183, .iadd, 1, 184), (184, .aload_n 0, 1, 185), (185, .getfield 47, 3, 188), (188, .iload 6, 2, 190), (190, .iload 9, 2, 192), (192, .iadd, 1, 193), (193, .iaload, 1, 194), (194, .iastore, 1, 195), (195, .iinc 8 1, 3, 198), (198, .goto (-51), 3, 201), (201, .iload 5, 2, 203), (203, .ireturn, 1, 204)]
theorem hX10_copy_1 : ∀ q ∈ eX10_copy_1, decode cX10_copy q.1 = .ok (q.2.1, q.2.2.1) ∧ q.1 + q.2.2.1 = q.2.2.2 := by decide +kernel
theorem dX10_copy_1 (i : Nat) {pc : Nat} {ins : Instr} {len pc' : Nat} (hi : eX10_copy_1[i]? = some (pc, ins, len, pc')) : q_d cX10_copy pc ins len pc' := q_dt hX10_copy_1 i hi
abbrev MX10_linesBy : MM := (yX10_linesBy, cX10_linesBy, 9, some .int)
def eX10_linesBy_0 : List (Nat × Instr × Nat × Nat) := [(0, .iload_n 1, 1, 1), (1, .iconst 0, 1, 2), (2, .iconst 3, 1, 3), (3, .invokestatic 101, 3, 6), (6, .ifCond .eq 23, 3, 9), (9, .iload_n 2, 1, 10), (10, .iconst 0, 1, 11), (11, .iconst 2, 1, 12), (12, .invokestatic 101, 3, 15), (15, .ifCond .eq 14, 3, 18), (18, .iload 4, 2, 20), (20, .iconst 0, 1, 21), (21, .bipush 10, 2, 23), (23, .invokestatic 101, 3, 26), (26, .ifCond .ne 6, 3, 29), (29, .bipush (-2), 2, 31), (31, .ireturn, 1, 32), (32, .aload_n 0, 1, 33), (33, .getfield 41, 3, 36), (36, .iload_n 1, 1, 37), (37, .iaload, 1, 38), (38, .iconst (-1), 1, 39), (39, .if_icmp .ne 6, 3, 42), (42, .bipush (-11), 2, 44), (44, .ireturn, 1, 45), (45, .aload_n 0, 1, 46), (46, .getfield 41, 3, 49), (49, .iload_n 1, 1, 50), (50, .iaload, 1, 51), (51, .iload_n 2, 1, 52), (52, .if_icmp .eq 6, 3, 55), (55, .bipush (-13), 2, 57), (57, .ireturn, 1, 58), (58, .iconst 0, 1, 59), (59, .istore 5, 2, 61), (61, .iconst 0, 1, 62), (62, .istore 6, 2, 64), (64, .iload 6, 2, 66), (66, .iload 4, 2, 68), (68, .if_icmp .ge 85, 3, 71), (71, .iload_n 3, 1, 72), (72, .iconst 2, 1, 73), (73, .iload 6, 2, 75), (75, .imul, 1, 76), (76, .iadd, 1, 77), (77, .istore 7, 2, 79), (79, .iload_n 3, 1, 80), (80, .ifCond .lt 22, 3, 83), (83, .iload 7, 2, 85), (85, .iload_n 3, 1, 86), (86, .if_icmp .lt 16, 3, 89), (89, .iload 7, 2, 91), (91, .aload_n 0, 1, 92), (92, .getfield 44, 3, 95), (95, .iload_n 1, 1, 96), (96, .iaload, 1, 97), (97, .iconst 2, 1, 98), (98, .isub, 1, 99), (99, .if_icmp .le 6, 3, 102), (102, .bipush (-12), 2, 104)]
theorem hX10_linesBy_0 : ∀ q ∈ eX10_linesBy_0, decode cX10_linesBy q.1 = .ok (q.2.1, q.2.2.1) ∧ q.1 + q.2.2.1 = q.2.2.2 := by decide +kernel
theorem dX10_linesBy_0 (i : Nat) {pc : Nat} {ins : Instr} {len pc' : Nat} (hi : eX10_linesBy_0[i]? = some (pc, ins, len, pc')) : q_d cX10_linesBy pc ins len pc' := q_dt hX10_linesBy_0 i hi
def eX10_linesBy_1 : List (Nat × Instr × Nat × Nat) := [(104, .ireturn, 1, 105), (105, .bipush 40, 2, 107), (107, .iload_n 1, 1, 108), (108, .imul, 1, 109), (109, .iload 7, 2, 111), (111, .iadd, 1, 112), (112, .istore 8, 2, 114), (114, .iload 5, 2, 116), (116, .aload_n 0, 1, 117), (117, .aload_n 0, 1, 118), (118, .getfield 47, 3, 121), (121, .iload 8, 2, 123), (123, .iaload, 1, 124), (124, .aload_n 0, 1, 125), (125, .getfield 47, 3, 128), (128, .iload 8, 2, 130), (130, .iconst 1, 1, 131), (131, .iadd, 1, 132), (132, .iaload, 1, 133), (133, .invokevirtual 308, 3, 136), (136, .ifCond .lt 7, 3, 139), (139, .iconst 1, 1, 140), (140, .goto 4, 3, 143), (143, .iconst 0, 1, 144), (144, .iadd, 1, 145), (145, .istore 5, 2, 147), (147, .iinc 6 1, 3, 150), (150, .goto (-86), 3, 153), (153, .iload 5, 2, 155), (155, .ireturn, 1, 156)]
theorem hX10_linesBy_1 : ∀ q ∈ eX10_linesBy_1, decode cX10_linesBy q.1 = .ok (q.2.1, q.2.2.1) ∧ q.1 + q.2.2.1 = q.2.2.2 := by decide +kernel
theorem dX10_linesBy_1 (i : Nat) {pc : Nat} {ins : Instr} {len pc' : Nat} (hi : eX10_linesBy_1[i]? = some (pc, ins, len, pc')) : q_d cX10_linesBy pc ins len pc' := q_dt hX10_linesBy_1 i hi
abbrev MX10_isUnder : MM := (yX10_isUnder, cX10_isUnder, 2, some .boolean)
def eX10_isUnder : List (Nat × Instr × Nat × Nat) := [(0, .iload_n 1, 1, 1), (1, .ifCond .eq 33, 3, 4), (4, .iload_n 0, 1, 5), (5, .iload_n 1, 1, 6), (6, .if_icmp .eq 28, 3, 9), (9, .iload_n 1, 1, 10), (10, .iconst 1, 1, 11), (11, .if_icmp .ne 8, 3, 14), (14, .iload_n 0, 1, 15), (15, .iconst 4, 1, 16), (16, .if_icmp .eq 18, 3, 19), (19, .iload_n 1, 1, 20), (20, .iconst 2, 1, 21), (21, .if_icmp .ne 17, 3, 24), (24, .iload_n 0, 1, 25), (25, .iconst 3, 1, 26), (26, .if_icmp .eq 8, 3, 29), (29, .iload_n 0, 1, 30), (30, .iconst 5, 1, 31), (31, .if_icmp .ne 7, 3, 34), (34, .iconst 1, 1, 35), (35, .goto 4, 3, 38), (38, .iconst 0, 1, 39), (39, .ireturn, 1, 40)]
theorem hX10_isUnder : ∀ q ∈ eX10_isUnder, decode cX10_isUnder q.1 = .ok (q.2.1, q.2.2.1) ∧ q.1 + q.2.2.1 = q.2.2.2 := by decide +kernel
theorem dX10_isUnder (i : Nat) {pc : Nat} {ins : Instr} {len pc' : Nat} (hi : eX10_isUnder[i]? = some (pc, ins, len, pc')) : q_d cX10_isUnder pc ins len pc' := q_dt hX10_isUnder i hi
abbrev MX10_taken : MM := (yX10_taken, cX10_taken, 3, some .int)
def eX10_taken_0 : List (Nat × Instr × Nat × Nat) := [(0, .iload_n 2, 1, 1), (1, .iconst 0, 1, 2), (2, .bipush 6, 2, 4), (4, .invokestatic 101, 3, 7), (7, .ifCond .ne 6, 3, 10), (10, .bipush (-2), 2, 12), (12, .ireturn, 1, 13), (13, .iload_n 1, 1, 14), (14, .iconst 0, 1, 15), (15, .bipush 21, 2, 17), (17, .invokestatic 101, 3, 20), (20, .ifCond .ne 6, 3, 23), (23, .bipush (-12), 2, 25), (25, .ireturn, 1, 26), (26, .iload_n 1, 1, 27), (27, .bipush 10, 2, 29), (29, .if_icmp .ge 34, 3, 32), (32, .iload_n 1, 1, 33), (33, .aload_n 0, 1, 34), (34, .getfield 98, 3, 37), (37, .if_icmp .lt 8, 3, 40), (40, .bipush (-11), 2, 42), (42, .goto 20, 3, 45), (45, .iload_n 2, 1, 46), (46, .bipush 6, 2, 48), (48, .if_icmp .ne 12, 3, 51), (51, .aload_n 0, 1, 52), (52, .getfield 7, 3, 55), (55, .iload_n 1, 1, 56), (56, .iaload, 1, 57), (57, .goto 5, 3, 60), (60, .bipush (-13), 2, 62), (62, .ireturn, 1, 63), (63, .iload_n 1, 1, 64), (64, .bipush 10, 2, 66), (66, .isub, 1, 67), (67, .aload_n 0, 1, 68), (68, .getfield 119, 3, 71), (71, .if_icmp .lt 8, 3, 74), (74, .bipush (-11), 2, 76), (76, .goto 36, 3, 79), (79, .iload_n 2, 1, 80), (80, .bipush 6, 2, 82), (82, .if_icmp .ge 28, 3, 85), (85, .aload_n 0, 1, 86), (86, .getfield 23, 3, 89), (89, .iconst 4, 1, 90), (90, .iload_n 1, 1, 91), (91, .bipush 10, 2, 93), (93, .isub, 1, 94), (94, .imul, 1, 95), (95, .iaload, 1, 96), (96, .iload_n 2, 1, 97), (97, .invokestatic 311, 3, 100), (100, .ifCond .eq 10, 3, 103), (103, .iload_n 1, 1, 104), (104, .bipush 10, 2, 106), (106, .isub, 1, 107), (107, .goto 5, 3, 110), (110, .bipush (-13), 2, 112)]
theorem hX10_taken_0 : ∀ q ∈ eX10_taken_0, decode cX10_taken q.1 = .ok (q.2.1, q.2.2.1) ∧ q.1 + q.2.2.1 = q.2.2.2 := by decide +kernel
theorem dX10_taken_0 (i : Nat) {pc : Nat} {ins : Instr} {len pc' : Nat} (hi : eX10_taken_0[i]? = some (pc, ins, len, pc')) : q_d cX10_taken pc ins len pc' := q_dt hX10_taken_0 i hi
def eX10_taken_1 : List (Nat × Instr × Nat × Nat) := [(112, .ireturn, 1, 113)]
theorem hX10_taken_1 : ∀ q ∈ eX10_taken_1, decode cX10_taken q.1 = .ok (q.2.1, q.2.2.1) ∧ q.1 + q.2.2.1 = q.2.2.2 := by decide +kernel
theorem dX10_taken_1 (i : Nat) {pc : Nat} {ins : Instr} {len pc' : Nat} (hi : eX10_taken_1[i]? = some (pc, ins, len, pc')) : q_d cX10_taken pc ins len pc' := q_dt hX10_taken_1 i hi
theorem msX9_put : q_ms MX9_put 3 := ⟨⟨tb_124, tb_70, ⟨by decide +kernel, by decide +kernel⟩, by decide +kernel⟩, tb_123⟩
theorem msJ6_bitCount_0f7a4 : q_ms MJ6_bitCount_0f7a4 1 := ⟨⟨tb_606, tb_73, ⟨by decide +kernel, by decide +kernel⟩, by decide +kernel⟩, tb_605⟩
theorem msX9_at : q_ms MX9_at 2 := ⟨⟨tb_111, tb_70, ⟨by decide +kernel, by decide +kernel⟩, by decide +kernel⟩, tb_110⟩
theorem msX3_had : q_mv MX3_had 2 := ⟨⟨tb_759, tb_74, ⟨by decide +kernel, by decide +kernel⟩, by decide +kernel⟩, tb_757, tb_758⟩
theorem msX0_holds : q_ms MX0_holds 5 := ⟨⟨tb_769, tb_75, ⟨by decide +kernel, by decide +kernel⟩, by decide +kernel⟩, tb_768⟩
theorem msX6_joined : q_ms MX6_joined 3 := ⟨⟨tb_704, tb_76, ⟨by decide +kernel, by decide +kernel⟩, by decide +kernel⟩, tb_703⟩
theorem msX6_valueOf : q_mv MX6_valueOf 2 := ⟨⟨tb_701, tb_76, ⟨by decide +kernel, by decide +kernel⟩, by decide +kernel⟩, tb_700, tb_20⟩
theorem msX3_signsOf : q_mv MX3_signsOf 1 := ⟨⟨tb_639, tb_74, ⟨by decide +kernel, by decide +kernel⟩, by decide +kernel⟩, tb_637, tb_638⟩
theorem msX3_priceOf : q_mv MX3_priceOf 1 := ⟨⟨tb_644, tb_74, ⟨by decide +kernel, by decide +kernel⟩, by decide +kernel⟩, tb_642, tb_643⟩
theorem msX6_says : q_mv MX6_says 7 := ⟨⟨tb_696, tb_76, ⟨by decide +kernel, by decide +kernel⟩, by decide +kernel⟩, tb_694, tb_695⟩
theorem msX7_partOf : q_mv MX7_partOf 2 := ⟨⟨tb_627, tb_71, ⟨by decide +kernel, by decide +kernel⟩, by decide +kernel⟩, tb_625, tb_626⟩
theorem msX1_clear : q_ms MX1_clear 1 := ⟨⟨tb_742, tb_83, ⟨by decide +kernel, by decide +kernel⟩, by decide +kernel⟩, tb_741⟩
theorem msX1_allow : q_mv MX1_allow 3 := ⟨⟨tb_746, tb_83, ⟨by decide +kernel, by decide +kernel⟩, by decide +kernel⟩, tb_745, tb_23⟩
theorem msX1_isLawful : q_mv MX1_isLawful 2 := ⟨⟨tb_755, tb_83, ⟨by decide +kernel, by decide +kernel⟩, by decide +kernel⟩, tb_754, tb_24⟩
theorem msX0_brokenIn : q_mv MX0_brokenIn 2 := ⟨⟨tb_764, tb_75, ⟨by decide +kernel, by decide +kernel⟩, by decide +kernel⟩, tb_762, tb_763⟩
theorem msX1_take : q_mv MX1_take 3 := ⟨⟨tb_774, tb_83, ⟨by decide +kernel, by decide +kernel⟩, by decide +kernel⟩, tb_773, tb_25⟩
theorem msX1_meaning : q_mv MX1_meaning 2 := ⟨⟨tb_798, tb_83, ⟨by decide +kernel, by decide +kernel⟩, by decide +kernel⟩, tb_796, tb_797⟩
theorem msX1_having : q_mv MX1_having 2 := ⟨⟨tb_837, tb_83, ⟨by decide +kernel, by decide +kernel⟩, by decide +kernel⟩, tb_835, tb_836⟩
theorem msX1_tongueOf : q_mv MX1_tongueOf 1 := ⟨⟨tb_786, tb_83, ⟨by decide +kernel, by decide +kernel⟩, by decide +kernel⟩, tb_784, tb_785⟩
theorem msX9_within : q_ms MX9_within 3 := ⟨⟨tb_283, tb_70, ⟨by decide +kernel, by decide +kernel⟩, by decide +kernel⟩, tb_282⟩
theorem msX9_isParts : q_ms MX9_isParts 1 := ⟨⟨tb_602, tb_70, ⟨by decide +kernel, by decide +kernel⟩, by decide +kernel⟩, tb_601⟩
theorem msX7_partsOf : q_mv MX7_partsOf 2 := ⟨⟨tb_623, tb_71, ⟨by decide +kernel, by decide +kernel⟩, by decide +kernel⟩, tb_621, tb_622⟩
theorem msX4_sortOf : q_mv MX4_sortOf 1 := ⟨⟨tb_978, tb_86, ⟨by decide +kernel, by decide +kernel⟩, by decide +kernel⟩, tb_976, tb_977⟩
theorem msX5_isLetter : q_ms MX5_isLetter 1 := ⟨⟨tb_280, tb_77, ⟨by decide +kernel, by decide +kernel⟩, by decide +kernel⟩, tb_279⟩
theorem msX5_isDigit : q_ms MX5_isDigit 1 := ⟨⟨tb_286, tb_77, ⟨by decide +kernel, by decide +kernel⟩, by decide +kernel⟩, tb_285⟩
theorem msJ0_coder_7d493 : q_mv MJ0_coder_7d493 0 := ⟨⟨tb_216, tb_78, ⟨by decide +kernel, by decide +kernel⟩, by decide +kernel⟩, tb_214, tb_215⟩
theorem msJ3_checkIndex_8e157 : q_ms MJ3_checkIndex_8e157 3 := ⟨⟨tb_237, tb_80, ⟨by decide +kernel, by decide +kernel⟩, by decide +kernel⟩, tb_236⟩
theorem msJ0_checkIndex_df160 : q_ms MJ0_checkIndex_df160 2 := ⟨⟨tb_232, tb_78, ⟨by decide +kernel, by decide +kernel⟩, by decide +kernel⟩, tb_231⟩
theorem msJ0_isLatin1_aae02 : q_mv MJ0_isLatin1_aae02 0 := ⟨⟨tb_226, tb_78, ⟨by decide +kernel, by decide +kernel⟩, by decide +kernel⟩, tb_224, tb_225⟩
theorem msJ1_charAt_3b067 : q_ms MJ1_charAt_3b067 2 := ⟨⟨tb_229, tb_79, ⟨by decide +kernel, by decide +kernel⟩, by decide +kernel⟩, tb_228⟩
theorem msJ0_length_8abf5 : q_mv MJ0_length_8abf5 0 := ⟨⟨tb_212, tb_78, ⟨by decide +kernel, by decide +kernel⟩, by decide +kernel⟩, tb_210, tb_211⟩
theorem msJ0_charAt_5068e : q_mv MJ0_charAt_5068e 1 := ⟨⟨tb_222, tb_78, ⟨by decide +kernel, by decide +kernel⟩, by decide +kernel⟩, tb_220, tb_221⟩
theorem msX5_spells : q_mv MX5_spells 3 := ⟨⟨tb_299, tb_77, ⟨by decide +kernel, by decide +kernel⟩, by decide +kernel⟩, tb_298, tb_4⟩
theorem msJ1_canEncode_9a6ad : q_ms MJ1_canEncode_9a6ad 1 := ⟨⟨tb_332, tb_79, ⟨by decide +kernel, by decide +kernel⟩, by decide +kernel⟩, tb_331⟩
theorem msJ1_indexOfChar_4cfef : q_ms MJ1_indexOfChar_4cfef 4 := ⟨⟨tb_339, tb_79, ⟨by decide +kernel, by decide +kernel⟩, by decide +kernel⟩, tb_338⟩
theorem msJ1_indexOf_4cfef : q_ms MJ1_indexOf_4cfef 4 := ⟨⟨tb_329, tb_79, ⟨by decide +kernel, by decide +kernel⟩, by decide +kernel⟩, tb_328⟩
theorem msJ0_indexOf_7cf53 : q_mv MJ0_indexOf_7cf53 2 := ⟨⟨tb_325, tb_78, ⟨by decide +kernel, by decide +kernel⟩, by decide +kernel⟩, tb_323, tb_324⟩
theorem msJ0_indexOf_0f7a4 : q_mv MJ0_indexOf_0f7a4 1 := ⟨⟨tb_321, tb_78, ⟨by decide +kernel, by decide +kernel⟩, by decide +kernel⟩, tb_319, tb_320⟩
theorem msX5_value : q_mv MX5_value 2 := ⟨⟨tb_316, tb_77, ⟨by decide +kernel, by decide +kernel⟩, by decide +kernel⟩, tb_315, tb_5⟩
theorem msX5_word : q_mv MX5_word 2 := ⟨⟨tb_294, tb_77, ⟨by decide +kernel, by decide +kernel⟩, by decide +kernel⟩, tb_293, tb_3⟩
theorem msX5_isBlank : q_ms MX5_isBlank 1 := ⟨⟨tb_273, tb_77, ⟨by decide +kernel, by decide +kernel⟩, by decide +kernel⟩, tb_272⟩
theorem msX5_endOf : q_mv MX5_endOf 1 := ⟨⟨tb_277, tb_77, ⟨by decide +kernel, by decide +kernel⟩, by decide +kernel⟩, tb_276, tb_1⟩
theorem msX5_tokenOf : q_mv MX5_tokenOf 2 := ⟨⟨tb_290, tb_77, ⟨by decide +kernel, by decide +kernel⟩, by decide +kernel⟩, tb_289, tb_2⟩
theorem msX6_token : q_mv MX6_token 0 := ⟨⟨tb_386, tb_76, ⟨by decide +kernel, by decide +kernel⟩, by decide +kernel⟩, tb_385, tb_8⟩
theorem msX6_readNot : q_mv MX6_readNot 1 := ⟨⟨tb_399, tb_76, ⟨by decide +kernel, by decide +kernel⟩, by decide +kernel⟩, tb_398, tb_11⟩
theorem msX6_pass : q_mv MX6_pass 1 := ⟨⟨tb_382, tb_76, ⟨by decide +kernel, by decide +kernel⟩, by decide +kernel⟩, tb_381, tb_7⟩
theorem msX6_write : q_mv MX6_write 1 := ⟨⟨tb_419, tb_76, ⟨by decide +kernel, by decide +kernel⟩, by decide +kernel⟩, tb_418, tb_16⟩
theorem msX6_readBoth : q_mv MX6_readBoth 1 := ⟨⟨tb_395, tb_76, ⟨by decide +kernel, by decide +kernel⟩, by decide +kernel⟩, tb_394, tb_10⟩
theorem msX6_readOne : q_mv MX6_readOne 1 := ⟨⟨tb_415, tb_76, ⟨by decide +kernel, by decide +kernel⟩, by decide +kernel⟩, tb_414, tb_15⟩
theorem msX6_readTerm : q_mv MX6_readTerm 1 := ⟨⟨tb_411, tb_76, ⟨by decide +kernel, by decide +kernel⟩, by decide +kernel⟩, tb_410, tb_14⟩
theorem msX6_readSum : q_mv MX6_readSum 1 := ⟨⟨tb_407, tb_76, ⟨by decide +kernel, by decide +kernel⟩, by decide +kernel⟩, tb_406, tb_13⟩
theorem msX6_readCompared : q_mv MX6_readCompared 1 := ⟨⟨tb_403, tb_76, ⟨by decide +kernel, by decide +kernel⟩, by decide +kernel⟩, tb_402, tb_12⟩
theorem msX6_readEither : q_mv MX6_readEither 1 := ⟨⟨tb_391, tb_76, ⟨by decide +kernel, by decide +kernel⟩, by decide +kernel⟩, tb_390, tb_9⟩
theorem msX5_cut : q_mv MX5_cut 0 := ⟨⟨tb_269, tb_77, ⟨by decide +kernel, by decide +kernel⟩, by decide +kernel⟩, tb_267, tb_268⟩
theorem msX6_readPart : q_mv MX6_readPart 2 := ⟨⟨tb_378, tb_76, ⟨by decide +kernel, by decide +kernel⟩, by decide +kernel⟩, tb_377, tb_6⟩
theorem msX5_empty : q_mv MX5_empty 0 := ⟨⟨tb_424, tb_77, ⟨by decide +kernel, by decide +kernel⟩, by decide +kernel⟩, tb_422, tb_423⟩
theorem msJ6_numberOfTrailingZeros_0f7a4 : q_ms MJ6_numberOfTrailingZeros_0f7a4 1 := ⟨⟨tb_120, tb_73, ⟨by decide +kernel, by decide +kernel⟩, by decide +kernel⟩, tb_119⟩
theorem msX7_member : q_ms MX7_member 2 := ⟨⟨tb_117, tb_71, ⟨by decide +kernel, by decide +kernel⟩, by decide +kernel⟩, tb_116⟩
theorem msX8_keepIfBetter : q_mv MX8_keepIfBetter 1 := ⟨⟨tb_895, tb_84, ⟨by decide +kernel, by decide +kernel⟩, by decide +kernel⟩, tb_894, tb_30⟩
theorem msX8_serve : q_mv MX8_serve 5 := ⟨⟨tb_891, tb_84, ⟨by decide +kernel, by decide +kernel⟩, by decide +kernel⟩, tb_890, tb_29⟩
theorem msX3_add : q_mv MX3_add 3 := ⟨⟨tb_618, tb_74, ⟨by decide +kernel, by decide +kernel⟩, by decide +kernel⟩, tb_616, tb_617⟩
theorem msX3_mayStand : q_ms MX3_mayStand 2 := ⟨⟨tb_599, tb_74, ⟨by decide +kernel, by decide +kernel⟩, by decide +kernel⟩, tb_598⟩
theorem msX9_addLine : q_mv MX9_addLine 2 := ⟨⟨tb_614, tb_70, ⟨by decide +kernel, by decide +kernel⟩, by decide +kernel⟩, tb_613, tb_17⟩
theorem msX9_isLine : q_mv MX9_isLine 1 := ⟨⟨tb_635, tb_70, ⟨by decide +kernel, by decide +kernel⟩, by decide +kernel⟩, tb_634, tb_18⟩
theorem msX9_isGuest : q_mv MX9_isGuest 1 := ⟨⟨tb_662, tb_70, ⟨by decide +kernel, by decide +kernel⟩, by decide +kernel⟩, tb_661, tb_19⟩
theorem msX9_isByte : q_ms MX9_isByte 1 := ⟨⟨tb_678, tb_70, ⟨by decide +kernel, by decide +kernel⟩, by decide +kernel⟩, tb_677⟩
theorem msX5_add : q_mv MX5_add 1 := ⟨⟨tb_260, tb_77, ⟨by decide +kernel, by decide +kernel⟩, by decide +kernel⟩, tb_258, tb_259⟩
theorem msX6_read : q_mv MX6_read 0 := ⟨⟨tb_265, tb_76, ⟨by decide +kernel, by decide +kernel⟩, by decide +kernel⟩, tb_263, tb_264⟩
theorem msX9_mayBeFact : q_mv MX9_mayBeFact 4 := ⟨⟨tb_714, tb_70, ⟨by decide +kernel, by decide +kernel⟩, by decide +kernel⟩, tb_713, tb_21⟩
theorem msX0_add : q_mv MX0_add 4 := ⟨⟨tb_718, tb_75, ⟨by decide +kernel, by decide +kernel⟩, by decide +kernel⟩, tb_716, tb_717⟩
theorem msX1_find : q_mv MX1_find 5 := ⟨⟨tb_739, tb_83, ⟨by decide +kernel, by decide +kernel⟩, by decide +kernel⟩, tb_737, tb_738⟩
theorem msX9_fitting : q_mv MX9_fitting 0 := ⟨⟨tb_735, tb_70, ⟨by decide +kernel, by decide +kernel⟩, by decide +kernel⟩, tb_734, tb_22⟩
theorem msX9_isSign : q_ms MX9_isSign 1 := ⟨⟨tb_782, tb_70, ⟨by decide +kernel, by decide +kernel⟩, by decide +kernel⟩, tb_781⟩
theorem msX9_isPart : q_ms MX9_isPart 1 := ⟨⟨tb_794, tb_70, ⟨by decide +kernel, by decide +kernel⟩, by decide +kernel⟩, tb_793⟩
theorem msX1_meaningsOf : q_mv MX1_meaningsOf 1 := ⟨⟨tb_810, tb_83, ⟨by decide +kernel, by decide +kernel⟩, by decide +kernel⟩, tb_808, tb_809⟩
theorem msX9_commonDivisor : q_ms MX9_commonDivisor 2 := ⟨⟨tb_825, tb_70, ⟨by decide +kernel, by decide +kernel⟩, by decide +kernel⟩, tb_824⟩
theorem msX9_isFractionPart : q_ms MX9_isFractionPart 1 := ⟨⟨tb_818, tb_70, ⟨by decide +kernel, by decide +kernel⟩, by decide +kernel⟩, tb_817⟩
theorem msX9_fraction : q_ms MX9_fraction 3 := ⟨⟨tb_822, tb_70, ⟨by decide +kernel, by decide +kernel⟩, by decide +kernel⟩, tb_821⟩
theorem msX1_withAll : q_mv MX1_withAll 2 := ⟨⟨tb_833, tb_83, ⟨by decide +kernel, by decide +kernel⟩, by decide +kernel⟩, tb_831, tb_832⟩
theorem msX1_partsInAny : q_mv MX1_partsInAny 1 := ⟨⟨tb_849, tb_83, ⟨by decide +kernel, by decide +kernel⟩, by decide +kernel⟩, tb_847, tb_848⟩
theorem msX1_partsInAll : q_mv MX1_partsInAll 1 := ⟨⟨tb_845, tb_83, ⟨by decide +kernel, by decide +kernel⟩, by decide +kernel⟩, tb_843, tb_844⟩
theorem msX1_withAny : q_mv MX1_withAny 2 := ⟨⟨tb_861, tb_83, ⟨by decide +kernel, by decide +kernel⟩, by decide +kernel⟩, tb_859, tb_860⟩
theorem msX9_safeLines : q_mv MX9_safeLines 2 := ⟨⟨tb_857, tb_70, ⟨by decide +kernel, by decide +kernel⟩, by decide +kernel⟩, tb_856, tb_26⟩
theorem msX8_offer : q_mv MX8_offer 3 := ⟨⟨tb_882, tb_84, ⟨by decide +kernel, by decide +kernel⟩, by decide +kernel⟩, tb_880, tb_881⟩
theorem msX9_liking : q_mv MX9_liking 3 := ⟨⟨tb_877, tb_70, ⟨by decide +kernel, by decide +kernel⟩, by decide +kernel⟩, tb_876, tb_28⟩
theorem msX8_plan : q_mv MX8_plan 3 := ⟨⟨tb_887, tb_84, ⟨by decide +kernel, by decide +kernel⟩, by decide +kernel⟩, tb_885, tb_886⟩
theorem msX9_planTonight : q_mv MX9_planTonight 1 := ⟨⟨tb_873, tb_70, ⟨by decide +kernel, by decide +kernel⟩, by decide +kernel⟩, tb_872, tb_27⟩
theorem msX3_everyLine : q_mv MX3_everyLine 0 := ⟨⟨tb_912, tb_74, ⟨by decide +kernel, by decide +kernel⟩, by decide +kernel⟩, tb_910, tb_911⟩
theorem msX9_mostLiking : q_mv MX9_mostLiking 3 := ⟨⟨tb_916, tb_70, ⟨by decide +kernel, by decide +kernel⟩, by decide +kernel⟩, tb_915, tb_31⟩
theorem msX9_teaching : q_mv MX9_teaching 2 := ⟨⟨tb_925, tb_70, ⟨by decide +kernel, by decide +kernel⟩, by decide +kernel⟩, tb_924, tb_32⟩
theorem msX1_squares : q_mv MX1_squares 3 := ⟨⟨tb_933, tb_83, ⟨by decide +kernel, by decide +kernel⟩, by decide +kernel⟩, tb_931, tb_932⟩
theorem msX3_pricesOf : q_mv MX3_pricesOf 1 := ⟨⟨tb_962, tb_74, ⟨by decide +kernel, by decide +kernel⟩, by decide +kernel⟩, tb_960, tb_961⟩
theorem msX4_read : q_mv MX4_read 2 := ⟨⟨tb_991, tb_86, ⟨by decide +kernel, by decide +kernel⟩, by decide +kernel⟩, tb_989, tb_990⟩
theorem msX9_isSheet : q_ms MX9_isSheet 1 := ⟨⟨tb_970, tb_70, ⟨by decide +kernel, by decide +kernel⟩, by decide +kernel⟩, tb_969⟩
theorem msX4_isMissing : q_mv MX4_isMissing 1 := ⟨⟨tb_974, tb_86, ⟨by decide +kernel, by decide +kernel⟩, by decide +kernel⟩, tb_972, tb_973⟩
theorem msX4_sizeOf : q_mv MX4_sizeOf 1 := ⟨⟨tb_983, tb_86, ⟨by decide +kernel, by decide +kernel⟩, by decide +kernel⟩, tb_981, tb_982⟩
theorem msX9_isMeal : q_mv MX9_isMeal 2 := ⟨⟨tb_987, tb_70, ⟨by decide +kernel, by decide +kernel⟩, by decide +kernel⟩, tb_986, tb_33⟩
theorem msX4_become : q_mv MX4_become 3 := ⟨⟨tb_999, tb_86, ⟨by decide +kernel, by decide +kernel⟩, by decide +kernel⟩, tb_997, tb_998⟩
theorem msX4_write : q_mv MX4_write 3 := ⟨⟨tb_1004, tb_86, ⟨by decide +kernel, by decide +kernel⟩, by decide +kernel⟩, tb_1002, tb_1003⟩
theorem msX1_anyBy : q_mv MX1_anyBy 4 := ⟨⟨tb_1012, tb_83, ⟨by decide +kernel, by decide +kernel⟩, by decide +kernel⟩, tb_1010, tb_1011⟩
theorem msX1_drawnBy : q_mv MX1_drawnBy 1 := ⟨⟨tb_1021, tb_83, ⟨by decide +kernel, by decide +kernel⟩, by decide +kernel⟩, tb_1019, tb_1020⟩
theorem msX4_move : q_mv MX4_move 5 := ⟨⟨tb_1053, tb_86, ⟨by decide +kernel, by decide +kernel⟩, by decide +kernel⟩, tb_1051, tb_1052⟩
theorem msX0_isOne : q_ms MX0_isOne 2 := ⟨⟨tb_1066, tb_75, ⟨by decide +kernel, by decide +kernel⟩, by decide +kernel⟩, tb_1065⟩
theorem msX10_in : q_ms MX10_in 3 := ⟨⟨tb_1085, tb_87, ⟨by decide +kernel, by decide +kernel⟩, by decide +kernel⟩, tb_1084⟩
theorem msX10_ones : q_ms MX10_ones 1 := ⟨⟨tb_1275, tb_87, ⟨by decide +kernel, by decide +kernel⟩, by decide +kernel⟩, tb_1274⟩
theorem msX10_isLine : q_mv MX10_isLine 1 := ⟨⟨tb_1283, tb_87, ⟨by decide +kernel, by decide +kernel⟩, by decide +kernel⟩, tb_1282, tb_44⟩
theorem msX10_isGuest : q_mv MX10_isGuest 1 := ⟨⟨tb_1299, tb_87, ⟨by decide +kernel, by decide +kernel⟩, by decide +kernel⟩, tb_1298, tb_45⟩
theorem msX10_isByte : q_ms MX10_isByte 1 := ⟨⟨tb_1314, tb_87, ⟨by decide +kernel, by decide +kernel⟩, by decide +kernel⟩, tb_1313⟩
theorem msX10_wordFrom : q_mv MX10_wordFrom 2 := ⟨⟨tb_1089, tb_87, ⟨by decide +kernel, by decide +kernel⟩, by decide +kernel⟩, tb_1088, tb_35⟩
theorem msX10_rank : q_ms MX10_rank 1 := ⟨⟨tb_1105, tb_87, ⟨by decide +kernel, by decide +kernel⟩, by decide +kernel⟩, tb_1104⟩
theorem msX10_puts : q_mv MX10_puts 1 := ⟨⟨tb_1098, tb_87, ⟨by decide +kernel, by decide +kernel⟩, by decide +kernel⟩, tb_1097, tb_37⟩
theorem msX10_holds : q_mv MX10_holds 1 := ⟨⟨tb_1113, tb_87, ⟨by decide +kernel, by decide +kernel⟩, by decide +kernel⟩, tb_1112, tb_40⟩
theorem msX10_unwinds : q_mv MX10_unwinds 1 := ⟨⟨tb_1102, tb_87, ⟨by decide +kernel, by decide +kernel⟩, by decide +kernel⟩, tb_1101, tb_38⟩
theorem msX10_next : q_mv MX10_next 0 := ⟨⟨tb_1082, tb_87, ⟨by decide +kernel, by decide +kernel⟩, by decide +kernel⟩, tb_1081, tb_34⟩
theorem msX10_signOf : q_mv MX10_signOf 0 := ⟨⟨tb_1117, tb_87, ⟨by decide +kernel, by decide +kernel⟩, by decide +kernel⟩, tb_1116, tb_41⟩
theorem msX10_between : q_mv MX10_between 1 := ⟨⟨tb_1121, tb_87, ⟨by decide +kernel, by decide +kernel⟩, by decide +kernel⟩, tb_1120, tb_42⟩
theorem msX10_opensOne : q_mv MX10_opensOne 1 := ⟨⟨tb_1109, tb_87, ⟨by decide +kernel, by decide +kernel⟩, by decide +kernel⟩, tb_1108, tb_39⟩
theorem msX10_eRead : q_mv MX10_eRead 0 := ⟨⟨tb_1093, tb_87, ⟨by decide +kernel, by decide +kernel⟩, by decide +kernel⟩, tb_1092, tb_36⟩
theorem msX10_bothOf : q_ms MX10_bothOf 3 := ⟨⟨tb_1334, tb_87, ⟨by decide +kernel, by decide +kernel⟩, by decide +kernel⟩, tb_1333⟩
theorem msX10_worth : q_mv MX10_worth 1 := ⟨⟨tb_1331, tb_87, ⟨by decide +kernel, by decide +kernel⟩, by decide +kernel⟩, tb_1330, tb_47⟩
theorem msX10_within : q_ms MX10_within 3 := ⟨⟨tb_1337, tb_87, ⟨by decide +kernel, by decide +kernel⟩, by decide +kernel⟩, tb_1336⟩
theorem msX10_asksOf : q_mv MX10_asksOf 5 := ⟨⟨tb_1327, tb_87, ⟨by decide +kernel, by decide +kernel⟩, by decide +kernel⟩, tb_1326, tb_46⟩
theorem msX10_isFact : q_mv MX10_isFact 4 := ⟨⟨tb_1345, tb_87, ⟨by decide +kernel, by decide +kernel⟩, by decide +kernel⟩, tb_1344, tb_48⟩
theorem msX10_lays : q_mv MX10_lays 4 := ⟨⟨tb_1349, tb_87, ⟨by decide +kernel, by decide +kernel⟩, by decide +kernel⟩, tb_1348, tb_49⟩
theorem msX10_hasIn : q_mv MX10_hasIn 2 := ⟨⟨tb_1377, tb_87, ⟨by decide +kernel, by decide +kernel⟩, by decide +kernel⟩, tb_1376, tb_53⟩
theorem msX10_mays : q_mv MX10_mays 0 := ⟨⟨tb_1369, tb_87, ⟨by decide +kernel, by decide +kernel⟩, by decide +kernel⟩, tb_1368, tb_51⟩
theorem msX10_mayBe : q_mv MX10_mayBe 1 := ⟨⟨tb_1373, tb_87, ⟨by decide +kernel, by decide +kernel⟩, by decide +kernel⟩, tb_1372, tb_52⟩
theorem msX10_holds_ : q_mv MX10_holds_ 2 := ⟨⟨tb_1381, tb_87, ⟨by decide +kernel, by decide +kernel⟩, by decide +kernel⟩, tb_1380, tb_54⟩
theorem msX10_finds : q_mv MX10_finds 0 := ⟨⟨tb_1365, tb_87, ⟨by decide +kernel, by decide +kernel⟩, by decide +kernel⟩, tb_1364, tb_50⟩
theorem msX10_isSign : q_ms MX10_isSign 1 := ⟨⟨tb_1388, tb_87, ⟨by decide +kernel, by decide +kernel⟩, by decide +kernel⟩, tb_1387⟩
theorem msX10_partIn : q_mv MX10_partIn 2 := ⟨⟨tb_1392, tb_87, ⟨by decide +kernel, by decide +kernel⟩, by decide +kernel⟩, tb_1391, tb_55⟩
theorem msX10_meansIn : q_mv MX10_meansIn 2 := ⟨⟨tb_1400, tb_87, ⟨by decide +kernel, by decide +kernel⟩, by decide +kernel⟩, tb_1399, tb_56⟩
theorem msX10_unlikeOf : q_mv MX10_unlikeOf 1 := ⟨⟨tb_1408, tb_87, ⟨by decide +kernel, by decide +kernel⟩, by decide +kernel⟩, tb_1407, tb_57⟩
theorem msX10_lowest : q_ms MX10_lowest 3 := ⟨⟨tb_1424, tb_87, ⟨by decide +kernel, by decide +kernel⟩, by decide +kernel⟩, tb_1423⟩
theorem msX10_ofAll : q_mv MX10_ofAll 2 := ⟨⟨tb_1421, tb_87, ⟨by decide +kernel, by decide +kernel⟩, by decide +kernel⟩, tb_1420, tb_58⟩
theorem msX10_shunnedIn : q_mv MX10_shunnedIn 2 := ⟨⟨tb_1444, tb_87, ⟨by decide +kernel, by decide +kernel⟩, by decide +kernel⟩, tb_1443, tb_60⟩
theorem msX10_safeFor : q_mv MX10_safeFor 1 := ⟨⟨tb_1440, tb_87, ⟨by decide +kernel, by decide +kernel⟩, by decide +kernel⟩, tb_1439, tb_59⟩
theorem msX10_liking : q_mv MX10_liking 2 := ⟨⟨tb_1464, tb_87, ⟨by decide +kernel, by decide +kernel⟩, by decide +kernel⟩, tb_1463, tb_63⟩
theorem msX10_orders : q_mv MX10_orders 3 := ⟨⟨tb_1468, tb_87, ⟨by decide +kernel, by decide +kernel⟩, by decide +kernel⟩, tb_1467, tb_64⟩
theorem msX10_likes : q_mv MX10_likes 0 := ⟨⟨tb_1460, tb_87, ⟨by decide +kernel, by decide +kernel⟩, by decide +kernel⟩, tb_1459, tb_62⟩
theorem msX10_tonight : q_mv MX10_tonight 0 := ⟨⟨tb_1456, tb_87, ⟨by decide +kernel, by decide +kernel⟩, by decide +kernel⟩, tb_1455, tb_61⟩
theorem msX10_counts : q_mv MX10_counts 2 := ⟨⟨tb_1488, tb_87, ⟨by decide +kernel, by decide +kernel⟩, by decide +kernel⟩, tb_1487, tb_66⟩
theorem msX10_teaching : q_mv MX10_teaching 1 := ⟨⟨tb_1484, tb_87, ⟨by decide +kernel, by decide +kernel⟩, by decide +kernel⟩, tb_1483, tb_65⟩
theorem msX10_fitWithout : q_mv MX10_fitWithout 1 := ⟨⟨tb_1508, tb_87, ⟨by decide +kernel, by decide +kernel⟩, by decide +kernel⟩, tb_1507, tb_67⟩
theorem msX10_drawnOf : q_mv MX10_drawnOf 1 := ⟨⟨tb_1537, tb_87, ⟨by decide +kernel, by decide +kernel⟩, by decide +kernel⟩, tb_1536, tb_68⟩
theorem msX10_line : q_mv MX10_line 2 := ⟨⟨tb_1272, tb_87, ⟨by decide +kernel, by decide +kernel⟩, by decide +kernel⟩, tb_1270, tb_1271⟩
theorem msX10_isUnder : q_ms MX10_isUnder 2 := ⟨⟨tb_1575, tb_87, ⟨by decide +kernel, by decide +kernel⟩, by decide +kernel⟩, tb_1574⟩
end
section
def f_X9_put (ci : Nat) (N : Nat) (x1 : Int) (x2 : Int) (M : Mem) : Option (Int × Mem) :=
  if x1 < 0 then
    some (0, M)
  else
    if x1 < (N : Int) then
      if 0 ≤ x1 ∧ x1 < (N : Int) then
        some (0, (mset M ci (x1).toNat x2))
      else none
    else
      some (0, M)
set_option maxHeartbeats 4000000 in
theorem t_X9_put (l : Launch) (g : GG) (S : SW) (M : Mem) (ci : Nat) (N : Nat) {aa : Nat} (hA : S[ci]? = some (aa, .inl N)) (hN : N < 2147483648) (x1 : Int) (x2 : Int) {r : Int} {M' : Mem} (H : f_X9_put ci N x1 x2 M = some (r, M')) : CT l g MX9_put 1 0 0 S M [.inr (.inr (some aa)), .inl x1, .inl x2] (q_ex S none M') := by
  unfold f_X9_put at H
  refine CT_of (ls0 := [some (.inr (.inr (some aa))), some (.inl x1), some (.inl x2)]) (by decide +kernel) (Nat.le_of_ble_eq_true rfl) rfl ?_
  refine R_iload_n (i := 1) (dX9_put 0 rfl) rfl rfl ?_
  refine R_if_lt (tgt := 14) (dX9_put 1 rfl) (by decide) (fun hc => ?_) (fun hc => ?_)
  · have H := ite_T H hc
    exact R_vret rfl (Nat.zero_le _) (Nat.zero_le _) (dX9_put 10 rfl) ⟨rfl, rfl, (Prod.mk.inj (Option.some.inj H)).2⟩
  · have H := ite_F H hc
    refine R_iload_n (i := 1) (dX9_put 2 rfl) rfl rfl ?_
    refine R_aload_n (i := 0) (dX9_put 3 rfl) rfl rfl ?_
    refine R_alen ci hA hN (dX9_put 4 rfl) ?_
    refine R_icmp_ge (tgt := 14) (dX9_put 5 rfl) (by decide) (fun hc => ?_) (fun hc => ?_)
    · have H := ite_F H hc
      exact R_vret rfl (Nat.zero_le _) (Nat.zero_le _) (dX9_put 10 rfl) ⟨rfl, rfl, (Prod.mk.inj (Option.some.inj H)).2⟩
    · have H := ite_T H hc
      refine R_aload_n (i := 0) (dX9_put 6 rfl) rfl rfl ?_
      refine R_iload_n (i := 1) (dX9_put 7 rfl) rfl rfl ?_
      refine R_iload_n (i := 2) (dX9_put 8 rfl) rfl rfl ?_
      obtain ⟨hg, H⟩ := ite_G H
      refine R_iast ci hA hg (dX9_put 9 rfl) ?_
      exact R_vret rfl (Nat.zero_le _) (Nat.zero_le _) (dX9_put 10 rfl) ⟨rfl, rfl, (Prod.mk.inj (Option.some.inj H)).2⟩
theorem f_put_eq (ci N : Nat) (i v : Int) (M : Mem) : f_X9_put ci N i v M = some (0, wr M ci N i v) := by
  unfold f_X9_put wr
  by_cases h1 : i < 0
  · rw [if_pos h1, if_neg (by omega)]
  · rw [if_neg h1]
    by_cases h2 : i < (N : Int)
    · rw [if_pos h2, if_pos (by omega), if_pos (by omega)]
    · rw [if_neg h2, if_neg (by omega)]
theorem t_put (l : Launch) (g : GG) (S : SW) (M : Mem) (ci : Nat) {N aa : Nat} (hA : S[ci]? = some (aa, .inl N)) (hN : N < 2147483648) (i v : Int) : CT l g MX9_put 1 0 0 S M [.inr (.inr (some aa)), .inl i, .inl v] (q_ex S none (wr M ci N i v)) := t_X9_put l g S M ci N hA hN i v (f_put_eq ci N i v M)
def f_X0_add (x1 : Int) (x2 : Int) (x3 : Int) (x4 : Int) (M : Mem) : Option (Int × Mem) :=
  some (M 7 4, (mset (wr (wr (wr (wr M 8 12 (M 7 4) x1) 9 12 (M 7 4) x2) 10 12 (M 7 4) x3) 11 12 (M 7 4) x4) 7 4 (w32 (((wr (wr (wr (wr M 8 12 (M 7 4) x1) 9 12 (M 7 4) x2) 10 12 (M 7 4) x3) 11 12 (M 7 4) x4) 7 4) + 1))))
set_option maxHeartbeats 4000000 in
theorem t_X0_add (l : Launch) (g : GG) (ad : Nat → Nat) (S : SW) (M : Mem) (hS : q_ag 0 38 ad S) (x1 : Int) (x2 : Int) (x3 : Int) (x4 : Int) {r : Int} {M' : Mem} (H : f_X0_add x1 x2 x3 x4 M = some (r, M')) : CT l g MX0_add 2 0 0 S M [.inr (.inr (some (ad 7))), .inl x1, .inl x2, .inl x3, .inl x4] (q_ex S (some (.inl r)) M') := by
  unfold f_X0_add at H
  refine CT_of (ls0 := [some (.inr (.inr (some (ad 7)))), some (.inl x1), some (.inl x2), some (.inl x3), some (.inl x4), none]) (by decide +kernel) (Nat.le_of_ble_eq_true rfl) rfl ?_
  refine R_aload_n (i := 0) (dX0_add 0 rfl) rfl rfl ?_
  refine R_getI cgX0 7 (cl7 hS) 4 (Nat.le_of_ble_eq_true rfl) rfl (Or.inl tb_167) (dX0_add 1 rfl) ?_
  refine R_istore (i := 5) (ls' := [some (.inr (.inr (some (ad 7)))), some (.inl x1), some (.inl x2), some (.inl x3), some (.inl x4), some (.inl (M 7 4))]) (dX0_add 2 rfl) (Nat.le_of_ble_eq_true rfl) (Nat.le_of_ble_eq_true rfl) rfl rfl ?_
  refine R_aload_n (i := 0) (dX0_add 3 rfl) rfl rfl ?_
  refine R_getR cgX0 7 (cl7 hS) 0 (Nat.le_of_ble_eq_true rfl) rfl (Or.inl tb_159) (dX0_add 4 rfl) ?_
  refine R_iload (i := 5) (dX0_add 5 rfl) rfl ?_
  refine R_iload_n (i := 1) (dX0_add 6 rfl) rfl rfl ?_
  refine R_cS (st' := []) [.inr (.inr (some (ad 8))), .inl (M 7 4), .inl x1] [] (t_put l g S _ 8 (cl8 hS) (Nat.le_of_ble_eq_true rfl) (M 7 4) x1) msX9_put (Or.inr ⟨_, tb_719⟩) ⟨Nat.le_of_ble_eq_true rfl, Nat.le_of_ble_eq_true rfl⟩ (Nat.zero_le _) (Nat.zero_le _) rfl rfl (Nat.le_of_ble_eq_true rfl) rfl (dX0_add 7 rfl) ?_
  refine R_aload_n (i := 0) (dX0_add 8 rfl) rfl rfl ?_
  refine R_getR cgX0 7 (cl7 hS) 1 (Nat.le_of_ble_eq_true rfl) rfl (Or.inl tb_161) (dX0_add 9 rfl) ?_
  refine R_iload (i := 5) (dX0_add 10 rfl) rfl ?_
  refine R_iload_n (i := 2) (dX0_add 11 rfl) rfl rfl ?_
  refine R_cS (st' := []) [.inr (.inr (some (ad 9))), .inl (M 7 4), .inl x2] [] (t_put l g S _ 9 (cl9 hS) (Nat.le_of_ble_eq_true rfl) (M 7 4) x2) msX9_put (Or.inr ⟨_, tb_719⟩) ⟨Nat.le_of_ble_eq_true rfl, Nat.le_of_ble_eq_true rfl⟩ (Nat.zero_le _) (Nat.zero_le _) rfl rfl (Nat.le_of_ble_eq_true rfl) rfl (dX0_add 12 rfl) ?_
  refine R_aload_n (i := 0) (dX0_add 13 rfl) rfl rfl ?_
  refine R_getR cgX0 7 (cl7 hS) 2 (Nat.le_of_ble_eq_true rfl) rfl (Or.inl tb_163) (dX0_add 14 rfl) ?_
  refine R_iload (i := 5) (dX0_add 15 rfl) rfl ?_
  refine R_iload_n (i := 3) (dX0_add 16 rfl) rfl rfl ?_
  refine R_cS (st' := []) [.inr (.inr (some (ad 10))), .inl (M 7 4), .inl x3] [] (t_put l g S _ 10 (cl10 hS) (Nat.le_of_ble_eq_true rfl) (M 7 4) x3) msX9_put (Or.inr ⟨_, tb_719⟩) ⟨Nat.le_of_ble_eq_true rfl, Nat.le_of_ble_eq_true rfl⟩ (Nat.zero_le _) (Nat.zero_le _) rfl rfl (Nat.le_of_ble_eq_true rfl) rfl (dX0_add 17 rfl) ?_
  refine R_aload_n (i := 0) (dX0_add 18 rfl) rfl rfl ?_
  refine R_getR cgX0 7 (cl7 hS) 3 (Nat.le_of_ble_eq_true rfl) rfl (Or.inl tb_165) (dX0_add 19 rfl) ?_
  refine R_iload (i := 5) (dX0_add 20 rfl) rfl ?_
  refine R_iload (i := 4) (dX0_add 21 rfl) rfl ?_
  refine R_cS (st' := []) [.inr (.inr (some (ad 11))), .inl (M 7 4), .inl x4] [] (t_put l g S _ 11 (cl11 hS) (Nat.le_of_ble_eq_true rfl) (M 7 4) x4) msX9_put (Or.inr ⟨_, tb_719⟩) ⟨Nat.le_of_ble_eq_true rfl, Nat.le_of_ble_eq_true rfl⟩ (Nat.zero_le _) (Nat.zero_le _) rfl rfl (Nat.le_of_ble_eq_true rfl) rfl (dX0_add 22 rfl) ?_
  refine R_aload_n (i := 0) (dX0_add 23 rfl) rfl rfl ?_
  refine R_dup rfl (dX0_add 24 rfl) ?_
  refine R_getI cgX0 7 (cl7 hS) 4 (Nat.le_of_ble_eq_true rfl) rfl (Or.inl tb_167) (dX0_add 25 rfl) ?_
  refine R_iconst (dX0_add 26 rfl) rfl ?_
  refine R_iadd (dX0_add 27 rfl) ?_
  refine R_putI cgX0 7 (cl7 hS) 4 (Nat.le_of_ble_eq_true rfl) rfl rfl rfl rfl (Or.inl tb_167) (dX0_add 28 rfl) ?_
  refine R_iload (i := 5) (dX0_add 29 rfl) rfl ?_
  exact R_iret rfl rfl (Nat.zero_le _) (Nat.zero_le _) (dX0_add 30 rfl) ⟨congrArg (fun z => some (Sum.inl z)) (Prod.mk.inj (Option.some.inj H)).1, rfl, (Prod.mk.inj (Option.some.inj H)).2⟩
def f_J6_bitCount_0f7a4 (x0 : Int) : Int :=
  b_and (w32 ((w32 ((b_and (w32 ((w32 ((b_and (w32 (x0 - (b_and (b_ushr x0 1) 1431655765))) 858993459) + (b_and (b_ushr (w32 (x0 - (b_and (b_ushr x0 1) 1431655765))) 2) 858993459))) + (b_ushr (w32 ((b_and (w32 (x0 - (b_and (b_ushr x0 1) 1431655765))) 858993459) + (b_and (b_ushr (w32 (x0 - (b_and (b_ushr x0 1) 1431655765))) 2) 858993459))) 4))) 252645135) + (b_ushr (b_and (w32 ((w32 ((b_and (w32 (x0 - (b_and (b_ushr x0 1) 1431655765))) 858993459) + (b_and (b_ushr (w32 (x0 - (b_and (b_ushr x0 1) 1431655765))) 2) 858993459))) + (b_ushr (w32 ((b_and (w32 (x0 - (b_and (b_ushr x0 1) 1431655765))) 858993459) + (b_and (b_ushr (w32 (x0 - (b_and (b_ushr x0 1) 1431655765))) 2) 858993459))) 4))) 252645135) 8))) + (b_ushr (w32 ((b_and (w32 ((w32 ((b_and (w32 (x0 - (b_and (b_ushr x0 1) 1431655765))) 858993459) + (b_and (b_ushr (w32 (x0 - (b_and (b_ushr x0 1) 1431655765))) 2) 858993459))) + (b_ushr (w32 ((b_and (w32 (x0 - (b_and (b_ushr x0 1) 1431655765))) 858993459) + (b_and (b_ushr (w32 (x0 - (b_and (b_ushr x0 1) 1431655765))) 2) 858993459))) 4))) 252645135) + (b_ushr (b_and (w32 ((w32 ((b_and (w32 (x0 - (b_and (b_ushr x0 1) 1431655765))) 858993459) + (b_and (b_ushr (w32 (x0 - (b_and (b_ushr x0 1) 1431655765))) 2) 858993459))) + (b_ushr (w32 ((b_and (w32 (x0 - (b_and (b_ushr x0 1) 1431655765))) 858993459) + (b_and (b_ushr (w32 (x0 - (b_and (b_ushr x0 1) 1431655765))) 2) 858993459))) 4))) 252645135) 8))) 16))) 63
set_option maxHeartbeats 4000000 in
theorem t_J6_bitCount_0f7a4 (l : Launch) (g : GG) (S : SW) (M : Mem) (x0 : Int) : CT l g MJ6_bitCount_0f7a4 1 0 0 S M [.inl x0] (q_ex S (some (.inl (f_J6_bitCount_0f7a4 x0))) M) := by
  obtain ⟨r, H⟩ : ∃ r, f_J6_bitCount_0f7a4 x0 = r := ⟨_, rfl⟩
  rw [H]
  unfold f_J6_bitCount_0f7a4 at H
  refine CT_of (ls0 := [some (.inl x0)]) (by decide +kernel) (Nat.le_of_ble_eq_true rfl) rfl ?_
  refine R_iload_n (i := 0) (dJ6_bitCount_0f7a4 0 rfl) rfl rfl ?_
  refine R_iload_n (i := 0) (dJ6_bitCount_0f7a4 1 rfl) rfl rfl ?_
  refine R_iconst (dJ6_bitCount_0f7a4 2 rfl) rfl ?_
  refine R_iushr (dJ6_bitCount_0f7a4 3 rfl) ?_
  refine R_ldcw (z := 1431655765) tb_607 rfl (dJ6_bitCount_0f7a4 4 rfl) ?_
  refine R_iand (dJ6_bitCount_0f7a4 5 rfl) ?_
  refine R_isub (dJ6_bitCount_0f7a4 6 rfl) ?_
  refine R_istore_n (i := 0) (ls' := [some (.inl (w32 (x0 - (b_and (b_ushr x0 1) 1431655765))))]) (dJ6_bitCount_0f7a4 7 rfl) rfl (Nat.le_of_ble_eq_true rfl) (Nat.le_of_ble_eq_true rfl) rfl rfl ?_
  refine R_iload_n (i := 0) (dJ6_bitCount_0f7a4 8 rfl) rfl rfl ?_
  refine R_ldcw (z := 858993459) tb_608 rfl (dJ6_bitCount_0f7a4 9 rfl) ?_
  refine R_iand (dJ6_bitCount_0f7a4 10 rfl) ?_
  refine R_iload_n (i := 0) (dJ6_bitCount_0f7a4 11 rfl) rfl rfl ?_
  refine R_iconst (dJ6_bitCount_0f7a4 12 rfl) rfl ?_
  refine R_iushr (dJ6_bitCount_0f7a4 13 rfl) ?_
  refine R_ldcw (z := 858993459) tb_608 rfl (dJ6_bitCount_0f7a4 14 rfl) ?_
  refine R_iand (dJ6_bitCount_0f7a4 15 rfl) ?_
  refine R_iadd (dJ6_bitCount_0f7a4 16 rfl) ?_
  refine R_istore_n (i := 0) (ls' := [some (.inl (w32 ((b_and (w32 (x0 - (b_and (b_ushr x0 1) 1431655765))) 858993459) + (b_and (b_ushr (w32 (x0 - (b_and (b_ushr x0 1) 1431655765))) 2) 858993459))))]) (dJ6_bitCount_0f7a4 17 rfl) rfl (Nat.le_of_ble_eq_true rfl) (Nat.le_of_ble_eq_true rfl) rfl rfl ?_
  refine R_iload_n (i := 0) (dJ6_bitCount_0f7a4 18 rfl) rfl rfl ?_
  refine R_iload_n (i := 0) (dJ6_bitCount_0f7a4 19 rfl) rfl rfl ?_
  refine R_iconst (dJ6_bitCount_0f7a4 20 rfl) rfl ?_
  refine R_iushr (dJ6_bitCount_0f7a4 21 rfl) ?_
  refine R_iadd (dJ6_bitCount_0f7a4 22 rfl) ?_
  refine R_ldcw (z := 252645135) tb_609 rfl (dJ6_bitCount_0f7a4 23 rfl) ?_
  refine R_iand (dJ6_bitCount_0f7a4 24 rfl) ?_
  refine R_istore_n (i := 0) (ls' := [some (.inl (b_and (w32 ((w32 ((b_and (w32 (x0 - (b_and (b_ushr x0 1) 1431655765))) 858993459) + (b_and (b_ushr (w32 (x0 - (b_and (b_ushr x0 1) 1431655765))) 2) 858993459))) + (b_ushr (w32 ((b_and (w32 (x0 - (b_and (b_ushr x0 1) 1431655765))) 858993459) + (b_and (b_ushr (w32 (x0 - (b_and (b_ushr x0 1) 1431655765))) 2) 858993459))) 4))) 252645135))]) (dJ6_bitCount_0f7a4 25 rfl) rfl (Nat.le_of_ble_eq_true rfl) (Nat.le_of_ble_eq_true rfl) rfl rfl ?_
  refine R_iload_n (i := 0) (dJ6_bitCount_0f7a4 26 rfl) rfl rfl ?_
  refine R_iload_n (i := 0) (dJ6_bitCount_0f7a4 27 rfl) rfl rfl ?_
  refine R_bipush (dJ6_bitCount_0f7a4 28 rfl) rfl rfl ?_
  refine R_iushr (dJ6_bitCount_0f7a4 29 rfl) ?_
  refine R_iadd (dJ6_bitCount_0f7a4 30 rfl) ?_
  refine R_istore_n (i := 0) (ls' := [some (.inl (w32 ((b_and (w32 ((w32 ((b_and (w32 (x0 - (b_and (b_ushr x0 1) 1431655765))) 858993459) + (b_and (b_ushr (w32 (x0 - (b_and (b_ushr x0 1) 1431655765))) 2) 858993459))) + (b_ushr (w32 ((b_and (w32 (x0 - (b_and (b_ushr x0 1) 1431655765))) 858993459) + (b_and (b_ushr (w32 (x0 - (b_and (b_ushr x0 1) 1431655765))) 2) 858993459))) 4))) 252645135) + (b_ushr (b_and (w32 ((w32 ((b_and (w32 (x0 - (b_and (b_ushr x0 1) 1431655765))) 858993459) + (b_and (b_ushr (w32 (x0 - (b_and (b_ushr x0 1) 1431655765))) 2) 858993459))) + (b_ushr (w32 ((b_and (w32 (x0 - (b_and (b_ushr x0 1) 1431655765))) 858993459) + (b_and (b_ushr (w32 (x0 - (b_and (b_ushr x0 1) 1431655765))) 2) 858993459))) 4))) 252645135) 8))))]) (dJ6_bitCount_0f7a4 31 rfl) rfl (Nat.le_of_ble_eq_true rfl) (Nat.le_of_ble_eq_true rfl) rfl rfl ?_
  refine R_iload_n (i := 0) (dJ6_bitCount_0f7a4 32 rfl) rfl rfl ?_
  refine R_iload_n (i := 0) (dJ6_bitCount_0f7a4 33 rfl) rfl rfl ?_
  refine R_bipush (dJ6_bitCount_0f7a4 34 rfl) rfl rfl ?_
  refine R_iushr (dJ6_bitCount_0f7a4 35 rfl) ?_
  refine R_iadd (dJ6_bitCount_0f7a4 36 rfl) ?_
  refine R_istore_n (i := 0) (ls' := [some (.inl (w32 ((w32 ((b_and (w32 ((w32 ((b_and (w32 (x0 - (b_and (b_ushr x0 1) 1431655765))) 858993459) + (b_and (b_ushr (w32 (x0 - (b_and (b_ushr x0 1) 1431655765))) 2) 858993459))) + (b_ushr (w32 ((b_and (w32 (x0 - (b_and (b_ushr x0 1) 1431655765))) 858993459) + (b_and (b_ushr (w32 (x0 - (b_and (b_ushr x0 1) 1431655765))) 2) 858993459))) 4))) 252645135) + (b_ushr (b_and (w32 ((w32 ((b_and (w32 (x0 - (b_and (b_ushr x0 1) 1431655765))) 858993459) + (b_and (b_ushr (w32 (x0 - (b_and (b_ushr x0 1) 1431655765))) 2) 858993459))) + (b_ushr (w32 ((b_and (w32 (x0 - (b_and (b_ushr x0 1) 1431655765))) 858993459) + (b_and (b_ushr (w32 (x0 - (b_and (b_ushr x0 1) 1431655765))) 2) 858993459))) 4))) 252645135) 8))) + (b_ushr (w32 ((b_and (w32 ((w32 ((b_and (w32 (x0 - (b_and (b_ushr x0 1) 1431655765))) 858993459) + (b_and (b_ushr (w32 (x0 - (b_and (b_ushr x0 1) 1431655765))) 2) 858993459))) + (b_ushr (w32 ((b_and (w32 (x0 - (b_and (b_ushr x0 1) 1431655765))) 858993459) + (b_and (b_ushr (w32 (x0 - (b_and (b_ushr x0 1) 1431655765))) 2) 858993459))) 4))) 252645135) + (b_ushr (b_and (w32 ((w32 ((b_and (w32 (x0 - (b_and (b_ushr x0 1) 1431655765))) 858993459) + (b_and (b_ushr (w32 (x0 - (b_and (b_ushr x0 1) 1431655765))) 2) 858993459))) + (b_ushr (w32 ((b_and (w32 (x0 - (b_and (b_ushr x0 1) 1431655765))) 858993459) + (b_and (b_ushr (w32 (x0 - (b_and (b_ushr x0 1) 1431655765))) 2) 858993459))) 4))) 252645135) 8))) 16))))]) (dJ6_bitCount_0f7a4 37 rfl) rfl (Nat.le_of_ble_eq_true rfl) (Nat.le_of_ble_eq_true rfl) rfl rfl ?_
  refine R_iload_n (i := 0) (dJ6_bitCount_0f7a4 38 rfl) rfl rfl ?_
  refine R_bipush (dJ6_bitCount_0f7a4 39 rfl) rfl rfl ?_
  refine R_iand (dJ6_bitCount_0f7a4 40 rfl) ?_
  exact R_iret rfl rfl (Nat.zero_le _) (Nat.zero_le _) (dJ6_bitCount_0f7a4 41 rfl) ⟨congrArg (fun z => some (Sum.inl z)) H, rfl, rfl⟩
def f_X0_holds (x0 : Int) (x1 : Int) (x2 : Int) (x3 : Int) (x4 : Int) : Int :=
  if x0 = 1 then
    if x3 = x1 then
      1
    else
      0
  else if x0 = 2 then
    if b_and x3 x1 = x1 then
      1
    else
      0
  else if x0 = 3 then
    if b_and x3 x1 = x1 then
      1
    else
      if f_J6_bitCount_0f7a4 (b_and x3 x1) < x2 then
        0
      else
        1
  else if x0 = 4 then
    if b_and x3 x4 = x1 then
      1
    else
      0
  else if x0 = 5 then
    if b_and x3 x1 = 0 then
      1
    else
      0
  else
    1
set_option maxHeartbeats 4000000 in
theorem t_X0_holds (l : Launch) (g : GG) (ad : Nat → Nat) (S : SW) (M : Mem) (hS : q_ag 0 38 ad S) (x0 : Int) (x1 : Int) (x2 : Int) (x3 : Int) (x4 : Int) : CT l g MX0_holds 2 0 0 S M [.inl x0, .inl x1, .inl x2, .inl x3, .inl x4] (q_ex S (some (.inl (f_X0_holds x0 x1 x2 x3 x4))) M) := by
  obtain ⟨r, H⟩ : ∃ r, f_X0_holds x0 x1 x2 x3 x4 = r := ⟨_, rfl⟩
  rw [H]
  unfold f_X0_holds at H
  refine CT_of (ls0 := [some (.inl x0), some (.inl x1), some (.inl x2), some (.inl x3), some (.inl x4), none]) (by decide +kernel) (Nat.le_of_ble_eq_true rfl) rfl ?_
  refine R_iload_n (i := 3) (dX0_holds 0 rfl) rfl rfl ?_
  refine R_iload_n (i := 1) (dX0_holds 1 rfl) rfl rfl ?_
  refine R_iand (dX0_holds 2 rfl) ?_
  refine R_istore (i := 5) (ls' := [some (.inl x0), some (.inl x1), some (.inl x2), some (.inl x3), some (.inl x4), some (.inl (b_and x3 x1))]) (dX0_holds 3 rfl) (Nat.le_of_ble_eq_true rfl) (Nat.le_of_ble_eq_true rfl) rfl rfl ?_
  refine R_iload_n (i := 0) (dX0_holds 4 rfl) rfl rfl ?_
  by_cases hc1 : x0 = 1
  · have H := ite_T H hc1
    refine R_tsIn (c0 := 1) (tgt := 40) (dX0_holds 5 rfl) hc1 (by decide) (by decide) rfl (by decide) ?_
    refine R_iload_n (i := 3) (dX0_holds 6 rfl) rfl rfl ?_
    refine R_iload_n (i := 1) (dX0_holds 7 rfl) rfl rfl ?_
    refine R_icmp_ne (tgt := 49) (dX0_holds 8 rfl) (by decide) (fun hc => ?_) (fun hc => ?_)
    · have H := ite_F H hc
      refine R_iconst (dX0_holds 11 rfl) rfl ?_
      exact R_iret rfl (by decide +kernel) (Nat.zero_le _) (Nat.zero_le _) (dX0_holds 12 rfl) ⟨congrArg (fun z => some (Sum.inl z)) H, rfl, rfl⟩
    · have H := ite_T H hc
      refine R_iconst (dX0_holds 9 rfl) rfl ?_
      refine R_goto (tgt := 50) (dX0_holds 10 rfl) (by decide) ?_
      exact R_iret rfl (by decide +kernel) (Nat.zero_le _) (Nat.zero_le _) (dX0_holds 12 rfl) ⟨congrArg (fun z => some (Sum.inl z)) H, rfl, rfl⟩
  have H := ite_F H hc1
  by_cases hc2 : x0 = 2
  · have H := ite_T H hc2
    refine R_tsIn (c0 := 2) (tgt := 51) (dX0_holds 5 rfl) hc2 (by decide) (by decide) rfl (by decide) ?_
    refine R_iload (i := 5) (dX0_holds 13 rfl) rfl ?_
    refine R_iload_n (i := 1) (dX0_holds 14 rfl) rfl rfl ?_
    refine R_icmp_ne (tgt := 61) (dX0_holds 15 rfl) (by decide) (fun hc => ?_) (fun hc => ?_)
    · have H := ite_F H hc
      refine R_iconst (dX0_holds 18 rfl) rfl ?_
      exact R_iret rfl (by decide +kernel) (Nat.zero_le _) (Nat.zero_le _) (dX0_holds 19 rfl) ⟨congrArg (fun z => some (Sum.inl z)) H, rfl, rfl⟩
    · have H := ite_T H hc
      refine R_iconst (dX0_holds 16 rfl) rfl ?_
      refine R_goto (tgt := 62) (dX0_holds 17 rfl) (by decide) ?_
      exact R_iret rfl (by decide +kernel) (Nat.zero_le _) (Nat.zero_le _) (dX0_holds 19 rfl) ⟨congrArg (fun z => some (Sum.inl z)) H, rfl, rfl⟩
  have H := ite_F H hc2
  by_cases hc3 : x0 = 3
  · have H := ite_T H hc3
    refine R_tsIn (c0 := 3) (tgt := 63) (dX0_holds 5 rfl) hc3 (by decide) (by decide) rfl (by decide) ?_
    refine R_iload (i := 5) (dX0_holds 20 rfl) rfl ?_
    refine R_iload_n (i := 1) (dX0_holds 21 rfl) rfl rfl ?_
    refine R_icmp_eq (tgt := 78) (dX0_holds 22 rfl) (by decide) (fun hc => ?_) (fun hc => ?_)
    · have H := ite_T H hc
      refine R_iconst (dX0_holds 27 rfl) rfl ?_
      refine R_goto (tgt := 83) (dX0_holds 28 rfl) (by decide) ?_
      exact R_iret rfl (by decide +kernel) (Nat.zero_le _) (Nat.zero_le _) (dX0_holds 30 rfl) ⟨congrArg (fun z => some (Sum.inl z)) H, rfl, rfl⟩
    · have H := ite_F H hc
      refine R_iload (i := 5) (dX0_holds 23 rfl) rfl ?_
      refine R_cS (st' := [.inl (f_J6_bitCount_0f7a4 (b_and x3 x1))]) [.inl (b_and x3 x1)] [] (t_J6_bitCount_0f7a4 l g S _   (b_and x3 x1)) msJ6_bitCount_0f7a4 (Or.inl tb_770) ⟨Nat.le_of_ble_eq_true rfl, Nat.le_of_ble_eq_true rfl⟩ (Nat.zero_le _) (Nat.zero_le _) rfl rfl (Nat.le_of_ble_eq_true rfl) rfl (dX0_holds 24 rfl) ?_
      refine R_iload_n (i := 2) (dX0_holds 25 rfl) rfl rfl ?_
      refine R_icmp_lt (tgt := 82) (dX0_holds 26 rfl) (by decide) (fun hc => ?_) (fun hc => ?_)
      · have H := ite_T H hc
        refine R_iconst (dX0_holds 29 rfl) rfl ?_
        exact R_iret rfl (by decide +kernel) (Nat.zero_le _) (Nat.zero_le _) (dX0_holds 30 rfl) ⟨congrArg (fun z => some (Sum.inl z)) H, rfl, rfl⟩
      · have H := ite_F H hc
        refine R_iconst (dX0_holds 27 rfl) rfl ?_
        refine R_goto (tgt := 83) (dX0_holds 28 rfl) (by decide) ?_
        exact R_iret rfl (by decide +kernel) (Nat.zero_le _) (Nat.zero_le _) (dX0_holds 30 rfl) ⟨congrArg (fun z => some (Sum.inl z)) H, rfl, rfl⟩
  have H := ite_F H hc3
  by_cases hc4 : x0 = 4
  · have H := ite_T H hc4
    refine R_tsIn (c0 := 4) (tgt := 84) (dX0_holds 5 rfl) hc4 (by decide) (by decide) rfl (by decide) ?_
    refine R_iload_n (i := 3) (dX0_holds 31 rfl) rfl rfl ?_
    refine R_iload (i := 4) (dX0_holds 32 rfl) rfl ?_
    refine R_iand (dX0_holds 33 rfl) ?_
    refine R_iload_n (i := 1) (dX0_holds 34 rfl) rfl rfl ?_
    refine R_icmp_ne (tgt := 96) (dX0_holds 35 rfl) (by decide) (fun hc => ?_) (fun hc => ?_)
    · have H := ite_F H hc
      refine R_iconst (dX0_holds 38 rfl) rfl ?_
      exact R_iret rfl (by decide +kernel) (Nat.zero_le _) (Nat.zero_le _) (dX0_holds 39 rfl) ⟨congrArg (fun z => some (Sum.inl z)) H, rfl, rfl⟩
    · have H := ite_T H hc
      refine R_iconst (dX0_holds 36 rfl) rfl ?_
      refine R_goto (tgt := 97) (dX0_holds 37 rfl) (by decide) ?_
      exact R_iret rfl (by decide +kernel) (Nat.zero_le _) (Nat.zero_le _) (dX0_holds 39 rfl) ⟨congrArg (fun z => some (Sum.inl z)) H, rfl, rfl⟩
  have H := ite_F H hc4
  by_cases hc5 : x0 = 5
  · have H := ite_T H hc5
    refine R_tsIn (c0 := 5) (tgt := 98) (dX0_holds 5 rfl) hc5 (by decide) (by decide) rfl (by decide) ?_
    refine R_iload (i := 5) (dX0_holds 40 rfl) rfl ?_
    refine R_if_ne (tgt := 107) (dX0_holds 41 rfl) (by decide) (fun hc => ?_) (fun hc => ?_)
    · have H := ite_F H hc
      refine R_iconst (dX0_holds 44 rfl) rfl ?_
      exact R_iret rfl (by decide +kernel) (Nat.zero_le _) (Nat.zero_le _) (dX0_holds 45 rfl) ⟨congrArg (fun z => some (Sum.inl z)) H, rfl, rfl⟩
    · have H := ite_T H hc
      refine R_iconst (dX0_holds 42 rfl) rfl ?_
      refine R_goto (tgt := 108) (dX0_holds 43 rfl) (by decide) ?_
      exact R_iret rfl (by decide +kernel) (Nat.zero_le _) (Nat.zero_le _) (dX0_holds 45 rfl) ⟨congrArg (fun z => some (Sum.inl z)) H, rfl, rfl⟩
  have H := ite_F H hc5
  refine R_tsOut (tgt := 109) (dX0_holds 5 rfl) (by omega) (by decide) ?_
  refine R_iconst (dX0_holds 46 rfl) rfl ?_
  exact R_iret rfl (by decide +kernel) (Nat.zero_le _) (Nat.zero_le _) (dX0_holds 47 rfl) ⟨congrArg (fun z => some (Sum.inl z)) H, rfl, rfl⟩
theorem z_X0_holds (x0 : Int) (x1 : Int) (x2 : Int) (x3 : Int) (x4 : Int) : f_X0_holds x0 x1 x2 x3 x4 = 0 ∨ f_X0_holds x0 x1 x2 x3 x4 = 1 := by
  unfold f_X0_holds
  (repeat' split) <;> first | exact Or.inl rfl | exact Or.inr rfl | exact z_J6_bitCount_0f7a4 ..
def f_X9_at (ci : Nat) (N : Nat) (x1 : Int) (M : Mem) : Option Int :=
  if x1 < 0 then
    some 0
  else
    if x1 < (N : Int) then
      if 0 ≤ x1 ∧ x1 < (N : Int) then
        some (M ci (x1).toNat)
      else none
    else
      some 0
set_option maxHeartbeats 4000000 in
theorem t_X9_at (l : Launch) (g : GG) (S : SW) (M : Mem) (ci : Nat) (N : Nat) {aa : Nat} (hA : S[ci]? = some (aa, .inl N)) (hN : N < 2147483648) (x1 : Int) {r : Int} (H : f_X9_at ci N x1 M = some r) : CT l g MX9_at 1 0 0 S M [.inr (.inr (some aa)), .inl x1] (q_ex S (some (.inl r)) M) := by
  unfold f_X9_at at H
  refine CT_of (ls0 := [some (.inr (.inr (some aa))), some (.inl x1)]) (by decide +kernel) (Nat.le_of_ble_eq_true rfl) rfl ?_
  refine R_iload_n (i := 1) (dX9_at 0 rfl) rfl rfl ?_
  refine R_if_lt (tgt := 16) (dX9_at 1 rfl) (by decide) (fun hc => ?_) (fun hc => ?_)
  · have H := ite_T H hc
    refine R_iconst (dX9_at 10 rfl) rfl ?_
    exact R_iret rfl rfl (Nat.zero_le _) (Nat.zero_le _) (dX9_at 11 rfl) ⟨congrArg (fun z => some (Sum.inl z)) (Option.some.inj H), rfl, rfl⟩
  · have H := ite_F H hc
    refine R_iload_n (i := 1) (dX9_at 2 rfl) rfl rfl ?_
    refine R_aload_n (i := 0) (dX9_at 3 rfl) rfl rfl ?_
    refine R_alen ci hA hN (dX9_at 4 rfl) ?_
    refine R_icmp_ge (tgt := 16) (dX9_at 5 rfl) (by decide) (fun hc => ?_) (fun hc => ?_)
    · have H := ite_F H hc
      refine R_iconst (dX9_at 10 rfl) rfl ?_
      exact R_iret rfl rfl (Nat.zero_le _) (Nat.zero_le _) (dX9_at 11 rfl) ⟨congrArg (fun z => some (Sum.inl z)) (Option.some.inj H), rfl, rfl⟩
    · have H := ite_T H hc
      refine R_aload_n (i := 0) (dX9_at 6 rfl) rfl rfl ?_
      refine R_iload_n (i := 1) (dX9_at 7 rfl) rfl rfl ?_
      obtain ⟨hg, H⟩ := ite_G H
      refine R_iald ci hA hg (dX9_at 8 rfl) ?_
      refine R_goto (tgt := 17) (dX9_at 9 rfl) (by decide) ?_
      exact R_iret rfl rfl (Nat.zero_le _) (Nat.zero_le _) (dX9_at 11 rfl) ⟨congrArg (fun z => some (Sum.inl z)) (Option.some.inj H), rfl, rfl⟩
def f_X9_atF (g : GG) (fj : Nat) (x1 : Int) (M : Mem) : Option Int :=
  if x1 < 0 then
    some 0
  else
    if x1 < (q_fl g fj : Int) then
      if 0 ≤ x1 ∧ x1 < (q_fl g fj : Int) then
        some (q_ff g fj (x1).toNat)
      else none
    else
      some 0
set_option maxHeartbeats 4000000 in
theorem t_X9_atF (l : Launch) (g : GG) (S : SW) (M : Mem) (fj : Nat) (hfj : fj < 3) (x1 : Int) {r : Int} (H : f_X9_atF g fj x1 M = some r) : CT l g MX9_at 1 0 0 S M [.inr (.inr (some (g.2.2.2.1 fj))), .inl x1] (q_ex S (some (.inl r)) M) := by
  unfold f_X9_atF at H
  refine CT_of (ls0 := [some (.inr (.inr (some (g.2.2.2.1 fj)))), some (.inl x1)]) (by decide +kernel) (Nat.le_of_ble_eq_true rfl) rfl ?_
  refine R_iload_n (i := 1) (dX9_at 0 rfl) rfl rfl ?_
  refine R_if_lt (tgt := 16) (dX9_at 1 rfl) (by decide) (fun hc => ?_) (fun hc => ?_)
  · have H := ite_T H hc
    refine R_iconst (dX9_at 10 rfl) rfl ?_
    exact R_iret rfl rfl (Nat.zero_le _) (Nat.zero_le _) (dX9_at 11 rfl) ⟨congrArg (fun z => some (Sum.inl z)) (Option.some.inj H), rfl, rfl⟩
  · have H := ite_F H hc
    refine R_iload_n (i := 1) (dX9_at 2 rfl) rfl rfl ?_
    refine R_aload_n (i := 0) (dX9_at 3 rfl) rfl rfl ?_
    refine R_alenF fj hfj (dX9_at 4 rfl) ?_
    refine R_icmp_ge (tgt := 16) (dX9_at 5 rfl) (by decide) (fun hc => ?_) (fun hc => ?_)
    · have H := ite_F H hc
      refine R_iconst (dX9_at 10 rfl) rfl ?_
      exact R_iret rfl rfl (Nat.zero_le _) (Nat.zero_le _) (dX9_at 11 rfl) ⟨congrArg (fun z => some (Sum.inl z)) (Option.some.inj H), rfl, rfl⟩
    · have H := ite_T H hc
      refine R_aload_n (i := 0) (dX9_at 6 rfl) rfl rfl ?_
      refine R_iload_n (i := 1) (dX9_at 7 rfl) rfl rfl ?_
      obtain ⟨hg, H⟩ := ite_G H
      refine R_ialdF fj hfj hg (dX9_at 8 rfl) ?_
      refine R_goto (tgt := 17) (dX9_at 9 rfl) (by decide) ?_
      exact R_iret rfl rfl (Nat.zero_le _) (Nat.zero_le _) (dX9_at 11 rfl) ⟨congrArg (fun z => some (Sum.inl z)) (Option.some.inj H), rfl, rfl⟩
/-- a place of a row, 0 outside -/
theorem f_at_eq (ci N : Nat) (i : Int) (M : Mem) : f_X9_at ci N i M = some (rd N (M ci) i) := by
  unfold f_X9_at rd
  by_cases h1 : i < 0
  · rw [if_pos h1, if_neg (by omega)]
  · rw [if_neg h1]
    by_cases h2 : i < (N : Int)
    · rw [if_pos h2, if_pos (by omega), if_pos (by omega)]
    · rw [if_neg h2, if_neg (by omega)]
theorem t_at (l : Launch) (g : GG) (S : SW) (M : Mem) (ci : Nat) {N aa : Nat} (hA : S[ci]? = some (aa, .inl N)) (hN : N < 2147483648) (i : Int) : CT l g MX9_at 1 0 0 S M [.inr (.inr (some aa)), .inl i] (q_ex S (some (.inl (rd N (M ci) i))) M) := t_X9_at l g S M ci N hA hN i (f_at_eq ci N i M)
theorem f_atF_eq (g : GG) (j : Nat) (i : Int) (M : Mem) : f_X9_atF g j i M = some (rd (q_fl g j) (q_ff g j) i) := by
  unfold f_X9_atF rd
  by_cases h1 : i < 0
  · rw [if_pos h1, if_neg (by omega)]
  · rw [if_neg h1]
    by_cases h2 : i < (q_fl g j : Int)
    · rw [if_pos h2, if_pos (by omega), if_pos (by omega)]
    · rw [if_neg h2, if_neg (by omega)]
theorem t_atT (l : Launch) (g : GG) (S : SW) (M : Mem) (i : Int) : CT l g MX9_at 1 0 0 S M [.inr (.inr (some (g.2.2.2.1 1))), .inl i] (q_ex S (some (.inl (rd 6 frT i))) M) := t_X9_atF l g S M 1 (by decide) i (f_atF_eq g 1 i M)
theorem t_atK (l : Launch) (g : GG) (S : SW) (M : Mem) (i : Int) : CT l g MX9_at 1 0 0 S M [.inr (.inr (some (g.2.2.2.1 2))), .inl i] (q_ex S (some (.inl (rd 6 frK i))) M) := t_X9_atF l g S M 2 (by decide) i (f_atF_eq g 2 i M)
def f_X3_had (x1 : Int) (x2 : Int) (M : Mem) : Int :=
  rd 7200 (M 6) (w32 ((w32 (x1 * 720)) + x2))
set_option maxHeartbeats 4000000 in
theorem t_X3_had (l : Launch) (g : GG) (ad : Nat → Nat) (S : SW) (M : Mem) (hS : q_ag 0 38 ad S) (x1 : Int) (x2 : Int) : CT l g MX3_had 2 0 0 S M [.inr (.inr (some (ad 3))), .inl x1, .inl x2] (q_ex S (some (.inl (f_X3_had x1 x2 M))) M) := by
  obtain ⟨r, H⟩ : ∃ r, f_X3_had x1 x2 M = r := ⟨_, rfl⟩
  rw [H]
  unfold f_X3_had at H
  refine CT_of (ls0 := [some (.inr (.inr (some (ad 3)))), some (.inl x1), some (.inl x2)]) (by decide +kernel) (Nat.le_of_ble_eq_true rfl) rfl ?_
  refine R_aload_n (i := 0) (dX3_had 0 rfl) rfl rfl ?_
  refine R_getR cgX3 3 (cl3 hS) 2 (Nat.le_of_ble_eq_true rfl) rfl (Or.inl tb_139) (dX3_had 1 rfl) ?_
  refine R_iload_n (i := 1) (dX3_had 2 rfl) rfl rfl ?_
  refine R_sipush (dX3_had 3 rfl) rfl rfl ?_
  refine R_imul (dX3_had 4 rfl) ?_
  refine R_iload_n (i := 2) (dX3_had 5 rfl) rfl rfl ?_
  refine R_iadd (dX3_had 6 rfl) ?_
  refine R_cS (st' := [.inl (rd 7200 (M 6) (w32 ((w32 (x1 * 720)) + x2)))]) [.inr (.inr (some (ad 6))), .inl (w32 ((w32 (x1 * 720)) + x2))] [] (t_at l g S _ 6 (cl6 hS) (Nat.le_of_ble_eq_true rfl) (w32 ((w32 (x1 * 720)) + x2))) msX9_at (Or.inr ⟨_, tb_640⟩) ⟨Nat.le_of_ble_eq_true rfl, Nat.le_of_ble_eq_true rfl⟩ (Nat.zero_le _) (Nat.zero_le _) rfl rfl (Nat.le_of_ble_eq_true rfl) rfl (dX3_had 7 rfl) ?_
  exact R_iret rfl rfl (Nat.zero_le _) (Nat.zero_le _) (dX3_had 8 rfl) ⟨congrArg (fun z => some (Sum.inl z)) H, rfl, rfl⟩
def f_X0_brokenIn_L5 (x2 : Int) (M : Mem) : Nat → Int → Int → Option Int
  | 0, _, _ => none
  | n + 1, x3, x4 =>
    if x4 < M 7 4 then
      if f_X0_holds (rd 12 (M 8) x4) (rd 12 (M 10) x4) (rd 12 (M 11) x4) (f_X3_had (rd 12 (M 9) x4) x2 M) (f_X3_had (rd 12 (M 11) x4) x2 M) = 0 then
        f_X0_brokenIn_L5 x2 M n (b_or x3 (b_shl 1 x4)) (w32 (x4 + 1))
      else
        f_X0_brokenIn_L5 x2 M n x3 (w32 (x4 + 1))
    else
      some x3
set_option maxHeartbeats 4000000 in
theorem t_X0_brokenIn_L5 (l : Launch) (g : GG) (ad : Nat → Nat) (S : SW) (M : Mem) (hS : q_ag 0 38 ad S) (x2 : Int) {r : Int} : ∀ (n : Nat) (x3 : Int) (x4 : Int), f_X0_brokenIn_L5 x2 M n x3 x4 = some r → RW l g MX0_brokenIn (q_rm 3 0 0) 0 0 (q_ex S (some (.inl r)) M) 5 S M 0 0 [some (.inr (.inr (some (ad 7)))), some (.inr (.inr (some (ad 3)))), some (.inl x2), some (.inl x3), some (.inl x4), none, none] [] := by
  intro n
  induction n with
  | zero => intro x3 x4 H; exact absurd H (by simp [f_X0_brokenIn_L5])
  | succ n ih =>
    intro x3 x4 H
    rw [f_X0_brokenIn_L5] at H
    refine R_iload (i := 4) (dX0_brokenIn 4 rfl) rfl ?_
    refine R_aload_n (i := 0) (dX0_brokenIn 5 rfl) rfl rfl ?_
    refine R_getI cgX0 7 (cl7 hS) 4 (Nat.le_of_ble_eq_true rfl) rfl (Or.inl tb_167) (dX0_brokenIn 6 rfl) ?_
    refine R_icmp_ge (tgt := 89) (dX0_brokenIn 7 rfl) (by decide) (fun hc => ?_) (fun hc => ?_)
    · have H := ite_F H hc
      refine R_iload_n (i := 3) (dX0_brokenIn 45 rfl) rfl rfl ?_
      exact R_iret rfl rfl (Nat.zero_le _) (Nat.zero_le _) (dX0_brokenIn 46 rfl) ⟨congrArg (fun z => some (Sum.inl z)) (Option.some.inj H), rfl, rfl⟩
    · have H := ite_T H hc
      refine R_aload_n (i := 0) (dX0_brokenIn 8 rfl) rfl rfl ?_
      refine R_getR cgX0 7 (cl7 hS) 3 (Nat.le_of_ble_eq_true rfl) rfl (Or.inl tb_165) (dX0_brokenIn 9 rfl) ?_
      refine R_iload (i := 4) (dX0_brokenIn 10 rfl) rfl ?_
      refine R_cS (st' := [.inl (rd 12 (M 11) x4)]) [.inr (.inr (some (ad 11))), .inl x4] [] (t_at l g S _ 11 (cl11 hS) (Nat.le_of_ble_eq_true rfl) x4) msX9_at (Or.inr ⟨_, tb_765⟩) ⟨Nat.le_of_ble_eq_true rfl, Nat.le_of_ble_eq_true rfl⟩ (Nat.zero_le _) (Nat.zero_le _) rfl rfl (Nat.le_of_ble_eq_true rfl) rfl (dX0_brokenIn 11 rfl) ?_
      refine R_istore (i := 5) (ls' := [some (.inr (.inr (some (ad 7)))), some (.inr (.inr (some (ad 3)))), some (.inl x2), some (.inl x3), some (.inl x4), some (.inl (rd 12 (M 11) x4)), none]) (dX0_brokenIn 12 rfl) (Nat.le_of_ble_eq_true rfl) (Nat.le_of_ble_eq_true rfl) rfl rfl ?_
      refine R_aload_n (i := 1) (dX0_brokenIn 13 rfl) rfl rfl ?_
      refine R_aload_n (i := 0) (dX0_brokenIn 14 rfl) rfl rfl ?_
      refine R_getR cgX0 7 (cl7 hS) 1 (Nat.le_of_ble_eq_true rfl) rfl (Or.inl tb_161) (dX0_brokenIn 15 rfl) ?_
      refine R_iload (i := 4) (dX0_brokenIn 16 rfl) rfl ?_
      refine R_cS (st' := [.inl (rd 12 (M 9) x4), .inr (.inr (some (ad 3)))]) [.inr (.inr (some (ad 9))), .inl x4] [.inr (.inr (some (ad 3)))] (t_at l g S _ 9 (cl9 hS) (Nat.le_of_ble_eq_true rfl) x4) msX9_at (Or.inr ⟨_, tb_765⟩) ⟨Nat.le_of_ble_eq_true rfl, Nat.le_of_ble_eq_true rfl⟩ (Nat.zero_le _) (Nat.zero_le _) rfl rfl (Nat.le_of_ble_eq_true rfl) rfl (dX0_brokenIn 17 rfl) ?_
      refine R_iload_n (i := 2) (dX0_brokenIn 18 rfl) rfl rfl ?_
      refine R_cV (st' := [.inl (f_X3_had (rd 12 (M 9) x4) x2 M)]) [.inl (rd 12 (M 9) x4), .inl x2] [] (t_X3_had l g ad S _ hS   (rd 12 (M 9) x4) x2) msX3_had (Or.inl tb_766) (Or.inl ⟨3, 3, _, _, _, (cl3 hS), rfl⟩) ⟨Nat.le_of_ble_eq_true rfl, Nat.le_of_ble_eq_true rfl⟩ (Nat.zero_le _) (Nat.zero_le _) rfl rfl (Nat.le_of_ble_eq_true rfl) rfl (dX0_brokenIn 19 rfl) ?_
      refine R_istore (i := 6) (ls' := [some (.inr (.inr (some (ad 7)))), some (.inr (.inr (some (ad 3)))), some (.inl x2), some (.inl x3), some (.inl x4), some (.inl (rd 12 (M 11) x4)), some (.inl (f_X3_had (rd 12 (M 9) x4) x2 M))]) (dX0_brokenIn 20 rfl) (Nat.le_of_ble_eq_true rfl) (Nat.le_of_ble_eq_true rfl) rfl rfl ?_
      refine R_aload_n (i := 0) (dX0_brokenIn 21 rfl) rfl rfl ?_
      refine R_getR cgX0 7 (cl7 hS) 0 (Nat.le_of_ble_eq_true rfl) rfl (Or.inl tb_159) (dX0_brokenIn 22 rfl) ?_
      refine R_iload (i := 4) (dX0_brokenIn 23 rfl) rfl ?_
      refine R_cS (st' := [.inl (rd 12 (M 8) x4)]) [.inr (.inr (some (ad 8))), .inl x4] [] (t_at l g S _ 8 (cl8 hS) (Nat.le_of_ble_eq_true rfl) x4) msX9_at (Or.inr ⟨_, tb_765⟩) ⟨Nat.le_of_ble_eq_true rfl, Nat.le_of_ble_eq_true rfl⟩ (Nat.zero_le _) (Nat.zero_le _) rfl rfl (Nat.le_of_ble_eq_true rfl) rfl (dX0_brokenIn 24 rfl) ?_
      refine R_aload_n (i := 0) (dX0_brokenIn 25 rfl) rfl rfl ?_
      refine R_getR cgX0 7 (cl7 hS) 2 (Nat.le_of_ble_eq_true rfl) rfl (Or.inl tb_163) (dX0_brokenIn 26 rfl) ?_
      refine R_iload (i := 4) (dX0_brokenIn 27 rfl) rfl ?_
      refine R_cS (st' := [.inl (rd 12 (M 10) x4), .inl (rd 12 (M 8) x4)]) [.inr (.inr (some (ad 10))), .inl x4] [.inl (rd 12 (M 8) x4)] (t_at l g S _ 10 (cl10 hS) (Nat.le_of_ble_eq_true rfl) x4) msX9_at (Or.inr ⟨_, tb_765⟩) ⟨Nat.le_of_ble_eq_true rfl, Nat.le_of_ble_eq_true rfl⟩ (Nat.zero_le _) (Nat.zero_le _) rfl rfl (Nat.le_of_ble_eq_true rfl) rfl (dX0_brokenIn 28 rfl) ?_
      refine R_iload (i := 5) (dX0_brokenIn 29 rfl) rfl ?_
      refine R_iload (i := 6) (dX0_brokenIn 30 rfl) rfl ?_
      refine R_aload_n (i := 1) (dX0_brokenIn 31 rfl) rfl rfl ?_
      refine R_iload (i := 5) (dX0_brokenIn 32 rfl) rfl ?_
      refine R_iload_n (i := 2) (dX0_brokenIn 33 rfl) rfl rfl ?_
      refine R_cV (st' := [.inl (f_X3_had (rd 12 (M 11) x4) x2 M), .inl (f_X3_had (rd 12 (M 9) x4) x2 M), .inl (rd 12 (M 11) x4), .inl (rd 12 (M 10) x4), .inl (rd 12 (M 8) x4)]) [.inl (rd 12 (M 11) x4), .inl x2] [.inl (f_X3_had (rd 12 (M 9) x4) x2 M), .inl (rd 12 (M 11) x4), .inl (rd 12 (M 10) x4), .inl (rd 12 (M 8) x4)] (t_X3_had l g ad S _ hS   (rd 12 (M 11) x4) x2) msX3_had (Or.inl tb_766) (Or.inl ⟨3, 3, _, _, _, (cl3 hS), rfl⟩) ⟨Nat.le_of_ble_eq_true rfl, Nat.le_of_ble_eq_true rfl⟩ (Nat.zero_le _) (Nat.zero_le _) rfl rfl (Nat.le_of_ble_eq_true rfl) rfl (dX0_brokenIn 34 rfl) ?_
      refine R_cS (st' := [.inl (f_X0_holds (rd 12 (M 8) x4) (rd 12 (M 10) x4) (rd 12 (M 11) x4) (f_X3_had (rd 12 (M 9) x4) x2 M) (f_X3_had (rd 12 (M 11) x4) x2 M))]) [.inl (rd 12 (M 8) x4), .inl (rd 12 (M 10) x4), .inl (rd 12 (M 11) x4), .inl (f_X3_had (rd 12 (M 9) x4) x2 M), .inl (f_X3_had (rd 12 (M 11) x4) x2 M)] [] (t_X0_holds l g ad S _ hS   (rd 12 (M 8) x4) (rd 12 (M 10) x4) (rd 12 (M 11) x4) (f_X3_had (rd 12 (M 9) x4) x2 M) (f_X3_had (rd 12 (M 11) x4) x2 M)) msX0_holds (Or.inl tb_767) ⟨Nat.le_of_ble_eq_true rfl, Nat.le_of_ble_eq_true rfl⟩ (Nat.zero_le _) (Nat.zero_le _) rfl rfl (Nat.le_of_ble_eq_true rfl) rfl (dX0_brokenIn 35 rfl) ?_
      refine R_if_ne (tgt := 83) (dX0_brokenIn 36 rfl) (by decide) (fun hc => ?_) (fun hc => ?_)
      · have H := ite_F H hc
        refine R_iinc (i := 4) (ls' := [some (.inr (.inr (some (ad 7)))), some (.inr (.inr (some (ad 3)))), some (.inl x2), some (.inl x3), some (.inl (w32 (x4 + 1))), some (.inl (rd 12 (M 11) x4)), some (.inl (f_X3_had (rd 12 (M 9) x4) x2 M))]) (dX0_brokenIn 43 rfl) rfl (Nat.le_of_ble_eq_true rfl) rfl rfl ?_
        refine R_goto (tgt := 5) (dX0_brokenIn 44 rfl) (by decide) ?_
        refine R_mask [true, true, true, true, true, false, false] rfl ?_
        exact ih x3 (w32 (x4 + 1)) H
      · have H := ite_T H hc
        refine R_iload_n (i := 3) (dX0_brokenIn 37 rfl) rfl rfl ?_
        refine R_iconst (dX0_brokenIn 38 rfl) rfl ?_
        refine R_iload (i := 4) (dX0_brokenIn 39 rfl) rfl ?_
        refine R_ishl (dX0_brokenIn 40 rfl) ?_
        refine R_ior (dX0_brokenIn 41 rfl) ?_
        refine R_istore_n (i := 3) (ls' := [some (.inr (.inr (some (ad 7)))), some (.inr (.inr (some (ad 3)))), some (.inl x2), some (.inl (b_or x3 (b_shl 1 x4))), some (.inl x4), some (.inl (rd 12 (M 11) x4)), some (.inl (f_X3_had (rd 12 (M 9) x4) x2 M))]) (dX0_brokenIn 42 rfl) rfl (Nat.le_of_ble_eq_true rfl) (Nat.le_of_ble_eq_true rfl) rfl rfl ?_
        refine R_iinc (i := 4) (ls' := [some (.inr (.inr (some (ad 7)))), some (.inr (.inr (some (ad 3)))), some (.inl x2), some (.inl (b_or x3 (b_shl 1 x4))), some (.inl (w32 (x4 + 1))), some (.inl (rd 12 (M 11) x4)), some (.inl (f_X3_had (rd 12 (M 9) x4) x2 M))]) (dX0_brokenIn 43 rfl) rfl (Nat.le_of_ble_eq_true rfl) rfl rfl ?_
        refine R_goto (tgt := 5) (dX0_brokenIn 44 rfl) (by decide) ?_
        refine R_mask [true, true, true, true, true, false, false] rfl ?_
        exact ih (b_or x3 (b_shl 1 x4)) (w32 (x4 + 1)) H
def f_X0_brokenIn (x2 : Int) (M : Mem) : Option Int :=
  f_X0_brokenIn_L5
    x2 M 100000 0 0
set_option maxHeartbeats 4000000 in
theorem t_X0_brokenIn (l : Launch) (g : GG) (ad : Nat → Nat) (S : SW) (M : Mem) (hS : q_ag 0 38 ad S) (x2 : Int) {r : Int} (H : f_X0_brokenIn x2 M = some r) : CT l g MX0_brokenIn 3 0 0 S M [.inr (.inr (some (ad 7))), .inr (.inr (some (ad 3))), .inl x2] (q_ex S (some (.inl r)) M) := by
  unfold f_X0_brokenIn at H
  refine CT_of (ls0 := [some (.inr (.inr (some (ad 7)))), some (.inr (.inr (some (ad 3)))), some (.inl x2), none, none, none, none]) (by decide +kernel) (Nat.le_of_ble_eq_true rfl) rfl ?_
  refine R_iconst (dX0_brokenIn 0 rfl) rfl ?_
  refine R_istore_n (i := 3) (ls' := [some (.inr (.inr (some (ad 7)))), some (.inr (.inr (some (ad 3)))), some (.inl x2), some (.inl 0), none, none, none]) (dX0_brokenIn 1 rfl) rfl (Nat.le_of_ble_eq_true rfl) (Nat.le_of_ble_eq_true rfl) rfl rfl ?_
  refine R_iconst (dX0_brokenIn 2 rfl) rfl ?_
  refine R_istore (i := 4) (ls' := [some (.inr (.inr (some (ad 7)))), some (.inr (.inr (some (ad 3)))), some (.inl x2), some (.inl 0), some (.inl 0), none, none]) (dX0_brokenIn 3 rfl) (Nat.le_of_ble_eq_true rfl) (Nat.le_of_ble_eq_true rfl) rfl rfl ?_
  exact t_X0_brokenIn_L5 l g ad S M hS x2  100000 0 0 H 
def f_X0_isOne_L4 (x1 : Int) (M : Mem) : Nat → Int → Int → Option Int
  | 0, _, _ => none
  | n + 1, x2, x3 =>
    if x3 < 6 then
      if x2 < 0 then
        some 0
      else
        if x2 = x1 then
          some 1
        else
          f_X0_isOne_L4 x1 M n (rd 6 frK x2) (w32 (x3 + 1))
    else
      some 0
set_option maxHeartbeats 4000000 in
theorem t_X0_isOne_L4 (l : Launch) (g : GG) (ad : Nat → Nat) (S : SW) (M : Mem) (hS : q_ag 0 38 ad S) (x1 : Int) {r : Int} : ∀ (n : Nat) (x2 : Int) (x3 : Int), f_X0_isOne_L4 x1 M n x2 x3 = some r → RW l g MX0_isOne (q_rm 2 0 0) 0 0 (q_ex S (some (.inl r)) M) 4 S M 0 0 [none, some (.inl x1), some (.inl x2), some (.inl x3)] [] := by
  intro n
  induction n with
  | zero => intro x2 x3 H; exact absurd H (by simp [f_X0_isOne_L4])
  | succ n ih =>
    intro x2 x3 H
    rw [f_X0_isOne_L4] at H
    refine R_iload_n (i := 3) (dX0_isOne 4 rfl) rfl rfl ?_
    refine R_gets sel_K trivial (Or.inr ⟨_, tb_1067⟩) (dX0_isOne 5 rfl) ?_
    refine R_alenF 2 (by decide) (dX0_isOne 6 rfl) ?_
    refine R_icmp_ge (tgt := 37) (dX0_isOne 7 rfl) (by decide) (fun hc => ?_) (fun hc => ?_)
    · have H := ite_F H hc
      refine R_iconst (dX0_isOne 21 rfl) rfl ?_
      exact R_iret rfl (by decide +kernel) (Nat.zero_le _) (Nat.zero_le _) (dX0_isOne 22 rfl) ⟨congrArg (fun z => some (Sum.inl z)) (Option.some.inj H), rfl, rfl⟩
    · have H := ite_T H hc
      refine R_iload_n (i := 2) (dX0_isOne 8 rfl) rfl rfl ?_
      refine R_if_lt (tgt := 37) (dX0_isOne 9 rfl) (by decide) (fun hc => ?_) (fun hc => ?_)
      · have H := ite_T H hc
        refine R_iconst (dX0_isOne 21 rfl) rfl ?_
        exact R_iret rfl (by decide +kernel) (Nat.zero_le _) (Nat.zero_le _) (dX0_isOne 22 rfl) ⟨congrArg (fun z => some (Sum.inl z)) (Option.some.inj H), rfl, rfl⟩
      · have H := ite_F H hc
        refine R_iload_n (i := 2) (dX0_isOne 10 rfl) rfl rfl ?_
        refine R_iload_n (i := 1) (dX0_isOne 11 rfl) rfl rfl ?_
        refine R_icmp_ne (tgt := 23) (dX0_isOne 12 rfl) (by decide) (fun hc => ?_) (fun hc => ?_)
        · have H := ite_F H hc
          refine R_gets sel_K trivial (Or.inr ⟨_, tb_1067⟩) (dX0_isOne 15 rfl) ?_
          refine R_iload_n (i := 2) (dX0_isOne 16 rfl) rfl rfl ?_
          refine R_cS (st' := [.inl (rd 6 frK x2)]) [.inr (.inr (some (g.2.2.2.1 2))), .inl x2] [] (t_atK l g S _ x2) msX9_at (Or.inr ⟨_, tb_765⟩) ⟨Nat.le_of_ble_eq_true rfl, Nat.le_of_ble_eq_true rfl⟩ (Nat.zero_le _) (Nat.zero_le _) rfl rfl (Nat.le_of_ble_eq_true rfl) rfl (dX0_isOne 17 rfl) ?_
          refine R_istore_n (i := 2) (ls' := [none, some (.inl x1), some (.inl (rd 6 frK x2)), some (.inl x3)]) (dX0_isOne 18 rfl) rfl (Nat.le_of_ble_eq_true rfl) (Nat.le_of_ble_eq_true rfl) rfl rfl ?_
          refine R_iinc (i := 3) (ls' := [none, some (.inl x1), some (.inl (rd 6 frK x2)), some (.inl (w32 (x3 + 1)))]) (dX0_isOne 19 rfl) rfl (Nat.le_of_ble_eq_true rfl) rfl rfl ?_
          refine R_goto (tgt := 4) (dX0_isOne 20 rfl) (by decide) ?_
          exact ih (rd 6 frK x2) (w32 (x3 + 1)) H
        · have H := ite_T H hc
          refine R_iconst (dX0_isOne 13 rfl) rfl ?_
          exact R_iret rfl (by decide +kernel) (Nat.zero_le _) (Nat.zero_le _) (dX0_isOne 14 rfl) ⟨congrArg (fun z => some (Sum.inl z)) (Option.some.inj H), rfl, rfl⟩
def f_X0_isOne (x0 : Int) (x1 : Int) (M : Mem) : Option Int :=
  f_X0_isOne_L4
    x1 M 100000 x0 0
set_option maxHeartbeats 4000000 in
theorem t_X0_isOne (l : Launch) (g : GG) (ad : Nat → Nat) (S : SW) (M : Mem) (hS : q_ag 0 38 ad S) (x0 : Int) (x1 : Int) {r : Int} (H : f_X0_isOne x0 x1 M = some r) : CT l g MX0_isOne 2 0 0 S M [.inl x0, .inl x1] (q_ex S (some (.inl r)) M) := by
  unfold f_X0_isOne at H
  refine CT_of (ls0 := [some (.inl x0), some (.inl x1), none, none]) (by decide +kernel) (Nat.le_of_ble_eq_true rfl) rfl ?_
  refine R_iload_n (i := 0) (dX0_isOne 0 rfl) rfl rfl ?_
  refine R_istore_n (i := 2) (ls' := [some (.inl x0), some (.inl x1), some (.inl x0), none]) (dX0_isOne 1 rfl) rfl (Nat.le_of_ble_eq_true rfl) (Nat.le_of_ble_eq_true rfl) rfl rfl ?_
  refine R_iconst (dX0_isOne 2 rfl) rfl ?_
  refine R_istore_n (i := 3) (ls' := [some (.inl x0), some (.inl x1), some (.inl x0), some (.inl 0)]) (dX0_isOne 3 rfl) rfl (Nat.le_of_ble_eq_true rfl) (Nat.le_of_ble_eq_true rfl) rfl rfl ?_
  refine R_mask [false, true, true, true] rfl ?_
  exact t_X0_isOne_L4 l g ad S M hS x1  100000 x0 0 H 
def f_X1_clear_L2 (ci : Nat) (N : Nat) : Nat → Int → Mem → Option (Int × Mem)
  | 0, _, _ => none
  | n + 1, x1, M =>
    if x1 < (N : Int) then
      if 0 ≤ x1 ∧ x1 < (N : Int) then
        f_X1_clear_L2 ci N n (w32 (x1 + 1)) (mset M ci (x1).toNat 0)
      else none
    else
      some (0, M)
set_option maxHeartbeats 4000000 in
theorem t_X1_clear_L2 (l : Launch) (g : GG) (S : SW) (ci : Nat) (N : Nat) {aa : Nat} (hA : S[ci]? = some (aa, .inl N)) (hN : N < 2147483648) {r : Int} {M' : Mem} : ∀ (n : Nat) (x1 : Int) (M : Mem), f_X1_clear_L2 ci N n x1 M = some (r, M') → RW l g MX1_clear (q_rm 1 0 0) 0 0 (q_ex S none M') 2 S M 0 0 [some (.inr (.inr (some aa))), some (.inl x1)] [] := by
  intro n
  induction n with
  | zero => intro x1 M H; exact absurd H (by simp [f_X1_clear_L2])
  | succ n ih =>
    intro x1 M H
    rw [f_X1_clear_L2] at H
    refine R_iload_n (i := 1) (dX1_clear 2 rfl) rfl rfl ?_
    refine R_aload_n (i := 0) (dX1_clear 3 rfl) rfl rfl ?_
    refine R_alen ci hA hN (dX1_clear 4 rfl) ?_
    refine R_icmp_ge (tgt := 18) (dX1_clear 5 rfl) (by decide) (fun hc => ?_) (fun hc => ?_)
    · have H := ite_F H hc
      exact R_vret rfl (Nat.zero_le _) (Nat.zero_le _) (dX1_clear 12 rfl) ⟨rfl, rfl, (Prod.mk.inj (Option.some.inj H)).2⟩
    · have H := ite_T H hc
      refine R_aload_n (i := 0) (dX1_clear 6 rfl) rfl rfl ?_
      refine R_iload_n (i := 1) (dX1_clear 7 rfl) rfl rfl ?_
      refine R_iconst (dX1_clear 8 rfl) rfl ?_
      obtain ⟨hg, H⟩ := ite_G H
      refine R_iast ci hA hg (dX1_clear 9 rfl) ?_
      refine R_iinc (i := 1) (ls' := [some (.inr (.inr (some aa))), some (.inl (w32 (x1 + 1)))]) (dX1_clear 10 rfl) rfl (Nat.le_of_ble_eq_true rfl) rfl rfl ?_
      refine R_goto (tgt := 2) (dX1_clear 11 rfl) (by decide) ?_
      exact ih (w32 (x1 + 1)) (mset M ci (x1).toNat 0) H
def f_X1_clear (ci : Nat) (N : Nat) (M : Mem) : Option (Int × Mem) :=
  f_X1_clear_L2
    ci N 100000 0 M
set_option maxHeartbeats 4000000 in
theorem t_X1_clear (l : Launch) (g : GG) (S : SW) (M : Mem) (ci : Nat) (N : Nat) {aa : Nat} (hA : S[ci]? = some (aa, .inl N)) (hN : N < 2147483648) {r : Int} {M' : Mem} (H : f_X1_clear ci N M = some (r, M')) : CT l g MX1_clear 1 0 0 S M [.inr (.inr (some aa))] (q_ex S none M') := by
  unfold f_X1_clear at H
  refine CT_of (ls0 := [some (.inr (.inr (some aa))), none]) (by decide +kernel) (Nat.le_of_ble_eq_true rfl) rfl ?_
  refine R_iconst (dX1_clear 0 rfl) rfl ?_
  refine R_istore_n (i := 1) (ls' := [some (.inr (.inr (some aa))), some (.inl 0)]) (dX1_clear 1 rfl) rfl (Nat.le_of_ble_eq_true rfl) (Nat.le_of_ble_eq_true rfl) rfl rfl ?_
  exact t_X1_clear_L2 l g S ci N hA hN  100000 0 M H 
def f_X3_signsOf (x1 : Int) (M : Mem) : Int :=
  rd 10 (M 4) x1
set_option maxHeartbeats 4000000 in
theorem t_X3_signsOf (l : Launch) (g : GG) (ad : Nat → Nat) (S : SW) (M : Mem) (hS : q_ag 0 38 ad S) (x1 : Int) : CT l g MX3_signsOf 2 0 0 S M [.inr (.inr (some (ad 3))), .inl x1] (q_ex S (some (.inl (f_X3_signsOf x1 M))) M) := by
  obtain ⟨r, H⟩ : ∃ r, f_X3_signsOf x1 M = r := ⟨_, rfl⟩
  rw [H]
  unfold f_X3_signsOf at H
  refine CT_of (ls0 := [some (.inr (.inr (some (ad 3)))), some (.inl x1)]) (by decide +kernel) (Nat.le_of_ble_eq_true rfl) rfl ?_
  refine R_aload_n (i := 0) (dX3_signsOf 0 rfl) rfl rfl ?_
  refine R_getR cgX3 3 (cl3 hS) 0 (Nat.le_of_ble_eq_true rfl) rfl (Or.inl tb_136) (dX3_signsOf 1 rfl) ?_
  refine R_iload_n (i := 1) (dX3_signsOf 2 rfl) rfl rfl ?_
  refine R_cS (st' := [.inl (rd 10 (M 4) x1)]) [.inr (.inr (some (ad 4))), .inl x1] [] (t_at l g S _ 4 (cl4 hS) (Nat.le_of_ble_eq_true rfl) x1) msX9_at (Or.inr ⟨_, tb_640⟩) ⟨Nat.le_of_ble_eq_true rfl, Nat.le_of_ble_eq_true rfl⟩ (Nat.zero_le _) (Nat.zero_le _) rfl rfl (Nat.le_of_ble_eq_true rfl) rfl (dX3_signsOf 3 rfl) ?_
  exact R_iret rfl rfl (Nat.zero_le _) (Nat.zero_le _) (dX3_signsOf 4 rfl) ⟨congrArg (fun z => some (Sum.inl z)) H, rfl, rfl⟩
def f_X3_priceOf (x1 : Int) (M : Mem) : Int :=
  rd 10 (M 5) x1
set_option maxHeartbeats 4000000 in
theorem t_X3_priceOf (l : Launch) (g : GG) (ad : Nat → Nat) (S : SW) (M : Mem) (hS : q_ag 0 38 ad S) (x1 : Int) : CT l g MX3_priceOf 2 0 0 S M [.inr (.inr (some (ad 3))), .inl x1] (q_ex S (some (.inl (f_X3_priceOf x1 M))) M) := by
  obtain ⟨r, H⟩ : ∃ r, f_X3_priceOf x1 M = r := ⟨_, rfl⟩
  rw [H]
  unfold f_X3_priceOf at H
  refine CT_of (ls0 := [some (.inr (.inr (some (ad 3)))), some (.inl x1)]) (by decide +kernel) (Nat.le_of_ble_eq_true rfl) rfl ?_
  refine R_aload_n (i := 0) (dX3_priceOf 0 rfl) rfl rfl ?_
  refine R_getR cgX3 3 (cl3 hS) 1 (Nat.le_of_ble_eq_true rfl) rfl (Or.inl tb_137) (dX3_priceOf 1 rfl) ?_
  refine R_iload_n (i := 1) (dX3_priceOf 2 rfl) rfl rfl ?_
  refine R_cS (st' := [.inl (rd 10 (M 5) x1)]) [.inr (.inr (some (ad 5))), .inl x1] [] (t_at l g S _ 5 (cl5 hS) (Nat.le_of_ble_eq_true rfl) x1) msX9_at (Or.inr ⟨_, tb_640⟩) ⟨Nat.le_of_ble_eq_true rfl, Nat.le_of_ble_eq_true rfl⟩ (Nat.zero_le _) (Nat.zero_le _) rfl rfl (Nat.le_of_ble_eq_true rfl) rfl (dX3_priceOf 3 rfl) ?_
  exact R_iret rfl rfl (Nat.zero_le _) (Nat.zero_le _) (dX3_priceOf 4 rfl) ⟨congrArg (fun z => some (Sum.inl z)) H, rfl, rfl⟩
def f_X6_joined (x0 : Int) (x1 : Int) (x2 : Int) : Int :=
  if x0 = 42 then
    w32 (x1 * x2)
  else if x0 = 43 then
    w32 (x1 + x2)
  else if x0 = 45 then
    w32 (x1 - x2)
  else if x0 = 60 then
    if x1 < x2 then
      1
    else
      0
  else if x0 = 61 then
    if x1 = x2 then
      1
    else
      0
  else if x0 = 260 then
    if x1 = 0 then
      0
    else
      if x2 = 0 then
        0
      else
        1
  else
    if x1 = 0 then
      if x2 = 0 then
        0
      else
        1
    else
      1
set_option maxHeartbeats 4000000 in
theorem t_X6_joined (l : Launch) (g : GG) (ad : Nat → Nat) (S : SW) (M : Mem) (hS : q_ag 12 21 ad S) (x0 : Int) (x1 : Int) (x2 : Int) : CT l g MX6_joined 1 0 0 S M [.inl x0, .inl x1, .inl x2] (q_ex S (some (.inl (f_X6_joined x0 x1 x2))) M) := by
  obtain ⟨r, H⟩ : ∃ r, f_X6_joined x0 x1 x2 = r := ⟨_, rfl⟩
  rw [H]
  unfold f_X6_joined at H
  refine CT_of (ls0 := [some (.inl x0), some (.inl x1), some (.inl x2)]) (by decide +kernel) (Nat.le_of_ble_eq_true rfl) rfl ?_
  refine R_iload_n (i := 0) (dX6_joined 0 rfl) rfl rfl ?_
  by_cases hc42 : x0 = 42
  · have H := ite_T H hc42
    refine R_lookup (tgt := 60) (dX6_joined 1 rfl) (by decide) (off := 59) (by rw [hc42]; rfl) (by decide) ?_
    refine R_iload_n (i := 1) (dX6_joined 2 rfl) rfl rfl ?_
    refine R_iload_n (i := 2) (dX6_joined 3 rfl) rfl rfl ?_
    refine R_imul (dX6_joined 4 rfl) ?_
    exact R_iret rfl rfl (Nat.zero_le _) (Nat.zero_le _) (dX6_joined 5 rfl) ⟨congrArg (fun z => some (Sum.inl z)) H, rfl, rfl⟩
  have H := ite_F H hc42
  by_cases hc43 : x0 = 43
  · have H := ite_T H hc43
    refine R_lookup (tgt := 64) (dX6_joined 1 rfl) (by decide) (off := 63) (by rw [hc43]; rfl) (by decide) ?_
    refine R_iload_n (i := 1) (dX6_joined 6 rfl) rfl rfl ?_
    refine R_iload_n (i := 2) (dX6_joined 7 rfl) rfl rfl ?_
    refine R_iadd (dX6_joined 8 rfl) ?_
    exact R_iret rfl rfl (Nat.zero_le _) (Nat.zero_le _) (dX6_joined 9 rfl) ⟨congrArg (fun z => some (Sum.inl z)) H, rfl, rfl⟩
  have H := ite_F H hc43
  by_cases hc45 : x0 = 45
  · have H := ite_T H hc45
    refine R_lookup (tgt := 68) (dX6_joined 1 rfl) (by decide) (off := 67) (by rw [hc45]; rfl) (by decide) ?_
    refine R_iload_n (i := 1) (dX6_joined 10 rfl) rfl rfl ?_
    refine R_iload_n (i := 2) (dX6_joined 11 rfl) rfl rfl ?_
    refine R_isub (dX6_joined 12 rfl) ?_
    exact R_iret rfl rfl (Nat.zero_le _) (Nat.zero_le _) (dX6_joined 13 rfl) ⟨congrArg (fun z => some (Sum.inl z)) H, rfl, rfl⟩
  have H := ite_F H hc45
  by_cases hc60 : x0 = 60
  · have H := ite_T H hc60
    refine R_lookup (tgt := 72) (dX6_joined 1 rfl) (by decide) (off := 71) (by rw [hc60]; rfl) (by decide) ?_
    refine R_iload_n (i := 1) (dX6_joined 14 rfl) rfl rfl ?_
    refine R_iload_n (i := 2) (dX6_joined 15 rfl) rfl rfl ?_
    refine R_icmp_ge (tgt := 81) (dX6_joined 16 rfl) (by decide) (fun hc => ?_) (fun hc => ?_)
    · have H := ite_F H hc
      refine R_iconst (dX6_joined 19 rfl) rfl ?_
      exact R_iret rfl rfl (Nat.zero_le _) (Nat.zero_le _) (dX6_joined 20 rfl) ⟨congrArg (fun z => some (Sum.inl z)) H, rfl, rfl⟩
    · have H := ite_T H hc
      refine R_iconst (dX6_joined 17 rfl) rfl ?_
      refine R_goto (tgt := 82) (dX6_joined 18 rfl) (by decide) ?_
      exact R_iret rfl rfl (Nat.zero_le _) (Nat.zero_le _) (dX6_joined 20 rfl) ⟨congrArg (fun z => some (Sum.inl z)) H, rfl, rfl⟩
  have H := ite_F H hc60
  by_cases hc61 : x0 = 61
  · have H := ite_T H hc61
    refine R_lookup (tgt := 83) (dX6_joined 1 rfl) (by decide) (off := 82) (by rw [hc61]; rfl) (by decide) ?_
    refine R_iload_n (i := 1) (dX6_joined 21 rfl) rfl rfl ?_
    refine R_iload_n (i := 2) (dX6_joined 22 rfl) rfl rfl ?_
    refine R_icmp_ne (tgt := 92) (dX6_joined 23 rfl) (by decide) (fun hc => ?_) (fun hc => ?_)
    · have H := ite_F H hc
      refine R_iconst (dX6_joined 26 rfl) rfl ?_
      exact R_iret rfl rfl (Nat.zero_le _) (Nat.zero_le _) (dX6_joined 27 rfl) ⟨congrArg (fun z => some (Sum.inl z)) H, rfl, rfl⟩
    · have H := ite_T H hc
      refine R_iconst (dX6_joined 24 rfl) rfl ?_
      refine R_goto (tgt := 93) (dX6_joined 25 rfl) (by decide) ?_
      exact R_iret rfl rfl (Nat.zero_le _) (Nat.zero_le _) (dX6_joined 27 rfl) ⟨congrArg (fun z => some (Sum.inl z)) H, rfl, rfl⟩
  have H := ite_F H hc61
  by_cases hc260 : x0 = 260
  · have H := ite_T H hc260
    refine R_lookup (tgt := 94) (dX6_joined 1 rfl) (by decide) (off := 93) (by rw [hc260]; rfl) (by decide) ?_
    refine R_iload_n (i := 1) (dX6_joined 28 rfl) rfl rfl ?_
    refine R_if_eq (tgt := 106) (dX6_joined 29 rfl) (by decide) (fun hc => ?_) (fun hc => ?_)
    · have H := ite_T H hc
      refine R_iconst (dX6_joined 34 rfl) rfl ?_
      exact R_iret rfl rfl (Nat.zero_le _) (Nat.zero_le _) (dX6_joined 35 rfl) ⟨congrArg (fun z => some (Sum.inl z)) H, rfl, rfl⟩
    · have H := ite_F H hc
      refine R_iload_n (i := 2) (dX6_joined 30 rfl) rfl rfl ?_
      refine R_if_eq (tgt := 106) (dX6_joined 31 rfl) (by decide) (fun hc => ?_) (fun hc => ?_)
      · have H := ite_T H hc
        refine R_iconst (dX6_joined 34 rfl) rfl ?_
        exact R_iret rfl rfl (Nat.zero_le _) (Nat.zero_le _) (dX6_joined 35 rfl) ⟨congrArg (fun z => some (Sum.inl z)) H, rfl, rfl⟩
      · have H := ite_F H hc
        refine R_iconst (dX6_joined 32 rfl) rfl ?_
        refine R_goto (tgt := 107) (dX6_joined 33 rfl) (by decide) ?_
        exact R_iret rfl rfl (Nat.zero_le _) (Nat.zero_le _) (dX6_joined 35 rfl) ⟨congrArg (fun z => some (Sum.inl z)) H, rfl, rfl⟩
  have H := ite_F H hc260
  refine R_lookup (tgt := 108) (dX6_joined 1 rfl) (by decide) (off := 107) (by show Op.lookupswitch.offset [(42, 59), (43, 63), (45, 67), (60, 71), (61, 82), (260, 93)] 107 (x0) = 107; simp only [Op.lookupswitch.offset_cons, Op.lookupswitch.offset_nil]; rw [if_neg (fun q => hc42 q.symm), if_neg (fun q => hc43 q.symm), if_neg (fun q => hc45 q.symm), if_neg (fun q => hc60 q.symm), if_neg (fun q => hc61 q.symm), if_neg (fun q => hc260 q.symm)]) (by decide) ?_
  refine R_iload_n (i := 1) (dX6_joined 36 rfl) rfl rfl ?_
  refine R_if_ne (tgt := 116) (dX6_joined 37 rfl) (by decide) (fun hc => ?_) (fun hc => ?_)
  · have H := ite_F H hc
    refine R_iconst (dX6_joined 40 rfl) rfl ?_
    refine R_goto (tgt := 121) (dX6_joined 41 rfl) (by decide) ?_
    exact R_iret rfl rfl (Nat.zero_le _) (Nat.zero_le _) (dX6_joined 43 rfl) ⟨congrArg (fun z => some (Sum.inl z)) H, rfl, rfl⟩
  · have H := ite_T H hc
    refine R_iload_n (i := 2) (dX6_joined 38 rfl) rfl rfl ?_
    refine R_if_eq (tgt := 120) (dX6_joined 39 rfl) (by decide) (fun hc => ?_) (fun hc => ?_)
    · have H := ite_T H hc
      refine R_iconst (dX6_joined 42 rfl) rfl ?_
      exact R_iret rfl rfl (Nat.zero_le _) (Nat.zero_le _) (dX6_joined 43 rfl) ⟨congrArg (fun z => some (Sum.inl z)) H, rfl, rfl⟩
    · have H := ite_F H hc
      refine R_iconst (dX6_joined 40 rfl) rfl ?_
      refine R_goto (tgt := 121) (dX6_joined 41 rfl) (by decide) ?_
      exact R_iret rfl rfl (Nat.zero_le _) (Nat.zero_le _) (dX6_joined 43 rfl) ⟨congrArg (fun z => some (Sum.inl z)) H, rfl, rfl⟩
def f_X6_valueOf_L43 (K230 : Mem → Option (Int × Mem)) (x1 : Int) (x4 : Int) : Nat → Int → Int → Mem → Option (Int × Mem)
  | 0, _, _, _ => none
  | n + 1, x5, x6, M =>
    if x6 < x4 then
      if rd 960 (M 17) (w32 ((w32 (x1 * 160)) + x6)) < 300 then
        if rd 960 (M 17) (w32 ((w32 (x1 * 160)) + x6)) = 261 then
          if rd 31 (M 19) x5 = 0 then
            f_X6_valueOf_L43 K230 x1 x4 n x5 (w32 (x6 + 1)) (wr M 19 31 x5 1)
          else
            f_X6_valueOf_L43 K230 x1 x4 n x5 (w32 (x6 + 1)) (wr M 19 31 x5 0)
        else
          if rd 960 (M 17) (w32 ((w32 (x1 * 160)) + x6)) = 262 then
            f_X6_valueOf_L43 K230 x1 x4 n x5 (w32 (x6 + 1)) (wr M 19 31 x5 (w32 (-(rd 31 (M 19) x5))))
          else
            f_X6_valueOf_L43 K230 x1 x4 n (w32 (x5 + (-1))) (w32 (x6 + 1)) (wr M 19 31 (w32 (x5 + (-1))) (f_X6_joined (rd 960 (M 17) (w32 ((w32 (x1 * 160)) + x6))) (rd 31 (M 19) (w32 (x5 + (-1)))) (rd 31 (M 19) (w32 ((w32 (x5 + (-1))) + 1)))))
      else
        if rd 960 (M 17) (w32 ((w32 (x1 * 160)) + x6)) < 1000 then
          f_X6_valueOf_L43 K230 x1 x4 n (w32 (x5 + 1)) (w32 (x6 + 1)) (wr M 19 31 (w32 (x5 + 1)) (rd 6 (M 20) (w32 ((rd 960 (M 17) (w32 ((w32 (x1 * 160)) + x6))) - 300))))
        else
          f_X6_valueOf_L43 K230 x1 x4 n (w32 (x5 + 1)) (w32 (x6 + 1)) (wr M 19 31 (w32 (x5 + 1)) (w32 ((rd 960 (M 17) (w32 ((w32 (x1 * 160)) + x6))) - 1000)))
    else
      K230 M
set_option maxHeartbeats 4000000 in
theorem t_X6_valueOf_L43 (l : Launch) (g : GG) (ad : Nat → Nat) (S : SW) (hS : q_ag 12 21 ad S) (x1 : Int) (x4 : Int) {K230 : Mem → Option (Int × Mem)} {r : Int} {M' : Mem} : ∀ (n : Nat) (x5 : Int) (x6 : Int) (M : Mem), f_X6_valueOf_L43 K230 x1 x4 n x5 x6 M = some (r, M') → (∀ (M1 : Mem), K230 M1 = some (r, M') → RW l g MX6_valueOf (q_rm 2 0 0) 0 0 (q_ex S (some (.inl r)) M') 230 S M1 0 0 [some (.inr (.inr (some (ad 12)))), none, none, none, none, none, none, none] []) → RW l g MX6_valueOf (q_rm 2 0 0) 0 0 (q_ex S (some (.inl r)) M') 43 S M 0 0 [some (.inr (.inr (some (ad 12)))), some (.inl x1), none, none, some (.inl x4), some (.inl x5), some (.inl x6), none] [] := by
  intro n
  induction n with
  | zero => intro x5 x6 M H; exact absurd H (by simp [f_X6_valueOf_L43])
  | succ n ih =>
    intro x5 x6 M H hK230
    rw [f_X6_valueOf_L43] at H
    refine R_iload (i := 6) (dX6_valueOf_0 28 rfl) rfl ?_
    refine R_iload (i := 4) (dX6_valueOf_0 29 rfl) rfl ?_
    refine R_icmp_ge (tgt := 230) (dX6_valueOf_0 30 rfl) (by decide) (fun hc => ?_) (fun hc => ?_)
    · have H := ite_F H hc
      refine R_mask [true, false, false, false, false, false, false, false] rfl ?_
      exact hK230 M H
    · have H := ite_T H hc
      refine R_aload_n (i := 0) (dX6_valueOf_0 31 rfl) rfl rfl ?_
      refine R_getR cgX6 12 (cl12 hS) 1 (Nat.le_of_ble_eq_true rfl) rfl (Or.inl tb_427) (dX6_valueOf_0 32 rfl) ?_
      refine R_iload_n (i := 1) (dX6_valueOf_0 33 rfl) rfl rfl ?_
      refine R_sipush (dX6_valueOf_0 34 rfl) rfl rfl ?_
      refine R_imul (dX6_valueOf_0 35 rfl) ?_
      refine R_iload (i := 6) (dX6_valueOf_0 36 rfl) rfl ?_
      refine R_iadd (dX6_valueOf_0 37 rfl) ?_
      refine R_cS (st' := [.inl (rd 960 (M 17) (w32 ((w32 (x1 * 160)) + x6)))]) [.inr (.inr (some (ad 17))), .inl (w32 ((w32 (x1 * 160)) + x6))] [] (t_at l g S _ 17 (cl17 hS) (Nat.le_of_ble_eq_true rfl) (w32 ((w32 (x1 * 160)) + x6))) msX9_at (Or.inr ⟨_, tb_387⟩) ⟨Nat.le_of_ble_eq_true rfl, Nat.le_of_ble_eq_true rfl⟩ (Nat.zero_le _) (Nat.zero_le _) rfl rfl (Nat.le_of_ble_eq_true rfl) rfl (dX6_valueOf_0 38 rfl) ?_
      refine R_istore (i := 7) (ls' := [some (.inr (.inr (some (ad 12)))), some (.inl x1), none, none, some (.inl x4), some (.inl x5), some (.inl x6), some (.inl (rd 960 (M 17) (w32 ((w32 (x1 * 160)) + x6))))]) (dX6_valueOf_0 39 rfl) (Nat.le_of_ble_eq_true rfl) (Nat.le_of_ble_eq_true rfl) rfl rfl ?_
      refine R_iload (i := 7) (dX6_valueOf_0 40 rfl) rfl ?_
      refine R_sipush (dX6_valueOf_0 41 rfl) rfl rfl ?_
      refine R_icmp_lt (tgt := 120) (dX6_valueOf_0 42 rfl) (by decide) (fun hc => ?_) (fun hc => ?_)
      · have H := ite_T H hc
        refine R_iload (i := 7) (dX6_valueOf_1 2 rfl) rfl ?_
        refine R_sipush (dX6_valueOf_1 3 rfl) rfl rfl ?_
        refine R_icmp_ne (tgt := 157) (dX6_valueOf_1 4 rfl) (by decide) (fun hc => ?_) (fun hc => ?_)
        · have H := ite_F H hc
          refine R_iload (i := 7) (dX6_valueOf_1 18 rfl) rfl ?_
          refine R_sipush (dX6_valueOf_1 19 rfl) rfl rfl ?_
          refine R_icmp_ne (tgt := 187) (dX6_valueOf_1 20 rfl) (by decide) (fun hc => ?_) (fun hc => ?_)
          · have H := ite_F H hc
            refine R_iinc (i := 5) (ls' := [some (.inr (.inr (some (ad 12)))), some (.inl x1), none, none, some (.inl x4), some (.inl (w32 (x5 + (-1)))), some (.inl x6), some (.inl (rd 960 (M 17) (w32 ((w32 (x1 * 160)) + x6))))]) (dX6_valueOf_1 31 rfl) rfl (Nat.le_of_ble_eq_true rfl) rfl rfl ?_
            refine R_aload_n (i := 0) (dX6_valueOf_1 32 rfl) rfl rfl ?_
            refine R_getR cgX6 12 (cl12 hS) 3 (Nat.le_of_ble_eq_true rfl) rfl (Or.inl tb_429) (dX6_valueOf_1 33 rfl) ?_
            refine R_iload (i := 5) (dX6_valueOf_1 34 rfl) rfl ?_
            refine R_iload (i := 7) (dX6_valueOf_1 35 rfl) rfl ?_
            refine R_aload_n (i := 0) (dX6_valueOf_1 36 rfl) rfl rfl ?_
            refine R_getR cgX6 12 (cl12 hS) 3 (Nat.le_of_ble_eq_true rfl) rfl (Or.inl tb_429) (dX6_valueOf_1 37 rfl) ?_
            refine R_iload (i := 5) (dX6_valueOf_1 38 rfl) rfl ?_
            refine R_cS (st' := [.inl (rd 31 (M 19) (w32 (x5 + (-1)))), .inl (rd 960 (M 17) (w32 ((w32 (x1 * 160)) + x6))), .inl (w32 (x5 + (-1))), .inr (.inr (some (ad 19)))]) [.inr (.inr (some (ad 19))), .inl (w32 (x5 + (-1)))] [.inl (rd 960 (M 17) (w32 ((w32 (x1 * 160)) + x6))), .inl (w32 (x5 + (-1))), .inr (.inr (some (ad 19)))] (t_at l g S _ 19 (cl19 hS) (Nat.le_of_ble_eq_true rfl) (w32 (x5 + (-1)))) msX9_at (Or.inr ⟨_, tb_387⟩) ⟨Nat.le_of_ble_eq_true rfl, Nat.le_of_ble_eq_true rfl⟩ (Nat.zero_le _) (Nat.zero_le _) rfl rfl (Nat.le_of_ble_eq_true rfl) rfl (dX6_valueOf_1 39 rfl) ?_
            refine R_aload_n (i := 0) (dX6_valueOf_1 40 rfl) rfl rfl ?_
            refine R_getR cgX6 12 (cl12 hS) 3 (Nat.le_of_ble_eq_true rfl) rfl (Or.inl tb_429) (dX6_valueOf_1 41 rfl) ?_
            refine R_iload (i := 5) (dX6_valueOf_1 42 rfl) rfl ?_
            refine R_iconst (dX6_valueOf_1 43 rfl) rfl ?_
            refine R_iadd (dX6_valueOf_1 44 rfl) ?_
            refine R_cS (st' := [.inl (rd 31 (M 19) (w32 ((w32 (x5 + (-1))) + 1))), .inl (rd 31 (M 19) (w32 (x5 + (-1)))), .inl (rd 960 (M 17) (w32 ((w32 (x1 * 160)) + x6))), .inl (w32 (x5 + (-1))), .inr (.inr (some (ad 19)))]) [.inr (.inr (some (ad 19))), .inl (w32 ((w32 (x5 + (-1))) + 1))] [.inl (rd 31 (M 19) (w32 (x5 + (-1)))), .inl (rd 960 (M 17) (w32 ((w32 (x1 * 160)) + x6))), .inl (w32 (x5 + (-1))), .inr (.inr (some (ad 19)))] (t_at l g S _ 19 (cl19 hS) (Nat.le_of_ble_eq_true rfl) (w32 ((w32 (x5 + (-1))) + 1))) msX9_at (Or.inr ⟨_, tb_387⟩) ⟨Nat.le_of_ble_eq_true rfl, Nat.le_of_ble_eq_true rfl⟩ (Nat.zero_le _) (Nat.zero_le _) rfl rfl (Nat.le_of_ble_eq_true rfl) rfl (dX6_valueOf_1 45 rfl) ?_
            refine R_cS (st' := [.inl (f_X6_joined (rd 960 (M 17) (w32 ((w32 (x1 * 160)) + x6))) (rd 31 (M 19) (w32 (x5 + (-1)))) (rd 31 (M 19) (w32 ((w32 (x5 + (-1))) + 1)))), .inl (w32 (x5 + (-1))), .inr (.inr (some (ad 19)))]) [.inl (rd 960 (M 17) (w32 ((w32 (x1 * 160)) + x6))), .inl (rd 31 (M 19) (w32 (x5 + (-1)))), .inl (rd 31 (M 19) (w32 ((w32 (x5 + (-1))) + 1)))] [.inl (w32 (x5 + (-1))), .inr (.inr (some (ad 19)))] (t_X6_joined l g ad S _ hS   (rd 960 (M 17) (w32 ((w32 (x1 * 160)) + x6))) (rd 31 (M 19) (w32 (x5 + (-1)))) (rd 31 (M 19) (w32 ((w32 (x5 + (-1))) + 1)))) msX6_joined (Or.inl tb_702) ⟨Nat.le_of_ble_eq_true rfl, Nat.le_of_ble_eq_true rfl⟩ (Nat.zero_le _) (Nat.zero_le _) rfl rfl (Nat.le_of_ble_eq_true rfl) rfl (dX6_valueOf_1 46 rfl) ?_
            refine R_cS (st' := []) [.inr (.inr (some (ad 19))), .inl (w32 (x5 + (-1))), .inl (f_X6_joined (rd 960 (M 17) (w32 ((w32 (x1 * 160)) + x6))) (rd 31 (M 19) (w32 (x5 + (-1)))) (rd 31 (M 19) (w32 ((w32 (x5 + (-1))) + 1))))] [] (t_put l g S _ 19 (cl19 hS) (Nat.le_of_ble_eq_true rfl) (w32 (x5 + (-1))) (f_X6_joined (rd 960 (M 17) (w32 ((w32 (x1 * 160)) + x6))) (rd 31 (M 19) (w32 (x5 + (-1)))) (rd 31 (M 19) (w32 ((w32 (x5 + (-1))) + 1))))) msX9_put (Or.inr ⟨_, tb_420⟩) ⟨Nat.le_of_ble_eq_true rfl, Nat.le_of_ble_eq_true rfl⟩ (Nat.zero_le _) (Nat.zero_le _) rfl rfl (Nat.le_of_ble_eq_true rfl) rfl (dX6_valueOf_1 47 rfl) ?_
            refine R_iinc (i := 6) (ls' := [some (.inr (.inr (some (ad 12)))), some (.inl x1), none, none, some (.inl x4), some (.inl (w32 (x5 + (-1)))), some (.inl (w32 (x6 + 1))), some (.inl (rd 960 (M 17) (w32 ((w32 (x1 * 160)) + x6))))]) (dX6_valueOf_1 48 rfl) rfl (Nat.le_of_ble_eq_true rfl) rfl rfl ?_
            refine R_goto (tgt := 43) (dX6_valueOf_1 49 rfl) (by decide) ?_
            refine R_mask [true, true, false, false, true, true, true, false] rfl ?_
            exact ih (w32 (x5 + (-1))) (w32 (x6 + 1)) (wr M 19 31 (w32 (x5 + (-1))) (f_X6_joined (rd 960 (M 17) (w32 ((w32 (x1 * 160)) + x6))) (rd 31 (M 19) (w32 (x5 + (-1)))) (rd 31 (M 19) (w32 ((w32 (x5 + (-1))) + 1))))) H hK230
          · have H := ite_T H hc
            refine R_aload_n (i := 0) (dX6_valueOf_1 21 rfl) rfl rfl ?_
            refine R_getR cgX6 12 (cl12 hS) 3 (Nat.le_of_ble_eq_true rfl) rfl (Or.inl tb_429) (dX6_valueOf_1 22 rfl) ?_
            refine R_iload (i := 5) (dX6_valueOf_1 23 rfl) rfl ?_
            refine R_aload_n (i := 0) (dX6_valueOf_1 24 rfl) rfl rfl ?_
            refine R_getR cgX6 12 (cl12 hS) 3 (Nat.le_of_ble_eq_true rfl) rfl (Or.inl tb_429) (dX6_valueOf_1 25 rfl) ?_
            refine R_iload (i := 5) (dX6_valueOf_1 26 rfl) rfl ?_
            refine R_cS (st' := [.inl (rd 31 (M 19) x5), .inl x5, .inr (.inr (some (ad 19)))]) [.inr (.inr (some (ad 19))), .inl x5] [.inl x5, .inr (.inr (some (ad 19)))] (t_at l g S _ 19 (cl19 hS) (Nat.le_of_ble_eq_true rfl) x5) msX9_at (Or.inr ⟨_, tb_387⟩) ⟨Nat.le_of_ble_eq_true rfl, Nat.le_of_ble_eq_true rfl⟩ (Nat.zero_le _) (Nat.zero_le _) rfl rfl (Nat.le_of_ble_eq_true rfl) rfl (dX6_valueOf_1 27 rfl) ?_
            refine R_ineg (dX6_valueOf_1 28 rfl) ?_
            refine R_cS (st' := []) [.inr (.inr (some (ad 19))), .inl x5, .inl (w32 (-(rd 31 (M 19) x5)))] [] (t_put l g S _ 19 (cl19 hS) (Nat.le_of_ble_eq_true rfl) x5 (w32 (-(rd 31 (M 19) x5)))) msX9_put (Or.inr ⟨_, tb_420⟩) ⟨Nat.le_of_ble_eq_true rfl, Nat.le_of_ble_eq_true rfl⟩ (Nat.zero_le _) (Nat.zero_le _) rfl rfl (Nat.le_of_ble_eq_true rfl) rfl (dX6_valueOf_1 29 rfl) ?_
            refine R_goto (tgt := 224) (dX6_valueOf_1 30 rfl) (by decide) ?_
            refine R_iinc (i := 6) (ls' := [some (.inr (.inr (some (ad 12)))), some (.inl x1), none, none, some (.inl x4), some (.inl x5), some (.inl (w32 (x6 + 1))), some (.inl (rd 960 (M 17) (w32 ((w32 (x1 * 160)) + x6))))]) (dX6_valueOf_1 48 rfl) rfl (Nat.le_of_ble_eq_true rfl) rfl rfl ?_
            refine R_goto (tgt := 43) (dX6_valueOf_1 49 rfl) (by decide) ?_
            refine R_mask [true, true, false, false, true, true, true, false] rfl ?_
            exact ih x5 (w32 (x6 + 1)) (wr M 19 31 x5 (w32 (-(rd 31 (M 19) x5)))) H hK230
        · have H := ite_T H hc
          refine R_aload_n (i := 0) (dX6_valueOf_1 5 rfl) rfl rfl ?_
          refine R_getR cgX6 12 (cl12 hS) 3 (Nat.le_of_ble_eq_true rfl) rfl (Or.inl tb_429) (dX6_valueOf_1 6 rfl) ?_
          refine R_iload (i := 5) (dX6_valueOf_1 7 rfl) rfl ?_
          refine R_aload_n (i := 0) (dX6_valueOf_1 8 rfl) rfl rfl ?_
          refine R_getR cgX6 12 (cl12 hS) 3 (Nat.le_of_ble_eq_true rfl) rfl (Or.inl tb_429) (dX6_valueOf_1 9 rfl) ?_
          refine R_iload (i := 5) (dX6_valueOf_1 10 rfl) rfl ?_
          refine R_cS (st' := [.inl (rd 31 (M 19) x5), .inl x5, .inr (.inr (some (ad 19)))]) [.inr (.inr (some (ad 19))), .inl x5] [.inl x5, .inr (.inr (some (ad 19)))] (t_at l g S _ 19 (cl19 hS) (Nat.le_of_ble_eq_true rfl) x5) msX9_at (Or.inr ⟨_, tb_387⟩) ⟨Nat.le_of_ble_eq_true rfl, Nat.le_of_ble_eq_true rfl⟩ (Nat.zero_le _) (Nat.zero_le _) rfl rfl (Nat.le_of_ble_eq_true rfl) rfl (dX6_valueOf_1 11 rfl) ?_
          refine R_if_ne (tgt := 150) (dX6_valueOf_1 12 rfl) (by decide) (fun hc => ?_) (fun hc => ?_)
          · have H := ite_F H hc
            refine R_iconst (dX6_valueOf_1 15 rfl) rfl ?_
            refine R_cS (st' := []) [.inr (.inr (some (ad 19))), .inl x5, .inl 0] [] (t_put l g S _ 19 (cl19 hS) (Nat.le_of_ble_eq_true rfl) x5 0) msX9_put (Or.inr ⟨_, tb_420⟩) ⟨Nat.le_of_ble_eq_true rfl, Nat.le_of_ble_eq_true rfl⟩ (Nat.zero_le _) (Nat.zero_le _) rfl rfl (Nat.le_of_ble_eq_true rfl) rfl (dX6_valueOf_1 16 rfl) ?_
            refine R_goto (tgt := 224) (dX6_valueOf_1 17 rfl) (by decide) ?_
            refine R_iinc (i := 6) (ls' := [some (.inr (.inr (some (ad 12)))), some (.inl x1), none, none, some (.inl x4), some (.inl x5), some (.inl (w32 (x6 + 1))), some (.inl (rd 960 (M 17) (w32 ((w32 (x1 * 160)) + x6))))]) (dX6_valueOf_1 48 rfl) rfl (Nat.le_of_ble_eq_true rfl) rfl rfl ?_
            refine R_goto (tgt := 43) (dX6_valueOf_1 49 rfl) (by decide) ?_
            refine R_mask [true, true, false, false, true, true, true, false] rfl ?_
            exact ih x5 (w32 (x6 + 1)) (wr M 19 31 x5 0) H hK230
          · have H := ite_T H hc
            refine R_iconst (dX6_valueOf_1 13 rfl) rfl ?_
            refine R_goto (tgt := 151) (dX6_valueOf_1 14 rfl) (by decide) ?_
            refine R_cS (st' := []) [.inr (.inr (some (ad 19))), .inl x5, .inl 1] [] (t_put l g S _ 19 (cl19 hS) (Nat.le_of_ble_eq_true rfl) x5 1) msX9_put (Or.inr ⟨_, tb_420⟩) ⟨Nat.le_of_ble_eq_true rfl, Nat.le_of_ble_eq_true rfl⟩ (Nat.zero_le _) (Nat.zero_le _) rfl rfl (Nat.le_of_ble_eq_true rfl) rfl (dX6_valueOf_1 16 rfl) ?_
            refine R_goto (tgt := 224) (dX6_valueOf_1 17 rfl) (by decide) ?_
            refine R_iinc (i := 6) (ls' := [some (.inr (.inr (some (ad 12)))), some (.inl x1), none, none, some (.inl x4), some (.inl x5), some (.inl (w32 (x6 + 1))), some (.inl (rd 960 (M 17) (w32 ((w32 (x1 * 160)) + x6))))]) (dX6_valueOf_1 48 rfl) rfl (Nat.le_of_ble_eq_true rfl) rfl rfl ?_
            refine R_goto (tgt := 43) (dX6_valueOf_1 49 rfl) (by decide) ?_
            refine R_mask [true, true, false, false, true, true, true, false] rfl ?_
            exact ih x5 (w32 (x6 + 1)) (wr M 19 31 x5 1) H hK230
      · have H := ite_F H hc
        refine R_iinc (i := 5) (ls' := [some (.inr (.inr (some (ad 12)))), some (.inl x1), none, none, some (.inl x4), some (.inl (w32 (x5 + 1))), some (.inl x6), some (.inl (rd 960 (M 17) (w32 ((w32 (x1 * 160)) + x6))))]) (dX6_valueOf_0 43 rfl) rfl (Nat.le_of_ble_eq_true rfl) rfl rfl ?_
        refine R_aload_n (i := 0) (dX6_valueOf_0 44 rfl) rfl rfl ?_
        refine R_getR cgX6 12 (cl12 hS) 3 (Nat.le_of_ble_eq_true rfl) rfl (Or.inl tb_429) (dX6_valueOf_0 45 rfl) ?_
        refine R_iload (i := 5) (dX6_valueOf_0 46 rfl) rfl ?_
        refine R_iload (i := 7) (dX6_valueOf_0 47 rfl) rfl ?_
        refine R_sipush (dX6_valueOf_0 48 rfl) rfl rfl ?_
        refine R_icmp_lt (tgt := 101) (dX6_valueOf_0 49 rfl) (by decide) (fun hc => ?_) (fun hc => ?_)
        · have H := ite_T H hc
          refine R_aload_n (i := 0) (dX6_valueOf_0 54 rfl) rfl rfl ?_
          refine R_getR cgX6 12 (cl12 hS) 4 (Nat.le_of_ble_eq_true rfl) rfl (Or.inl tb_430) (dX6_valueOf_0 55 rfl) ?_
          refine R_iload (i := 7) (dX6_valueOf_0 56 rfl) rfl ?_
          refine R_sipush (dX6_valueOf_0 57 rfl) rfl rfl ?_
          refine R_isub (dX6_valueOf_0 58 rfl) ?_
          refine R_cS (st' := [.inl (rd 6 (M 20) (w32 ((rd 960 (M 17) (w32 ((w32 (x1 * 160)) + x6))) - 300))), .inl (w32 (x5 + 1)), .inr (.inr (some (ad 19)))]) [.inr (.inr (some (ad 20))), .inl (w32 ((rd 960 (M 17) (w32 ((w32 (x1 * 160)) + x6))) - 300))] [.inl (w32 (x5 + 1)), .inr (.inr (some (ad 19)))] (t_at l g S _ 20 (cl20 hS) (Nat.le_of_ble_eq_true rfl) (w32 ((rd 960 (M 17) (w32 ((w32 (x1 * 160)) + x6))) - 300))) msX9_at (Or.inr ⟨_, tb_387⟩) ⟨Nat.le_of_ble_eq_true rfl, Nat.le_of_ble_eq_true rfl⟩ (Nat.zero_le _) (Nat.zero_le _) rfl rfl (Nat.le_of_ble_eq_true rfl) rfl (dX6_valueOf_0 59 rfl) ?_
          refine R_cS (st' := []) [.inr (.inr (some (ad 19))), .inl (w32 (x5 + 1)), .inl (rd 6 (M 20) (w32 ((rd 960 (M 17) (w32 ((w32 (x1 * 160)) + x6))) - 300)))] [] (t_put l g S _ 19 (cl19 hS) (Nat.le_of_ble_eq_true rfl) (w32 (x5 + 1)) (rd 6 (M 20) (w32 ((rd 960 (M 17) (w32 ((w32 (x1 * 160)) + x6))) - 300)))) msX9_put (Or.inr ⟨_, tb_420⟩) ⟨Nat.le_of_ble_eq_true rfl, Nat.le_of_ble_eq_true rfl⟩ (Nat.zero_le _) (Nat.zero_le _) rfl rfl (Nat.le_of_ble_eq_true rfl) rfl (dX6_valueOf_1 0 rfl) ?_
          refine R_goto (tgt := 224) (dX6_valueOf_1 1 rfl) (by decide) ?_
          refine R_iinc (i := 6) (ls' := [some (.inr (.inr (some (ad 12)))), some (.inl x1), none, none, some (.inl x4), some (.inl (w32 (x5 + 1))), some (.inl (w32 (x6 + 1))), some (.inl (rd 960 (M 17) (w32 ((w32 (x1 * 160)) + x6))))]) (dX6_valueOf_1 48 rfl) rfl (Nat.le_of_ble_eq_true rfl) rfl rfl ?_
          refine R_goto (tgt := 43) (dX6_valueOf_1 49 rfl) (by decide) ?_
          refine R_mask [true, true, false, false, true, true, true, false] rfl ?_
          exact ih (w32 (x5 + 1)) (w32 (x6 + 1)) (wr M 19 31 (w32 (x5 + 1)) (rd 6 (M 20) (w32 ((rd 960 (M 17) (w32 ((w32 (x1 * 160)) + x6))) - 300)))) H hK230
        · have H := ite_F H hc
          refine R_iload (i := 7) (dX6_valueOf_0 50 rfl) rfl ?_
          refine R_sipush (dX6_valueOf_0 51 rfl) rfl rfl ?_
          refine R_isub (dX6_valueOf_0 52 rfl) ?_
          refine R_goto (tgt := 114) (dX6_valueOf_0 53 rfl) (by decide) ?_
          refine R_cS (st' := []) [.inr (.inr (some (ad 19))), .inl (w32 (x5 + 1)), .inl (w32 ((rd 960 (M 17) (w32 ((w32 (x1 * 160)) + x6))) - 1000))] [] (t_put l g S _ 19 (cl19 hS) (Nat.le_of_ble_eq_true rfl) (w32 (x5 + 1)) (w32 ((rd 960 (M 17) (w32 ((w32 (x1 * 160)) + x6))) - 1000))) msX9_put (Or.inr ⟨_, tb_420⟩) ⟨Nat.le_of_ble_eq_true rfl, Nat.le_of_ble_eq_true rfl⟩ (Nat.zero_le _) (Nat.zero_le _) rfl rfl (Nat.le_of_ble_eq_true rfl) rfl (dX6_valueOf_1 0 rfl) ?_
          refine R_goto (tgt := 224) (dX6_valueOf_1 1 rfl) (by decide) ?_
          refine R_iinc (i := 6) (ls' := [some (.inr (.inr (some (ad 12)))), some (.inl x1), none, none, some (.inl x4), some (.inl (w32 (x5 + 1))), some (.inl (w32 (x6 + 1))), some (.inl (rd 960 (M 17) (w32 ((w32 (x1 * 160)) + x6))))]) (dX6_valueOf_1 48 rfl) rfl (Nat.le_of_ble_eq_true rfl) rfl rfl ?_
          refine R_goto (tgt := 43) (dX6_valueOf_1 49 rfl) (by decide) ?_
          refine R_mask [true, true, false, false, true, true, true, false] rfl ?_
          exact ih (w32 (x5 + 1)) (w32 (x6 + 1)) (wr M 19 31 (w32 (x5 + 1)) (w32 ((rd 960 (M 17) (w32 ((w32 (x1 * 160)) + x6))) - 1000))) H hK230
def f_X6_valueOf (x1 : Int) (x2 : Int) (M : Mem) : Option (Int × Mem) :=
  if x2 = 0 then
    f_X6_valueOf_L43
      (fun M2 =>
        some (rd 31 (M2 19) 0, M2)
      )
      x1 (rd 18 (M 18) (w32 ((w32 (x1 * 3)) + x2))) 100000 (-1) 0 M
  else
    f_X6_valueOf_L43
      (fun M1 =>
        some (rd 31 (M1 19) 0, M1)
      )
      x1 (rd 18 (M 18) (w32 ((w32 (x1 * 3)) + x2))) 100000 (-1) (rd 18 (M 18) (w32 ((w32 ((w32 (x1 * 3)) + x2)) - 1))) M
set_option maxHeartbeats 4000000 in
theorem t_X6_valueOf (l : Launch) (g : GG) (ad : Nat → Nat) (S : SW) (M : Mem) (hS : q_ag 12 21 ad S) (x1 : Int) (x2 : Int) {r : Int} {M' : Mem} (H : f_X6_valueOf x1 x2 M = some (r, M')) : CT l g MX6_valueOf 2 0 0 S M [.inr (.inr (some (ad 12))), .inl x1, .inl x2] (q_ex S (some (.inl r)) M') := by
  unfold f_X6_valueOf at H
  refine CT_of (ls0 := [some (.inr (.inr (some (ad 12)))), some (.inl x1), some (.inl x2), none, none, none, none, none]) (by decide +kernel) (Nat.le_of_ble_eq_true rfl) rfl ?_
  refine R_iload_n (i := 2) (dX6_valueOf_0 0 rfl) rfl rfl ?_
  refine R_if_ne (tgt := 8) (dX6_valueOf_0 1 rfl) (by decide) (fun hc => ?_) (fun hc => ?_)
  · have H := ite_F H hc
    refine R_aload_n (i := 0) (dX6_valueOf_0 4 rfl) rfl rfl ?_
    refine R_getR cgX6 12 (cl12 hS) 2 (Nat.le_of_ble_eq_true rfl) rfl (Or.inl tb_428) (dX6_valueOf_0 5 rfl) ?_
    refine R_iload_n (i := 1) (dX6_valueOf_0 6 rfl) rfl rfl ?_
    refine R_iconst (dX6_valueOf_0 7 rfl) rfl ?_
    refine R_imul (dX6_valueOf_0 8 rfl) ?_
    refine R_iload_n (i := 2) (dX6_valueOf_0 9 rfl) rfl rfl ?_
    refine R_iadd (dX6_valueOf_0 10 rfl) ?_
    refine R_iconst (dX6_valueOf_0 11 rfl) rfl ?_
    refine R_isub (dX6_valueOf_0 12 rfl) ?_
    refine R_cS (st' := [.inl (rd 18 (M 18) (w32 ((w32 ((w32 (x1 * 3)) + x2)) - 1)))]) [.inr (.inr (some (ad 18))), .inl (w32 ((w32 ((w32 (x1 * 3)) + x2)) - 1))] [] (t_at l g S _ 18 (cl18 hS) (Nat.le_of_ble_eq_true rfl) (w32 ((w32 ((w32 (x1 * 3)) + x2)) - 1))) msX9_at (Or.inr ⟨_, tb_387⟩) ⟨Nat.le_of_ble_eq_true rfl, Nat.le_of_ble_eq_true rfl⟩ (Nat.zero_le _) (Nat.zero_le _) rfl rfl (Nat.le_of_ble_eq_true rfl) rfl (dX6_valueOf_0 13 rfl) ?_
    refine R_istore_n (i := 3) (ls' := [some (.inr (.inr (some (ad 12)))), some (.inl x1), some (.inl x2), some (.inl (rd 18 (M 18) (w32 ((w32 ((w32 (x1 * 3)) + x2)) - 1)))), none, none, none, none]) (dX6_valueOf_0 14 rfl) rfl (Nat.le_of_ble_eq_true rfl) (Nat.le_of_ble_eq_true rfl) rfl rfl ?_
    refine R_aload_n (i := 0) (dX6_valueOf_0 15 rfl) rfl rfl ?_
    refine R_getR cgX6 12 (cl12 hS) 2 (Nat.le_of_ble_eq_true rfl) rfl (Or.inl tb_428) (dX6_valueOf_0 16 rfl) ?_
    refine R_iload_n (i := 1) (dX6_valueOf_0 17 rfl) rfl rfl ?_
    refine R_iconst (dX6_valueOf_0 18 rfl) rfl ?_
    refine R_imul (dX6_valueOf_0 19 rfl) ?_
    refine R_iload_n (i := 2) (dX6_valueOf_0 20 rfl) rfl rfl ?_
    refine R_iadd (dX6_valueOf_0 21 rfl) ?_
    refine R_cS (st' := [.inl (rd 18 (M 18) (w32 ((w32 (x1 * 3)) + x2)))]) [.inr (.inr (some (ad 18))), .inl (w32 ((w32 (x1 * 3)) + x2))] [] (t_at l g S _ 18 (cl18 hS) (Nat.le_of_ble_eq_true rfl) (w32 ((w32 (x1 * 3)) + x2))) msX9_at (Or.inr ⟨_, tb_387⟩) ⟨Nat.le_of_ble_eq_true rfl, Nat.le_of_ble_eq_true rfl⟩ (Nat.zero_le _) (Nat.zero_le _) rfl rfl (Nat.le_of_ble_eq_true rfl) rfl (dX6_valueOf_0 22 rfl) ?_
    refine R_istore (i := 4) (ls' := [some (.inr (.inr (some (ad 12)))), some (.inl x1), some (.inl x2), some (.inl (rd 18 (M 18) (w32 ((w32 ((w32 (x1 * 3)) + x2)) - 1)))), some (.inl (rd 18 (M 18) (w32 ((w32 (x1 * 3)) + x2)))), none, none, none]) (dX6_valueOf_0 23 rfl) (Nat.le_of_ble_eq_true rfl) (Nat.le_of_ble_eq_true rfl) rfl rfl ?_
    refine R_iconst (dX6_valueOf_0 24 rfl) rfl ?_
    refine R_istore (i := 5) (ls' := [some (.inr (.inr (some (ad 12)))), some (.inl x1), some (.inl x2), some (.inl (rd 18 (M 18) (w32 ((w32 ((w32 (x1 * 3)) + x2)) - 1)))), some (.inl (rd 18 (M 18) (w32 ((w32 (x1 * 3)) + x2)))), some (.inl (-1)), none, none]) (dX6_valueOf_0 25 rfl) (Nat.le_of_ble_eq_true rfl) (Nat.le_of_ble_eq_true rfl) rfl rfl ?_
    refine R_iload_n (i := 3) (dX6_valueOf_0 26 rfl) rfl rfl ?_
    refine R_istore (i := 6) (ls' := [some (.inr (.inr (some (ad 12)))), some (.inl x1), some (.inl x2), some (.inl (rd 18 (M 18) (w32 ((w32 ((w32 (x1 * 3)) + x2)) - 1)))), some (.inl (rd 18 (M 18) (w32 ((w32 (x1 * 3)) + x2)))), some (.inl (-1)), some (.inl (rd 18 (M 18) (w32 ((w32 ((w32 (x1 * 3)) + x2)) - 1)))), none]) (dX6_valueOf_0 27 rfl) (Nat.le_of_ble_eq_true rfl) (Nat.le_of_ble_eq_true rfl) rfl rfl ?_
    refine R_mask [true, true, false, false, true, true, true, false] rfl ?_
    refine t_X6_valueOf_L43 l g ad S hS x1 (rd 18 (M 18) (w32 ((w32 (x1 * 3)) + x2)))  100000 (-1) (rd 18 (M 18) (w32 ((w32 ((w32 (x1 * 3)) + x2)) - 1))) M H (fun M1 H => ?_)
    refine R_aload_n (i := 0) (dX6_valueOf_1 50 rfl) rfl rfl ?_
    refine R_getR cgX6 12 (cl12 hS) 3 (Nat.le_of_ble_eq_true rfl) rfl (Or.inl tb_429) (dX6_valueOf_1 51 rfl) ?_
    refine R_iconst (dX6_valueOf_1 52 rfl) rfl ?_
    refine R_cS (st' := [.inl (rd 31 (M1 19) 0)]) [.inr (.inr (some (ad 19))), .inl 0] [] (t_at l g S _ 19 (cl19 hS) (Nat.le_of_ble_eq_true rfl) 0) msX9_at (Or.inr ⟨_, tb_387⟩) ⟨Nat.le_of_ble_eq_true rfl, Nat.le_of_ble_eq_true rfl⟩ (Nat.zero_le _) (Nat.zero_le _) rfl rfl (Nat.le_of_ble_eq_true rfl) rfl (dX6_valueOf_1 53 rfl) ?_
    exact R_iret rfl rfl (Nat.zero_le _) (Nat.zero_le _) (dX6_valueOf_1 54 rfl) ⟨congrArg (fun z => some (Sum.inl z)) (Prod.mk.inj (Option.some.inj H)).1, rfl, (Prod.mk.inj (Option.some.inj H)).2⟩
  · have H := ite_T H hc
    refine R_iconst (dX6_valueOf_0 2 rfl) rfl ?_
    refine R_goto (tgt := 22) (dX6_valueOf_0 3 rfl) (by decide) ?_
    refine R_istore_n (i := 3) (ls' := [some (.inr (.inr (some (ad 12)))), some (.inl x1), some (.inl x2), some (.inl 0), none, none, none, none]) (dX6_valueOf_0 14 rfl) rfl (Nat.le_of_ble_eq_true rfl) (Nat.le_of_ble_eq_true rfl) rfl rfl ?_
    refine R_aload_n (i := 0) (dX6_valueOf_0 15 rfl) rfl rfl ?_
    refine R_getR cgX6 12 (cl12 hS) 2 (Nat.le_of_ble_eq_true rfl) rfl (Or.inl tb_428) (dX6_valueOf_0 16 rfl) ?_
    refine R_iload_n (i := 1) (dX6_valueOf_0 17 rfl) rfl rfl ?_
    refine R_iconst (dX6_valueOf_0 18 rfl) rfl ?_
    refine R_imul (dX6_valueOf_0 19 rfl) ?_
    refine R_iload_n (i := 2) (dX6_valueOf_0 20 rfl) rfl rfl ?_
    refine R_iadd (dX6_valueOf_0 21 rfl) ?_
    refine R_cS (st' := [.inl (rd 18 (M 18) (w32 ((w32 (x1 * 3)) + x2)))]) [.inr (.inr (some (ad 18))), .inl (w32 ((w32 (x1 * 3)) + x2))] [] (t_at l g S _ 18 (cl18 hS) (Nat.le_of_ble_eq_true rfl) (w32 ((w32 (x1 * 3)) + x2))) msX9_at (Or.inr ⟨_, tb_387⟩) ⟨Nat.le_of_ble_eq_true rfl, Nat.le_of_ble_eq_true rfl⟩ (Nat.zero_le _) (Nat.zero_le _) rfl rfl (Nat.le_of_ble_eq_true rfl) rfl (dX6_valueOf_0 22 rfl) ?_
    refine R_istore (i := 4) (ls' := [some (.inr (.inr (some (ad 12)))), some (.inl x1), some (.inl x2), some (.inl 0), some (.inl (rd 18 (M 18) (w32 ((w32 (x1 * 3)) + x2)))), none, none, none]) (dX6_valueOf_0 23 rfl) (Nat.le_of_ble_eq_true rfl) (Nat.le_of_ble_eq_true rfl) rfl rfl ?_
    refine R_iconst (dX6_valueOf_0 24 rfl) rfl ?_
    refine R_istore (i := 5) (ls' := [some (.inr (.inr (some (ad 12)))), some (.inl x1), some (.inl x2), some (.inl 0), some (.inl (rd 18 (M 18) (w32 ((w32 (x1 * 3)) + x2)))), some (.inl (-1)), none, none]) (dX6_valueOf_0 25 rfl) (Nat.le_of_ble_eq_true rfl) (Nat.le_of_ble_eq_true rfl) rfl rfl ?_
    refine R_iload_n (i := 3) (dX6_valueOf_0 26 rfl) rfl rfl ?_
    refine R_istore (i := 6) (ls' := [some (.inr (.inr (some (ad 12)))), some (.inl x1), some (.inl x2), some (.inl 0), some (.inl (rd 18 (M 18) (w32 ((w32 (x1 * 3)) + x2)))), some (.inl (-1)), some (.inl 0), none]) (dX6_valueOf_0 27 rfl) (Nat.le_of_ble_eq_true rfl) (Nat.le_of_ble_eq_true rfl) rfl rfl ?_
    refine R_mask [true, true, false, false, true, true, true, false] rfl ?_
    refine t_X6_valueOf_L43 l g ad S hS x1 (rd 18 (M 18) (w32 ((w32 (x1 * 3)) + x2)))  100000 (-1) 0 M H (fun M2 H => ?_)
    refine R_aload_n (i := 0) (dX6_valueOf_1 50 rfl) rfl rfl ?_
    refine R_getR cgX6 12 (cl12 hS) 3 (Nat.le_of_ble_eq_true rfl) rfl (Or.inl tb_429) (dX6_valueOf_1 51 rfl) ?_
    refine R_iconst (dX6_valueOf_1 52 rfl) rfl ?_
    refine R_cS (st' := [.inl (rd 31 (M2 19) 0)]) [.inr (.inr (some (ad 19))), .inl 0] [] (t_at l g S _ 19 (cl19 hS) (Nat.le_of_ble_eq_true rfl) 0) msX9_at (Or.inr ⟨_, tb_387⟩) ⟨Nat.le_of_ble_eq_true rfl, Nat.le_of_ble_eq_true rfl⟩ (Nat.zero_le _) (Nat.zero_le _) rfl rfl (Nat.le_of_ble_eq_true rfl) rfl (dX6_valueOf_1 53 rfl) ?_
    exact R_iret rfl rfl (Nat.zero_le _) (Nat.zero_le _) (dX6_valueOf_1 54 rfl) ⟨congrArg (fun z => some (Sum.inl z)) (Prod.mk.inj (Option.some.inj H)).1, rfl, (Prod.mk.inj (Option.some.inj H)).2⟩
def f_X6_says (x1 : Int) (x2 : Int) (x3 : Int) (x4 : Int) (x5 : Int) (x6 : Int) (x7 : Int) (M : Mem) : Option (Int × Mem) :=
  ob (f_X6_valueOf x1 x2 (wr (wr (wr (wr (wr (wr M 20 6 0 x3) 20 6 1 x4) 20 6 2 x5) 20 6 3 (f_J6_bitCount_0f7a4 x4)) 20 6 4 x6) 20 6 5 x7)) fun r3 M4 =>
  if x2 = 0 then
    if r3 = 0 then
      some (0, M4)
    else
      some (1, M4)
  else
    if x2 = 1 then
      some ((if 0 < (if r3 < 99 then r3 else 99) then (if r3 < 99 then r3 else 99) else 0), M4)
    else
      some ((if 0 < (if r3 < 999 then r3 else 999) then (if r3 < 999 then r3 else 999) else 0), M4)
set_option maxHeartbeats 4000000 in
theorem t_X6_says (l : Launch) (g : GG) (ad : Nat → Nat) (S : SW) (M : Mem) (hS : q_ag 12 21 ad S) (x1 : Int) (x2 : Int) (x3 : Int) (x4 : Int) (x5 : Int) (x6 : Int) (x7 : Int) {r : Int} {M' : Mem} (H : f_X6_says x1 x2 x3 x4 x5 x6 x7 M = some (r, M')) : CT l g MX6_says 3 0 0 S M [.inr (.inr (some (ad 12))), .inl x1, .inl x2, .inl x3, .inl x4, .inl x5, .inl x6, .inl x7] (q_ex S (some (.inl r)) M') := by
  unfold f_X6_says at H
  refine CT_of (ls0 := [some (.inr (.inr (some (ad 12)))), some (.inl x1), some (.inl x2), some (.inl x3), some (.inl x4), some (.inl x5), some (.inl x6), some (.inl x7), none]) (by decide +kernel) (Nat.le_of_ble_eq_true rfl) rfl ?_
  refine R_aload_n (i := 0) (dX6_says 0 rfl) rfl rfl ?_
  refine R_getR cgX6 12 (cl12 hS) 4 (Nat.le_of_ble_eq_true rfl) rfl (Or.inl tb_430) (dX6_says 1 rfl) ?_
  refine R_iconst (dX6_says 2 rfl) rfl ?_
  refine R_iload_n (i := 3) (dX6_says 3 rfl) rfl rfl ?_
  refine R_cS (st' := []) [.inr (.inr (some (ad 20))), .inl 0, .inl x3] [] (t_put l g S _ 20 (cl20 hS) (Nat.le_of_ble_eq_true rfl) 0 x3) msX9_put (Or.inr ⟨_, tb_420⟩) ⟨Nat.le_of_ble_eq_true rfl, Nat.le_of_ble_eq_true rfl⟩ (Nat.zero_le _) (Nat.zero_le _) rfl rfl (Nat.le_of_ble_eq_true rfl) rfl (dX6_says 4 rfl) ?_
  refine R_aload_n (i := 0) (dX6_says 5 rfl) rfl rfl ?_
  refine R_getR cgX6 12 (cl12 hS) 4 (Nat.le_of_ble_eq_true rfl) rfl (Or.inl tb_430) (dX6_says 6 rfl) ?_
  refine R_iconst (dX6_says 7 rfl) rfl ?_
  refine R_iload (i := 4) (dX6_says 8 rfl) rfl ?_
  refine R_cS (st' := []) [.inr (.inr (some (ad 20))), .inl 1, .inl x4] [] (t_put l g S _ 20 (cl20 hS) (Nat.le_of_ble_eq_true rfl) 1 x4) msX9_put (Or.inr ⟨_, tb_420⟩) ⟨Nat.le_of_ble_eq_true rfl, Nat.le_of_ble_eq_true rfl⟩ (Nat.zero_le _) (Nat.zero_le _) rfl rfl (Nat.le_of_ble_eq_true rfl) rfl (dX6_says 9 rfl) ?_
  refine R_aload_n (i := 0) (dX6_says 10 rfl) rfl rfl ?_
  refine R_getR cgX6 12 (cl12 hS) 4 (Nat.le_of_ble_eq_true rfl) rfl (Or.inl tb_430) (dX6_says 11 rfl) ?_
  refine R_iconst (dX6_says 12 rfl) rfl ?_
  refine R_iload (i := 5) (dX6_says 13 rfl) rfl ?_
  refine R_cS (st' := []) [.inr (.inr (some (ad 20))), .inl 2, .inl x5] [] (t_put l g S _ 20 (cl20 hS) (Nat.le_of_ble_eq_true rfl) 2 x5) msX9_put (Or.inr ⟨_, tb_420⟩) ⟨Nat.le_of_ble_eq_true rfl, Nat.le_of_ble_eq_true rfl⟩ (Nat.zero_le _) (Nat.zero_le _) rfl rfl (Nat.le_of_ble_eq_true rfl) rfl (dX6_says 14 rfl) ?_
  refine R_aload_n (i := 0) (dX6_says 15 rfl) rfl rfl ?_
  refine R_getR cgX6 12 (cl12 hS) 4 (Nat.le_of_ble_eq_true rfl) rfl (Or.inl tb_430) (dX6_says 16 rfl) ?_
  refine R_iconst (dX6_says 17 rfl) rfl ?_
  refine R_iload (i := 4) (dX6_says 18 rfl) rfl ?_
  refine R_cS (st' := [.inl (f_J6_bitCount_0f7a4 x4), .inl 3, .inr (.inr (some (ad 20)))]) [.inl x4] [.inl 3, .inr (.inr (some (ad 20)))] (t_J6_bitCount_0f7a4 l g S _   x4) msJ6_bitCount_0f7a4 (Or.inl tb_697) ⟨Nat.le_of_ble_eq_true rfl, Nat.le_of_ble_eq_true rfl⟩ (Nat.zero_le _) (Nat.zero_le _) rfl rfl (Nat.le_of_ble_eq_true rfl) rfl (dX6_says 19 rfl) ?_
  refine R_cS (st' := []) [.inr (.inr (some (ad 20))), .inl 3, .inl (f_J6_bitCount_0f7a4 x4)] [] (t_put l g S _ 20 (cl20 hS) (Nat.le_of_ble_eq_true rfl) 3 (f_J6_bitCount_0f7a4 x4)) msX9_put (Or.inr ⟨_, tb_420⟩) ⟨Nat.le_of_ble_eq_true rfl, Nat.le_of_ble_eq_true rfl⟩ (Nat.zero_le _) (Nat.zero_le _) rfl rfl (Nat.le_of_ble_eq_true rfl) rfl (dX6_says 20 rfl) ?_
  refine R_aload_n (i := 0) (dX6_says 21 rfl) rfl rfl ?_
  refine R_getR cgX6 12 (cl12 hS) 4 (Nat.le_of_ble_eq_true rfl) rfl (Or.inl tb_430) (dX6_says 22 rfl) ?_
  refine R_iconst (dX6_says 23 rfl) rfl ?_
  refine R_iload (i := 6) (dX6_says 24 rfl) rfl ?_
  refine R_cS (st' := []) [.inr (.inr (some (ad 20))), .inl 4, .inl x6] [] (t_put l g S _ 20 (cl20 hS) (Nat.le_of_ble_eq_true rfl) 4 x6) msX9_put (Or.inr ⟨_, tb_420⟩) ⟨Nat.le_of_ble_eq_true rfl, Nat.le_of_ble_eq_true rfl⟩ (Nat.zero_le _) (Nat.zero_le _) rfl rfl (Nat.le_of_ble_eq_true rfl) rfl (dX6_says 25 rfl) ?_
  refine R_aload_n (i := 0) (dX6_says 26 rfl) rfl rfl ?_
  refine R_getR cgX6 12 (cl12 hS) 4 (Nat.le_of_ble_eq_true rfl) rfl (Or.inl tb_430) (dX6_says 27 rfl) ?_
  refine R_iconst (dX6_says 28 rfl) rfl ?_
  refine R_iload (i := 7) (dX6_says 29 rfl) rfl ?_
  refine R_cS (st' := []) [.inr (.inr (some (ad 20))), .inl 5, .inl x7] [] (t_put l g S _ 20 (cl20 hS) (Nat.le_of_ble_eq_true rfl) 5 x7) msX9_put (Or.inr ⟨_, tb_420⟩) ⟨Nat.le_of_ble_eq_true rfl, Nat.le_of_ble_eq_true rfl⟩ (Nat.zero_le _) (Nat.zero_le _) rfl rfl (Nat.le_of_ble_eq_true rfl) rfl (dX6_says 30 rfl) ?_
  refine R_aload_n (i := 0) (dX6_says 31 rfl) rfl rfl ?_
  refine R_iload_n (i := 1) (dX6_says 32 rfl) rfl rfl ?_
  refine R_iload_n (i := 2) (dX6_says 33 rfl) rfl rfl ?_
  obtain ⟨r3, M4, hr, H⟩ := ob_E H
  refine R_cV (st' := [.inl r3]) [.inl x1, .inl x2] [] (t_X6_valueOf l g ad S _ hS   x1 x2 hr) msX6_valueOf (Or.inl tb_698) (Or.inl ⟨12, 6, _, _, _, (cl12 hS), rfl⟩) ⟨Nat.le_of_ble_eq_true rfl, Nat.le_of_ble_eq_true rfl⟩ (Nat.zero_le _) (Nat.zero_le _) rfl rfl (Nat.le_of_ble_eq_true rfl) rfl (dX6_says 34 rfl) ?_
  refine R_istore (i := 8) (ls' := [some (.inr (.inr (some (ad 12)))), some (.inl x1), some (.inl x2), some (.inl x3), some (.inl x4), some (.inl x5), some (.inl x6), some (.inl x7), some (.inl r3)]) (dX6_says 35 rfl) (Nat.le_of_ble_eq_true rfl) (Nat.le_of_ble_eq_true rfl) rfl rfl ?_
  refine R_iload_n (i := 2) (dX6_says 36 rfl) rfl rfl ?_
  refine R_if_ne (tgt := 85) (dX6_says 37 rfl) (by decide) (fun hc => ?_) (fun hc => ?_)
  · have H := ite_F H hc
    refine R_iconst (dX6_says 44 rfl) rfl ?_
    refine R_iload_n (i := 2) (dX6_says 45 rfl) rfl rfl ?_
    refine R_iconst (dX6_says 46 rfl) rfl ?_
    refine R_icmp_ne (tgt := 96) (dX6_says 47 rfl) (by decide) (fun hc => ?_) (fun hc => ?_)
    · have H := ite_F H hc
      refine R_sipush (dX6_says 50 rfl) rfl rfl ?_
      refine R_iload (i := 8) (dX6_says 51 rfl) rfl ?_
      refine R_mmin tb_705 tb_335 tb_72 tb_336 (Nat.le_of_ble_eq_true rfl) (Nat.le_of_ble_eq_true rfl) (Nat.le_of_ble_eq_true rfl) (Nat.zero_le _) (Nat.zero_le _) (dX6_says 52 rfl) ?_
      refine R_mmax tb_706 tb_113 tb_72 tb_114 (Nat.le_of_ble_eq_true rfl) (Nat.le_of_ble_eq_true rfl) (Nat.le_of_ble_eq_true rfl) (Nat.zero_le _) (Nat.zero_le _) (dX6_says 53 rfl) ?_
      exact R_iret rfl rfl (Nat.zero_le _) (Nat.zero_le _) (dX6_says 54 rfl) ⟨congrArg (fun z => some (Sum.inl z)) (Prod.mk.inj (Option.some.inj H)).1, rfl, (Prod.mk.inj (Option.some.inj H)).2⟩
    · have H := ite_T H hc
      refine R_bipush (dX6_says 48 rfl) rfl rfl ?_
      refine R_goto (tgt := 99) (dX6_says 49 rfl) (by decide) ?_
      refine R_iload (i := 8) (dX6_says 51 rfl) rfl ?_
      refine R_mmin tb_705 tb_335 tb_72 tb_336 (Nat.le_of_ble_eq_true rfl) (Nat.le_of_ble_eq_true rfl) (Nat.le_of_ble_eq_true rfl) (Nat.zero_le _) (Nat.zero_le _) (dX6_says 52 rfl) ?_
      refine R_mmax tb_706 tb_113 tb_72 tb_114 (Nat.le_of_ble_eq_true rfl) (Nat.le_of_ble_eq_true rfl) (Nat.le_of_ble_eq_true rfl) (Nat.zero_le _) (Nat.zero_le _) (dX6_says 53 rfl) ?_
      exact R_iret rfl rfl (Nat.zero_le _) (Nat.zero_le _) (dX6_says 54 rfl) ⟨congrArg (fun z => some (Sum.inl z)) (Prod.mk.inj (Option.some.inj H)).1, rfl, (Prod.mk.inj (Option.some.inj H)).2⟩
  · have H := ite_T H hc
    refine R_iload (i := 8) (dX6_says 38 rfl) rfl ?_
    refine R_if_eq (tgt := 83) (dX6_says 39 rfl) (by decide) (fun hc => ?_) (fun hc => ?_)
    · have H := ite_T H hc
      refine R_iconst (dX6_says 42 rfl) rfl ?_
      exact R_iret rfl rfl (Nat.zero_le _) (Nat.zero_le _) (dX6_says 43 rfl) ⟨congrArg (fun z => some (Sum.inl z)) (Prod.mk.inj (Option.some.inj H)).1, rfl, (Prod.mk.inj (Option.some.inj H)).2⟩
    · have H := ite_F H hc
      refine R_iconst (dX6_says 40 rfl) rfl ?_
      refine R_goto (tgt := 84) (dX6_says 41 rfl) (by decide) ?_
      exact R_iret rfl rfl (Nat.zero_le _) (Nat.zero_le _) (dX6_says 43 rfl) ⟨congrArg (fun z => some (Sum.inl z)) (Prod.mk.inj (Option.some.inj H)).1, rfl, (Prod.mk.inj (Option.some.inj H)).2⟩
def f_X1_allow_L34 (K86 : Mem → Option (Int × Mem)) (x3 : Int) (x4 : Int) (x5 : Int) (x6 : Int) : Nat → Int → Mem → Option (Int × Mem)
  | 0, _, _ => none
  | n + 1, x7, M =>
    if x7 < 64 then
      if f_J6_bitCount_0f7a4 x7 = x5 then
        ob (f_X6_says x3 0 x6 x7 x4 0 0 M) fun r5 M6 =>
        f_X1_allow_L34 K86 x3 x4 x5 x6 n (w32 (x7 + 1)) (wr M6 25 640 (w32 ((w32 (x4 * 64)) + x7)) r5)
      else
        f_X1_allow_L34 K86 x3 x4 x5 x6 n (w32 (x7 + 1)) M
    else
      K86 M
set_option maxHeartbeats 4000000 in
theorem t_X1_allow_L34 (l : Launch) (g : GG) (ad : Nat → Nat) (S : SW) (hS : q_ag 0 38 ad S) (x3 : Int) (x4 : Int) (x5 : Int) (x6 : Int) {K86 : Mem → Option (Int × Mem)} {r : Int} {M' : Mem} : ∀ (n : Nat) (x7 : Int) (M : Mem), f_X1_allow_L34 K86 x3 x4 x5 x6 n x7 M = some (r, M') → (∀ (M1 : Mem), K86 M1 = some (r, M') → RW l g MX1_allow (q_rm 4 0 0) 0 0 (q_ex S none M') 86 S M1 0 0 [some (.inr (.inr (some (ad 21)))), some (.inr (.inr (some (ad 3)))), some (.inr (.inr (some (ad 12)))), some (.inl x3), some (.inl x4), none, none, none] []) → RW l g MX1_allow (q_rm 4 0 0) 0 0 (q_ex S none M') 34 S M 0 0 [some (.inr (.inr (some (ad 21)))), some (.inr (.inr (some (ad 3)))), some (.inr (.inr (some (ad 12)))), some (.inl x3), some (.inl x4), some (.inl x5), some (.inl x6), some (.inl x7)] [] := by
  intro n
  induction n with
  | zero => intro x7 M H; exact absurd H (by simp [f_X1_allow_L34])
  | succ n ih =>
    intro x7 M H hK86
    rw [f_X1_allow_L34] at H
    refine R_iload (i := 7) (dX1_allow 17 rfl) rfl ?_
    refine R_bipush (dX1_allow 18 rfl) rfl rfl ?_
    refine R_icmp_ge (tgt := 86) (dX1_allow 19 rfl) (by decide) (fun hc => ?_) (fun hc => ?_)
    · have H := ite_F H hc
      refine R_mask [true, true, true, true, true, false, false, false] rfl ?_
      exact hK86 M H
    · have H := ite_T H hc
      refine R_iload (i := 7) (dX1_allow 20 rfl) rfl ?_
      refine R_cS (st' := [.inl (f_J6_bitCount_0f7a4 x7)]) [.inl x7] [] (t_J6_bitCount_0f7a4 l g S _   x7) msJ6_bitCount_0f7a4 (Or.inl tb_748) ⟨Nat.le_of_ble_eq_true rfl, Nat.le_of_ble_eq_true rfl⟩ (Nat.zero_le _) (Nat.zero_le _) rfl rfl (Nat.le_of_ble_eq_true rfl) rfl (dX1_allow 21 rfl) ?_
      refine R_iload (i := 5) (dX1_allow 22 rfl) rfl ?_
      refine R_icmp_ne (tgt := 80) (dX1_allow 23 rfl) (by decide) (fun hc => ?_) (fun hc => ?_)
      · have H := ite_F H hc
        refine R_iinc (i := 7) (ls' := [some (.inr (.inr (some (ad 21)))), some (.inr (.inr (some (ad 3)))), some (.inr (.inr (some (ad 12)))), some (.inl x3), some (.inl x4), some (.inl x5), some (.inl x6), some (.inl (w32 (x7 + 1)))]) (dX1_allow 41 rfl) rfl (Nat.le_of_ble_eq_true rfl) rfl rfl ?_
        refine R_goto (tgt := 34) (dX1_allow 42 rfl) (by decide) ?_
        exact ih (w32 (x7 + 1)) M H hK86
      · have H := ite_T H hc
        refine R_aload_n (i := 0) (dX1_allow 24 rfl) rfl rfl ?_
        refine R_getR cgX1 21 (cl21 hS) 3 (Nat.le_of_ble_eq_true rfl) rfl (Or.inl tb_462) (dX1_allow 25 rfl) ?_
        refine R_iload (i := 4) (dX1_allow 26 rfl) rfl ?_
        refine R_bipush (dX1_allow 27 rfl) rfl rfl ?_
        refine R_imul (dX1_allow 28 rfl) ?_
        refine R_iload (i := 7) (dX1_allow 29 rfl) rfl ?_
        refine R_iadd (dX1_allow 30 rfl) ?_
        refine R_aload_n (i := 2) (dX1_allow 31 rfl) rfl rfl ?_
        refine R_iload_n (i := 3) (dX1_allow 32 rfl) rfl rfl ?_
        refine R_iconst (dX1_allow 33 rfl) rfl ?_
        refine R_iload (i := 6) (dX1_allow 34 rfl) rfl ?_
        refine R_iload (i := 7) (dX1_allow 35 rfl) rfl ?_
        refine R_iload (i := 4) (dX1_allow 36 rfl) rfl ?_
        refine R_iconst (dX1_allow 37 rfl) rfl ?_
        refine R_iconst (dX1_allow 38 rfl) rfl ?_
        obtain ⟨r5, M6, hr, H⟩ := ob_E H
        refine R_cV (st' := [.inl r5, .inl (w32 ((w32 (x4 * 64)) + x7)), .inr (.inr (some (ad 25)))]) [.inl x3, .inl 0, .inl x6, .inl x7, .inl x4, .inl 0, .inl 0] [.inl (w32 ((w32 (x4 * 64)) + x7)), .inr (.inr (some (ad 25)))] (t_X6_says l g ad S _ (q_ag_sub hS (Nat.le_of_ble_eq_true rfl) (Nat.le_of_ble_eq_true rfl))   x3 0 x6 x7 x4 0 0 hr) msX6_says (Or.inl tb_750) (Or.inl ⟨12, 6, _, _, _, (cl12 hS), rfl⟩) ⟨Nat.le_of_ble_eq_true rfl, Nat.le_of_ble_eq_true rfl⟩ (Nat.zero_le _) (Nat.zero_le _) rfl rfl (Nat.le_of_ble_eq_true rfl) rfl (dX1_allow 39 rfl) ?_
        refine R_cS (st' := []) [.inr (.inr (some (ad 25))), .inl (w32 ((w32 (x4 * 64)) + x7)), .inl r5] [] (t_put l g S _ 25 (cl25 hS) (Nat.le_of_ble_eq_true rfl) (w32 ((w32 (x4 * 64)) + x7)) r5) msX9_put (Or.inr ⟨_, tb_751⟩) ⟨Nat.le_of_ble_eq_true rfl, Nat.le_of_ble_eq_true rfl⟩ (Nat.zero_le _) (Nat.zero_le _) rfl rfl (Nat.le_of_ble_eq_true rfl) rfl (dX1_allow 40 rfl) ?_
        refine R_iinc (i := 7) (ls' := [some (.inr (.inr (some (ad 21)))), some (.inr (.inr (some (ad 3)))), some (.inr (.inr (some (ad 12)))), some (.inl x3), some (.inl x4), some (.inl x5), some (.inl x6), some (.inl (w32 (x7 + 1)))]) (dX1_allow 41 rfl) rfl (Nat.le_of_ble_eq_true rfl) rfl rfl ?_
        refine R_goto (tgt := 34) (dX1_allow 42 rfl) (by decide) ?_
        exact ih (w32 (x7 + 1)) (wr M6 25 640 (w32 ((w32 (x4 * 64)) + x7)) r5) H hK86
def f_X1_allow_L3 (x3 : Int) : Nat → Int → Mem → Option (Int × Mem)
  | 0, _, _ => none
  | n + 1, x4, M =>
    if x4 < M 3 3 then
      f_X1_allow_L34
        (fun M7 =>
          f_X1_allow_L3 x3 n (w32 (x4 + 1)) M7
        )
        x3 x4 (f_J6_bitCount_0f7a4 (f_X3_signsOf x4 M)) (f_X3_priceOf x4 M) 100000 0 M
    else
      some (0, M)
set_option maxHeartbeats 4000000 in
theorem t_X1_allow_L3 (l : Launch) (g : GG) (ad : Nat → Nat) (S : SW) (hS : q_ag 0 38 ad S) (x3 : Int) {r : Int} {M' : Mem} : ∀ (n : Nat) (x4 : Int) (M : Mem), f_X1_allow_L3 x3 n x4 M = some (r, M') → RW l g MX1_allow (q_rm 4 0 0) 0 0 (q_ex S none M') 3 S M 0 0 [some (.inr (.inr (some (ad 21)))), some (.inr (.inr (some (ad 3)))), some (.inr (.inr (some (ad 12)))), some (.inl x3), some (.inl x4), none, none, none] [] := by
  intro n
  induction n with
  | zero => intro x4 M H; exact absurd H (by simp [f_X1_allow_L3])
  | succ n ih =>
    intro x4 M H
    rw [f_X1_allow_L3] at H
    refine R_iload (i := 4) (dX1_allow 2 rfl) rfl ?_
    refine R_aload_n (i := 1) (dX1_allow 3 rfl) rfl rfl ?_
    refine R_getI cgX3 3 (cl3 hS) 3 (Nat.le_of_ble_eq_true rfl) rfl (Or.inr ⟨_, tb_143⟩) (dX1_allow 4 rfl) ?_
    refine R_icmp_ge (tgt := 92) (dX1_allow 5 rfl) (by decide) (fun hc => ?_) (fun hc => ?_)
    · have H := ite_F H hc
      exact R_vret rfl (Nat.zero_le _) (Nat.zero_le _) (dX1_allow 45 rfl) ⟨rfl, rfl, (Prod.mk.inj (Option.some.inj H)).2⟩
    · have H := ite_T H hc
      refine R_aload_n (i := 1) (dX1_allow 6 rfl) rfl rfl ?_
      refine R_iload (i := 4) (dX1_allow 7 rfl) rfl ?_
      refine R_cV (st' := [.inl (f_X3_signsOf x4 M)]) [.inl x4] [] (t_X3_signsOf l g ad S _ hS   x4) msX3_signsOf (Or.inl tb_747) (Or.inl ⟨3, 3, _, _, _, (cl3 hS), rfl⟩) ⟨Nat.le_of_ble_eq_true rfl, Nat.le_of_ble_eq_true rfl⟩ (Nat.zero_le _) (Nat.zero_le _) rfl rfl (Nat.le_of_ble_eq_true rfl) rfl (dX1_allow 8 rfl) ?_
      refine R_cS (st' := [.inl (f_J6_bitCount_0f7a4 (f_X3_signsOf x4 M))]) [.inl (f_X3_signsOf x4 M)] [] (t_J6_bitCount_0f7a4 l g S _   (f_X3_signsOf x4 M)) msJ6_bitCount_0f7a4 (Or.inl tb_748) ⟨Nat.le_of_ble_eq_true rfl, Nat.le_of_ble_eq_true rfl⟩ (Nat.zero_le _) (Nat.zero_le _) rfl rfl (Nat.le_of_ble_eq_true rfl) rfl (dX1_allow 9 rfl) ?_
      refine R_istore (i := 5) (ls' := [some (.inr (.inr (some (ad 21)))), some (.inr (.inr (some (ad 3)))), some (.inr (.inr (some (ad 12)))), some (.inl x3), some (.inl x4), some (.inl (f_J6_bitCount_0f7a4 (f_X3_signsOf x4 M))), none, none]) (dX1_allow 10 rfl) (Nat.le_of_ble_eq_true rfl) (Nat.le_of_ble_eq_true rfl) rfl rfl ?_
      refine R_aload_n (i := 1) (dX1_allow 11 rfl) rfl rfl ?_
      refine R_iload (i := 4) (dX1_allow 12 rfl) rfl ?_
      refine R_cV (st' := [.inl (f_X3_priceOf x4 M)]) [.inl x4] [] (t_X3_priceOf l g ad S _ hS   x4) msX3_priceOf (Or.inl tb_749) (Or.inl ⟨3, 3, _, _, _, (cl3 hS), rfl⟩) ⟨Nat.le_of_ble_eq_true rfl, Nat.le_of_ble_eq_true rfl⟩ (Nat.zero_le _) (Nat.zero_le _) rfl rfl (Nat.le_of_ble_eq_true rfl) rfl (dX1_allow 13 rfl) ?_
      refine R_istore (i := 6) (ls' := [some (.inr (.inr (some (ad 21)))), some (.inr (.inr (some (ad 3)))), some (.inr (.inr (some (ad 12)))), some (.inl x3), some (.inl x4), some (.inl (f_J6_bitCount_0f7a4 (f_X3_signsOf x4 M))), some (.inl (f_X3_priceOf x4 M)), none]) (dX1_allow 14 rfl) (Nat.le_of_ble_eq_true rfl) (Nat.le_of_ble_eq_true rfl) rfl rfl ?_
      refine R_iconst (dX1_allow 15 rfl) rfl ?_
      refine R_istore (i := 7) (ls' := [some (.inr (.inr (some (ad 21)))), some (.inr (.inr (some (ad 3)))), some (.inr (.inr (some (ad 12)))), some (.inl x3), some (.inl x4), some (.inl (f_J6_bitCount_0f7a4 (f_X3_signsOf x4 M))), some (.inl (f_X3_priceOf x4 M)), some (.inl 0)]) (dX1_allow 16 rfl) (Nat.le_of_ble_eq_true rfl) (Nat.le_of_ble_eq_true rfl) rfl rfl ?_
      refine t_X1_allow_L34 l g ad S hS x3 x4 (f_J6_bitCount_0f7a4 (f_X3_signsOf x4 M)) (f_X3_priceOf x4 M)  100000 0 M H (fun M7 H => ?_)
      refine R_iinc (i := 4) (ls' := [some (.inr (.inr (some (ad 21)))), some (.inr (.inr (some (ad 3)))), some (.inr (.inr (some (ad 12)))), some (.inl x3), some (.inl (w32 (x4 + 1))), none, none, none]) (dX1_allow 43 rfl) rfl (Nat.le_of_ble_eq_true rfl) rfl rfl ?_
      refine R_goto (tgt := 3) (dX1_allow 44 rfl) (by decide) ?_
      exact ih (w32 (x4 + 1)) M7 H
def f_X1_allow (x3 : Int) (M : Mem) : Option (Int × Mem) :=
  f_X1_allow_L3
    x3 100000 0 M
set_option maxHeartbeats 4000000 in
theorem t_X1_allow (l : Launch) (g : GG) (ad : Nat → Nat) (S : SW) (M : Mem) (hS : q_ag 0 38 ad S) (x3 : Int) {r : Int} {M' : Mem} (H : f_X1_allow x3 M = some (r, M')) : CT l g MX1_allow 4 0 0 S M [.inr (.inr (some (ad 21))), .inr (.inr (some (ad 3))), .inr (.inr (some (ad 12))), .inl x3] (q_ex S none M') := by
  unfold f_X1_allow at H
  refine CT_of (ls0 := [some (.inr (.inr (some (ad 21)))), some (.inr (.inr (some (ad 3)))), some (.inr (.inr (some (ad 12)))), some (.inl x3), none, none, none, none]) (by decide +kernel) (Nat.le_of_ble_eq_true rfl) rfl ?_
  refine R_iconst (dX1_allow 0 rfl) rfl ?_
  refine R_istore (i := 4) (ls' := [some (.inr (.inr (some (ad 21)))), some (.inr (.inr (some (ad 3)))), some (.inr (.inr (some (ad 12)))), some (.inl x3), some (.inl 0), none, none, none]) (dX1_allow 1 rfl) (Nat.le_of_ble_eq_true rfl) (Nat.le_of_ble_eq_true rfl) rfl rfl ?_
  exact t_X1_allow_L3 l g ad S hS x3  100000 0 M H 
def f_X1_isLawful_L2 (x2 : Int) (M : Mem) : Nat → Int → Option Int
  | 0, _ => none
  | n + 1, x3 =>
    if x3 < M 3 3 then
      if rd 640 (M 25) (w32 ((w32 (x3 * 64)) + (f_X3_had x3 x2 M))) = 0 then
        some 0
      else
        f_X1_isLawful_L2 x2 M n (w32 (x3 + 1))
    else
      some 1
set_option maxHeartbeats 4000000 in
theorem t_X1_isLawful_L2 (l : Launch) (g : GG) (ad : Nat → Nat) (S : SW) (M : Mem) (hS : q_ag 0 38 ad S) (x2 : Int) {r : Int} : ∀ (n : Nat) (x3 : Int), f_X1_isLawful_L2 x2 M n x3 = some r → RW l g MX1_isLawful (q_rm 3 0 0) 0 0 (q_ex S (some (.inl r)) M) 2 S M 0 0 [some (.inr (.inr (some (ad 21)))), some (.inr (.inr (some (ad 3)))), some (.inl x2), some (.inl x3)] [] := by
  intro n
  induction n with
  | zero => intro x3 H; exact absurd H (by simp [f_X1_isLawful_L2])
  | succ n ih =>
    intro x3 H
    rw [f_X1_isLawful_L2] at H
    refine R_iload_n (i := 3) (dX1_isLawful 2 rfl) rfl rfl ?_
    refine R_aload_n (i := 1) (dX1_isLawful 3 rfl) rfl rfl ?_
    refine R_getI cgX3 3 (cl3 hS) 3 (Nat.le_of_ble_eq_true rfl) rfl (Or.inr ⟨_, tb_143⟩) (dX1_isLawful 4 rfl) ?_
    refine R_icmp_ge (tgt := 39) (dX1_isLawful 5 rfl) (by decide) (fun hc => ?_) (fun hc => ?_)
    · have H := ite_F H hc
      refine R_iconst (dX1_isLawful 22 rfl) rfl ?_
      exact R_iret rfl (by decide +kernel) (Nat.zero_le _) (Nat.zero_le _) (dX1_isLawful 23 rfl) ⟨congrArg (fun z => some (Sum.inl z)) (Option.some.inj H), rfl, rfl⟩
    · have H := ite_T H hc
      refine R_aload_n (i := 0) (dX1_isLawful 6 rfl) rfl rfl ?_
      refine R_getR cgX1 21 (cl21 hS) 3 (Nat.le_of_ble_eq_true rfl) rfl (Or.inl tb_462) (dX1_isLawful 7 rfl) ?_
      refine R_iload_n (i := 3) (dX1_isLawful 8 rfl) rfl rfl ?_
      refine R_bipush (dX1_isLawful 9 rfl) rfl rfl ?_
      refine R_imul (dX1_isLawful 10 rfl) ?_
      refine R_aload_n (i := 1) (dX1_isLawful 11 rfl) rfl rfl ?_
      refine R_iload_n (i := 3) (dX1_isLawful 12 rfl) rfl rfl ?_
      refine R_iload_n (i := 2) (dX1_isLawful 13 rfl) rfl rfl ?_
      refine R_cV (st' := [.inl (f_X3_had x3 x2 M), .inl (w32 (x3 * 64)), .inr (.inr (some (ad 25)))]) [.inl x3, .inl x2] [.inl (w32 (x3 * 64)), .inr (.inr (some (ad 25)))] (t_X3_had l g ad S _ hS   x3 x2) msX3_had (Or.inl tb_756) (Or.inl ⟨3, 3, _, _, _, (cl3 hS), rfl⟩) ⟨Nat.le_of_ble_eq_true rfl, Nat.le_of_ble_eq_true rfl⟩ (Nat.zero_le _) (Nat.zero_le _) rfl rfl (Nat.le_of_ble_eq_true rfl) rfl (dX1_isLawful 14 rfl) ?_
      refine R_iadd (dX1_isLawful 15 rfl) ?_
      refine R_cS (st' := [.inl (rd 640 (M 25) (w32 ((w32 (x3 * 64)) + (f_X3_had x3 x2 M))))]) [.inr (.inr (some (ad 25))), .inl (w32 ((w32 (x3 * 64)) + (f_X3_had x3 x2 M)))] [] (t_at l g S _ 25 (cl25 hS) (Nat.le_of_ble_eq_true rfl) (w32 ((w32 (x3 * 64)) + (f_X3_had x3 x2 M)))) msX9_at (Or.inr ⟨_, tb_760⟩) ⟨Nat.le_of_ble_eq_true rfl, Nat.le_of_ble_eq_true rfl⟩ (Nat.zero_le _) (Nat.zero_le _) rfl rfl (Nat.le_of_ble_eq_true rfl) rfl (dX1_isLawful 16 rfl) ?_
      refine R_if_ne (tgt := 33) (dX1_isLawful 17 rfl) (by decide) (fun hc => ?_) (fun hc => ?_)
      · have H := ite_F H hc
        refine R_iinc (i := 3) (ls' := [some (.inr (.inr (some (ad 21)))), some (.inr (.inr (some (ad 3)))), some (.inl x2), some (.inl (w32 (x3 + 1)))]) (dX1_isLawful 20 rfl) rfl (Nat.le_of_ble_eq_true rfl) rfl rfl ?_
        refine R_goto (tgt := 2) (dX1_isLawful 21 rfl) (by decide) ?_
        exact ih (w32 (x3 + 1)) H
      · have H := ite_T H hc
        refine R_iconst (dX1_isLawful 18 rfl) rfl ?_
        exact R_iret rfl (by decide +kernel) (Nat.zero_le _) (Nat.zero_le _) (dX1_isLawful 19 rfl) ⟨congrArg (fun z => some (Sum.inl z)) (Option.some.inj H), rfl, rfl⟩
def f_X1_isLawful (x2 : Int) (M : Mem) : Option Int :=
  f_X1_isLawful_L2
    x2 M 100000 0
set_option maxHeartbeats 4000000 in
theorem t_X1_isLawful (l : Launch) (g : GG) (ad : Nat → Nat) (S : SW) (M : Mem) (hS : q_ag 0 38 ad S) (x2 : Int) {r : Int} (H : f_X1_isLawful x2 M = some r) : CT l g MX1_isLawful 3 0 0 S M [.inr (.inr (some (ad 21))), .inr (.inr (some (ad 3))), .inl x2] (q_ex S (some (.inl r)) M) := by
  unfold f_X1_isLawful at H
  refine CT_of (ls0 := [some (.inr (.inr (some (ad 21)))), some (.inr (.inr (some (ad 3)))), some (.inl x2), none]) (by decide +kernel) (Nat.le_of_ble_eq_true rfl) rfl ?_
  refine R_iconst (dX1_isLawful 0 rfl) rfl ?_
  refine R_istore_n (i := 3) (ls' := [some (.inr (.inr (some (ad 21)))), some (.inr (.inr (some (ad 3)))), some (.inl x2), some (.inl 0)]) (dX1_isLawful 1 rfl) rfl (Nat.le_of_ble_eq_true rfl) (Nat.le_of_ble_eq_true rfl) rfl rfl ?_
  exact t_X1_isLawful_L2 l g ad S M hS x2  100000 0 H 
def f_X7_partOf (x1 : Int) (x2 : Int) (M : Mem) : Int :=
  rd 4320 (M 2) (w32 ((w32 (x1 * 6)) + x2))
set_option maxHeartbeats 4000000 in
theorem t_X7_partOf (l : Launch) (g : GG) (ad : Nat → Nat) (S : SW) (M : Mem) (hS : q_ag 1 3 ad S) (x1 : Int) (x2 : Int) : CT l g MX7_partOf 2 0 0 S M [.inr (.inr (some (ad 1))), .inl x1, .inl x2] (q_ex S (some (.inl (f_X7_partOf x1 x2 M))) M) := by
  obtain ⟨r, H⟩ : ∃ r, f_X7_partOf x1 x2 M = r := ⟨_, rfl⟩
  rw [H]
  unfold f_X7_partOf at H
  refine CT_of (ls0 := [some (.inr (.inr (some (ad 1)))), some (.inl x1), some (.inl x2)]) (by decide +kernel) (Nat.le_of_ble_eq_true rfl) rfl ?_
  refine R_aload_n (i := 0) (dX7_partOf 0 rfl) rfl rfl ?_
  refine R_getR cgX7 1 (cl1 hS) 0 (Nat.le_of_ble_eq_true rfl) rfl (Or.inl tb_125) (dX7_partOf 1 rfl) ?_
  refine R_iload_n (i := 1) (dX7_partOf 2 rfl) rfl rfl ?_
  refine R_bipush (dX7_partOf 3 rfl) rfl rfl ?_
  refine R_imul (dX7_partOf 4 rfl) ?_
  refine R_iload_n (i := 2) (dX7_partOf 5 rfl) rfl rfl ?_
  refine R_iadd (dX7_partOf 6 rfl) ?_
  refine R_cS (st' := [.inl (rd 4320 (M 2) (w32 ((w32 (x1 * 6)) + x2)))]) [.inr (.inr (some (ad 2))), .inl (w32 ((w32 (x1 * 6)) + x2))] [] (t_at l g S _ 2 (cl2 hS) (Nat.le_of_ble_eq_true rfl) (w32 ((w32 (x1 * 6)) + x2))) msX9_at (Or.inr ⟨_, tb_109⟩) ⟨Nat.le_of_ble_eq_true rfl, Nat.le_of_ble_eq_true rfl⟩ (Nat.zero_le _) (Nat.zero_le _) rfl rfl (Nat.le_of_ble_eq_true rfl) rfl (dX7_partOf 7 rfl) ?_
  exact R_iret rfl rfl (Nat.zero_le _) (Nat.zero_le _) (dX7_partOf 8 rfl) ⟨congrArg (fun z => some (Sum.inl z)) H, rfl, rfl⟩
def f_X1_take_L25 (K73 : Mem → Option (Int × Mem)) (x3 : Int) : Nat → Int → Mem → Option (Int × Mem)
  | 0, _, _ => none
  | n + 1, x4, M =>
    if x4 < 6 then
      f_X1_take_L25 K73 x3 n (w32 (x4 + 1)) (wr M 23 36 (w32 ((w32 (x4 * 6)) + (f_X7_partOf x3 x4 M))) (w32 ((rd 36 (M 23) (w32 ((w32 (x4 * 6)) + (f_X7_partOf x3 x4 M)))) + 1)))
    else
      K73 M
set_option maxHeartbeats 4000000 in
theorem t_X1_take_L25 (l : Launch) (g : GG) (ad : Nat → Nat) (S : SW) (hS : q_ag 0 38 ad S) (x3 : Int) {K73 : Mem → Option (Int × Mem)} {r : Int} {M' : Mem} : ∀ (n : Nat) (x4 : Int) (M : Mem), f_X1_take_L25 K73 x3 n x4 M = some (r, M') → (∀ (M1 : Mem), K73 M1 = some (r, M') → RW l g MX1_take (q_rm 3 0 0) 0 0 (q_ex S none M') 73 S M1 0 0 [some (.inr (.inr (some (ad 21)))), none, some (.inr (.inr (some (ad 3)))), some (.inl x3), none, none] []) → RW l g MX1_take (q_rm 3 0 0) 0 0 (q_ex S none M') 25 S M 0 0 [some (.inr (.inr (some (ad 21)))), some (.inr (.inr (some (ad 1)))), some (.inr (.inr (some (ad 3)))), some (.inl x3), some (.inl x4), none] [] := by
  intro n
  induction n with
  | zero => intro x4 M H; exact absurd H (by simp [f_X1_take_L25])
  | succ n ih =>
    intro x4 M H hK73
    rw [f_X1_take_L25] at H
    refine R_iload (i := 4) (dX1_take_0 14 rfl) rfl ?_
    refine R_bipush (dX1_take_0 15 rfl) rfl rfl ?_
    refine R_icmp_ge (tgt := 73) (dX1_take_0 16 rfl) (by decide) (fun hc => ?_) (fun hc => ?_)
    · have H := ite_F H hc
      refine R_mask [true, false, true, true, false, false] rfl ?_
      exact hK73 M H
    · have H := ite_T H hc
      refine R_iload (i := 4) (dX1_take_0 17 rfl) rfl ?_
      refine R_bipush (dX1_take_0 18 rfl) rfl rfl ?_
      refine R_imul (dX1_take_0 19 rfl) ?_
      refine R_aload_n (i := 1) (dX1_take_0 20 rfl) rfl rfl ?_
      refine R_iload_n (i := 3) (dX1_take_0 21 rfl) rfl rfl ?_
      refine R_iload (i := 4) (dX1_take_0 22 rfl) rfl ?_
      refine R_cV (st' := [.inl (f_X7_partOf x3 x4 M), .inl (w32 (x4 * 6))]) [.inl x3, .inl x4] [.inl (w32 (x4 * 6))] (t_X7_partOf l g ad S _ (q_ag_sub hS (Nat.le_of_ble_eq_true rfl) (Nat.le_of_ble_eq_true rfl))   x3 x4) msX7_partOf (Or.inl tb_775) (Or.inl ⟨1, 7, _, _, _, (cl1 hS), rfl⟩) ⟨Nat.le_of_ble_eq_true rfl, Nat.le_of_ble_eq_true rfl⟩ (Nat.zero_le _) (Nat.zero_le _) rfl rfl (Nat.le_of_ble_eq_true rfl) rfl (dX1_take_0 23 rfl) ?_
      refine R_iadd (dX1_take_0 24 rfl) ?_
      refine R_istore (i := 5) (ls' := [some (.inr (.inr (some (ad 21)))), some (.inr (.inr (some (ad 1)))), some (.inr (.inr (some (ad 3)))), some (.inl x3), some (.inl x4), some (.inl (w32 ((w32 (x4 * 6)) + (f_X7_partOf x3 x4 M))))]) (dX1_take_0 25 rfl) (Nat.le_of_ble_eq_true rfl) (Nat.le_of_ble_eq_true rfl) rfl rfl ?_
      refine R_aload_n (i := 0) (dX1_take_0 26 rfl) rfl rfl ?_
      refine R_getR cgX1 21 (cl21 hS) 1 (Nat.le_of_ble_eq_true rfl) rfl (Or.inl tb_460) (dX1_take_0 27 rfl) ?_
      refine R_iload (i := 5) (dX1_take_0 28 rfl) rfl ?_
      refine R_aload_n (i := 0) (dX1_take_0 29 rfl) rfl rfl ?_
      refine R_getR cgX1 21 (cl21 hS) 1 (Nat.le_of_ble_eq_true rfl) rfl (Or.inl tb_460) (dX1_take_0 30 rfl) ?_
      refine R_iload (i := 5) (dX1_take_0 31 rfl) rfl ?_
      refine R_cS (st' := [.inl (rd 36 (M 23) (w32 ((w32 (x4 * 6)) + (f_X7_partOf x3 x4 M)))), .inl (w32 ((w32 (x4 * 6)) + (f_X7_partOf x3 x4 M))), .inr (.inr (some (ad 23)))]) [.inr (.inr (some (ad 23))), .inl (w32 ((w32 (x4 * 6)) + (f_X7_partOf x3 x4 M)))] [.inl (w32 ((w32 (x4 * 6)) + (f_X7_partOf x3 x4 M))), .inr (.inr (some (ad 23)))] (t_at l g S _ 23 (cl23 hS) (Nat.le_of_ble_eq_true rfl) (w32 ((w32 (x4 * 6)) + (f_X7_partOf x3 x4 M)))) msX9_at (Or.inr ⟨_, tb_760⟩) ⟨Nat.le_of_ble_eq_true rfl, Nat.le_of_ble_eq_true rfl⟩ (Nat.zero_le _) (Nat.zero_le _) rfl rfl (Nat.le_of_ble_eq_true rfl) rfl (dX1_take_0 32 rfl) ?_
      refine R_iconst (dX1_take_0 33 rfl) rfl ?_
      refine R_iadd (dX1_take_0 34 rfl) ?_
      refine R_cS (st' := []) [.inr (.inr (some (ad 23))), .inl (w32 ((w32 (x4 * 6)) + (f_X7_partOf x3 x4 M))), .inl (w32 ((rd 36 (M 23) (w32 ((w32 (x4 * 6)) + (f_X7_partOf x3 x4 M)))) + 1))] [] (t_put l g S _ 23 (cl23 hS) (Nat.le_of_ble_eq_true rfl) (w32 ((w32 (x4 * 6)) + (f_X7_partOf x3 x4 M))) (w32 ((rd 36 (M 23) (w32 ((w32 (x4 * 6)) + (f_X7_partOf x3 x4 M)))) + 1))) msX9_put (Or.inr ⟨_, tb_751⟩) ⟨Nat.le_of_ble_eq_true rfl, Nat.le_of_ble_eq_true rfl⟩ (Nat.zero_le _) (Nat.zero_le _) rfl rfl (Nat.le_of_ble_eq_true rfl) rfl (dX1_take_0 35 rfl) ?_
      refine R_iinc (i := 4) (ls' := [some (.inr (.inr (some (ad 21)))), some (.inr (.inr (some (ad 1)))), some (.inr (.inr (some (ad 3)))), some (.inl x3), some (.inl (w32 (x4 + 1))), some (.inl (w32 ((w32 (x4 * 6)) + (f_X7_partOf x3 x4 M))))]) (dX1_take_0 36 rfl) rfl (Nat.le_of_ble_eq_true rfl) rfl rfl ?_
      refine R_goto (tgt := 25) (dX1_take_0 37 rfl) (by decide) ?_
      refine R_mask [true, true, true, true, true, false] rfl ?_
      exact ih (w32 (x4 + 1)) (wr M 23 36 (w32 ((w32 (x4 * 6)) + (f_X7_partOf x3 x4 M))) (w32 ((rd 36 (M 23) (w32 ((w32 (x4 * 6)) + (f_X7_partOf x3 x4 M)))) + 1))) H hK73
def f_X1_take_L76 (x3 : Int) : Nat → Int → Mem → Option (Int × Mem)
  | 0, _, _ => none
  | n + 1, x4, M =>
    if x4 < M 3 3 then
      f_X1_take_L76 x3 n (w32 (x4 + 1)) (wr M 24 640 (w32 ((w32 (x4 * 64)) + (f_X3_had x4 x3 M))) (w32 ((rd 640 (M 24) (w32 ((w32 (x4 * 64)) + (f_X3_had x4 x3 M)))) + 1)))
    else
      some (0, M)
set_option maxHeartbeats 4000000 in
theorem t_X1_take_L76 (l : Launch) (g : GG) (ad : Nat → Nat) (S : SW) (hS : q_ag 0 38 ad S) (x3 : Int) {r : Int} {M' : Mem} : ∀ (n : Nat) (x4 : Int) (M : Mem), f_X1_take_L76 x3 n x4 M = some (r, M') → RW l g MX1_take (q_rm 3 0 0) 0 0 (q_ex S none M') 76 S M 0 0 [some (.inr (.inr (some (ad 21)))), none, some (.inr (.inr (some (ad 3)))), some (.inl x3), some (.inl x4), none] [] := by
  intro n
  induction n with
  | zero => intro x4 M H; exact absurd H (by simp [f_X1_take_L76])
  | succ n ih =>
    intro x4 M H
    rw [f_X1_take_L76] at H
    refine R_iload (i := 4) (dX1_take_0 40 rfl) rfl ?_
    refine R_aload_n (i := 2) (dX1_take_0 41 rfl) rfl rfl ?_
    refine R_getI cgX3 3 (cl3 hS) 3 (Nat.le_of_ble_eq_true rfl) rfl (Or.inr ⟨_, tb_143⟩) (dX1_take_0 42 rfl) ?_
    refine R_icmp_ge (tgt := 126) (dX1_take_0 43 rfl) (by decide) (fun hc => ?_) (fun hc => ?_)
    · have H := ite_F H hc
      exact R_vret rfl (Nat.zero_le _) (Nat.zero_le _) (dX1_take_1 5 rfl) ⟨rfl, rfl, (Prod.mk.inj (Option.some.inj H)).2⟩
    · have H := ite_T H hc
      refine R_iload (i := 4) (dX1_take_0 44 rfl) rfl ?_
      refine R_bipush (dX1_take_0 45 rfl) rfl rfl ?_
      refine R_imul (dX1_take_0 46 rfl) ?_
      refine R_aload_n (i := 2) (dX1_take_0 47 rfl) rfl rfl ?_
      refine R_iload (i := 4) (dX1_take_0 48 rfl) rfl ?_
      refine R_iload_n (i := 3) (dX1_take_0 49 rfl) rfl rfl ?_
      refine R_cV (st' := [.inl (f_X3_had x4 x3 M), .inl (w32 (x4 * 64))]) [.inl x4, .inl x3] [.inl (w32 (x4 * 64))] (t_X3_had l g ad S _ hS   x4 x3) msX3_had (Or.inl tb_756) (Or.inl ⟨3, 3, _, _, _, (cl3 hS), rfl⟩) ⟨Nat.le_of_ble_eq_true rfl, Nat.le_of_ble_eq_true rfl⟩ (Nat.zero_le _) (Nat.zero_le _) rfl rfl (Nat.le_of_ble_eq_true rfl) rfl (dX1_take_0 50 rfl) ?_
      refine R_iadd (dX1_take_0 51 rfl) ?_
      refine R_istore (i := 5) (ls' := [some (.inr (.inr (some (ad 21)))), none, some (.inr (.inr (some (ad 3)))), some (.inl x3), some (.inl x4), some (.inl (w32 ((w32 (x4 * 64)) + (f_X3_had x4 x3 M))))]) (dX1_take_0 52 rfl) (Nat.le_of_ble_eq_true rfl) (Nat.le_of_ble_eq_true rfl) rfl rfl ?_
      refine R_aload_n (i := 0) (dX1_take_0 53 rfl) rfl rfl ?_
      refine R_getR cgX1 21 (cl21 hS) 2 (Nat.le_of_ble_eq_true rfl) rfl (Or.inl tb_461) (dX1_take_0 54 rfl) ?_
      refine R_iload (i := 5) (dX1_take_0 55 rfl) rfl ?_
      refine R_aload_n (i := 0) (dX1_take_0 56 rfl) rfl rfl ?_
      refine R_getR cgX1 21 (cl21 hS) 2 (Nat.le_of_ble_eq_true rfl) rfl (Or.inl tb_461) (dX1_take_0 57 rfl) ?_
      refine R_iload (i := 5) (dX1_take_0 58 rfl) rfl ?_
      refine R_cS (st' := [.inl (rd 640 (M 24) (w32 ((w32 (x4 * 64)) + (f_X3_had x4 x3 M)))), .inl (w32 ((w32 (x4 * 64)) + (f_X3_had x4 x3 M))), .inr (.inr (some (ad 24)))]) [.inr (.inr (some (ad 24))), .inl (w32 ((w32 (x4 * 64)) + (f_X3_had x4 x3 M)))] [.inl (w32 ((w32 (x4 * 64)) + (f_X3_had x4 x3 M))), .inr (.inr (some (ad 24)))] (t_at l g S _ 24 (cl24 hS) (Nat.le_of_ble_eq_true rfl) (w32 ((w32 (x4 * 64)) + (f_X3_had x4 x3 M)))) msX9_at (Or.inr ⟨_, tb_760⟩) ⟨Nat.le_of_ble_eq_true rfl, Nat.le_of_ble_eq_true rfl⟩ (Nat.zero_le _) (Nat.zero_le _) rfl rfl (Nat.le_of_ble_eq_true rfl) rfl (dX1_take_0 59 rfl) ?_
      refine R_iconst (dX1_take_1 0 rfl) rfl ?_
      refine R_iadd (dX1_take_1 1 rfl) ?_
      refine R_cS (st' := []) [.inr (.inr (some (ad 24))), .inl (w32 ((w32 (x4 * 64)) + (f_X3_had x4 x3 M))), .inl (w32 ((rd 640 (M 24) (w32 ((w32 (x4 * 64)) + (f_X3_had x4 x3 M)))) + 1))] [] (t_put l g S _ 24 (cl24 hS) (Nat.le_of_ble_eq_true rfl) (w32 ((w32 (x4 * 64)) + (f_X3_had x4 x3 M))) (w32 ((rd 640 (M 24) (w32 ((w32 (x4 * 64)) + (f_X3_had x4 x3 M)))) + 1))) msX9_put (Or.inr ⟨_, tb_751⟩) ⟨Nat.le_of_ble_eq_true rfl, Nat.le_of_ble_eq_true rfl⟩ (Nat.zero_le _) (Nat.zero_le _) rfl rfl (Nat.le_of_ble_eq_true rfl) rfl (dX1_take_1 2 rfl) ?_
      refine R_iinc (i := 4) (ls' := [some (.inr (.inr (some (ad 21)))), none, some (.inr (.inr (some (ad 3)))), some (.inl x3), some (.inl (w32 (x4 + 1))), some (.inl (w32 ((w32 (x4 * 64)) + (f_X3_had x4 x3 M))))]) (dX1_take_1 3 rfl) rfl (Nat.le_of_ble_eq_true rfl) rfl rfl ?_
      refine R_goto (tgt := 76) (dX1_take_1 4 rfl) (by decide) ?_
      refine R_mask [true, false, true, true, true, false] rfl ?_
      exact ih (w32 (x4 + 1)) (wr M 24 640 (w32 ((w32 (x4 * 64)) + (f_X3_had x4 x3 M))) (w32 ((rd 640 (M 24) (w32 ((w32 (x4 * 64)) + (f_X3_had x4 x3 M)))) + 1))) H
def f_X1_take (x3 : Int) (M : Mem) : Option (Int × Mem) :=
  f_X1_take_L25
    (fun M8 =>
      f_X1_take_L76
        x3 100000 0 M8
    )
    x3 100000 0 (mset (wr M 22 720 (M 21 5) x3) 21 5 (w32 (((wr M 22 720 (M 21 5) x3) 21 5) + 1)))
set_option maxHeartbeats 4000000 in
theorem t_X1_take (l : Launch) (g : GG) (ad : Nat → Nat) (S : SW) (M : Mem) (hS : q_ag 0 38 ad S) (x3 : Int) {r : Int} {M' : Mem} (H : f_X1_take x3 M = some (r, M')) : CT l g MX1_take 3 0 0 S M [.inr (.inr (some (ad 21))), .inr (.inr (some (ad 1))), .inr (.inr (some (ad 3))), .inl x3] (q_ex S none M') := by
  unfold f_X1_take at H
  refine CT_of (ls0 := [some (.inr (.inr (some (ad 21)))), some (.inr (.inr (some (ad 1)))), some (.inr (.inr (some (ad 3)))), some (.inl x3), none, none]) (by decide +kernel) (Nat.le_of_ble_eq_true rfl) rfl ?_
  refine R_aload_n (i := 0) (dX1_take_0 0 rfl) rfl rfl ?_
  refine R_getR cgX1 21 (cl21 hS) 0 (Nat.le_of_ble_eq_true rfl) rfl (Or.inl tb_459) (dX1_take_0 1 rfl) ?_
  refine R_aload_n (i := 0) (dX1_take_0 2 rfl) rfl rfl ?_
  refine R_getI cgX1 21 (cl21 hS) 5 (Nat.le_of_ble_eq_true rfl) rfl (Or.inl tb_464) (dX1_take_0 3 rfl) ?_
  refine R_iload_n (i := 3) (dX1_take_0 4 rfl) rfl rfl ?_
  refine R_cS (st' := []) [.inr (.inr (some (ad 22))), .inl (M 21 5), .inl x3] [] (t_put l g S _ 22 (cl22 hS) (Nat.le_of_ble_eq_true rfl) (M 21 5) x3) msX9_put (Or.inr ⟨_, tb_751⟩) ⟨Nat.le_of_ble_eq_true rfl, Nat.le_of_ble_eq_true rfl⟩ (Nat.zero_le _) (Nat.zero_le _) rfl rfl (Nat.le_of_ble_eq_true rfl) rfl (dX1_take_0 5 rfl) ?_
  refine R_aload_n (i := 0) (dX1_take_0 6 rfl) rfl rfl ?_
  refine R_dup rfl (dX1_take_0 7 rfl) ?_
  refine R_getI cgX1 21 (cl21 hS) 5 (Nat.le_of_ble_eq_true rfl) rfl (Or.inl tb_464) (dX1_take_0 8 rfl) ?_
  refine R_iconst (dX1_take_0 9 rfl) rfl ?_
  refine R_iadd (dX1_take_0 10 rfl) ?_
  refine R_putI cgX1 21 (cl21 hS) 5 (Nat.le_of_ble_eq_true rfl) rfl rfl rfl rfl (Or.inl tb_464) (dX1_take_0 11 rfl) ?_
  refine R_iconst (dX1_take_0 12 rfl) rfl ?_
  refine R_istore (i := 4) (ls' := [some (.inr (.inr (some (ad 21)))), some (.inr (.inr (some (ad 1)))), some (.inr (.inr (some (ad 3)))), some (.inl x3), some (.inl 0), none]) (dX1_take_0 13 rfl) (Nat.le_of_ble_eq_true rfl) (Nat.le_of_ble_eq_true rfl) rfl rfl ?_
  refine t_X1_take_L25 l g ad S hS x3  100000 0 (mset (wr M 22 720 (M 21 5) x3) 21 5 (w32 (((wr M 22 720 (M 21 5) x3) 21 5) + 1))) H (fun M8 H => ?_)
  refine R_iconst (dX1_take_0 38 rfl) rfl ?_
  refine R_istore (i := 4) (ls' := [some (.inr (.inr (some (ad 21)))), none, some (.inr (.inr (some (ad 3)))), some (.inl x3), some (.inl 0), none]) (dX1_take_0 39 rfl) (Nat.le_of_ble_eq_true rfl) (Nat.le_of_ble_eq_true rfl) rfl rfl ?_
  exact t_X1_take_L76 l g ad S hS x3  100000 0 M8 H 
def f_X1_find_L36 : Nat → Int → Mem → Option (Int × Mem)
  | 0, _, _ => none
  | n + 1, x6, M =>
    if x6 < 720 then
      (f_X1_isLawful x6 M).bind fun r15 =>
      if r15 = 0 then
        if f_J6_bitCount_0f7a4 (-1) = 1 then
          f_X1_find_L36 n (w32 (x6 + 1)) (mset M 21 6 (b_or (M 21 6) (-1)))
        else
          f_X1_find_L36 n (w32 (x6 + 1)) M
      else
        (f_X0_brokenIn x6 M).bind fun r16 =>
        if r16 = 0 then
          ob (f_X1_take x6 M) fun r17 M18 =>
          f_X1_find_L36 n (w32 (x6 + 1)) M18
        else
          if f_J6_bitCount_0f7a4 r16 = 1 then
            f_X1_find_L36 n (w32 (x6 + 1)) (mset M 21 6 (b_or (M 21 6) r16))
          else
            f_X1_find_L36 n (w32 (x6 + 1)) M
    else
      some (0, M)
set_option maxHeartbeats 4000000 in
theorem t_X1_find_L36 (l : Launch) (g : GG) (ad : Nat → Nat) (S : SW) (hS : q_ag 0 38 ad S) {r : Int} {M' : Mem} : ∀ (n : Nat) (x6 : Int) (M : Mem), f_X1_find_L36 n x6 M = some (r, M') → RW l g MX1_find (q_rm 5 0 0) 0 0 (q_ex S none M') 36 S M 0 0 [some (.inr (.inr (some (ad 21)))), some (.inr (.inr (some (ad 1)))), some (.inr (.inr (some (ad 3)))), some (.inr (.inr (some (ad 7)))), none, none, some (.inl x6), none] [] := by
  intro n
  induction n with
  | zero => intro x6 M H; exact absurd H (by simp [f_X1_find_L36])
  | succ n ih =>
    intro x6 M H
    rw [f_X1_find_L36] at H
    refine R_iload (i := 6) (dX1_find 19 rfl) rfl ?_
    refine R_sipush (dX1_find 20 rfl) rfl rfl ?_
    refine R_icmp_ge (tgt := 109) (dX1_find 21 rfl) (by decide) (fun hc => ?_) (fun hc => ?_)
    · have H := ite_F H hc
      exact R_vret rfl (Nat.zero_le _) (Nat.zero_le _) (dX1_find 54 rfl) ⟨rfl, rfl, (Prod.mk.inj (Option.some.inj H)).2⟩
    · have H := ite_T H hc
      refine R_aload_n (i := 0) (dX1_find 22 rfl) rfl rfl ?_
      refine R_aload_n (i := 2) (dX1_find 23 rfl) rfl rfl ?_
      refine R_iload (i := 6) (dX1_find 24 rfl) rfl ?_
      obtain ⟨r15, hr, H⟩ := op_E H
      refine R_cV (st' := [.inl r15]) [.inr (.inr (some (ad 3))), .inl x6] [] (t_X1_isLawful l g ad S _ hS   x6 hr) msX1_isLawful (Or.inl tb_752) (Or.inl ⟨21, 1, _, _, _, (cl21 hS), rfl⟩) ⟨Nat.le_of_ble_eq_true rfl, Nat.le_of_ble_eq_true rfl⟩ (Nat.zero_le _) (Nat.zero_le _) rfl rfl (Nat.le_of_ble_eq_true rfl) rfl (dX1_find 25 rfl) ?_
      refine R_if_eq (tgt := 64) (dX1_find 26 rfl) (by decide) (fun hc => ?_) (fun hc => ?_)
      · have H := ite_T H hc
        refine R_iconst (dX1_find 32 rfl) rfl ?_
        refine R_istore (i := 7) (ls' := [some (.inr (.inr (some (ad 21)))), some (.inr (.inr (some (ad 1)))), some (.inr (.inr (some (ad 3)))), some (.inr (.inr (some (ad 7)))), none, none, some (.inl x6), some (.inl (-1))]) (dX1_find 33 rfl) (Nat.le_of_ble_eq_true rfl) (Nat.le_of_ble_eq_true rfl) rfl rfl ?_
        refine R_iload (i := 7) (dX1_find 34 rfl) rfl ?_
        refine R_if_ne (tgt := 83) (dX1_find 35 rfl) (by decide) (fun _ => ?_) (fun hc => absurd hc (by decide))
        refine R_iload (i := 7) (dX1_find 42 rfl) rfl ?_
        refine R_cS (st' := [.inl (f_J6_bitCount_0f7a4 (-1))]) [.inl (-1)] [] (t_J6_bitCount_0f7a4 l g S _   (-1)) msJ6_bitCount_0f7a4 (Or.inl tb_748) ⟨Nat.le_of_ble_eq_true rfl, Nat.le_of_ble_eq_true rfl⟩ (Nat.zero_le _) (Nat.zero_le _) rfl rfl (Nat.le_of_ble_eq_true rfl) rfl (dX1_find 43 rfl) ?_
        refine R_iconst (dX1_find 44 rfl) rfl ?_
        refine R_icmp_ne (tgt := 103) (dX1_find 45 rfl) (by decide) (fun hc => ?_) (fun hc => ?_)
        · have H := ite_F H hc
          refine R_iinc (i := 6) (ls' := [some (.inr (.inr (some (ad 21)))), some (.inr (.inr (some (ad 1)))), some (.inr (.inr (some (ad 3)))), some (.inr (.inr (some (ad 7)))), none, none, some (.inl (w32 (x6 + 1))), some (.inl (-1))]) (dX1_find 52 rfl) rfl (Nat.le_of_ble_eq_true rfl) rfl rfl ?_
          refine R_goto (tgt := 36) (dX1_find 53 rfl) (by decide) ?_
          refine R_mask [true, true, true, true, false, false, true, false] rfl ?_
          exact ih (w32 (x6 + 1)) M H
        · have H := ite_T H hc
          refine R_aload_n (i := 0) (dX1_find 46 rfl) rfl rfl ?_
          refine R_dup rfl (dX1_find 47 rfl) ?_
          refine R_getI cgX1 21 (cl21 hS) 6 (Nat.le_of_ble_eq_true rfl) rfl (Or.inl tb_466) (dX1_find 48 rfl) ?_
          refine R_iload (i := 7) (dX1_find 49 rfl) rfl ?_
          refine R_ior (dX1_find 50 rfl) ?_
          refine R_putI cgX1 21 (cl21 hS) 6 (Nat.le_of_ble_eq_true rfl) rfl rfl rfl rfl (Or.inl tb_466) (dX1_find 51 rfl) ?_
          refine R_iinc (i := 6) (ls' := [some (.inr (.inr (some (ad 21)))), some (.inr (.inr (some (ad 1)))), some (.inr (.inr (some (ad 3)))), some (.inr (.inr (some (ad 7)))), none, none, some (.inl (w32 (x6 + 1))), some (.inl (-1))]) (dX1_find 52 rfl) rfl (Nat.le_of_ble_eq_true rfl) rfl rfl ?_
          refine R_goto (tgt := 36) (dX1_find 53 rfl) (by decide) ?_
          refine R_mask [true, true, true, true, false, false, true, false] rfl ?_
          exact ih (w32 (x6 + 1)) (mset M 21 6 (b_or (M 21 6) (-1))) H
      · have H := ite_F H hc
        refine R_aload_n (i := 3) (dX1_find 27 rfl) rfl rfl ?_
        refine R_aload_n (i := 2) (dX1_find 28 rfl) rfl rfl ?_
        refine R_iload (i := 6) (dX1_find 29 rfl) rfl ?_
        obtain ⟨r16, hr, H⟩ := op_E H
        refine R_cV (st' := [.inl r16]) [.inr (.inr (some (ad 3))), .inl x6] [] (t_X0_brokenIn l g ad S _ hS   x6 hr) msX0_brokenIn (Or.inl tb_761) (Or.inl ⟨7, 0, _, _, _, (cl7 hS), rfl⟩) ⟨Nat.le_of_ble_eq_true rfl, Nat.le_of_ble_eq_true rfl⟩ (Nat.zero_le _) (Nat.zero_le _) rfl rfl (Nat.le_of_ble_eq_true rfl) rfl (dX1_find 30 rfl) ?_
        refine R_goto (tgt := 65) (dX1_find 31 rfl) (by decide) ?_
        refine R_istore (i := 7) (ls' := [some (.inr (.inr (some (ad 21)))), some (.inr (.inr (some (ad 1)))), some (.inr (.inr (some (ad 3)))), some (.inr (.inr (some (ad 7)))), none, none, some (.inl x6), some (.inl r16)]) (dX1_find 33 rfl) (Nat.le_of_ble_eq_true rfl) (Nat.le_of_ble_eq_true rfl) rfl rfl ?_
        refine R_iload (i := 7) (dX1_find 34 rfl) rfl ?_
        refine R_if_ne (tgt := 83) (dX1_find 35 rfl) (by decide) (fun hc => ?_) (fun hc => ?_)
        · have H := ite_F H hc
          refine R_iload (i := 7) (dX1_find 42 rfl) rfl ?_
          refine R_cS (st' := [.inl (f_J6_bitCount_0f7a4 r16)]) [.inl r16] [] (t_J6_bitCount_0f7a4 l g S _   r16) msJ6_bitCount_0f7a4 (Or.inl tb_748) ⟨Nat.le_of_ble_eq_true rfl, Nat.le_of_ble_eq_true rfl⟩ (Nat.zero_le _) (Nat.zero_le _) rfl rfl (Nat.le_of_ble_eq_true rfl) rfl (dX1_find 43 rfl) ?_
          refine R_iconst (dX1_find 44 rfl) rfl ?_
          refine R_icmp_ne (tgt := 103) (dX1_find 45 rfl) (by decide) (fun hc => ?_) (fun hc => ?_)
          · have H := ite_F H hc
            refine R_iinc (i := 6) (ls' := [some (.inr (.inr (some (ad 21)))), some (.inr (.inr (some (ad 1)))), some (.inr (.inr (some (ad 3)))), some (.inr (.inr (some (ad 7)))), none, none, some (.inl (w32 (x6 + 1))), some (.inl r16)]) (dX1_find 52 rfl) rfl (Nat.le_of_ble_eq_true rfl) rfl rfl ?_
            refine R_goto (tgt := 36) (dX1_find 53 rfl) (by decide) ?_
            refine R_mask [true, true, true, true, false, false, true, false] rfl ?_
            exact ih (w32 (x6 + 1)) M H
          · have H := ite_T H hc
            refine R_aload_n (i := 0) (dX1_find 46 rfl) rfl rfl ?_
            refine R_dup rfl (dX1_find 47 rfl) ?_
            refine R_getI cgX1 21 (cl21 hS) 6 (Nat.le_of_ble_eq_true rfl) rfl (Or.inl tb_466) (dX1_find 48 rfl) ?_
            refine R_iload (i := 7) (dX1_find 49 rfl) rfl ?_
            refine R_ior (dX1_find 50 rfl) ?_
            refine R_putI cgX1 21 (cl21 hS) 6 (Nat.le_of_ble_eq_true rfl) rfl rfl rfl rfl (Or.inl tb_466) (dX1_find 51 rfl) ?_
            refine R_iinc (i := 6) (ls' := [some (.inr (.inr (some (ad 21)))), some (.inr (.inr (some (ad 1)))), some (.inr (.inr (some (ad 3)))), some (.inr (.inr (some (ad 7)))), none, none, some (.inl (w32 (x6 + 1))), some (.inl r16)]) (dX1_find 52 rfl) rfl (Nat.le_of_ble_eq_true rfl) rfl rfl ?_
            refine R_goto (tgt := 36) (dX1_find 53 rfl) (by decide) ?_
            refine R_mask [true, true, true, true, false, false, true, false] rfl ?_
            exact ih (w32 (x6 + 1)) (mset M 21 6 (b_or (M 21 6) r16)) H
        · have H := ite_T H hc
          refine R_aload_n (i := 0) (dX1_find 36 rfl) rfl rfl ?_
          refine R_aload_n (i := 1) (dX1_find 37 rfl) rfl rfl ?_
          refine R_aload_n (i := 2) (dX1_find 38 rfl) rfl rfl ?_
          refine R_iload (i := 6) (dX1_find 39 rfl) rfl ?_
          obtain ⟨r17, M18, hr, H⟩ := ob_E H
          refine R_cV (st' := []) [.inr (.inr (some (ad 1))), .inr (.inr (some (ad 3))), .inl x6] [] (t_X1_take l g ad S _ hS   x6 hr) msX1_take (Or.inl tb_771) (Or.inl ⟨21, 1, _, _, _, (cl21 hS), rfl⟩) ⟨Nat.le_of_ble_eq_true rfl, Nat.le_of_ble_eq_true rfl⟩ (Nat.zero_le _) (Nat.zero_le _) rfl rfl (Nat.le_of_ble_eq_true rfl) rfl (dX1_find 40 rfl) ?_
          refine R_goto (tgt := 103) (dX1_find 41 rfl) (by decide) ?_
          refine R_iinc (i := 6) (ls' := [some (.inr (.inr (some (ad 21)))), some (.inr (.inr (some (ad 1)))), some (.inr (.inr (some (ad 3)))), some (.inr (.inr (some (ad 7)))), none, none, some (.inl (w32 (x6 + 1))), some (.inl r16)]) (dX1_find 52 rfl) rfl (Nat.le_of_ble_eq_true rfl) rfl rfl ?_
          refine R_goto (tgt := 36) (dX1_find 53 rfl) (by decide) ?_
          refine R_mask [true, true, true, true, false, false, true, false] rfl ?_
          exact ih (w32 (x6 + 1)) M18 H
def f_X1_find (x5 : Int) (M : Mem) : Option (Int × Mem) :=
  ob (f_X1_clear 23 36 (mset (mset M 21 5 0) 21 6 0)) fun r9 M10 =>
  ob (f_X1_clear 24 640 M10) fun r11 M12 =>
  ob (f_X1_allow x5 M12) fun r13 M14 =>
  f_X1_find_L36
    100000 0 M14
set_option maxHeartbeats 4000000 in
theorem t_X1_find (l : Launch) (g : GG) (ad : Nat → Nat) (S : SW) (M : Mem) (hS : q_ag 0 38 ad S) (x5 : Int) {r : Int} {M' : Mem} (H : f_X1_find x5 M = some (r, M')) : CT l g MX1_find 5 0 0 S M [.inr (.inr (some (ad 21))), .inr (.inr (some (ad 1))), .inr (.inr (some (ad 3))), .inr (.inr (some (ad 7))), .inr (.inr (some (ad 12))), .inl x5] (q_ex S none M') := by
  unfold f_X1_find at H
  refine CT_of (ls0 := [some (.inr (.inr (some (ad 21)))), some (.inr (.inr (some (ad 1)))), some (.inr (.inr (some (ad 3)))), some (.inr (.inr (some (ad 7)))), some (.inr (.inr (some (ad 12)))), some (.inl x5), none, none]) (by decide +kernel) (Nat.le_of_ble_eq_true rfl) rfl ?_
  refine R_aload_n (i := 0) (dX1_find 0 rfl) rfl rfl ?_
  refine R_iconst (dX1_find 1 rfl) rfl ?_
  refine R_putI cgX1 21 (cl21 hS) 5 (Nat.le_of_ble_eq_true rfl) rfl rfl rfl rfl (Or.inl tb_464) (dX1_find 2 rfl) ?_
  refine R_aload_n (i := 0) (dX1_find 3 rfl) rfl rfl ?_
  refine R_iconst (dX1_find 4 rfl) rfl ?_
  refine R_putI cgX1 21 (cl21 hS) 6 (Nat.le_of_ble_eq_true rfl) rfl rfl rfl rfl (Or.inl tb_466) (dX1_find 5 rfl) ?_
  refine R_aload_n (i := 0) (dX1_find 6 rfl) rfl rfl ?_
  refine R_getR cgX1 21 (cl21 hS) 1 (Nat.le_of_ble_eq_true rfl) rfl (Or.inl tb_460) (dX1_find 7 rfl) ?_
  obtain ⟨r9, M10, hr, H⟩ := ob_E H
  refine R_cS (st' := []) [.inr (.inr (some (ad 23)))] [] (t_X1_clear l g S _  23 36 (cl23 hS) (Nat.le_of_ble_eq_true rfl)  hr) msX1_clear (Or.inl tb_740) ⟨Nat.le_of_ble_eq_true rfl, Nat.le_of_ble_eq_true rfl⟩ (Nat.zero_le _) (Nat.zero_le _) rfl rfl (Nat.le_of_ble_eq_true rfl) rfl (dX1_find 8 rfl) ?_
  refine R_aload_n (i := 0) (dX1_find 9 rfl) rfl rfl ?_
  refine R_getR cgX1 21 (cl21 hS) 2 (Nat.le_of_ble_eq_true rfl) rfl (Or.inl tb_461) (dX1_find 10 rfl) ?_
  obtain ⟨r11, M12, hr, H⟩ := ob_E H
  refine R_cS (st' := []) [.inr (.inr (some (ad 24)))] [] (t_X1_clear l g S _  24 640 (cl24 hS) (Nat.le_of_ble_eq_true rfl)  hr) msX1_clear (Or.inl tb_740) ⟨Nat.le_of_ble_eq_true rfl, Nat.le_of_ble_eq_true rfl⟩ (Nat.zero_le _) (Nat.zero_le _) rfl rfl (Nat.le_of_ble_eq_true rfl) rfl (dX1_find 11 rfl) ?_
  refine R_aload_n (i := 0) (dX1_find 12 rfl) rfl rfl ?_
  refine R_aload_n (i := 2) (dX1_find 13 rfl) rfl rfl ?_
  refine R_aload (i := 4) (dX1_find 14 rfl) rfl ?_
  refine R_iload (i := 5) (dX1_find 15 rfl) rfl ?_
  obtain ⟨r13, M14, hr, H⟩ := ob_E H
  refine R_cV (st' := []) [.inr (.inr (some (ad 3))), .inr (.inr (some (ad 12))), .inl x5] [] (t_X1_allow l g ad S _ hS   x5 hr) msX1_allow (Or.inl tb_743) (Or.inl ⟨21, 1, _, _, _, (cl21 hS), rfl⟩) ⟨Nat.le_of_ble_eq_true rfl, Nat.le_of_ble_eq_true rfl⟩ (Nat.zero_le _) (Nat.zero_le _) rfl rfl (Nat.le_of_ble_eq_true rfl) rfl (dX1_find 16 rfl) ?_
  refine R_iconst (dX1_find 17 rfl) rfl ?_
  refine R_istore (i := 6) (ls' := [some (.inr (.inr (some (ad 21)))), some (.inr (.inr (some (ad 1)))), some (.inr (.inr (some (ad 3)))), some (.inr (.inr (some (ad 7)))), some (.inr (.inr (some (ad 12)))), some (.inl x5), some (.inl 0), none]) (dX1_find 18 rfl) (Nat.le_of_ble_eq_true rfl) (Nat.le_of_ble_eq_true rfl) rfl rfl ?_
  refine R_mask [true, true, true, true, false, false, true, false] rfl ?_
  exact t_X1_find_L36 l g ad S hS  100000 0 M14 H 
def f_X1_anyBy_L11 : Nat → Int → Mem → Option (Int × Mem)
  | 0, _, _ => none
  | n + 1, x5, M =>
    if x5 < 720 then
      (f_X1_isLawful x5 M).bind fun r21 =>
      if r21 = 0 then
        f_X1_anyBy_L11 n (w32 (x5 + 1)) M
      else
        (f_X0_brokenIn x5 M).bind fun r22 =>
        if r22 = 0 then
          some (1, M)
        else
          f_X1_anyBy_L11 n (w32 (x5 + 1)) M
    else
      some (0, M)
set_option maxHeartbeats 4000000 in
theorem t_X1_anyBy_L11 (l : Launch) (g : GG) (ad : Nat → Nat) (S : SW) (hS : q_ag 0 38 ad S) {r : Int} {M' : Mem} : ∀ (n : Nat) (x5 : Int) (M : Mem), f_X1_anyBy_L11 n x5 M = some (r, M') → RW l g MX1_anyBy (q_rm 5 0 0) 0 0 (q_ex S (some (.inl r)) M') 11 S M 0 0 [some (.inr (.inr (some (ad 21)))), some (.inr (.inr (some (ad 3)))), some (.inr (.inr (some (ad 7)))), none, none, some (.inl x5)] [] := by
  intro n
  induction n with
  | zero => intro x5 M H; exact absurd H (by simp [f_X1_anyBy_L11])
  | succ n ih =>
    intro x5 M H
    rw [f_X1_anyBy_L11] at H
    refine R_iload (i := 5) (dX1_anyBy 7 rfl) rfl ?_
    refine R_sipush (dX1_anyBy 8 rfl) rfl rfl ?_
    refine R_icmp_ge (tgt := 47) (dX1_anyBy 9 rfl) (by decide) (fun hc => ?_) (fun hc => ?_)
    · have H := ite_F H hc
      refine R_iconst (dX1_anyBy 24 rfl) rfl ?_
      exact R_iret rfl (by decide +kernel) (Nat.zero_le _) (Nat.zero_le _) (dX1_anyBy 25 rfl) ⟨congrArg (fun z => some (Sum.inl z)) (Prod.mk.inj (Option.some.inj H)).1, rfl, (Prod.mk.inj (Option.some.inj H)).2⟩
    · have H := ite_T H hc
      refine R_aload_n (i := 0) (dX1_anyBy 10 rfl) rfl rfl ?_
      refine R_aload_n (i := 1) (dX1_anyBy 11 rfl) rfl rfl ?_
      refine R_iload (i := 5) (dX1_anyBy 12 rfl) rfl ?_
      obtain ⟨r21, hr, H⟩ := op_E H
      refine R_cV (st' := [.inl r21]) [.inr (.inr (some (ad 3))), .inl x5] [] (t_X1_isLawful l g ad S _ hS   x5 hr) msX1_isLawful (Or.inl tb_752) (Or.inl ⟨21, 1, _, _, _, (cl21 hS), rfl⟩) ⟨Nat.le_of_ble_eq_true rfl, Nat.le_of_ble_eq_true rfl⟩ (Nat.zero_le _) (Nat.zero_le _) rfl rfl (Nat.le_of_ble_eq_true rfl) rfl (dX1_anyBy 13 rfl) ?_
      refine R_if_eq (tgt := 41) (dX1_anyBy 14 rfl) (by decide) (fun hc => ?_) (fun hc => ?_)
      · have H := ite_T H hc
        refine R_iinc (i := 5) (ls' := [some (.inr (.inr (some (ad 21)))), some (.inr (.inr (some (ad 3)))), some (.inr (.inr (some (ad 7)))), none, none, some (.inl (w32 (x5 + 1)))]) (dX1_anyBy 22 rfl) rfl (Nat.le_of_ble_eq_true rfl) rfl rfl ?_
        refine R_goto (tgt := 11) (dX1_anyBy 23 rfl) (by decide) ?_
        exact ih (w32 (x5 + 1)) M H
      · have H := ite_F H hc
        refine R_aload_n (i := 2) (dX1_anyBy 15 rfl) rfl rfl ?_
        refine R_aload_n (i := 1) (dX1_anyBy 16 rfl) rfl rfl ?_
        refine R_iload (i := 5) (dX1_anyBy 17 rfl) rfl ?_
        obtain ⟨r22, hr, H⟩ := op_E H
        refine R_cV (st' := [.inl r22]) [.inr (.inr (some (ad 3))), .inl x5] [] (t_X0_brokenIn l g ad S _ hS   x5 hr) msX0_brokenIn (Or.inl tb_761) (Or.inl ⟨7, 0, _, _, _, (cl7 hS), rfl⟩) ⟨Nat.le_of_ble_eq_true rfl, Nat.le_of_ble_eq_true rfl⟩ (Nat.zero_le _) (Nat.zero_le _) rfl rfl (Nat.le_of_ble_eq_true rfl) rfl (dX1_anyBy 18 rfl) ?_
        refine R_if_ne (tgt := 41) (dX1_anyBy 19 rfl) (by decide) (fun hc => ?_) (fun hc => ?_)
        · have H := ite_F H hc
          refine R_iinc (i := 5) (ls' := [some (.inr (.inr (some (ad 21)))), some (.inr (.inr (some (ad 3)))), some (.inr (.inr (some (ad 7)))), none, none, some (.inl (w32 (x5 + 1)))]) (dX1_anyBy 22 rfl) rfl (Nat.le_of_ble_eq_true rfl) rfl rfl ?_
          refine R_goto (tgt := 11) (dX1_anyBy 23 rfl) (by decide) ?_
          exact ih (w32 (x5 + 1)) M H
        · have H := ite_T H hc
          refine R_iconst (dX1_anyBy 20 rfl) rfl ?_
          exact R_iret rfl (by decide +kernel) (Nat.zero_le _) (Nat.zero_le _) (dX1_anyBy 21 rfl) ⟨congrArg (fun z => some (Sum.inl z)) (Prod.mk.inj (Option.some.inj H)).1, rfl, (Prod.mk.inj (Option.some.inj H)).2⟩
def f_X1_anyBy (x4 : Int) (M : Mem) : Option (Int × Mem) :=
  ob (f_X1_allow x4 M) fun r19 M20 =>
  f_X1_anyBy_L11
    100000 0 M20
set_option maxHeartbeats 4000000 in
theorem t_X1_anyBy (l : Launch) (g : GG) (ad : Nat → Nat) (S : SW) (M : Mem) (hS : q_ag 0 38 ad S) (x4 : Int) {r : Int} {M' : Mem} (H : f_X1_anyBy x4 M = some (r, M')) : CT l g MX1_anyBy 5 0 0 S M [.inr (.inr (some (ad 21))), .inr (.inr (some (ad 3))), .inr (.inr (some (ad 7))), .inr (.inr (some (ad 12))), .inl x4] (q_ex S (some (.inl r)) M') := by
  unfold f_X1_anyBy at H
  refine CT_of (ls0 := [some (.inr (.inr (some (ad 21)))), some (.inr (.inr (some (ad 3)))), some (.inr (.inr (some (ad 7)))), some (.inr (.inr (some (ad 12)))), some (.inl x4), none]) (by decide +kernel) (Nat.le_of_ble_eq_true rfl) rfl ?_
  refine R_aload_n (i := 0) (dX1_anyBy 0 rfl) rfl rfl ?_
  refine R_aload_n (i := 1) (dX1_anyBy 1 rfl) rfl rfl ?_
  refine R_aload_n (i := 3) (dX1_anyBy 2 rfl) rfl rfl ?_
  refine R_iload (i := 4) (dX1_anyBy 3 rfl) rfl ?_
  obtain ⟨r19, M20, hr, H⟩ := ob_E H
  refine R_cV (st' := []) [.inr (.inr (some (ad 3))), .inr (.inr (some (ad 12))), .inl x4] [] (t_X1_allow l g ad S _ hS   x4 hr) msX1_allow (Or.inl tb_743) (Or.inl ⟨21, 1, _, _, _, (cl21 hS), rfl⟩) ⟨Nat.le_of_ble_eq_true rfl, Nat.le_of_ble_eq_true rfl⟩ (Nat.zero_le _) (Nat.zero_le _) rfl rfl (Nat.le_of_ble_eq_true rfl) rfl (dX1_anyBy 4 rfl) ?_
  refine R_iconst (dX1_anyBy 5 rfl) rfl ?_
  refine R_istore (i := 5) (ls' := [some (.inr (.inr (some (ad 21)))), some (.inr (.inr (some (ad 3)))), some (.inr (.inr (some (ad 7)))), some (.inr (.inr (some (ad 12)))), some (.inl x4), some (.inl 0)]) (dX1_anyBy 6 rfl) (Nat.le_of_ble_eq_true rfl) (Nat.le_of_ble_eq_true rfl) rfl rfl ?_
  refine R_mask [true, true, true, false, false, true] rfl ?_
  exact t_X1_anyBy_L11 l g ad S hS  100000 0 M20 H 
def f_X1_tongueOf (x1 : Int) (M : Mem) : Int :=
  rd 720 (M 22) x1
set_option maxHeartbeats 4000000 in
theorem t_X1_tongueOf (l : Launch) (g : GG) (ad : Nat → Nat) (S : SW) (M : Mem) (hS : q_ag 0 38 ad S) (x1 : Int) : CT l g MX1_tongueOf 2 0 0 S M [.inr (.inr (some (ad 21))), .inl x1] (q_ex S (some (.inl (f_X1_tongueOf x1 M))) M) := by
  obtain ⟨r, H⟩ : ∃ r, f_X1_tongueOf x1 M = r := ⟨_, rfl⟩
  rw [H]
  unfold f_X1_tongueOf at H
  refine CT_of (ls0 := [some (.inr (.inr (some (ad 21)))), some (.inl x1)]) (by decide +kernel) (Nat.le_of_ble_eq_true rfl) rfl ?_
  refine R_aload_n (i := 0) (dX1_tongueOf 0 rfl) rfl rfl ?_
  refine R_getR cgX1 21 (cl21 hS) 0 (Nat.le_of_ble_eq_true rfl) rfl (Or.inl tb_459) (dX1_tongueOf 1 rfl) ?_
  refine R_iload_n (i := 1) (dX1_tongueOf 2 rfl) rfl rfl ?_
  refine R_cS (st' := [.inl (rd 720 (M 22) x1)]) [.inr (.inr (some (ad 22))), .inl x1] [] (t_at l g S _ 22 (cl22 hS) (Nat.le_of_ble_eq_true rfl) x1) msX9_at (Or.inr ⟨_, tb_760⟩) ⟨Nat.le_of_ble_eq_true rfl, Nat.le_of_ble_eq_true rfl⟩ (Nat.zero_le _) (Nat.zero_le _) rfl rfl (Nat.le_of_ble_eq_true rfl) rfl (dX1_tongueOf 3 rfl) ?_
  exact R_iret rfl rfl (Nat.zero_le _) (Nat.zero_le _) (dX1_tongueOf 4 rfl) ⟨congrArg (fun z => some (Sum.inl z)) H, rfl, rfl⟩
def f_X1_meaning (x1 : Int) (x2 : Int) (M : Mem) : Int :=
  rd 36 (M 23) (w32 ((w32 (x1 * 6)) + x2))
set_option maxHeartbeats 4000000 in
theorem t_X1_meaning (l : Launch) (g : GG) (ad : Nat → Nat) (S : SW) (M : Mem) (hS : q_ag 0 38 ad S) (x1 : Int) (x2 : Int) : CT l g MX1_meaning 2 0 0 S M [.inr (.inr (some (ad 21))), .inl x1, .inl x2] (q_ex S (some (.inl (f_X1_meaning x1 x2 M))) M) := by
  obtain ⟨r, H⟩ : ∃ r, f_X1_meaning x1 x2 M = r := ⟨_, rfl⟩
  rw [H]
  unfold f_X1_meaning at H
  refine CT_of (ls0 := [some (.inr (.inr (some (ad 21)))), some (.inl x1), some (.inl x2)]) (by decide +kernel) (Nat.le_of_ble_eq_true rfl) rfl ?_
  refine R_aload_n (i := 0) (dX1_meaning 0 rfl) rfl rfl ?_
  refine R_getR cgX1 21 (cl21 hS) 1 (Nat.le_of_ble_eq_true rfl) rfl (Or.inl tb_460) (dX1_meaning 1 rfl) ?_
  refine R_iload_n (i := 1) (dX1_meaning 2 rfl) rfl rfl ?_
  refine R_bipush (dX1_meaning 3 rfl) rfl rfl ?_
  refine R_imul (dX1_meaning 4 rfl) ?_
  refine R_iload_n (i := 2) (dX1_meaning 5 rfl) rfl rfl ?_
  refine R_iadd (dX1_meaning 6 rfl) ?_
  refine R_cS (st' := [.inl (rd 36 (M 23) (w32 ((w32 (x1 * 6)) + x2)))]) [.inr (.inr (some (ad 23))), .inl (w32 ((w32 (x1 * 6)) + x2))] [] (t_at l g S _ 23 (cl23 hS) (Nat.le_of_ble_eq_true rfl) (w32 ((w32 (x1 * 6)) + x2))) msX9_at (Or.inr ⟨_, tb_760⟩) ⟨Nat.le_of_ble_eq_true rfl, Nat.le_of_ble_eq_true rfl⟩ (Nat.zero_le _) (Nat.zero_le _) rfl rfl (Nat.le_of_ble_eq_true rfl) rfl (dX1_meaning 7 rfl) ?_
  exact R_iret rfl rfl (Nat.zero_le _) (Nat.zero_le _) (dX1_meaning 8 rfl) ⟨congrArg (fun z => some (Sum.inl z)) H, rfl, rfl⟩
def f_X1_meaningsOf_L4 (x1 : Int) (M : Mem) : Nat → Int → Int → Option Int
  | 0, _, _ => none
  | n + 1, x2, x3 =>
    if x3 < 6 then
      if 0 < f_X1_meaning x1 x3 M then
        f_X1_meaningsOf_L4 x1 M n (w32 (x2 + 1)) (w32 (x3 + 1))
      else
        f_X1_meaningsOf_L4 x1 M n x2 (w32 (x3 + 1))
    else
      some x2
set_option maxHeartbeats 4000000 in
theorem t_X1_meaningsOf_L4 (l : Launch) (g : GG) (ad : Nat → Nat) (S : SW) (M : Mem) (hS : q_ag 0 38 ad S) (x1 : Int) {r : Int} : ∀ (n : Nat) (x2 : Int) (x3 : Int), f_X1_meaningsOf_L4 x1 M n x2 x3 = some r → RW l g MX1_meaningsOf (q_rm 3 0 0) 0 0 (q_ex S (some (.inl r)) M) 4 S M 0 0 [some (.inr (.inr (some (ad 21)))), some (.inl x1), some (.inl x2), some (.inl x3)] [] := by
  intro n
  induction n with
  | zero => intro x2 x3 H; exact absurd H (by simp [f_X1_meaningsOf_L4])
  | succ n ih =>
    intro x2 x3 H
    rw [f_X1_meaningsOf_L4] at H
    refine R_iload_n (i := 3) (dX1_meaningsOf 4 rfl) rfl rfl ?_
    refine R_bipush (dX1_meaningsOf 5 rfl) rfl rfl ?_
    refine R_icmp_ge (tgt := 28) (dX1_meaningsOf 6 rfl) (by decide) (fun hc => ?_) (fun hc => ?_)
    · have H := ite_F H hc
      refine R_iload_n (i := 2) (dX1_meaningsOf 15 rfl) rfl rfl ?_
      exact R_iret rfl rfl (Nat.zero_le _) (Nat.zero_le _) (dX1_meaningsOf 16 rfl) ⟨congrArg (fun z => some (Sum.inl z)) (Option.some.inj H), rfl, rfl⟩
    · have H := ite_T H hc
      refine R_aload_n (i := 0) (dX1_meaningsOf 7 rfl) rfl rfl ?_
      refine R_iload_n (i := 1) (dX1_meaningsOf 8 rfl) rfl rfl ?_
      refine R_iload_n (i := 3) (dX1_meaningsOf 9 rfl) rfl rfl ?_
      refine R_cV (st' := [.inl (f_X1_meaning x1 x3 M)]) [.inl x1, .inl x3] [] (t_X1_meaning l g ad S _ hS   x1 x3) msX1_meaning (Or.inl tb_811) (Or.inl ⟨21, 1, _, _, _, (cl21 hS), rfl⟩) ⟨Nat.le_of_ble_eq_true rfl, Nat.le_of_ble_eq_true rfl⟩ (Nat.zero_le _) (Nat.zero_le _) rfl rfl (Nat.le_of_ble_eq_true rfl) rfl (dX1_meaningsOf 10 rfl) ?_
      refine R_if_le (tgt := 22) (dX1_meaningsOf 11 rfl) (by decide) (fun hc => ?_) (fun hc => ?_)
      · have H := ite_F H hc
        refine R_iinc (i := 3) (ls' := [some (.inr (.inr (some (ad 21)))), some (.inl x1), some (.inl x2), some (.inl (w32 (x3 + 1)))]) (dX1_meaningsOf 13 rfl) rfl (Nat.le_of_ble_eq_true rfl) rfl rfl ?_
        refine R_goto (tgt := 4) (dX1_meaningsOf 14 rfl) (by decide) ?_
        exact ih x2 (w32 (x3 + 1)) H
      · have H := ite_T H hc
        refine R_iinc (i := 2) (ls' := [some (.inr (.inr (some (ad 21)))), some (.inl x1), some (.inl (w32 (x2 + 1))), some (.inl x3)]) (dX1_meaningsOf 12 rfl) rfl (Nat.le_of_ble_eq_true rfl) rfl rfl ?_
        refine R_iinc (i := 3) (ls' := [some (.inr (.inr (some (ad 21)))), some (.inl x1), some (.inl (w32 (x2 + 1))), some (.inl (w32 (x3 + 1)))]) (dX1_meaningsOf 13 rfl) rfl (Nat.le_of_ble_eq_true rfl) rfl rfl ?_
        refine R_goto (tgt := 4) (dX1_meaningsOf 14 rfl) (by decide) ?_
        exact ih (w32 (x2 + 1)) (w32 (x3 + 1)) H
def f_X1_meaningsOf (x1 : Int) (M : Mem) : Option Int :=
  f_X1_meaningsOf_L4
    x1 M 100000 0 0
set_option maxHeartbeats 4000000 in
theorem t_X1_meaningsOf (l : Launch) (g : GG) (ad : Nat → Nat) (S : SW) (M : Mem) (hS : q_ag 0 38 ad S) (x1 : Int) {r : Int} (H : f_X1_meaningsOf x1 M = some r) : CT l g MX1_meaningsOf 3 0 0 S M [.inr (.inr (some (ad 21))), .inl x1] (q_ex S (some (.inl r)) M) := by
  unfold f_X1_meaningsOf at H
  refine CT_of (ls0 := [some (.inr (.inr (some (ad 21)))), some (.inl x1), none, none]) (by decide +kernel) (Nat.le_of_ble_eq_true rfl) rfl ?_
  refine R_iconst (dX1_meaningsOf 0 rfl) rfl ?_
  refine R_istore_n (i := 2) (ls' := [some (.inr (.inr (some (ad 21)))), some (.inl x1), some (.inl 0), none]) (dX1_meaningsOf 1 rfl) rfl (Nat.le_of_ble_eq_true rfl) (Nat.le_of_ble_eq_true rfl) rfl rfl ?_
  refine R_iconst (dX1_meaningsOf 2 rfl) rfl ?_
  refine R_istore_n (i := 3) (ls' := [some (.inr (.inr (some (ad 21)))), some (.inl x1), some (.inl 0), some (.inl 0)]) (dX1_meaningsOf 3 rfl) rfl (Nat.le_of_ble_eq_true rfl) (Nat.le_of_ble_eq_true rfl) rfl rfl ?_
  exact t_X1_meaningsOf_L4 l g ad S M hS x1  100000 0 0 H 
def f_X1_having (x1 : Int) (x2 : Int) (M : Mem) : Int :=
  rd 640 (M 24) (w32 ((w32 (x1 * 64)) + x2))
set_option maxHeartbeats 4000000 in
theorem t_X1_having (l : Launch) (g : GG) (ad : Nat → Nat) (S : SW) (M : Mem) (hS : q_ag 0 38 ad S) (x1 : Int) (x2 : Int) : CT l g MX1_having 2 0 0 S M [.inr (.inr (some (ad 21))), .inl x1, .inl x2] (q_ex S (some (.inl (f_X1_having x1 x2 M))) M) := by
  obtain ⟨r, H⟩ : ∃ r, f_X1_having x1 x2 M = r := ⟨_, rfl⟩
  rw [H]
  unfold f_X1_having at H
  refine CT_of (ls0 := [some (.inr (.inr (some (ad 21)))), some (.inl x1), some (.inl x2)]) (by decide +kernel) (Nat.le_of_ble_eq_true rfl) rfl ?_
  refine R_aload_n (i := 0) (dX1_having 0 rfl) rfl rfl ?_
  refine R_getR cgX1 21 (cl21 hS) 2 (Nat.le_of_ble_eq_true rfl) rfl (Or.inl tb_461) (dX1_having 1 rfl) ?_
  refine R_iload_n (i := 1) (dX1_having 2 rfl) rfl rfl ?_
  refine R_bipush (dX1_having 3 rfl) rfl rfl ?_
  refine R_imul (dX1_having 4 rfl) ?_
  refine R_iload_n (i := 2) (dX1_having 5 rfl) rfl rfl ?_
  refine R_iadd (dX1_having 6 rfl) ?_
  refine R_cS (st' := [.inl (rd 640 (M 24) (w32 ((w32 (x1 * 64)) + x2)))]) [.inr (.inr (some (ad 24))), .inl (w32 ((w32 (x1 * 64)) + x2))] [] (t_at l g S _ 24 (cl24 hS) (Nat.le_of_ble_eq_true rfl) (w32 ((w32 (x1 * 64)) + x2))) msX9_at (Or.inr ⟨_, tb_760⟩) ⟨Nat.le_of_ble_eq_true rfl, Nat.le_of_ble_eq_true rfl⟩ (Nat.zero_le _) (Nat.zero_le _) rfl rfl (Nat.le_of_ble_eq_true rfl) rfl (dX1_having 7 rfl) ?_
  exact R_iret rfl rfl (Nat.zero_le _) (Nat.zero_le _) (dX1_having 8 rfl) ⟨congrArg (fun z => some (Sum.inl z)) H, rfl, rfl⟩
def f_X1_withAll_L5 (x1 : Int) (x2 : Int) (M : Mem) : Nat → Int → Int → Option Int
  | 0, _, _ => none
  | n + 1, x3, x4 =>
    if x4 < 64 then
      if b_and x4 x2 = x2 then
        f_X1_withAll_L5 x1 x2 M n (w32 (x3 + (f_X1_having x1 x4 M))) (w32 (x4 + 1))
      else
        f_X1_withAll_L5 x1 x2 M n x3 (w32 (x4 + 1))
    else
      some x3
set_option maxHeartbeats 4000000 in
theorem t_X1_withAll_L5 (l : Launch) (g : GG) (ad : Nat → Nat) (S : SW) (M : Mem) (hS : q_ag 0 38 ad S) (x1 : Int) (x2 : Int) {r : Int} : ∀ (n : Nat) (x3 : Int) (x4 : Int), f_X1_withAll_L5 x1 x2 M n x3 x4 = some r → RW l g MX1_withAll (q_rm 3 0 0) 0 0 (q_ex S (some (.inl r)) M) 5 S M 0 0 [some (.inr (.inr (some (ad 21)))), some (.inl x1), some (.inl x2), some (.inl x3), some (.inl x4)] [] := by
  intro n
  induction n with
  | zero => intro x3 x4 H; exact absurd H (by simp [f_X1_withAll_L5])
  | succ n ih =>
    intro x3 x4 H
    rw [f_X1_withAll_L5] at H
    refine R_iload (i := 4) (dX1_withAll 4 rfl) rfl ?_
    refine R_bipush (dX1_withAll 5 rfl) rfl rfl ?_
    refine R_icmp_ge (tgt := 36) (dX1_withAll 6 rfl) (by decide) (fun hc => ?_) (fun hc => ?_)
    · have H := ite_F H hc
      refine R_iload_n (i := 3) (dX1_withAll 21 rfl) rfl rfl ?_
      exact R_iret rfl rfl (Nat.zero_le _) (Nat.zero_le _) (dX1_withAll 22 rfl) ⟨congrArg (fun z => some (Sum.inl z)) (Option.some.inj H), rfl, rfl⟩
    · have H := ite_T H hc
      refine R_iload (i := 4) (dX1_withAll 7 rfl) rfl ?_
      refine R_iload_n (i := 2) (dX1_withAll 8 rfl) rfl rfl ?_
      refine R_iand (dX1_withAll 9 rfl) ?_
      refine R_iload_n (i := 2) (dX1_withAll 10 rfl) rfl rfl ?_
      refine R_icmp_ne (tgt := 30) (dX1_withAll 11 rfl) (by decide) (fun hc => ?_) (fun hc => ?_)
      · have H := ite_F H hc
        refine R_iinc (i := 4) (ls' := [some (.inr (.inr (some (ad 21)))), some (.inl x1), some (.inl x2), some (.inl x3), some (.inl (w32 (x4 + 1)))]) (dX1_withAll 19 rfl) rfl (Nat.le_of_ble_eq_true rfl) rfl rfl ?_
        refine R_goto (tgt := 5) (dX1_withAll 20 rfl) (by decide) ?_
        exact ih x3 (w32 (x4 + 1)) H
      · have H := ite_T H hc
        refine R_iload_n (i := 3) (dX1_withAll 12 rfl) rfl rfl ?_
        refine R_aload_n (i := 0) (dX1_withAll 13 rfl) rfl rfl ?_
        refine R_iload_n (i := 1) (dX1_withAll 14 rfl) rfl rfl ?_
        refine R_iload (i := 4) (dX1_withAll 15 rfl) rfl ?_
        refine R_cV (st' := [.inl (f_X1_having x1 x4 M), .inl x3]) [.inl x1, .inl x4] [.inl x3] (t_X1_having l g ad S _ hS   x1 x4) msX1_having (Or.inl tb_834) (Or.inl ⟨21, 1, _, _, _, (cl21 hS), rfl⟩) ⟨Nat.le_of_ble_eq_true rfl, Nat.le_of_ble_eq_true rfl⟩ (Nat.zero_le _) (Nat.zero_le _) rfl rfl (Nat.le_of_ble_eq_true rfl) rfl (dX1_withAll 16 rfl) ?_
        refine R_iadd (dX1_withAll 17 rfl) ?_
        refine R_istore_n (i := 3) (ls' := [some (.inr (.inr (some (ad 21)))), some (.inl x1), some (.inl x2), some (.inl (w32 (x3 + (f_X1_having x1 x4 M)))), some (.inl x4)]) (dX1_withAll 18 rfl) rfl (Nat.le_of_ble_eq_true rfl) (Nat.le_of_ble_eq_true rfl) rfl rfl ?_
        refine R_iinc (i := 4) (ls' := [some (.inr (.inr (some (ad 21)))), some (.inl x1), some (.inl x2), some (.inl (w32 (x3 + (f_X1_having x1 x4 M)))), some (.inl (w32 (x4 + 1)))]) (dX1_withAll 19 rfl) rfl (Nat.le_of_ble_eq_true rfl) rfl rfl ?_
        refine R_goto (tgt := 5) (dX1_withAll 20 rfl) (by decide) ?_
        exact ih (w32 (x3 + (f_X1_having x1 x4 M))) (w32 (x4 + 1)) H
def f_X1_withAll (x1 : Int) (x2 : Int) (M : Mem) : Option Int :=
  f_X1_withAll_L5
    x1 x2 M 100000 0 0
set_option maxHeartbeats 4000000 in
theorem t_X1_withAll (l : Launch) (g : GG) (ad : Nat → Nat) (S : SW) (M : Mem) (hS : q_ag 0 38 ad S) (x1 : Int) (x2 : Int) {r : Int} (H : f_X1_withAll x1 x2 M = some r) : CT l g MX1_withAll 3 0 0 S M [.inr (.inr (some (ad 21))), .inl x1, .inl x2] (q_ex S (some (.inl r)) M) := by
  unfold f_X1_withAll at H
  refine CT_of (ls0 := [some (.inr (.inr (some (ad 21)))), some (.inl x1), some (.inl x2), none, none]) (by decide +kernel) (Nat.le_of_ble_eq_true rfl) rfl ?_
  refine R_iconst (dX1_withAll 0 rfl) rfl ?_
  refine R_istore_n (i := 3) (ls' := [some (.inr (.inr (some (ad 21)))), some (.inl x1), some (.inl x2), some (.inl 0), none]) (dX1_withAll 1 rfl) rfl (Nat.le_of_ble_eq_true rfl) (Nat.le_of_ble_eq_true rfl) rfl rfl ?_
  refine R_iconst (dX1_withAll 2 rfl) rfl ?_
  refine R_istore (i := 4) (ls' := [some (.inr (.inr (some (ad 21)))), some (.inl x1), some (.inl x2), some (.inl 0), some (.inl 0)]) (dX1_withAll 3 rfl) (Nat.le_of_ble_eq_true rfl) (Nat.le_of_ble_eq_true rfl) rfl rfl ?_
  exact t_X1_withAll_L5 l g ad S M hS x1 x2  100000 0 0 H 
def f_X1_withAny_L5 (x1 : Int) (x2 : Int) (M : Mem) : Nat → Int → Int → Option Int
  | 0, _, _ => none
  | n + 1, x3, x4 =>
    if x4 < 64 then
      if b_and x4 x2 = 0 then
        f_X1_withAny_L5 x1 x2 M n x3 (w32 (x4 + 1))
      else
        f_X1_withAny_L5 x1 x2 M n (w32 (x3 + (f_X1_having x1 x4 M))) (w32 (x4 + 1))
    else
      some x3
set_option maxHeartbeats 4000000 in
theorem t_X1_withAny_L5 (l : Launch) (g : GG) (ad : Nat → Nat) (S : SW) (M : Mem) (hS : q_ag 0 38 ad S) (x1 : Int) (x2 : Int) {r : Int} : ∀ (n : Nat) (x3 : Int) (x4 : Int), f_X1_withAny_L5 x1 x2 M n x3 x4 = some r → RW l g MX1_withAny (q_rm 3 0 0) 0 0 (q_ex S (some (.inl r)) M) 5 S M 0 0 [some (.inr (.inr (some (ad 21)))), some (.inl x1), some (.inl x2), some (.inl x3), some (.inl x4)] [] := by
  intro n
  induction n with
  | zero => intro x3 x4 H; exact absurd H (by simp [f_X1_withAny_L5])
  | succ n ih =>
    intro x3 x4 H
    rw [f_X1_withAny_L5] at H
    refine R_iload (i := 4) (dX1_withAny 4 rfl) rfl ?_
    refine R_bipush (dX1_withAny 5 rfl) rfl rfl ?_
    refine R_icmp_ge (tgt := 35) (dX1_withAny 6 rfl) (by decide) (fun hc => ?_) (fun hc => ?_)
    · have H := ite_F H hc
      refine R_iload_n (i := 3) (dX1_withAny 20 rfl) rfl rfl ?_
      exact R_iret rfl rfl (Nat.zero_le _) (Nat.zero_le _) (dX1_withAny 21 rfl) ⟨congrArg (fun z => some (Sum.inl z)) (Option.some.inj H), rfl, rfl⟩
    · have H := ite_T H hc
      refine R_iload (i := 4) (dX1_withAny 7 rfl) rfl ?_
      refine R_iload_n (i := 2) (dX1_withAny 8 rfl) rfl rfl ?_
      refine R_iand (dX1_withAny 9 rfl) ?_
      refine R_if_eq (tgt := 29) (dX1_withAny 10 rfl) (by decide) (fun hc => ?_) (fun hc => ?_)
      · have H := ite_T H hc
        refine R_iinc (i := 4) (ls' := [some (.inr (.inr (some (ad 21)))), some (.inl x1), some (.inl x2), some (.inl x3), some (.inl (w32 (x4 + 1)))]) (dX1_withAny 18 rfl) rfl (Nat.le_of_ble_eq_true rfl) rfl rfl ?_
        refine R_goto (tgt := 5) (dX1_withAny 19 rfl) (by decide) ?_
        exact ih x3 (w32 (x4 + 1)) H
      · have H := ite_F H hc
        refine R_iload_n (i := 3) (dX1_withAny 11 rfl) rfl rfl ?_
        refine R_aload_n (i := 0) (dX1_withAny 12 rfl) rfl rfl ?_
        refine R_iload_n (i := 1) (dX1_withAny 13 rfl) rfl rfl ?_
        refine R_iload (i := 4) (dX1_withAny 14 rfl) rfl ?_
        refine R_cV (st' := [.inl (f_X1_having x1 x4 M), .inl x3]) [.inl x1, .inl x4] [.inl x3] (t_X1_having l g ad S _ hS   x1 x4) msX1_having (Or.inl tb_834) (Or.inl ⟨21, 1, _, _, _, (cl21 hS), rfl⟩) ⟨Nat.le_of_ble_eq_true rfl, Nat.le_of_ble_eq_true rfl⟩ (Nat.zero_le _) (Nat.zero_le _) rfl rfl (Nat.le_of_ble_eq_true rfl) rfl (dX1_withAny 15 rfl) ?_
        refine R_iadd (dX1_withAny 16 rfl) ?_
        refine R_istore_n (i := 3) (ls' := [some (.inr (.inr (some (ad 21)))), some (.inl x1), some (.inl x2), some (.inl (w32 (x3 + (f_X1_having x1 x4 M)))), some (.inl x4)]) (dX1_withAny 17 rfl) rfl (Nat.le_of_ble_eq_true rfl) (Nat.le_of_ble_eq_true rfl) rfl rfl ?_
        refine R_iinc (i := 4) (ls' := [some (.inr (.inr (some (ad 21)))), some (.inl x1), some (.inl x2), some (.inl (w32 (x3 + (f_X1_having x1 x4 M)))), some (.inl (w32 (x4 + 1)))]) (dX1_withAny 18 rfl) rfl (Nat.le_of_ble_eq_true rfl) rfl rfl ?_
        refine R_goto (tgt := 5) (dX1_withAny 19 rfl) (by decide) ?_
        exact ih (w32 (x3 + (f_X1_having x1 x4 M))) (w32 (x4 + 1)) H
def f_X1_withAny (x1 : Int) (x2 : Int) (M : Mem) : Option Int :=
  f_X1_withAny_L5
    x1 x2 M 100000 0 0
set_option maxHeartbeats 4000000 in
theorem t_X1_withAny (l : Launch) (g : GG) (ad : Nat → Nat) (S : SW) (M : Mem) (hS : q_ag 0 38 ad S) (x1 : Int) (x2 : Int) {r : Int} (H : f_X1_withAny x1 x2 M = some r) : CT l g MX1_withAny 3 0 0 S M [.inr (.inr (some (ad 21))), .inl x1, .inl x2] (q_ex S (some (.inl r)) M) := by
  unfold f_X1_withAny at H
  refine CT_of (ls0 := [some (.inr (.inr (some (ad 21)))), some (.inl x1), some (.inl x2), none, none]) (by decide +kernel) (Nat.le_of_ble_eq_true rfl) rfl ?_
  refine R_iconst (dX1_withAny 0 rfl) rfl ?_
  refine R_istore_n (i := 3) (ls' := [some (.inr (.inr (some (ad 21)))), some (.inl x1), some (.inl x2), some (.inl 0), none]) (dX1_withAny 1 rfl) rfl (Nat.le_of_ble_eq_true rfl) (Nat.le_of_ble_eq_true rfl) rfl rfl ?_
  refine R_iconst (dX1_withAny 2 rfl) rfl ?_
  refine R_istore (i := 4) (ls' := [some (.inr (.inr (some (ad 21)))), some (.inl x1), some (.inl x2), some (.inl 0), some (.inl 0)]) (dX1_withAny 3 rfl) (Nat.le_of_ble_eq_true rfl) (Nat.le_of_ble_eq_true rfl) rfl rfl ?_
  exact t_X1_withAny_L5 l g ad S M hS x1 x2  100000 0 0 H 
def f_X1_partsInAll_L5 (x1 : Int) (M : Mem) : Nat → Int → Int → Option Int
  | 0, _, _ => none
  | n + 1, x2, x3 =>
    if x3 < 64 then
      if 0 < f_X1_having x1 x3 M then
        f_X1_partsInAll_L5 x1 M n (b_and x2 x3) (w32 (x3 + 1))
      else
        f_X1_partsInAll_L5 x1 M n x2 (w32 (x3 + 1))
    else
      some x2
set_option maxHeartbeats 4000000 in
theorem t_X1_partsInAll_L5 (l : Launch) (g : GG) (ad : Nat → Nat) (S : SW) (M : Mem) (hS : q_ag 0 38 ad S) (x1 : Int) {r : Int} : ∀ (n : Nat) (x2 : Int) (x3 : Int), f_X1_partsInAll_L5 x1 M n x2 x3 = some r → RW l g MX1_partsInAll (q_rm 3 0 0) 0 0 (q_ex S (some (.inl r)) M) 5 S M 0 0 [some (.inr (.inr (some (ad 21)))), some (.inl x1), some (.inl x2), some (.inl x3)] [] := by
  intro n
  induction n with
  | zero => intro x2 x3 H; exact absurd H (by simp [f_X1_partsInAll_L5])
  | succ n ih =>
    intro x2 x3 H
    rw [f_X1_partsInAll_L5] at H
    refine R_iload_n (i := 3) (dX1_partsInAll 4 rfl) rfl rfl ?_
    refine R_bipush (dX1_partsInAll 5 rfl) rfl rfl ?_
    refine R_icmp_ge (tgt := 30) (dX1_partsInAll 6 rfl) (by decide) (fun hc => ?_) (fun hc => ?_)
    · have H := ite_F H hc
      refine R_iload_n (i := 2) (dX1_partsInAll 18 rfl) rfl rfl ?_
      exact R_iret rfl rfl (Nat.zero_le _) (Nat.zero_le _) (dX1_partsInAll 19 rfl) ⟨congrArg (fun z => some (Sum.inl z)) (Option.some.inj H), rfl, rfl⟩
    · have H := ite_T H hc
      refine R_aload_n (i := 0) (dX1_partsInAll 7 rfl) rfl rfl ?_
      refine R_iload_n (i := 1) (dX1_partsInAll 8 rfl) rfl rfl ?_
      refine R_iload_n (i := 3) (dX1_partsInAll 9 rfl) rfl rfl ?_
      refine R_cV (st' := [.inl (f_X1_having x1 x3 M)]) [.inl x1, .inl x3] [] (t_X1_having l g ad S _ hS   x1 x3) msX1_having (Or.inl tb_834) (Or.inl ⟨21, 1, _, _, _, (cl21 hS), rfl⟩) ⟨Nat.le_of_ble_eq_true rfl, Nat.le_of_ble_eq_true rfl⟩ (Nat.zero_le _) (Nat.zero_le _) rfl rfl (Nat.le_of_ble_eq_true rfl) rfl (dX1_partsInAll 10 rfl) ?_
      refine R_if_le (tgt := 24) (dX1_partsInAll 11 rfl) (by decide) (fun hc => ?_) (fun hc => ?_)
      · have H := ite_F H hc
        refine R_iinc (i := 3) (ls' := [some (.inr (.inr (some (ad 21)))), some (.inl x1), some (.inl x2), some (.inl (w32 (x3 + 1)))]) (dX1_partsInAll 16 rfl) rfl (Nat.le_of_ble_eq_true rfl) rfl rfl ?_
        refine R_goto (tgt := 5) (dX1_partsInAll 17 rfl) (by decide) ?_
        exact ih x2 (w32 (x3 + 1)) H
      · have H := ite_T H hc
        refine R_iload_n (i := 2) (dX1_partsInAll 12 rfl) rfl rfl ?_
        refine R_iload_n (i := 3) (dX1_partsInAll 13 rfl) rfl rfl ?_
        refine R_iand (dX1_partsInAll 14 rfl) ?_
        refine R_istore_n (i := 2) (ls' := [some (.inr (.inr (some (ad 21)))), some (.inl x1), some (.inl (b_and x2 x3)), some (.inl x3)]) (dX1_partsInAll 15 rfl) rfl (Nat.le_of_ble_eq_true rfl) (Nat.le_of_ble_eq_true rfl) rfl rfl ?_
        refine R_iinc (i := 3) (ls' := [some (.inr (.inr (some (ad 21)))), some (.inl x1), some (.inl (b_and x2 x3)), some (.inl (w32 (x3 + 1)))]) (dX1_partsInAll 16 rfl) rfl (Nat.le_of_ble_eq_true rfl) rfl rfl ?_
        refine R_goto (tgt := 5) (dX1_partsInAll 17 rfl) (by decide) ?_
        exact ih (b_and x2 x3) (w32 (x3 + 1)) H
def f_X1_partsInAll (x1 : Int) (M : Mem) : Option Int :=
  f_X1_partsInAll_L5
    x1 M 100000 63 0
set_option maxHeartbeats 4000000 in
theorem t_X1_partsInAll (l : Launch) (g : GG) (ad : Nat → Nat) (S : SW) (M : Mem) (hS : q_ag 0 38 ad S) (x1 : Int) {r : Int} (H : f_X1_partsInAll x1 M = some r) : CT l g MX1_partsInAll 3 0 0 S M [.inr (.inr (some (ad 21))), .inl x1] (q_ex S (some (.inl r)) M) := by
  unfold f_X1_partsInAll at H
  refine CT_of (ls0 := [some (.inr (.inr (some (ad 21)))), some (.inl x1), none, none]) (by decide +kernel) (Nat.le_of_ble_eq_true rfl) rfl ?_
  refine R_bipush (dX1_partsInAll 0 rfl) rfl rfl ?_
  refine R_istore_n (i := 2) (ls' := [some (.inr (.inr (some (ad 21)))), some (.inl x1), some (.inl 63), none]) (dX1_partsInAll 1 rfl) rfl (Nat.le_of_ble_eq_true rfl) (Nat.le_of_ble_eq_true rfl) rfl rfl ?_
  refine R_iconst (dX1_partsInAll 2 rfl) rfl ?_
  refine R_istore_n (i := 3) (ls' := [some (.inr (.inr (some (ad 21)))), some (.inl x1), some (.inl 63), some (.inl 0)]) (dX1_partsInAll 3 rfl) rfl (Nat.le_of_ble_eq_true rfl) (Nat.le_of_ble_eq_true rfl) rfl rfl ?_
  exact t_X1_partsInAll_L5 l g ad S M hS x1  100000 63 0 H 
def f_X1_partsInAny_L4 (x1 : Int) (M : Mem) : Nat → Int → Int → Option Int
  | 0, _, _ => none
  | n + 1, x2, x3 =>
    if x3 < 64 then
      if 0 < f_X1_having x1 x3 M then
        f_X1_partsInAny_L4 x1 M n (b_or x2 x3) (w32 (x3 + 1))
      else
        f_X1_partsInAny_L4 x1 M n x2 (w32 (x3 + 1))
    else
      some x2
set_option maxHeartbeats 4000000 in
theorem t_X1_partsInAny_L4 (l : Launch) (g : GG) (ad : Nat → Nat) (S : SW) (M : Mem) (hS : q_ag 0 38 ad S) (x1 : Int) {r : Int} : ∀ (n : Nat) (x2 : Int) (x3 : Int), f_X1_partsInAny_L4 x1 M n x2 x3 = some r → RW l g MX1_partsInAny (q_rm 3 0 0) 0 0 (q_ex S (some (.inl r)) M) 4 S M 0 0 [some (.inr (.inr (some (ad 21)))), some (.inl x1), some (.inl x2), some (.inl x3)] [] := by
  intro n
  induction n with
  | zero => intro x2 x3 H; exact absurd H (by simp [f_X1_partsInAny_L4])
  | succ n ih =>
    intro x2 x3 H
    rw [f_X1_partsInAny_L4] at H
    refine R_iload_n (i := 3) (dX1_partsInAny 4 rfl) rfl rfl ?_
    refine R_bipush (dX1_partsInAny 5 rfl) rfl rfl ?_
    refine R_icmp_ge (tgt := 29) (dX1_partsInAny 6 rfl) (by decide) (fun hc => ?_) (fun hc => ?_)
    · have H := ite_F H hc
      refine R_iload_n (i := 2) (dX1_partsInAny 18 rfl) rfl rfl ?_
      exact R_iret rfl rfl (Nat.zero_le _) (Nat.zero_le _) (dX1_partsInAny 19 rfl) ⟨congrArg (fun z => some (Sum.inl z)) (Option.some.inj H), rfl, rfl⟩
    · have H := ite_T H hc
      refine R_aload_n (i := 0) (dX1_partsInAny 7 rfl) rfl rfl ?_
      refine R_iload_n (i := 1) (dX1_partsInAny 8 rfl) rfl rfl ?_
      refine R_iload_n (i := 3) (dX1_partsInAny 9 rfl) rfl rfl ?_
      refine R_cV (st' := [.inl (f_X1_having x1 x3 M)]) [.inl x1, .inl x3] [] (t_X1_having l g ad S _ hS   x1 x3) msX1_having (Or.inl tb_834) (Or.inl ⟨21, 1, _, _, _, (cl21 hS), rfl⟩) ⟨Nat.le_of_ble_eq_true rfl, Nat.le_of_ble_eq_true rfl⟩ (Nat.zero_le _) (Nat.zero_le _) rfl rfl (Nat.le_of_ble_eq_true rfl) rfl (dX1_partsInAny 10 rfl) ?_
      refine R_if_le (tgt := 23) (dX1_partsInAny 11 rfl) (by decide) (fun hc => ?_) (fun hc => ?_)
      · have H := ite_F H hc
        refine R_iinc (i := 3) (ls' := [some (.inr (.inr (some (ad 21)))), some (.inl x1), some (.inl x2), some (.inl (w32 (x3 + 1)))]) (dX1_partsInAny 16 rfl) rfl (Nat.le_of_ble_eq_true rfl) rfl rfl ?_
        refine R_goto (tgt := 4) (dX1_partsInAny 17 rfl) (by decide) ?_
        exact ih x2 (w32 (x3 + 1)) H
      · have H := ite_T H hc
        refine R_iload_n (i := 2) (dX1_partsInAny 12 rfl) rfl rfl ?_
        refine R_iload_n (i := 3) (dX1_partsInAny 13 rfl) rfl rfl ?_
        refine R_ior (dX1_partsInAny 14 rfl) ?_
        refine R_istore_n (i := 2) (ls' := [some (.inr (.inr (some (ad 21)))), some (.inl x1), some (.inl (b_or x2 x3)), some (.inl x3)]) (dX1_partsInAny 15 rfl) rfl (Nat.le_of_ble_eq_true rfl) (Nat.le_of_ble_eq_true rfl) rfl rfl ?_
        refine R_iinc (i := 3) (ls' := [some (.inr (.inr (some (ad 21)))), some (.inl x1), some (.inl (b_or x2 x3)), some (.inl (w32 (x3 + 1)))]) (dX1_partsInAny 16 rfl) rfl (Nat.le_of_ble_eq_true rfl) rfl rfl ?_
        refine R_goto (tgt := 4) (dX1_partsInAny 17 rfl) (by decide) ?_
        exact ih (b_or x2 x3) (w32 (x3 + 1)) H
def f_X1_partsInAny (x1 : Int) (M : Mem) : Option Int :=
  f_X1_partsInAny_L4
    x1 M 100000 0 0
set_option maxHeartbeats 4000000 in
theorem t_X1_partsInAny (l : Launch) (g : GG) (ad : Nat → Nat) (S : SW) (M : Mem) (hS : q_ag 0 38 ad S) (x1 : Int) {r : Int} (H : f_X1_partsInAny x1 M = some r) : CT l g MX1_partsInAny 3 0 0 S M [.inr (.inr (some (ad 21))), .inl x1] (q_ex S (some (.inl r)) M) := by
  unfold f_X1_partsInAny at H
  refine CT_of (ls0 := [some (.inr (.inr (some (ad 21)))), some (.inl x1), none, none]) (by decide +kernel) (Nat.le_of_ble_eq_true rfl) rfl ?_
  refine R_iconst (dX1_partsInAny 0 rfl) rfl ?_
  refine R_istore_n (i := 2) (ls' := [some (.inr (.inr (some (ad 21)))), some (.inl x1), some (.inl 0), none]) (dX1_partsInAny 1 rfl) rfl (Nat.le_of_ble_eq_true rfl) (Nat.le_of_ble_eq_true rfl) rfl rfl ?_
  refine R_iconst (dX1_partsInAny 2 rfl) rfl ?_
  refine R_istore_n (i := 3) (ls' := [some (.inr (.inr (some (ad 21)))), some (.inl x1), some (.inl 0), some (.inl 0)]) (dX1_partsInAny 3 rfl) rfl (Nat.le_of_ble_eq_true rfl) (Nat.le_of_ble_eq_true rfl) rfl rfl ?_
  exact t_X1_partsInAny_L4 l g ad S M hS x1  100000 0 0 H 
def f_X1_squares_L13 (x2 : Int) (x3 : Int) : Nat → Int → Int → Mem → Option (Int × Mem)
  | 0, _, _, _ => none
  | n + 1, x4, x5, M =>
    if x5 < M 21 5 then
      f_X1_squares_L13 x2 x3 n (w32 (x4 + (w32 ((w32 (2 * (w32 ((rd 4096 (M 26) (w32 ((w32 ((f_X3_had x2 (f_X1_tongueOf x5 M) M) * 64)) + (f_X3_had x3 (f_X1_tongueOf x5 M) M)))) + 1)))) - 1)))) (w32 (x5 + 1)) (wr M 26 4096 (w32 ((w32 ((f_X3_had x2 (f_X1_tongueOf x5 M) M) * 64)) + (f_X3_had x3 (f_X1_tongueOf x5 M) M))) (w32 ((rd 4096 (M 26) (w32 ((w32 ((f_X3_had x2 (f_X1_tongueOf x5 M) M) * 64)) + (f_X3_had x3 (f_X1_tongueOf x5 M) M)))) + 1)))
    else
      some (x4, M)
set_option maxHeartbeats 4000000 in
theorem t_X1_squares_L13 (l : Launch) (g : GG) (ad : Nat → Nat) (S : SW) (hS : q_ag 0 38 ad S) (x2 : Int) (x3 : Int) {r : Int} {M' : Mem} : ∀ (n : Nat) (x4 : Int) (x5 : Int) (M : Mem), f_X1_squares_L13 x2 x3 n x4 x5 M = some (r, M') → RW l g MX1_squares (q_rm 3 0 0) 0 0 (q_ex S (some (.inl r)) M') 13 S M 0 0 [some (.inr (.inr (some (ad 21)))), some (.inr (.inr (some (ad 3)))), some (.inl x2), some (.inl x3), some (.inl x4), some (.inl x5), none, none, none] [] := by
  intro n
  induction n with
  | zero => intro x4 x5 M H; exact absurd H (by simp [f_X1_squares_L13])
  | succ n ih =>
    intro x4 x5 M H
    rw [f_X1_squares_L13] at H
    refine R_iload (i := 5) (dX1_squares 7 rfl) rfl ?_
    refine R_aload_n (i := 0) (dX1_squares 8 rfl) rfl rfl ?_
    refine R_getI cgX1 21 (cl21 hS) 5 (Nat.le_of_ble_eq_true rfl) rfl (Or.inl tb_464) (dX1_squares 9 rfl) ?_
    refine R_icmp_ge (tgt := 91) (dX1_squares 10 rfl) (by decide) (fun hc => ?_) (fun hc => ?_)
    · have H := ite_F H hc
      refine R_iload (i := 4) (dX1_squares 49 rfl) rfl ?_
      exact R_iret rfl rfl (Nat.zero_le _) (Nat.zero_le _) (dX1_squares 50 rfl) ⟨congrArg (fun z => some (Sum.inl z)) (Prod.mk.inj (Option.some.inj H)).1, rfl, (Prod.mk.inj (Option.some.inj H)).2⟩
    · have H := ite_T H hc
      refine R_aload_n (i := 0) (dX1_squares 11 rfl) rfl rfl ?_
      refine R_iload (i := 5) (dX1_squares 12 rfl) rfl ?_
      refine R_cV (st' := [.inl (f_X1_tongueOf x5 M)]) [.inl x5] [] (t_X1_tongueOf l g ad S _ hS   x5) msX1_tongueOf (Or.inl tb_934) (Or.inl ⟨21, 1, _, _, _, (cl21 hS), rfl⟩) ⟨Nat.le_of_ble_eq_true rfl, Nat.le_of_ble_eq_true rfl⟩ (Nat.zero_le _) (Nat.zero_le _) rfl rfl (Nat.le_of_ble_eq_true rfl) rfl (dX1_squares 13 rfl) ?_
      refine R_istore (i := 6) (ls' := [some (.inr (.inr (some (ad 21)))), some (.inr (.inr (some (ad 3)))), some (.inl x2), some (.inl x3), some (.inl x4), some (.inl x5), some (.inl (f_X1_tongueOf x5 M)), none, none]) (dX1_squares 14 rfl) (Nat.le_of_ble_eq_true rfl) (Nat.le_of_ble_eq_true rfl) rfl rfl ?_
      refine R_aload_n (i := 1) (dX1_squares 15 rfl) rfl rfl ?_
      refine R_iload_n (i := 2) (dX1_squares 16 rfl) rfl rfl ?_
      refine R_iload (i := 6) (dX1_squares 17 rfl) rfl ?_
      refine R_cV (st' := [.inl (f_X3_had x2 (f_X1_tongueOf x5 M) M)]) [.inl x2, .inl (f_X1_tongueOf x5 M)] [] (t_X3_had l g ad S _ hS   x2 (f_X1_tongueOf x5 M)) msX3_had (Or.inl tb_756) (Or.inl ⟨3, 3, _, _, _, (cl3 hS), rfl⟩) ⟨Nat.le_of_ble_eq_true rfl, Nat.le_of_ble_eq_true rfl⟩ (Nat.zero_le _) (Nat.zero_le _) rfl rfl (Nat.le_of_ble_eq_true rfl) rfl (dX1_squares 18 rfl) ?_
      refine R_bipush (dX1_squares 19 rfl) rfl rfl ?_
      refine R_imul (dX1_squares 20 rfl) ?_
      refine R_aload_n (i := 1) (dX1_squares 21 rfl) rfl rfl ?_
      refine R_iload_n (i := 3) (dX1_squares 22 rfl) rfl rfl ?_
      refine R_iload (i := 6) (dX1_squares 23 rfl) rfl ?_
      refine R_cV (st' := [.inl (f_X3_had x3 (f_X1_tongueOf x5 M) M), .inl (w32 ((f_X3_had x2 (f_X1_tongueOf x5 M) M) * 64))]) [.inl x3, .inl (f_X1_tongueOf x5 M)] [.inl (w32 ((f_X3_had x2 (f_X1_tongueOf x5 M) M) * 64))] (t_X3_had l g ad S _ hS   x3 (f_X1_tongueOf x5 M)) msX3_had (Or.inl tb_756) (Or.inl ⟨3, 3, _, _, _, (cl3 hS), rfl⟩) ⟨Nat.le_of_ble_eq_true rfl, Nat.le_of_ble_eq_true rfl⟩ (Nat.zero_le _) (Nat.zero_le _) rfl rfl (Nat.le_of_ble_eq_true rfl) rfl (dX1_squares 24 rfl) ?_
      refine R_iadd (dX1_squares 25 rfl) ?_
      refine R_istore (i := 7) (ls' := [some (.inr (.inr (some (ad 21)))), some (.inr (.inr (some (ad 3)))), some (.inl x2), some (.inl x3), some (.inl x4), some (.inl x5), some (.inl (f_X1_tongueOf x5 M)), some (.inl (w32 ((w32 ((f_X3_had x2 (f_X1_tongueOf x5 M) M) * 64)) + (f_X3_had x3 (f_X1_tongueOf x5 M) M)))), none]) (dX1_squares 26 rfl) (Nat.le_of_ble_eq_true rfl) (Nat.le_of_ble_eq_true rfl) rfl rfl ?_
      refine R_aload_n (i := 0) (dX1_squares 27 rfl) rfl rfl ?_
      refine R_getR cgX1 21 (cl21 hS) 4 (Nat.le_of_ble_eq_true rfl) rfl (Or.inl tb_463) (dX1_squares 28 rfl) ?_
      refine R_iload (i := 7) (dX1_squares 29 rfl) rfl ?_
      refine R_cS (st' := [.inl (rd 4096 (M 26) (w32 ((w32 ((f_X3_had x2 (f_X1_tongueOf x5 M) M) * 64)) + (f_X3_had x3 (f_X1_tongueOf x5 M) M))))]) [.inr (.inr (some (ad 26))), .inl (w32 ((w32 ((f_X3_had x2 (f_X1_tongueOf x5 M) M) * 64)) + (f_X3_had x3 (f_X1_tongueOf x5 M) M)))] [] (t_at l g S _ 26 (cl26 hS) (Nat.le_of_ble_eq_true rfl) (w32 ((w32 ((f_X3_had x2 (f_X1_tongueOf x5 M) M) * 64)) + (f_X3_had x3 (f_X1_tongueOf x5 M) M)))) msX9_at (Or.inr ⟨_, tb_760⟩) ⟨Nat.le_of_ble_eq_true rfl, Nat.le_of_ble_eq_true rfl⟩ (Nat.zero_le _) (Nat.zero_le _) rfl rfl (Nat.le_of_ble_eq_true rfl) rfl (dX1_squares 30 rfl) ?_
      refine R_iconst (dX1_squares 31 rfl) rfl ?_
      refine R_iadd (dX1_squares 32 rfl) ?_
      refine R_istore (i := 8) (ls' := [some (.inr (.inr (some (ad 21)))), some (.inr (.inr (some (ad 3)))), some (.inl x2), some (.inl x3), some (.inl x4), some (.inl x5), some (.inl (f_X1_tongueOf x5 M)), some (.inl (w32 ((w32 ((f_X3_had x2 (f_X1_tongueOf x5 M) M) * 64)) + (f_X3_had x3 (f_X1_tongueOf x5 M) M)))), some (.inl (w32 ((rd 4096 (M 26) (w32 ((w32 ((f_X3_had x2 (f_X1_tongueOf x5 M) M) * 64)) + (f_X3_had x3 (f_X1_tongueOf x5 M) M)))) + 1)))]) (dX1_squares 33 rfl) (Nat.le_of_ble_eq_true rfl) (Nat.le_of_ble_eq_true rfl) rfl rfl ?_
      refine R_aload_n (i := 0) (dX1_squares 34 rfl) rfl rfl ?_
      refine R_getR cgX1 21 (cl21 hS) 4 (Nat.le_of_ble_eq_true rfl) rfl (Or.inl tb_463) (dX1_squares 35 rfl) ?_
      refine R_iload (i := 7) (dX1_squares 36 rfl) rfl ?_
      refine R_iload (i := 8) (dX1_squares 37 rfl) rfl ?_
      refine R_cS (st' := []) [.inr (.inr (some (ad 26))), .inl (w32 ((w32 ((f_X3_had x2 (f_X1_tongueOf x5 M) M) * 64)) + (f_X3_had x3 (f_X1_tongueOf x5 M) M))), .inl (w32 ((rd 4096 (M 26) (w32 ((w32 ((f_X3_had x2 (f_X1_tongueOf x5 M) M) * 64)) + (f_X3_had x3 (f_X1_tongueOf x5 M) M)))) + 1))] [] (t_put l g S _ 26 (cl26 hS) (Nat.le_of_ble_eq_true rfl) (w32 ((w32 ((f_X3_had x2 (f_X1_tongueOf x5 M) M) * 64)) + (f_X3_had x3 (f_X1_tongueOf x5 M) M))) (w32 ((rd 4096 (M 26) (w32 ((w32 ((f_X3_had x2 (f_X1_tongueOf x5 M) M) * 64)) + (f_X3_had x3 (f_X1_tongueOf x5 M) M)))) + 1))) msX9_put (Or.inr ⟨_, tb_751⟩) ⟨Nat.le_of_ble_eq_true rfl, Nat.le_of_ble_eq_true rfl⟩ (Nat.zero_le _) (Nat.zero_le _) rfl rfl (Nat.le_of_ble_eq_true rfl) rfl (dX1_squares 38 rfl) ?_
      refine R_iload (i := 4) (dX1_squares 39 rfl) rfl ?_
      refine R_iconst (dX1_squares 40 rfl) rfl ?_
      refine R_iload (i := 8) (dX1_squares 41 rfl) rfl ?_
      refine R_imul (dX1_squares 42 rfl) ?_
      refine R_iconst (dX1_squares 43 rfl) rfl ?_
      refine R_isub (dX1_squares 44 rfl) ?_
      refine R_iadd (dX1_squares 45 rfl) ?_
      refine R_istore (i := 4) (ls' := [some (.inr (.inr (some (ad 21)))), some (.inr (.inr (some (ad 3)))), some (.inl x2), some (.inl x3), some (.inl (w32 (x4 + (w32 ((w32 (2 * (w32 ((rd 4096 (M 26) (w32 ((w32 ((f_X3_had x2 (f_X1_tongueOf x5 M) M) * 64)) + (f_X3_had x3 (f_X1_tongueOf x5 M) M)))) + 1)))) - 1))))), some (.inl x5), some (.inl (f_X1_tongueOf x5 M)), some (.inl (w32 ((w32 ((f_X3_had x2 (f_X1_tongueOf x5 M) M) * 64)) + (f_X3_had x3 (f_X1_tongueOf x5 M) M)))), some (.inl (w32 ((rd 4096 (M 26) (w32 ((w32 ((f_X3_had x2 (f_X1_tongueOf x5 M) M) * 64)) + (f_X3_had x3 (f_X1_tongueOf x5 M) M)))) + 1)))]) (dX1_squares 46 rfl) (Nat.le_of_ble_eq_true rfl) (Nat.le_of_ble_eq_true rfl) rfl rfl ?_
      refine R_iinc (i := 5) (ls' := [some (.inr (.inr (some (ad 21)))), some (.inr (.inr (some (ad 3)))), some (.inl x2), some (.inl x3), some (.inl (w32 (x4 + (w32 ((w32 (2 * (w32 ((rd 4096 (M 26) (w32 ((w32 ((f_X3_had x2 (f_X1_tongueOf x5 M) M) * 64)) + (f_X3_had x3 (f_X1_tongueOf x5 M) M)))) + 1)))) - 1))))), some (.inl (w32 (x5 + 1))), some (.inl (f_X1_tongueOf x5 M)), some (.inl (w32 ((w32 ((f_X3_had x2 (f_X1_tongueOf x5 M) M) * 64)) + (f_X3_had x3 (f_X1_tongueOf x5 M) M)))), some (.inl (w32 ((rd 4096 (M 26) (w32 ((w32 ((f_X3_had x2 (f_X1_tongueOf x5 M) M) * 64)) + (f_X3_had x3 (f_X1_tongueOf x5 M) M)))) + 1)))]) (dX1_squares 47 rfl) rfl (Nat.le_of_ble_eq_true rfl) rfl rfl ?_
      refine R_goto (tgt := 13) (dX1_squares 48 rfl) (by decide) ?_
      refine R_mask [true, true, true, true, true, true, false, false, false] rfl ?_
      exact ih (w32 (x4 + (w32 ((w32 (2 * (w32 ((rd 4096 (M 26) (w32 ((w32 ((f_X3_had x2 (f_X1_tongueOf x5 M) M) * 64)) + (f_X3_had x3 (f_X1_tongueOf x5 M) M)))) + 1)))) - 1)))) (w32 (x5 + 1)) (wr M 26 4096 (w32 ((w32 ((f_X3_had x2 (f_X1_tongueOf x5 M) M) * 64)) + (f_X3_had x3 (f_X1_tongueOf x5 M) M))) (w32 ((rd 4096 (M 26) (w32 ((w32 ((f_X3_had x2 (f_X1_tongueOf x5 M) M) * 64)) + (f_X3_had x3 (f_X1_tongueOf x5 M) M)))) + 1))) H
def f_X1_squares (x2 : Int) (x3 : Int) (M : Mem) : Option (Int × Mem) :=
  ob (f_X1_clear 26 4096 M) fun r23 M24 =>
  f_X1_squares_L13
    x2 x3 100000 0 0 M24
set_option maxHeartbeats 4000000 in
theorem t_X1_squares (l : Launch) (g : GG) (ad : Nat → Nat) (S : SW) (M : Mem) (hS : q_ag 0 38 ad S) (x2 : Int) (x3 : Int) {r : Int} {M' : Mem} (H : f_X1_squares x2 x3 M = some (r, M')) : CT l g MX1_squares 3 0 0 S M [.inr (.inr (some (ad 21))), .inr (.inr (some (ad 3))), .inl x2, .inl x3] (q_ex S (some (.inl r)) M') := by
  unfold f_X1_squares at H
  refine CT_of (ls0 := [some (.inr (.inr (some (ad 21)))), some (.inr (.inr (some (ad 3)))), some (.inl x2), some (.inl x3), none, none, none, none, none]) (by decide +kernel) (Nat.le_of_ble_eq_true rfl) rfl ?_
  refine R_aload_n (i := 0) (dX1_squares 0 rfl) rfl rfl ?_
  refine R_getR cgX1 21 (cl21 hS) 4 (Nat.le_of_ble_eq_true rfl) rfl (Or.inl tb_463) (dX1_squares 1 rfl) ?_
  obtain ⟨r23, M24, hr, H⟩ := ob_E H
  refine R_cS (st' := []) [.inr (.inr (some (ad 26)))] [] (t_X1_clear l g S _  26 4096 (cl26 hS) (Nat.le_of_ble_eq_true rfl)  hr) msX1_clear (Or.inl tb_740) ⟨Nat.le_of_ble_eq_true rfl, Nat.le_of_ble_eq_true rfl⟩ (Nat.zero_le _) (Nat.zero_le _) rfl rfl (Nat.le_of_ble_eq_true rfl) rfl (dX1_squares 2 rfl) ?_
  refine R_iconst (dX1_squares 3 rfl) rfl ?_
  refine R_istore (i := 4) (ls' := [some (.inr (.inr (some (ad 21)))), some (.inr (.inr (some (ad 3)))), some (.inl x2), some (.inl x3), some (.inl 0), none, none, none, none]) (dX1_squares 4 rfl) (Nat.le_of_ble_eq_true rfl) (Nat.le_of_ble_eq_true rfl) rfl rfl ?_
  refine R_iconst (dX1_squares 5 rfl) rfl ?_
  refine R_istore (i := 5) (ls' := [some (.inr (.inr (some (ad 21)))), some (.inr (.inr (some (ad 3)))), some (.inl x2), some (.inl x3), some (.inl 0), some (.inl 0), none, none, none]) (dX1_squares 6 rfl) (Nat.le_of_ble_eq_true rfl) (Nat.le_of_ble_eq_true rfl) rfl rfl ?_
  exact t_X1_squares_L13 l g ad S hS x2 x3  100000 0 0 M24 H 
def f_X1_drawnBy (x1 : Int) (M : Mem) : Option Int :=
  if 0 < M 21 5 then
    if ¬ M 21 5 = 0 then
      some (f_X1_tongueOf (w32 (b_lrem (b_lrem (w64 ((w64 (x1 + 1)) * 48271)) 2147483647) (M 21 5))) M)
    else none
  else
    some 0
set_option maxHeartbeats 4000000 in
theorem t_X1_drawnBy (l : Launch) (g : GG) (ad : Nat → Nat) (S : SW) (M : Mem) (hS : q_ag 0 38 ad S) (x1 : Int) {r : Int} (H : f_X1_drawnBy x1 M = some r) : CT l g MX1_drawnBy 3 0 0 S M [.inr (.inr (some (ad 21))), .inl x1] (q_ex S (some (.inl r)) M) := by
  unfold f_X1_drawnBy at H
  refine CT_of (ls0 := [some (.inr (.inr (some (ad 21)))), some (.inl x1), none, none]) (by decide +kernel) (Nat.le_of_ble_eq_true rfl) rfl ?_
  refine R_iload_n (i := 1) (dX1_drawnBy 0 rfl) rfl rfl ?_
  refine R_i2l (dX1_drawnBy 1 rfl) ?_
  refine R_lconst (z := 1) (dX1_drawnBy 2 rfl) rfl rfl ?_
  refine R_ladd (dX1_drawnBy 3 rfl) ?_
  refine R_ldc2 (z := 48271) tb_1022 ⟨by decide, by decide⟩ (dX1_drawnBy 4 rfl) ?_
  refine R_lmul (dX1_drawnBy 5 rfl) ?_
  refine R_ldc2 (z := 2147483647) tb_1023 ⟨by decide, by decide⟩ (dX1_drawnBy 6 rfl) ?_
  refine R_lrem (by decide) (dX1_drawnBy 7 rfl) ?_
  refine R_lstore_n (i := 2) (ls' := [some (.inr (.inr (some (ad 21)))), some (.inl x1), some (.inr (.inl (b_lrem (w64 ((w64 (x1 + 1)) * 48271)) 2147483647))), none]) (dX1_drawnBy 8 rfl) rfl (Nat.le_of_ble_eq_true rfl) (Nat.le_of_ble_eq_true rfl) rfl rfl ?_
  refine R_aload_n (i := 0) (dX1_drawnBy 9 rfl) rfl rfl ?_
  refine R_getI cgX1 21 (cl21 hS) 5 (Nat.le_of_ble_eq_true rfl) rfl (Or.inl tb_464) (dX1_drawnBy 10 rfl) ?_
  refine R_if_le (tgt := 35) (dX1_drawnBy 11 rfl) (by decide) (fun hc => ?_) (fun hc => ?_)
  · have H := ite_F H hc
    refine R_iconst (dX1_drawnBy 21 rfl) rfl ?_
    exact R_iret rfl rfl (Nat.zero_le _) (Nat.zero_le _) (dX1_drawnBy 22 rfl) ⟨congrArg (fun z => some (Sum.inl z)) (Option.some.inj H), rfl, rfl⟩
  · have H := ite_T H hc
    refine R_aload_n (i := 0) (dX1_drawnBy 12 rfl) rfl rfl ?_
    refine R_lload_n (i := 2) (dX1_drawnBy 13 rfl) rfl rfl ?_
    refine R_aload_n (i := 0) (dX1_drawnBy 14 rfl) rfl rfl ?_
    refine R_getI cgX1 21 (cl21 hS) 5 (Nat.le_of_ble_eq_true rfl) rfl (Or.inl tb_464) (dX1_drawnBy 15 rfl) ?_
    refine R_i2l (dX1_drawnBy 16 rfl) ?_
    obtain ⟨hg, H⟩ := ite_G H
    refine R_lrem hg (dX1_drawnBy 17 rfl) ?_
    refine R_l2i (dX1_drawnBy 18 rfl) ?_
    refine R_cV (st' := [.inl (f_X1_tongueOf (w32 (b_lrem (b_lrem (w64 ((w64 (x1 + 1)) * 48271)) 2147483647) (M 21 5))) M)]) [.inl (w32 (b_lrem (b_lrem (w64 ((w64 (x1 + 1)) * 48271)) 2147483647) (M 21 5)))] [] (t_X1_tongueOf l g ad S _ hS   (w32 (b_lrem (b_lrem (w64 ((w64 (x1 + 1)) * 48271)) 2147483647) (M 21 5)))) msX1_tongueOf (Or.inl tb_934) (Or.inl ⟨21, 1, _, _, _, (cl21 hS), rfl⟩) ⟨Nat.le_of_ble_eq_true rfl, Nat.le_of_ble_eq_true rfl⟩ (Nat.zero_le _) (Nat.zero_le _) rfl rfl (Nat.le_of_ble_eq_true rfl) rfl (dX1_drawnBy 19 rfl) ?_
    refine R_goto (tgt := 36) (dX1_drawnBy 20 rfl) (by decide) ?_
    exact R_iret rfl rfl (Nat.zero_le _) (Nat.zero_le _) (dX1_drawnBy 22 rfl) ⟨congrArg (fun z => some (Sum.inl z)) (Option.some.inj H), rfl, rfl⟩
def f_X9_within (x0 : Int) (x1 : Int) (x2 : Int) : Int :=
  if x0 < x1 then
    0
  else
    if x2 < x0 then
      0
    else
      1
set_option maxHeartbeats 4000000 in
theorem t_X9_within (l : Launch) (g : GG) (S : SW) (M : Mem) (x0 : Int) (x1 : Int) (x2 : Int) : CT l g MX9_within 1 0 0 S M [.inl x0, .inl x1, .inl x2] (q_ex S (some (.inl (f_X9_within x0 x1 x2))) M) := by
  obtain ⟨r, H⟩ : ∃ r, f_X9_within x0 x1 x2 = r := ⟨_, rfl⟩
  rw [H]
  unfold f_X9_within at H
  refine CT_of (ls0 := [some (.inl x0), some (.inl x1), some (.inl x2)]) (by decide +kernel) (Nat.le_of_ble_eq_true rfl) rfl ?_
  refine R_iload_n (i := 0) (dX9_within 0 rfl) rfl rfl ?_
  refine R_iload_n (i := 1) (dX9_within 1 rfl) rfl rfl ?_
  refine R_icmp_lt (tgt := 14) (dX9_within 2 rfl) (by decide) (fun hc => ?_) (fun hc => ?_)
  · have H := ite_T H hc
    refine R_iconst (dX9_within 8 rfl) rfl ?_
    exact R_iret rfl (by decide +kernel) (Nat.zero_le _) (Nat.zero_le _) (dX9_within 9 rfl) ⟨congrArg (fun z => some (Sum.inl z)) H, rfl, rfl⟩
  · have H := ite_F H hc
    refine R_iload_n (i := 0) (dX9_within 3 rfl) rfl rfl ?_
    refine R_iload_n (i := 2) (dX9_within 4 rfl) rfl rfl ?_
    refine R_icmp_gt (tgt := 14) (dX9_within 5 rfl) (by decide) (fun hc => ?_) (fun hc => ?_)
    · have H := ite_T H hc
      refine R_iconst (dX9_within 8 rfl) rfl ?_
      exact R_iret rfl (by decide +kernel) (Nat.zero_le _) (Nat.zero_le _) (dX9_within 9 rfl) ⟨congrArg (fun z => some (Sum.inl z)) H, rfl, rfl⟩
    · have H := ite_F H hc
      refine R_iconst (dX9_within 6 rfl) rfl ?_
      refine R_goto (tgt := 15) (dX9_within 7 rfl) (by decide) ?_
      exact R_iret rfl (by decide +kernel) (Nat.zero_le _) (Nat.zero_le _) (dX9_within 9 rfl) ⟨congrArg (fun z => some (Sum.inl z)) H, rfl, rfl⟩
theorem z_X9_within (x0 : Int) (x1 : Int) (x2 : Int) : f_X9_within x0 x1 x2 = 0 ∨ f_X9_within x0 x1 x2 = 1 := by
  unfold f_X9_within
  (repeat' split) <;> first | exact Or.inl rfl | exact Or.inr rfl
def f_X9_isParts (x0 : Int) : Int :=
  f_X9_within x0 0 63
set_option maxHeartbeats 4000000 in
theorem t_X9_isParts (l : Launch) (g : GG) (ad : Nat → Nat) (S : SW) (M : Mem) (hS : q_ag 0 38 ad S) (x0 : Int) : CT l g MX9_isParts 2 0 0 S M [.inl x0] (q_ex S (some (.inl (f_X9_isParts x0))) M) := by
  obtain ⟨r, H⟩ : ∃ r, f_X9_isParts x0 = r := ⟨_, rfl⟩
  rw [H]
  unfold f_X9_isParts at H
  refine CT_of (ls0 := [some (.inl x0)]) (by decide +kernel) (Nat.le_of_ble_eq_true rfl) rfl ?_
  refine R_iload_n (i := 0) (dX9_isParts 0 rfl) rfl rfl ?_
  refine R_iconst (dX9_isParts 1 rfl) rfl ?_
  refine R_bipush (dX9_isParts 2 rfl) rfl rfl ?_
  refine R_cS (st' := [.inl (f_X9_within x0 0 63)]) [.inl x0, .inl 0, .inl 63] [] (t_X9_within l g S _   x0 0 63) msX9_within (Or.inl tb_603) ⟨Nat.le_of_ble_eq_true rfl, Nat.le_of_ble_eq_true rfl⟩ (Nat.zero_le _) (Nat.zero_le _) rfl rfl (Nat.le_of_ble_eq_true rfl) rfl (dX9_isParts 3 rfl) ?_
  exact R_iret rfl (q_nbz (z_X9_within x0 0 63)) (Nat.zero_le _) (Nat.zero_le _) (dX9_isParts 4 rfl) ⟨congrArg (fun z => some (Sum.inl z)) H, rfl, rfl⟩
theorem z_X9_isParts (x0 : Int) : f_X9_isParts x0 = 0 ∨ f_X9_isParts x0 = 1 := by
  unfold f_X9_isParts
  (repeat' split) <;> first | exact Or.inl rfl | exact Or.inr rfl | exact z_X9_within ..
def f_X3_mayStand (x0 : Int) (x1 : Int) : Int :=
  if f_X9_isParts x0 = 0 then
    0
  else
    if f_X9_within (f_J6_bitCount_0f7a4 x0) 1 3 = 0 then
      0
    else
      if f_X9_within x1 1 99 = 0 then
        0
      else
        1
set_option maxHeartbeats 4000000 in
theorem t_X3_mayStand (l : Launch) (g : GG) (ad : Nat → Nat) (S : SW) (M : Mem) (hS : q_ag 0 38 ad S) (x0 : Int) (x1 : Int) : CT l g MX3_mayStand 3 0 0 S M [.inl x0, .inl x1] (q_ex S (some (.inl (f_X3_mayStand x0 x1))) M) := by
  obtain ⟨r, H⟩ : ∃ r, f_X3_mayStand x0 x1 = r := ⟨_, rfl⟩
  rw [H]
  unfold f_X3_mayStand at H
  refine CT_of (ls0 := [some (.inl x0), some (.inl x1)]) (by decide +kernel) (Nat.le_of_ble_eq_true rfl) rfl ?_
  refine R_iload_n (i := 0) (dX3_mayStand 0 rfl) rfl rfl ?_
  refine R_cS (st' := [.inl (f_X9_isParts x0)]) [.inl x0] [] (t_X9_isParts l g ad S _ hS   x0) msX9_isParts (Or.inr ⟨_, tb_600⟩) ⟨Nat.le_of_ble_eq_true rfl, Nat.le_of_ble_eq_true rfl⟩ (Nat.zero_le _) (Nat.zero_le _) rfl rfl (Nat.le_of_ble_eq_true rfl) rfl (dX3_mayStand 1 rfl) ?_
  refine R_if_eq (tgt := 33) (dX3_mayStand 2 rfl) (by decide) (fun hc => ?_) (fun hc => ?_)
  · have H := ite_T H hc
    refine R_iconst (dX3_mayStand 16 rfl) rfl ?_
    exact R_iret rfl (by decide +kernel) (Nat.zero_le _) (Nat.zero_le _) (dX3_mayStand 17 rfl) ⟨congrArg (fun z => some (Sum.inl z)) H, rfl, rfl⟩
  · have H := ite_F H hc
    refine R_iload_n (i := 0) (dX3_mayStand 3 rfl) rfl rfl ?_
    refine R_cS (st' := [.inl (f_J6_bitCount_0f7a4 x0)]) [.inl x0] [] (t_J6_bitCount_0f7a4 l g S _   x0) msJ6_bitCount_0f7a4 (Or.inl tb_604) ⟨Nat.le_of_ble_eq_true rfl, Nat.le_of_ble_eq_true rfl⟩ (Nat.zero_le _) (Nat.zero_le _) rfl rfl (Nat.le_of_ble_eq_true rfl) rfl (dX3_mayStand 4 rfl) ?_
    refine R_iconst (dX3_mayStand 5 rfl) rfl ?_
    refine R_iconst (dX3_mayStand 6 rfl) rfl ?_
    refine R_cS (st' := [.inl (f_X9_within (f_J6_bitCount_0f7a4 x0) 1 3)]) [.inl (f_J6_bitCount_0f7a4 x0), .inl 1, .inl 3] [] (t_X9_within l g S _   (f_J6_bitCount_0f7a4 x0) 1 3) msX9_within (Or.inr ⟨_, tb_610⟩) ⟨Nat.le_of_ble_eq_true rfl, Nat.le_of_ble_eq_true rfl⟩ (Nat.zero_le _) (Nat.zero_le _) rfl rfl (Nat.le_of_ble_eq_true rfl) rfl (dX3_mayStand 7 rfl) ?_
    refine R_if_eq (tgt := 33) (dX3_mayStand 8 rfl) (by decide) (fun hc => ?_) (fun hc => ?_)
    · have H := ite_T H hc
      refine R_iconst (dX3_mayStand 16 rfl) rfl ?_
      exact R_iret rfl (by decide +kernel) (Nat.zero_le _) (Nat.zero_le _) (dX3_mayStand 17 rfl) ⟨congrArg (fun z => some (Sum.inl z)) H, rfl, rfl⟩
    · have H := ite_F H hc
      refine R_iload_n (i := 1) (dX3_mayStand 9 rfl) rfl rfl ?_
      refine R_iconst (dX3_mayStand 10 rfl) rfl ?_
      refine R_bipush (dX3_mayStand 11 rfl) rfl rfl ?_
      refine R_cS (st' := [.inl (f_X9_within x1 1 99)]) [.inl x1, .inl 1, .inl 99] [] (t_X9_within l g S _   x1 1 99) msX9_within (Or.inr ⟨_, tb_610⟩) ⟨Nat.le_of_ble_eq_true rfl, Nat.le_of_ble_eq_true rfl⟩ (Nat.zero_le _) (Nat.zero_le _) rfl rfl (Nat.le_of_ble_eq_true rfl) rfl (dX3_mayStand 12 rfl) ?_
      refine R_if_eq (tgt := 33) (dX3_mayStand 13 rfl) (by decide) (fun hc => ?_) (fun hc => ?_)
      · have H := ite_T H hc
        refine R_iconst (dX3_mayStand 16 rfl) rfl ?_
        exact R_iret rfl (by decide +kernel) (Nat.zero_le _) (Nat.zero_le _) (dX3_mayStand 17 rfl) ⟨congrArg (fun z => some (Sum.inl z)) H, rfl, rfl⟩
      · have H := ite_F H hc
        refine R_iconst (dX3_mayStand 14 rfl) rfl ?_
        refine R_goto (tgt := 34) (dX3_mayStand 15 rfl) (by decide) ?_
        exact R_iret rfl (by decide +kernel) (Nat.zero_le _) (Nat.zero_le _) (dX3_mayStand 17 rfl) ⟨congrArg (fun z => some (Sum.inl z)) H, rfl, rfl⟩
theorem z_X3_mayStand (x0 : Int) (x1 : Int) : f_X3_mayStand x0 x1 = 0 ∨ f_X3_mayStand x0 x1 = 1 := by
  unfold f_X3_mayStand
  (repeat' split) <;> first | exact Or.inl rfl | exact Or.inr rfl | exact z_J6_bitCount_0f7a4 .. | exact z_X9_isParts .. | exact z_X9_within ..
def f_X7_partsOf_L5 (x1 : Int) (x2 : Int) (M : Mem) : Nat → Int → Int → Option Int
  | 0, _, _ => none
  | n + 1, x3, x4 =>
    if x4 < 6 then
      if b_and (b_shr x2 x4) 1 = 0 then
        f_X7_partsOf_L5 x1 x2 M n x3 (w32 (x4 + 1))
      else
        f_X7_partsOf_L5 x1 x2 M n (b_or x3 (b_shl 1 (f_X7_partOf x1 x4 M))) (w32 (x4 + 1))
    else
      some x3
set_option maxHeartbeats 4000000 in
theorem t_X7_partsOf_L5 (l : Launch) (g : GG) (ad : Nat → Nat) (S : SW) (M : Mem) (hS : q_ag 1 3 ad S) (x1 : Int) (x2 : Int) {r : Int} : ∀ (n : Nat) (x3 : Int) (x4 : Int), f_X7_partsOf_L5 x1 x2 M n x3 x4 = some r → RW l g MX7_partsOf (q_rm 3 0 0) 0 0 (q_ex S (some (.inl r)) M) 5 S M 0 0 [some (.inr (.inr (some (ad 1)))), some (.inl x1), some (.inl x2), some (.inl x3), some (.inl x4)] [] := by
  intro n
  induction n with
  | zero => intro x3 x4 H; exact absurd H (by simp [f_X7_partsOf_L5])
  | succ n ih =>
    intro x3 x4 H
    rw [f_X7_partsOf_L5] at H
    refine R_iload (i := 4) (dX7_partsOf 4 rfl) rfl ?_
    refine R_bipush (dX7_partsOf 5 rfl) rfl rfl ?_
    refine R_icmp_ge (tgt := 39) (dX7_partsOf 6 rfl) (by decide) (fun hc => ?_) (fun hc => ?_)
    · have H := ite_F H hc
      refine R_iload_n (i := 3) (dX7_partsOf 24 rfl) rfl rfl ?_
      exact R_iret rfl rfl (Nat.zero_le _) (Nat.zero_le _) (dX7_partsOf 25 rfl) ⟨congrArg (fun z => some (Sum.inl z)) (Option.some.inj H), rfl, rfl⟩
    · have H := ite_T H hc
      refine R_iload_n (i := 2) (dX7_partsOf 7 rfl) rfl rfl ?_
      refine R_iload (i := 4) (dX7_partsOf 8 rfl) rfl ?_
      refine R_ishr (dX7_partsOf 9 rfl) ?_
      refine R_iconst (dX7_partsOf 10 rfl) rfl ?_
      refine R_iand (dX7_partsOf 11 rfl) ?_
      refine R_if_eq (tgt := 33) (dX7_partsOf 12 rfl) (by decide) (fun hc => ?_) (fun hc => ?_)
      · have H := ite_T H hc
        refine R_iinc (i := 4) (ls' := [some (.inr (.inr (some (ad 1)))), some (.inl x1), some (.inl x2), some (.inl x3), some (.inl (w32 (x4 + 1)))]) (dX7_partsOf 22 rfl) rfl (Nat.le_of_ble_eq_true rfl) rfl rfl ?_
        refine R_goto (tgt := 5) (dX7_partsOf 23 rfl) (by decide) ?_
        exact ih x3 (w32 (x4 + 1)) H
      · have H := ite_F H hc
        refine R_iload_n (i := 3) (dX7_partsOf 13 rfl) rfl rfl ?_
        refine R_iconst (dX7_partsOf 14 rfl) rfl ?_
        refine R_aload_n (i := 0) (dX7_partsOf 15 rfl) rfl rfl ?_
        refine R_iload_n (i := 1) (dX7_partsOf 16 rfl) rfl rfl ?_
        refine R_iload (i := 4) (dX7_partsOf 17 rfl) rfl ?_
        refine R_cV (st' := [.inl (f_X7_partOf x1 x4 M), .inl 1, .inl x3]) [.inl x1, .inl x4] [.inl 1, .inl x3] (t_X7_partOf l g ad S _ hS   x1 x4) msX7_partOf (Or.inl tb_624) (Or.inl ⟨1, 7, _, _, _, (cl1 hS), rfl⟩) ⟨Nat.le_of_ble_eq_true rfl, Nat.le_of_ble_eq_true rfl⟩ (Nat.zero_le _) (Nat.zero_le _) rfl rfl (Nat.le_of_ble_eq_true rfl) rfl (dX7_partsOf 18 rfl) ?_
        refine R_ishl (dX7_partsOf 19 rfl) ?_
        refine R_ior (dX7_partsOf 20 rfl) ?_
        refine R_istore_n (i := 3) (ls' := [some (.inr (.inr (some (ad 1)))), some (.inl x1), some (.inl x2), some (.inl (b_or x3 (b_shl 1 (f_X7_partOf x1 x4 M)))), some (.inl x4)]) (dX7_partsOf 21 rfl) rfl (Nat.le_of_ble_eq_true rfl) (Nat.le_of_ble_eq_true rfl) rfl rfl ?_
        refine R_iinc (i := 4) (ls' := [some (.inr (.inr (some (ad 1)))), some (.inl x1), some (.inl x2), some (.inl (b_or x3 (b_shl 1 (f_X7_partOf x1 x4 M)))), some (.inl (w32 (x4 + 1)))]) (dX7_partsOf 22 rfl) rfl (Nat.le_of_ble_eq_true rfl) rfl rfl ?_
        refine R_goto (tgt := 5) (dX7_partsOf 23 rfl) (by decide) ?_
        exact ih (b_or x3 (b_shl 1 (f_X7_partOf x1 x4 M))) (w32 (x4 + 1)) H
def f_X7_partsOf (x1 : Int) (x2 : Int) (M : Mem) : Option Int :=
  f_X7_partsOf_L5
    x1 x2 M 100000 0 0
set_option maxHeartbeats 4000000 in
theorem t_X7_partsOf (l : Launch) (g : GG) (ad : Nat → Nat) (S : SW) (M : Mem) (hS : q_ag 1 3 ad S) (x1 : Int) (x2 : Int) {r : Int} (H : f_X7_partsOf x1 x2 M = some r) : CT l g MX7_partsOf 3 0 0 S M [.inr (.inr (some (ad 1))), .inl x1, .inl x2] (q_ex S (some (.inl r)) M) := by
  unfold f_X7_partsOf at H
  refine CT_of (ls0 := [some (.inr (.inr (some (ad 1)))), some (.inl x1), some (.inl x2), none, none]) (by decide +kernel) (Nat.le_of_ble_eq_true rfl) rfl ?_
  refine R_iconst (dX7_partsOf 0 rfl) rfl ?_
  refine R_istore_n (i := 3) (ls' := [some (.inr (.inr (some (ad 1)))), some (.inl x1), some (.inl x2), some (.inl 0), none]) (dX7_partsOf 1 rfl) rfl (Nat.le_of_ble_eq_true rfl) (Nat.le_of_ble_eq_true rfl) rfl rfl ?_
  refine R_iconst (dX7_partsOf 2 rfl) rfl ?_
  refine R_istore (i := 4) (ls' := [some (.inr (.inr (some (ad 1)))), some (.inl x1), some (.inl x2), some (.inl 0), some (.inl 0)]) (dX7_partsOf 3 rfl) (Nat.le_of_ble_eq_true rfl) (Nat.le_of_ble_eq_true rfl) rfl rfl ?_
  exact t_X7_partsOf_L5 l g ad S M hS x1 x2  100000 0 0 H 
def f_X3_add_L29 (x2 : Int) (x4 : Int) : Nat → Int → Mem → Option (Int × Mem)
  | 0, _, _ => none
  | n + 1, x5, M =>
    if x5 < 720 then
      (f_X7_partsOf x5 x2 M).bind fun r25 =>
      f_X3_add_L29 x2 x4 n (w32 (x5 + 1)) (wr M 6 7200 (w32 ((w32 (x4 * 720)) + x5)) r25)
    else
      some (x4, (mset M 3 3 (w32 ((M 3 3) + 1))))
set_option maxHeartbeats 4000000 in
theorem t_X3_add_L29 (l : Launch) (g : GG) (ad : Nat → Nat) (S : SW) (hS : q_ag 0 38 ad S) (x2 : Int) (x4 : Int) {r : Int} {M' : Mem} : ∀ (n : Nat) (x5 : Int) (M : Mem), f_X3_add_L29 x2 x4 n x5 M = some (r, M') → RW l g MX3_add (q_rm 4 0 0) 0 0 (q_ex S (some (.inl r)) M') 29 S M 0 0 [some (.inr (.inr (some (ad 3)))), some (.inr (.inr (some (ad 1)))), some (.inl x2), none, some (.inl x4), some (.inl x5)] [] := by
  intro n
  induction n with
  | zero => intro x5 M H; exact absurd H (by simp [f_X3_add_L29])
  | succ n ih =>
    intro x5 M H
    rw [f_X3_add_L29] at H
    refine R_iload (i := 5) (dX3_add 15 rfl) rfl ?_
    refine R_sipush (dX3_add 16 rfl) rfl rfl ?_
    refine R_icmp_ge (tgt := 66) (dX3_add 17 rfl) (by decide) (fun hc => ?_) (fun hc => ?_)
    · have H := ite_F H hc
      refine R_aload_n (i := 0) (dX3_add 32 rfl) rfl rfl ?_
      refine R_dup rfl (dX3_add 33 rfl) ?_
      refine R_getI cgX3 3 (cl3 hS) 3 (Nat.le_of_ble_eq_true rfl) rfl (Or.inl tb_141) (dX3_add 34 rfl) ?_
      refine R_iconst (dX3_add 35 rfl) rfl ?_
      refine R_iadd (dX3_add 36 rfl) ?_
      refine R_putI cgX3 3 (cl3 hS) 3 (Nat.le_of_ble_eq_true rfl) rfl rfl rfl rfl (Or.inl tb_141) (dX3_add 37 rfl) ?_
      refine R_iload (i := 4) (dX3_add 38 rfl) rfl ?_
      exact R_iret rfl rfl (Nat.zero_le _) (Nat.zero_le _) (dX3_add 39 rfl) ⟨congrArg (fun z => some (Sum.inl z)) (Prod.mk.inj (Option.some.inj H)).1, rfl, (Prod.mk.inj (Option.some.inj H)).2⟩
    · have H := ite_T H hc
      refine R_aload_n (i := 0) (dX3_add 18 rfl) rfl rfl ?_
      refine R_getR cgX3 3 (cl3 hS) 2 (Nat.le_of_ble_eq_true rfl) rfl (Or.inl tb_139) (dX3_add 19 rfl) ?_
      refine R_iload (i := 4) (dX3_add 20 rfl) rfl ?_
      refine R_sipush (dX3_add 21 rfl) rfl rfl ?_
      refine R_imul (dX3_add 22 rfl) ?_
      refine R_iload (i := 5) (dX3_add 23 rfl) rfl ?_
      refine R_iadd (dX3_add 24 rfl) ?_
      refine R_aload_n (i := 1) (dX3_add 25 rfl) rfl rfl ?_
      refine R_iload (i := 5) (dX3_add 26 rfl) rfl ?_
      refine R_iload_n (i := 2) (dX3_add 27 rfl) rfl rfl ?_
      obtain ⟨r25, hr, H⟩ := op_E H
      refine R_cV (st' := [.inl r25, .inl (w32 ((w32 (x4 * 720)) + x5)), .inr (.inr (some (ad 6)))]) [.inl x5, .inl x2] [.inl (w32 ((w32 (x4 * 720)) + x5)), .inr (.inr (some (ad 6)))] (t_X7_partsOf l g ad S _ (q_ag_sub hS (Nat.le_of_ble_eq_true rfl) (Nat.le_of_ble_eq_true rfl))   x5 x2 hr) msX7_partsOf (Or.inl tb_620) (Or.inl ⟨1, 7, _, _, _, (cl1 hS), rfl⟩) ⟨Nat.le_of_ble_eq_true rfl, Nat.le_of_ble_eq_true rfl⟩ (Nat.zero_le _) (Nat.zero_le _) rfl rfl (Nat.le_of_ble_eq_true rfl) rfl (dX3_add 28 rfl) ?_
      refine R_cS (st' := []) [.inr (.inr (some (ad 6))), .inl (w32 ((w32 (x4 * 720)) + x5)), .inl r25] [] (t_put l g S _ 6 (cl6 hS) (Nat.le_of_ble_eq_true rfl) (w32 ((w32 (x4 * 720)) + x5)) r25) msX9_put (Or.inr ⟨_, tb_619⟩) ⟨Nat.le_of_ble_eq_true rfl, Nat.le_of_ble_eq_true rfl⟩ (Nat.zero_le _) (Nat.zero_le _) rfl rfl (Nat.le_of_ble_eq_true rfl) rfl (dX3_add 29 rfl) ?_
      refine R_iinc (i := 5) (ls' := [some (.inr (.inr (some (ad 3)))), some (.inr (.inr (some (ad 1)))), some (.inl x2), none, some (.inl x4), some (.inl (w32 (x5 + 1)))]) (dX3_add 30 rfl) rfl (Nat.le_of_ble_eq_true rfl) rfl rfl ?_
      refine R_goto (tgt := 29) (dX3_add 31 rfl) (by decide) ?_
      exact ih (w32 (x5 + 1)) (wr M 6 7200 (w32 ((w32 (x4 * 720)) + x5)) r25) H
def f_X3_add (x2 : Int) (x3 : Int) (M : Mem) : Option (Int × Mem) :=
  f_X3_add_L29
    x2 (M 3 3) 100000 0 (wr (wr M 4 10 (M 3 3) x2) 5 10 (M 3 3) x3)
set_option maxHeartbeats 4000000 in
theorem t_X3_add (l : Launch) (g : GG) (ad : Nat → Nat) (S : SW) (M : Mem) (hS : q_ag 0 38 ad S) (x2 : Int) (x3 : Int) {r : Int} {M' : Mem} (H : f_X3_add x2 x3 M = some (r, M')) : CT l g MX3_add 4 0 0 S M [.inr (.inr (some (ad 3))), .inr (.inr (some (ad 1))), .inl x2, .inl x3] (q_ex S (some (.inl r)) M') := by
  unfold f_X3_add at H
  refine CT_of (ls0 := [some (.inr (.inr (some (ad 3)))), some (.inr (.inr (some (ad 1)))), some (.inl x2), some (.inl x3), none, none]) (by decide +kernel) (Nat.le_of_ble_eq_true rfl) rfl ?_
  refine R_aload_n (i := 0) (dX3_add 0 rfl) rfl rfl ?_
  refine R_getI cgX3 3 (cl3 hS) 3 (Nat.le_of_ble_eq_true rfl) rfl (Or.inl tb_141) (dX3_add 1 rfl) ?_
  refine R_istore (i := 4) (ls' := [some (.inr (.inr (some (ad 3)))), some (.inr (.inr (some (ad 1)))), some (.inl x2), some (.inl x3), some (.inl (M 3 3)), none]) (dX3_add 2 rfl) (Nat.le_of_ble_eq_true rfl) (Nat.le_of_ble_eq_true rfl) rfl rfl ?_
  refine R_aload_n (i := 0) (dX3_add 3 rfl) rfl rfl ?_
  refine R_getR cgX3 3 (cl3 hS) 0 (Nat.le_of_ble_eq_true rfl) rfl (Or.inl tb_136) (dX3_add 4 rfl) ?_
  refine R_iload (i := 4) (dX3_add 5 rfl) rfl ?_
  refine R_iload_n (i := 2) (dX3_add 6 rfl) rfl rfl ?_
  refine R_cS (st' := []) [.inr (.inr (some (ad 4))), .inl (M 3 3), .inl x2] [] (t_put l g S _ 4 (cl4 hS) (Nat.le_of_ble_eq_true rfl) (M 3 3) x2) msX9_put (Or.inr ⟨_, tb_619⟩) ⟨Nat.le_of_ble_eq_true rfl, Nat.le_of_ble_eq_true rfl⟩ (Nat.zero_le _) (Nat.zero_le _) rfl rfl (Nat.le_of_ble_eq_true rfl) rfl (dX3_add 7 rfl) ?_
  refine R_aload_n (i := 0) (dX3_add 8 rfl) rfl rfl ?_
  refine R_getR cgX3 3 (cl3 hS) 1 (Nat.le_of_ble_eq_true rfl) rfl (Or.inl tb_137) (dX3_add 9 rfl) ?_
  refine R_iload (i := 4) (dX3_add 10 rfl) rfl ?_
  refine R_iload_n (i := 3) (dX3_add 11 rfl) rfl rfl ?_
  refine R_cS (st' := []) [.inr (.inr (some (ad 5))), .inl (M 3 3), .inl x3] [] (t_put l g S _ 5 (cl5 hS) (Nat.le_of_ble_eq_true rfl) (M 3 3) x3) msX9_put (Or.inr ⟨_, tb_619⟩) ⟨Nat.le_of_ble_eq_true rfl, Nat.le_of_ble_eq_true rfl⟩ (Nat.zero_le _) (Nat.zero_le _) rfl rfl (Nat.le_of_ble_eq_true rfl) rfl (dX3_add 12 rfl) ?_
  refine R_iconst (dX3_add 13 rfl) rfl ?_
  refine R_istore (i := 5) (ls' := [some (.inr (.inr (some (ad 3)))), some (.inr (.inr (some (ad 1)))), some (.inl x2), some (.inl x3), some (.inl (M 3 3)), some (.inl 0)]) (dX3_add 14 rfl) (Nat.le_of_ble_eq_true rfl) (Nat.le_of_ble_eq_true rfl) rfl rfl ?_
  refine R_mask [true, true, true, false, true, true] rfl ?_
  exact t_X3_add_L29 l g ad S hS x2 (M 3 3)  100000 0 (wr (wr M 4 10 (M 3 3) x2) 5 10 (M 3 3) x3) H 
def f_X3_everyLine (M : Mem) : Int :=
  w32 ((b_shl 1 (M 3 3)) - 1)
set_option maxHeartbeats 4000000 in
theorem t_X3_everyLine (l : Launch) (g : GG) (ad : Nat → Nat) (S : SW) (M : Mem) (hS : q_ag 0 38 ad S) : CT l g MX3_everyLine 1 0 0 S M [.inr (.inr (some (ad 3)))] (q_ex S (some (.inl (f_X3_everyLine M))) M) := by
  obtain ⟨r, H⟩ : ∃ r, f_X3_everyLine M = r := ⟨_, rfl⟩
  rw [H]
  unfold f_X3_everyLine at H
  refine CT_of (ls0 := [some (.inr (.inr (some (ad 3))))]) (by decide +kernel) (Nat.le_of_ble_eq_true rfl) rfl ?_
  refine R_iconst (dX3_everyLine 0 rfl) rfl ?_
  refine R_aload_n (i := 0) (dX3_everyLine 1 rfl) rfl rfl ?_
  refine R_getI cgX3 3 (cl3 hS) 3 (Nat.le_of_ble_eq_true rfl) rfl (Or.inl tb_141) (dX3_everyLine 2 rfl) ?_
  refine R_ishl (dX3_everyLine 3 rfl) ?_
  refine R_iconst (dX3_everyLine 4 rfl) rfl ?_
  refine R_isub (dX3_everyLine 5 rfl) ?_
  exact R_iret rfl rfl (Nat.zero_le _) (Nat.zero_le _) (dX3_everyLine 6 rfl) ⟨congrArg (fun z => some (Sum.inl z)) H, rfl, rfl⟩
def f_X3_pricesOf_L4 (x1 : Int) (M : Mem) : Nat → Int → Int → Option Int
  | 0, _, _ => none
  | n + 1, x2, x3 =>
    if x3 < M 3 3 then
      if b_and (b_shr x1 x3) 1 = 0 then
        f_X3_pricesOf_L4 x1 M n x2 (w32 (x3 + 1))
      else
        f_X3_pricesOf_L4 x1 M n (w32 (x2 + (f_X3_priceOf x3 M))) (w32 (x3 + 1))
    else
      some x2
set_option maxHeartbeats 4000000 in
theorem t_X3_pricesOf_L4 (l : Launch) (g : GG) (ad : Nat → Nat) (S : SW) (M : Mem) (hS : q_ag 0 38 ad S) (x1 : Int) {r : Int} : ∀ (n : Nat) (x2 : Int) (x3 : Int), f_X3_pricesOf_L4 x1 M n x2 x3 = some r → RW l g MX3_pricesOf (q_rm 3 0 0) 0 0 (q_ex S (some (.inl r)) M) 4 S M 0 0 [some (.inr (.inr (some (ad 3)))), some (.inl x1), some (.inl x2), some (.inl x3)] [] := by
  intro n
  induction n with
  | zero => intro x2 x3 H; exact absurd H (by simp [f_X3_pricesOf_L4])
  | succ n ih =>
    intro x2 x3 H
    rw [f_X3_pricesOf_L4] at H
    refine R_iload_n (i := 3) (dX3_pricesOf 4 rfl) rfl rfl ?_
    refine R_aload_n (i := 0) (dX3_pricesOf 5 rfl) rfl rfl ?_
    refine R_getI cgX3 3 (cl3 hS) 3 (Nat.le_of_ble_eq_true rfl) rfl (Or.inl tb_141) (dX3_pricesOf 6 rfl) ?_
    refine R_icmp_ge (tgt := 34) (dX3_pricesOf 7 rfl) (by decide) (fun hc => ?_) (fun hc => ?_)
    · have H := ite_F H hc
      refine R_iload_n (i := 2) (dX3_pricesOf 22 rfl) rfl rfl ?_
      exact R_iret rfl rfl (Nat.zero_le _) (Nat.zero_le _) (dX3_pricesOf 23 rfl) ⟨congrArg (fun z => some (Sum.inl z)) (Option.some.inj H), rfl, rfl⟩
    · have H := ite_T H hc
      refine R_iload_n (i := 1) (dX3_pricesOf 8 rfl) rfl rfl ?_
      refine R_iload_n (i := 3) (dX3_pricesOf 9 rfl) rfl rfl ?_
      refine R_ishr (dX3_pricesOf 10 rfl) ?_
      refine R_iconst (dX3_pricesOf 11 rfl) rfl ?_
      refine R_iand (dX3_pricesOf 12 rfl) ?_
      refine R_if_eq (tgt := 28) (dX3_pricesOf 13 rfl) (by decide) (fun hc => ?_) (fun hc => ?_)
      · have H := ite_T H hc
        refine R_iinc (i := 3) (ls' := [some (.inr (.inr (some (ad 3)))), some (.inl x1), some (.inl x2), some (.inl (w32 (x3 + 1)))]) (dX3_pricesOf 20 rfl) rfl (Nat.le_of_ble_eq_true rfl) rfl rfl ?_
        refine R_goto (tgt := 4) (dX3_pricesOf 21 rfl) (by decide) ?_
        exact ih x2 (w32 (x3 + 1)) H
      · have H := ite_F H hc
        refine R_iload_n (i := 2) (dX3_pricesOf 14 rfl) rfl rfl ?_
        refine R_aload_n (i := 0) (dX3_pricesOf 15 rfl) rfl rfl ?_
        refine R_iload_n (i := 3) (dX3_pricesOf 16 rfl) rfl rfl ?_
        refine R_cV (st' := [.inl (f_X3_priceOf x3 M), .inl x2]) [.inl x3] [.inl x2] (t_X3_priceOf l g ad S _ hS   x3) msX3_priceOf (Or.inl tb_963) (Or.inl ⟨3, 3, _, _, _, (cl3 hS), rfl⟩) ⟨Nat.le_of_ble_eq_true rfl, Nat.le_of_ble_eq_true rfl⟩ (Nat.zero_le _) (Nat.zero_le _) rfl rfl (Nat.le_of_ble_eq_true rfl) rfl (dX3_pricesOf 17 rfl) ?_
        refine R_iadd (dX3_pricesOf 18 rfl) ?_
        refine R_istore_n (i := 2) (ls' := [some (.inr (.inr (some (ad 3)))), some (.inl x1), some (.inl (w32 (x2 + (f_X3_priceOf x3 M)))), some (.inl x3)]) (dX3_pricesOf 19 rfl) rfl (Nat.le_of_ble_eq_true rfl) (Nat.le_of_ble_eq_true rfl) rfl rfl ?_
        refine R_iinc (i := 3) (ls' := [some (.inr (.inr (some (ad 3)))), some (.inl x1), some (.inl (w32 (x2 + (f_X3_priceOf x3 M)))), some (.inl (w32 (x3 + 1)))]) (dX3_pricesOf 20 rfl) rfl (Nat.le_of_ble_eq_true rfl) rfl rfl ?_
        refine R_goto (tgt := 4) (dX3_pricesOf 21 rfl) (by decide) ?_
        exact ih (w32 (x2 + (f_X3_priceOf x3 M))) (w32 (x3 + 1)) H
def f_X3_pricesOf (x1 : Int) (M : Mem) : Option Int :=
  f_X3_pricesOf_L4
    x1 M 100000 0 0
set_option maxHeartbeats 4000000 in
theorem t_X3_pricesOf (l : Launch) (g : GG) (ad : Nat → Nat) (S : SW) (M : Mem) (hS : q_ag 0 38 ad S) (x1 : Int) {r : Int} (H : f_X3_pricesOf x1 M = some r) : CT l g MX3_pricesOf 3 0 0 S M [.inr (.inr (some (ad 3))), .inl x1] (q_ex S (some (.inl r)) M) := by
  unfold f_X3_pricesOf at H
  refine CT_of (ls0 := [some (.inr (.inr (some (ad 3)))), some (.inl x1), none, none]) (by decide +kernel) (Nat.le_of_ble_eq_true rfl) rfl ?_
  refine R_iconst (dX3_pricesOf 0 rfl) rfl ?_
  refine R_istore_n (i := 2) (ls' := [some (.inr (.inr (some (ad 3)))), some (.inl x1), some (.inl 0), none]) (dX3_pricesOf 1 rfl) rfl (Nat.le_of_ble_eq_true rfl) (Nat.le_of_ble_eq_true rfl) rfl rfl ?_
  refine R_iconst (dX3_pricesOf 2 rfl) rfl ?_
  refine R_istore_n (i := 3) (ls' := [some (.inr (.inr (some (ad 3)))), some (.inl x1), some (.inl 0), some (.inl 0)]) (dX3_pricesOf 3 rfl) rfl (Nat.le_of_ble_eq_true rfl) (Nat.le_of_ble_eq_true rfl) rfl rfl ?_
  exact t_X3_pricesOf_L4 l g ad S M hS x1  100000 0 0 H 
end
