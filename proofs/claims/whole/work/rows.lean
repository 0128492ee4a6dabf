section
/-- a private method of a class that the tables say can be made, by its rows of tables_1 -/
def lw_okq (q : MethodName × Nat) : Prop := (q.1.cls ≠ "java/lang/invoke/MethodHandle" ∧ q.1.cls ≠ "java/lang/invoke/VarHandle") ∧ Cond.instantiable q.1.cls q.2 ∈ tables_1 ∧ Cond.privateMethod q.1 ∈ tables_1 ∧ Cond.instanceMethod q.1 ∈ tables_1
theorem lw_p0 : lw_okq (⟨"CardNobodyReads$Tongues", "spell", "(I)V"⟩, 1) := ⟨⟨by decide +kernel, by decide +kernel⟩, List.mem_of_getElem? (i := 29) (by decide +kernel), List.mem_of_getElem? (i := 35) (by decide +kernel), List.mem_of_getElem? (i := 36) (by decide +kernel)⟩
theorem lw_p1 : lw_okq (⟨"CardNobodyReads$Tape", "endOf", "(I)I"⟩, 4) := ⟨⟨by decide +kernel, by decide +kernel⟩, List.mem_of_getElem? (i := 118) (by decide +kernel), List.mem_of_getElem? (i := 206) (by decide +kernel), List.mem_of_getElem? (i := 207) (by decide +kernel)⟩
theorem lw_p2 : lw_okq (⟨"CardNobodyReads$Tape", "tokenOf", "(II)I"⟩, 4) := ⟨⟨by decide +kernel, by decide +kernel⟩, List.mem_of_getElem? (i := 118) (by decide +kernel), List.mem_of_getElem? (i := 219) (by decide +kernel), List.mem_of_getElem? (i := 220) (by decide +kernel)⟩
theorem lw_p3 : lw_okq (⟨"CardNobodyReads$Tape", "word", "(II)I"⟩, 4) := ⟨⟨by decide +kernel, by decide +kernel⟩, List.mem_of_getElem? (i := 118) (by decide +kernel), List.mem_of_getElem? (i := 223) (by decide +kernel), List.mem_of_getElem? (i := 224) (by decide +kernel)⟩
theorem lw_p4 : lw_okq (⟨"CardNobodyReads$Tape", "spells", "(Ljava/lang/String;II)Z"⟩, 4) := ⟨⟨by decide +kernel, by decide +kernel⟩, List.mem_of_getElem? (i := 118) (by decide +kernel), List.mem_of_getElem? (i := 228) (by decide +kernel), List.mem_of_getElem? (i := 229) (by decide +kernel)⟩
theorem lw_p5 : lw_okq (⟨"CardNobodyReads$Tape", "value", "(II)I"⟩, 4) := ⟨⟨by decide +kernel, by decide +kernel⟩, List.mem_of_getElem? (i := 118) (by decide +kernel), List.mem_of_getElem? (i := 245) (by decide +kernel), List.mem_of_getElem? (i := 246) (by decide +kernel)⟩
theorem lw_p6 : lw_okq (⟨"CardNobodyReads$Texts", "readPart", "(II)Z"⟩, 8) := ⟨⟨by decide +kernel, by decide +kernel⟩, List.mem_of_getElem? (i := 112) (by decide +kernel), List.mem_of_getElem? (i := 307) (by decide +kernel), List.mem_of_getElem? (i := 308) (by decide +kernel)⟩
theorem lw_p7 : lw_okq (⟨"CardNobodyReads$Texts", "pass", "(I)Z"⟩, 8) := ⟨⟨by decide +kernel, by decide +kernel⟩, List.mem_of_getElem? (i := 112) (by decide +kernel), List.mem_of_getElem? (i := 311) (by decide +kernel), List.mem_of_getElem? (i := 312) (by decide +kernel)⟩
theorem lw_p8 : lw_okq (⟨"CardNobodyReads$Texts", "token", "()I"⟩, 8) := ⟨⟨by decide +kernel, by decide +kernel⟩, List.mem_of_getElem? (i := 112) (by decide +kernel), List.mem_of_getElem? (i := 315) (by decide +kernel), List.mem_of_getElem? (i := 316) (by decide +kernel)⟩
theorem lw_p9 : lw_okq (⟨"CardNobodyReads$Texts", "readEither", "(I)Z"⟩, 8) := ⟨⟨by decide +kernel, by decide +kernel⟩, List.mem_of_getElem? (i := 112) (by decide +kernel), List.mem_of_getElem? (i := 320) (by decide +kernel), List.mem_of_getElem? (i := 321) (by decide +kernel)⟩
theorem lw_p10 : lw_okq (⟨"CardNobodyReads$Texts", "readBoth", "(I)Z"⟩, 8) := ⟨⟨by decide +kernel, by decide +kernel⟩, List.mem_of_getElem? (i := 112) (by decide +kernel), List.mem_of_getElem? (i := 324) (by decide +kernel), List.mem_of_getElem? (i := 325) (by decide +kernel)⟩
theorem lw_p11 : lw_okq (⟨"CardNobodyReads$Texts", "readNot", "(I)Z"⟩, 8) := ⟨⟨by decide +kernel, by decide +kernel⟩, List.mem_of_getElem? (i := 112) (by decide +kernel), List.mem_of_getElem? (i := 328) (by decide +kernel), List.mem_of_getElem? (i := 329) (by decide +kernel)⟩
theorem lw_p12 : lw_okq (⟨"CardNobodyReads$Texts", "readCompared", "(I)Z"⟩, 8) := ⟨⟨by decide +kernel, by decide +kernel⟩, List.mem_of_getElem? (i := 112) (by decide +kernel), List.mem_of_getElem? (i := 332) (by decide +kernel), List.mem_of_getElem? (i := 333) (by decide +kernel)⟩
theorem lw_p13 : lw_okq (⟨"CardNobodyReads$Texts", "readSum", "(I)Z"⟩, 8) := ⟨⟨by decide +kernel, by decide +kernel⟩, List.mem_of_getElem? (i := 112) (by decide +kernel), List.mem_of_getElem? (i := 336) (by decide +kernel), List.mem_of_getElem? (i := 337) (by decide +kernel)⟩
theorem lw_p14 : lw_okq (⟨"CardNobodyReads$Texts", "readTerm", "(I)Z"⟩, 8) := ⟨⟨by decide +kernel, by decide +kernel⟩, List.mem_of_getElem? (i := 112) (by decide +kernel), List.mem_of_getElem? (i := 340) (by decide +kernel), List.mem_of_getElem? (i := 341) (by decide +kernel)⟩
theorem lw_p15 : lw_okq (⟨"CardNobodyReads$Texts", "readOne", "(I)Z"⟩, 8) := ⟨⟨by decide +kernel, by decide +kernel⟩, List.mem_of_getElem? (i := 112) (by decide +kernel), List.mem_of_getElem? (i := 344) (by decide +kernel), List.mem_of_getElem? (i := 345) (by decide +kernel)⟩
def lw_privs_1 : List (MethodName × Nat) := [(⟨"CardNobodyReads$Tongues", "spell", "(I)V"⟩, 1), (⟨"CardNobodyReads$Tape", "endOf", "(I)I"⟩, 4), (⟨"CardNobodyReads$Tape", "tokenOf", "(II)I"⟩, 4), (⟨"CardNobodyReads$Tape", "word", "(II)I"⟩, 4), (⟨"CardNobodyReads$Tape", "spells", "(Ljava/lang/String;II)Z"⟩, 4), (⟨"CardNobodyReads$Tape", "value", "(II)I"⟩, 4), (⟨"CardNobodyReads$Texts", "readPart", "(II)Z"⟩, 8), (⟨"CardNobodyReads$Texts", "pass", "(I)Z"⟩, 8), (⟨"CardNobodyReads$Texts", "token", "()I"⟩, 8), (⟨"CardNobodyReads$Texts", "readEither", "(I)Z"⟩, 8), (⟨"CardNobodyReads$Texts", "readBoth", "(I)Z"⟩, 8), (⟨"CardNobodyReads$Texts", "readNot", "(I)Z"⟩, 8), (⟨"CardNobodyReads$Texts", "readCompared", "(I)Z"⟩, 8), (⟨"CardNobodyReads$Texts", "readSum", "(I)Z"⟩, 8), (⟨"CardNobodyReads$Texts", "readTerm", "(I)Z"⟩, 8), (⟨"CardNobodyReads$Texts", "readOne", "(I)Z"⟩, 8)]
theorem lw_r1 : ∀ q ∈ lw_privs_1, lw_okq q := List.forall_mem_cons.mpr ⟨lw_p0, List.forall_mem_cons.mpr ⟨lw_p1, List.forall_mem_cons.mpr ⟨lw_p2, List.forall_mem_cons.mpr ⟨lw_p3, List.forall_mem_cons.mpr ⟨lw_p4, List.forall_mem_cons.mpr ⟨lw_p5, List.forall_mem_cons.mpr ⟨lw_p6, List.forall_mem_cons.mpr ⟨lw_p7, List.forall_mem_cons.mpr ⟨lw_p8, List.forall_mem_cons.mpr ⟨lw_p9, List.forall_mem_cons.mpr ⟨lw_p10, List.forall_mem_cons.mpr ⟨lw_p11, List.forall_mem_cons.mpr ⟨lw_p12, List.forall_mem_cons.mpr ⟨lw_p13, List.forall_mem_cons.mpr ⟨lw_p14, List.forall_mem_cons.mpr ⟨lw_p15, fun _ h => absurd h List.not_mem_nil⟩⟩⟩⟩⟩⟩⟩⟩⟩⟩⟩⟩⟩⟩⟩⟩
theorem lw_p16 : lw_okq (⟨"CardNobodyReads$Texts", "write", "(I)V"⟩, 8) := ⟨⟨by decide +kernel, by decide +kernel⟩, List.mem_of_getElem? (i := 112) (by decide +kernel), List.mem_of_getElem? (i := 348) (by decide +kernel), List.mem_of_getElem? (i := 349) (by decide +kernel)⟩
theorem lw_p17 : lw_okq (⟨"CardNobodyReads", "addLine", "(II)I"⟩, 13) := ⟨⟨by decide +kernel, by decide +kernel⟩, List.mem_of_getElem? (i := 21) (by decide +kernel), List.mem_of_getElem? (i := 543) (by decide +kernel), List.mem_of_getElem? (i := 544) (by decide +kernel)⟩
theorem lw_p18 : lw_okq (⟨"CardNobodyReads", "isLine", "(I)Z"⟩, 13) := ⟨⟨by decide +kernel, by decide +kernel⟩, List.mem_of_getElem? (i := 21) (by decide +kernel), List.mem_of_getElem? (i := 564) (by decide +kernel), List.mem_of_getElem? (i := 565) (by decide +kernel)⟩
theorem lw_p19 : lw_okq (⟨"CardNobodyReads", "isGuest", "(I)Z"⟩, 13) := ⟨⟨by decide +kernel, by decide +kernel⟩, List.mem_of_getElem? (i := 21) (by decide +kernel), List.mem_of_getElem? (i := 591) (by decide +kernel), List.mem_of_getElem? (i := 592) (by decide +kernel)⟩
theorem lw_p20 : lw_okq (⟨"CardNobodyReads$Texts", "valueOf", "(II)I"⟩, 8) := ⟨⟨by decide +kernel, by decide +kernel⟩, List.mem_of_getElem? (i := 112) (by decide +kernel), List.mem_of_getElem? (i := 630) (by decide +kernel), List.mem_of_getElem? (i := 631) (by decide +kernel)⟩
theorem lw_p21 : lw_okq (⟨"CardNobodyReads", "mayBeFact", "(IIII)Z"⟩, 13) := ⟨⟨by decide +kernel, by decide +kernel⟩, List.mem_of_getElem? (i := 21) (by decide +kernel), List.mem_of_getElem? (i := 643) (by decide +kernel), List.mem_of_getElem? (i := 644) (by decide +kernel)⟩
theorem lw_p22 : lw_okq (⟨"CardNobodyReads", "fitting", "()LCardNobodyReads$Fits;"⟩, 13) := ⟨⟨by decide +kernel, by decide +kernel⟩, List.mem_of_getElem? (i := 21) (by decide +kernel), List.mem_of_getElem? (i := 664) (by decide +kernel), List.mem_of_getElem? (i := 665) (by decide +kernel)⟩
theorem lw_p23 : lw_okq (⟨"CardNobodyReads$Fits", "allow", "(LCardNobodyReads$Lines;LCardNobodyReads$Texts;I)V"⟩, 7) := ⟨⟨by decide +kernel, by decide +kernel⟩, List.mem_of_getElem? (i := 385) (by decide +kernel), List.mem_of_getElem? (i := 675) (by decide +kernel), List.mem_of_getElem? (i := 676) (by decide +kernel)⟩
theorem lw_p24 : lw_okq (⟨"CardNobodyReads$Fits", "isLawful", "(LCardNobodyReads$Lines;I)Z"⟩, 7) := ⟨⟨by decide +kernel, by decide +kernel⟩, List.mem_of_getElem? (i := 385) (by decide +kernel), List.mem_of_getElem? (i := 684) (by decide +kernel), List.mem_of_getElem? (i := 685) (by decide +kernel)⟩
theorem lw_p25 : lw_okq (⟨"CardNobodyReads$Fits", "take", "(LCardNobodyReads$Tongues;LCardNobodyReads$Lines;I)V"⟩, 7) := ⟨⟨by decide +kernel, by decide +kernel⟩, List.mem_of_getElem? (i := 385) (by decide +kernel), List.mem_of_getElem? (i := 703) (by decide +kernel), List.mem_of_getElem? (i := 704) (by decide +kernel)⟩
theorem lw_p26 : lw_okq (⟨"CardNobodyReads", "safeLines", "(LCardNobodyReads$Fits;I)I"⟩, 13) := ⟨⟨by decide +kernel, by decide +kernel⟩, List.mem_of_getElem? (i := 21) (by decide +kernel), List.mem_of_getElem? (i := 786) (by decide +kernel), List.mem_of_getElem? (i := 787) (by decide +kernel)⟩
theorem lw_p27 : lw_okq (⟨"CardNobodyReads", "planTonight", "(LCardNobodyReads$Fits;)V"⟩, 13) := ⟨⟨by decide +kernel, by decide +kernel⟩, List.mem_of_getElem? (i := 21) (by decide +kernel), List.mem_of_getElem? (i := 802) (by decide +kernel), List.mem_of_getElem? (i := 803) (by decide +kernel)⟩
theorem lw_p28 : lw_okq (⟨"CardNobodyReads", "liking", "(LCardNobodyReads$Fits;II)I"⟩, 13) := ⟨⟨by decide +kernel, by decide +kernel⟩, List.mem_of_getElem? (i := 21) (by decide +kernel), List.mem_of_getElem? (i := 806) (by decide +kernel), List.mem_of_getElem? (i := 807) (by decide +kernel)⟩
theorem lw_p29 : lw_okq (⟨"CardNobodyReads$Tonight", "serve", "(IILCardNobodyReads$Lines;II)V"⟩, 5) := ⟨⟨by decide +kernel, by decide +kernel⟩, List.mem_of_getElem? (i := 415) (by decide +kernel), List.mem_of_getElem? (i := 820) (by decide +kernel), List.mem_of_getElem? (i := 821) (by decide +kernel)⟩
theorem lw_p30 : lw_okq (⟨"CardNobodyReads$Tonight", "keepIfBetter", "(I)V"⟩, 5) := ⟨⟨by decide +kernel, by decide +kernel⟩, List.mem_of_getElem? (i := 415) (by decide +kernel), List.mem_of_getElem? (i := 824) (by decide +kernel), List.mem_of_getElem? (i := 825) (by decide +kernel)⟩
theorem lw_p31 : lw_okq (⟨"CardNobodyReads", "mostLiking", "(LCardNobodyReads$Fits;II)I"⟩, 13) := ⟨⟨by decide +kernel, by decide +kernel⟩, List.mem_of_getElem? (i := 21) (by decide +kernel), List.mem_of_getElem? (i := 845) (by decide +kernel), List.mem_of_getElem? (i := 846) (by decide +kernel)⟩
def lw_privs_2 : List (MethodName × Nat) := [(⟨"CardNobodyReads$Texts", "write", "(I)V"⟩, 8), (⟨"CardNobodyReads", "addLine", "(II)I"⟩, 13), (⟨"CardNobodyReads", "isLine", "(I)Z"⟩, 13), (⟨"CardNobodyReads", "isGuest", "(I)Z"⟩, 13), (⟨"CardNobodyReads$Texts", "valueOf", "(II)I"⟩, 8), (⟨"CardNobodyReads", "mayBeFact", "(IIII)Z"⟩, 13), (⟨"CardNobodyReads", "fitting", "()LCardNobodyReads$Fits;"⟩, 13), (⟨"CardNobodyReads$Fits", "allow", "(LCardNobodyReads$Lines;LCardNobodyReads$Texts;I)V"⟩, 7), (⟨"CardNobodyReads$Fits", "isLawful", "(LCardNobodyReads$Lines;I)Z"⟩, 7), (⟨"CardNobodyReads$Fits", "take", "(LCardNobodyReads$Tongues;LCardNobodyReads$Lines;I)V"⟩, 7), (⟨"CardNobodyReads", "safeLines", "(LCardNobodyReads$Fits;I)I"⟩, 13), (⟨"CardNobodyReads", "planTonight", "(LCardNobodyReads$Fits;)V"⟩, 13), (⟨"CardNobodyReads", "liking", "(LCardNobodyReads$Fits;II)I"⟩, 13), (⟨"CardNobodyReads$Tonight", "serve", "(IILCardNobodyReads$Lines;II)V"⟩, 5), (⟨"CardNobodyReads$Tonight", "keepIfBetter", "(I)V"⟩, 5), (⟨"CardNobodyReads", "mostLiking", "(LCardNobodyReads$Fits;II)I"⟩, 13)]
theorem lw_r2 : ∀ q ∈ lw_privs_2, lw_okq q := List.forall_mem_cons.mpr ⟨lw_p16, List.forall_mem_cons.mpr ⟨lw_p17, List.forall_mem_cons.mpr ⟨lw_p18, List.forall_mem_cons.mpr ⟨lw_p19, List.forall_mem_cons.mpr ⟨lw_p20, List.forall_mem_cons.mpr ⟨lw_p21, List.forall_mem_cons.mpr ⟨lw_p22, List.forall_mem_cons.mpr ⟨lw_p23, List.forall_mem_cons.mpr ⟨lw_p24, List.forall_mem_cons.mpr ⟨lw_p25, List.forall_mem_cons.mpr ⟨lw_p26, List.forall_mem_cons.mpr ⟨lw_p27, List.forall_mem_cons.mpr ⟨lw_p28, List.forall_mem_cons.mpr ⟨lw_p29, List.forall_mem_cons.mpr ⟨lw_p30, List.forall_mem_cons.mpr ⟨lw_p31, fun _ h => absurd h List.not_mem_nil⟩⟩⟩⟩⟩⟩⟩⟩⟩⟩⟩⟩⟩⟩⟩⟩
theorem lw_p32 : lw_okq (⟨"CardNobodyReads", "teaching", "(LCardNobodyReads$Fits;I)I"⟩, 13) := ⟨⟨by decide +kernel, by decide +kernel⟩, List.mem_of_getElem? (i := 21) (by decide +kernel), List.mem_of_getElem? (i := 854) (by decide +kernel), List.mem_of_getElem? (i := 855) (by decide +kernel)⟩
theorem lw_p33 : lw_okq (⟨"CardNobodyReads", "isMeal", "(II)Z"⟩, 13) := ⟨⟨by decide +kernel, by decide +kernel⟩, List.mem_of_getElem? (i := 21) (by decide +kernel), List.mem_of_getElem? (i := 916) (by decide +kernel), List.mem_of_getElem? (i := 917) (by decide +kernel)⟩
theorem lw_p34 : lw_okq (⟨"CardNobodyReadsModel", "next", "()V"⟩, 47) := ⟨⟨by decide +kernel, by decide +kernel⟩, List.mem_of_getElem? (i := 1001) (by decide +kernel), List.mem_of_getElem? (i := 1011) (by decide +kernel), List.mem_of_getElem? (i := 1012) (by decide +kernel)⟩
theorem lw_p35 : lw_okq (⟨"CardNobodyReadsModel", "wordFrom", "(II)I"⟩, 47) := ⟨⟨by decide +kernel, by decide +kernel⟩, List.mem_of_getElem? (i := 1001) (by decide +kernel), List.mem_of_getElem? (i := 1018) (by decide +kernel), List.mem_of_getElem? (i := 1019) (by decide +kernel)⟩
theorem lw_p36 : lw_okq (⟨"CardNobodyReadsModel", "eRead", "()Z"⟩, 47) := ⟨⟨by decide +kernel, by decide +kernel⟩, List.mem_of_getElem? (i := 1001) (by decide +kernel), List.mem_of_getElem? (i := 1022) (by decide +kernel), List.mem_of_getElem? (i := 1023) (by decide +kernel)⟩
theorem lw_p37 : lw_okq (⟨"CardNobodyReadsModel", "puts", "(I)V"⟩, 47) := ⟨⟨by decide +kernel, by decide +kernel⟩, List.mem_of_getElem? (i := 1001) (by decide +kernel), List.mem_of_getElem? (i := 1027) (by decide +kernel), List.mem_of_getElem? (i := 1028) (by decide +kernel)⟩
theorem lw_p38 : lw_okq (⟨"CardNobodyReadsModel", "unwinds", "(I)V"⟩, 47) := ⟨⟨by decide +kernel, by decide +kernel⟩, List.mem_of_getElem? (i := 1001) (by decide +kernel), List.mem_of_getElem? (i := 1031) (by decide +kernel), List.mem_of_getElem? (i := 1032) (by decide +kernel)⟩
theorem lw_p39 : lw_okq (⟨"CardNobodyReadsModel", "opensOne", "(I)Z"⟩, 47) := ⟨⟨by decide +kernel, by decide +kernel⟩, List.mem_of_getElem? (i := 1001) (by decide +kernel), List.mem_of_getElem? (i := 1038) (by decide +kernel), List.mem_of_getElem? (i := 1039) (by decide +kernel)⟩
theorem lw_p40 : lw_okq (⟨"CardNobodyReadsModel", "holds", "(I)V"⟩, 47) := ⟨⟨by decide +kernel, by decide +kernel⟩, List.mem_of_getElem? (i := 1001) (by decide +kernel), List.mem_of_getElem? (i := 1042) (by decide +kernel), List.mem_of_getElem? (i := 1043) (by decide +kernel)⟩
theorem lw_p41 : lw_okq (⟨"CardNobodyReadsModel", "signOf", "()I"⟩, 47) := ⟨⟨by decide +kernel, by decide +kernel⟩, List.mem_of_getElem? (i := 1001) (by decide +kernel), List.mem_of_getElem? (i := 1046) (by decide +kernel), List.mem_of_getElem? (i := 1047) (by decide +kernel)⟩
theorem lw_p42 : lw_okq (⟨"CardNobodyReadsModel", "between", "(I)Z"⟩, 47) := ⟨⟨by decide +kernel, by decide +kernel⟩, List.mem_of_getElem? (i := 1001) (by decide +kernel), List.mem_of_getElem? (i := 1050) (by decide +kernel), List.mem_of_getElem? (i := 1051) (by decide +kernel)⟩
theorem lw_p43 : lw_okq (⟨"CardNobodyReadsModel", "isTongue", "(II)Z"⟩, 47) := ⟨⟨by decide +kernel, by decide +kernel⟩, List.mem_of_getElem? (i := 1001) (by decide +kernel), List.mem_of_getElem? (i := 1055) (by decide +kernel), List.mem_of_getElem? (i := 1056) (by decide +kernel)⟩
theorem lw_p44 : lw_okq (⟨"CardNobodyReadsModel", "isLine", "(I)Z"⟩, 47) := ⟨⟨by decide +kernel, by decide +kernel⟩, List.mem_of_getElem? (i := 1001) (by decide +kernel), List.mem_of_getElem? (i := 1212) (by decide +kernel), List.mem_of_getElem? (i := 1213) (by decide +kernel)⟩
theorem lw_p45 : lw_okq (⟨"CardNobodyReadsModel", "isGuest", "(I)Z"⟩, 47) := ⟨⟨by decide +kernel, by decide +kernel⟩, List.mem_of_getElem? (i := 1001) (by decide +kernel), List.mem_of_getElem? (i := 1228) (by decide +kernel), List.mem_of_getElem? (i := 1229) (by decide +kernel)⟩
theorem lw_p46 : lw_okq (⟨"CardNobodyReadsModel", "asksOf", "(IIIII)I"⟩, 47) := ⟨⟨by decide +kernel, by decide +kernel⟩, List.mem_of_getElem? (i := 1001) (by decide +kernel), List.mem_of_getElem? (i := 1256) (by decide +kernel), List.mem_of_getElem? (i := 1257) (by decide +kernel)⟩
theorem lw_p47 : lw_okq (⟨"CardNobodyReadsModel", "worth", "(I)I"⟩, 47) := ⟨⟨by decide +kernel, by decide +kernel⟩, List.mem_of_getElem? (i := 1001) (by decide +kernel), List.mem_of_getElem? (i := 1260) (by decide +kernel), List.mem_of_getElem? (i := 1261) (by decide +kernel)⟩
def lw_privs_3 : List (MethodName × Nat) := [(⟨"CardNobodyReads", "teaching", "(LCardNobodyReads$Fits;I)I"⟩, 13), (⟨"CardNobodyReads", "isMeal", "(II)Z"⟩, 13), (⟨"CardNobodyReadsModel", "next", "()V"⟩, 47), (⟨"CardNobodyReadsModel", "wordFrom", "(II)I"⟩, 47), (⟨"CardNobodyReadsModel", "eRead", "()Z"⟩, 47), (⟨"CardNobodyReadsModel", "puts", "(I)V"⟩, 47), (⟨"CardNobodyReadsModel", "unwinds", "(I)V"⟩, 47), (⟨"CardNobodyReadsModel", "opensOne", "(I)Z"⟩, 47), (⟨"CardNobodyReadsModel", "holds", "(I)V"⟩, 47), (⟨"CardNobodyReadsModel", "signOf", "()I"⟩, 47), (⟨"CardNobodyReadsModel", "between", "(I)Z"⟩, 47), (⟨"CardNobodyReadsModel", "isTongue", "(II)Z"⟩, 47), (⟨"CardNobodyReadsModel", "isLine", "(I)Z"⟩, 47), (⟨"CardNobodyReadsModel", "isGuest", "(I)Z"⟩, 47), (⟨"CardNobodyReadsModel", "asksOf", "(IIIII)I"⟩, 47), (⟨"CardNobodyReadsModel", "worth", "(I)I"⟩, 47)]
theorem lw_r3 : ∀ q ∈ lw_privs_3, lw_okq q := List.forall_mem_cons.mpr ⟨lw_p32, List.forall_mem_cons.mpr ⟨lw_p33, List.forall_mem_cons.mpr ⟨lw_p34, List.forall_mem_cons.mpr ⟨lw_p35, List.forall_mem_cons.mpr ⟨lw_p36, List.forall_mem_cons.mpr ⟨lw_p37, List.forall_mem_cons.mpr ⟨lw_p38, List.forall_mem_cons.mpr ⟨lw_p39, List.forall_mem_cons.mpr ⟨lw_p40, List.forall_mem_cons.mpr ⟨lw_p41, List.forall_mem_cons.mpr ⟨lw_p42, List.forall_mem_cons.mpr ⟨lw_p43, List.forall_mem_cons.mpr ⟨lw_p44, List.forall_mem_cons.mpr ⟨lw_p45, List.forall_mem_cons.mpr ⟨lw_p46, List.forall_mem_cons.mpr ⟨lw_p47, fun _ h => absurd h List.not_mem_nil⟩⟩⟩⟩⟩⟩⟩⟩⟩⟩⟩⟩⟩⟩⟩⟩
theorem lw_p48 : lw_okq (⟨"CardNobodyReadsModel", "isFact", "(IIII)Z"⟩, 47) := ⟨⟨by decide +kernel, by decide +kernel⟩, List.mem_of_getElem? (i := 1001) (by decide +kernel), List.mem_of_getElem? (i := 1274) (by decide +kernel), List.mem_of_getElem? (i := 1275) (by decide +kernel)⟩
theorem lw_p49 : lw_okq (⟨"CardNobodyReadsModel", "lays", "(IIII)V"⟩, 47) := ⟨⟨by decide +kernel, by decide +kernel⟩, List.mem_of_getElem? (i := 1001) (by decide +kernel), List.mem_of_getElem? (i := 1278) (by decide +kernel), List.mem_of_getElem? (i := 1279) (by decide +kernel)⟩
theorem lw_p50 : lw_okq (⟨"CardNobodyReadsModel", "finds", "()V"⟩, 47) := ⟨⟨by decide +kernel, by decide +kernel⟩, List.mem_of_getElem? (i := 1001) (by decide +kernel), List.mem_of_getElem? (i := 1294) (by decide +kernel), List.mem_of_getElem? (i := 1295) (by decide +kernel)⟩
theorem lw_p51 : lw_okq (⟨"CardNobodyReadsModel", "mays", "()V"⟩, 47) := ⟨⟨by decide +kernel, by decide +kernel⟩, List.mem_of_getElem? (i := 1001) (by decide +kernel), List.mem_of_getElem? (i := 1298) (by decide +kernel), List.mem_of_getElem? (i := 1299) (by decide +kernel)⟩
theorem lw_p52 : lw_okq (⟨"CardNobodyReadsModel", "mayBe", "(I)Z"⟩, 47) := ⟨⟨by decide +kernel, by decide +kernel⟩, List.mem_of_getElem? (i := 1001) (by decide +kernel), List.mem_of_getElem? (i := 1302) (by decide +kernel), List.mem_of_getElem? (i := 1303) (by decide +kernel)⟩
theorem lw_p53 : lw_okq (⟨"CardNobodyReadsModel", "hasIn", "(II)I"⟩, 47) := ⟨⟨by decide +kernel, by decide +kernel⟩, List.mem_of_getElem? (i := 1001) (by decide +kernel), List.mem_of_getElem? (i := 1306) (by decide +kernel), List.mem_of_getElem? (i := 1307) (by decide +kernel)⟩
theorem lw_p54 : lw_okq (⟨"CardNobodyReadsModel", "holds", "(II)Z"⟩, 47) := ⟨⟨by decide +kernel, by decide +kernel⟩, List.mem_of_getElem? (i := 1001) (by decide +kernel), List.mem_of_getElem? (i := 1310) (by decide +kernel), List.mem_of_getElem? (i := 1311) (by decide +kernel)⟩
theorem lw_p55 : lw_okq (⟨"CardNobodyReadsModel", "partIn", "(II)I"⟩, 47) := ⟨⟨by decide +kernel, by decide +kernel⟩, List.mem_of_getElem? (i := 1001) (by decide +kernel), List.mem_of_getElem? (i := 1321) (by decide +kernel), List.mem_of_getElem? (i := 1322) (by decide +kernel)⟩
theorem lw_p56 : lw_okq (⟨"CardNobodyReadsModel", "meansIn", "(II)I"⟩, 47) := ⟨⟨by decide +kernel, by decide +kernel⟩, List.mem_of_getElem? (i := 1001) (by decide +kernel), List.mem_of_getElem? (i := 1329) (by decide +kernel), List.mem_of_getElem? (i := 1330) (by decide +kernel)⟩
theorem lw_p57 : lw_okq (⟨"CardNobodyReadsModel", "unlikeOf", "(I)I"⟩, 47) := ⟨⟨by decide +kernel, by decide +kernel⟩, List.mem_of_getElem? (i := 1001) (by decide +kernel), List.mem_of_getElem? (i := 1337) (by decide +kernel), List.mem_of_getElem? (i := 1338) (by decide +kernel)⟩
theorem lw_p58 : lw_okq (⟨"CardNobodyReadsModel", "ofAll", "(II)J"⟩, 47) := ⟨⟨by decide +kernel, by decide +kernel⟩, List.mem_of_getElem? (i := 1001) (by decide +kernel), List.mem_of_getElem? (i := 1350) (by decide +kernel), List.mem_of_getElem? (i := 1351) (by decide +kernel)⟩
theorem lw_p59 : lw_okq (⟨"CardNobodyReadsModel", "safeFor", "(I)I"⟩, 47) := ⟨⟨by decide +kernel, by decide +kernel⟩, List.mem_of_getElem? (i := 1001) (by decide +kernel), List.mem_of_getElem? (i := 1369) (by decide +kernel), List.mem_of_getElem? (i := 1370) (by decide +kernel)⟩
theorem lw_p60 : lw_okq (⟨"CardNobodyReadsModel", "shunnedIn", "(II)I"⟩, 47) := ⟨⟨by decide +kernel, by decide +kernel⟩, List.mem_of_getElem? (i := 1001) (by decide +kernel), List.mem_of_getElem? (i := 1373) (by decide +kernel), List.mem_of_getElem? (i := 1374) (by decide +kernel)⟩
theorem lw_p61 : lw_okq (⟨"CardNobodyReadsModel", "tonight", "()V"⟩, 47) := ⟨⟨by decide +kernel, by decide +kernel⟩, List.mem_of_getElem? (i := 1001) (by decide +kernel), List.mem_of_getElem? (i := 1385) (by decide +kernel), List.mem_of_getElem? (i := 1386) (by decide +kernel)⟩
theorem lw_p62 : lw_okq (⟨"CardNobodyReadsModel", "likes", "()V"⟩, 47) := ⟨⟨by decide +kernel, by decide +kernel⟩, List.mem_of_getElem? (i := 1001) (by decide +kernel), List.mem_of_getElem? (i := 1389) (by decide +kernel), List.mem_of_getElem? (i := 1390) (by decide +kernel)⟩
theorem lw_p63 : lw_okq (⟨"CardNobodyReadsModel", "liking", "(II)I"⟩, 47) := ⟨⟨by decide +kernel, by decide +kernel⟩, List.mem_of_getElem? (i := 1001) (by decide +kernel), List.mem_of_getElem? (i := 1393) (by decide +kernel), List.mem_of_getElem? (i := 1394) (by decide +kernel)⟩
def lw_privs_4 : List (MethodName × Nat) := [(⟨"CardNobodyReadsModel", "isFact", "(IIII)Z"⟩, 47), (⟨"CardNobodyReadsModel", "lays", "(IIII)V"⟩, 47), (⟨"CardNobodyReadsModel", "finds", "()V"⟩, 47), (⟨"CardNobodyReadsModel", "mays", "()V"⟩, 47), (⟨"CardNobodyReadsModel", "mayBe", "(I)Z"⟩, 47), (⟨"CardNobodyReadsModel", "hasIn", "(II)I"⟩, 47), (⟨"CardNobodyReadsModel", "holds", "(II)Z"⟩, 47), (⟨"CardNobodyReadsModel", "partIn", "(II)I"⟩, 47), (⟨"CardNobodyReadsModel", "meansIn", "(II)I"⟩, 47), (⟨"CardNobodyReadsModel", "unlikeOf", "(I)I"⟩, 47), (⟨"CardNobodyReadsModel", "ofAll", "(II)J"⟩, 47), (⟨"CardNobodyReadsModel", "safeFor", "(I)I"⟩, 47), (⟨"CardNobodyReadsModel", "shunnedIn", "(II)I"⟩, 47), (⟨"CardNobodyReadsModel", "tonight", "()V"⟩, 47), (⟨"CardNobodyReadsModel", "likes", "()V"⟩, 47), (⟨"CardNobodyReadsModel", "liking", "(II)I"⟩, 47)]
theorem lw_r4 : ∀ q ∈ lw_privs_4, lw_okq q := List.forall_mem_cons.mpr ⟨lw_p48, List.forall_mem_cons.mpr ⟨lw_p49, List.forall_mem_cons.mpr ⟨lw_p50, List.forall_mem_cons.mpr ⟨lw_p51, List.forall_mem_cons.mpr ⟨lw_p52, List.forall_mem_cons.mpr ⟨lw_p53, List.forall_mem_cons.mpr ⟨lw_p54, List.forall_mem_cons.mpr ⟨lw_p55, List.forall_mem_cons.mpr ⟨lw_p56, List.forall_mem_cons.mpr ⟨lw_p57, List.forall_mem_cons.mpr ⟨lw_p58, List.forall_mem_cons.mpr ⟨lw_p59, List.forall_mem_cons.mpr ⟨lw_p60, List.forall_mem_cons.mpr ⟨lw_p61, List.forall_mem_cons.mpr ⟨lw_p62, List.forall_mem_cons.mpr ⟨lw_p63, fun _ h => absurd h List.not_mem_nil⟩⟩⟩⟩⟩⟩⟩⟩⟩⟩⟩⟩⟩⟩⟩⟩
theorem lw_p64 : lw_okq (⟨"CardNobodyReadsModel", "orders", "(III)V"⟩, 47) := ⟨⟨by decide +kernel, by decide +kernel⟩, List.mem_of_getElem? (i := 1001) (by decide +kernel), List.mem_of_getElem? (i := 1397) (by decide +kernel), List.mem_of_getElem? (i := 1398) (by decide +kernel)⟩
theorem lw_p65 : lw_okq (⟨"CardNobodyReadsModel", "teaching", "(I)I"⟩, 47) := ⟨⟨by decide +kernel, by decide +kernel⟩, List.mem_of_getElem? (i := 1001) (by decide +kernel), List.mem_of_getElem? (i := 1413) (by decide +kernel), List.mem_of_getElem? (i := 1414) (by decide +kernel)⟩
theorem lw_p66 : lw_okq (⟨"CardNobodyReadsModel", "counts", "(II)V"⟩, 47) := ⟨⟨by decide +kernel, by decide +kernel⟩, List.mem_of_getElem? (i := 1001) (by decide +kernel), List.mem_of_getElem? (i := 1417) (by decide +kernel), List.mem_of_getElem? (i := 1418) (by decide +kernel)⟩
theorem lw_p67 : lw_okq (⟨"CardNobodyReadsModel", "fitWithout", "(I)I"⟩, 47) := ⟨⟨by decide +kernel, by decide +kernel⟩, List.mem_of_getElem? (i := 1001) (by decide +kernel), List.mem_of_getElem? (i := 1437) (by decide +kernel), List.mem_of_getElem? (i := 1438) (by decide +kernel)⟩
theorem lw_p68 : lw_okq (⟨"CardNobodyReadsModel", "drawnOf", "(I)I"⟩, 47) := ⟨⟨by decide +kernel, by decide +kernel⟩, List.mem_of_getElem? (i := 1001) (by decide +kernel), List.mem_of_getElem? (i := 1466) (by decide +kernel), List.mem_of_getElem? (i := 1467) (by decide +kernel)⟩
def lw_privs_5 : List (MethodName × Nat) := [(⟨"CardNobodyReadsModel", "orders", "(III)V"⟩, 47), (⟨"CardNobodyReadsModel", "teaching", "(I)I"⟩, 47), (⟨"CardNobodyReadsModel", "counts", "(II)V"⟩, 47), (⟨"CardNobodyReadsModel", "fitWithout", "(I)I"⟩, 47), (⟨"CardNobodyReadsModel", "drawnOf", "(I)I"⟩, 47)]
theorem lw_r5 : ∀ q ∈ lw_privs_5, lw_okq q := List.forall_mem_cons.mpr ⟨lw_p64, List.forall_mem_cons.mpr ⟨lw_p65, List.forall_mem_cons.mpr ⟨lw_p66, List.forall_mem_cons.mpr ⟨lw_p67, List.forall_mem_cons.mpr ⟨lw_p68, fun _ h => absurd h List.not_mem_nil⟩⟩⟩⟩⟩
def lw_privs : List (MethodName × Nat) := lw_privs_1 ++ (lw_privs_2 ++ (lw_privs_3 ++ (lw_privs_4 ++ (lw_privs_5))))
def lw_tbl : List Cond := k2_sels lw_privs ++ tables_1
theorem lw_privs_ok : ∀ q ∈ lw_privs, lw_okq q := by
  show ∀ q ∈ lw_privs_1 ++ (lw_privs_2 ++ (lw_privs_3 ++ (lw_privs_4 ++ (lw_privs_5)))), lw_okq q
  exact List.forall_mem_append.mpr ⟨lw_r1, List.forall_mem_append.mpr ⟨lw_r2, List.forall_mem_append.mpr ⟨lw_r3, List.forall_mem_append.mpr ⟨lw_r4, lw_r5⟩⟩⟩⟩
end
section
def RX0 : String := "CardNobodyReads$Facts"
def TX0 : u_T := fun k => match k with
  | 0 => ("CardNobodyReads$Facts", "kinds", "[I", true)
  | 1 => ("CardNobodyReads$Facts", "lines", "[I", true)
  | 2 => ("CardNobodyReads$Facts", "parts", "[I", true)
  | 3 => ("CardNobodyReads$Facts", "mores", "[I", true)
  | _ => ("CardNobodyReads$Facts", "number", "I", false)
def tyX0 : Nat → FieldType := fun k => match k with
  | 0 => .array .int
  | 1 => .array .int
  | 2 => .array .int
  | 3 => .array .int
  | _ => .int
abbrev wsX00 : List Cond := u_ws RX0 TX0 5
theorem nmX0 : ∀ a, a < 5 → ∀ b, b < 5 → a ≠ b → (TX0 a).2.1 ≠ (TX0 b).2.1 := by decide +kernel
theorem tyX0_ok : ∀ k, k < 5 → parseFieldDescriptor (TX0 k).2.2.1 = some (tyX0 k) := by decide +kernel
abbrev cX0_init : ByteArray := prog_2_method_1_code
def yX0_init : MethodName := ⟨RX0, "<init>", "()V"⟩
abbrev cX0_add : ByteArray := prog_2_method_2_code
def yX0_add : MethodName := ⟨RX0, "add", "(IIII)I"⟩
abbrev cX0_holds : ByteArray := prog_2_method_3_code
def yX0_holds : MethodName := ⟨RX0, "holds", "(IIIII)Z"⟩
abbrev cX0_brokenIn : ByteArray := prog_2_method_4_code
def yX0_brokenIn : MethodName := ⟨RX0, "brokenIn", "(LCardNobodyReads$Lines;I)I"⟩
abbrev cX0_isOne : ByteArray := prog_2_method_5_code
def yX0_isOne : MethodName := ⟨RX0, "isOne", "(II)Z"⟩
def RX1 : String := "CardNobodyReads$Fits"
def TX1 : u_T := fun k => match k with
  | 0 => ("CardNobodyReads$Fits", "fitting", "[I", true)
  | 1 => ("CardNobodyReads$Fits", "meanings", "[I", true)
  | 2 => ("CardNobodyReads$Fits", "havings", "[I", true)
  | 3 => ("CardNobodyReads$Fits", "mays", "[I", true)
  | 4 => ("CardNobodyReads$Fits", "pairs", "[I", true)
  | 5 => ("CardNobodyReads$Fits", "number", "I", false)
  | _ => ("CardNobodyReads$Fits", "lone", "I", false)
def tyX1 : Nat → FieldType := fun k => match k with
  | 0 => .array .int
  | 1 => .array .int
  | 2 => .array .int
  | 3 => .array .int
  | 4 => .array .int
  | 5 => .int
  | _ => .int
abbrev wsX10 : List Cond := u_ws RX1 TX1 7
theorem nmX1 : ∀ a, a < 7 → ∀ b, b < 7 → a ≠ b → (TX1 a).2.1 ≠ (TX1 b).2.1 := by decide +kernel
theorem tyX1_ok : ∀ k, k < 7 → parseFieldDescriptor (TX1 k).2.2.1 = some (tyX1 k) := by decide +kernel
abbrev cX1_init : ByteArray := prog_3_method_1_code
def yX1_init : MethodName := ⟨RX1, "<init>", "()V"⟩
abbrev cX1_find : ByteArray := prog_3_method_2_code
def yX1_find : MethodName := ⟨RX1, "find", "(LCardNobodyReads$Tongues;LCardNobodyReads$Lines;LCardNobodyReads$Facts;LCardNobodyReads$Texts;I)V"⟩
abbrev cX1_anyBy : ByteArray := prog_3_method_3_code
def yX1_anyBy : MethodName := ⟨RX1, "anyBy", "(LCardNobodyReads$Lines;LCardNobodyReads$Facts;LCardNobodyReads$Texts;I)Z"⟩
abbrev cX1_clear : ByteArray := prog_3_method_4_code
def yX1_clear : MethodName := ⟨RX1, "clear", "([I)V"⟩
abbrev cX1_allow : ByteArray := prog_3_method_5_code
def yX1_allow : MethodName := ⟨RX1, "allow", "(LCardNobodyReads$Lines;LCardNobodyReads$Texts;I)V"⟩
abbrev cX1_isLawful : ByteArray := prog_3_method_6_code
def yX1_isLawful : MethodName := ⟨RX1, "isLawful", "(LCardNobodyReads$Lines;I)Z"⟩
abbrev cX1_take : ByteArray := prog_3_method_7_code
def yX1_take : MethodName := ⟨RX1, "take", "(LCardNobodyReads$Tongues;LCardNobodyReads$Lines;I)V"⟩
abbrev cX1_tongueOf : ByteArray := prog_3_method_8_code
def yX1_tongueOf : MethodName := ⟨RX1, "tongueOf", "(I)I"⟩
abbrev cX1_meaning : ByteArray := prog_3_method_9_code
def yX1_meaning : MethodName := ⟨RX1, "meaning", "(II)I"⟩
abbrev cX1_meaningsOf : ByteArray := prog_3_method_10_code
def yX1_meaningsOf : MethodName := ⟨RX1, "meaningsOf", "(I)I"⟩
abbrev cX1_having : ByteArray := prog_3_method_11_code
def yX1_having : MethodName := ⟨RX1, "having", "(II)I"⟩
abbrev cX1_withAll : ByteArray := prog_3_method_12_code
def yX1_withAll : MethodName := ⟨RX1, "withAll", "(II)I"⟩
abbrev cX1_withAny : ByteArray := prog_3_method_13_code
def yX1_withAny : MethodName := ⟨RX1, "withAny", "(II)I"⟩
abbrev cX1_partsInAll : ByteArray := prog_3_method_14_code
def yX1_partsInAll : MethodName := ⟨RX1, "partsInAll", "(I)I"⟩
abbrev cX1_partsInAny : ByteArray := prog_3_method_15_code
def yX1_partsInAny : MethodName := ⟨RX1, "partsInAny", "(I)I"⟩
abbrev cX1_squares : ByteArray := prog_3_method_16_code
def yX1_squares : MethodName := ⟨RX1, "squares", "(LCardNobodyReads$Lines;II)I"⟩
abbrev cX1_drawnBy : ByteArray := prog_3_method_17_code
def yX1_drawnBy : MethodName := ⟨RX1, "drawnBy", "(I)I"⟩
def RX2 : String := "CardNobodyReads$Image"
def TX2 : u_T := fun k => match k with
  | 0 => ("CardNobodyReads$Image", "prices", "[I", true)
  | 1 => ("CardNobodyReads$Image", "there", "Z", false)
  | 2 => ("CardNobodyReads$Image", "lines", "I", false)
  | 3 => ("CardNobodyReads$Image", "guests", "I", false)
  | 4 => ("CardNobodyReads$Image", "facts", "I", false)
  | 5 => ("CardNobodyReads$Image", "coin", "I", false)
  | _ => ("CardNobodyReads$Image", "law", "I", false)
def tyX2 : Nat → FieldType := fun k => match k with
  | 0 => .array .int
  | 1 => .boolean
  | 2 => .int
  | 3 => .int
  | 4 => .int
  | 5 => .int
  | _ => .int
abbrev wsX20 : List Cond := u_ws RX2 TX2 7
theorem nmX2 : ∀ a, a < 7 → ∀ b, b < 7 → a ≠ b → (TX2 a).2.1 ≠ (TX2 b).2.1 := by decide +kernel
theorem tyX2_ok : ∀ k, k < 7 → parseFieldDescriptor (TX2 k).2.2.1 = some (tyX2 k) := by decide +kernel
abbrev cX2_init : ByteArray := prog_4_method_1_code
def yX2_init : MethodName := ⟨RX2, "<init>", "()V"⟩
def RX3 : String := "CardNobodyReads$Lines"
def TX3 : u_T := fun k => match k with
  | 0 => ("CardNobodyReads$Lines", "signs", "[I", true)
  | 1 => ("CardNobodyReads$Lines", "prices", "[I", true)
  | 2 => ("CardNobodyReads$Lines", "hads", "[I", true)
  | _ => ("CardNobodyReads$Lines", "number", "I", false)
def tyX3 : Nat → FieldType := fun k => match k with
  | 0 => .array .int
  | 1 => .array .int
  | 2 => .array .int
  | _ => .int
abbrev wsX30 : List Cond := u_ws RX3 TX3 4
theorem nmX3 : ∀ a, a < 4 → ∀ b, b < 4 → a ≠ b → (TX3 a).2.1 ≠ (TX3 b).2.1 := by decide +kernel
theorem tyX3_ok : ∀ k, k < 4 → parseFieldDescriptor (TX3 k).2.2.1 = some (tyX3 k) := by decide +kernel
abbrev cX3_init : ByteArray := prog_5_method_1_code
def yX3_init : MethodName := ⟨RX3, "<init>", "()V"⟩
abbrev cX3_mayStand : ByteArray := prog_5_method_2_code
def yX3_mayStand : MethodName := ⟨RX3, "mayStand", "(II)Z"⟩
abbrev cX3_add : ByteArray := prog_5_method_3_code
def yX3_add : MethodName := ⟨RX3, "add", "(LCardNobodyReads$Tongues;II)I"⟩
abbrev cX3_signsOf : ByteArray := prog_5_method_4_code
def yX3_signsOf : MethodName := ⟨RX3, "signsOf", "(I)I"⟩
abbrev cX3_priceOf : ByteArray := prog_5_method_5_code
def yX3_priceOf : MethodName := ⟨RX3, "priceOf", "(I)I"⟩
abbrev cX3_had : ByteArray := prog_5_method_6_code
def yX3_had : MethodName := ⟨RX3, "had", "(II)I"⟩
abbrev cX3_everyLine : ByteArray := prog_5_method_7_code
def yX3_everyLine : MethodName := ⟨RX3, "everyLine", "()I"⟩
abbrev cX3_pricesOf : ByteArray := prog_5_method_8_code
def yX3_pricesOf : MethodName := ⟨RX3, "pricesOf", "(I)I"⟩
def RX4 : String := "CardNobodyReads$Sheets"
def TX4 : u_T := fun k => match k with
  | 0 => ("CardNobodyReads$Sheets", "sorts", "[I", true)
  | 1 => ("CardNobodyReads$Sheets", "sizes", "[I", true)
  | _ => ("CardNobodyReads$Sheets", "cells", "[I", true)
def tyX4 : Nat → FieldType := fun k => match k with
  | 0 => .array .int
  | 1 => .array .int
  | _ => .array .int
abbrev wsX40 : List Cond := u_ws RX4 TX4 3
theorem nmX4 : ∀ a, a < 3 → ∀ b, b < 3 → a ≠ b → (TX4 a).2.1 ≠ (TX4 b).2.1 := by decide +kernel
theorem tyX4_ok : ∀ k, k < 3 → parseFieldDescriptor (TX4 k).2.2.1 = some (tyX4 k) := by decide +kernel
abbrev cX4_init : ByteArray := prog_6_method_1_code
def yX4_init : MethodName := ⟨RX4, "<init>", "()V"⟩
abbrev cX4_isMissing : ByteArray := prog_6_method_2_code
def yX4_isMissing : MethodName := ⟨RX4, "isMissing", "(I)Z"⟩
abbrev cX4_sortOf : ByteArray := prog_6_method_3_code
def yX4_sortOf : MethodName := ⟨RX4, "sortOf", "(I)I"⟩
abbrev cX4_sizeOf : ByteArray := prog_6_method_4_code
def yX4_sizeOf : MethodName := ⟨RX4, "sizeOf", "(I)I"⟩
abbrev cX4_become : ByteArray := prog_6_method_5_code
def yX4_become : MethodName := ⟨RX4, "become", "(III)V"⟩
abbrev cX4_read : ByteArray := prog_6_method_6_code
def yX4_read : MethodName := ⟨RX4, "read", "(II)I"⟩
abbrev cX4_write : ByteArray := prog_6_method_7_code
def yX4_write : MethodName := ⟨RX4, "write", "(III)V"⟩
abbrev cX4_move : ByteArray := prog_6_method_8_code
def yX4_move : MethodName := ⟨RX4, "move", "(IIIII)V"⟩
def RX5 : String := "CardNobodyReads$Tape"
def TX5 : u_T := fun k => match k with
  | 0 => ("CardNobodyReads$Tape", "bytes", "[I", true)
  | 1 => ("CardNobodyReads$Tape", "tokens", "[I", true)
  | 2 => ("CardNobodyReads$Tape", "places", "[I", true)
  | _ => ("CardNobodyReads$Tape", "size", "I", false)
def tyX5 : Nat → FieldType := fun k => match k with
  | 0 => .array .int
  | 1 => .array .int
  | 2 => .array .int
  | _ => .int
abbrev wsX50 : List Cond := u_ws RX5 TX5 4
theorem nmX5 : ∀ a, a < 4 → ∀ b, b < 4 → a ≠ b → (TX5 a).2.1 ≠ (TX5 b).2.1 := by decide +kernel
theorem tyX5_ok : ∀ k, k < 4 → parseFieldDescriptor (TX5 k).2.2.1 = some (tyX5 k) := by decide +kernel
abbrev cX5_init : ByteArray := prog_7_method_1_code
def yX5_init : MethodName := ⟨RX5, "<init>", "()V"⟩
abbrev cX5_add : ByteArray := prog_7_method_2_code
def yX5_add : MethodName := ⟨RX5, "add", "(I)V"⟩
abbrev cX5_empty : ByteArray := prog_7_method_3_code
def yX5_empty : MethodName := ⟨RX5, "empty", "()V"⟩
abbrev cX5_cut : ByteArray := prog_7_method_4_code
def yX5_cut : MethodName := ⟨RX5, "cut", "()V"⟩
abbrev cX5_isBlank : ByteArray := prog_7_method_5_code
def yX5_isBlank : MethodName := ⟨RX5, "isBlank", "(I)Z"⟩
abbrev cX5_isLetter : ByteArray := prog_7_method_6_code
def yX5_isLetter : MethodName := ⟨RX5, "isLetter", "(I)Z"⟩
abbrev cX5_isDigit : ByteArray := prog_7_method_7_code
def yX5_isDigit : MethodName := ⟨RX5, "isDigit", "(I)Z"⟩
abbrev cX5_endOf : ByteArray := prog_7_method_8_code
def yX5_endOf : MethodName := ⟨RX5, "endOf", "(I)I"⟩
abbrev cX5_tokenOf : ByteArray := prog_7_method_9_code
def yX5_tokenOf : MethodName := ⟨RX5, "tokenOf", "(II)I"⟩
abbrev cX5_value : ByteArray := prog_7_method_10_code
def yX5_value : MethodName := ⟨RX5, "value", "(II)I"⟩
abbrev cX5_word : ByteArray := prog_7_method_11_code
def yX5_word : MethodName := ⟨RX5, "word", "(II)I"⟩
abbrev cX5_spells : ByteArray := prog_7_method_12_code
def yX5_spells : MethodName := ⟨RX5, "spells", "(Ljava/lang/String;II)Z"⟩
def RX6 : String := "CardNobodyReads$Texts"
def TX6 : u_T := fun k => match k with
  | 0 => ("CardNobodyReads$Texts", "tape", "LCardNobodyReads$Tape;", true)
  | 1 => ("CardNobodyReads$Texts", "steps", "[I", true)
  | 2 => ("CardNobodyReads$Texts", "ends", "[I", true)
  | 3 => ("CardNobodyReads$Texts", "stack", "[I", true)
  | 4 => ("CardNobodyReads$Texts", "names", "[I", true)
  | 5 => ("CardNobodyReads$Texts", "number", "I", false)
  | 6 => ("CardNobodyReads$Texts", "length", "I", false)
  | _ => ("CardNobodyReads$Texts", "next", "I", false)
def tyX6 : Nat → FieldType := fun k => match k with
  | 0 => .object "CardNobodyReads$Tape"
  | 1 => .array .int
  | 2 => .array .int
  | 3 => .array .int
  | 4 => .array .int
  | 5 => .int
  | 6 => .int
  | _ => .int
abbrev wsX60 : List Cond := u_ws RX6 TX6 8
theorem nmX6 : ∀ a, a < 8 → ∀ b, b < 8 → a ≠ b → (TX6 a).2.1 ≠ (TX6 b).2.1 := by decide +kernel
theorem tyX6_ok : ∀ k, k < 8 → parseFieldDescriptor (TX6 k).2.2.1 = some (tyX6 k) := by decide +kernel
abbrev cX6_init : ByteArray := prog_8_method_1_code
def yX6_init : MethodName := ⟨RX6, "<init>", "()V"⟩
abbrev cX6_read : ByteArray := prog_8_method_2_code
def yX6_read : MethodName := ⟨RX6, "read", "()I"⟩
abbrev cX6_readPart : ByteArray := prog_8_method_3_code
def yX6_readPart : MethodName := ⟨RX6, "readPart", "(II)Z"⟩
abbrev cX6_token : ByteArray := prog_8_method_4_code
def yX6_token : MethodName := ⟨RX6, "token", "()I"⟩
abbrev cX6_pass : ByteArray := prog_8_method_5_code
def yX6_pass : MethodName := ⟨RX6, "pass", "(I)Z"⟩
abbrev cX6_write : ByteArray := prog_8_method_6_code
def yX6_write : MethodName := ⟨RX6, "write", "(I)V"⟩
abbrev cX6_readEither : ByteArray := prog_8_method_7_code
def yX6_readEither : MethodName := ⟨RX6, "readEither", "(I)Z"⟩
abbrev cX6_readBoth : ByteArray := prog_8_method_8_code
def yX6_readBoth : MethodName := ⟨RX6, "readBoth", "(I)Z"⟩
abbrev cX6_readNot : ByteArray := prog_8_method_9_code
def yX6_readNot : MethodName := ⟨RX6, "readNot", "(I)Z"⟩
abbrev cX6_readCompared : ByteArray := prog_8_method_10_code
def yX6_readCompared : MethodName := ⟨RX6, "readCompared", "(I)Z"⟩
abbrev cX6_readSum : ByteArray := prog_8_method_11_code
def yX6_readSum : MethodName := ⟨RX6, "readSum", "(I)Z"⟩
abbrev cX6_readTerm : ByteArray := prog_8_method_12_code
def yX6_readTerm : MethodName := ⟨RX6, "readTerm", "(I)Z"⟩
abbrev cX6_readOne : ByteArray := prog_8_method_13_code
def yX6_readOne : MethodName := ⟨RX6, "readOne", "(I)Z"⟩
abbrev cX6_says : ByteArray := prog_8_method_14_code
def yX6_says : MethodName := ⟨RX6, "says", "(IIIIIII)I"⟩
abbrev cX6_valueOf : ByteArray := prog_8_method_15_code
def yX6_valueOf : MethodName := ⟨RX6, "valueOf", "(II)I"⟩
abbrev cX6_joined : ByteArray := prog_8_method_16_code
def yX6_joined : MethodName := ⟨RX6, "joined", "(III)I"⟩
def RX7 : String := "CardNobodyReads$Tongues"
def TX7 : u_T := fun k => match k with
  | _ => ("CardNobodyReads$Tongues", "parts", "[I", true)
def tyX7 : Nat → FieldType := fun k => match k with
  | _ => .array .int
abbrev wsX70 : List Cond := u_ws RX7 TX7 1
theorem nmX7 : ∀ a, a < 1 → ∀ b, b < 1 → a ≠ b → (TX7 a).2.1 ≠ (TX7 b).2.1 := by decide +kernel
theorem tyX7_ok : ∀ k, k < 1 → parseFieldDescriptor (TX7 k).2.2.1 = some (tyX7 k) := by decide +kernel
abbrev cX7_init : ByteArray := prog_9_method_1_code
def yX7_init : MethodName := ⟨RX7, "<init>", "()V"⟩
abbrev cX7_spell : ByteArray := prog_9_method_2_code
def yX7_spell : MethodName := ⟨RX7, "spell", "(I)V"⟩
abbrev cX7_member : ByteArray := prog_9_method_3_code
def yX7_member : MethodName := ⟨RX7, "member", "(II)I"⟩
abbrev cX7_partOf : ByteArray := prog_9_method_4_code
def yX7_partOf : MethodName := ⟨RX7, "partOf", "(II)I"⟩
abbrev cX7_partsOf : ByteArray := prog_9_method_5_code
def yX7_partsOf : MethodName := ⟨RX7, "partsOf", "(II)I"⟩
def RX8 : String := "CardNobodyReads$Tonight"
def TX8 : u_T := fun k => match k with
  | 0 => ("CardNobodyReads$Tonight", "likings", "[I", true)
  | 1 => ("CardNobodyReads$Tonight", "way", "[I", true)
  | 2 => ("CardNobodyReads$Tonight", "best", "[I", true)
  | 3 => ("CardNobodyReads$Tonight", "liked", "I", false)
  | _ => ("CardNobodyReads$Tonight", "spent", "I", false)
def tyX8 : Nat → FieldType := fun k => match k with
  | 0 => .array .int
  | 1 => .array .int
  | 2 => .array .int
  | 3 => .int
  | _ => .int
abbrev wsX80 : List Cond := u_ws RX8 TX8 5
theorem nmX8 : ∀ a, a < 5 → ∀ b, b < 5 → a ≠ b → (TX8 a).2.1 ≠ (TX8 b).2.1 := by decide +kernel
theorem tyX8_ok : ∀ k, k < 5 → parseFieldDescriptor (TX8 k).2.2.1 = some (tyX8 k) := by decide +kernel
abbrev cX8_init : ByteArray := prog_10_method_1_code
def yX8_init : MethodName := ⟨RX8, "<init>", "()V"⟩
abbrev cX8_offer : ByteArray := prog_10_method_2_code
def yX8_offer : MethodName := ⟨RX8, "offer", "(III)V"⟩
abbrev cX8_plan : ByteArray := prog_10_method_3_code
def yX8_plan : MethodName := ⟨RX8, "plan", "(ILCardNobodyReads$Lines;I)V"⟩
abbrev cX8_serve : ByteArray := prog_10_method_4_code
def yX8_serve : MethodName := ⟨RX8, "serve", "(IILCardNobodyReads$Lines;II)V"⟩
abbrev cX8_keepIfBetter : ByteArray := prog_10_method_5_code
def yX8_keepIfBetter : MethodName := ⟨RX8, "keepIfBetter", "(I)V"⟩
def RX9 : String := "CardNobodyReads"
def TX9 : u_T := fun k => match k with
  | 0 => ("CardNobodyReads", "tongues", "LCardNobodyReads$Tongues;", true)
  | 1 => ("CardNobodyReads", "card", "LCardNobodyReads$Lines;", true)
  | 2 => ("CardNobodyReads", "known", "LCardNobodyReads$Facts;", true)
  | 3 => ("CardNobodyReads", "book", "LCardNobodyReads$Texts;", true)
  | 4 => ("CardNobodyReads", "fits", "LCardNobodyReads$Fits;", true)
  | 5 => ("CardNobodyReads", "tonight", "LCardNobodyReads$Tonight;", true)
  | 6 => ("CardNobodyReads", "kept", "LCardNobodyReads$Image;", true)
  | 7 => ("CardNobodyReads", "host", "LCardNobodyReads$Sheets;", true)
  | 8 => ("CardNobodyReads", "shuns", "[I", true)
  | 9 => ("CardNobodyReads", "guests", "I", false)
  | 10 => ("CardNobodyReads", "coin", "I", false)
  | 11 => ("CardNobodyReads", "law", "I", false)
  | _ => ("CardNobodyReads", "stale", "Z", false)
def tyX9 : Nat → FieldType := fun k => match k with
  | 0 => .object "CardNobodyReads$Tongues"
  | 1 => .object "CardNobodyReads$Lines"
  | 2 => .object "CardNobodyReads$Facts"
  | 3 => .object "CardNobodyReads$Texts"
  | 4 => .object "CardNobodyReads$Fits"
  | 5 => .object "CardNobodyReads$Tonight"
  | 6 => .object "CardNobodyReads$Image"
  | 7 => .object "CardNobodyReads$Sheets"
  | 8 => .array .int
  | 9 => .int
  | 10 => .int
  | 11 => .int
  | _ => .boolean
abbrev wsX90 : List Cond := u_ws RX9 TX9 13
theorem nmX9 : ∀ a, a < 13 → ∀ b, b < 13 → a ≠ b → (TX9 a).2.1 ≠ (TX9 b).2.1 := by decide +kernel
theorem tyX9_ok : ∀ k, k < 13 → parseFieldDescriptor (TX9 k).2.2.1 = some (tyX9 k) := by decide +kernel
abbrev cX9_init : ByteArray := prog_1_method_1_code
def yX9_init : MethodName := ⟨RX9, "<init>", "()V"⟩
abbrev cX9_line : ByteArray := prog_1_method_2_code
def yX9_line : MethodName := ⟨RX9, "line", "(II)I"⟩
abbrev cX9_lineTold : ByteArray := prog_1_method_3_code
def yX9_lineTold : MethodName := ⟨RX9, "lineTold", "(II)I"⟩
abbrev cX9_set : ByteArray := prog_1_method_4_code
def yX9_set : MethodName := ⟨RX9, "set", "(II)I"⟩
abbrev cX9_guest : ByteArray := prog_1_method_5_code
def yX9_guest : MethodName := ⟨RX9, "guest", "(I)I"⟩
abbrev cX9_guestTold : ByteArray := prog_1_method_6_code
def yX9_guestTold : MethodName := ⟨RX9, "guestTold", "(I)I"⟩
abbrev cX9_pays : ByteArray := prog_1_method_7_code
def yX9_pays : MethodName := ⟨RX9, "pays", "(I)I"⟩
abbrev cX9_count : ByteArray := prog_1_method_8_code
def yX9_count : MethodName := ⟨RX9, "count", "(I)I"⟩
abbrev cX9_feed : ByteArray := prog_1_method_9_code
def yX9_feed : MethodName := ⟨RX9, "feed", "(IIIIII)I"⟩
abbrev cX9_text : ByteArray := prog_1_method_10_code
def yX9_text : MethodName := ⟨RX9, "text", "()I"⟩
abbrev cX9_force : ByteArray := prog_1_method_11_code
def yX9_force : MethodName := ⟨RX9, "force", "(I)I"⟩
abbrev cX9_asks : ByteArray := prog_1_method_12_code
def yX9_asks : MethodName := ⟨RX9, "asks", "(IIIII)I"⟩
abbrev cX9_know : ByteArray := prog_1_method_13_code
def yX9_know : MethodName := ⟨RX9, "know", "(IIII)I"⟩
abbrev cX9_forget : ByteArray := prog_1_method_14_code
def yX9_forget : MethodName := ⟨RX9, "forget", "()I"⟩
abbrev cX9_factTold : ByteArray := prog_1_method_15_code
def yX9_factTold : MethodName := ⟨RX9, "factTold", "(II)I"⟩
abbrev cX9_sets : ByteArray := prog_1_method_16_code
def yX9_sets : MethodName := ⟨RX9, "sets", "()I"⟩
abbrev cX9_first : ByteArray := prog_1_method_17_code
def yX9_first : MethodName := ⟨RX9, "first", "(I)I"⟩
abbrev cX9_means : ByteArray := prog_1_method_18_code
def yX9_means : MethodName := ⟨RX9, "means", "(II)I"⟩
abbrev cX9_sure : ByteArray := prog_1_method_19_code
def yX9_sure : MethodName := ⟨RX9, "sure", "(I)I"⟩
abbrev cX9_doubt : ByteArray := prog_1_method_20_code
def yX9_doubt : MethodName := ⟨RX9, "doubt", "(I)I"⟩
abbrev cX9_odds : ByteArray := prog_1_method_21_code
def yX9_odds : MethodName := ⟨RX9, "odds", "(III)J"⟩
abbrev cX9_has : ByteArray := prog_1_method_22_code
def yX9_has : MethodName := ⟨RX9, "has", "(III)J"⟩
abbrev cX9_partsOfLine : ByteArray := prog_1_method_23_code
def yX9_partsOfLine : MethodName := ⟨RX9, "partsOfLine", "(II)I"⟩
abbrev cX9_safe : ByteArray := prog_1_method_24_code
def yX9_safe : MethodName := ⟨RX9, "safe", "(I)I"⟩
abbrev cX9_risk : ByteArray := prog_1_method_25_code
def yX9_risk : MethodName := ⟨RX9, "risk", "(III)J"⟩
abbrev cX9_order : ByteArray := prog_1_method_26_code
def yX9_order : MethodName := ⟨RX9, "order", "(I)I"⟩
abbrev cX9_ordered : ByteArray := prog_1_method_27_code
def yX9_ordered : MethodName := ⟨RX9, "ordered", "(I)I"⟩
abbrev cX9_middle : ByteArray := prog_1_method_28_code
def yX9_middle : MethodName := ⟨RX9, "middle", "(I)I"⟩
abbrev cX9_taste : ByteArray := prog_1_method_29_code
def yX9_taste : MethodName := ⟨RX9, "taste", "(I)I"⟩
abbrev cX9_two : ByteArray := prog_1_method_30_code
def yX9_two : MethodName := ⟨RX9, "two", "(I)I"⟩
abbrev cX9_ask : ByteArray := prog_1_method_31_code
def yX9_ask : MethodName := ⟨RX9, "ask", "(I)I"⟩
abbrev cX9_would : ByteArray := prog_1_method_32_code
def yX9_would : MethodName := ⟨RX9, "would", "(IIII)I"⟩
abbrev cX9_clash : ByteArray := prog_1_method_33_code
def yX9_clash : MethodName := ⟨RX9, "clash", "()I"⟩
abbrev cX9_idle : ByteArray := prog_1_method_34_code
def yX9_idle : MethodName := ⟨RX9, "idle", "()I"⟩
abbrev cX9_bill : ByteArray := prog_1_method_35_code
def yX9_bill : MethodName := ⟨RX9, "bill", "(III)I"⟩
abbrev cX9_match : ByteArray := prog_1_method_36_code
def yX9_match : MethodName := ⟨RX9, "match", "(I)I"⟩
abbrev cX9_film : ByteArray := prog_1_method_37_code
def yX9_film : MethodName := ⟨RX9, "film", "(I)I"⟩
abbrev cX9_laws : ByteArray := prog_1_method_38_code
def yX9_laws : MethodName := ⟨RX9, "laws", "()I"⟩
abbrev cX9_drawn : ByteArray := prog_1_method_39_code
def yX9_drawn : MethodName := ⟨RX9, "drawn", "(II)I"⟩
abbrev cX9_chance : ByteArray := prog_1_method_40_code
def yX9_chance : MethodName := ⟨RX9, "chance", "(IIIII)J"⟩
abbrev cX9_image : ByteArray := prog_1_method_41_code
def yX9_image : MethodName := ⟨RX9, "image", "()I"⟩
abbrev cX9_back : ByteArray := prog_1_method_42_code
def yX9_back : MethodName := ⟨RX9, "back", "()I"⟩
abbrev cX9_sheet : ByteArray := prog_1_method_43_code
def yX9_sheet : MethodName := ⟨RX9, "sheet", "(III)I"⟩
abbrev cX9_cell : ByteArray := prog_1_method_44_code
def yX9_cell : MethodName := ⟨RX9, "cell", "(III)I"⟩
abbrev cX9_copy : ByteArray := prog_1_method_45_code
def yX9_copy : MethodName := ⟨RX9, "copy", "(IIIII)I"⟩
abbrev cX9_linesBy : ByteArray := prog_1_method_46_code
def yX9_linesBy : MethodName := ⟨RX9, "linesBy", "(IIII)I"⟩
abbrev cX9_taken : ByteArray := prog_1_method_47_code
def yX9_taken : MethodName := ⟨RX9, "taken", "(II)I"⟩
abbrev cX9_at : ByteArray := prog_1_method_48_code
def yX9_at : MethodName := ⟨RX9, "at", "([II)I"⟩
abbrev cX9_put : ByteArray := prog_1_method_49_code
def yX9_put : MethodName := ⟨RX9, "put", "([III)V"⟩
abbrev cX9_within : ByteArray := prog_1_method_50_code
def yX9_within : MethodName := ⟨RX9, "within", "(III)Z"⟩
abbrev cX9_isSign : ByteArray := prog_1_method_51_code
def yX9_isSign : MethodName := ⟨RX9, "isSign", "(I)Z"⟩
abbrev cX9_isPart : ByteArray := prog_1_method_52_code
def yX9_isPart : MethodName := ⟨RX9, "isPart", "(I)Z"⟩
abbrev cX9_isParts : ByteArray := prog_1_method_53_code
def yX9_isParts : MethodName := ⟨RX9, "isParts", "(I)Z"⟩
abbrev cX9_isByte : ByteArray := prog_1_method_54_code
def yX9_isByte : MethodName := ⟨RX9, "isByte", "(I)Z"⟩
abbrev cX9_isSheet : ByteArray := prog_1_method_55_code
def yX9_isSheet : MethodName := ⟨RX9, "isSheet", "(I)Z"⟩
abbrev cX9_isFractionPart : ByteArray := prog_1_method_56_code
def yX9_isFractionPart : MethodName := ⟨RX9, "isFractionPart", "(I)Z"⟩
abbrev cX9_isLine : ByteArray := prog_1_method_57_code
def yX9_isLine : MethodName := ⟨RX9, "isLine", "(I)Z"⟩
abbrev cX9_isGuest : ByteArray := prog_1_method_58_code
def yX9_isGuest : MethodName := ⟨RX9, "isGuest", "(I)Z"⟩
abbrev cX9_mayBeFact : ByteArray := prog_1_method_59_code
def yX9_mayBeFact : MethodName := ⟨RX9, "mayBeFact", "(IIII)Z"⟩
abbrev cX9_fraction : ByteArray := prog_1_method_60_code
def yX9_fraction : MethodName := ⟨RX9, "fraction", "(III)J"⟩
abbrev cX9_commonDivisor : ByteArray := prog_1_method_61_code
def yX9_commonDivisor : MethodName := ⟨RX9, "commonDivisor", "(II)I"⟩
abbrev cX9_addLine : ByteArray := prog_1_method_62_code
def yX9_addLine : MethodName := ⟨RX9, "addLine", "(II)I"⟩
abbrev cX9_fitting : ByteArray := prog_1_method_63_code
def yX9_fitting : MethodName := ⟨RX9, "fitting", "()LCardNobodyReads$Fits;"⟩
abbrev cX9_safeLines : ByteArray := prog_1_method_64_code
def yX9_safeLines : MethodName := ⟨RX9, "safeLines", "(LCardNobodyReads$Fits;I)I"⟩
abbrev cX9_liking : ByteArray := prog_1_method_65_code
def yX9_liking : MethodName := ⟨RX9, "liking", "(LCardNobodyReads$Fits;II)I"⟩
abbrev cX9_teaching : ByteArray := prog_1_method_66_code
def yX9_teaching : MethodName := ⟨RX9, "teaching", "(LCardNobodyReads$Fits;I)I"⟩
abbrev cX9_mostLiking : ByteArray := prog_1_method_67_code
def yX9_mostLiking : MethodName := ⟨RX9, "mostLiking", "(LCardNobodyReads$Fits;II)I"⟩
abbrev cX9_planTonight : ByteArray := prog_1_method_68_code
def yX9_planTonight : MethodName := ⟨RX9, "planTonight", "(LCardNobodyReads$Fits;)V"⟩
abbrev cX9_isMeal : ByteArray := prog_1_method_69_code
def yX9_isMeal : MethodName := ⟨RX9, "isMeal", "(II)Z"⟩
def RX10 : String := "CardNobodyReadsModel"
def TX10 : u_T := fun k => match k with
  | 0 => ("CardNobodyReadsModel", "lines", "I", false)
  | 1 => ("CardNobodyReadsModel", "signsOf", "[I", true)
  | 2 => ("CardNobodyReadsModel", "priceOf", "[I", true)
  | 3 => ("CardNobodyReadsModel", "guests", "I", false)
  | 4 => ("CardNobodyReadsModel", "shuns", "[I", true)
  | 5 => ("CardNobodyReadsModel", "coin", "I", false)
  | 6 => ("CardNobodyReadsModel", "facts", "I", false)
  | 7 => ("CardNobodyReadsModel", "factOf", "[I", true)
  | 8 => ("CardNobodyReadsModel", "tongues", "[I", true)
  | 9 => ("CardNobodyReadsModel", "tape", "[I", true)
  | 10 => ("CardNobodyReadsModel", "taped", "I", false)
  | 11 => ("CardNobodyReadsModel", "codes", "[I", true)
  | 12 => ("CardNobodyReadsModel", "starts", "[I", true)
  | 13 => ("CardNobodyReadsModel", "texts", "I", false)
  | 14 => ("CardNobodyReadsModel", "rule", "I", false)
  | 15 => ("CardNobodyReadsModel", "hasImage", "Z", false)
  | 16 => ("CardNobodyReadsModel", "imageLines", "I", false)
  | 17 => ("CardNobodyReadsModel", "imageGuests", "I", false)
  | 18 => ("CardNobodyReadsModel", "imageFacts", "I", false)
  | 19 => ("CardNobodyReadsModel", "imageCoin", "I", false)
  | 20 => ("CardNobodyReadsModel", "imageRule", "I", false)
  | 21 => ("CardNobodyReadsModel", "imagePrices", "[I", true)
  | 22 => ("CardNobodyReadsModel", "sheetSort", "[I", true)
  | 23 => ("CardNobodyReadsModel", "sheetSize", "[I", true)
  | 24 => ("CardNobodyReadsModel", "cells", "[I", true)
  | 25 => ("CardNobodyReadsModel", "law", "[I", true)
  | 26 => ("CardNobodyReadsModel", "at", "I", false)
  | 27 => ("CardNobodyReadsModel", "begun", "I", false)
  | 28 => ("CardNobodyReadsModel", "token", "I", false)
  | 29 => ("CardNobodyReadsModel", "value", "I", false)
  | 30 => ("CardNobodyReadsModel", "words", "[I", true)
  | 31 => ("CardNobodyReadsModel", "held", "[I", true)
  | 32 => ("CardNobodyReadsModel", "heldMany", "I", false)
  | 33 => ("CardNobodyReadsModel", "opens", "I", false)
  | 34 => ("CardNobodyReadsModel", "out", "I", false)
  | 35 => ("CardNobodyReadsModel", "stack", "[I", true)
  | 36 => ("CardNobodyReadsModel", "named", "[I", true)
  | 37 => ("CardNobodyReadsModel", "fails", "[I", true)
  | 38 => ("CardNobodyReadsModel", "mays", "[I", true)
  | 39 => ("CardNobodyReadsModel", "fits", "[I", true)
  | 40 => ("CardNobodyReadsModel", "fitMany", "I", false)
  | 41 => ("CardNobodyReadsModel", "likings", "[I", true)
  | 42 => ("CardNobodyReadsModel", "ordering", "[I", true)
  | 43 => ("CardNobodyReadsModel", "best", "[I", true)
  | 44 => ("CardNobodyReadsModel", "bestLiking", "I", false)
  | 45 => ("CardNobodyReadsModel", "bestPrice", "I", false)
  | _ => ("CardNobodyReadsModel", "manyHave", "[I", true)
def tyX10 : Nat → FieldType := fun k => match k with
  | 0 => .int
  | 1 => .array .int
  | 2 => .array .int
  | 3 => .int
  | 4 => .array .int
  | 5 => .int
  | 6 => .int
  | 7 => .array .int
  | 8 => .array .int
  | 9 => .array .int
  | 10 => .int
  | 11 => .array .int
  | 12 => .array .int
  | 13 => .int
  | 14 => .int
  | 15 => .boolean
  | 16 => .int
  | 17 => .int
  | 18 => .int
  | 19 => .int
  | 20 => .int
  | 21 => .array .int
  | 22 => .array .int
  | 23 => .array .int
  | 24 => .array .int
  | 25 => .array .int
  | 26 => .int
  | 27 => .int
  | 28 => .int
  | 29 => .int
  | 30 => .array .int
  | 31 => .array .int
  | 32 => .int
  | 33 => .int
  | 34 => .int
  | 35 => .array .int
  | 36 => .array .int
  | 37 => .array .int
  | 38 => .array .int
  | 39 => .array .int
  | 40 => .int
  | 41 => .array .int
  | 42 => .array .int
  | 43 => .array .int
  | 44 => .int
  | 45 => .int
  | _ => .array .int
abbrev wsX100 : List Cond := u_ws RX10 TX10 47
theorem nmX10 : ∀ a, a < 47 → ∀ b, b < 47 → a ≠ b → (TX10 a).2.1 ≠ (TX10 b).2.1 := by decide +kernel
theorem tyX10_ok : ∀ k, k < 47 → parseFieldDescriptor (TX10 k).2.2.1 = some (tyX10 k) := by decide +kernel
abbrev cX10_init : ByteArray := prog_12_method_1_code
def yX10_init : MethodName := ⟨RX10, "<init>", "()V"⟩
abbrev cX10_isTongue : ByteArray := prog_12_method_3_code
def yX10_isTongue : MethodName := ⟨RX10, "isTongue", "(II)Z"⟩
abbrev cX10_in : ByteArray := prog_12_method_4_code
def yX10_in : MethodName := ⟨RX10, "in", "(III)Z"⟩
abbrev cX10_within : ByteArray := prog_12_method_5_code
def yX10_within : MethodName := ⟨RX10, "within", "(III)I"⟩
abbrev cX10_ones : ByteArray := prog_12_method_6_code
def yX10_ones : MethodName := ⟨RX10, "ones", "(I)I"⟩
abbrev cX10_isLine : ByteArray := prog_12_method_7_code
def yX10_isLine : MethodName := ⟨RX10, "isLine", "(I)Z"⟩
abbrev cX10_isGuest : ByteArray := prog_12_method_8_code
def yX10_isGuest : MethodName := ⟨RX10, "isGuest", "(I)Z"⟩
abbrev cX10_isSign : ByteArray := prog_12_method_9_code
def yX10_isSign : MethodName := ⟨RX10, "isSign", "(I)Z"⟩
abbrev cX10_line : ByteArray := prog_12_method_10_code
def yX10_line : MethodName := ⟨RX10, "line", "(II)I"⟩
abbrev cX10_lineTold : ByteArray := prog_12_method_11_code
def yX10_lineTold : MethodName := ⟨RX10, "lineTold", "(II)I"⟩
abbrev cX10_set : ByteArray := prog_12_method_12_code
def yX10_set : MethodName := ⟨RX10, "set", "(II)I"⟩
abbrev cX10_guest : ByteArray := prog_12_method_13_code
def yX10_guest : MethodName := ⟨RX10, "guest", "(I)I"⟩
abbrev cX10_guestTold : ByteArray := prog_12_method_14_code
def yX10_guestTold : MethodName := ⟨RX10, "guestTold", "(I)I"⟩
abbrev cX10_pays : ByteArray := prog_12_method_15_code
def yX10_pays : MethodName := ⟨RX10, "pays", "(I)I"⟩
abbrev cX10_count : ByteArray := prog_12_method_16_code
def yX10_count : MethodName := ⟨RX10, "count", "(I)I"⟩
abbrev cX10_isByte : ByteArray := prog_12_method_17_code
def yX10_isByte : MethodName := ⟨RX10, "isByte", "(I)Z"⟩
abbrev cX10_feed : ByteArray := prog_12_method_18_code
def yX10_feed : MethodName := ⟨RX10, "feed", "(IIIIII)I"⟩
abbrev cX10_wordFrom : ByteArray := prog_12_method_19_code
def yX10_wordFrom : MethodName := ⟨RX10, "wordFrom", "(II)I"⟩
abbrev cX10_next : ByteArray := prog_12_method_20_code
def yX10_next : MethodName := ⟨RX10, "next", "()V"⟩
abbrev cX10_rank : ByteArray := prog_12_method_21_code
def yX10_rank : MethodName := ⟨RX10, "rank", "(I)I"⟩
abbrev cX10_puts : ByteArray := prog_12_method_22_code
def yX10_puts : MethodName := ⟨RX10, "puts", "(I)V"⟩
abbrev cX10_unwinds : ByteArray := prog_12_method_23_code
def yX10_unwinds : MethodName := ⟨RX10, "unwinds", "(I)V"⟩
abbrev cX10_holds : ByteArray := prog_12_method_24_code
def yX10_holds : MethodName := ⟨RX10, "holds", "(I)V"⟩
abbrev cX10_opensOne : ByteArray := prog_12_method_25_code
def yX10_opensOne : MethodName := ⟨RX10, "opensOne", "(I)Z"⟩
abbrev cX10_between : ByteArray := prog_12_method_26_code
def yX10_between : MethodName := ⟨RX10, "between", "(I)Z"⟩
abbrev cX10_signOf : ByteArray := prog_12_method_27_code
def yX10_signOf : MethodName := ⟨RX10, "signOf", "()I"⟩
abbrev cX10_eRead : ByteArray := prog_12_method_28_code
def yX10_eRead : MethodName := ⟨RX10, "eRead", "()Z"⟩
abbrev cX10_text : ByteArray := prog_12_method_29_code
def yX10_text : MethodName := ⟨RX10, "text", "()I"⟩
abbrev cX10_bothOf : ByteArray := prog_12_method_30_code
def yX10_bothOf : MethodName := ⟨RX10, "bothOf", "(III)I"⟩
abbrev cX10_worth : ByteArray := prog_12_method_31_code
def yX10_worth : MethodName := ⟨RX10, "worth", "(I)I"⟩
abbrev cX10_force : ByteArray := prog_12_method_32_code
def yX10_force : MethodName := ⟨RX10, "force", "(I)I"⟩
abbrev cX10_asksOf : ByteArray := prog_12_method_33_code
def yX10_asksOf : MethodName := ⟨RX10, "asksOf", "(IIIII)I"⟩
abbrev cX10_asks : ByteArray := prog_12_method_34_code
def yX10_asks : MethodName := ⟨RX10, "asks", "(IIIII)I"⟩
abbrev cX10_isFact : ByteArray := prog_12_method_35_code
def yX10_isFact : MethodName := ⟨RX10, "isFact", "(IIII)Z"⟩
abbrev cX10_lays : ByteArray := prog_12_method_36_code
def yX10_lays : MethodName := ⟨RX10, "lays", "(IIII)V"⟩
abbrev cX10_know : ByteArray := prog_12_method_37_code
def yX10_know : MethodName := ⟨RX10, "know", "(IIII)I"⟩
abbrev cX10_forget : ByteArray := prog_12_method_38_code
def yX10_forget : MethodName := ⟨RX10, "forget", "()I"⟩
abbrev cX10_factTold : ByteArray := prog_12_method_39_code
def yX10_factTold : MethodName := ⟨RX10, "factTold", "(II)I"⟩
abbrev cX10_hasIn : ByteArray := prog_12_method_40_code
def yX10_hasIn : MethodName := ⟨RX10, "hasIn", "(II)I"⟩
abbrev cX10_holds_ : ByteArray := prog_12_method_41_code
def yX10_holds_ : MethodName := ⟨RX10, "holds", "(II)Z"⟩
abbrev cX10_mays : ByteArray := prog_12_method_42_code
def yX10_mays : MethodName := ⟨RX10, "mays", "()V"⟩
abbrev cX10_mayBe : ByteArray := prog_12_method_43_code
def yX10_mayBe : MethodName := ⟨RX10, "mayBe", "(I)Z"⟩
abbrev cX10_finds : ByteArray := prog_12_method_44_code
def yX10_finds : MethodName := ⟨RX10, "finds", "()V"⟩
abbrev cX10_sets : ByteArray := prog_12_method_45_code
def yX10_sets : MethodName := ⟨RX10, "sets", "()I"⟩
abbrev cX10_partIn : ByteArray := prog_12_method_46_code
def yX10_partIn : MethodName := ⟨RX10, "partIn", "(II)I"⟩
abbrev cX10_first : ByteArray := prog_12_method_47_code
def yX10_first : MethodName := ⟨RX10, "first", "(I)I"⟩
abbrev cX10_meansIn : ByteArray := prog_12_method_48_code
def yX10_meansIn : MethodName := ⟨RX10, "meansIn", "(II)I"⟩
abbrev cX10_means : ByteArray := prog_12_method_49_code
def yX10_means : MethodName := ⟨RX10, "means", "(II)I"⟩
abbrev cX10_unlikeOf : ByteArray := prog_12_method_50_code
def yX10_unlikeOf : MethodName := ⟨RX10, "unlikeOf", "(I)I"⟩
abbrev cX10_sure : ByteArray := prog_12_method_51_code
def yX10_sure : MethodName := ⟨RX10, "sure", "(I)I"⟩
abbrev cX10_doubt : ByteArray := prog_12_method_52_code
def yX10_doubt : MethodName := ⟨RX10, "doubt", "(I)I"⟩
abbrev cX10_lowest : ByteArray := prog_12_method_53_code
def yX10_lowest : MethodName := ⟨RX10, "lowest", "(JJI)J"⟩
abbrev cX10_ofAll : ByteArray := prog_12_method_54_code
def yX10_ofAll : MethodName := ⟨RX10, "ofAll", "(II)J"⟩
abbrev cX10_odds : ByteArray := prog_12_method_55_code
def yX10_odds : MethodName := ⟨RX10, "odds", "(III)J"⟩
abbrev cX10_has : ByteArray := prog_12_method_56_code
def yX10_has : MethodName := ⟨RX10, "has", "(III)J"⟩
abbrev cX10_partsOfLine : ByteArray := prog_12_method_57_code
def yX10_partsOfLine : MethodName := ⟨RX10, "partsOfLine", "(II)I"⟩
abbrev cX10_shunnedIn : ByteArray := prog_12_method_58_code
def yX10_shunnedIn : MethodName := ⟨RX10, "shunnedIn", "(II)I"⟩
abbrev cX10_safeFor : ByteArray := prog_12_method_59_code
def yX10_safeFor : MethodName := ⟨RX10, "safeFor", "(I)I"⟩
abbrev cX10_safe : ByteArray := prog_12_method_60_code
def yX10_safe : MethodName := ⟨RX10, "safe", "(I)I"⟩
abbrev cX10_risk : ByteArray := prog_12_method_61_code
def yX10_risk : MethodName := ⟨RX10, "risk", "(III)J"⟩
abbrev cX10_liking : ByteArray := prog_12_method_62_code
def yX10_liking : MethodName := ⟨RX10, "liking", "(II)I"⟩
abbrev cX10_likes : ByteArray := prog_12_method_63_code
def yX10_likes : MethodName := ⟨RX10, "likes", "()V"⟩
abbrev cX10_orders : ByteArray := prog_12_method_64_code
def yX10_orders : MethodName := ⟨RX10, "orders", "(III)V"⟩
abbrev cX10_tonight : ByteArray := prog_12_method_65_code
def yX10_tonight : MethodName := ⟨RX10, "tonight", "()V"⟩
abbrev cX10_order : ByteArray := prog_12_method_66_code
def yX10_order : MethodName := ⟨RX10, "order", "(I)I"⟩
abbrev cX10_ordered : ByteArray := prog_12_method_67_code
def yX10_ordered : MethodName := ⟨RX10, "ordered", "(I)I"⟩
abbrev cX10_middle : ByteArray := prog_12_method_68_code
def yX10_middle : MethodName := ⟨RX10, "middle", "(I)I"⟩
abbrev cX10_counts : ByteArray := prog_12_method_69_code
def yX10_counts : MethodName := ⟨RX10, "counts", "(II)V"⟩
abbrev cX10_teaching : ByteArray := prog_12_method_70_code
def yX10_teaching : MethodName := ⟨RX10, "teaching", "(I)I"⟩
abbrev cX10_taste : ByteArray := prog_12_method_71_code
def yX10_taste : MethodName := ⟨RX10, "taste", "(I)I"⟩
abbrev cX10_two : ByteArray := prog_12_method_72_code
def yX10_two : MethodName := ⟨RX10, "two", "(I)I"⟩
abbrev cX10_ask : ByteArray := prog_12_method_73_code
def yX10_ask : MethodName := ⟨RX10, "ask", "(I)I"⟩
abbrev cX10_would : ByteArray := prog_12_method_74_code
def yX10_would : MethodName := ⟨RX10, "would", "(IIII)I"⟩
abbrev cX10_fitWithout : ByteArray := prog_12_method_75_code
def yX10_fitWithout : MethodName := ⟨RX10, "fitWithout", "(I)I"⟩
abbrev cX10_clash : ByteArray := prog_12_method_76_code
def yX10_clash : MethodName := ⟨RX10, "clash", "()I"⟩
abbrev cX10_idle : ByteArray := prog_12_method_77_code
def yX10_idle : MethodName := ⟨RX10, "idle", "()I"⟩
abbrev cX10_bill : ByteArray := prog_12_method_78_code
def yX10_bill : MethodName := ⟨RX10, "bill", "(III)I"⟩
abbrev cX10_match : ByteArray := prog_12_method_79_code
def yX10_match : MethodName := ⟨RX10, "match", "(I)I"⟩
abbrev cX10_film : ByteArray := prog_12_method_80_code
def yX10_film : MethodName := ⟨RX10, "film", "(I)I"⟩
abbrev cX10_laws : ByteArray := prog_12_method_81_code
def yX10_laws : MethodName := ⟨RX10, "laws", "()I"⟩
abbrev cX10_drawnOf : ByteArray := prog_12_method_82_code
def yX10_drawnOf : MethodName := ⟨RX10, "drawnOf", "(I)I"⟩
abbrev cX10_drawn : ByteArray := prog_12_method_83_code
def yX10_drawn : MethodName := ⟨RX10, "drawn", "(II)I"⟩
abbrev cX10_chance : ByteArray := prog_12_method_84_code
def yX10_chance : MethodName := ⟨RX10, "chance", "(IIIII)J"⟩
abbrev cX10_image : ByteArray := prog_12_method_85_code
def yX10_image : MethodName := ⟨RX10, "image", "()I"⟩
abbrev cX10_back : ByteArray := prog_12_method_86_code
def yX10_back : MethodName := ⟨RX10, "back", "()I"⟩
abbrev cX10_sheet : ByteArray := prog_12_method_87_code
def yX10_sheet : MethodName := ⟨RX10, "sheet", "(III)I"⟩
abbrev cX10_cell : ByteArray := prog_12_method_88_code
def yX10_cell : MethodName := ⟨RX10, "cell", "(III)I"⟩
abbrev cX10_copy : ByteArray := prog_12_method_89_code
def yX10_copy : MethodName := ⟨RX10, "copy", "(IIIII)I"⟩
abbrev cX10_linesBy : ByteArray := prog_12_method_90_code
def yX10_linesBy : MethodName := ⟨RX10, "linesBy", "(IIII)I"⟩
abbrev cX10_isUnder : ByteArray := prog_12_method_91_code
def yX10_isUnder : MethodName := ⟨RX10, "isUnder", "(II)Z"⟩
abbrev cX10_taken : ByteArray := prog_12_method_92_code
def yX10_taken : MethodName := ⟨RX10, "taken", "(II)I"⟩
def RJ11 : String := "java/lang/Character"
def TJ11 : u_T := fun k => match k with
  | _ => ("", "", "", false)
def tyJ11 : Nat → FieldType := fun k => match k with
  | _ => .int
abbrev wsJ110 : List Cond := u_ws RJ11 TJ11 0
theorem nmJ11 : ∀ a, a < 0 → ∀ b, b < 0 → a ≠ b → (TJ11 a).2.1 ≠ (TJ11 b).2.1 := by decide +kernel
theorem tyJ11_ok : ∀ k, k < 0 → parseFieldDescriptor (TJ11 k).2.2.1 = some (tyJ11 k) := by decide +kernel
abbrev cJ11_isValidCodePoint_9a6ad : ByteArray := prog_13_method_11_code
def yJ11_isValidCodePoint_9a6ad : MethodName := ⟨RJ11, "isValidCodePoint", "(I)Z"⟩
abbrev cJ11_highSurrogate_5068e : ByteArray := prog_13_method_28_code
def yJ11_highSurrogate_5068e : MethodName := ⟨RJ11, "highSurrogate", "(I)C"⟩
abbrev cJ11_lowSurrogate_5068e : ByteArray := prog_13_method_29_code
def yJ11_lowSurrogate_5068e : MethodName := ⟨RJ11, "lowSurrogate", "(I)C"⟩
def RJ6 : String := "java/lang/Integer"
def TJ6 : u_T := fun k => match k with
  | _ => ("", "", "", false)
def tyJ6 : Nat → FieldType := fun k => match k with
  | _ => .int
abbrev wsJ60 : List Cond := u_ws RJ6 TJ6 0
theorem nmJ6 : ∀ a, a < 0 → ∀ b, b < 0 → a ≠ b → (TJ6 a).2.1 ≠ (TJ6 b).2.1 := by decide +kernel
theorem tyJ6_ok : ∀ k, k < 0 → parseFieldDescriptor (TJ6 k).2.2.1 = some (tyJ6 k) := by decide +kernel
abbrev cJ6_numberOfTrailingZeros_0f7a4 : ByteArray := prog_14_method_48_code
def yJ6_numberOfTrailingZeros_0f7a4 : MethodName := ⟨RJ6, "numberOfTrailingZeros", "(I)I"⟩
abbrev cJ6_bitCount_0f7a4 : ByteArray := prog_14_method_49_code
def yJ6_bitCount_0f7a4 : MethodName := ⟨RJ6, "bitCount", "(I)I"⟩
def RJ9 : String := "java/lang/Math"
def TJ9 : u_T := fun k => match k with
  | _ => ("", "", "", false)
def tyJ9 : Nat → FieldType := fun k => match k with
  | _ => .int
abbrev wsJ90 : List Cond := u_ws RJ9 TJ9 0
theorem nmJ9 : ∀ a, a < 0 → ∀ b, b < 0 → a ≠ b → (TJ9 a).2.1 ≠ (TJ9 b).2.1 := by decide +kernel
theorem tyJ9_ok : ∀ k, k < 0 → parseFieldDescriptor (TJ9 k).2.2.1 = some (tyJ9 k) := by decide +kernel
abbrev cJ9_max_7cf53 : ByteArray := prog_15_method_65_code
def yJ9_max_7cf53 : MethodName := ⟨RJ9, "max", "(II)I"⟩
abbrev cJ9_min_7cf53 : ByteArray := prog_15_method_69_code
def yJ9_min_7cf53 : MethodName := ⟨RJ9, "min", "(II)I"⟩
def RJ0 : String := "java/lang/String"
def TJ0 : u_T := fun k => match k with
  | _ => ("", "", "", false)
def tyJ0 : Nat → FieldType := fun k => match k with
  | _ => .int
abbrev wsJ00 : List Cond := u_ws RJ0 TJ0 0
theorem nmJ0 : ∀ a, a < 0 → ∀ b, b < 0 → a ≠ b → (TJ0 a).2.1 ≠ (TJ0 b).2.1 := by decide +kernel
theorem tyJ0_ok : ∀ k, k < 0 → parseFieldDescriptor (TJ0 k).2.2.1 = some (tyJ0 k) := by decide +kernel
abbrev cJ0_length_8abf5 : ByteArray := prog_16_method_54_code
def yJ0_length_8abf5 : MethodName := ⟨RJ0, "length", "()I"⟩
abbrev cJ0_charAt_5068e : ByteArray := prog_16_method_56_code
def yJ0_charAt_5068e : MethodName := ⟨RJ0, "charAt", "(I)C"⟩
abbrev cJ0_indexOf_0f7a4 : ByteArray := prog_16_method_79_code
def yJ0_indexOf_0f7a4 : MethodName := ⟨RJ0, "indexOf", "(I)I"⟩
abbrev cJ0_indexOf_7cf53 : ByteArray := prog_16_method_80_code
def yJ0_indexOf_7cf53 : MethodName := ⟨RJ0, "indexOf", "(II)I"⟩
abbrev cJ0_coder_7d493 : ByteArray := prog_16_method_152_code
def yJ0_coder_7d493 : MethodName := ⟨RJ0, "coder", "()B"⟩
abbrev cJ0_isLatin1_aae02 : ByteArray := prog_16_method_154_code
def yJ0_isLatin1_aae02 : MethodName := ⟨RJ0, "isLatin1", "()Z"⟩
abbrev cJ0_checkIndex_df160 : ByteArray := prog_16_method_155_code
def yJ0_checkIndex_df160 : MethodName := ⟨RJ0, "checkIndex", "(II)V"⟩
abbrev cJ0_checkBoundsBeginEnd_23922 : ByteArray := prog_16_method_158_code
def yJ0_checkBoundsBeginEnd_23922 : MethodName := ⟨RJ0, "checkBoundsBeginEnd", "(III)V"⟩
def RJ1 : String := "java/lang/StringLatin1"
def TJ1 : u_T := fun k => match k with
  | _ => ("", "", "", false)
def tyJ1 : Nat → FieldType := fun k => match k with
  | _ => .int
abbrev wsJ10 : List Cond := u_ws RJ1 TJ1 0
theorem nmJ1 : ∀ a, a < 0 → ∀ b, b < 0 → a ≠ b → (TJ1 a).2.1 ≠ (TJ1 b).2.1 := by decide +kernel
theorem tyJ1_ok : ∀ k, k < 0 → parseFieldDescriptor (TJ1 k).2.2.1 = some (tyJ1 k) := by decide +kernel
abbrev cJ1_charAt_3b067 : ByteArray := prog_17_method_2_code
def yJ1_charAt_3b067 : MethodName := ⟨RJ1, "charAt", "([BI)C"⟩
abbrev cJ1_canEncode_9a6ad : ByteArray := prog_17_method_4_code
def yJ1_canEncode_9a6ad : MethodName := ⟨RJ1, "canEncode", "(I)Z"⟩
abbrev cJ1_indexOf_4cfef : ByteArray := prog_17_method_22_code
def yJ1_indexOf_4cfef : MethodName := ⟨RJ1, "indexOf", "([BIII)I"⟩
abbrev cJ1_indexOfChar_4cfef : ByteArray := prog_17_method_23_code
def yJ1_indexOfChar_4cfef : MethodName := ⟨RJ1, "indexOfChar", "([BIII)I"⟩
def RJ2 : String := "java/lang/StringUTF16"
def TJ2 : u_T := fun k => match k with
  | _ => ("", "", "", false)
def tyJ2 : Nat → FieldType := fun k => match k with
  | _ => .int
abbrev wsJ20 : List Cond := u_ws RJ2 TJ2 0
theorem nmJ2 : ∀ a, a < 0 → ∀ b, b < 0 → a ≠ b → (TJ2 a).2.1 ≠ (TJ2 b).2.1 := by decide +kernel
theorem tyJ2_ok : ∀ k, k < 0 → parseFieldDescriptor (TJ2 k).2.2.1 = some (tyJ2 k) := by decide +kernel
abbrev cJ2_getChar_3b067 : ByteArray := prog_18_method_5_code
def yJ2_getChar_3b067 : MethodName := ⟨RJ2, "getChar", "([BI)C"⟩
abbrev cJ2_length_9d52b : ByteArray := prog_18_method_6_code
def yJ2_length_9d52b : MethodName := ⟨RJ2, "length", "([B)I"⟩
abbrev cJ2_indexOf_4cfef : ByteArray := prog_18_method_40_code
def yJ2_indexOf_4cfef : MethodName := ⟨RJ2, "indexOf", "([BIII)I"⟩
abbrev cJ2_indexOfChar_4cfef : ByteArray := prog_18_method_47_code
def yJ2_indexOfChar_4cfef : MethodName := ⟨RJ2, "indexOfChar", "([BIII)I"⟩
abbrev cJ2_indexOfCharUnsafe_4cfef : ByteArray := prog_18_method_48_code
def yJ2_indexOfCharUnsafe_4cfef : MethodName := ⟨RJ2, "indexOfCharUnsafe", "([BIII)I"⟩
abbrev cJ2_indexOfSupplementary_4cfef : ByteArray := prog_18_method_49_code
def yJ2_indexOfSupplementary_4cfef : MethodName := ⟨RJ2, "indexOfSupplementary", "([BIII)I"⟩
abbrev cJ2_charAt_3b067 : ByteArray := prog_18_method_83_code
def yJ2_charAt_3b067 : MethodName := ⟨RJ2, "charAt", "([BI)C"⟩
abbrev cJ2_checkIndex_2214a : ByteArray := prog_18_method_91_code
def yJ2_checkIndex_2214a : MethodName := ⟨RJ2, "checkIndex", "(I[B)V"⟩
abbrev cJ2_checkBoundsBeginEnd_d044e : ByteArray := prog_18_method_93_code
def yJ2_checkBoundsBeginEnd_d044e : MethodName := ⟨RJ2, "checkBoundsBeginEnd", "(II[B)V"⟩
def RJ10 : String := "java/lang/System"
def TJ10 : u_T := fun k => match k with
  | _ => ("", "", "", false)
def tyJ10 : Nat → FieldType := fun k => match k with
  | _ => .int
abbrev wsJ100 : List Cond := u_ws RJ10 TJ10 0
theorem nmJ10 : ∀ a, a < 0 → ∀ b, b < 0 → a ≠ b → (TJ10 a).2.1 ≠ (TJ10 b).2.1 := by decide +kernel
theorem tyJ10_ok : ∀ k, k < 0 → parseFieldDescriptor (TJ10 k).2.2.1 = some (tyJ10 k) := by decide +kernel
def RJ3 : String := "jdk/internal/util/Preconditions"
def TJ3 : u_T := fun k => match k with
  | _ => ("", "", "", false)
def tyJ3 : Nat → FieldType := fun k => match k with
  | _ => .int
abbrev wsJ30 : List Cond := u_ws RJ3 TJ3 0
theorem nmJ3 : ∀ a, a < 0 → ∀ b, b < 0 → a ≠ b → (TJ3 a).2.1 ≠ (TJ3 b).2.1 := by decide +kernel
theorem tyJ3_ok : ∀ k, k < 0 → parseFieldDescriptor (TJ3 k).2.2.1 = some (tyJ3 k) := by decide +kernel
abbrev cJ3_checkIndex_8e157 : ByteArray := prog_20_method_11_code
def yJ3_checkIndex_8e157 : MethodName := ⟨RJ3, "checkIndex", "(IILjava/util/function/BiFunction;)I"⟩
abbrev cJ3_checkFromToIndex_8c36e : ByteArray := prog_20_method_12_code
def yJ3_checkFromToIndex_8c36e : MethodName := ⟨RJ3, "checkFromToIndex", "(IIILjava/util/function/BiFunction;)I"⟩
def RL : String := "CardNobodyReadsLaw"
abbrev cL_law : ByteArray := code
def yL_law : MethodName := ⟨RL, "law", "([I)Z"⟩
end
section
/-! THE PLAIN MACHINE: a method's run told over integers. A world is a list of cells (address, shape) and one memory: cell, place -> integer. -/
def w32 (z : Int) : Int := (z + 2147483648) % 4294967296 - 2147483648
def w64 (z : Int) : Int := (z + 9223372036854775808) % 18446744073709551616 - 9223372036854775808
def r32 (z : Int) : Prop := -2147483648 ≤ z ∧ z < 2147483648
def r64 (z : Int) : Prop := -9223372036854775808 ≤ z ∧ z < 9223372036854775808
theorem w32_r (z : Int) : r32 (w32 z) := by unfold r32 w32; omega
theorem w64_r (z : Int) : r64 (w64 z) := by unfold r64 w64; omega
theorem w32_id {z : Int} (h1 : -2147483648 ≤ z) (h2 : z < 2147483648) : w32 z = z := by unfold w32; omega
theorem w64_id {z : Int} (h1 : -9223372036854775808 ≤ z) (h2 : z < 9223372036854775808) : w64 z = z := by unfold w64; omega
theorem ti32 {z : Int} (h : r32 z) : (Int32.ofInt z).toInt = z := Int32.toInt_ofInt_of_le h.1 h.2
theorem ti64 {z : Int} (h : r64 z) : (Int64.ofInt z).toInt = z := Int64.toInt_ofInt_of_le h.1 h.2
theorem of_w32 (z : Int) : Int32.ofInt (w32 z) = Int32.ofInt z := by
  have e : w32 z = z - 4294967296 * ((z + 2147483648) / 4294967296) := by unfold w32; omega
  rw [e, Int32.ofInt_sub, Int32.ofInt_mul, show Int32.ofInt 4294967296 = 0 from rfl]
  simp
theorem of_w64 (z : Int) : Int64.ofInt (w64 z) = Int64.ofInt z := by
  have e : w64 z = z - 18446744073709551616 * ((z + 9223372036854775808) / 18446744073709551616) := by unfold w64; omega
  rw [e, Int64.ofInt_sub, Int64.ofInt_mul, show Int64.ofInt 18446744073709551616 = 0 from rfl]
  simp
theorem x32_r (x : Int32) : r32 x.toInt := ⟨Int32.le_toInt x, Int32.toInt_lt x⟩
theorem x64_r (x : Int64) : r64 x.toInt := ⟨Int64.le_toInt x, Int64.toInt_lt x⟩
def b_and (a b : Int) : Int := (Int32.ofInt a &&& Int32.ofInt b).toInt
def b_or (a b : Int) : Int := (Int32.ofInt a ||| Int32.ofInt b).toInt
def b_xor (a b : Int) : Int := (Int32.ofInt a ^^^ Int32.ofInt b).toInt
def b_shl (a b : Int) : Int := (Int32.ofInt a <<< (Int32.ofInt b &&& 31)).toInt
def b_shr (a b : Int) : Int := (Int32.ofInt a >>> (Int32.ofInt b &&& 31)).toInt
def b_ushr (a b : Int) : Int := (((Int32.ofInt a).toUInt32 >>> ((Int32.ofInt b).toUInt32 &&& Int32.toUInt32 31)).toInt32).toInt
def b_i2b (a : Int) : Int := (Int32.ofInt a).toInt8.toInt32.toInt
def b_i2s (a : Int) : Int := (Int32.ofInt a).toInt16.toInt32.toInt
def b_i2c (a : Int) : Int := ((Int32.ofInt a).toUInt32 % 65536).toInt32.toInt
def b_div (a b : Int) : Int := (Int32.ofInt a / Int32.ofInt b).toInt
def b_rem (a b : Int) : Int := (Int32.ofInt a - Int32.ofInt a / Int32.ofInt b * Int32.ofInt b).toInt
def b_ldiv (a b : Int) : Int := (Int64.ofInt a / Int64.ofInt b).toInt
def b_lrem (a b : Int) : Int := (Int64.ofInt a - Int64.ofInt a / Int64.ofInt b * Int64.ofInt b).toInt
/-- int, long, a reference or null -/
abbrev SV : Type := Int ⊕ (Int ⊕ Option Nat)
/-- an int array of a length; an object of a class, for each field: an int (it lies in the memory), or a reference -/
abbrev SC : Type := Nat ⊕ (Nat × List (Option (Option Nat)))
abbrev SW : Type := List (Nat × SC)
abbrev Mem : Type := Nat → Nat → Int
abbrev MM : Type := MethodName × ByteArray × Nat × Option FieldType
/-- the first address of the worlds; the classes' numbers; the class of int[]; the frozen addresses; the formatter; the script's length, the script -/
abbrev GG : Type := Nat × va_G × ClassId × (Nat → Nat) × Option Nat × Nat × (Nat → Int)
abbrev q_cl : List vw_C := [(RX0, TX0, 5), (RX1, TX1, 7), (RX2, TX2, 7), (RX3, TX3, 4), (RX4, TX4, 3), (RX5, TX5, 4), (RX6, TX6, 8), (RX7, TX7, 1), (RX8, TX8, 5), (RX9, TX9, 13), (RX10, TX10, 47)]
def q_V : SV → Value
  | .inl z => .int (Int32.ofInt z)
  | .inr (.inl z) => .long (Int64.ofInt z)
  | .inr (.inr none) => .null
  | .inr (.inr (some a)) => .ref a
def q_F (f : Nat → Int) : Nat → List (Option (Option Nat)) → List Value
  | _, [] => []
  | i, none :: l => .int (Int32.ofInt (f i)) :: q_F f (i + 1) l
  | i, some none :: l => .null :: q_F f (i + 1) l
  | i, some (some a) :: l => .ref a :: q_F f (i + 1) l
def q_E (cI : ClassId) (f : Nat → Int) : SC → va_E
  | .inl n => .inl (cI, n, .inl (fun j => Int32.ofInt (f j)))
  | .inr (ci, fs) => .inr (ci, q_F f 0 fs)
def q_W (cI : ClassId) (M : Mem) : Nat → SW → va_W
  | _, [] => []
  | i, (a, c) :: l => (a, q_E cI (M i) c) :: q_W cI M (i + 1) l
theorem q_W_get (cI : ClassId) (M : Mem) : ∀ (S : SW) (i k : Nat), (q_W cI M i S)[k]? = (S[k]?).map (fun q => (q.1, q_E cI (M (i + k)) q.2)) := by
  intro S
  induction S with
  | nil => intro i k; simp [q_W]
  | cons q l ih =>
    obtain ⟨a, c⟩ := q
    intro i k
    cases k with
    | zero => simp [q_W]
    | succ k => simp only [q_W, List.getElem?_cons_succ]; rw [ih, show i + 1 + k = i + (k + 1) by omega]
theorem q_W_at {cI : ClassId} {M : Mem} {S : SW} {k : Nat} {a : Nat} {c : SC} (h : S[k]? = some (a, c)) : (q_W cI M 0 S)[k]? = some (a, q_E cI (M k) c) := by
  rw [q_W_get, h, Nat.zero_add]; rfl
theorem q_W_len (cI : ClassId) (M : Mem) : ∀ (S : SW) (i : Nat), (q_W cI M i S).length = S.length := by
  intro S
  induction S with
  | nil => intro i; rfl
  | cons q l ih => obtain ⟨a, c⟩ := q; intro i; simp [q_W, ih]
/-- one cell's memory changes -/
def mup (M : Mem) (k : Nat) (g : Nat → Int) : Mem := fun i => if i = k then g else M i
def mset (M : Mem) (k i : Nat) (v : Int) : Mem := fun c j => if c = k ∧ j = i then v else M c j
theorem mset_mup (M : Mem) (k i : Nat) (v : Int) : mset M k i v = mup M k (fun j => if j = i then v else M k j) := by
  funext c j
  unfold mset mup
  by_cases h : c = k
  · subst h; by_cases h2 : j = i <;> simp [h2]
  · simp [h]
theorem q_W_set {cI : ClassId} {M : Mem} {S : SW} {k a : Nat} {c c' : SC} (g : Nat → Int) (h : S[k]? = some (a, c)) : (q_W cI M 0 S).set k (a, q_E cI g c') = q_W cI (mup M k g) 0 (S.set k (a, c')) := by
  apply List.ext_getElem?
  intro j
  have hk : k < S.length := (List.getElem?_eq_some_iff.mp h).1
  rw [List.getElem?_set, q_W_get, q_W_get, q_W_len, List.getElem?_set]
  by_cases e : k = j
  · subst e
    simp [hk, mup]
  · have e2 : ¬ j = k := fun q => e q.symm
    simp [e, e2, mup]
theorem q_set_same {S : SW} {k a : Nat} {c : SC} (h : S[k]? = some (a, c)) : S.set k (a, c) = S := by
  apply List.ext_getElem?
  intro j
  rw [List.getElem?_set]
  by_cases e : k = j
  · subst e; simp [(List.getElem?_eq_some_iff.mp h).1]; exact (List.getElem?_eq_some_iff.mp h).2.symm
  · simp [e]
theorem q_W_push (cI : ClassId) (M : Mem) (S : SW) (a : Nat) (c : SC) (g : Nat → Int) : q_W cI M 0 S ++ [(a, q_E cI g c)] = q_W cI (mup M S.length g) 0 (S ++ [(a, c)]) := by
  apply List.ext_getElem?
  intro j
  by_cases h : j < S.length
  · rw [List.getElem?_append_left (by rw [q_W_len]; exact h), q_W_get, q_W_get, List.getElem?_append_left h]
    have e : ¬ j = S.length := by omega
    simp [mup, e]
  · rw [List.getElem?_append_right (by rw [q_W_len]; omega), q_W_get, List.getElem?_append_right (by omega), q_W_len]
    by_cases e : j = S.length
    · subst e; simp [mup]
    · have e2 : j - S.length = (j - S.length - 1) + 1 := by omega
      rw [e2]; simp
theorem q_F_get (f : Nat → Int) : ∀ (fs : List (Option (Option Nat))) (i k : Nat), (q_F f i fs)[k]? = (fs[k]?).map (fun o => match o with | none => .int (Int32.ofInt (f (i + k))) | some none => .null | some (some a) => .ref a) := by
  intro fs
  induction fs with
  | nil => intro i k; simp [q_F]
  | cons o l ih =>
    intro i k
    cases k with
    | zero => rcases o with _ | (_ | a) <;> simp [q_F]
    | succ k => rcases o with _ | (_ | a) <;> (simp only [q_F, List.getElem?_cons_succ]; rw [ih, show i + 1 + k = i + (k + 1) by omega])
theorem q_F_len (f : Nat → Int) : ∀ (fs : List (Option (Option Nat))) (i : Nat), (q_F f i fs).length = fs.length := by
  intro fs
  induction fs with
  | nil => intro i; rfl
  | cons o l ih => intro i; rcases o with _ | (_ | a) <;> simp [q_F, ih]
theorem q_F_set {f : Nat → Int} {fs : List (Option (Option Nat))} {k : Nat} (v : Int) (h : fs[k]? = some none) : (q_F f 0 fs).set k (.int (Int32.ofInt v)) = q_F (fun j => if j = k then v else f j) 0 fs := by
  apply List.ext_getElem?
  intro j
  have hk : k < fs.length := (List.getElem?_eq_some_iff.mp h).1
  rw [List.getElem?_set, q_F_get, q_F_get, q_F_len, Nat.zero_add]
  by_cases e : k = j
  · subst e
    have hk2 : fs[k] = none := (List.getElem?_eq_some_iff.mp h).2
    simp [hk, hk2]
  · have e2 : ¬ j = k := fun q => e q.symm
    simp [e, e2]
theorem q_F_setR {f : Nat → Int} {fs : List (Option (Option Nat))} {k : Nat} (r : Option Nat) (h : k < fs.length) : (q_F f 0 fs).set k (q_V (.inr (.inr r))) = q_F f 0 (fs.set k (some r)) := by
  apply List.ext_getElem?
  intro j
  rw [List.getElem?_set, q_F_get, q_F_get, q_F_len, List.getElem?_set, Nat.zero_add]
  by_cases e : k = j
  · subst e
    rcases r with _ | a <;> simp [h, q_V]
  · simp [e]
/-! ranges -/
def q_R : SV → Prop
  | .inl z => r32 z
  | .inr (.inl z) => r64 z
  | .inr (.inr _) => True
def q_RM (M : Mem) : Prop := ∀ c i, r32 (M c i)
def q_RL (st : List SV) : Prop := ∀ v ∈ st, q_R v
def q_RO (ls : List (Option SV)) : Prop := ∀ v, some v ∈ ls → q_R v
theorem q_RL.tl {v : SV} {st : List SV} (h : q_RL (v :: st)) : q_RL st := fun w hw => h w (List.mem_cons_of_mem _ hw)
theorem q_RL.hd {v : SV} {st : List SV} (h : q_RL (v :: st)) : q_R v := h v List.mem_cons_self
theorem q_RL.cons {v : SV} {st : List SV} (hv : q_R v) (h : q_RL st) : q_RL (v :: st) := fun w hw => by
  rcases List.mem_cons.mp hw with rfl | hw
  · exact hv
  · exact h w hw
theorem q_RL.nil : q_RL [] := fun _ h => absurd h List.not_mem_nil
theorem q_RM.set {M : Mem} (h : q_RM M) {k i : Nat} {v : Int} (hv : r32 v) : q_RM (mset M k i v) := by
  intro c j
  unfold mset
  split
  · exact hv
  · exact h c j
theorem q_RM.up {M : Mem} (h : q_RM M) {k : Nat} {g : Nat → Int} (hg : ∀ j, r32 (g j)) : q_RM (mup M k g) := by
  intro c j
  unfold mup
  split
  · exact hg j
  · exact h c j
/-! the tables' words -/
def q_ok : Cond → Bool
  | .methodLinkNest .. => true
  | .fieldLinkNest .. => true
  | .arrayClass _ => false
  | w => w.onTables && w.keeps
def q_in (w : Cond) : Prop := w ∈ lw_tbl ∧ q_ok w = true
def q_T (U : State) : Prop := (∀ w : Cond, q_in w → va_Nw w U) ∧ (Cond.arrayClass .int).before #[] U = true
theorem q_ok_tab {w : Cond} (h : q_ok w = true) : w.onTables = true := by
  cases w <;> first | rfl | (simp [q_ok, Cond.onTables] at h)
theorem q_T.use {U : State} (h : q_T U) {w : Cond} (hw : q_in w) {A : Array Value} : w.before A U = true := va_Nw.use (q_ok_tab hw.2) (h.1 w hw)
theorem q_T.warm {s U : State} (hW : s.WarmedH U.vm) (h : q_T s) : q_T U := by
  refine ⟨fun w hw => ?_, word_at hW (Or.inr ⟨_, rfl⟩) h.2⟩
  have h1 := h.1 w hw
  have h2 := hw.2
  cases w
  case methodLinkNest a i x h => exact va_Nw.warmM hW h1
  case fieldLinkNest a i b n d h => exact va_Nw.warmF hW h1
  case arrayClass ty => simp [q_ok] at h2
  all_goals exact word_at hW (Or.inl h2) h1
/-! the frozen things: the script, two static rows, the texts -/
def q_str : List (String × Nat × String × List Int) := [
  ("CardNobodyReads$Tape", 61, "();+-*<=", [40, 41, 59, 43, 45, 42, 60, 61]),
  ("CardNobodyReads$Tape", 68, "may", [109, 97, 121]),
  ("CardNobodyReads$Tape", 74, "likes", [108, 105, 107, 101, 115]),
  ("CardNobodyReads$Tape", 76, "learns", [108, 101, 97, 114, 110, 115]),
  ("CardNobodyReads$Tape", 78, "or", [111, 114]),
  ("CardNobodyReads$Tape", 80, "and", [97, 110, 100]),
  ("CardNobodyReads$Tape", 82, "not", [110, 111, 116]),
  ("CardNobodyReads$Tape", 84, "price", [112, 114, 105, 99, 101]),
  ("CardNobodyReads$Tape", 88, "parts", [112, 97, 114, 116, 115]),
  ("CardNobodyReads$Tape", 90, "place", [112, 108, 97, 99, 101]),
  ("CardNobodyReads$Tape", 92, "many", [109, 97, 110, 121]),
  ("CardNobodyReads$Tape", 94, "guest", [103, 117, 101, 115, 116]),
  ("CardNobodyReads$Tape", 96, "left", [108, 101, 102, 116]),
  ("CardNobodyReads$Texts", 31, "may 1 ; likes 50 - price + many ; learns 720 - left ;", [109, 97, 121, 32, 49, 32, 59, 32, 108, 105, 107, 101, 115, 32, 53, 48, 32, 45, 32, 112, 114, 105, 99, 101, 32, 43, 32, 109, 97, 110, 121, 32, 59, 32, 108, 101, 97, 114, 110, 115, 32, 55, 50, 48, 32, 45, 32, 108, 101, 102, 116, 32, 59])]
def q_sb (i : Nat) : List Int := (q_str.map (fun q => q.2.2.2)).getD i []
def q_sl : List Nat := q_str.map (fun q => q.2.2.2.length)
def q_sB : List (List Int32) := q_str.map (fun q => q.2.2.2.map Int32.ofInt)
/-- the frozen rows of ints: their lengths, what they hold -/
def q_fl (g : GG) : Nat → Nat
  | 0 => g.2.2.2.2.2.1
  | _ => 6
def q_ff (g : GG) : Nat → Nat → Int
  | 0 => g.2.2.2.2.2.2
  | 1 => fun j => ([120, 24, 6, 2, 1, 1] : List Int).getD j 0
  | _ => fun j => ([-1, 0, 0, 2, 1, 2] : List Int).getD j 0
def q_A (g : GG) : Nat → Prop := fun q => g.1 ≤ q
def q_G (g : GG) : Prop := (∀ j i, r32 (q_ff g j i)) ∧ g.2.2.2.2.2.1 ≤ 3584
def q_Z (g : GG) (U : State) (H : Heap) : Prop :=
  q_G g ∧ (∀ j, j < 3 → va_T .int (g.2.2.2.1 j) (q_fl g j) (fun i => .int (Int32.ofInt (q_ff g j i))) (q_A g) U H) ∧
  va_Z "CardNobodyReads" "TURNS" "[I" (.ref (g.2.2.2.1 1)) (q_A g) U H ∧ va_Z "CardNobodyReads" "KIND_ABOVE" "[I" (.ref (g.2.2.2.1 2)) (q_A g) U H ∧
  va_Z "java/lang/String" "COMPACT_STRINGS" "Z" (.int 1) (q_A g) U H ∧ va_Z "jdk/internal/util/Preconditions" "SIOOBE_FORMATTER" "Ljava/util/function/BiFunction;" (q_V (.inr (.inr g.2.2.2.2.1))) (q_A g) U H ∧
  vk_S 14 q_sl q_sB (fun i => g.2.2.2.1 (10 + i)) (fun i => g.2.2.2.1 (30 + i)) (q_A g) U H ∧
  (∀ (i : Nat) (q : String × Nat × String × List Int), q_str[i]? = some q → vk_R q.1 q.2.1 q.2.2.1 (g.2.2.2.1 (10 + i)) U)
theorem q_Z.warm {g : GG} {s U : State} {H : Heap} (hW : s.WarmedH U.vm) (h : q_Z g s H) : q_Z g U H := by
  obtain ⟨h0, h1, h2, h3, h4, h5, h6, h7⟩ := h
  exact ⟨h0, fun j hj => (h1 j hj).moved hW.alike, h2.moved hW.alike, h3.moved hW.alike, h4.moved hW.alike, h5.moved hW.alike, h6.moved hW.alike, fun i q hq => (h7 i q hq).warm hW⟩
theorem q_Z.kept {g : GG} {U : State} {H H1 : Heap} (h : q_Z g U H) (hq : ∀ a : Nat, a < H.size → ¬ q_A g a → H1[a]? = H[a]?) : q_Z g U H1 := by
  obtain ⟨h0, h1, h2, h3, h4, h5, h6, h7⟩ := h
  exact ⟨h0, fun j hj => (h1 j hj).kept hq, h2.kept hq, h3.kept hq, h4.kept hq, h5.kept hq, h6.kept hq, h7⟩
/-! the world -/
def q_P (g : GG) (S : SW) (M : Mem) (H : Heap) : Prop := va_P g.2.1 q_cl (q_W g.2.2.1 M 0 S) H ∧ va_D (q_A g) (q_W g.2.2.1 M 0 S)
def q_K (g : GG) (U : State) : Prop := va_K g.2.1 q_cl [(g.2.2.1, .int)] U
theorem q_K.moved {g : GG} {u U : State} (hvm : u.vm.Alike U.vm) (h : q_K g u) : q_K g U := va_K.moved hvm h
/-! locals -/
def q_L (lsR : Array Slot) (n : Nat) (ls : List (Option SV)) : Prop := lsR.size = n ∧ lv_wf lsR ∧ ∀ (i : Nat) (v : SV), ls[i]? = some (some v) → lsR[i]? = some (.val (q_V v))
def q_lv : Nat → List (Option SV) → List (Nat × Value)
  | _, [] => []
  | i, none :: l => q_lv (i + 1) l
  | i, some v :: l => (i, q_V v) :: q_lv (i + 1) l
theorem q_lv_mem : ∀ (l : List (Option SV)) (i : Nat) (q : Nat × Value), q ∈ q_lv i l ↔ ∃ (k : Nat) (v : SV), l[k]? = some (some v) ∧ q = (i + k, q_V v) := by
  intro l
  induction l with
  | nil => intro i q; simp [q_lv]
  | cons o l ih =>
    intro i q
    rcases o with _ | v
    · simp only [q_lv]
      rw [ih]
      constructor
      · rintro ⟨k, v, h1, h2⟩
        exact ⟨k + 1, v, by simpa using h1, by rw [h2, show i + 1 + k = i + (k + 1) by omega]⟩
      · rintro ⟨k, v, h1, h2⟩
        cases k with
        | zero => simp at h1
        | succ k => exact ⟨k, v, by simpa using h1, by rw [h2, show i + 1 + k = i + (k + 1) by omega]⟩
    · simp only [q_lv, List.mem_cons]
      rw [ih]
      constructor
      · rintro (h | ⟨k, w, h1, h2⟩)
        · exact ⟨0, v, rfl, h⟩
        · exact ⟨k + 1, w, by simpa using h1, by rw [h2, show i + 1 + k = i + (k + 1) by omega]⟩
      · rintro ⟨k, w, h1, h2⟩
        cases k with
        | zero => left; simp at h1; subst h1; exact h2
        | succ k => right; exact ⟨k, w, by simpa using h1, by rw [h2, show i + 1 + k = i + (k + 1) by omega]⟩
theorem q_L.has {lsR : Array Slot} {n : Nat} {ls : List (Option SV)} (h : q_L lsR n ls) : lv_has lsR n (q_lv 0 ls) := by
  refine ⟨h.1, h.2.1, fun q hq => ?_⟩
  obtain ⟨k, v, h1, rfl⟩ := (q_lv_mem ls 0 q).mp hq
  rw [Nat.zero_add]
  exact h.2.2 k v h1
def q_cat : SV → Nat
  | .inr (.inl _) => 2
  | _ => 1
theorem q_cat_eq (v : SV) : (q_V v).category = q_cat v := by
  rcases v with z | (z | (_ | a)) <;> rfl
/-- no long lies across the place -/
def q_nl (ls : List (Option SV)) : Nat → Bool
  | 0 => true
  | j + 1 => match ls[j]? with
    | some (some (.inr (.inl _))) => false
    | _ => true
theorem q_L.set1 {lsR : Array Slot} {n : Nat} {ls : List (Option SV)} {i : Nat} {v : SV} (hnl : q_nl ls i = true) (hi : i < ls.length) (h : lv_has lsR n ((i, q_V v) :: (q_lv 0 ls).filter (fun q => !(q.1 == i) && !(q.1 + 1 == i && q.2.category == 2)))) : q_L lsR n (ls.set i (some v)) := by
  refine ⟨h.1, h.2.1, fun j w hj => ?_⟩
  rw [List.getElem?_set] at hj
  by_cases e : i = j
  · subst e
    simp [hi] at hj
    subst hj
    exact h.2.2 _ List.mem_cons_self
  · simp [e] at hj
    refine h.2.2 (j, q_V w) (List.mem_cons_of_mem _ (List.mem_filter.mpr ⟨(q_lv_mem ls 0 _).mpr ⟨j, w, hj, by rw [Nat.zero_add]⟩, ?_⟩))
    have e1 : ¬ j = i := fun q => e q.symm
    have e2 : ¬ (j + 1 = i ∧ (q_V w).category = 2) := by
      rintro ⟨rfl, h2⟩
      rw [q_cat_eq] at h2
      rcases w with z | (z | o)
      · simp [q_cat] at h2
      · simp [q_nl, hj] at hnl
      · simp [q_cat] at h2
    simp [e1]
    exact Classical.not_and_iff_not_or_not.mp e2
theorem q_L.set2 {lsR : Array Slot} {n : Nat} {ls : List (Option SV)} {i : Nat} {z : Int} (hnl : q_nl ls i = true) (hi : i < ls.length) (h : lv_has lsR n ((i, Value.long (Int64.ofInt z)) :: (q_lv 0 ls).filter (fun q => !(q.1 == i) && (!(q.1 == i + 1) && !(q.1 + 1 == i && q.2.category == 2))))) : q_L lsR n ((ls.set i (some (.inr (.inl z)))).set (i + 1) none) := by
  refine ⟨h.1, h.2.1, fun j w hj => ?_⟩
  rw [List.getElem?_set] at hj
  by_cases e0 : i + 1 = j
  · subst e0
    by_cases hl : i + 1 < (ls.set i (some (.inr (.inl z)) : Option SV)).length
    · rw [if_pos rfl, if_pos hl] at hj
      cases hj
    · rw [if_pos rfl, if_neg hl] at hj
      cases hj
  rw [if_neg e0, List.getElem?_set] at hj
  by_cases e : i = j
  · subst e
    simp [hi] at hj
    subst hj
    exact h.2.2 _ List.mem_cons_self
  · simp [e] at hj
    refine h.2.2 (j, q_V w) (List.mem_cons_of_mem _ (List.mem_filter.mpr ⟨(q_lv_mem ls 0 _).mpr ⟨j, w, hj, by rw [Nat.zero_add]⟩, ?_⟩))
    have e1 : ¬ j = i := fun q => e q.symm
    have e3 : ¬ j = i + 1 := fun q => e0 q.symm
    have e2 : ¬ (j + 1 = i ∧ (q_V w).category = 2) := by
      rintro ⟨rfl, h2⟩
      rw [q_cat_eq] at h2
      rcases w with z | (z | o)
      · simp [q_cat] at h2
      · simp [q_nl, hj] at hnl
      · simp [q_cat] at h2
    simp [e1, e3]
    exact Classical.not_and_iff_not_or_not.mp e2
theorem q_RO.set {ls : List (Option SV)} (h : q_RO ls) {i : Nat} {v : SV} (hv : q_R v) : q_RO (ls.set i (some v)) := by
  intro w hw
  rcases List.mem_or_eq_of_mem_set hw with h1 | h1
  · exact h w h1
  · cases h1; exact hv
theorem q_RO.setN {ls : List (Option SV)} (h : q_RO ls) {i : Nat} : q_RO (ls.set i none) := by
  intro w hw
  rcases List.mem_or_eq_of_mem_set hw with h1 | h1
  · exact h w h1
  · cases h1
theorem q_RO.at {ls : List (Option SV)} (h : q_RO ls) {i : Nat} {v : SV} (hi : ls[i]? = some (some v)) : q_R v := h v (List.mem_of_getElem? hi)
/-! a run: from here on the method comes to its end with Post -/
abbrev PP : Type := Option SV → SW → Mem → Prop
def q_Q (g : GG) (Post : PP) : Array Value → State → Outcome → State → Prop := fun _ st o t =>
  (∃ (r : Option SV) (S' : SW) (M' : Mem), Post r S' M' ∧ (∀ v, r = some v → q_R v) ∧ q_RM M' ∧ o = .returned (r.map q_V) ∧ q_P g S' M' t.heap ∧ q_K g t) ∧ va_F (q_A g) st t
def q_C (mm : MM) (p : Program) (s : State) (m : MethodId) (meth : Method) (c : Code) : Prop :=
  p.tables.exec = Jvm.exec ∧ c.code = mm.2.1 ∧ meth.sig.returnType = mm.2.2.2 ∧ c.maxLocals = mm.2.2.1 ∧ s.vm.findClass mm.1.cls = some m.cls ∧ q_T s ∧ meth.locks = false ∧ meth.name = mm.1.name
/-- what holds at a point of a run -/
def q_X (g : GG) (mm : MM) (S : SW) (M : Mem) (ls : List (Option SV)) (p : Program) (s : State) (m : MethodId) (meth : Method) (c : Code) (H : Heap) (locs : List Loc) (lsR : Array Slot) : Prop :=
  q_C mm p s m meth c ∧ va_S (q_A g) s.heap H locs ∧ q_P g S M H ∧ q_K g s ∧ q_Z g s s.heap ∧ g.1 ≤ s.heap.size ∧ q_L lsR mm.2.2.1 ls
def RW (l : Launch) (g : GG) (mm : MM) (R : Room) (mc ms : Nat) (Post : PP) (pc : Nat) (S : SW) (M : Mem) (k n : Nat) (ls : List (Option SV)) (st : List SV) : Prop :=
  q_RO ls → q_RL st → q_RM M → ∀ (p : Program) (e : Env) (s : State) (m : MethodId) (args : Array Value) (below : List Frame) (meth : Method) (c : Code) (H : Heap) (locs : List Loc) (lsR : Array Slot),
    q_X g mm S M ls p s m meth c H locs lsR → W p l e R s m args below meth c H locs k n (MQ below (q_Q g Post) args s mc ms (q_A g)) (F0 m pc lsR (st.map q_V))
/-- a method's contract -/
def q_B (g : GG) (S : SW) (M : Mem) (U : State) : Prop := g.1 ≤ U.heap.size ∧ q_P g S M U.heap ∧ q_K g U ∧ q_Z g U U.heap ∧ q_T U
def q_rm (d mc ms : Nat) : Room := { frames := d, cells := mc, slots := ms, locals := 64 * d }
def CT (l : Launch) (g : GG) (mm : MM) (d mc ms : Nat) (S : SW) (M : Mem) (args : List SV) (Post : PP) : Prop :=
  q_RL args → q_RM M → Met l mm.1 [.code mm.1 mm.2.1 mm.2.2.1 mm.2.2.2] (q_rm d mc ms) (va_Pc (args.map q_V) (q_B g S M)) (q_Q g Post) mc ms (q_A g)
/-- an instruction of a code, its length, the place behind it -/
def q_d (c : ByteArray) (pc : Nat) (ins : Instr) (len pc' : Nat) : Prop := decode c pc = .ok (ins, len) ∧ pc + len = pc'
theorem q_dt {c : ByteArray} {t : List (Nat × Instr × Nat × Nat)} (h : ∀ q ∈ t, decode c q.1 = .ok (q.2.1, q.2.2.1) ∧ q.1 + q.2.2.1 = q.2.2.2) (i : Nat) {pc : Nat} {ins : Instr} {len pc' : Nat} (hi : t[i]? = some (pc, ins, len, pc')) : q_d c pc ins len pc' := h (pc, ins, len, pc') (List.mem_of_getElem? hi)
end
section
/-! one row an instruction, over RW -/
theorem lt32 {a b : Int} (ha : r32 a) (hb : r32 b) : Int32.ofInt a < Int32.ofInt b ↔ a < b := by rw [Int32.lt_iff_toInt_lt, ti32 ha, ti32 hb]
theorem le32 {a b : Int} (ha : r32 a) (hb : r32 b) : Int32.ofInt a ≤ Int32.ofInt b ↔ a ≤ b := by rw [Int32.le_iff_toInt_le, ti32 ha, ti32 hb]
theorem eq32 {a b : Int} (ha : r32 a) (hb : r32 b) : Int32.ofInt a = Int32.ofInt b ↔ a = b := by rw [← Int32.toInt_inj, ti32 ha, ti32 hb]
theorem lt64 {a b : Int} (ha : r64 a) (hb : r64 b) : Int64.ofInt a < Int64.ofInt b ↔ a < b := by rw [Int64.lt_iff_toInt_lt, ti64 ha, ti64 hb]
theorem eq64 {a b : Int} (ha : r64 a) (hb : r64 b) : Int64.ofInt a = Int64.ofInt b ↔ a = b := by rw [← Int64.toInt_inj, ti64 ha, ti64 hb]
theorem z32 : r32 0 := by unfold r32; omega
theorem z64 : r64 0 := by unfold r64; omega
theorem i0 : (0 : Int32) = Int32.ofInt 0 := rfl
theorem l0 : (0 : Int64) = Int64.ofInt 0 := rfl
def q_c (z : Int) : Bool := decide (-2147483648 ≤ z) && decide (z < 2147483648)
theorem q_c_r {z : Int} (h : q_c z = true) : r32 z := by
  unfold q_c at h
  simp only [Bool.and_eq_true, decide_eq_true_eq] at h
  exact h
theorem q_pos {m : Int} (h : 0 ≤ m) (hr : r32 m) : (Int32.ofInt m).toNatClampNeg = m.toNat := by
  have h1 := ti32 hr
  show (Int32.ofInt m).toInt.toNat = m.toNat
  rw [h1]
theorem q_in_vp {x : Int} {n : Nat} (hr : r32 x) (h : 0 ≤ x ∧ x < n) : vp_in (Int32.ofInt x) n := by
  rw [vp_in_iff, ti32 hr]
  exact h
section ROWS
variable {l : Launch} {g : GG} {mm : MM} {R : Room} {mc ms : Nat} {Post : PP} {pc : Nat} {S : SW} {M : Mem} {k n : Nat} {ls : List (Option SV)} {st : List SV}
theorem R_pure {pc' : Nat} {st' : List SV} (hr : q_RO ls → q_RL st → q_RL st')
    (row : q_RO ls → q_RL st → ∀ (p : Program) (e : Env) (s : State) (m : MethodId) (args : Array Value) (below : List Frame) (meth : Method) (c : Code) (H : Heap) (locs : List Loc) (lsR : Array Slot) (Q : State → Prop), q_X g mm S M ls p s m meth c H locs lsR → W p l e R s m args below meth c H locs k n Q (F0 m pc' lsR (st'.map q_V)) → W p l e R s m args below meth c H locs k n Q (F0 m pc lsR (st.map q_V)))
    (kk : RW l g mm R mc ms Post pc' S M k n ls st') : RW l g mm R mc ms Post pc S M k n ls st := by
  intro hl hs hM p e s m args below meth c H locs lsR X
  exact row hl hs p e s m args below meth c H locs lsR _ X (kk hl (hr hl hs) hM p e s m args below meth c H locs lsR X)
theorem R_mask {ls' : List (Option SV)} (bs : List Bool) (h : (bs.zipWith (fun b o => if b then o else none) ls) = ls') (kk : RW l g mm R mc ms Post pc S M k n ls' st) : RW l g mm R mc ms Post pc S M k n ls st := by
  have key : ∀ (i : Nat) (v : SV), ls'[i]? = some (some v) → ls[i]? = some (some v) := by
    intro i v hi
    rw [← h, List.getElem?_zipWith] at hi
    cases hb : bs[i]? with
    | none => simp [hb] at hi
    | some b =>
      cases ho : ls[i]? with
      | none => simp [hb, ho] at hi
      | some o => cases b <;> simp [hb, ho] at hi <;> rw [hi]
  intro hl hs hM p e s m args below meth c H locs lsR X
  refine kk (fun v hv => ?_) hs hM p e s m args below meth c H locs lsR ⟨X.1, X.2.1, X.2.2.1, X.2.2.2.1, X.2.2.2.2.1, X.2.2.2.2.2.1, X.2.2.2.2.2.2.1, X.2.2.2.2.2.2.2.1, fun i v hi => X.2.2.2.2.2.2.2.2 i v (key i v hi)⟩
  obtain ⟨i, hi⟩ := List.getElem?_of_mem hv
  exact hl.at (key i v hi)

theorem R_iadd {a b : Int} {pc' : Nat} (hd : q_d mm.2.1 pc (.iadd) 1 pc') (kk : RW l g mm R mc ms Post pc' S M k n ls (.inl (w32 (a + b)) :: st)) : RW l g mm R mc ms Post (pc) S M k n ls (.inl b :: .inl a :: st) := by
  obtain ⟨hd, rfl⟩ := hd
  exact R_pure (fun hl h => by exact q_RL.cons (w32_r _) h.tl.tl) (fun hl h p e s m args below meth c H locs lsR Q X kw => by exact lv_iadd X.1.1 X.1.2.1 hd (W.eq (by simp [q_V, of_w32, Int32.ofInt_add]) kw)) kk
theorem R_isub {a b : Int} {pc' : Nat} (hd : q_d mm.2.1 pc (.isub) 1 pc') (kk : RW l g mm R mc ms Post pc' S M k n ls (.inl (w32 (a - b)) :: st)) : RW l g mm R mc ms Post (pc) S M k n ls (.inl b :: .inl a :: st) := by
  obtain ⟨hd, rfl⟩ := hd
  exact R_pure (fun hl h => by exact q_RL.cons (w32_r _) h.tl.tl) (fun hl h p e s m args below meth c H locs lsR Q X kw => by exact lv_isub X.1.1 X.1.2.1 hd (W.eq (by simp [q_V, of_w32, Int32.ofInt_sub]) kw)) kk
theorem R_imul {a b : Int} {pc' : Nat} (hd : q_d mm.2.1 pc (.imul) 1 pc') (kk : RW l g mm R mc ms Post pc' S M k n ls (.inl (w32 (a * b)) :: st)) : RW l g mm R mc ms Post (pc) S M k n ls (.inl b :: .inl a :: st) := by
  obtain ⟨hd, rfl⟩ := hd
  exact R_pure (fun hl h => by exact q_RL.cons (w32_r _) h.tl.tl) (fun hl h p e s m args below meth c H locs lsR Q X kw => by exact lv_imul X.1.1 X.1.2.1 hd (W.eq (by simp [q_V, of_w32, Int32.ofInt_mul]) kw)) kk
theorem R_iand {a b : Int} {pc' : Nat} (hd : q_d mm.2.1 pc (.iand) 1 pc') (kk : RW l g mm R mc ms Post pc' S M k n ls (.inl (b_and a b) :: st)) : RW l g mm R mc ms Post (pc) S M k n ls (.inl b :: .inl a :: st) := by
  obtain ⟨hd, rfl⟩ := hd
  exact R_pure (fun hl h => by exact q_RL.cons (x32_r _) h.tl.tl) (fun hl h p e s m args below meth c H locs lsR Q X kw => by exact lv_iand X.1.1 X.1.2.1 hd (W.eq (by simp only [List.map_cons, q_V, b_and, Int32.ofInt_toInt, Int64.ofInt_toInt]) kw)) kk
theorem R_ior {a b : Int} {pc' : Nat} (hd : q_d mm.2.1 pc (.ior) 1 pc') (kk : RW l g mm R mc ms Post pc' S M k n ls (.inl (b_or a b) :: st)) : RW l g mm R mc ms Post (pc) S M k n ls (.inl b :: .inl a :: st) := by
  obtain ⟨hd, rfl⟩ := hd
  exact R_pure (fun hl h => by exact q_RL.cons (x32_r _) h.tl.tl) (fun hl h p e s m args below meth c H locs lsR Q X kw => by exact lv_ior X.1.1 X.1.2.1 hd (W.eq (by simp only [List.map_cons, q_V, b_or, Int32.ofInt_toInt, Int64.ofInt_toInt]) kw)) kk
theorem R_ixor {a b : Int} {pc' : Nat} (hd : q_d mm.2.1 pc (.ixor) 1 pc') (kk : RW l g mm R mc ms Post pc' S M k n ls (.inl (b_xor a b) :: st)) : RW l g mm R mc ms Post (pc) S M k n ls (.inl b :: .inl a :: st) := by
  obtain ⟨hd, rfl⟩ := hd
  exact R_pure (fun hl h => by exact q_RL.cons (x32_r _) h.tl.tl) (fun hl h p e s m args below meth c H locs lsR Q X kw => by exact lv_ixor X.1.1 X.1.2.1 hd (W.eq (by simp only [List.map_cons, q_V, b_xor, Int32.ofInt_toInt, Int64.ofInt_toInt]) kw)) kk
theorem R_ishl {a b : Int} {pc' : Nat} (hd : q_d mm.2.1 pc (.ishl) 1 pc') (kk : RW l g mm R mc ms Post pc' S M k n ls (.inl (b_shl a b) :: st)) : RW l g mm R mc ms Post (pc) S M k n ls (.inl b :: .inl a :: st) := by
  obtain ⟨hd, rfl⟩ := hd
  exact R_pure (fun hl h => by exact q_RL.cons (x32_r _) h.tl.tl) (fun hl h p e s m args below meth c H locs lsR Q X kw => by exact lv_ishl X.1.1 X.1.2.1 hd (W.eq (by simp only [List.map_cons, q_V, b_shl, Int32.ofInt_toInt, Int64.ofInt_toInt]) kw)) kk
theorem R_ishr {a b : Int} {pc' : Nat} (hd : q_d mm.2.1 pc (.ishr) 1 pc') (kk : RW l g mm R mc ms Post pc' S M k n ls (.inl (b_shr a b) :: st)) : RW l g mm R mc ms Post (pc) S M k n ls (.inl b :: .inl a :: st) := by
  obtain ⟨hd, rfl⟩ := hd
  exact R_pure (fun hl h => by exact q_RL.cons (x32_r _) h.tl.tl) (fun hl h p e s m args below meth c H locs lsR Q X kw => by exact lv_ishr X.1.1 X.1.2.1 hd (W.eq (by simp only [List.map_cons, q_V, b_shr, Int32.ofInt_toInt, Int64.ofInt_toInt]) kw)) kk
theorem R_iushr {a b : Int} {pc' : Nat} (hd : q_d mm.2.1 pc (.iushr) 1 pc') (kk : RW l g mm R mc ms Post pc' S M k n ls (.inl (b_ushr a b) :: st)) : RW l g mm R mc ms Post (pc) S M k n ls (.inl b :: .inl a :: st) := by
  obtain ⟨hd, rfl⟩ := hd
  exact R_pure (fun hl h => by exact q_RL.cons (x32_r _) h.tl.tl) (fun hl h p e s m args below meth c H locs lsR Q X kw => by exact lv_iushr X.1.1 X.1.2.1 hd rfl (W.eq (by simp only [List.map_cons, q_V, b_ushr, Int32.ofInt_toInt, Int64.ofInt_toInt]) kw)) kk
theorem R_idiv {a b : Int} (hb : b ≠ 0) {pc' : Nat} (hd : q_d mm.2.1 pc (.idiv) 1 pc') (kk : RW l g mm R mc ms Post pc' S M k n ls (.inl (b_div a b) :: st)) : RW l g mm R mc ms Post (pc) S M k n ls (.inl b :: .inl a :: st) := by
  obtain ⟨hd, rfl⟩ := hd
  exact R_pure (fun hl h => by exact q_RL.cons (x32_r _) h.tl.tl) (fun hl h p e s m args below meth c H locs lsR Q X kw => by exact lv_idiv X.1.1 X.1.2.1 hd (by rw [i0, eq32 h.hd z32]; exact hb) (W.eq (by simp only [List.map_cons, q_V, b_div, Int32.ofInt_toInt, Int64.ofInt_toInt]) kw)) kk
theorem R_irem {a b : Int} (hb : b ≠ 0) {pc' : Nat} (hd : q_d mm.2.1 pc (.irem) 1 pc') (kk : RW l g mm R mc ms Post pc' S M k n ls (.inl (b_rem a b) :: st)) : RW l g mm R mc ms Post (pc) S M k n ls (.inl b :: .inl a :: st) := by
  obtain ⟨hd, rfl⟩ := hd
  exact R_pure (fun hl h => by exact q_RL.cons (x32_r _) h.tl.tl) (fun hl h p e s m args below meth c H locs lsR Q X kw => by exact lv_irem X.1.1 X.1.2.1 hd (by rw [i0, eq32 h.hd z32]; exact hb) (W.eq (by simp only [List.map_cons, q_V, b_rem, Int32.ofInt_toInt, Int64.ofInt_toInt]) kw)) kk
theorem R_ineg {a : Int} {pc' : Nat} (hd : q_d mm.2.1 pc (.ineg) 1 pc') (kk : RW l g mm R mc ms Post pc' S M k n ls (.inl (w32 (-a)) :: st)) : RW l g mm R mc ms Post (pc) S M k n ls (.inl a :: st) := by
  obtain ⟨hd, rfl⟩ := hd
  exact R_pure (fun hl h => by exact q_RL.cons (w32_r _) h.tl) (fun hl h p e s m args below meth c H locs lsR Q X kw => by exact lv_ineg X.1.1 X.1.2.1 hd (W.eq (by simp [q_V, of_w32, Int32.ofInt_neg]) kw)) kk
theorem R_i2b {a : Int} {pc' : Nat} (hd : q_d mm.2.1 pc (.i2b) 1 pc') (kk : RW l g mm R mc ms Post pc' S M k n ls (.inl (b_i2b a) :: st)) : RW l g mm R mc ms Post (pc) S M k n ls (.inl a :: st) := by
  obtain ⟨hd, rfl⟩ := hd
  exact R_pure (fun hl h => by exact q_RL.cons (x32_r _) h.tl) (fun hl h p e s m args below meth c H locs lsR Q X kw => by exact lv_i2b X.1.1 X.1.2.1 hd rfl (W.eq (by simp only [List.map_cons, q_V, b_i2b, Int32.ofInt_toInt, Int64.ofInt_toInt]) kw)) kk
theorem R_i2s {a : Int} {pc' : Nat} (hd : q_d mm.2.1 pc (.i2s) 1 pc') (kk : RW l g mm R mc ms Post pc' S M k n ls (.inl (b_i2s a) :: st)) : RW l g mm R mc ms Post (pc) S M k n ls (.inl a :: st) := by
  obtain ⟨hd, rfl⟩ := hd
  exact R_pure (fun hl h => by exact q_RL.cons (x32_r _) h.tl) (fun hl h p e s m args below meth c H locs lsR Q X kw => by exact lv_i2s X.1.1 X.1.2.1 hd rfl (W.eq (by simp only [List.map_cons, q_V, b_i2s, Int32.ofInt_toInt, Int64.ofInt_toInt]) kw)) kk
theorem R_i2c {a : Int} {pc' : Nat} (hd : q_d mm.2.1 pc (.i2c) 1 pc') (kk : RW l g mm R mc ms Post pc' S M k n ls (.inl (b_i2c a) :: st)) : RW l g mm R mc ms Post (pc) S M k n ls (.inl a :: st) := by
  obtain ⟨hd, rfl⟩ := hd
  exact R_pure (fun hl h => by exact q_RL.cons (x32_r _) h.tl) (fun hl h p e s m args below meth c H locs lsR Q X kw => by exact lv_i2c X.1.1 X.1.2.1 hd rfl (W.eq (by simp only [List.map_cons, q_V, b_i2c, Int32.ofInt_toInt, Int64.ofInt_toInt]) kw)) kk
theorem ti_long {a : Int} (h : r32 a) : (Int32.ofInt a).toInt64 = Int64.ofInt a := by
  apply Int64.toInt_inj.1
  have h2 : r64 a := by unfold r32 at h; unfold r64; omega
  rw [Int32.toInt_toInt64, ti32 h, ti64 h2]
theorem r32_64 {a : Int} (h : r32 a) : r64 a := by unfold r32 at h; unfold r64; omega
theorem tl_int (a : Int) : (Int64.ofInt a).toInt32 = Int32.ofInt a := by simp
theorem R_i2l {a : Int} {pc' : Nat} (hd : q_d mm.2.1 pc (.i2l) 1 pc') (kk : RW l g mm R mc ms Post pc' S M k n ls (.inr (.inl (a)) :: st)) : RW l g mm R mc ms Post (pc) S M k n ls (.inl a :: st) := by
  obtain ⟨hd, rfl⟩ := hd
  exact R_pure (fun hl h => by exact q_RL.cons (r32_64 h.hd) h.tl) (fun hl h p e s m args below meth c H locs lsR Q X kw => by exact lv_i2l X.1.1 X.1.2.1 hd (ti_long h.hd) (W.eq (by simp [q_V]) kw)) kk
theorem R_l2i {a : Int} {pc' : Nat} (hd : q_d mm.2.1 pc (.l2i) 1 pc') (kk : RW l g mm R mc ms Post pc' S M k n ls (.inl (w32 a) :: st)) : RW l g mm R mc ms Post (pc) S M k n ls (.inr (.inl a) :: st) := by
  obtain ⟨hd, rfl⟩ := hd
  exact R_pure (fun hl h => by exact q_RL.cons (w32_r _) h.tl) (fun hl h p e s m args below meth c H locs lsR Q X kw => by exact lv_l2i X.1.1 X.1.2.1 hd (tl_int a) (W.eq (by simp [q_V, of_w32]) kw)) kk
theorem R_ladd {a b : Int} {pc' : Nat} (hd : q_d mm.2.1 pc (.ladd) 1 pc') (kk : RW l g mm R mc ms Post pc' S M k n ls (.inr (.inl (w64 (a + b))) :: st)) : RW l g mm R mc ms Post (pc) S M k n ls (.inr (.inl b) :: .inr (.inl a) :: st) := by
  obtain ⟨hd, rfl⟩ := hd
  exact R_pure (fun hl h => by exact q_RL.cons (w64_r _) h.tl.tl) (fun hl h p e s m args below meth c H locs lsR Q X kw => by exact lv_ladd X.1.1 X.1.2.1 hd (W.eq (by simp [q_V, of_w64, Int64.ofInt_add]) kw)) kk
theorem R_lmul {a b : Int} {pc' : Nat} (hd : q_d mm.2.1 pc (.lmul) 1 pc') (kk : RW l g mm R mc ms Post pc' S M k n ls (.inr (.inl (w64 (a * b))) :: st)) : RW l g mm R mc ms Post (pc) S M k n ls (.inr (.inl b) :: .inr (.inl a) :: st) := by
  obtain ⟨hd, rfl⟩ := hd
  exact R_pure (fun hl h => by exact q_RL.cons (w64_r _) h.tl.tl) (fun hl h p e s m args below meth c H locs lsR Q X kw => by exact lv_lmul X.1.1 X.1.2.1 hd (W.eq (by simp [q_V, of_w64, Int64.ofInt_mul]) kw)) kk
theorem R_ldiv {a b : Int} (hb : b ≠ 0) {pc' : Nat} (hd : q_d mm.2.1 pc (.ldiv) 1 pc') (kk : RW l g mm R mc ms Post pc' S M k n ls (.inr (.inl (b_ldiv a b)) :: st)) : RW l g mm R mc ms Post (pc) S M k n ls (.inr (.inl b) :: .inr (.inl a) :: st) := by
  obtain ⟨hd, rfl⟩ := hd
  exact R_pure (fun hl h => by exact q_RL.cons (x64_r _) h.tl.tl) (fun hl h p e s m args below meth c H locs lsR Q X kw => by exact lv_ldiv X.1.1 X.1.2.1 hd (by rw [l0, eq64 h.hd z64]; exact hb) (W.eq (by simp only [List.map_cons, q_V, b_ldiv, Int32.ofInt_toInt, Int64.ofInt_toInt]) kw)) kk
theorem R_lrem {a b : Int} (hb : b ≠ 0) {pc' : Nat} (hd : q_d mm.2.1 pc (.lrem) 1 pc') (kk : RW l g mm R mc ms Post pc' S M k n ls (.inr (.inl (b_lrem a b)) :: st)) : RW l g mm R mc ms Post (pc) S M k n ls (.inr (.inl b) :: .inr (.inl a) :: st) := by
  obtain ⟨hd, rfl⟩ := hd
  exact R_pure (fun hl h => by exact q_RL.cons (x64_r _) h.tl.tl) (fun hl h p e s m args below meth c H locs lsR Q X kw => by exact lv_lrem X.1.1 X.1.2.1 hd (by rw [l0, eq64 h.hd z64]; exact hb) (W.eq (by simp only [List.map_cons, q_V, b_lrem, Int32.ofInt_toInt, Int64.ofInt_toInt]) kw)) kk
def b_lcmp (a b : Int) : Int := if b < a then 1 else if a = b then 0 else -1
theorem b_lcmp_r (a b : Int) : r32 (b_lcmp a b) := by unfold b_lcmp r32; (repeat' split) <;> omega
theorem b_lcmp_of {a b : Int} (ha : r64 a) (hb : r64 b) : lg_cmp (Int64.ofInt a) (Int64.ofInt b) = Int32.ofInt (b_lcmp a b) := by
  unfold lg_cmp b_lcmp
  have h1 : (Int64.ofInt a > Int64.ofInt b) ↔ b < a := lt64 hb ha
  have h2 := eq64 ha hb
  by_cases c1 : b < a
  · rw [if_pos (h1.mpr c1), if_pos c1]; rfl
  · rw [if_neg (fun q => c1 (h1.mp q)), if_neg c1]
    by_cases c2 : a = b
    · rw [if_pos (h2.mpr c2), if_pos c2]; rfl
    · rw [if_neg (fun q => c2 (h2.mp q)), if_neg c2]; rfl
theorem R_lcmp {a b : Int} {pc' : Nat} (hd : q_d mm.2.1 pc (.lcmp) 1 pc') (kk : RW l g mm R mc ms Post pc' S M k n ls (.inl (b_lcmp a b) :: st)) : RW l g mm R mc ms Post (pc) S M k n ls (.inr (.inl b) :: .inr (.inl a) :: st) := by
  obtain ⟨hd, rfl⟩ := hd
  exact R_pure (fun hl h => by exact q_RL.cons (b_lcmp_r _ _) h.tl.tl) (fun hl h p e s m args below meth c H locs lsR Q X kw => by exact W.lcmp X.1.1 X.1.2.1 hd (W.eq (by rw [b_lcmp_of h.tl.hd h.hd]; rfl) kw)) kk
theorem R_iconst {z : Int} {pc' : Nat} (hd : q_d mm.2.1 pc (.iconst z) 1 pc') (hc : q_c z = true) (kk : RW l g mm R mc ms Post pc' S M k n ls (.inl z :: st)) : RW l g mm R mc ms Post (pc) S M k n ls (st) := by
  obtain ⟨hd, rfl⟩ := hd
  exact R_pure (fun hl h => by exact q_RL.cons (q_c_r hc) h) (fun hl h p e s m args below meth c H locs lsR Q X kw => by exact lv_iconst X.1.1 X.1.2.1 hd rfl kw) kk
theorem R_bipush {z : Int} {pc' : Nat} (hd : q_d mm.2.1 pc (.bipush z) 2 pc') (hc : q_c z = true) (hv : (Int8.ofInt z).toInt32 = Int32.ofInt z) (kk : RW l g mm R mc ms Post pc' S M k n ls (.inl z :: st)) : RW l g mm R mc ms Post (pc) S M k n ls (st) := by
  obtain ⟨hd, rfl⟩ := hd
  exact R_pure (fun hl h => by exact q_RL.cons (q_c_r hc) h) (fun hl h p e s m args below meth c H locs lsR Q X kw => by exact lv_bipush X.1.1 X.1.2.1 hd hv kw) kk
theorem R_sipush {z : Int} {pc' : Nat} (hd : q_d mm.2.1 pc (.sipush z) 3 pc') (hc : q_c z = true) (hv : (Int16.ofInt z).toInt32 = Int32.ofInt z) (kk : RW l g mm R mc ms Post pc' S M k n ls (.inl z :: st)) : RW l g mm R mc ms Post (pc) S M k n ls (st) := by
  obtain ⟨hd, rfl⟩ := hd
  exact R_pure (fun hl h => by exact q_RL.cons (q_c_r hc) h) (fun hl h p e s m args below meth c H locs lsR Q X kw => by exact lv_sipush X.1.1 X.1.2.1 hd hv kw) kk
theorem R_lconst {i : Fin 2} {z : Int} {pc' : Nat} (hd : q_d mm.2.1 pc (.lconst i) 1 pc') (hv : Int64.ofNat (i : Nat) = Int64.ofInt z) (hc : q_c z = true) (kk : RW l g mm R mc ms Post pc' S M k n ls (.inr (.inl z) :: st)) : RW l g mm R mc ms Post (pc) S M k n ls (st) := by
  obtain ⟨hd, rfl⟩ := hd
  exact R_pure (fun hl h => by exact q_RL.cons (r32_64 (q_c_r hc)) h) (fun hl h p e s m args below meth c H locs lsR Q X kw => by exact lv_lconst X.1.1 X.1.2.1 hd hv kw) kk
theorem R_ldc {z : Int} {index : Nat} (hw : q_in (.constant mm.1.cls index (Int32.ofInt z))) (hc : q_c z = true) {pc' : Nat} (hd : q_d mm.2.1 pc (.ldc index) 2 pc') (kk : RW l g mm R mc ms Post pc' S M k n ls (.inl z :: st)) : RW l g mm R mc ms Post (pc) S M k n ls (st) := by
  obtain ⟨hd, rfl⟩ := hd
  exact R_pure (fun hl h => by exact q_RL.cons (q_c_r hc) h) (fun hl h p e s m args below meth c H locs lsR Q X kw => by exact lv_ldc X.1.1 X.1.2.1 X.1.2.2.2.2.1 (X.1.2.2.2.2.2.1.use hw) hd kw) kk
theorem R_ldcw {z : Int} {index : Nat} (hw : q_in (.constant mm.1.cls index (Int32.ofInt z))) (hc : q_c z = true) {pc' : Nat} (hd : q_d mm.2.1 pc (.ldc_w index) 3 pc') (kk : RW l g mm R mc ms Post pc' S M k n ls (.inl z :: st)) : RW l g mm R mc ms Post (pc) S M k n ls (st) := by
  obtain ⟨hd, rfl⟩ := hd
  exact R_pure (fun hl h => by exact q_RL.cons (q_c_r hc) h) (fun hl h p e s m args below meth c H locs lsR Q X kw => by exact lv_ldcw X.1.1 X.1.2.1 X.1.2.2.2.2.1 (X.1.2.2.2.2.2.1.use hw) hd kw) kk
theorem R_ldc2 {z : Int} {index : Nat} (hw : q_in (.constantLong mm.1.cls index (Int64.ofInt z))) (hc : r64 z) {pc' : Nat} (hd : q_d mm.2.1 pc (.ldc2_w index) 3 pc') (kk : RW l g mm R mc ms Post pc' S M k n ls (.inr (.inl z) :: st)) : RW l g mm R mc ms Post (pc) S M k n ls (st) := by
  obtain ⟨hd, rfl⟩ := hd
  exact R_pure (fun hl h => by exact q_RL.cons hc h) (fun hl h p e s m args below meth c H locs lsR Q X kw => by exact lv_ldc2 X.1.1 X.1.2.1 X.1.2.2.2.2.1 (X.1.2.2.2.2.2.1.use hw) hd kw) kk
theorem R_ldcS (i : Nat) {q : String × Nat × String × List Int} (hq : q_str[i]? = some q) (ho : mm.1.cls = q.1) {pc' : Nat} (hd : q_d mm.2.1 pc (.ldc q.2.1) 2 pc') (kk : RW l g mm R mc ms Post pc' S M k n ls (.inr (.inr (some (g.2.2.2.1 (10 + i)))) :: st)) : RW l g mm R mc ms Post (pc) S M k n ls (st) := by
  obtain ⟨hd, rfl⟩ := hd
  exact R_pure (fun hl h => by exact q_RL.cons trivial h) (fun hl h p e s m args below meth c H locs lsR Q X kw => by exact va_ldcS X.1.1 X.1.2.1 (own := q.1) (by rw [← ho]; exact X.1.2.2.2.2.1) (X.2.2.2.2.1.2.2.2.2.2.2.2 i q hq) hd kw) kk
theorem R_dup {v : SV} (hv : q_cat v = 1) {pc' : Nat} (hd : q_d mm.2.1 pc (.dup) 1 pc') (kk : RW l g mm R mc ms Post pc' S M k n ls (v :: v :: st)) : RW l g mm R mc ms Post (pc) S M k n ls (v :: st) := by
  obtain ⟨hd, rfl⟩ := hd
  exact R_pure (fun hl h => by exact q_RL.cons h.hd h) (fun hl h p e s m args below meth c H locs lsR Q X kw => by exact lv_dup X.1.1 X.1.2.1 hd (by rw [q_cat_eq]; exact hv) kw) kk
theorem R_dup2 {v w : SV} (hv : q_cat v = 1) (hw : q_cat w = 1) {pc' : Nat} (hd : q_d mm.2.1 pc (.dup2) 1 pc') (kk : RW l g mm R mc ms Post pc' S M k n ls (v :: w :: v :: w :: st)) : RW l g mm R mc ms Post (pc) S M k n ls (v :: w :: st) := by
  obtain ⟨hd, rfl⟩ := hd
  exact R_pure (fun hl h => by exact q_RL.cons h.hd (q_RL.cons h.tl.hd h)) (fun hl h p e s m args below meth c H locs lsR Q X kw => by exact lv_dup2_11 X.1.1 X.1.2.1 hd (by rw [q_cat_eq]; exact hv) (by rw [q_cat_eq]; exact hw) kw) kk
theorem R_pop {v : SV} (hv : q_cat v = 1) {pc' : Nat} (hd : q_d mm.2.1 pc (.pop) 1 pc') (kk : RW l g mm R mc ms Post pc' S M k n ls (st)) : RW l g mm R mc ms Post (pc) S M k n ls (v :: st) := by
  obtain ⟨hd, rfl⟩ := hd
  exact R_pure (fun hl h => by exact h.tl) (fun hl h p e s m args below meth c H locs lsR Q X kw => by exact lv_pop X.1.1 X.1.2.1 hd (by rw [q_cat_eq]; exact hv) kw) kk
theorem R_goto {off : Int} {tgt : Nat} {pc' : Nat} (hd : q_d mm.2.1 pc (.goto off) 3 pc') (ht : (pc : Int) + off = (tgt : Int)) (kk : RW l g mm R mc ms Post (tgt) S M k n ls (st)) : RW l g mm R mc ms Post (pc) S M k n ls (st) := by
  obtain ⟨hd, rfl⟩ := hd
  exact R_pure (fun hl h => by exact h) (fun hl h p e s m args below meth c H locs lsR Q X kw => by exact lv_goto X.1.1 X.1.2.1 hd ht kw) kk
theorem R_iload {i : Nat} {x : Int} {pc' : Nat} (hd : q_d mm.2.1 pc (.iload i) 2 pc') (h : ls[i]? = some (some (.inl x))) (kk : RW l g mm R mc ms Post pc' S M k n ls (.inl x :: st)) : RW l g mm R mc ms Post (pc) S M k n ls (st) := by
  obtain ⟨hd, rfl⟩ := hd
  exact R_pure (fun hl hs => by exact q_RL.cons (hl.at h) hs) (fun hl hs p e s m args below meth c H locs lsR Q X kw => by exact lv_iload X.1.1 X.1.2.1 hd (X.2.2.2.2.2.2.2.2 i _ h) kw) kk
theorem R_iload_n {j : Fin 4} {i : Nat} {x : Int} {pc' : Nat} (hd : q_d mm.2.1 pc (.iload_n j) 1 pc') (hi : (j : Nat) = i) (h : ls[i]? = some (some (.inl x))) (kk : RW l g mm R mc ms Post pc' S M k n ls (.inl x :: st)) : RW l g mm R mc ms Post (pc) S M k n ls (st) := by
  obtain ⟨hd, rfl⟩ := hd
  exact R_pure (fun hl hs => by exact q_RL.cons (hl.at h) hs) (fun hl hs p e s m args below meth c H locs lsR Q X kw => by exact lv_iload_n X.1.1 X.1.2.1 hd hi (X.2.2.2.2.2.2.2.2 i _ h) kw) kk
theorem R_lload {i : Nat} {x : Int} {pc' : Nat} (hd : q_d mm.2.1 pc (.lload i) 2 pc') (h : ls[i]? = some (some (.inr (.inl x)))) (kk : RW l g mm R mc ms Post pc' S M k n ls (.inr (.inl x) :: st)) : RW l g mm R mc ms Post (pc) S M k n ls (st) := by
  obtain ⟨hd, rfl⟩ := hd
  exact R_pure (fun hl hs => by exact q_RL.cons (hl.at h) hs) (fun hl hs p e s m args below meth c H locs lsR Q X kw => by exact lv_lload X.1.1 X.1.2.1 hd (X.2.2.2.2.2.2.2.2 i _ h) kw) kk
theorem R_lload_n {j : Fin 4} {i : Nat} {x : Int} {pc' : Nat} (hd : q_d mm.2.1 pc (.lload_n j) 1 pc') (hi : (j : Nat) = i) (h : ls[i]? = some (some (.inr (.inl x)))) (kk : RW l g mm R mc ms Post pc' S M k n ls (.inr (.inl x) :: st)) : RW l g mm R mc ms Post (pc) S M k n ls (st) := by
  obtain ⟨hd, rfl⟩ := hd
  exact R_pure (fun hl hs => by exact q_RL.cons (hl.at h) hs) (fun hl hs p e s m args below meth c H locs lsR Q X kw => by exact lv_lload_n X.1.1 X.1.2.1 hd hi (X.2.2.2.2.2.2.2.2 i _ h) kw) kk
theorem R_aload {i : Nat} {x : Nat} {pc' : Nat} (hd : q_d mm.2.1 pc (.aload i) 2 pc') (h : ls[i]? = some (some (.inr (.inr (some x))))) (kk : RW l g mm R mc ms Post pc' S M k n ls (.inr (.inr (some x)) :: st)) : RW l g mm R mc ms Post (pc) S M k n ls (st) := by
  obtain ⟨hd, rfl⟩ := hd
  exact R_pure (fun hl hs => by exact q_RL.cons (hl.at h) hs) (fun hl hs p e s m args below meth c H locs lsR Q X kw => by exact lv_aload X.1.1 X.1.2.1 hd (X.2.2.2.2.2.2.2.2 i _ h) kw) kk
theorem R_aload_n {j : Fin 4} {i : Nat} {x : Nat} {pc' : Nat} (hd : q_d mm.2.1 pc (.aload_n j) 1 pc') (hi : (j : Nat) = i) (h : ls[i]? = some (some (.inr (.inr (some x))))) (kk : RW l g mm R mc ms Post pc' S M k n ls (.inr (.inr (some x)) :: st)) : RW l g mm R mc ms Post (pc) S M k n ls (st) := by
  obtain ⟨hd, rfl⟩ := hd
  exact R_pure (fun hl hs => by exact q_RL.cons (hl.at h) hs) (fun hl hs p e s m args below meth c H locs lsR Q X kw => by exact lv_aload_n X.1.1 X.1.2.1 hd hi (X.2.2.2.2.2.2.2.2 i _ h) kw) kk
theorem R_istore {i : Nat} {x : Int} {pc' : Nat} (hd : q_d mm.2.1 pc (.istore i) 2 pc') (hn : i < mm.2.2.1) (hi : i < ls.length) (hnl : q_nl ls i = true) {ls' : List (Option SV)} (he : (ls.set i (some (.inl x))) = ls') (kk : RW l g mm R mc ms Post pc' S M k n ls' (st)) : RW l g mm R mc ms Post (pc) S M k n ls (.inl x :: st) := by
  obtain ⟨hd, rfl⟩ := hd
  subst he
  intro hl hs hM p e s m args below meth c H locs lsR X
  exact lv_istore X.1.1 X.1.2.1 hd (X.2.2.2.2.2.2.has) hn rfl (fun lsR' hh => kk (hl.set hs.hd) hs.tl hM p e s m args below meth c H locs lsR' ⟨X.1, X.2.1, X.2.2.1, X.2.2.2.1, X.2.2.2.2.1, X.2.2.2.2.2.1, q_L.set1 hnl hi hh⟩)
theorem R_istore_n {j : Fin 4} {i : Nat} {x : Int} {pc' : Nat} (hd : q_d mm.2.1 pc (.istore_n j) 1 pc') (hj : (j : Nat) = i) (hn : i < mm.2.2.1) (hi : i < ls.length) (hnl : q_nl ls i = true) {ls' : List (Option SV)} (he : (ls.set i (some (.inl x))) = ls') (kk : RW l g mm R mc ms Post pc' S M k n ls' (st)) : RW l g mm R mc ms Post (pc) S M k n ls (.inl x :: st) := by
  obtain ⟨hd, rfl⟩ := hd
  subst he
  intro hl hs hM p e s m args below meth c H locs lsR X
  exact lv_istore_n X.1.1 X.1.2.1 hd hj (X.2.2.2.2.2.2.has) hn rfl (fun lsR' hh => kk (hl.set hs.hd) hs.tl hM p e s m args below meth c H locs lsR' ⟨X.1, X.2.1, X.2.2.1, X.2.2.2.1, X.2.2.2.2.1, X.2.2.2.2.2.1, q_L.set1 hnl hi hh⟩)
theorem R_astore {i : Nat} {x : Nat} {pc' : Nat} (hd : q_d mm.2.1 pc (.astore i) 2 pc') (hn : i < mm.2.2.1) (hi : i < ls.length) (hnl : q_nl ls i = true) {ls' : List (Option SV)} (he : (ls.set i (some (.inr (.inr (some x))))) = ls') (kk : RW l g mm R mc ms Post pc' S M k n ls' (st)) : RW l g mm R mc ms Post (pc) S M k n ls (.inr (.inr (some x)) :: st) := by
  obtain ⟨hd, rfl⟩ := hd
  subst he
  intro hl hs hM p e s m args below meth c H locs lsR X
  exact lv_astore X.1.1 X.1.2.1 hd (X.2.2.2.2.2.2.has) hn rfl (fun lsR' hh => kk (hl.set hs.hd) hs.tl hM p e s m args below meth c H locs lsR' ⟨X.1, X.2.1, X.2.2.1, X.2.2.2.1, X.2.2.2.2.1, X.2.2.2.2.2.1, q_L.set1 hnl hi hh⟩)
theorem R_astore_n {j : Fin 4} {i : Nat} {x : Nat} {pc' : Nat} (hd : q_d mm.2.1 pc (.astore_n j) 1 pc') (hj : (j : Nat) = i) (hn : i < mm.2.2.1) (hi : i < ls.length) (hnl : q_nl ls i = true) {ls' : List (Option SV)} (he : (ls.set i (some (.inr (.inr (some x))))) = ls') (kk : RW l g mm R mc ms Post pc' S M k n ls' (st)) : RW l g mm R mc ms Post (pc) S M k n ls (.inr (.inr (some x)) :: st) := by
  obtain ⟨hd, rfl⟩ := hd
  subst he
  intro hl hs hM p e s m args below meth c H locs lsR X
  exact lv_astore_n X.1.1 X.1.2.1 hd hj (X.2.2.2.2.2.2.has) hn rfl (fun lsR' hh => kk (hl.set hs.hd) hs.tl hM p e s m args below meth c H locs lsR' ⟨X.1, X.2.1, X.2.2.1, X.2.2.2.1, X.2.2.2.2.1, X.2.2.2.2.2.1, q_L.set1 hnl hi hh⟩)
theorem R_lstore {i : Nat} {x : Int} {pc' : Nat} (hd : q_d mm.2.1 pc (.lstore i) 2 pc') (hn : i + 1 < mm.2.2.1) (hi : i < ls.length) (hnl : q_nl ls i = true) {ls' : List (Option SV)} (he : ((ls.set i (some (.inr (.inl x)))).set (i + 1) none) = ls') (kk : RW l g mm R mc ms Post pc' S M k n ls' (st)) : RW l g mm R mc ms Post (pc) S M k n ls (.inr (.inl x) :: st) := by
  obtain ⟨hd, rfl⟩ := hd
  subst he
  intro hl hs hM p e s m args below meth c H locs lsR X
  exact lv_lstore X.1.1 X.1.2.1 hd (X.2.2.2.2.2.2.has) hn rfl (fun lsR' hh => kk (hl.set hs.hd).setN hs.tl hM p e s m args below meth c H locs lsR' ⟨X.1, X.2.1, X.2.2.1, X.2.2.2.1, X.2.2.2.2.1, X.2.2.2.2.2.1, q_L.set2 hnl hi hh⟩)
theorem R_lstore_n {j : Fin 4} {i : Nat} {x : Int} {pc' : Nat} (hd : q_d mm.2.1 pc (.lstore_n j) 1 pc') (hj : (j : Nat) = i) (hn : i + 1 < mm.2.2.1) (hi : i < ls.length) (hnl : q_nl ls i = true) {ls' : List (Option SV)} (he : ((ls.set i (some (.inr (.inl x)))).set (i + 1) none) = ls') (kk : RW l g mm R mc ms Post pc' S M k n ls' (st)) : RW l g mm R mc ms Post (pc) S M k n ls (.inr (.inl x) :: st) := by
  obtain ⟨hd, rfl⟩ := hd
  subst he
  intro hl hs hM p e s m args below meth c H locs lsR X
  exact lv_lstore_n X.1.1 X.1.2.1 hd hj (X.2.2.2.2.2.2.has) hn rfl (fun lsR' hh => kk (hl.set hs.hd).setN hs.tl hM p e s m args below meth c H locs lsR' ⟨X.1, X.2.1, X.2.2.1, X.2.2.2.1, X.2.2.2.2.1, X.2.2.2.2.2.1, q_L.set2 hnl hi hh⟩)
theorem R_iinc {i : Nat} {x d : Int} {pc' : Nat} (hd : q_d mm.2.1 pc (.iinc i d) 3 pc') (h : ls[i]? = some (some (.inl x))) (hn : i < mm.2.2.1) (hnl : q_nl ls i = true) {ls' : List (Option SV)} (he : ls.set i (some (.inl (w32 (x + d)))) = ls') (kk : RW l g mm R mc ms Post pc' S M k n ls' (st)) : RW l g mm R mc ms Post (pc) S M k n ls (st) := by
  obtain ⟨hd, rfl⟩ := hd
  subst he
  intro hl hs hM p e s m args below meth c H locs lsR X
  have hi : i < ls.length := (List.getElem?_eq_some_iff.mp h).1
  have hm : (i, Value.int (Int32.ofInt x)) ∈ q_lv 0 ls := (q_lv_mem ls 0 _).mpr ⟨i, _, h, by rw [Nat.zero_add]; rfl⟩
  obtain ⟨j, hj⟩ := List.getElem?_of_mem hm
  refine lv_iinc (v := Int32.ofInt (w32 (x + d))) X.1.1 X.1.2.1 hd (X.2.2.2.2.2.2.has) hj (by rw [of_w32, Int32.ofInt_add]) hn rfl (fun lsR' hh => kk (hl.set (w32_r _)) hs hM p e s m args below meth c H locs lsR' ⟨X.1, X.2.1, X.2.2.1, X.2.2.2.1, X.2.2.2.2.1, X.2.2.2.2.2.1, q_L.set1 hnl hi hh⟩)
theorem R_icmp_eq {a b : Int} {off : Int} {tgt : Nat} {pc' : Nat} (hd : q_d mm.2.1 pc (.if_icmp .eq off) 3 pc') (ht : (pc : Int) + off = (tgt : Int)) (kt : a = b → RW l g mm R mc ms Post (tgt) S M k n ls (st)) (kf : ¬ (a = b) → RW l g mm R mc ms Post pc' S M k n ls (st)) : RW l g mm R mc ms Post (pc) S M k n ls (.inl b :: .inl a :: st) := by
  obtain ⟨hd, rfl⟩ := hd
  intro hl hs hM p e s m args below meth c H locs lsR X
  have hc : Int32.ofInt a = Int32.ofInt b ↔ a = b := eq32 hs.tl.hd hs.hd
  exact lv_icmp_eq X.1.1 X.1.2.1 hd ht (fun q => kt (hc.mp q) hl hs.tl.tl hM p e s m args below meth c H locs lsR X) (fun q => kf (fun z => q (hc.mpr z)) hl hs.tl.tl hM p e s m args below meth c H locs lsR X)
theorem R_icmp_ne {a b : Int} {off : Int} {tgt : Nat} {pc' : Nat} (hd : q_d mm.2.1 pc (.if_icmp .ne off) 3 pc') (ht : (pc : Int) + off = (tgt : Int)) (kt : ¬ (a = b) → RW l g mm R mc ms Post (tgt) S M k n ls (st)) (kf : a = b → RW l g mm R mc ms Post pc' S M k n ls (st)) : RW l g mm R mc ms Post (pc) S M k n ls (.inl b :: .inl a :: st) := by
  obtain ⟨hd, rfl⟩ := hd
  intro hl hs hM p e s m args below meth c H locs lsR X
  have hc : _ ↔ a = b := eq32 hs.tl.hd hs.hd
  exact lv_icmp_ne X.1.1 X.1.2.1 hd ht (fun q => kt (fun z => q (hc.mpr z)) hl hs.tl.tl hM p e s m args below meth c H locs lsR X) (fun q => kf (hc.mp q) hl hs.tl.tl hM p e s m args below meth c H locs lsR X)
theorem R_icmp_lt {a b : Int} {off : Int} {tgt : Nat} {pc' : Nat} (hd : q_d mm.2.1 pc (.if_icmp .lt off) 3 pc') (ht : (pc : Int) + off = (tgt : Int)) (kt : a < b → RW l g mm R mc ms Post (tgt) S M k n ls (st)) (kf : ¬ (a < b) → RW l g mm R mc ms Post pc' S M k n ls (st)) : RW l g mm R mc ms Post (pc) S M k n ls (.inl b :: .inl a :: st) := by
  obtain ⟨hd, rfl⟩ := hd
  intro hl hs hM p e s m args below meth c H locs lsR X
  have hc : Int32.ofInt a < Int32.ofInt b ↔ a < b := lt32 hs.tl.hd hs.hd
  exact lv_icmp_lt X.1.1 X.1.2.1 hd ht (fun q => kt (hc.mp q) hl hs.tl.tl hM p e s m args below meth c H locs lsR X) (fun q => kf (fun z => q (hc.mpr z)) hl hs.tl.tl hM p e s m args below meth c H locs lsR X)
theorem R_icmp_ge {a b : Int} {off : Int} {tgt : Nat} {pc' : Nat} (hd : q_d mm.2.1 pc (.if_icmp .ge off) 3 pc') (ht : (pc : Int) + off = (tgt : Int)) (kt : ¬ a < b → RW l g mm R mc ms Post (tgt) S M k n ls (st)) (kf : a < b → RW l g mm R mc ms Post pc' S M k n ls (st)) : RW l g mm R mc ms Post (pc) S M k n ls (.inl b :: .inl a :: st) := by
  obtain ⟨hd, rfl⟩ := hd
  intro hl hs hM p e s m args below meth c H locs lsR X
  have hc : Int32.ofInt b ≤ Int32.ofInt a ↔ ¬ a < b := by rw [← lt32 hs.tl.hd hs.hd]; exact Int32.not_lt.symm
  exact lv_icmp_ge X.1.1 X.1.2.1 hd ht (fun q => kt (hc.mp q) hl hs.tl.tl hM p e s m args below meth c H locs lsR X) (fun q => kf (Decidable.of_not_not (fun z => q (hc.mpr z))) hl hs.tl.tl hM p e s m args below meth c H locs lsR X)
theorem R_icmp_gt {a b : Int} {off : Int} {tgt : Nat} {pc' : Nat} (hd : q_d mm.2.1 pc (.if_icmp .gt off) 3 pc') (ht : (pc : Int) + off = (tgt : Int)) (kt : b < a → RW l g mm R mc ms Post (tgt) S M k n ls (st)) (kf : ¬ (b < a) → RW l g mm R mc ms Post pc' S M k n ls (st)) : RW l g mm R mc ms Post (pc) S M k n ls (.inl b :: .inl a :: st) := by
  obtain ⟨hd, rfl⟩ := hd
  intro hl hs hM p e s m args below meth c H locs lsR X
  have hc : Int32.ofInt b < Int32.ofInt a ↔ b < a := lt32 hs.hd hs.tl.hd
  exact lv_icmp_gt X.1.1 X.1.2.1 hd ht (fun q => kt (hc.mp q) hl hs.tl.tl hM p e s m args below meth c H locs lsR X) (fun q => kf (fun z => q (hc.mpr z)) hl hs.tl.tl hM p e s m args below meth c H locs lsR X)
theorem R_icmp_le {a b : Int} {off : Int} {tgt : Nat} {pc' : Nat} (hd : q_d mm.2.1 pc (.if_icmp .le off) 3 pc') (ht : (pc : Int) + off = (tgt : Int)) (kt : ¬ b < a → RW l g mm R mc ms Post (tgt) S M k n ls (st)) (kf : b < a → RW l g mm R mc ms Post pc' S M k n ls (st)) : RW l g mm R mc ms Post (pc) S M k n ls (.inl b :: .inl a :: st) := by
  obtain ⟨hd, rfl⟩ := hd
  intro hl hs hM p e s m args below meth c H locs lsR X
  have hc : Int32.ofInt a ≤ Int32.ofInt b ↔ ¬ b < a := by rw [← lt32 hs.hd hs.tl.hd]; exact Int32.not_lt.symm
  exact lv_icmp_le X.1.1 X.1.2.1 hd ht (fun q => kt (hc.mp q) hl hs.tl.tl hM p e s m args below meth c H locs lsR X) (fun q => kf (Decidable.of_not_not (fun z => q (hc.mpr z))) hl hs.tl.tl hM p e s m args below meth c H locs lsR X)
theorem R_if_eq {a : Int} {off : Int} {tgt : Nat} {pc' : Nat} (hd : q_d mm.2.1 pc (.ifCond .eq off) 3 pc') (ht : (pc : Int) + off = (tgt : Int)) (kt : a = 0 → RW l g mm R mc ms Post (tgt) S M k n ls (st)) (kf : ¬ (a = 0) → RW l g mm R mc ms Post pc' S M k n ls (st)) : RW l g mm R mc ms Post (pc) S M k n ls (.inl a :: st) := by
  obtain ⟨hd, rfl⟩ := hd
  intro hl hs hM p e s m args below meth c H locs lsR X
  have hc : Int32.ofInt a = 0 ↔ a = 0 := by rw [i0]; exact eq32 hs.hd z32
  exact lv_if_eq X.1.1 X.1.2.1 hd ht (fun q => kt (hc.mp q) hl hs.tl hM p e s m args below meth c H locs lsR X) (fun q => kf (fun z => q (hc.mpr z)) hl hs.tl hM p e s m args below meth c H locs lsR X)
theorem R_if_lt {a : Int} {off : Int} {tgt : Nat} {pc' : Nat} (hd : q_d mm.2.1 pc (.ifCond .lt off) 3 pc') (ht : (pc : Int) + off = (tgt : Int)) (kt : a < 0 → RW l g mm R mc ms Post (tgt) S M k n ls (st)) (kf : ¬ (a < 0) → RW l g mm R mc ms Post pc' S M k n ls (st)) : RW l g mm R mc ms Post (pc) S M k n ls (.inl a :: st) := by
  obtain ⟨hd, rfl⟩ := hd
  intro hl hs hM p e s m args below meth c H locs lsR X
  have hc : Int32.ofInt a < 0 ↔ a < 0 := by rw [i0]; exact lt32 hs.hd z32
  exact lv_if_lt X.1.1 X.1.2.1 hd ht (fun q => kt (hc.mp q) hl hs.tl hM p e s m args below meth c H locs lsR X) (fun q => kf (fun z => q (hc.mpr z)) hl hs.tl hM p e s m args below meth c H locs lsR X)
theorem R_if_ge {a : Int} {off : Int} {tgt : Nat} {pc' : Nat} (hd : q_d mm.2.1 pc (.ifCond .ge off) 3 pc') (ht : (pc : Int) + off = (tgt : Int)) (kt : ¬ a < 0 → RW l g mm R mc ms Post (tgt) S M k n ls (st)) (kf : a < 0 → RW l g mm R mc ms Post pc' S M k n ls (st)) : RW l g mm R mc ms Post (pc) S M k n ls (.inl a :: st) := by
  obtain ⟨hd, rfl⟩ := hd
  intro hl hs hM p e s m args below meth c H locs lsR X
  have hc : 0 ≤ Int32.ofInt a ↔ ¬ a < 0 := by rw [i0, ← lt32 hs.hd z32]; exact Int32.not_lt.symm
  exact lv_if_ge X.1.1 X.1.2.1 hd ht (fun q => kt (hc.mp q) hl hs.tl hM p e s m args below meth c H locs lsR X) (fun q => kf (Decidable.of_not_not (fun z => q (hc.mpr z))) hl hs.tl hM p e s m args below meth c H locs lsR X)
theorem R_if_gt {a : Int} {off : Int} {tgt : Nat} {pc' : Nat} (hd : q_d mm.2.1 pc (.ifCond .gt off) 3 pc') (ht : (pc : Int) + off = (tgt : Int)) (kt : 0 < a → RW l g mm R mc ms Post (tgt) S M k n ls (st)) (kf : ¬ (0 < a) → RW l g mm R mc ms Post pc' S M k n ls (st)) : RW l g mm R mc ms Post (pc) S M k n ls (.inl a :: st) := by
  obtain ⟨hd, rfl⟩ := hd
  intro hl hs hM p e s m args below meth c H locs lsR X
  have hc : 0 < Int32.ofInt a ↔ 0 < a := by rw [i0]; exact lt32 z32 hs.hd
  exact lv_if_gt X.1.1 X.1.2.1 hd ht (fun q => kt (hc.mp q) hl hs.tl hM p e s m args below meth c H locs lsR X) (fun q => kf (fun z => q (hc.mpr z)) hl hs.tl hM p e s m args below meth c H locs lsR X)
theorem R_if_le {a : Int} {off : Int} {tgt : Nat} {pc' : Nat} (hd : q_d mm.2.1 pc (.ifCond .le off) 3 pc') (ht : (pc : Int) + off = (tgt : Int)) (kt : ¬ 0 < a → RW l g mm R mc ms Post (tgt) S M k n ls (st)) (kf : 0 < a → RW l g mm R mc ms Post pc' S M k n ls (st)) : RW l g mm R mc ms Post (pc) S M k n ls (.inl a :: st) := by
  obtain ⟨hd, rfl⟩ := hd
  intro hl hs hM p e s m args below meth c H locs lsR X
  have hc : Int32.ofInt a ≤ 0 ↔ ¬ 0 < a := by rw [i0, ← lt32 z32 hs.hd]; exact Int32.not_lt.symm
  exact lv_if_le X.1.1 X.1.2.1 hd ht (fun q => kt (hc.mp q) hl hs.tl hM p e s m args below meth c H locs lsR X) (fun q => kf (Decidable.of_not_not (fun z => q (hc.mpr z))) hl hs.tl hM p e s m args below meth c H locs lsR X)
theorem R_if_ne {a : Int} {off : Int} {tgt : Nat} {pc' : Nat} (hd : q_d mm.2.1 pc (.ifCond .ne off) 3 pc') (ht : (pc : Int) + off = (tgt : Int)) (kt : ¬ (a = 0) → RW l g mm R mc ms Post (tgt) S M k n ls (st)) (kf : a = 0 → RW l g mm R mc ms Post pc' S M k n ls (st)) : RW l g mm R mc ms Post (pc) S M k n ls (.inl a :: st) := by
  obtain ⟨hd, rfl⟩ := hd
  intro hl hs hM p e s m args below meth c H locs lsR X
  have hc : Int32.ofInt a = 0 ↔ a = 0 := by rw [i0]; exact eq32 hs.hd z32
  exact lv_if_ne X.1.1 X.1.2.1 hd ht (fun q => kt (fun z => q (hc.mpr z)) hl hs.tl hM p e s m args below meth c H locs lsR X) (fun q => kf (hc.mp q) hl hs.tl hM p e s m args below meth c H locs lsR X)
theorem R_tsIn {dflt lo hi : Int} {offs : Array Int} {len : Nat} {x c0 : Int} {off : Int} {tgt : Nat} {pc' : Nat} (hd : q_d mm.2.1 pc (.tableswitch dflt lo hi offs) len pc') (hx : x = c0) (h1 : ¬ c0 < lo) (h2 : ¬ hi < c0) (ho : offs[(c0 - lo).toNat]? = some off) (ht : (pc : Int) + off = (tgt : Int)) (kk : RW l g mm R mc ms Post (tgt) S M k n ls (st)) : RW l g mm R mc ms Post (pc) S M k n ls (.inl x :: st) := by
  obtain ⟨hd, rfl⟩ := hd
  subst hx
  intro hl hs hM p e s m args below meth c H locs lsR X
  exact lv_tableIn X.1.1 X.1.2.1 hd (by rw [ti32 hs.hd]; exact h1) (by rw [ti32 hs.hd]; exact h2) (by rw [ti32 hs.hd]; exact ho) ht (kk hl hs.tl hM p e s m args below meth c H locs lsR X)
theorem R_tsOut {dflt lo hi : Int} {offs : Array Int} {len : Nat} {x : Int} {tgt : Nat} {pc' : Nat} (hd : q_d mm.2.1 pc (.tableswitch dflt lo hi offs) len pc') (h : x < lo ∨ hi < x) (ht : (pc : Int) + dflt = (tgt : Int)) (kk : RW l g mm R mc ms Post (tgt) S M k n ls (st)) : RW l g mm R mc ms Post (pc) S M k n ls (.inl x :: st) := by
  obtain ⟨hd, rfl⟩ := hd
  intro hl hs hM p e s m args below meth c H locs lsR X
  exact lv_tableOut X.1.1 X.1.2.1 hd (by rw [ti32 hs.hd]; exact h) ht (kk hl hs.tl hM p e s m args below meth c H locs lsR X)
theorem R_lookup {dflt : Int} {ps : Array (Int × Int)} {len : Nat} {x : Int} {off : Int} {tgt : Nat} {pc' : Nat} (hd : q_d mm.2.1 pc (.lookupswitch dflt ps) len pc') (hp : (ps.toList.zip (ps.toList.drop 1)).all (fun (a, next) => a.1 < next.1) = true) (ho : Op.lookupswitch.offset ps.toList dflt x = off) (ht : (pc : Int) + off = (tgt : Int)) (kk : RW l g mm R mc ms Post (tgt) S M k n ls (st)) : RW l g mm R mc ms Post (pc) S M k n ls (.inl x :: st) := by
  obtain ⟨hd, rfl⟩ := hd
  intro hl hs hM p e s m args below meth c H locs lsR X
  exact lv_lookup X.1.1 X.1.2.1 hd hp (by rw [ti32 hs.hd]; exact ho) ht (kk hl hs.tl hM p e s m args below meth c H locs lsR X)
end ROWS
end
section
/-! fields, rows of numbers, new cells, calls, ends -/
def q_cg (ci : Nat) (C : String) (T : u_T) (N : Nat) (ty : Nat → FieldType) : Prop := q_cl[ci]? = some (C, T, N) ∧ (∀ w ∈ u_ws C T N, q_in w) ∧ (∀ k, k < N → parseFieldDescriptor (T k).2.2.1 = some (ty k)) ∧ (∀ a, a < N → ∀ b, b < N → a ≠ b → (T a).2.1 ≠ (T b).2.1)
def q_fk (own : String) (index : Nat) (t : String × String × String × Bool) : Prop := q_in (.fieldLink own index t.1 t.2.1 t.2.2.1) ∨ ∃ host, q_in (.fieldLinkNest own index t.1 t.2.1 t.2.2.1 host)
theorem mup_self (M : Mem) (k : Nat) : mup M k (M k) = M := by
  funext i
  unfold mup
  split
  · next h => rw [h]
  · rfl
theorem q_W_put {cI : ClassId} {M : Mem} {S : SW} {i a ci j : Nat} {fs : List (Option (Option Nat))} (v : Int) (hS : S[i]? = some (a, .inr (ci, fs))) (hf : fs[j]? = some none) :
    (q_W cI M 0 S).set i (a, .inr (ci, (q_F (M i) 0 fs).set j (.int (Int32.ofInt v)))) = q_W cI (mset M i j v) 0 S := by
  rw [q_F_set v hf, mset_mup]
  have h := q_W_set (cI := cI) (M := M) (c' := .inr (ci, fs)) (fun x => if x = j then v else M i x) hS
  rw [q_set_same hS] at h
  exact h
theorem q_W_putR {cI : ClassId} {M : Mem} {S : SW} {i a ci j : Nat} {fs : List (Option (Option Nat))} (r : Option Nat) (hS : S[i]? = some (a, .inr (ci, fs))) (hf : j < fs.length) :
    (q_W cI M 0 S).set i (a, .inr (ci, (q_F (M i) 0 fs).set j (q_V (.inr (.inr r))))) = q_W cI M 0 (S.set i (a, .inr (ci, fs.set j (some r)))) := by
  rw [q_F_setR r hf]
  have h := q_W_set (cI := cI) (M := M) (c' := .inr (ci, fs.set j (some r))) (M i) hS
  rw [mup_self] at h
  exact h
theorem q_W_upd {cI : ClassId} {M : Mem} {S : SW} {i a N : Nat} (x : Nat) (v : Int) (hS : S[i]? = some (a, .inl N)) :
    (q_W cI M 0 S).set i (a, .inl (cI, N, .inl (upd (fun j => Int32.ofInt (M i j)) x (Int32.ofInt v)))) = q_W cI (mset M i x v) 0 S := by
  have e : upd (fun j => Int32.ofInt (M i j)) x (Int32.ofInt v) = fun j => Int32.ofInt (if j = x then v else M i j) := by
    funext j
    unfold upd
    split <;> rfl
  rw [e, mset_mup]
  have h := q_W_set (cI := cI) (M := M) (c' := .inl N) (fun j => if j = x then v else M i j) hS
  rw [q_set_same hS] at h
  exact h
section CELLS
variable {l : Launch} {g : GG} {mm : MM} {R : Room} {mc ms : Nat} {Post : PP} {pc : Nat} {S : SW} {M : Mem} {k n : Nat} {ls : List (Option SV)} {st : List SV}
theorem R_getI {ci N : Nat} {C : String} {T : u_T} {ty : Nat → FieldType} (hC : q_cg ci C T N ty) (i : Nat) {a : Nat} {fs : List (Option (Option Nat))} (hS : S[i]? = some (a, .inr (ci, fs))) (j : Nat) (hj : j < N) (hf : fs[j]? = some none) {index : Nat} (hw : q_fk mm.1.cls index (T j)) {pc' : Nat} (hd : q_d mm.2.1 pc (.getfield index) 3 pc')
    (kk : RW l g mm R mc ms Post pc' S M k n ls (.inl (M i j) :: st)) : RW l g mm R mc ms Post pc S M k n ls (.inr (.inr (some a)) :: st) := by
  obtain ⟨hd, rfl⟩ := hd
  intro hl hs hM p e s m args below meth c H locs lsR X
  have kw := kk hl (q_RL.cons (hM i j) hs.tl) hM p e s m args below meth c H locs lsR X
  have he := q_W_at (cI := g.2.2.1) (M := M) hS
  have hv : (q_F (M i) 0 fs)[j]? = some (.int (Int32.ofInt (M i j))) := by rw [q_F_get, hf]; simp
  rcases hw with hw | ⟨host, hw⟩
  · exact va_get (own := mm.1.cls) (ref := (T j).1) (Ts := u_ws C T N) X.1.1 X.1.2.1 (fun w h => X.1.2.2.2.2.2.1.use (hC.2.1 w h)) (fun w h => h) X.1.2.2.2.2.1 X.2.2.2.1 X.2.2.1.1 i he hC.1 j hj (X.1.2.2.2.2.2.1.use hw) (fun _ h => h) hv hd kw
  · exact va_getN (own := mm.1.cls) (ref := (T j).1) (Ts := u_ws C T N) X.1.1 X.1.2.1 (fun w h => X.1.2.2.2.2.2.1.use (hC.2.1 w h)) (fun w h => h) X.1.2.2.2.2.1 X.2.2.2.1 X.2.2.1.1 i he hC.1 j hj (X.1.2.2.2.2.2.1.use hw) (fun _ h => h) hv hd kw
theorem R_getR {ci N : Nat} {C : String} {T : u_T} {ty : Nat → FieldType} (hC : q_cg ci C T N ty) (i : Nat) {a : Nat} {fs : List (Option (Option Nat))} (hS : S[i]? = some (a, .inr (ci, fs))) (j : Nat) (hj : j < N) {r : Option Nat} (hf : fs[j]? = some (some r)) {index : Nat} (hw : q_fk mm.1.cls index (T j)) {pc' : Nat} (hd : q_d mm.2.1 pc (.getfield index) 3 pc')
    (kk : RW l g mm R mc ms Post pc' S M k n ls (.inr (.inr r) :: st)) : RW l g mm R mc ms Post pc S M k n ls (.inr (.inr (some a)) :: st) := by
  obtain ⟨hd, rfl⟩ := hd
  intro hl hs hM p e s m args below meth c H locs lsR X
  have kw := kk hl (q_RL.cons trivial hs.tl) hM p e s m args below meth c H locs lsR X
  have he := q_W_at (cI := g.2.2.1) (M := M) hS
  have hv : (q_F (M i) 0 fs)[j]? = some (q_V (.inr (.inr r))) := by rw [q_F_get, hf]; rcases r with _ | r <;> rfl
  rcases hw with hw | ⟨host, hw⟩
  · exact va_get (own := mm.1.cls) (ref := (T j).1) (Ts := u_ws C T N) X.1.1 X.1.2.1 (fun w h => X.1.2.2.2.2.2.1.use (hC.2.1 w h)) (fun w h => h) X.1.2.2.2.2.1 X.2.2.2.1 X.2.2.1.1 i he hC.1 j hj (X.1.2.2.2.2.2.1.use hw) (fun _ h => h) hv hd kw
  · exact va_getN (own := mm.1.cls) (ref := (T j).1) (Ts := u_ws C T N) X.1.1 X.1.2.1 (fun w h => X.1.2.2.2.2.2.1.use (hC.2.1 w h)) (fun w h => h) X.1.2.2.2.2.1 X.2.2.2.1 X.2.2.1.1 i he hC.1 j hj (X.1.2.2.2.2.2.1.use hw) (fun _ h => h) hv hd kw
theorem R_putI {ci N : Nat} {C : String} {T : u_T} {ty : Nat → FieldType} (hC : q_cg ci C T N ty) (i : Nat) {a : Nat} {fs : List (Option (Option Nat))} (hS : S[i]? = some (a, .inr (ci, fs))) (j : Nat) (hj : j < N) (hf : fs[j]? = some none) {v : Int} (hty : narrow (ty j) (.int (Int32.ofInt v)) = .int (Int32.ofInt v)) (hfit : fits (ty j) (.int (Int32.ofInt v)) = true) (hfin : (T j).2.2.2 = false) {index : Nat} (hw : q_fk mm.1.cls index (T j)) {pc' : Nat} (hd : q_d mm.2.1 pc (.putfield index) 3 pc')
    (kk : RW l g mm R mc ms Post pc' S (mset M i j v) k n ls st) : RW l g mm R mc ms Post pc S M k n ls (.inl v :: .inr (.inr (some a)) :: st) := by
  obtain ⟨hd, rfl⟩ := hd
  intro hl hs hM p e s m args below meth c H locs lsR X
  have he := q_W_at (cI := g.2.2.1) (M := M) hS
  have key : ∀ (H1 : Heap) (locs1 : List Loc), va_P g.2.1 q_cl ((q_W g.2.2.1 M 0 S).set i (a, .inr (ci, (q_F (M i) 0 fs).set j (.int (Int32.ofInt v))))) H1 → va_D (q_A g) ((q_W g.2.2.1 M 0 S).set i (a, .inr (ci, (q_F (M i) 0 fs).set j (.int (Int32.ofInt v))))) → va_S (q_A g) s.heap H1 locs1 → W p l e R s m args below meth c H1 locs1 k n (MQ below (q_Q g Post) args s mc ms (q_A g)) (F0 m (pc + 3) lsR (st.map q_V)) := by
    intro H1 locs1 h1 h2 h3
    rw [q_W_put v hS hf] at h1 h2
    exact kk hl hs.tl.tl (hM.set hs.hd) p e s m args below meth c H1 locs1 lsR ⟨X.1, h3, ⟨h1, h2⟩, X.2.2.2.1, X.2.2.2.2.1, X.2.2.2.2.2.1, X.2.2.2.2.2.2⟩
  have hl2 : j < (q_F (M i) 0 fs).length := by rw [q_F_len]; exact (List.getElem?_eq_some_iff.mp hf).1
  rcases hw with hw | ⟨host, hw⟩
  · exact va_put (own := mm.1.cls) (ref := (T j).1) (Ts := u_ws C T N) X.1.1 X.1.2.1 (fun w h => X.1.2.2.2.2.2.1.use (hC.2.1 w h)) (fun w h => h) ty hC.2.2.1 hC.2.2.2 X.1.2.2.2.2.1 X.2.2.2.1 X.2.2.1.1 X.2.2.1.2 X.2.1 i he hC.1 j hj (X.1.2.2.2.2.2.1.use hw) (fun _ h => h) hfin (hC.2.2.1 j hj) hty hfit hl2 hd key
  · exact va_putN (own := mm.1.cls) (ref := (T j).1) (Ts := u_ws C T N) X.1.1 X.1.2.1 (fun w h => X.1.2.2.2.2.2.1.use (hC.2.1 w h)) (fun w h => h) ty hC.2.2.1 hC.2.2.2 X.1.2.2.2.2.1 X.2.2.2.1 X.2.2.1.1 X.2.2.1.2 X.2.1 i he hC.1 j hj (X.1.2.2.2.2.2.1.use hw) (fun _ h => h) hfin (hC.2.2.1 j hj) hty hfit hl2 hd key
theorem R_putR {ci N : Nat} {C : String} {T : u_T} {ty : Nat → FieldType} (hC : q_cg ci C T N ty) (i : Nat) {a : Nat} {fs : List (Option (Option Nat))} (hS : S[i]? = some (a, .inr (ci, fs))) (j : Nat) (hj : j < N) (hf : j < fs.length) {r : Nat} (hty : narrow (ty j) (.ref r) = .ref r) (hfit : fits (ty j) (.ref r) = true) (hfin : (T j).2.2.2 = true) (hin : mm.1.name = "<init>") (hdecl : (T j).1 = mm.1.cls) {index : Nat} (hw : q_in (.fieldLink mm.1.cls index (T j).1 (T j).2.1 (T j).2.2.1)) {pc' : Nat} (hd : q_d mm.2.1 pc (.putfield index) 3 pc') {S' : SW} (hS' : S.set i (a, .inr (ci, fs.set j (some (some r)))) = S')
    (kk : RW l g mm R mc ms Post pc' S' M k n ls st) : RW l g mm R mc ms Post pc S M k n ls (.inr (.inr (some r)) :: .inr (.inr (some a)) :: st) := by
  obtain ⟨hd, rfl⟩ := hd
  subst hS'
  intro hl hs hM p e s m args below meth c H locs lsR X
  have he := q_W_at (cI := g.2.2.1) (M := M) hS
  have hl2 : j < (q_F (M i) 0 fs).length := by rw [q_F_len]; exact hf
  refine va_putF (own := mm.1.cls) (ref := (T j).1) (Ts := u_ws C T N) X.1.1 X.1.2.1 (fun w h => X.1.2.2.2.2.2.1.use (hC.2.1 w h)) (fun w h => h) ty hC.2.2.1 hC.2.2.2 X.1.2.2.2.2.1 X.2.2.2.1 X.2.2.1.1 X.2.2.1.2 X.2.1 i he hC.1 j hj (X.1.2.2.2.2.2.1.use hw) (fun _ h => h) hfin (X.1.2.2.2.2.2.2.2.trans hin) hdecl (hC.2.2.1 j hj) hty hfit hl2 hd ?_
  intro H1 locs1 h1 h2 h3
  have e1 := q_W_putR (cI := g.2.2.1) (M := M) (some r) hS hf
  rw [e1] at h1 h2
  exact kk hl hs.tl.tl hM p e s m args below meth c H1 locs1 lsR ⟨X.1, h3, ⟨h1, h2⟩, X.2.2.2.1, X.2.2.2.2.1, X.2.2.2.2.2.1, X.2.2.2.2.2.2⟩
theorem R_iald (i : Nat) {a N : Nat} (hS : S[i]? = some (a, .inl N)) {x : Int} (hin : 0 ≤ x ∧ x < N) {pc' : Nat} (hd : q_d mm.2.1 pc (.iaload) 1 pc')
    (kk : RW l g mm R mc ms Post pc' S M k n ls (.inl (M i x.toNat) :: st)) : RW l g mm R mc ms Post pc S M k n ls (.inl x :: .inr (.inr (some a)) :: st) := by
  obtain ⟨hd, rfl⟩ := hd
  intro hl hs hM p e s m args below meth c H locs lsR X
  have kw := kk hl (q_RL.cons (hM i _) hs.tl.tl) hM p e s m args below meth c H locs lsR X
  have he := q_W_at (cI := g.2.2.1) (M := M) hS
  refine va_iald X.1.1 X.1.2.1 X.2.2.2.1 X.2.2.1.1 i 0 he rfl (q_in_vp hs.hd hin) hd ?_
  rw [q_pos hin.1 hs.hd]
  exact kw
theorem R_iast (i : Nat) {a N : Nat} (hS : S[i]? = some (a, .inl N)) {x v : Int} (hin : 0 ≤ x ∧ x < N) {pc' : Nat} (hd : q_d mm.2.1 pc (.iastore) 1 pc')
    (kk : RW l g mm R mc ms Post pc' S (mset M i x.toNat v) k n ls st) : RW l g mm R mc ms Post pc S M k n ls (.inl v :: .inl x :: .inr (.inr (some a)) :: st) := by
  obtain ⟨hd, rfl⟩ := hd
  intro hl hs hM p e s m args below meth c H locs lsR X
  have he := q_W_at (cI := g.2.2.1) (M := M) hS
  refine va_iast X.1.1 X.1.2.1 X.2.2.2.1 X.2.2.1.1 X.2.2.1.2 X.2.1 i 0 he rfl (q_in_vp hs.tl.hd hin) hd ?_
  intro H1 locs1 h1 h2 h3
  rw [q_pos hin.1 hs.tl.hd, q_W_upd x.toNat v hS] at h1 h2
  exact kk hl hs.tl.tl.tl (hM.set hs.hd) p e s m args below meth c H1 locs1 lsR ⟨X.1, h3, ⟨h1, h2⟩, X.2.2.2.1, X.2.2.2.2.1, X.2.2.2.2.2.1, X.2.2.2.2.2.2⟩
theorem q_nat32 {N : Nat} (h : N < 2147483648) : r32 (N : Int) := by unfold r32; omega
theorem R_alen (i : Nat) {a N : Nat} (hS : S[i]? = some (a, .inl N)) (hN : N < 2147483648) {pc' : Nat} (hd : q_d mm.2.1 pc (.arraylength) 1 pc')
    (kk : RW l g mm R mc ms Post pc' S M k n ls (.inl (N : Int) :: st)) : RW l g mm R mc ms Post pc S M k n ls (.inr (.inr (some a)) :: st) := by
  obtain ⟨hd, rfl⟩ := hd
  intro hl hs hM p e s m args below meth c H locs lsR X
  have kw := kk hl (q_RL.cons (q_nat32 hN) hs.tl) hM p e s m args below meth c H locs lsR X
  have he := q_W_at (cI := g.2.2.1) (M := M) hS
  exact va_alen X.1.1 X.1.2.1 X.2.2.2.1 X.2.2.1.1 i 0 he rfl (Int32.ofInt_eq_ofNat (n := N)).symm hd kw
/-- the frozen rows -/
theorem R_ialdF (j : Nat) (hj : j < 3) {x : Int} (hin : 0 ≤ x ∧ x < q_fl g j) {pc' : Nat} (hd : q_d mm.2.1 pc (.iaload) 1 pc')
    (kk : RW l g mm R mc ms Post pc' S M k n ls (.inl (q_ff g j x.toNat) :: st)) : RW l g mm R mc ms Post pc S M k n ls (.inl x :: .inr (.inr (some (g.2.2.2.1 j))) :: st) := by
  obtain ⟨hd, rfl⟩ := hd
  intro hl hs hM p e s m args below meth c H locs lsR X
  have kw := kk hl (q_RL.cons (X.2.2.2.2.1.1.1 j _) hs.tl.tl) hM p e s m args below meth c H locs lsR X
  exact va_ti X.1.1 X.1.2.1 (X.2.2.2.2.1.2.1 j hj) X.2.1 (q_in_vp hs.hd hin) (by rw [q_pos hin.1 hs.hd]; rfl) hd kw
theorem R_alenF (j : Nat) (hj : j < 3) {pc' : Nat} (hd : q_d mm.2.1 pc (.arraylength) 1 pc')
    (kk : RW l g mm R mc ms Post pc' S M k n ls (.inl (q_fl g j : Int) :: st)) : RW l g mm R mc ms Post pc S M k n ls (.inr (.inr (some (g.2.2.2.1 j))) :: st) := by
  obtain ⟨hd, rfl⟩ := hd
  intro hl hs hM p e s m args below meth c H locs lsR X
  have hN : q_fl g j < 2147483648 := by
    have h := X.2.2.2.2.1.1.2
    rcases j with _ | j
    · show g.2.2.2.2.2.1 < _; omega
    · show 6 < _; omega
  have kw := kk hl (q_RL.cons (q_nat32 hN) hs.tl) hM p e s m args below meth c H locs lsR X
  exact va_tlen X.1.1 X.1.2.1 (X.2.2.2.2.1.2.1 j hj) X.2.1 (Int32.ofInt_eq_ofNat (n := q_fl g j)).symm hd kw
theorem R_gets {C nm d : String} {v : SV} (sel : ∀ (s : State) (H : Heap), q_Z g s H → va_Z C nm d (q_V v) (q_A g) s H) (hv : q_R v) {index : Nat} (hw : q_in (.fieldLink mm.1.cls index C nm d)) {pc' : Nat} (hd : q_d mm.2.1 pc (.getstatic index) 3 pc')
    (kk : RW l g mm R mc ms Post pc' S M k n ls (v :: st)) : RW l g mm R mc ms Post pc S M k n ls st := by
  obtain ⟨hd, rfl⟩ := hd
  intro hl hs hM p e s m args below meth c H locs lsR X
  have kw := kk hl (q_RL.cons hv hs) hM p e s m args below meth c H locs lsR X
  exact va_gets X.1.1 X.1.2.1 (sel s s.heap X.2.2.2.2.1) X.2.1 X.1.2.2.2.2.1 (X.1.2.2.2.2.2.1.use hw) (fun _ h => h) hd kw
theorem sel_T (s : State) (H : Heap) (h : q_Z g s H) : va_Z "CardNobodyReads" "TURNS" "[I" (q_V (.inr (.inr (some (g.2.2.2.1 1))))) (q_A g) s H := h.2.2.1
theorem sel_K (s : State) (H : Heap) (h : q_Z g s H) : va_Z "CardNobodyReads" "KIND_ABOVE" "[I" (q_V (.inr (.inr (some (g.2.2.2.1 2))))) (q_A g) s H := h.2.2.2.1
theorem sel_C (s : State) (H : Heap) (h : q_Z g s H) : va_Z "java/lang/String" "COMPACT_STRINGS" "Z" (q_V (.inl 1)) (q_A g) s H := h.2.2.2.2.1
theorem sel_F (s : State) (H : Heap) (h : q_Z g s H) : va_Z "jdk/internal/util/Preconditions" "SIOOBE_FORMATTER" "Ljava/util/function/BiFunction;" (q_V (.inr (.inr g.2.2.2.2.1))) (q_A g) s H := h.2.2.2.2.2.1
theorem q_sB_get (i j : Nat) : (q_sB.getD i []).getD j 0 = Int32.ofInt ((q_sb i).getD j 0) := by
  unfold q_sB q_sb
  rw [List.getD_eq_getElem?_getD, List.getD_eq_getElem?_getD, List.getD_eq_getElem?_getD, List.getD_eq_getElem?_getD, List.getElem?_map, List.getElem?_map]
  cases q_str[i]? with
  | none => rfl
  | some q =>
    simp only [Option.map_some, Option.getD_some, List.getElem?_map]
    cases q.2.2.2[j]? <;> rfl
theorem q_sb_r (i j : Nat) : 0 ≤ (q_sb i).getD j 0 ∧ (q_sb i).getD j 0 < 128 := by
  have h : ∀ q ∈ q_str, ∀ b ∈ q.2.2.2, 0 ≤ b ∧ b < 128 := by decide +kernel
  unfold q_sb
  rw [List.getD_eq_getElem?_getD, List.getD_eq_getElem?_getD, List.getElem?_map]
  cases hq : q_str[i]? with
  | none => simp
  | some q =>
    simp only [Option.map_some, Option.getD_some]
    cases hb : q.2.2.2[j]? with
    | none => simp
    | some b => exact h q (List.mem_of_getElem? hq) b (List.mem_of_getElem? hb)
theorem R_bald (i : Nat) (hi : i < 14) {x : Int} (hin : 0 ≤ x ∧ x < (q_sl.getD i 0 : Nat)) {pc' : Nat} (hd : q_d mm.2.1 pc (.baload) 1 pc')
    (kk : RW l g mm R mc ms Post pc' S M k n ls (.inl ((q_sb i).getD x.toNat 0) :: st)) : RW l g mm R mc ms Post pc S M k n ls (.inl x :: .inr (.inr (some (g.2.2.2.1 (30 + i)))) :: st) := by
  obtain ⟨hd, rfl⟩ := hd
  intro hl hs hM p e s m args below meth c H locs lsR X
  have hr : r32 ((q_sb i).getD x.toNat 0) := by have := q_sb_r i x.toNat; unfold r32; omega
  have kw := kk hl (q_RL.cons hr hs.tl.tl) hM p e s m args below meth c H locs lsR X
  exact va_tb X.1.1 X.1.2.1 (X.2.2.2.2.1.2.2.2.2.2.2.1.1 i hi).2.2.2 X.2.1 (q_in_vp hs.hd hin) (by rw [q_pos hin.1 hs.hd]; show Value.int _ = _; rw [q_sB_get]; rfl) hd kw
theorem R_blen (i : Nat) (hi : i < 14) {pc' : Nat} (hd : q_d mm.2.1 pc (.arraylength) 1 pc')
    (kk : RW l g mm R mc ms Post pc' S M k n ls (.inl ((q_sl.getD i 0 : Nat) : Int) :: st)) : RW l g mm R mc ms Post pc S M k n ls (.inr (.inr (some (g.2.2.2.1 (30 + i)))) :: st) := by
  obtain ⟨hd, rfl⟩ := hd
  intro hl hs hM p e s m args below meth c H locs lsR X
  have hN : ∀ i, i < 14 → q_sl.getD i 0 < 2147483648 := by decide +kernel
  have kw := kk hl (q_RL.cons (q_nat32 (hN i hi)) hs.tl) hM p e s m args below meth c H locs lsR X
  exact va_tlen X.1.1 X.1.2.1 (X.2.2.2.2.1.2.2.2.2.2.2.1.1 i hi).2.2.2 X.2.1 (Int32.ofInt_eq_ofNat (n := q_sl.getD i 0)).symm hd kw
theorem R_strV (i : Nat) (hi : i < 14) {index : Nat} (hw : q_in (.fieldLink mm.1.cls index "java/lang/String" "value" "[B")) {pc' : Nat} (hd : q_d mm.2.1 pc (.getfield index) 3 pc')
    (kk : RW l g mm R mc ms Post pc' S M k n ls (.inr (.inr (some (g.2.2.2.1 (30 + i)))) :: st)) : RW l g mm R mc ms Post pc S M k n ls (.inr (.inr (some (g.2.2.2.1 (10 + i)))) :: st) := by
  obtain ⟨hd, rfl⟩ := hd
  intro hl hs hM p e s m args below meth c H locs lsR X
  have kw := kk hl (q_RL.cons trivial hs.tl) hM p e s m args below meth c H locs lsR X
  exact vk_getf X.1.1 X.1.2.1 (X.2.2.2.2.1.2.2.2.2.2.2.1.1 i hi).2.2.1 X.2.1 X.1.2.2.2.2.1 (X.1.2.2.2.2.2.1.use hw) (fun _ h => h) hd kw
theorem R_strC (i : Nat) (hi : i < 14) {index : Nat} (hw : q_in (.fieldLink mm.1.cls index "java/lang/String" "coder" "B")) {pc' : Nat} (hd : q_d mm.2.1 pc (.getfield index) 3 pc')
    (kk : RW l g mm R mc ms Post pc' S M k n ls (.inl 0 :: st)) : RW l g mm R mc ms Post pc S M k n ls (.inr (.inr (some (g.2.2.2.1 (10 + i)))) :: st) := by
  obtain ⟨hd, rfl⟩ := hd
  intro hl hs hM p e s m args below meth c H locs lsR X
  have kw := kk hl (q_RL.cons z32 hs.tl) hM p e s m args below meth c H locs lsR X
  exact vk_getf X.1.1 X.1.2.1 (X.2.2.2.2.1.2.2.2.2.2.2.1.1 i hi).2.1 X.2.1 X.1.2.2.2.2.1 (X.1.2.2.2.2.2.1.use hw) (fun _ h => h) hd kw
theorem q_Ah {s : State} (h : g.1 ≤ s.heap.size) : ∀ q, s.heap.size ≤ q → q_A g q := fun q hq => Nat.le_trans h hq
theorem R_newa {N : Nat} {z : Int} (hz : z = (N : Int)) (hb4 : N * componentBytes .int ≤ 536870912) (hk : k + 1 ≤ R.cells) (hn : n + N ≤ R.slots) {pc' : Nat} (hd : q_d mm.2.1 pc (.newarray .int) 2 pc')
    (kk : ∀ q : Nat, RW l g mm R mc ms Post pc' (S ++ [(q, .inl N)]) (mup M S.length (fun _ => 0)) (k + 1) (n + N) ls (.inr (.inr (some q)) :: st)) : RW l g mm R mc ms Post pc S M k n ls (.inl z :: st) := by
  obtain ⟨hd, rfl⟩ := hd
  subst hz
  intro hl hs hM p e s m args below meth c H locs lsR X
  have h0 : (0 : Int) ≤ (N : Int) := by omega
  refine va_newa (atype := .int) (ty := .int) (N' := N) (a0 := (N, .inl (fun _ => Int32.ofInt 0))) X.1.1 X.1.2.1 (by exact (word_at (State.WarmedH.refl s) (Or.inr ⟨_, rfl⟩) X.1.2.2.2.2.2.1.2)) rfl X.2.2.2.1 X.2.2.1.1 X.2.2.1.2 X.2.1 (q_Ah X.2.2.2.2.2.1) (fun cA => rfl) (by rw [i0, lt32 hs.hd z32]; omega) (by rw [q_pos h0 hs.hd]; rfl) hb4 hk hn hd ?_
  intro q cA H1 hK1 hP1 hD1 hS1
  have e1 := (hK1.2 0 (g.2.2.1, .int) rfl).2
  have e2 := (hK1.2 1 (cA, .int) rfl).2
  have e3 : cA = g.2.2.1 := Option.some.inj (e2.symm.trans e1)
  subst e3
  have e4 := q_W_push g.2.2.1 M S q (.inl N) (fun _ => 0)
  have hP2 : va_P g.2.1 q_cl (q_W g.2.2.1 M 0 S ++ [(q, q_E g.2.2.1 (fun _ => 0) (.inl N))]) H1 := hP1
  have hD2 : va_D (q_A g) (q_W g.2.2.1 M 0 S ++ [(q, q_E g.2.2.1 (fun _ => 0) (.inl N))]) := hD1
  rw [e4] at hP2 hD2
  exact kk q hl (q_RL.cons trivial hs.tl) (hM.up (fun _ => z32)) p e s m args below meth c H1 locs lsR ⟨X.1, hS1, ⟨hP2, hD2⟩, X.2.2.2.1, X.2.2.2.2.1, X.2.2.2.2.2.1, X.2.2.2.2.2.2⟩
theorem R_new {ci N : Nat} {C : String} {T : u_T} {ty : Nat → FieldType} (hC : q_cg ci C T N ty) (fs : List (Option (Option Nat))) (hfs : ∀ j, j < N → defaultValue (ty j) = vp_V (q_F (fun _ => 0) 0 fs) j) {index : Nat} (hcl : q_in (.classLink mm.1.cls index C)) (hinst : q_in (.instantiable C N)) (hini : q_in (.initialized C)) (hk : k + 1 ≤ R.cells) (hn : n + N ≤ R.slots) {pc' : Nat} (hd : q_d mm.2.1 pc (.new index) 3 pc')
    (kk : ∀ q : Nat, RW l g mm R mc ms Post pc' (S ++ [(q, .inr (ci, fs))]) (mup M S.length (fun _ => 0)) (k + 1) (n + N) ls (.inr (.inr (some q)) :: st)) : RW l g mm R mc ms Post pc S M k n ls st := by
  obtain ⟨hd, rfl⟩ := hd
  intro hl hs hM p e s m args below meth c H locs lsR X
  refine va_new (own := mm.1.cls) (Ts := u_ws C T N) (fs := q_F (fun _ => 0) 0 fs) X.1.1 X.1.2.1 (fun w h => X.1.2.2.2.2.2.1.use (hC.2.1 w h)) (fun w h => h) ty hC.2.2.1 X.1.2.2.2.2.1 (X.1.2.2.2.2.2.1.use hcl) (X.1.2.2.2.2.2.1.use hinst) (X.1.2.2.2.2.2.1.use hini) X.2.2.2.1 X.2.2.1.1 X.2.2.1.2 X.2.1 (q_Ah X.2.2.2.2.2.1) hC.1 hfs hk hn hd ?_
  intro q H1 hP1 hD1 hS1
  have e4 := q_W_push g.2.2.1 M S q (.inr (ci, fs)) (fun _ => 0)
  have hP2 : va_P g.2.1 q_cl (q_W g.2.2.1 M 0 S ++ [(q, q_E g.2.2.1 (fun _ => 0) (.inr (ci, fs)))]) H1 := hP1
  have hD2 : va_D (q_A g) (q_W g.2.2.1 M 0 S ++ [(q, q_E g.2.2.1 (fun _ => 0) (.inr (ci, fs)))]) := hD1
  rw [e4] at hP2 hD2
  exact kk q hl (q_RL.cons trivial hs) (hM.up (fun _ => z32)) p e s m args below meth c H1 locs lsR ⟨X.1, hS1, ⟨hP2, hD2⟩, X.2.2.2.1, X.2.2.2.2.1, X.2.2.2.2.2.1, X.2.2.2.2.2.2⟩
theorem q_sum (st : List SV) : ((st.map q_V).map fun v => v.category).sum = (st.map q_cat).sum := by
  congr 1
  rw [List.map_map]
  exact List.map_congr_left (fun v _ => q_cat_eq v)
theorem R_objInit {a : Nat} {index : Nat} (hlink : q_in (.methodLink mm.1.cls index Lib.objectInit)) (hinst : q_in (.instanceMethod Lib.objectInit)) (hcode : q_in (.code Lib.objectInit ⟨#[0xb1]⟩ 1 none)) (hf : 1 ≤ R.frames) (hlo : 20 ≤ R.locals) (hcat : (st.map q_cat).sum ≤ 8) {pc' : Nat} (hd : q_d mm.2.1 pc (.invokespecial index) 3 pc')
    (kk : RW l g mm R mc ms Post pc' S M k n ls st) : RW l g mm R mc ms Post pc S M k n ls (.inr (.inr (some a)) :: st) := by
  obtain ⟨hd, rfl⟩ := hd
  intro hl hs hM p e s m args below meth c H locs lsR X
  have kw := kk hl hs.tl hM p e s m args below meth c H locs lsR X
  refine W.objInit (own := mm.1.cls) X.1.1 X.1.2.1 X.1.2.2.2.2.1 (X.1.2.2.2.2.2.1.use hlink) (X.1.2.2.2.2.2.1.use hinst) (X.1.2.2.2.2.2.1.use hcode) rfl (by rw [X.1.2.2.2.1]; exact X.2.2.2.2.2.2.1) rfl hd hf ?_ (W.eq (g2 := F0 m (pc + 3) lsR (st.map q_V)) rfl kw)
  have h := lv_room (m := m) (pc := pc) (ls := lsR) (rest := []) (st := st.map q_V) (by rw [q_sum]; exact hcat)
  have h2 : 2 * (F0 m pc lsR ((Sum.inr (Sum.inr (some a)) :: st : List SV).map q_V)).monitorRoom + ((st.map q_V).map fun v => v.category).sum ≤ 8 := h
  exact Nat.le_trans (Nat.add_le_add_right h2 12) hlo
theorem R_copy (i j : Nat) {a b N1 N2 : Nat} (hi : S[i]? = some (a, .inl N1)) (hj : S[j]? = some (b, .inl N2)) {sp dp z : Int} (h1 : 0 ≤ sp) (h2 : 0 ≤ dp) (h3 : 0 ≤ z) (h4 : sp + z ≤ N1) (h5 : dp + z ≤ N2) {index : Nat} (hlink : q_in (.methodLink mm.1.cls index arraycopyName)) (hnat : q_in (.native arraycopyName)) (hstat : q_in (.static arraycopyName)) (hini : q_in (.initialized "java/lang/System")) (hf : 1 ≤ R.frames) (hlo : 64 ≤ R.locals) (hcat : (st.map q_cat).sum ≤ 8) {pc' : Nat} (hd : q_d mm.2.1 pc (.invokestatic index) 3 pc')
    (kk : RW l g mm R mc ms Post pc' S (mup M j (fun x => if dp.toNat ≤ x ∧ x < dp.toNat + z.toNat then M i (sp.toNat + (x - dp.toNat)) else M j x)) k n ls st) : RW l g mm R mc ms Post pc S M k n ls (.inl z :: .inl dp :: .inr (.inr (some b)) :: .inl sp :: .inr (.inr (some a)) :: st) := by
  obtain ⟨hd, rfl⟩ := hd
  intro hl hs hM p e s m args below meth c H locs lsR X
  have rz : r32 z := hs.hd
  have rd : r32 dp := hs.tl.hd
  have rs : r32 sp := hs.tl.tl.tl.hd
  have e1 := q_pos h1 rs
  have e2 := q_pos h2 rd
  have e3 := q_pos h3 rz
  refine va_copyi X.1.1 X.1.2.1 (by rw [X.1.2.2.2.1]; exact X.2.2.2.2.2.2.1.symm) X.1.2.2.2.2.1 (X.1.2.2.2.2.2.1.use hlink) (X.1.2.2.2.2.2.1.use hnat) (X.1.2.2.2.2.2.1.use hstat) (X.1.2.2.2.2.2.1.use hini) X.2.2.2.1 X.2.2.1.1 X.2.2.1.2 X.2.1 i j 0 0 (ty := .int) (q_W_at hi) (q_W_at hj) rfl rfl rfl (by rw [i0, lt32 rs z32]; omega) (by rw [i0, lt32 rd z32]; omega) (by rw [i0, lt32 rz z32]; omega) (by rw [e1, e3]; omega) (by rw [e2, e3]; omega) (fun _ _ => rfl) hf ?_ hd ?_
  · rw [q_sum]
    have hw : nativeFrameWords "java/lang/System" "arraycopy" 5 ≤ 40 := by decide +kernel
    omega
  · intro H1 locs1 hP1 hD1 hS1
    have ef : va_cpy (fun x => Int32.ofInt (M i x)) (fun x => Int32.ofInt (M j x)) (Int32.ofInt sp).toNatClampNeg (Int32.ofInt dp).toNatClampNeg (Int32.ofInt z).toNatClampNeg = fun x => Int32.ofInt ((fun x => if dp.toNat ≤ x ∧ x < dp.toNat + z.toNat then M i (sp.toNat + (x - dp.toNat)) else M j x) x) := by
      funext x
      rw [e1, e2, e3]
      unfold va_cpy
      show (if _ then _ else _) = Int32.ofInt (if _ then _ else _)
      split <;> rfl
    have h := q_W_set (cI := g.2.2.1) (M := M) (c' := .inl N2) (fun x => if dp.toNat ≤ x ∧ x < dp.toNat + z.toNat then M i (sp.toNat + (x - dp.toNat)) else M j x) hj
    rw [q_set_same hj] at h
    have hP2 : va_P g.2.1 q_cl ((q_W g.2.2.1 M 0 S).set j (b, q_E g.2.2.1 (fun x => if dp.toNat ≤ x ∧ x < dp.toNat + z.toNat then M i (sp.toNat + (x - dp.toNat)) else M j x) (.inl N2))) H1 := by
      rw [ef] at hP1
      exact hP1
    have hD2 : va_D (q_A g) ((q_W g.2.2.1 M 0 S).set j (b, q_E g.2.2.1 (fun x => if dp.toNat ≤ x ∧ x < dp.toNat + z.toNat then M i (sp.toNat + (x - dp.toNat)) else M j x) (.inl N2))) := by
      rw [ef] at hD1
      exact hD1
    rw [h] at hP2 hD2
    exact kk hl hs.tl.tl.tl.tl.tl (hM.up (fun x => by split <;> exact hM _ _)) p e s m args below meth c H1 locs1 lsR ⟨X.1, hS1, ⟨hP2, hD2⟩, X.2.2.2.1, X.2.2.2.2.1, X.2.2.2.2.2.1, X.2.2.2.2.2.2⟩
theorem R_mmax {a b : Int} {index : Nat} (hlink : q_in (.methodLink mm.1.cls index Lib.Math.max.name)) (hstat : q_in (.static Lib.Math.max.name)) (hini : q_in (.initialized "java/lang/Math")) (hcode : q_in (.code Lib.Math.max.name Lib.Math.max.code 2 (some .int))) (hf : 1 ≤ R.frames) (hlo : 64 ≤ R.locals) (hcat : (st.map q_cat).sum ≤ 8) (hk : k ≤ R.cells) (hn : n ≤ R.slots) {pc' : Nat} (hd : q_d mm.2.1 pc (.invokestatic index) 3 pc')
    (kk : RW l g mm R mc ms Post pc' S M k n ls (.inl (if a < b then b else a) :: st)) : RW l g mm R mc ms Post pc S M k n ls (.inl b :: .inl a :: st) := by
  obtain ⟨hd, rfl⟩ := hd
  intro hl hs hM p e s m args below meth c H locs lsR X
  have hr : r32 (if a < b then b else a) := by
    split
    · exact hs.hd
    · exact hs.tl.hd
  have kw := kk hl (q_RL.cons hr hs.tl.tl) hM p e s m args below meth c H locs lsR X
  refine va_mmax X.1.1 X.1.2.1 (by rw [X.1.2.2.2.1]; exact X.2.2.2.2.2.2.1.symm) X.1.2.2.2.2.1 (X.1.2.2.2.2.2.1.use hlink) (X.1.2.2.2.2.2.1.use hstat) (X.1.2.2.2.2.2.1.use hini) (X.1.2.2.2.2.2.1.use hcode) hf (by rw [q_sum]; omega) hk hn hd (W.eq ?_ kw)
  have e1 : (if Int32.ofInt a < Int32.ofInt b then Int32.ofInt b else Int32.ofInt a) = Int32.ofInt (if a < b then b else a) := by
    by_cases h : a < b
    · rw [if_pos h, if_pos ((lt32 hs.tl.hd hs.hd).mpr h)]
    · rw [if_neg h, if_neg (fun q => h ((lt32 hs.tl.hd hs.hd).mp q))]
  rw [e1]
  rfl
theorem R_mmin {a b : Int} {index : Nat} (hlink : q_in (.methodLink mm.1.cls index Lib.Math.min.name)) (hstat : q_in (.static Lib.Math.min.name)) (hini : q_in (.initialized "java/lang/Math")) (hcode : q_in (.code Lib.Math.min.name Lib.Math.min.code 2 (some .int))) (hf : 1 ≤ R.frames) (hlo : 64 ≤ R.locals) (hcat : (st.map q_cat).sum ≤ 8) (hk : k ≤ R.cells) (hn : n ≤ R.slots) {pc' : Nat} (hd : q_d mm.2.1 pc (.invokestatic index) 3 pc')
    (kk : RW l g mm R mc ms Post pc' S M k n ls (.inl (if b < a then b else a) :: st)) : RW l g mm R mc ms Post pc S M k n ls (.inl b :: .inl a :: st) := by
  obtain ⟨hd, rfl⟩ := hd
  intro hl hs hM p e s m args below meth c H locs lsR X
  have hr : r32 (if b < a then b else a) := by
    split
    · exact hs.hd
    · exact hs.tl.hd
  have kw := kk hl (q_RL.cons hr hs.tl.tl) hM p e s m args below meth c H locs lsR X
  refine va_mmin X.1.1 X.1.2.1 (by rw [X.1.2.2.2.1]; exact X.2.2.2.2.2.2.1.symm) X.1.2.2.2.2.1 (X.1.2.2.2.2.2.1.use hlink) (X.1.2.2.2.2.2.1.use hstat) (X.1.2.2.2.2.2.1.use hini) (X.1.2.2.2.2.2.1.use hcode) hf (by rw [q_sum]; omega) hk hn hd (W.eq ?_ kw)
  have e1 : (if Int32.ofInt b < Int32.ofInt a then Int32.ofInt b else Int32.ofInt a) = Int32.ofInt (if b < a then b else a) := by
    by_cases h : b < a
    · rw [if_pos h, if_pos ((lt32 hs.hd hs.tl.hd).mpr h)]
    · rw [if_neg h, if_neg (fun q => h ((lt32 hs.hd hs.tl.hd).mp q))]
  rw [e1]
  rfl
end CELLS
end
section
/-! calls, ends, contracts -/
theorem q_B.calling {g : GG} {S : SW} {M : Mem} {U : State} (gg : JFrame) (mk : MethodId) (a : Array Value) (h : q_B g S M U) : q_B g S M (U.calling gg mk a) := by
  obtain ⟨h1, h2, h3, h4, h5⟩ := h
  have hW : U.WarmedH (U.calling gg mk a).vm := State.WarmedH.refl U
  exact ⟨h1, h2, h3.moved (U := U.calling gg mk a) (Vm.Alike.refl U.vm), h4.warm hW, h5.warm hW⟩
theorem q_blind (av : List Value) (g : GG) (S : SW) (M : Mem) : FrameBlind (va_Pc av (q_B g S M)) := fun _ _ gg mk h => ⟨h.1, h.2.calling gg mk _⟩
/-- a method that may be called -/
def q_mb (mm : MM) (n : Nat) : Prop := q_in (.code mm.1 mm.2.1 mm.2.2.1 mm.2.2.2) ∧ q_in (.initialized mm.1.cls) ∧ (mm.1.cls ≠ "java/lang/invoke/MethodHandle" ∧ mm.1.cls ≠ "java/lang/invoke/VarHandle") ∧ (parseMethodDescriptor mm.1.desc).map (fun d => d.parameters.length) = some n
def q_ms (mm : MM) (n : Nat) : Prop := q_mb mm n ∧ q_in (.static mm.1)
def q_mv (mm : MM) (n : Nat) : Prop := q_mb mm n ∧ q_in (.instanceMethod mm.1) ∧ q_in (.selects mm.1.cls mm.1 mm.1)
def q_mi (mm : MM) (n : Nat) : Prop := q_mb mm n ∧ q_in (.instanceMethod mm.1) ∧ mm.1.name = "<init>" ∧ mm.2.2.2 = none
def q_ml (own : String) (index : Nat) (y : MethodName) : Prop := q_in (.methodLink own index y) ∨ ∃ host, q_in (.methodLinkNest own index y host)
/-- what may be sent a message of class C -/
def q_rc (g : GG) (S : SW) (b : Nat) (C : String) : Prop := (∃ (i ci : Nat) (fs : List (Option (Option Nat))) (T : u_T) (N : Nat), S[i]? = some (b, .inr (ci, fs)) ∧ q_cl[ci]? = some (C, T, N)) ∨ ∃ i, i < 14 ∧ b = g.2.2.2.1 (10 + i) ∧ C = "java/lang/String"
section CALLS
variable {l : Launch} {g : GG} {mm : MM} {R : Room} {mc ms : Nat} {Post : PP} {pc : Nat} {S : SW} {M : Mem} {k n : Nat} {ls : List (Option SV)} {st : List SV}
theorem q_pre {p : Program} {s : State} {m : MethodId} {meth : Method} {c : Code} {H : Heap} {locs : List Loc} {lsR : Array Slot} (X : q_X g mm S M ls p s m meth c H locs lsR) {U : State} (hU : U.heap = H) (hW : s.WarmedH U.vm) : q_B g S M U := by
  refine ⟨by rw [hU]; exact Nat.le_trans X.2.2.2.2.2.1 X.2.1.1, by rw [hU]; exact X.2.2.1, X.2.2.2.1.moved hW.alike, ?_, X.1.2.2.2.2.2.1.warm hW⟩
  rw [hU]
  exact (X.2.2.2.2.1.kept X.2.1.2.1).warm hW
theorem q_recv {p : Program} {s : State} {m : MethodId} {meth : Method} {c : Code} {H : Heap} {locs : List Loc} {lsR : Array Slot} (X : q_X g mm S M ls p s m meth c H locs lsR) {b : Nat} {C : String} (h : q_rc g S b C) : ∃ cellB : Cell, H[b]? = some cellB ∧ cellB.vm.isStatics = false ∧ s.vm.findClass C = some cellB.cls := by
  rcases h with ⟨i, ci, fs, T, N, hS, hc⟩ | ⟨i, hi, rfl, rfl⟩
  · have he := q_W_at (cI := g.2.2.1) (M := M) hS
    exact va_recv X.2.2.2.1 X.2.2.1.1 hc he
  · exact vk_recv (adK := fun i => g.2.2.2.1 (10 + i)) (i := i) X.2.2.2.2.1.2.2.2.2.2.2.1 hi X.2.1
theorem R_run {mc2 ms2 : Nat} {args2 : Array Value} {Post2 : PP} {rest : List SV}
    (hrun : q_RO ls → q_RL st → q_RM M → ∀ (p : Program) (e : Env) (s : State) (m : MethodId) (args : Array Value) (below : List Frame) (meth : Method) (c : Code) (H : Heap) (locs : List Loc) (lsR : Array Slot), q_X g mm S M ls p s m meth c H locs lsR → va_Run p l e R s m args below meth c H locs k n mc2 ms2 (F0 m pc lsR (st.map q_V)) (rest.map q_V) (q_Q g Post2 args2) (q_A g))
    (hrest : q_RL st → q_RL rest)
    (kk : ∀ (r : Option SV) (S' : SW) (M' : Mem), Post2 r S' M' → RW l g mm R mc ms Post (pc + 3) S' M' (k + mc2) (n + ms2) ls (r.toList ++ rest)) : RW l g mm R mc ms Post pc S M k n ls st := by
  intro hl hs hM p e s m args below meth c H locs lsR X T hT XX
  obtain ⟨v, st₀, t, T', L, h0, X', hL, e1, e2, ⟨⟨r, S', M', hp, hr, hM', ho, hP', hK'⟩, hz, hk⟩, stp⟩ := hrun hl hs hM p e s m args below meth c H locs lsR X T hT XX
  have hv : v = r.map q_V := by cases ho; rfl
  subst hv
  rw [h0] at hz hk
  have hres : q_RL (r.toList ++ rest) := by
    intro w hw
    rcases List.mem_append.mp hw with h | h
    · cases r with
      | none => simp at h
      | some r0 => simp at h; subst h; exact hr _ rfl
    · exact hrest hs w h
  have hS := X.2.1
  have hS' : va_S (q_A g) s.heap T'.heap (locs ++ L) := ⟨Nat.le_trans hS.1 (by rw [e1]; exact hz), fun q h1 h2 => by rw [e1, hk q (Nat.lt_of_lt_of_le h1 hS.1) h2]; exact hS.2.1 q h1 h2, fun q hq => by
      rcases List.mem_append.mp hq with h | h
      · exact hS.2.2 q h
      · exact hL q h⟩
  obtain ⟨t2, a1, b1⟩ := kk r S' M' hp hl hres hM' p e s m args below meth c T'.heap (locs ++ L) lsR ⟨X.1, hS', by rw [e1]; exact hP', X.2.2.2.1, X.2.2.2.2.1, X.2.2.2.2.2.1, X.2.2.2.2.2.2⟩ T' rfl X'
  refine ⟨t2, stp t2 ?_, b1⟩
  have e3 : (r.toList ++ rest).map q_V = (r.map q_V).toList ++ rest.map q_V := by cases r <;> simp
  rw [e3] at a1
  exact a1
theorem q_arg {st args2 rest : List SV} (h : q_RL st) (e : st = args2.reverse ++ rest) : q_RL args2 ∧ q_RL rest := by
  subst e
  exact ⟨fun v hv => h v (List.mem_append_left _ (List.mem_reverse.mpr hv)), fun v hv => h v (List.mem_append_right _ hv)⟩
theorem q_callB {mm2 : MM} {n2 : Nat} (hm : q_mb mm2 n2) {d2 mc2 ms2 : Nat} (hR : d2 + 1 ≤ R.frames ∧ 19 + mm2.2.2.1 + 64 * d2 ≤ R.locals) {s : State} {args : Array Value} (hT : q_T s) :
    (q_rm d2 mc2 ms2).cells = mc2 ∧ (q_rm d2 mc2 ms2).slots = ms2 ∧ (q_rm d2 mc2 ms2).frames + 1 ≤ R.frames ∧ 8 + (mm2.2.2.1 + 11) + (q_rm d2 mc2 ms2).locals ≤ R.locals ∧ (∀ w ∈ [Cond.code mm2.1 mm2.2.1 mm2.2.2.1 mm2.2.2.2], ∀ (a' : Array Value) (U : State), s.WarmedH U.vm → w.before a' U = true) ∧ Cond.code mm2.1 mm2.2.1 mm2.2.2.1 mm2.2.2.2 ∈ [Cond.code mm2.1 mm2.2.1 mm2.2.2.1 mm2.2.2.2] ∧ (Cond.code mm2.1 mm2.2.1 mm2.2.2.1 mm2.2.2.2).before args s = true ∧ (Cond.initialized mm2.1.cls).before args s = true ∧ (∀ sig, parseMethodDescriptor mm2.1.desc = some sig → n2 = sig.parameters.length) := by
  refine ⟨rfl, rfl, hR.1, ?_, fun w hw a' U hW => ?_, List.mem_cons_self, hT.use hm.1, hT.use hm.2.1, fun sig h => ?_⟩
  · show 8 + (mm2.2.2.1 + 11) + 64 * d2 ≤ R.locals
    omega
  · rcases List.mem_cons.mp hw with rfl | hw
    · exact (hT.warm hW).use hm.1
    · exact absurd hw List.not_mem_nil
  · have h2 := hm.2.2.2
    rw [h] at h2
    exact (Option.some.inj h2).symm
theorem R_callS {mm2 : MM} {d2 mc2 ms2 n2 : Nat} {args2 rest : List SV} {Post2 : PP} (hM2 : CT l g mm2 d2 mc2 ms2 S M args2 Post2) (hm : q_ms mm2 n2) {index : Nat} (hw : q_ml mm.1.cls index mm2.1) (hR : d2 + 1 ≤ R.frames ∧ 19 + mm2.2.2.1 + 64 * d2 ≤ R.locals) (hf : k + mc2 ≤ R.cells ∧ n + ms2 ≤ R.slots) (hlen : args2.length = n2) (hst : st = args2.reverse ++ rest) (hcat : (rest.map q_cat).sum ≤ 8) {pc' : Nat} (hd : q_d mm.2.1 pc (.invokestatic index) 3 pc')
    (kk : ∀ (r : Option SV) (S' : SW) (M' : Mem), Post2 r S' M' → RW l g mm R mc ms Post pc' S' M' (k + mc2) (n + ms2) ls (r.toList ++ rest)) : RW l g mm R mc ms Post pc S M k n ls st := by
  obtain ⟨hd, rfl⟩ := hd
  refine R_run (Post2 := Post2) (rest := rest) (args2 := (args2.map q_V).toArray) ?_ (fun h => (q_arg h hst).2) kk
  intro hl hs hM p e s m args below meth c H locs lsR X
  have hMet := hM2 (q_arg hs hst).1 hM
  obtain ⟨c1, c2, c3, c4, c5, c6, c7, c8, c9⟩ := q_callB (R := R) (mc2 := mc2) (ms2 := ms2) (args := args) hm.1 hR X.1.2.2.2.2.2.1
  have hp : PreS s H (va_Pc (args2.map q_V) (q_B g S M)) (args2.map q_V) := ⟨q_blind _ _ _ _, fun U hU hW => ⟨rfl, q_pre X hU hW⟩⟩
  have hstk : (F0 m pc lsR (st.map q_V)).stack = (args2.map q_V).reverse ++ rest.map q_V := by
    show st.map q_V = _
    rw [hst, List.map_append, List.map_reverse]
  rcases hw with hw | ⟨host, hw⟩
  · exact va_runS (Ts := []) (own := mm.1.cls) (n := n2) ⟨X.1.1, X.1.2.1, X.1.2.2.2.1, X.1.2.2.2.2.1, fun w h => absurd h List.not_mem_nil⟩ hMet ⟨⟨c1, c2, c3, c4, c5, c6, c7, c8, hm.1.2.2.1, c9, X.1.2.2.2.2.2.1.use hw⟩, X.1.2.2.2.2.2.1.use hm.2⟩ hp rfl (by rw [List.length_map]; exact hlen) X.2.2.2.2.2.2.1 hstk (lv_room (by rw [q_sum]; exact hcat)) hd hf
  · exact va_runSN (Ts := []) (own := mm.1.cls) (n := n2) (host := host) ⟨X.1.1, X.1.2.1, X.1.2.2.2.1, X.1.2.2.2.2.1, fun w h => absurd h List.not_mem_nil⟩ hMet ⟨⟨⟨c1, c2, c3, c4, c5, c6⟩, c7, c8, hm.1.2.2.1, c9, X.1.2.2.2.2.2.1.use hw⟩, X.1.2.2.2.2.2.1.use hm.2, trivial⟩ hp rfl (by rw [List.length_map]; exact hlen) X.2.2.2.2.2.2.1 hstk (lv_room (by rw [q_sum]; exact hcat)) hd hf
theorem R_callV {mm2 : MM} {d2 mc2 ms2 n2 b : Nat} {As rest : List SV} {Post2 : PP} (hM2 : CT l g mm2 d2 mc2 ms2 S M (.inr (.inr (some b)) :: As) Post2) (hm : q_mv mm2 n2) {index : Nat} (hw : q_ml mm.1.cls index mm2.1) (hrc : q_rc g S b mm2.1.cls) (hR : d2 + 1 ≤ R.frames ∧ 19 + mm2.2.2.1 + 64 * d2 ≤ R.locals) (hf : k + mc2 ≤ R.cells ∧ n + ms2 ≤ R.slots) (hlen : As.length = n2) (hst : st = As.reverse ++ .inr (.inr (some b)) :: rest) (hcat : (rest.map q_cat).sum ≤ 8) {pc' : Nat} (hd : q_d mm.2.1 pc (.invokevirtual index) 3 pc')
    (kk : ∀ (r : Option SV) (S' : SW) (M' : Mem), Post2 r S' M' → RW l g mm R mc ms Post pc' S' M' (k + mc2) (n + ms2) ls (r.toList ++ rest)) : RW l g mm R mc ms Post pc S M k n ls st := by
  obtain ⟨hd, rfl⟩ := hd
  have hst2 : st = (.inr (.inr (some b)) :: As : List SV).reverse ++ rest := by rw [hst]; simp
  refine R_run (Post2 := Post2) (rest := rest) (args2 := ((.inr (.inr (some b)) :: As : List SV).map q_V).toArray) ?_ (fun h => (q_arg h hst2).2) kk
  intro hl hs hM p e s m args below meth c H locs lsR X
  have hMet := hM2 (q_arg hs hst2).1 hM
  obtain ⟨c1, c2, c3, c4, c5, c6, c7, c8, c9⟩ := q_callB (R := R) (mc2 := mc2) (ms2 := ms2) (args := args) hm.1 hR X.1.2.2.2.2.2.1
  have hp : PreV s H mm2.1.cls b (va_Pc ((.inr (.inr (some b)) :: As : List SV).map q_V) (q_B g S M)) (As.map q_V) := ⟨q_blind _ _ _ _, q_recv X hrc, fun U hU hW => ⟨rfl, q_pre X hU hW⟩⟩
  have hstk : (F0 m pc lsR (st.map q_V)).stack = (As.map q_V).reverse ++ .ref b :: rest.map q_V := by
    show st.map q_V = _
    rw [hst, List.map_append, List.map_reverse]
    rfl
  rcases hw with hw | ⟨host, hw⟩
  · exact va_runV (Ts := []) (own := mm.1.cls) (n := n2) (C := mm2.1.cls) ⟨X.1.1, X.1.2.1, X.1.2.2.2.1, X.1.2.2.2.2.1, fun w h => absurd h List.not_mem_nil⟩ hMet ⟨⟨c1, c2, c3, c4, c5, c6, c7, c8, hm.1.2.2.1, c9, X.1.2.2.2.2.2.1.use hw⟩, X.1.2.2.2.2.2.1.use hm.2.1, X.1.2.2.2.2.2.1.use hm.2.2⟩ hp rfl (by rw [List.length_map]; exact hlen) X.2.2.2.2.2.2.1 hstk (lv_room (by rw [q_sum]; exact hcat)) hd hf
  · exact va_runVN (Ts := []) (own := mm.1.cls) (n := n2) (C := mm2.1.cls) (host := host) ⟨X.1.1, X.1.2.1, X.1.2.2.2.1, X.1.2.2.2.2.1, fun w h => absurd h List.not_mem_nil⟩ hMet ⟨⟨⟨c1, c2, c3, c4, c5, c6⟩, c7, c8, hm.1.2.2.1, c9, X.1.2.2.2.2.2.1.use hw⟩, X.1.2.2.2.2.2.1.use hm.2.1, X.1.2.2.2.2.2.1.use hm.2.2⟩ hp rfl (by rw [List.length_map]; exact hlen) X.2.2.2.2.2.2.1 hstk (lv_room (by rw [q_sum]; exact hcat)) hd hf
theorem R_callI {mm2 : MM} {d2 mc2 ms2 n2 b : Nat} {As rest : List SV} {Post2 : PP} (hM2 : CT l g mm2 d2 mc2 ms2 S M (.inr (.inr (some b)) :: As) Post2) (hm : q_mi mm2 n2) {index : Nat} (hw : q_ml mm.1.cls index mm2.1) (hR : d2 + 1 ≤ R.frames ∧ 19 + mm2.2.2.1 + 64 * d2 ≤ R.locals) (hf : k + mc2 ≤ R.cells ∧ n + ms2 ≤ R.slots) (hlen : As.length = n2) (hst : st = As.reverse ++ .inr (.inr (some b)) :: rest) (hcat : (rest.map q_cat).sum ≤ 8) {pc' : Nat} (hd : q_d mm.2.1 pc (.invokespecial index) 3 pc')
    (kk : ∀ (r : Option SV) (S' : SW) (M' : Mem), Post2 r S' M' → RW l g mm R mc ms Post pc' S' M' (k + mc2) (n + ms2) ls (r.toList ++ rest)) : RW l g mm R mc ms Post pc S M k n ls st := by
  obtain ⟨hd, rfl⟩ := hd
  have hst2 : st = (.inr (.inr (some b)) :: As : List SV).reverse ++ rest := by rw [hst]; simp
  refine R_run (Post2 := Post2) (rest := rest) (args2 := ((.inr (.inr (some b)) :: As : List SV).map q_V).toArray) ?_ (fun h => (q_arg h hst2).2) kk
  intro hl hs hM p e s m args below meth c H locs lsR X
  have hMet := hM2 (q_arg hs hst2).1 hM
  obtain ⟨c1, c2, c3, c4, c5, c6, c7, c8, c9⟩ := q_callB (R := R) (mc2 := mc2) (ms2 := ms2) (args := args) hm.1 hR X.1.2.2.2.2.2.1
  have hp : PreS s H (va_Pc ((.inr (.inr (some b)) :: As : List SV).map q_V) (q_B g S M)) (.ref b :: As.map q_V) := ⟨q_blind _ _ _ _, fun U hU hW => ⟨rfl, q_pre X hU hW⟩⟩
  have hstk : (F0 m pc lsR (st.map q_V)).stack = (As.map q_V).reverse ++ .ref b :: rest.map q_V := by
    show st.map q_V = _
    rw [hst, List.map_append, List.map_reverse]
    rfl
  obtain ⟨⟨y, cd, mL, rt⟩, hmm⟩ : ∃ z, z = mm2 := ⟨_, rfl⟩
  subst hmm
  have hrt : rt = none := hm.2.2.2
  subst hrt
  rcases hw with hw | ⟨host, hw⟩
  · exact va_runI (Ts := []) (own := mm.1.cls) (n := n2) ⟨X.1.1, X.1.2.1, X.1.2.2.2.1, X.1.2.2.2.2.1, fun w h => absurd h List.not_mem_nil⟩ hMet ⟨⟨c1, c2, c3, c4, c5, c6, c7, c8, hm.1.2.2.1, c9, X.1.2.2.2.2.2.1.use hw⟩, hm.2.2.1, X.1.2.2.2.2.2.1.use hm.2.1⟩ hp rfl (by rw [List.length_map]; exact hlen) X.2.2.2.2.2.2.1 hstk (lv_room (by rw [q_sum]; exact hcat)) hd hf
  · exact va_runIN (Ts := []) (own := mm.1.cls) (n := n2) (host := host) ⟨X.1.1, X.1.2.1, X.1.2.2.2.1, X.1.2.2.2.2.1, fun w h => absurd h List.not_mem_nil⟩ hMet ⟨⟨⟨c1, c2, c3, c4, c5, c6⟩, c7, c8, hm.1.2.2.1, c9, X.1.2.2.2.2.2.1.use hw⟩, hm.2.2.1, X.1.2.2.2.2.2.1.use hm.2.1⟩ hp rfl (by rw [List.length_map]; exact hlen) X.2.2.2.2.2.2.1 hstk (lv_room (by rw [q_sum]; exact hcat)) hd hf
/-! ends -/
theorem q_end {p : Program} {s : State} {m : MethodId} {meth : Method} {c : Code} {H : Heap} {locs : List Loc} {lsR : Array Slot} {args : Array Value} (hM : q_RM M) (X : q_X g mm S M ls p s m meth c H locs lsR) {r : Option SV} (hp : Post r S M) (hr : ∀ v, r = some v → q_R v) {t : State} (ht : t.heap = H) (hW : s.WarmedH t.vm) : q_Q g Post args s (.returned (r.map q_V)) t :=
  ⟨⟨r, S, M, hp, hr, hM, rfl, by rw [ht]; exact X.2.2.1, X.2.2.2.1.moved hW.alike⟩, X.2.1.F ht⟩
theorem R_iret {v : Int} {ty : FieldType} (hr : mm.2.2.2 = some ty) (hn : narrow ty (.int (Int32.ofInt v)) = .int (Int32.ofInt v)) (hk : k ≤ mc) (hn2 : n ≤ ms) {pc' : Nat} (hd : q_d mm.2.1 pc (.ireturn) 1 pc') (hp : Post (some (.inl v)) S M) : RW l g mm R mc ms Post pc S M k n ls [.inl v] := by
  obtain ⟨hd, rfl⟩ := hd
  intro hl hs hM p e s m args below meth c H locs lsR X
  refine W.widen hk hn2 ?_
  exact W.zret (ty := ty) X.1.1 X.1.2.1 (X.1.2.2.1.trans hr) hn (fun t ht hW => q_end (r := some (.inl v)) hM X hp (fun w hw => by cases hw; exact hs.hd) ht hW) (fun q hq => X.2.1.2.2 q hq) hd X.1.2.2.2.2.2.2.1
theorem R_lret {v : Int} (hr : mm.2.2.2 = some .long) (hk : k ≤ mc) (hn2 : n ≤ ms) {pc' : Nat} (hd : q_d mm.2.1 pc (.lreturn) 1 pc') (hp : Post (some (.inr (.inl v))) S M) : RW l g mm R mc ms Post pc S M k n ls [.inr (.inl v)] := by
  obtain ⟨hd, rfl⟩ := hd
  intro hl hs hM p e s m args below meth c H locs lsR X
  refine W.widen hk hn2 ?_
  exact W.lret X.1.1 X.1.2.1 (X.1.2.2.1.trans hr) (fun t ht hW => q_end (r := some (.inr (.inl v))) hM X hp (fun w hw => by cases hw; exact hs.hd) ht hW) (fun q hq => X.2.1.2.2 q hq) hd X.1.2.2.2.2.2.2.1
theorem q_V_ref (v : Option Nat) : q_V (.inr (.inr v)) = .null ∨ ∃ a, q_V (.inr (.inr v)) = .ref a := by
  cases v with
  | none => exact Or.inl rfl
  | some a => exact Or.inr ⟨a, rfl⟩
theorem R_aret {v : Option Nat} {rt : FieldType} (hr : mm.2.2.2 = some rt) (hrt : (∃ n, rt = .object n) ∨ ∃ t, rt = .array t) (hk : k ≤ mc) (hn2 : n ≤ ms) {pc' : Nat} (hd : q_d mm.2.1 pc (.areturn) 1 pc') (hp : Post (some (.inr (.inr v))) S M) : RW l g mm R mc ms Post pc S M k n ls [.inr (.inr v)] := by
  obtain ⟨hd, rfl⟩ := hd
  intro hl hs hM p e s m args below meth c H locs lsR X
  refine W.widen hk hn2 ?_
  exact W.aret (v := q_V (.inr (.inr v))) X.1.1 X.1.2.1 (X.1.2.2.1.trans hr) hrt (q_V_ref v) (fun t ht hW => q_end (r := some (.inr (.inr v))) hM X hp (fun w hw => by cases hw; exact trivial) ht hW) (fun q hq => X.2.1.2.2 q hq) hd X.1.2.2.2.2.2.2.1
theorem R_vret (hr : mm.2.2.2 = none) (hk : k ≤ mc) (hn2 : n ≤ ms) {pc' : Nat} (hd : q_d mm.2.1 pc (.return_) 1 pc') (hp : Post none S M) : RW l g mm R mc ms Post pc S M k n ls [] := by
  obtain ⟨hd, rfl⟩ := hd
  intro hl hs hM p e s m args below meth c H locs lsR X
  refine W.widen hk hn2 ?_
  exact W.vret X.1.1 X.1.2.1 (X.1.2.2.1.trans hr) (fun t ht hW => q_end (r := none) hM X hp (fun w hw => by cases hw) ht hW) (fun q hq => X.2.1.2.2 q hq) hd X.1.2.2.2.2.2.2.1
end CALLS
/-- the locals at a method's entry -/
def q_ent : List SV → List (Option SV)
  | [] => []
  | .inl z :: l => some (.inl z) :: q_ent l
  | .inr (.inl z) :: l => some (.inr (.inl z)) :: none :: q_ent l
  | .inr (.inr r) :: l => some (.inr (.inr r)) :: q_ent l
theorem q_ent_at : ∀ (vs : List SV) (i j : Nat) (v : SV), (q_ent vs)[j]? = some (some v) → (i + j, q_V v) ∈ lv_args i (vs.map q_V) := by
  intro vs
  induction vs with
  | nil => intro i j v h; simp [q_ent] at h
  | cons w vs ih =>
    intro i j v h
    rcases w with z | (z | r)
    · cases j with
      | zero => simp [q_ent] at h; subst h; simp [lv_args]
      | succ j =>
        simp [q_ent] at h
        have h2 := ih (i + 1) j v h
        rw [List.map_cons, lv_args]
        refine List.mem_cons_of_mem _ ?_
        rw [if_neg (by simp [q_V, Value.category]), show i + (j + 1) = i + 1 + j by omega]
        exact h2
    · cases j with
      | zero => simp [q_ent] at h; subst h; simp [lv_args]
      | succ j =>
        cases j with
        | zero => simp [q_ent] at h
        | succ j =>
          simp [q_ent] at h
          have h2 := ih (i + 2) j v h
          rw [List.map_cons, lv_args]
          refine List.mem_cons_of_mem _ ?_
          rw [if_pos (by simp [q_V, Value.category]), show i + (j + 1 + 1) = i + 2 + j by omega]
          exact h2
    · have hc : ¬ (q_V (.inr (.inr r))).category = 2 := by rw [q_cat_eq]; simp [q_cat]
      cases j with
      | zero => simp [q_ent] at h; subst h; simp [lv_args]
      | succ j =>
        simp [q_ent] at h
        have h2 := ih (i + 1) j v h
        rw [List.map_cons, lv_args]
        refine List.mem_cons_of_mem _ ?_
        rw [if_neg hc, show i + (j + 1) = i + 1 + j by omega]
        exact h2
theorem q_ent_len : ∀ vs : List SV, (lg_sl (vs.map q_V)).length = (q_ent vs).length := by
  intro vs
  induction vs with
  | nil => rfl
  | cons w vs ih => rcases w with z | (z | (_ | a)) <;> simp [q_ent, lg_sl, q_V, Value.category] at ih ⊢ <;> omega
theorem q_ent_R : ∀ (vs : List SV), q_RL vs → q_RO (q_ent vs) := by
  intro vs
  induction vs with
  | nil => intro _ v h; simp [q_ent] at h
  | cons w vs ih =>
    intro h v hv
    rcases w with z | (z | r)
    · simp [q_ent] at hv
      rcases hv with rfl | hv
      · exact h.hd
      · exact ih h.tl v hv
    · simp [q_ent] at hv
      rcases hv with rfl | hv
      · exact h.hd
      · exact ih h.tl v hv
    · simp [q_ent] at hv
      rcases hv with rfl | hv
      · exact h.hd
      · exact ih h.tl v hv
theorem CT_of {l : Launch} {g : GG} {mm : MM} {d mc ms : Nat} {S : SW} {M : Mem} {args : List SV} {Post : PP} (hy : plainName mm.1.cls = true) (hlen : (q_ent args).length ≤ mm.2.2.1) {ls0 : List (Option SV)} (he : q_ent args ++ List.replicate (mm.2.2.1 - (q_ent args).length) none = ls0)
    (body : RW l g mm (q_rm d mc ms) mc ms Post 0 S M 0 0 ls0 []) : CT l g mm d mc ms S M args Post := by
  subst he
  intro hr hM
  refine Met.ofW (cc := mm.2.1) (maxL := mm.2.2.1) (ret := mm.2.2.2) hy rfl ?_
  intro p e s m args' below meth c s₁ B hml hv
  obtain ⟨rfl, hB, hP, hK, hZ, hT⟩ := hv
  have hl := lv_entry (args.map q_V) (n := mm.2.2.1) (by rw [q_ent_len]; exact hlen)
  rw [lg_entry_eq]
  generalize (lg_sl (args.map q_V) ++ List.replicate (mm.2.2.1 - (lg_sl (args.map q_V)).length) Slot.unset).toArray = lsR at hl ⊢
  have hL : q_L lsR mm.2.2.1 (q_ent args ++ List.replicate (mm.2.2.1 - (q_ent args).length) none) := by
    refine ⟨hl.1, hl.2.1, fun i v hi => ?_⟩
    by_cases h : i < (q_ent args).length
    · rw [List.getElem?_append_left h] at hi
      have h2 := q_ent_at args 0 i v hi
      rw [Nat.zero_add] at h2
      exact hl.2.2 _ h2
    · rw [List.getElem?_append_right (by omega)] at hi
      have h3 := List.eq_of_mem_replicate (List.mem_of_getElem? hi)
      cases h3
  have hRO : q_RO (q_ent args ++ List.replicate (mm.2.2.1 - (q_ent args).length) none) := by
    intro v hv
    rcases List.mem_append.mp hv with h | h
    · exact q_ent_R args hr v h
    · cases List.eq_of_mem_replicate h
  have hC : q_C mm p s m meth c := ⟨B.exec, B.bytes, B.returns, hml, findClass_of_methodNamed B.named, hT, B.notSynchronized, (name_of_methodNamed B.named B.method).1⟩
  exact body hRO q_RL.nil hM p e s m (args.map q_V).toArray below meth c s.heap [] lsR ⟨hC, va_S.rf, hP, hK, hZ, hB, hL⟩
/-- an exact answer: this value, this memory, the same cells -/
def q_ex (S : SW) (r : Option SV) (M' : Mem) : PP := fun r2 S2 M2 => r2 = r ∧ S2 = S ∧ M2 = M'
end
