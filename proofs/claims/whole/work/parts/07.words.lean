theorem tbm_1 : ∀ w ∈ tables_1_1, w ∈ lw_tbl := fun w h => List.mem_append_right _ (List.mem_append_left _ h)
theorem tbm_2 : ∀ w ∈ tables_1_2, w ∈ lw_tbl := fun w h => List.mem_append_right _ (List.mem_append_right _ (List.mem_append_left _ h))
theorem tbm_3 : ∀ w ∈ tables_1_3, w ∈ lw_tbl := fun w h => List.mem_append_right _ (List.mem_append_right _ (List.mem_append_right _ (List.mem_append_left _ h)))
theorem tbm_4 : ∀ w ∈ tables_1_4, w ∈ lw_tbl := fun w h => List.mem_append_right _ (List.mem_append_right _ (List.mem_append_right _ (List.mem_append_right _ (List.mem_append_left _ h))))
theorem tbm_5 : ∀ w ∈ tables_1_5, w ∈ lw_tbl := fun w h => List.mem_append_right _ (List.mem_append_right _ (List.mem_append_right _ (List.mem_append_right _ (List.mem_append_right _ (List.mem_append_left _ h)))))
theorem tbm_6 : ∀ w ∈ tables_1_6, w ∈ lw_tbl := fun w h => List.mem_append_right _ (List.mem_append_right _ (List.mem_append_right _ (List.mem_append_right _ (List.mem_append_right _ (List.mem_append_right _ (List.mem_append_left _ h))))))
theorem tbm_7 : ∀ w ∈ tables_1_7, w ∈ lw_tbl := fun w h => List.mem_append_right _ (List.mem_append_right _ (List.mem_append_right _ (List.mem_append_right _ (List.mem_append_right _ (List.mem_append_right _ (List.mem_append_right _ (h)))))))
theorem tb_1 : q_in (.selects "CardNobodyReads$Tape" yX5_endOf yX5_endOf) := ⟨List.mem_append_left _ (List.mem_of_getElem? (i := 1) rfl), rfl⟩
theorem tb_2 : q_in (.selects "CardNobodyReads$Tape" yX5_tokenOf yX5_tokenOf) := ⟨List.mem_append_left _ (List.mem_of_getElem? (i := 2) rfl), rfl⟩
theorem tb_3 : q_in (.selects "CardNobodyReads$Tape" yX5_word yX5_word) := ⟨List.mem_append_left _ (List.mem_of_getElem? (i := 3) rfl), rfl⟩
theorem tb_4 : q_in (.selects "CardNobodyReads$Tape" yX5_spells yX5_spells) := ⟨List.mem_append_left _ (List.mem_of_getElem? (i := 4) rfl), rfl⟩
theorem tb_5 : q_in (.selects "CardNobodyReads$Tape" yX5_value yX5_value) := ⟨List.mem_append_left _ (List.mem_of_getElem? (i := 5) rfl), rfl⟩
theorem tb_6 : q_in (.selects "CardNobodyReads$Texts" yX6_readPart yX6_readPart) := ⟨List.mem_append_left _ (List.mem_of_getElem? (i := 6) rfl), rfl⟩
theorem tb_7 : q_in (.selects "CardNobodyReads$Texts" yX6_pass yX6_pass) := ⟨List.mem_append_left _ (List.mem_of_getElem? (i := 7) rfl), rfl⟩
theorem tb_8 : q_in (.selects "CardNobodyReads$Texts" yX6_token yX6_token) := ⟨List.mem_append_left _ (List.mem_of_getElem? (i := 8) rfl), rfl⟩
theorem tb_9 : q_in (.selects "CardNobodyReads$Texts" yX6_readEither yX6_readEither) := ⟨List.mem_append_left _ (List.mem_of_getElem? (i := 9) rfl), rfl⟩
theorem tb_10 : q_in (.selects "CardNobodyReads$Texts" yX6_readBoth yX6_readBoth) := ⟨List.mem_append_left _ (List.mem_of_getElem? (i := 10) rfl), rfl⟩
theorem tb_11 : q_in (.selects "CardNobodyReads$Texts" yX6_readNot yX6_readNot) := ⟨List.mem_append_left _ (List.mem_of_getElem? (i := 11) rfl), rfl⟩
theorem tb_12 : q_in (.selects "CardNobodyReads$Texts" yX6_readCompared yX6_readCompared) := ⟨List.mem_append_left _ (List.mem_of_getElem? (i := 12) rfl), rfl⟩
theorem tb_13 : q_in (.selects "CardNobodyReads$Texts" yX6_readSum yX6_readSum) := ⟨List.mem_append_left _ (List.mem_of_getElem? (i := 13) rfl), rfl⟩
theorem tb_14 : q_in (.selects "CardNobodyReads$Texts" yX6_readTerm yX6_readTerm) := ⟨List.mem_append_left _ (List.mem_of_getElem? (i := 14) rfl), rfl⟩
theorem tb_15 : q_in (.selects "CardNobodyReads$Texts" yX6_readOne yX6_readOne) := ⟨List.mem_append_left _ (List.mem_of_getElem? (i := 15) rfl), rfl⟩
theorem tb_16 : q_in (.selects "CardNobodyReads$Texts" yX6_write yX6_write) := ⟨List.mem_append_left _ (List.mem_of_getElem? (i := 16) rfl), rfl⟩
theorem tb_17 : q_in (.selects "CardNobodyReads" yX9_addLine yX9_addLine) := ⟨List.mem_append_left _ (List.mem_of_getElem? (i := 17) rfl), rfl⟩
theorem tb_18 : q_in (.selects "CardNobodyReads" yX9_isLine yX9_isLine) := ⟨List.mem_append_left _ (List.mem_of_getElem? (i := 18) rfl), rfl⟩
theorem tb_19 : q_in (.selects "CardNobodyReads" yX9_isGuest yX9_isGuest) := ⟨List.mem_append_left _ (List.mem_of_getElem? (i := 19) rfl), rfl⟩
theorem tb_20 : q_in (.selects "CardNobodyReads$Texts" yX6_valueOf yX6_valueOf) := ⟨List.mem_append_left _ (List.mem_of_getElem? (i := 20) rfl), rfl⟩
theorem tb_21 : q_in (.selects "CardNobodyReads" yX9_mayBeFact yX9_mayBeFact) := ⟨List.mem_append_left _ (List.mem_of_getElem? (i := 21) rfl), rfl⟩
theorem tb_22 : q_in (.selects "CardNobodyReads" yX9_fitting yX9_fitting) := ⟨List.mem_append_left _ (List.mem_of_getElem? (i := 22) rfl), rfl⟩
theorem tb_23 : q_in (.selects "CardNobodyReads$Fits" yX1_allow yX1_allow) := ⟨List.mem_append_left _ (List.mem_of_getElem? (i := 23) rfl), rfl⟩
theorem tb_24 : q_in (.selects "CardNobodyReads$Fits" yX1_isLawful yX1_isLawful) := ⟨List.mem_append_left _ (List.mem_of_getElem? (i := 24) rfl), rfl⟩
theorem tb_25 : q_in (.selects "CardNobodyReads$Fits" yX1_take yX1_take) := ⟨List.mem_append_left _ (List.mem_of_getElem? (i := 25) rfl), rfl⟩
theorem tb_26 : q_in (.selects "CardNobodyReads" yX9_safeLines yX9_safeLines) := ⟨List.mem_append_left _ (List.mem_of_getElem? (i := 26) rfl), rfl⟩
theorem tb_27 : q_in (.selects "CardNobodyReads" yX9_planTonight yX9_planTonight) := ⟨List.mem_append_left _ (List.mem_of_getElem? (i := 27) rfl), rfl⟩
theorem tb_28 : q_in (.selects "CardNobodyReads" yX9_liking yX9_liking) := ⟨List.mem_append_left _ (List.mem_of_getElem? (i := 28) rfl), rfl⟩
theorem tb_29 : q_in (.selects "CardNobodyReads$Tonight" yX8_serve yX8_serve) := ⟨List.mem_append_left _ (List.mem_of_getElem? (i := 29) rfl), rfl⟩
theorem tb_30 : q_in (.selects "CardNobodyReads$Tonight" yX8_keepIfBetter yX8_keepIfBetter) := ⟨List.mem_append_left _ (List.mem_of_getElem? (i := 30) rfl), rfl⟩
theorem tb_31 : q_in (.selects "CardNobodyReads" yX9_mostLiking yX9_mostLiking) := ⟨List.mem_append_left _ (List.mem_of_getElem? (i := 31) rfl), rfl⟩
theorem tb_32 : q_in (.selects "CardNobodyReads" yX9_teaching yX9_teaching) := ⟨List.mem_append_left _ (List.mem_of_getElem? (i := 32) rfl), rfl⟩
theorem tb_33 : q_in (.selects "CardNobodyReads" yX9_isMeal yX9_isMeal) := ⟨List.mem_append_left _ (List.mem_of_getElem? (i := 33) rfl), rfl⟩
theorem tb_34 : q_in (.selects "CardNobodyReadsModel" yX10_next yX10_next) := ⟨List.mem_append_left _ (List.mem_of_getElem? (i := 34) rfl), rfl⟩
theorem tb_35 : q_in (.selects "CardNobodyReadsModel" yX10_wordFrom yX10_wordFrom) := ⟨List.mem_append_left _ (List.mem_of_getElem? (i := 35) rfl), rfl⟩
theorem tb_36 : q_in (.selects "CardNobodyReadsModel" yX10_eRead yX10_eRead) := ⟨List.mem_append_left _ (List.mem_of_getElem? (i := 36) rfl), rfl⟩
theorem tb_37 : q_in (.selects "CardNobodyReadsModel" yX10_puts yX10_puts) := ⟨List.mem_append_left _ (List.mem_of_getElem? (i := 37) rfl), rfl⟩
theorem tb_38 : q_in (.selects "CardNobodyReadsModel" yX10_unwinds yX10_unwinds) := ⟨List.mem_append_left _ (List.mem_of_getElem? (i := 38) rfl), rfl⟩
theorem tb_39 : q_in (.selects "CardNobodyReadsModel" yX10_opensOne yX10_opensOne) := ⟨List.mem_append_left _ (List.mem_of_getElem? (i := 39) rfl), rfl⟩
theorem tb_40 : q_in (.selects "CardNobodyReadsModel" yX10_holds yX10_holds) := ⟨List.mem_append_left _ (List.mem_of_getElem? (i := 40) rfl), rfl⟩
theorem tb_41 : q_in (.selects "CardNobodyReadsModel" yX10_signOf yX10_signOf) := ⟨List.mem_append_left _ (List.mem_of_getElem? (i := 41) rfl), rfl⟩
theorem tb_42 : q_in (.selects "CardNobodyReadsModel" yX10_between yX10_between) := ⟨List.mem_append_left _ (List.mem_of_getElem? (i := 42) rfl), rfl⟩
theorem tb_44 : q_in (.selects "CardNobodyReadsModel" yX10_isLine yX10_isLine) := ⟨List.mem_append_left _ (List.mem_of_getElem? (i := 44) rfl), rfl⟩
theorem tb_45 : q_in (.selects "CardNobodyReadsModel" yX10_isGuest yX10_isGuest) := ⟨List.mem_append_left _ (List.mem_of_getElem? (i := 45) rfl), rfl⟩
theorem tb_46 : q_in (.selects "CardNobodyReadsModel" yX10_asksOf yX10_asksOf) := ⟨List.mem_append_left _ (List.mem_of_getElem? (i := 46) rfl), rfl⟩
theorem tb_47 : q_in (.selects "CardNobodyReadsModel" yX10_worth yX10_worth) := ⟨List.mem_append_left _ (List.mem_of_getElem? (i := 47) rfl), rfl⟩
theorem tb_48 : q_in (.selects "CardNobodyReadsModel" yX10_isFact yX10_isFact) := ⟨List.mem_append_left _ (List.mem_of_getElem? (i := 48) rfl), rfl⟩
theorem tb_49 : q_in (.selects "CardNobodyReadsModel" yX10_lays yX10_lays) := ⟨List.mem_append_left _ (List.mem_of_getElem? (i := 49) rfl), rfl⟩
theorem tb_50 : q_in (.selects "CardNobodyReadsModel" yX10_finds yX10_finds) := ⟨List.mem_append_left _ (List.mem_of_getElem? (i := 50) rfl), rfl⟩
theorem tb_51 : q_in (.selects "CardNobodyReadsModel" yX10_mays yX10_mays) := ⟨List.mem_append_left _ (List.mem_of_getElem? (i := 51) rfl), rfl⟩
theorem tb_52 : q_in (.selects "CardNobodyReadsModel" yX10_mayBe yX10_mayBe) := ⟨List.mem_append_left _ (List.mem_of_getElem? (i := 52) rfl), rfl⟩
theorem tb_53 : q_in (.selects "CardNobodyReadsModel" yX10_hasIn yX10_hasIn) := ⟨List.mem_append_left _ (List.mem_of_getElem? (i := 53) rfl), rfl⟩
theorem tb_54 : q_in (.selects "CardNobodyReadsModel" yX10_holds_ yX10_holds_) := ⟨List.mem_append_left _ (List.mem_of_getElem? (i := 54) rfl), rfl⟩
theorem tb_55 : q_in (.selects "CardNobodyReadsModel" yX10_partIn yX10_partIn) := ⟨List.mem_append_left _ (List.mem_of_getElem? (i := 55) rfl), rfl⟩
theorem tb_56 : q_in (.selects "CardNobodyReadsModel" yX10_meansIn yX10_meansIn) := ⟨List.mem_append_left _ (List.mem_of_getElem? (i := 56) rfl), rfl⟩
theorem tb_57 : q_in (.selects "CardNobodyReadsModel" yX10_unlikeOf yX10_unlikeOf) := ⟨List.mem_append_left _ (List.mem_of_getElem? (i := 57) rfl), rfl⟩
theorem tb_58 : q_in (.selects "CardNobodyReadsModel" yX10_ofAll yX10_ofAll) := ⟨List.mem_append_left _ (List.mem_of_getElem? (i := 58) rfl), rfl⟩
theorem tb_59 : q_in (.selects "CardNobodyReadsModel" yX10_safeFor yX10_safeFor) := ⟨List.mem_append_left _ (List.mem_of_getElem? (i := 59) rfl), rfl⟩
theorem tb_60 : q_in (.selects "CardNobodyReadsModel" yX10_shunnedIn yX10_shunnedIn) := ⟨List.mem_append_left _ (List.mem_of_getElem? (i := 60) rfl), rfl⟩
theorem tb_61 : q_in (.selects "CardNobodyReadsModel" yX10_tonight yX10_tonight) := ⟨List.mem_append_left _ (List.mem_of_getElem? (i := 61) rfl), rfl⟩
theorem tb_62 : q_in (.selects "CardNobodyReadsModel" yX10_likes yX10_likes) := ⟨List.mem_append_left _ (List.mem_of_getElem? (i := 62) rfl), rfl⟩
theorem tb_63 : q_in (.selects "CardNobodyReadsModel" yX10_liking yX10_liking) := ⟨List.mem_append_left _ (List.mem_of_getElem? (i := 63) rfl), rfl⟩
theorem tb_64 : q_in (.selects "CardNobodyReadsModel" yX10_orders yX10_orders) := ⟨List.mem_append_left _ (List.mem_of_getElem? (i := 64) rfl), rfl⟩
theorem tb_65 : q_in (.selects "CardNobodyReadsModel" yX10_teaching yX10_teaching) := ⟨List.mem_append_left _ (List.mem_of_getElem? (i := 65) rfl), rfl⟩
theorem tb_66 : q_in (.selects "CardNobodyReadsModel" yX10_counts yX10_counts) := ⟨List.mem_append_left _ (List.mem_of_getElem? (i := 66) rfl), rfl⟩
theorem tb_67 : q_in (.selects "CardNobodyReadsModel" yX10_fitWithout yX10_fitWithout) := ⟨List.mem_append_left _ (List.mem_of_getElem? (i := 67) rfl), rfl⟩
theorem tb_68 : q_in (.selects "CardNobodyReadsModel" yX10_drawnOf yX10_drawnOf) := ⟨List.mem_append_left _ (List.mem_of_getElem? (i := 68) rfl), rfl⟩
theorem tb_70 : q_in (.initialized "CardNobodyReads") := ⟨tbm_1 _ (List.mem_of_getElem? (i := 1) rfl), rfl⟩
theorem tb_71 : q_in (.initialized "CardNobodyReads$Tongues") := ⟨tbm_1 _ (List.mem_of_getElem? (i := 2) rfl), rfl⟩
theorem tb_72 : q_in (.initialized "java/lang/Math") := ⟨tbm_1 _ (List.mem_of_getElem? (i := 3) rfl), rfl⟩
theorem tb_73 : q_in (.initialized "java/lang/Integer") := ⟨tbm_1 _ (List.mem_of_getElem? (i := 4) rfl), rfl⟩
theorem tb_74 : q_in (.initialized "CardNobodyReads$Lines") := ⟨tbm_1 _ (List.mem_of_getElem? (i := 5) rfl), rfl⟩
theorem tb_75 : q_in (.initialized "CardNobodyReads$Facts") := ⟨tbm_1 _ (List.mem_of_getElem? (i := 6) rfl), rfl⟩
theorem tb_76 : q_in (.initialized "CardNobodyReads$Texts") := ⟨tbm_1 _ (List.mem_of_getElem? (i := 7) rfl), rfl⟩
theorem tb_77 : q_in (.initialized "CardNobodyReads$Tape") := ⟨tbm_1 _ (List.mem_of_getElem? (i := 8) rfl), rfl⟩
theorem tb_78 : q_in (.initialized "java/lang/String") := ⟨tbm_1 _ (List.mem_of_getElem? (i := 9) rfl), rfl⟩
theorem tb_79 : q_in (.initialized "java/lang/StringLatin1") := ⟨tbm_1 _ (List.mem_of_getElem? (i := 10) rfl), rfl⟩
theorem tb_80 : q_in (.initialized "jdk/internal/util/Preconditions") := ⟨tbm_1 _ (List.mem_of_getElem? (i := 11) rfl), rfl⟩
theorem tb_83 : q_in (.initialized "CardNobodyReads$Fits") := ⟨tbm_1 _ (List.mem_of_getElem? (i := 14) rfl), rfl⟩
theorem tb_84 : q_in (.initialized "CardNobodyReads$Tonight") := ⟨tbm_1 _ (List.mem_of_getElem? (i := 15) rfl), rfl⟩
theorem tb_86 : q_in (.initialized "CardNobodyReads$Sheets") := ⟨tbm_1 _ (List.mem_of_getElem? (i := 17) rfl), rfl⟩
theorem tb_87 : q_in (.initialized "CardNobodyReadsModel") := ⟨tbm_1 _ (List.mem_of_getElem? (i := 18) rfl), rfl⟩
theorem tb_88 : q_in (.initialized "java/lang/System") := ⟨tbm_1 _ (List.mem_of_getElem? (i := 19) rfl), rfl⟩
theorem tb_107 : q_in (.fieldLinkNest "CardNobodyReads$Tongues" 19 "CardNobodyReads" "TURNS" "[I" "CardNobodyReads") := ⟨tbm_1 _ (List.mem_of_getElem? (i := 38) rfl), rfl⟩
theorem tb_109 : q_in (.methodLinkNest "CardNobodyReads$Tongues" 22 yX9_at "CardNobodyReads") := ⟨tbm_1 _ (List.mem_of_getElem? (i := 40) rfl), rfl⟩
theorem tb_110 : q_in (.static yX9_at) := ⟨tbm_1 _ (List.mem_of_getElem? (i := 41) rfl), rfl⟩
theorem tb_111 : q_in (.code yX9_at cX9_at 2 (some .int)) := ⟨tbm_1 _ (List.mem_of_getElem? (i := 42) rfl), rfl⟩
theorem tb_112 : q_in (.methodLink "CardNobodyReads$Tongues" 26 Lib.Math.max.name) := ⟨tbm_1 _ (List.mem_of_getElem? (i := 43) rfl), rfl⟩
theorem tb_113 : q_in (.static Lib.Math.max.name) := ⟨tbm_1 _ (List.mem_of_getElem? (i := 44) rfl), rfl⟩
theorem tb_114 : q_in (.code Lib.Math.max.name Lib.Math.max.code 2 (some .int)) := ⟨tbm_1 _ (List.mem_of_getElem? (i := 45) rfl), rfl⟩
theorem tb_115 : q_in (.methodLink "CardNobodyReads$Tongues" 32 yX7_member) := ⟨tbm_1 _ (List.mem_of_getElem? (i := 46) rfl), rfl⟩
theorem tb_116 : q_in (.static yX7_member) := ⟨tbm_1 _ (List.mem_of_getElem? (i := 47) rfl), rfl⟩
theorem tb_117 : q_in (.code yX7_member cX7_member 4 (some .int)) := ⟨tbm_1 _ (List.mem_of_getElem? (i := 48) rfl), rfl⟩
theorem tb_118 : q_in (.methodLink "CardNobodyReads$Tongues" 39 yJ6_numberOfTrailingZeros_0f7a4) := ⟨tbm_1 _ (List.mem_of_getElem? (i := 49) rfl), rfl⟩
theorem tb_119 : q_in (.static yJ6_numberOfTrailingZeros_0f7a4) := ⟨tbm_1 _ (List.mem_of_getElem? (i := 50) rfl), rfl⟩
theorem tb_120 : q_in (.code yJ6_numberOfTrailingZeros_0f7a4 cJ6_numberOfTrailingZeros_0f7a4 2 (some .int)) := ⟨tbm_1 _ (List.mem_of_getElem? (i := 51) rfl), rfl⟩
theorem tb_121 : q_in (.constant "java/lang/Integer" 264 (Int32.ofInt 65536)) := ⟨tbm_1 _ (List.mem_of_getElem? (i := 52) rfl), rfl⟩
theorem tb_122 : q_in (.methodLinkNest "CardNobodyReads$Tongues" 35 yX9_put "CardNobodyReads") := ⟨tbm_1 _ (List.mem_of_getElem? (i := 53) rfl), rfl⟩
theorem tb_123 : q_in (.static yX9_put) := ⟨tbm_1 _ (List.mem_of_getElem? (i := 54) rfl), rfl⟩
theorem tb_124 : q_in (.code yX9_put cX9_put 3 none) := ⟨tbm_1 _ (List.mem_of_getElem? (i := 55) rfl), rfl⟩
theorem tb_125 : q_in (.fieldLink "CardNobodyReads$Tongues" 9 "CardNobodyReads$Tongues" "parts" "[I") := ⟨tbm_1 _ (List.mem_of_getElem? (i := 56) rfl), rfl⟩
theorem tb_126 : q_in (.laysFinal "CardNobodyReads$Tongues" "CardNobodyReads$Tongues" "parts" "[I") := ⟨tbm_1 _ (List.mem_of_getElem? (i := 57) rfl), rfl⟩
theorem tb_136 : q_in (.fieldLink "CardNobodyReads$Lines" 9 "CardNobodyReads$Lines" "signs" "[I") := ⟨tbm_1 _ (List.mem_of_getElem? (i := 67) rfl), rfl⟩
theorem tb_137 : q_in (.fieldLink "CardNobodyReads$Lines" 15 "CardNobodyReads$Lines" "prices" "[I") := ⟨tbm_1 _ (List.mem_of_getElem? (i := 68) rfl), rfl⟩
theorem tb_138 : q_in (.fieldLinkNest "CardNobodyReads" 103 "CardNobodyReads$Lines" "prices" "[I" "CardNobodyReads") := ⟨tbm_1 _ (List.mem_of_getElem? (i := 69) rfl), rfl⟩
theorem tb_139 : q_in (.fieldLink "CardNobodyReads$Lines" 18 "CardNobodyReads$Lines" "hads" "[I") := ⟨tbm_1 _ (List.mem_of_getElem? (i := 70) rfl), rfl⟩
theorem tb_140 : q_in (.fieldLinkNest "CardNobodyReads" 81 "CardNobodyReads$Lines" "number" "I" "CardNobodyReads") := ⟨tbm_1 _ (List.mem_of_getElem? (i := 71) rfl), rfl⟩
theorem tb_141 : q_in (.fieldLink "CardNobodyReads$Lines" 35 "CardNobodyReads$Lines" "number" "I") := ⟨tbm_1 _ (List.mem_of_getElem? (i := 72) rfl), rfl⟩
theorem tb_142 : q_in (.fieldLinkNest "CardNobodyReads$Tonight" 50 "CardNobodyReads$Lines" "number" "I" "CardNobodyReads") := ⟨tbm_1 _ (List.mem_of_getElem? (i := 73) rfl), rfl⟩
theorem tb_143 : q_in (.fieldLinkNest "CardNobodyReads$Fits" 62 "CardNobodyReads$Lines" "number" "I" "CardNobodyReads") := ⟨tbm_1 _ (List.mem_of_getElem? (i := 74) rfl), rfl⟩
theorem tb_144 : q_in (.laysFinal "CardNobodyReads$Lines" "CardNobodyReads$Lines" "signs" "[I") := ⟨tbm_1 _ (List.mem_of_getElem? (i := 75) rfl), rfl⟩
theorem tb_146 : q_in (.laysFinal "CardNobodyReads$Lines" "CardNobodyReads$Lines" "prices" "[I") := ⟨tbm_1 _ (List.mem_of_getElem? (i := 77) rfl), rfl⟩
theorem tb_148 : q_in (.laysFinal "CardNobodyReads$Lines" "CardNobodyReads$Lines" "hads" "[I") := ⟨tbm_1 _ (List.mem_of_getElem? (i := 79) rfl), rfl⟩
theorem tb_150 : q_in (.lays "CardNobodyReads$Lines" "CardNobodyReads$Lines" "number" "I") := ⟨tbm_1 _ (List.mem_of_getElem? (i := 81) rfl), rfl⟩
theorem tb_159 : q_in (.fieldLink "CardNobodyReads$Facts" 9 "CardNobodyReads$Facts" "kinds" "[I") := ⟨tbm_1 _ (List.mem_of_getElem? (i := 90) rfl), rfl⟩
theorem tb_160 : q_in (.fieldLinkNest "CardNobodyReads" 165 "CardNobodyReads$Facts" "kinds" "[I" "CardNobodyReads") := ⟨tbm_1 _ (List.mem_of_getElem? (i := 91) rfl), rfl⟩
theorem tb_161 : q_in (.fieldLink "CardNobodyReads$Facts" 15 "CardNobodyReads$Facts" "lines" "[I") := ⟨tbm_1 _ (List.mem_of_getElem? (i := 92) rfl), rfl⟩
theorem tb_162 : q_in (.fieldLinkNest "CardNobodyReads" 168 "CardNobodyReads$Facts" "lines" "[I" "CardNobodyReads") := ⟨tbm_1 _ (List.mem_of_getElem? (i := 93) rfl), rfl⟩
theorem tb_163 : q_in (.fieldLink "CardNobodyReads$Facts" 18 "CardNobodyReads$Facts" "parts" "[I") := ⟨tbm_1 _ (List.mem_of_getElem? (i := 94) rfl), rfl⟩
theorem tb_164 : q_in (.fieldLinkNest "CardNobodyReads" 171 "CardNobodyReads$Facts" "parts" "[I" "CardNobodyReads") := ⟨tbm_1 _ (List.mem_of_getElem? (i := 95) rfl), rfl⟩
theorem tb_165 : q_in (.fieldLink "CardNobodyReads$Facts" 21 "CardNobodyReads$Facts" "mores" "[I") := ⟨tbm_1 _ (List.mem_of_getElem? (i := 96) rfl), rfl⟩
theorem tb_166 : q_in (.fieldLinkNest "CardNobodyReads" 174 "CardNobodyReads$Facts" "mores" "[I" "CardNobodyReads") := ⟨tbm_1 _ (List.mem_of_getElem? (i := 97) rfl), rfl⟩
theorem tb_167 : q_in (.fieldLink "CardNobodyReads$Facts" 24 "CardNobodyReads$Facts" "number" "I") := ⟨tbm_1 _ (List.mem_of_getElem? (i := 98) rfl), rfl⟩
theorem tb_168 : q_in (.fieldLinkNest "CardNobodyReads" 123 "CardNobodyReads$Facts" "number" "I" "CardNobodyReads") := ⟨tbm_1 _ (List.mem_of_getElem? (i := 99) rfl), rfl⟩
theorem tb_169 : q_in (.laysFinal "CardNobodyReads$Facts" "CardNobodyReads$Facts" "kinds" "[I") := ⟨tbm_1 _ (List.mem_of_getElem? (i := 100) rfl), rfl⟩
theorem tb_171 : q_in (.laysFinal "CardNobodyReads$Facts" "CardNobodyReads$Facts" "lines" "[I") := ⟨tbm_1 _ (List.mem_of_getElem? (i := 102) rfl), rfl⟩
theorem tb_173 : q_in (.laysFinal "CardNobodyReads$Facts" "CardNobodyReads$Facts" "parts" "[I") := ⟨tbm_1 _ (List.mem_of_getElem? (i := 104) rfl), rfl⟩
theorem tb_175 : q_in (.laysFinal "CardNobodyReads$Facts" "CardNobodyReads$Facts" "mores" "[I") := ⟨tbm_1 _ (List.mem_of_getElem? (i := 106) rfl), rfl⟩
theorem tb_177 : q_in (.lays "CardNobodyReads$Facts" "CardNobodyReads$Facts" "number" "I") := ⟨tbm_1 _ (List.mem_of_getElem? (i := 108) rfl), rfl⟩
theorem tb_192 : q_in (.fieldLink "CardNobodyReads$Tape" 9 "CardNobodyReads$Tape" "bytes" "[I") := ⟨tbm_1 _ (List.mem_of_getElem? (i := 123) rfl), rfl⟩
theorem tb_193 : q_in (.fieldLink "CardNobodyReads$Tape" 15 "CardNobodyReads$Tape" "tokens" "[I") := ⟨tbm_1 _ (List.mem_of_getElem? (i := 124) rfl), rfl⟩
theorem tb_194 : q_in (.fieldLinkNest "CardNobodyReads$Texts" 90 "CardNobodyReads$Tape" "tokens" "[I" "CardNobodyReads") := ⟨tbm_1 _ (List.mem_of_getElem? (i := 125) rfl), rfl⟩
theorem tb_195 : q_in (.fieldLink "CardNobodyReads$Tape" 18 "CardNobodyReads$Tape" "places" "[I") := ⟨tbm_1 _ (List.mem_of_getElem? (i := 126) rfl), rfl⟩
theorem tb_196 : q_in (.fieldLinkNest "CardNobodyReads$Texts" 69 "CardNobodyReads$Tape" "places" "[I" "CardNobodyReads") := ⟨tbm_1 _ (List.mem_of_getElem? (i := 127) rfl), rfl⟩
theorem tb_197 : q_in (.fieldLink "CardNobodyReads$Tape" 21 "CardNobodyReads$Tape" "size" "I") := ⟨tbm_1 _ (List.mem_of_getElem? (i := 128) rfl), rfl⟩
theorem tb_198 : q_in (.fieldLinkNest "CardNobodyReads" 132 "CardNobodyReads$Tape" "size" "I" "CardNobodyReads") := ⟨tbm_1 _ (List.mem_of_getElem? (i := 129) rfl), rfl⟩
theorem tb_199 : q_in (.laysFinal "CardNobodyReads$Tape" "CardNobodyReads$Tape" "bytes" "[I") := ⟨tbm_1 _ (List.mem_of_getElem? (i := 130) rfl), rfl⟩
theorem tb_201 : q_in (.laysFinal "CardNobodyReads$Tape" "CardNobodyReads$Tape" "tokens" "[I") := ⟨tbm_1 _ (List.mem_of_getElem? (i := 132) rfl), rfl⟩
theorem tb_203 : q_in (.laysFinal "CardNobodyReads$Tape" "CardNobodyReads$Tape" "places" "[I") := ⟨tbm_1 _ (List.mem_of_getElem? (i := 134) rfl), rfl⟩
theorem tb_205 : q_in (.lays "CardNobodyReads$Tape" "CardNobodyReads$Tape" "size" "I") := ⟨tbm_1 _ (List.mem_of_getElem? (i := 136) rfl), rfl⟩
theorem tb_210 : q_in (.instanceMethod yJ0_length_8abf5) := ⟨tbm_1 _ (List.mem_of_getElem? (i := 141) rfl), rfl⟩
theorem tb_211 : q_in (.selects "java/lang/String" yJ0_length_8abf5 yJ0_length_8abf5) := ⟨tbm_1 _ (List.mem_of_getElem? (i := 142) rfl), rfl⟩
theorem tb_212 : q_in (.code yJ0_length_8abf5 cJ0_length_8abf5 1 (some .int)) := ⟨tbm_1 _ (List.mem_of_getElem? (i := 143) rfl), rfl⟩
theorem tb_213 : q_in (.methodLink "java/lang/String" 335 yJ0_coder_7d493) := ⟨tbm_1 _ (List.mem_of_getElem? (i := 144) rfl), rfl⟩
theorem tb_214 : q_in (.instanceMethod yJ0_coder_7d493) := ⟨tbm_1 _ (List.mem_of_getElem? (i := 145) rfl), rfl⟩
theorem tb_215 : q_in (.selects "java/lang/String" yJ0_coder_7d493 yJ0_coder_7d493) := ⟨tbm_1 _ (List.mem_of_getElem? (i := 146) rfl), rfl⟩
theorem tb_216 : q_in (.code yJ0_coder_7d493 cJ0_coder_7d493 1 (some .byte)) := ⟨tbm_1 _ (List.mem_of_getElem? (i := 147) rfl), rfl⟩
theorem tb_217 : q_in (.fieldLink "java/lang/String" 38 "java/lang/String" "COMPACT_STRINGS" "Z") := ⟨tbm_1 _ (List.mem_of_getElem? (i := 148) rfl), rfl⟩
theorem tb_220 : q_in (.instanceMethod yJ0_charAt_5068e) := ⟨tbm_1 _ (List.mem_of_getElem? (i := 151) rfl), rfl⟩
theorem tb_221 : q_in (.selects "java/lang/String" yJ0_charAt_5068e yJ0_charAt_5068e) := ⟨tbm_1 _ (List.mem_of_getElem? (i := 152) rfl), rfl⟩
theorem tb_222 : q_in (.code yJ0_charAt_5068e cJ0_charAt_5068e 2 (some .char)) := ⟨tbm_1 _ (List.mem_of_getElem? (i := 153) rfl), rfl⟩
theorem tb_223 : q_in (.methodLink "java/lang/String" 492 yJ0_isLatin1_aae02) := ⟨tbm_1 _ (List.mem_of_getElem? (i := 154) rfl), rfl⟩
theorem tb_224 : q_in (.instanceMethod yJ0_isLatin1_aae02) := ⟨tbm_1 _ (List.mem_of_getElem? (i := 155) rfl), rfl⟩
theorem tb_225 : q_in (.selects "java/lang/String" yJ0_isLatin1_aae02 yJ0_isLatin1_aae02) := ⟨tbm_1 _ (List.mem_of_getElem? (i := 156) rfl), rfl⟩
theorem tb_226 : q_in (.code yJ0_isLatin1_aae02 cJ0_isLatin1_aae02 1 (some .boolean)) := ⟨tbm_1 _ (List.mem_of_getElem? (i := 157) rfl), rfl⟩
theorem tb_227 : q_in (.methodLink "java/lang/String" 495 yJ1_charAt_3b067) := ⟨tbm_1 _ (List.mem_of_getElem? (i := 158) rfl), rfl⟩
theorem tb_228 : q_in (.static yJ1_charAt_3b067) := ⟨tbm_1 _ (List.mem_of_getElem? (i := 159) rfl), rfl⟩
theorem tb_229 : q_in (.code yJ1_charAt_3b067 cJ1_charAt_3b067 2 (some .char)) := ⟨tbm_1 _ (List.mem_of_getElem? (i := 160) rfl), rfl⟩
theorem tb_230 : q_in (.methodLink "java/lang/StringLatin1" 9 yJ0_checkIndex_df160) := ⟨tbm_1 _ (List.mem_of_getElem? (i := 161) rfl), rfl⟩
theorem tb_231 : q_in (.static yJ0_checkIndex_df160) := ⟨tbm_1 _ (List.mem_of_getElem? (i := 162) rfl), rfl⟩
theorem tb_232 : q_in (.code yJ0_checkIndex_df160 cJ0_checkIndex_df160 2 none) := ⟨tbm_1 _ (List.mem_of_getElem? (i := 163) rfl), rfl⟩
theorem tb_233 : q_in (.fieldLink "java/lang/String" 1053 "jdk/internal/util/Preconditions" "SIOOBE_FORMATTER" "Ljava/util/function/BiFunction;") := ⟨tbm_1 _ (List.mem_of_getElem? (i := 164) rfl), rfl⟩
theorem tb_235 : q_in (.methodLink "java/lang/String" 1059 yJ3_checkIndex_8e157) := ⟨tbm_1 _ (List.mem_of_getElem? (i := 166) rfl), rfl⟩
theorem tb_236 : q_in (.static yJ3_checkIndex_8e157) := ⟨tbm_1 _ (List.mem_of_getElem? (i := 167) rfl), rfl⟩
theorem tb_237 : q_in (.code yJ3_checkIndex_8e157 cJ3_checkIndex_8e157 3 (some .int)) := ⟨tbm_1 _ (List.mem_of_getElem? (i := 168) rfl), rfl⟩
theorem tb_258 : q_in (.instanceMethod yX5_add) := ⟨tbm_1 _ (List.mem_of_getElem? (i := 189) rfl), rfl⟩
theorem tb_259 : q_in (.selects "CardNobodyReads$Tape" yX5_add yX5_add) := ⟨tbm_1 _ (List.mem_of_getElem? (i := 190) rfl), rfl⟩
theorem tb_260 : q_in (.code yX5_add cX5_add 2 none) := ⟨tbm_1 _ (List.mem_of_getElem? (i := 191) rfl), rfl⟩
theorem tb_261 : q_in (.methodLinkNest "CardNobodyReads$Tape" 25 yX9_put "CardNobodyReads") := ⟨tbm_1 _ (List.mem_of_getElem? (i := 192) rfl), rfl⟩
theorem tb_263 : q_in (.instanceMethod yX6_read) := ⟨tbm_1 _ (List.mem_of_getElem? (i := 194) rfl), rfl⟩
theorem tb_264 : q_in (.selects "CardNobodyReads$Texts" yX6_read yX6_read) := ⟨tbm_1 _ (List.mem_of_getElem? (i := 195) rfl), rfl⟩
theorem tb_265 : q_in (.code yX6_read cX6_read 2 (some .int)) := ⟨tbm_1 _ (List.mem_of_getElem? (i := 196) rfl), rfl⟩
theorem tb_266 : q_in (.methodLink "CardNobodyReads$Texts" 56 yX5_cut) := ⟨tbm_1 _ (List.mem_of_getElem? (i := 197) rfl), rfl⟩
theorem tb_267 : q_in (.instanceMethod yX5_cut) := ⟨tbm_1 _ (List.mem_of_getElem? (i := 198) rfl), rfl⟩
theorem tb_268 : q_in (.selects "CardNobodyReads$Tape" yX5_cut yX5_cut) := ⟨tbm_1 _ (List.mem_of_getElem? (i := 199) rfl), rfl⟩
theorem tb_269 : q_in (.code yX5_cut cX5_cut 4 none) := ⟨tbm_1 _ (List.mem_of_getElem? (i := 200) rfl), rfl⟩
theorem tb_270 : q_in (.methodLinkNest "CardNobodyReads$Tape" 29 yX9_at "CardNobodyReads") := ⟨tbm_1 _ (List.mem_of_getElem? (i := 201) rfl), rfl⟩
theorem tb_271 : q_in (.methodLink "CardNobodyReads$Tape" 33 yX5_isBlank) := ⟨tbm_1 _ (List.mem_of_getElem? (i := 202) rfl), rfl⟩
theorem tb_272 : q_in (.static yX5_isBlank) := ⟨tbm_1 _ (List.mem_of_getElem? (i := 203) rfl), rfl⟩
theorem tb_273 : q_in (.code yX5_isBlank cX5_isBlank 1 (some .boolean)) := ⟨tbm_1 _ (List.mem_of_getElem? (i := 204) rfl), rfl⟩
theorem tb_274 : q_in (.methodLink "CardNobodyReads$Tape" 37 yX5_endOf) := ⟨tbm_1 _ (List.mem_of_getElem? (i := 205) rfl), rfl⟩
theorem tb_276 : q_in (.instanceMethod yX5_endOf) := ⟨tbm_1 _ (List.mem_of_getElem? (i := 207) rfl), rfl⟩
theorem tb_277 : q_in (.code yX5_endOf cX5_endOf 5 (some .int)) := ⟨tbm_1 _ (List.mem_of_getElem? (i := 208) rfl), rfl⟩
theorem tb_278 : q_in (.methodLink "CardNobodyReads$Tape" 49 yX5_isLetter) := ⟨tbm_1 _ (List.mem_of_getElem? (i := 209) rfl), rfl⟩
theorem tb_279 : q_in (.static yX5_isLetter) := ⟨tbm_1 _ (List.mem_of_getElem? (i := 210) rfl), rfl⟩
theorem tb_280 : q_in (.code yX5_isLetter cX5_isLetter 1 (some .boolean)) := ⟨tbm_1 _ (List.mem_of_getElem? (i := 211) rfl), rfl⟩
theorem tb_281 : q_in (.methodLinkNest "CardNobodyReads$Tape" 45 yX9_within "CardNobodyReads") := ⟨tbm_1 _ (List.mem_of_getElem? (i := 212) rfl), rfl⟩
theorem tb_282 : q_in (.static yX9_within) := ⟨tbm_1 _ (List.mem_of_getElem? (i := 213) rfl), rfl⟩
theorem tb_283 : q_in (.code yX9_within cX9_within 3 (some .boolean)) := ⟨tbm_1 _ (List.mem_of_getElem? (i := 214) rfl), rfl⟩
theorem tb_284 : q_in (.methodLink "CardNobodyReads$Tape" 52 yX5_isDigit) := ⟨tbm_1 _ (List.mem_of_getElem? (i := 215) rfl), rfl⟩
theorem tb_285 : q_in (.static yX5_isDigit) := ⟨tbm_1 _ (List.mem_of_getElem? (i := 216) rfl), rfl⟩
theorem tb_286 : q_in (.code yX5_isDigit cX5_isDigit 1 (some .boolean)) := ⟨tbm_1 _ (List.mem_of_getElem? (i := 217) rfl), rfl⟩
theorem tb_287 : q_in (.methodLink "CardNobodyReads$Tape" 41 yX5_tokenOf) := ⟨tbm_1 _ (List.mem_of_getElem? (i := 218) rfl), rfl⟩
theorem tb_289 : q_in (.instanceMethod yX5_tokenOf) := ⟨tbm_1 _ (List.mem_of_getElem? (i := 220) rfl), rfl⟩
theorem tb_290 : q_in (.code yX5_tokenOf cX5_tokenOf 4 (some .int)) := ⟨tbm_1 _ (List.mem_of_getElem? (i := 221) rfl), rfl⟩
theorem tb_291 : q_in (.methodLink "CardNobodyReads$Tape" 55 yX5_word) := ⟨tbm_1 _ (List.mem_of_getElem? (i := 222) rfl), rfl⟩
theorem tb_293 : q_in (.instanceMethod yX5_word) := ⟨tbm_1 _ (List.mem_of_getElem? (i := 224) rfl), rfl⟩
theorem tb_294 : q_in (.code yX5_word cX5_word 3 (some .int)) := ⟨tbm_1 _ (List.mem_of_getElem? (i := 225) rfl), rfl⟩
theorem tb_296 : q_in (.methodLink "CardNobodyReads$Tape" 70 yX5_spells) := ⟨tbm_1 _ (List.mem_of_getElem? (i := 227) rfl), rfl⟩
theorem tb_298 : q_in (.instanceMethod yX5_spells) := ⟨tbm_1 _ (List.mem_of_getElem? (i := 229) rfl), rfl⟩
theorem tb_299 : q_in (.code yX5_spells cX5_spells 5 (some .boolean)) := ⟨tbm_1 _ (List.mem_of_getElem? (i := 230) rfl), rfl⟩
theorem tb_300 : q_in (.methodLink "CardNobodyReads$Tape" 98 yJ0_length_8abf5) := ⟨tbm_1 _ (List.mem_of_getElem? (i := 231) rfl), rfl⟩
theorem tb_301 : q_in (.methodLink "CardNobodyReads$Tape" 102 yJ0_charAt_5068e) := ⟨tbm_1 _ (List.mem_of_getElem? (i := 232) rfl), rfl⟩
theorem tb_313 : q_in (.methodLink "CardNobodyReads$Tape" 58 yX5_value) := ⟨tbm_2 _ (List.mem_of_getElem? (i := 4) rfl), rfl⟩
theorem tb_315 : q_in (.instanceMethod yX5_value) := ⟨tbm_2 _ (List.mem_of_getElem? (i := 6) rfl), rfl⟩
theorem tb_316 : q_in (.code yX5_value cX5_value 5 (some .int)) := ⟨tbm_2 _ (List.mem_of_getElem? (i := 7) rfl), rfl⟩
theorem tb_318 : q_in (.methodLink "CardNobodyReads$Tape" 63 yJ0_indexOf_0f7a4) := ⟨tbm_2 _ (List.mem_of_getElem? (i := 9) rfl), rfl⟩
theorem tb_319 : q_in (.instanceMethod yJ0_indexOf_0f7a4) := ⟨tbm_2 _ (List.mem_of_getElem? (i := 10) rfl), rfl⟩
theorem tb_320 : q_in (.selects "java/lang/String" yJ0_indexOf_0f7a4 yJ0_indexOf_0f7a4) := ⟨tbm_2 _ (List.mem_of_getElem? (i := 11) rfl), rfl⟩
theorem tb_321 : q_in (.code yJ0_indexOf_0f7a4 cJ0_indexOf_0f7a4 2 (some .int)) := ⟨tbm_2 _ (List.mem_of_getElem? (i := 12) rfl), rfl⟩
theorem tb_322 : q_in (.methodLink "java/lang/String" 633 yJ0_indexOf_7cf53) := ⟨tbm_2 _ (List.mem_of_getElem? (i := 13) rfl), rfl⟩
theorem tb_323 : q_in (.instanceMethod yJ0_indexOf_7cf53) := ⟨tbm_2 _ (List.mem_of_getElem? (i := 14) rfl), rfl⟩
theorem tb_324 : q_in (.selects "java/lang/String" yJ0_indexOf_7cf53 yJ0_indexOf_7cf53) := ⟨tbm_2 _ (List.mem_of_getElem? (i := 15) rfl), rfl⟩
theorem tb_325 : q_in (.code yJ0_indexOf_7cf53 cJ0_indexOf_7cf53 3 (some .int)) := ⟨tbm_2 _ (List.mem_of_getElem? (i := 16) rfl), rfl⟩
theorem tb_326 : q_in (.methodLink "java/lang/String" 505 yJ0_length_8abf5) := ⟨tbm_2 _ (List.mem_of_getElem? (i := 17) rfl), rfl⟩
theorem tb_327 : q_in (.methodLink "java/lang/String" 637 yJ1_indexOf_4cfef) := ⟨tbm_2 _ (List.mem_of_getElem? (i := 18) rfl), rfl⟩
theorem tb_328 : q_in (.static yJ1_indexOf_4cfef) := ⟨tbm_2 _ (List.mem_of_getElem? (i := 19) rfl), rfl⟩
theorem tb_329 : q_in (.code yJ1_indexOf_4cfef cJ1_indexOf_4cfef 4 (some .int)) := ⟨tbm_2 _ (List.mem_of_getElem? (i := 20) rfl), rfl⟩
theorem tb_330 : q_in (.methodLink "java/lang/StringLatin1" 88 yJ1_canEncode_9a6ad) := ⟨tbm_2 _ (List.mem_of_getElem? (i := 21) rfl), rfl⟩
theorem tb_331 : q_in (.static yJ1_canEncode_9a6ad) := ⟨tbm_2 _ (List.mem_of_getElem? (i := 22) rfl), rfl⟩
theorem tb_332 : q_in (.code yJ1_canEncode_9a6ad cJ1_canEncode_9a6ad 1 (some .boolean)) := ⟨tbm_2 _ (List.mem_of_getElem? (i := 23) rfl), rfl⟩
theorem tb_333 : q_in (.methodLink "java/lang/StringLatin1" 92 Lib.Math.max.name) := ⟨tbm_2 _ (List.mem_of_getElem? (i := 24) rfl), rfl⟩
theorem tb_334 : q_in (.methodLink "java/lang/StringLatin1" 38 Lib.Math.min.name) := ⟨tbm_2 _ (List.mem_of_getElem? (i := 25) rfl), rfl⟩
theorem tb_335 : q_in (.static Lib.Math.min.name) := ⟨tbm_2 _ (List.mem_of_getElem? (i := 26) rfl), rfl⟩
theorem tb_336 : q_in (.code Lib.Math.min.name Lib.Math.min.code 2 (some .int)) := ⟨tbm_2 _ (List.mem_of_getElem? (i := 27) rfl), rfl⟩
theorem tb_337 : q_in (.methodLink "java/lang/StringLatin1" 95 yJ1_indexOfChar_4cfef) := ⟨tbm_2 _ (List.mem_of_getElem? (i := 28) rfl), rfl⟩
theorem tb_338 : q_in (.static yJ1_indexOfChar_4cfef) := ⟨tbm_2 _ (List.mem_of_getElem? (i := 29) rfl), rfl⟩
theorem tb_339 : q_in (.code yJ1_indexOfChar_4cfef cJ1_indexOfChar_4cfef 6 (some .int)) := ⟨tbm_2 _ (List.mem_of_getElem? (i := 30) rfl), rfl⟩
theorem tb_375 : q_in (.methodLink "CardNobodyReads$Texts" 59 yX6_readPart) := ⟨tbm_2 _ (List.mem_of_getElem? (i := 66) rfl), rfl⟩
theorem tb_377 : q_in (.instanceMethod yX6_readPart) := ⟨tbm_2 _ (List.mem_of_getElem? (i := 68) rfl), rfl⟩
theorem tb_378 : q_in (.code yX6_readPart cX6_readPart 3 (some .boolean)) := ⟨tbm_2 _ (List.mem_of_getElem? (i := 69) rfl), rfl⟩
theorem tb_379 : q_in (.methodLink "CardNobodyReads$Texts" 79 yX6_pass) := ⟨tbm_2 _ (List.mem_of_getElem? (i := 70) rfl), rfl⟩
theorem tb_381 : q_in (.instanceMethod yX6_pass) := ⟨tbm_2 _ (List.mem_of_getElem? (i := 72) rfl), rfl⟩
theorem tb_382 : q_in (.code yX6_pass cX6_pass 2 (some .boolean)) := ⟨tbm_2 _ (List.mem_of_getElem? (i := 73) rfl), rfl⟩
theorem tb_383 : q_in (.methodLink "CardNobodyReads$Texts" 63 yX6_token) := ⟨tbm_2 _ (List.mem_of_getElem? (i := 74) rfl), rfl⟩
theorem tb_385 : q_in (.instanceMethod yX6_token) := ⟨tbm_2 _ (List.mem_of_getElem? (i := 76) rfl), rfl⟩
theorem tb_386 : q_in (.code yX6_token cX6_token 1 (some .int)) := ⟨tbm_2 _ (List.mem_of_getElem? (i := 77) rfl), rfl⟩
theorem tb_387 : q_in (.methodLinkNest "CardNobodyReads$Texts" 72 yX9_at "CardNobodyReads") := ⟨tbm_2 _ (List.mem_of_getElem? (i := 78) rfl), rfl⟩
theorem tb_388 : q_in (.methodLink "CardNobodyReads$Texts" 83 yX6_readEither) := ⟨tbm_2 _ (List.mem_of_getElem? (i := 79) rfl), rfl⟩
theorem tb_390 : q_in (.instanceMethod yX6_readEither) := ⟨tbm_2 _ (List.mem_of_getElem? (i := 81) rfl), rfl⟩
theorem tb_391 : q_in (.code yX6_readEither cX6_readEither 3 (some .boolean)) := ⟨tbm_2 _ (List.mem_of_getElem? (i := 82) rfl), rfl⟩
theorem tb_392 : q_in (.methodLink "CardNobodyReads$Texts" 93 yX6_readBoth) := ⟨tbm_2 _ (List.mem_of_getElem? (i := 83) rfl), rfl⟩
theorem tb_394 : q_in (.instanceMethod yX6_readBoth) := ⟨tbm_2 _ (List.mem_of_getElem? (i := 85) rfl), rfl⟩
theorem tb_395 : q_in (.code yX6_readBoth cX6_readBoth 3 (some .boolean)) := ⟨tbm_2 _ (List.mem_of_getElem? (i := 86) rfl), rfl⟩
theorem tb_396 : q_in (.methodLink "CardNobodyReads$Texts" 99 yX6_readNot) := ⟨tbm_2 _ (List.mem_of_getElem? (i := 87) rfl), rfl⟩
theorem tb_398 : q_in (.instanceMethod yX6_readNot) := ⟨tbm_2 _ (List.mem_of_getElem? (i := 89) rfl), rfl⟩
theorem tb_399 : q_in (.code yX6_readNot cX6_readNot 2 (some .boolean)) := ⟨tbm_2 _ (List.mem_of_getElem? (i := 90) rfl), rfl⟩
theorem tb_400 : q_in (.methodLink "CardNobodyReads$Texts" 102 yX6_readCompared) := ⟨tbm_2 _ (List.mem_of_getElem? (i := 91) rfl), rfl⟩
theorem tb_402 : q_in (.instanceMethod yX6_readCompared) := ⟨tbm_2 _ (List.mem_of_getElem? (i := 93) rfl), rfl⟩
theorem tb_403 : q_in (.code yX6_readCompared cX6_readCompared 3 (some .boolean)) := ⟨tbm_2 _ (List.mem_of_getElem? (i := 94) rfl), rfl⟩
theorem tb_404 : q_in (.methodLink "CardNobodyReads$Texts" 105 yX6_readSum) := ⟨tbm_2 _ (List.mem_of_getElem? (i := 95) rfl), rfl⟩
theorem tb_406 : q_in (.instanceMethod yX6_readSum) := ⟨tbm_2 _ (List.mem_of_getElem? (i := 97) rfl), rfl⟩
theorem tb_407 : q_in (.code yX6_readSum cX6_readSum 4 (some .boolean)) := ⟨tbm_2 _ (List.mem_of_getElem? (i := 98) rfl), rfl⟩
theorem tb_408 : q_in (.methodLink "CardNobodyReads$Texts" 108 yX6_readTerm) := ⟨tbm_2 _ (List.mem_of_getElem? (i := 99) rfl), rfl⟩
theorem tb_410 : q_in (.instanceMethod yX6_readTerm) := ⟨tbm_2 _ (List.mem_of_getElem? (i := 101) rfl), rfl⟩
theorem tb_411 : q_in (.code yX6_readTerm cX6_readTerm 3 (some .boolean)) := ⟨tbm_2 _ (List.mem_of_getElem? (i := 102) rfl), rfl⟩
theorem tb_412 : q_in (.methodLink "CardNobodyReads$Texts" 111 yX6_readOne) := ⟨tbm_2 _ (List.mem_of_getElem? (i := 103) rfl), rfl⟩
theorem tb_414 : q_in (.instanceMethod yX6_readOne) := ⟨tbm_2 _ (List.mem_of_getElem? (i := 105) rfl), rfl⟩
theorem tb_415 : q_in (.code yX6_readOne cX6_readOne 3 (some .boolean)) := ⟨tbm_2 _ (List.mem_of_getElem? (i := 106) rfl), rfl⟩
theorem tb_416 : q_in (.methodLink "CardNobodyReads$Texts" 96 yX6_write) := ⟨tbm_2 _ (List.mem_of_getElem? (i := 107) rfl), rfl⟩
theorem tb_418 : q_in (.instanceMethod yX6_write) := ⟨tbm_2 _ (List.mem_of_getElem? (i := 109) rfl), rfl⟩
theorem tb_419 : q_in (.code yX6_write cX6_write 2 none) := ⟨tbm_2 _ (List.mem_of_getElem? (i := 110) rfl), rfl⟩
theorem tb_420 : q_in (.methodLinkNest "CardNobodyReads$Texts" 86 yX9_put "CardNobodyReads") := ⟨tbm_2 _ (List.mem_of_getElem? (i := 111) rfl), rfl⟩
theorem tb_421 : q_in (.methodLink "CardNobodyReads$Texts" 66 yX5_empty) := ⟨tbm_2 _ (List.mem_of_getElem? (i := 112) rfl), rfl⟩
theorem tb_422 : q_in (.instanceMethod yX5_empty) := ⟨tbm_2 _ (List.mem_of_getElem? (i := 113) rfl), rfl⟩
theorem tb_423 : q_in (.selects "CardNobodyReads$Tape" yX5_empty yX5_empty) := ⟨tbm_2 _ (List.mem_of_getElem? (i := 114) rfl), rfl⟩
theorem tb_424 : q_in (.code yX5_empty cX5_empty 1 none) := ⟨tbm_2 _ (List.mem_of_getElem? (i := 115) rfl), rfl⟩
theorem tb_425 : q_in (.fieldLink "CardNobodyReads$Texts" 12 "CardNobodyReads$Texts" "tape" "LCardNobodyReads$Tape;") := ⟨tbm_2 _ (List.mem_of_getElem? (i := 116) rfl), rfl⟩
theorem tb_426 : q_in (.fieldLinkNest "CardNobodyReads" 128 "CardNobodyReads$Texts" "tape" "LCardNobodyReads$Tape;" "CardNobodyReads") := ⟨tbm_2 _ (List.mem_of_getElem? (i := 117) rfl), rfl⟩
theorem tb_427 : q_in (.fieldLink "CardNobodyReads$Texts" 18 "CardNobodyReads$Texts" "steps" "[I") := ⟨tbm_2 _ (List.mem_of_getElem? (i := 118) rfl), rfl⟩
theorem tb_428 : q_in (.fieldLink "CardNobodyReads$Texts" 22 "CardNobodyReads$Texts" "ends" "[I") := ⟨tbm_2 _ (List.mem_of_getElem? (i := 119) rfl), rfl⟩
theorem tb_429 : q_in (.fieldLink "CardNobodyReads$Texts" 25 "CardNobodyReads$Texts" "stack" "[I") := ⟨tbm_2 _ (List.mem_of_getElem? (i := 120) rfl), rfl⟩
theorem tb_430 : q_in (.fieldLink "CardNobodyReads$Texts" 28 "CardNobodyReads$Texts" "names" "[I") := ⟨tbm_2 _ (List.mem_of_getElem? (i := 121) rfl), rfl⟩
theorem tb_431 : q_in (.fieldLink "CardNobodyReads$Texts" 76 "CardNobodyReads$Texts" "number" "I") := ⟨tbm_2 _ (List.mem_of_getElem? (i := 122) rfl), rfl⟩
theorem tb_432 : q_in (.fieldLinkNest "CardNobodyReads" 124 "CardNobodyReads$Texts" "number" "I" "CardNobodyReads") := ⟨tbm_2 _ (List.mem_of_getElem? (i := 123) rfl), rfl⟩
theorem tb_433 : q_in (.fieldLink "CardNobodyReads$Texts" 50 "CardNobodyReads$Texts" "length" "I") := ⟨tbm_2 _ (List.mem_of_getElem? (i := 124) rfl), rfl⟩
theorem tb_434 : q_in (.fieldLink "CardNobodyReads$Texts" 53 "CardNobodyReads$Texts" "next" "I") := ⟨tbm_2 _ (List.mem_of_getElem? (i := 125) rfl), rfl⟩
theorem tb_435 : q_in (.laysFinal "CardNobodyReads$Texts" "CardNobodyReads$Texts" "tape" "LCardNobodyReads$Tape;") := ⟨tbm_2 _ (List.mem_of_getElem? (i := 126) rfl), rfl⟩
theorem tb_437 : q_in (.laysFinal "CardNobodyReads$Texts" "CardNobodyReads$Texts" "steps" "[I") := ⟨tbm_2 _ (List.mem_of_getElem? (i := 128) rfl), rfl⟩
theorem tb_439 : q_in (.laysFinal "CardNobodyReads$Texts" "CardNobodyReads$Texts" "ends" "[I") := ⟨tbm_2 _ (List.mem_of_getElem? (i := 130) rfl), rfl⟩
theorem tb_441 : q_in (.laysFinal "CardNobodyReads$Texts" "CardNobodyReads$Texts" "stack" "[I") := ⟨tbm_2 _ (List.mem_of_getElem? (i := 132) rfl), rfl⟩
theorem tb_443 : q_in (.laysFinal "CardNobodyReads$Texts" "CardNobodyReads$Texts" "names" "[I") := ⟨tbm_2 _ (List.mem_of_getElem? (i := 134) rfl), rfl⟩
theorem tb_445 : q_in (.lays "CardNobodyReads$Texts" "CardNobodyReads$Texts" "number" "I") := ⟨tbm_2 _ (List.mem_of_getElem? (i := 136) rfl), rfl⟩
theorem tb_447 : q_in (.lays "CardNobodyReads$Texts" "CardNobodyReads$Texts" "length" "I") := ⟨tbm_2 _ (List.mem_of_getElem? (i := 138) rfl), rfl⟩
theorem tb_449 : q_in (.lays "CardNobodyReads$Texts" "CardNobodyReads$Texts" "next" "I") := ⟨tbm_2 _ (List.mem_of_getElem? (i := 140) rfl), rfl⟩
theorem tb_459 : q_in (.fieldLink "CardNobodyReads$Fits" 9 "CardNobodyReads$Fits" "fitting" "[I") := ⟨tbm_2 _ (List.mem_of_getElem? (i := 150) rfl), rfl⟩
theorem tb_460 : q_in (.fieldLink "CardNobodyReads$Fits" 15 "CardNobodyReads$Fits" "meanings" "[I") := ⟨tbm_2 _ (List.mem_of_getElem? (i := 151) rfl), rfl⟩
theorem tb_461 : q_in (.fieldLink "CardNobodyReads$Fits" 18 "CardNobodyReads$Fits" "havings" "[I") := ⟨tbm_2 _ (List.mem_of_getElem? (i := 152) rfl), rfl⟩
theorem tb_462 : q_in (.fieldLink "CardNobodyReads$Fits" 21 "CardNobodyReads$Fits" "mays" "[I") := ⟨tbm_2 _ (List.mem_of_getElem? (i := 153) rfl), rfl⟩
theorem tb_463 : q_in (.fieldLink "CardNobodyReads$Fits" 24 "CardNobodyReads$Fits" "pairs" "[I") := ⟨tbm_2 _ (List.mem_of_getElem? (i := 154) rfl), rfl⟩
theorem tb_464 : q_in (.fieldLink "CardNobodyReads$Fits" 27 "CardNobodyReads$Fits" "number" "I") := ⟨tbm_2 _ (List.mem_of_getElem? (i := 155) rfl), rfl⟩
theorem tb_465 : q_in (.fieldLinkNest "CardNobodyReads" 181 "CardNobodyReads$Fits" "number" "I" "CardNobodyReads") := ⟨tbm_2 _ (List.mem_of_getElem? (i := 156) rfl), rfl⟩
theorem tb_466 : q_in (.fieldLink "CardNobodyReads$Fits" 31 "CardNobodyReads$Fits" "lone" "I") := ⟨tbm_2 _ (List.mem_of_getElem? (i := 157) rfl), rfl⟩
theorem tb_467 : q_in (.fieldLinkNest "CardNobodyReads" 264 "CardNobodyReads$Fits" "lone" "I" "CardNobodyReads") := ⟨tbm_2 _ (List.mem_of_getElem? (i := 158) rfl), rfl⟩
theorem tb_468 : q_in (.laysFinal "CardNobodyReads$Fits" "CardNobodyReads$Fits" "fitting" "[I") := ⟨tbm_2 _ (List.mem_of_getElem? (i := 159) rfl), rfl⟩
theorem tb_470 : q_in (.laysFinal "CardNobodyReads$Fits" "CardNobodyReads$Fits" "meanings" "[I") := ⟨tbm_2 _ (List.mem_of_getElem? (i := 161) rfl), rfl⟩
theorem tb_472 : q_in (.laysFinal "CardNobodyReads$Fits" "CardNobodyReads$Fits" "havings" "[I") := ⟨tbm_2 _ (List.mem_of_getElem? (i := 163) rfl), rfl⟩
theorem tb_474 : q_in (.laysFinal "CardNobodyReads$Fits" "CardNobodyReads$Fits" "mays" "[I") := ⟨tbm_2 _ (List.mem_of_getElem? (i := 165) rfl), rfl⟩
theorem tb_476 : q_in (.laysFinal "CardNobodyReads$Fits" "CardNobodyReads$Fits" "pairs" "[I") := ⟨tbm_2 _ (List.mem_of_getElem? (i := 167) rfl), rfl⟩
theorem tb_478 : q_in (.lays "CardNobodyReads$Fits" "CardNobodyReads$Fits" "number" "I") := ⟨tbm_2 _ (List.mem_of_getElem? (i := 169) rfl), rfl⟩
theorem tb_480 : q_in (.lays "CardNobodyReads$Fits" "CardNobodyReads$Fits" "lone" "I") := ⟨tbm_2 _ (List.mem_of_getElem? (i := 171) rfl), rfl⟩
theorem tb_489 : q_in (.fieldLink "CardNobodyReads$Tonight" 9 "CardNobodyReads$Tonight" "likings" "[I") := ⟨tbm_2 _ (List.mem_of_getElem? (i := 180) rfl), rfl⟩
theorem tb_490 : q_in (.fieldLink "CardNobodyReads$Tonight" 15 "CardNobodyReads$Tonight" "way" "[I") := ⟨tbm_2 _ (List.mem_of_getElem? (i := 181) rfl), rfl⟩
theorem tb_491 : q_in (.fieldLink "CardNobodyReads$Tonight" 18 "CardNobodyReads$Tonight" "best" "[I") := ⟨tbm_2 _ (List.mem_of_getElem? (i := 182) rfl), rfl⟩
theorem tb_492 : q_in (.fieldLinkNest "CardNobodyReads" 229 "CardNobodyReads$Tonight" "best" "[I" "CardNobodyReads") := ⟨tbm_2 _ (List.mem_of_getElem? (i := 183) rfl), rfl⟩
theorem tb_493 : q_in (.fieldLink "CardNobodyReads$Tonight" 25 "CardNobodyReads$Tonight" "liked" "I") := ⟨tbm_2 _ (List.mem_of_getElem? (i := 184) rfl), rfl⟩
theorem tb_494 : q_in (.fieldLinkNest "CardNobodyReads" 232 "CardNobodyReads$Tonight" "liked" "I" "CardNobodyReads") := ⟨tbm_2 _ (List.mem_of_getElem? (i := 185) rfl), rfl⟩
theorem tb_495 : q_in (.fieldLink "CardNobodyReads$Tonight" 33 "CardNobodyReads$Tonight" "spent" "I") := ⟨tbm_2 _ (List.mem_of_getElem? (i := 186) rfl), rfl⟩
theorem tb_496 : q_in (.fieldLinkNest "CardNobodyReads" 235 "CardNobodyReads$Tonight" "spent" "I" "CardNobodyReads") := ⟨tbm_2 _ (List.mem_of_getElem? (i := 187) rfl), rfl⟩
theorem tb_497 : q_in (.laysFinal "CardNobodyReads$Tonight" "CardNobodyReads$Tonight" "likings" "[I") := ⟨tbm_2 _ (List.mem_of_getElem? (i := 188) rfl), rfl⟩
theorem tb_499 : q_in (.laysFinal "CardNobodyReads$Tonight" "CardNobodyReads$Tonight" "way" "[I") := ⟨tbm_2 _ (List.mem_of_getElem? (i := 190) rfl), rfl⟩
theorem tb_501 : q_in (.laysFinal "CardNobodyReads$Tonight" "CardNobodyReads$Tonight" "best" "[I") := ⟨tbm_2 _ (List.mem_of_getElem? (i := 192) rfl), rfl⟩
theorem tb_503 : q_in (.lays "CardNobodyReads$Tonight" "CardNobodyReads$Tonight" "liked" "I") := ⟨tbm_2 _ (List.mem_of_getElem? (i := 194) rfl), rfl⟩
theorem tb_505 : q_in (.lays "CardNobodyReads$Tonight" "CardNobodyReads$Tonight" "spent" "I") := ⟨tbm_2 _ (List.mem_of_getElem? (i := 196) rfl), rfl⟩
theorem tb_515 : q_in (.fieldLinkNest "CardNobodyReads" 307 "CardNobodyReads$Image" "prices" "[I" "CardNobodyReads") := ⟨tbm_2 _ (List.mem_of_getElem? (i := 206) rfl), rfl⟩
theorem tb_516 : q_in (.fieldLinkNest "CardNobodyReads" 162 "CardNobodyReads$Image" "there" "Z" "CardNobodyReads") := ⟨tbm_2 _ (List.mem_of_getElem? (i := 207) rfl), rfl⟩
theorem tb_517 : q_in (.fieldLinkNest "CardNobodyReads" 302 "CardNobodyReads$Image" "lines" "I" "CardNobodyReads") := ⟨tbm_2 _ (List.mem_of_getElem? (i := 208) rfl), rfl⟩
theorem tb_518 : q_in (.fieldLinkNest "CardNobodyReads" 304 "CardNobodyReads$Image" "guests" "I" "CardNobodyReads") := ⟨tbm_2 _ (List.mem_of_getElem? (i := 209) rfl), rfl⟩
theorem tb_519 : q_in (.fieldLinkNest "CardNobodyReads" 159 "CardNobodyReads$Image" "facts" "I" "CardNobodyReads") := ⟨tbm_2 _ (List.mem_of_getElem? (i := 210) rfl), rfl⟩
theorem tb_520 : q_in (.fieldLinkNest "CardNobodyReads" 305 "CardNobodyReads$Image" "coin" "I" "CardNobodyReads") := ⟨tbm_2 _ (List.mem_of_getElem? (i := 211) rfl), rfl⟩
theorem tb_521 : q_in (.fieldLinkNest "CardNobodyReads" 306 "CardNobodyReads$Image" "law" "I" "CardNobodyReads") := ⟨tbm_2 _ (List.mem_of_getElem? (i := 212) rfl), rfl⟩
theorem tb_522 : q_in (.laysFinal "CardNobodyReads$Image" "CardNobodyReads$Image" "prices" "[I") := ⟨tbm_2 _ (List.mem_of_getElem? (i := 213) rfl), rfl⟩
theorem tb_524 : q_in (.lays "CardNobodyReads$Image" "CardNobodyReads$Image" "there" "Z") := ⟨tbm_2 _ (List.mem_of_getElem? (i := 215) rfl), rfl⟩
theorem tb_526 : q_in (.lays "CardNobodyReads$Image" "CardNobodyReads$Image" "lines" "I") := ⟨tbm_2 _ (List.mem_of_getElem? (i := 217) rfl), rfl⟩
theorem tb_528 : q_in (.lays "CardNobodyReads$Image" "CardNobodyReads$Image" "guests" "I") := ⟨tbm_2 _ (List.mem_of_getElem? (i := 219) rfl), rfl⟩
theorem tb_530 : q_in (.lays "CardNobodyReads$Image" "CardNobodyReads$Image" "facts" "I") := ⟨tbm_2 _ (List.mem_of_getElem? (i := 221) rfl), rfl⟩
theorem tb_532 : q_in (.lays "CardNobodyReads$Image" "CardNobodyReads$Image" "coin" "I") := ⟨tbm_2 _ (List.mem_of_getElem? (i := 223) rfl), rfl⟩
theorem tb_534 : q_in (.lays "CardNobodyReads$Image" "CardNobodyReads$Image" "law" "I") := ⟨tbm_2 _ (List.mem_of_getElem? (i := 225) rfl), rfl⟩
theorem tb_543 : q_in (.fieldLink "CardNobodyReads$Sheets" 9 "CardNobodyReads$Sheets" "sorts" "[I") := ⟨tbm_2 _ (List.mem_of_getElem? (i := 234) rfl), rfl⟩
theorem tb_544 : q_in (.fieldLink "CardNobodyReads$Sheets" 15 "CardNobodyReads$Sheets" "sizes" "[I") := ⟨tbm_2 _ (List.mem_of_getElem? (i := 235) rfl), rfl⟩
theorem tb_545 : q_in (.fieldLink "CardNobodyReads$Sheets" 18 "CardNobodyReads$Sheets" "cells" "[I") := ⟨tbm_2 _ (List.mem_of_getElem? (i := 236) rfl), rfl⟩
theorem tb_546 : q_in (.laysFinal "CardNobodyReads$Sheets" "CardNobodyReads$Sheets" "sorts" "[I") := ⟨tbm_2 _ (List.mem_of_getElem? (i := 237) rfl), rfl⟩
theorem tb_548 : q_in (.laysFinal "CardNobodyReads$Sheets" "CardNobodyReads$Sheets" "sizes" "[I") := ⟨tbm_2 _ (List.mem_of_getElem? (i := 239) rfl), rfl⟩
theorem tb_550 : q_in (.laysFinal "CardNobodyReads$Sheets" "CardNobodyReads$Sheets" "cells" "[I") := ⟨tbm_3 _ (List.mem_of_getElem? (i := 1) rfl), rfl⟩
theorem tb_553 : q_in (.fieldLink "CardNobodyReads" 10 "CardNobodyReads" "tongues" "LCardNobodyReads$Tongues;") := ⟨tbm_3 _ (List.mem_of_getElem? (i := 4) rfl), rfl⟩
theorem tb_554 : q_in (.fieldLink "CardNobodyReads" 19 "CardNobodyReads" "card" "LCardNobodyReads$Lines;") := ⟨tbm_3 _ (List.mem_of_getElem? (i := 5) rfl), rfl⟩
theorem tb_555 : q_in (.fieldLink "CardNobodyReads" 26 "CardNobodyReads" "known" "LCardNobodyReads$Facts;") := ⟨tbm_3 _ (List.mem_of_getElem? (i := 6) rfl), rfl⟩
theorem tb_556 : q_in (.fieldLink "CardNobodyReads" 33 "CardNobodyReads" "book" "LCardNobodyReads$Texts;") := ⟨tbm_3 _ (List.mem_of_getElem? (i := 7) rfl), rfl⟩
theorem tb_557 : q_in (.fieldLink "CardNobodyReads" 40 "CardNobodyReads" "fits" "LCardNobodyReads$Fits;") := ⟨tbm_3 _ (List.mem_of_getElem? (i := 8) rfl), rfl⟩
theorem tb_558 : q_in (.fieldLink "CardNobodyReads" 47 "CardNobodyReads" "tonight" "LCardNobodyReads$Tonight;") := ⟨tbm_3 _ (List.mem_of_getElem? (i := 9) rfl), rfl⟩
theorem tb_559 : q_in (.fieldLink "CardNobodyReads" 54 "CardNobodyReads" "kept" "LCardNobodyReads$Image;") := ⟨tbm_3 _ (List.mem_of_getElem? (i := 10) rfl), rfl⟩
theorem tb_560 : q_in (.fieldLink "CardNobodyReads" 61 "CardNobodyReads" "host" "LCardNobodyReads$Sheets;") := ⟨tbm_3 _ (List.mem_of_getElem? (i := 11) rfl), rfl⟩
theorem tb_561 : q_in (.fieldLink "CardNobodyReads" 65 "CardNobodyReads" "shuns" "[I") := ⟨tbm_3 _ (List.mem_of_getElem? (i := 12) rfl), rfl⟩
theorem tb_562 : q_in (.fieldLink "CardNobodyReads" 113 "CardNobodyReads" "guests" "I") := ⟨tbm_3 _ (List.mem_of_getElem? (i := 13) rfl), rfl⟩
theorem tb_563 : q_in (.fieldLink "CardNobodyReads" 69 "CardNobodyReads" "coin" "I") := ⟨tbm_3 _ (List.mem_of_getElem? (i := 14) rfl), rfl⟩
theorem tb_564 : q_in (.fieldLink "CardNobodyReads" 125 "CardNobodyReads" "law" "I") := ⟨tbm_3 _ (List.mem_of_getElem? (i := 15) rfl), rfl⟩
theorem tb_565 : q_in (.fieldLink "CardNobodyReads" 73 "CardNobodyReads" "stale" "Z") := ⟨tbm_3 _ (List.mem_of_getElem? (i := 16) rfl), rfl⟩
theorem tb_566 : q_in (.laysFinal "CardNobodyReads" "CardNobodyReads" "tongues" "LCardNobodyReads$Tongues;") := ⟨tbm_3 _ (List.mem_of_getElem? (i := 17) rfl), rfl⟩
theorem tb_568 : q_in (.laysFinal "CardNobodyReads" "CardNobodyReads" "card" "LCardNobodyReads$Lines;") := ⟨tbm_3 _ (List.mem_of_getElem? (i := 19) rfl), rfl⟩
theorem tb_570 : q_in (.laysFinal "CardNobodyReads" "CardNobodyReads" "known" "LCardNobodyReads$Facts;") := ⟨tbm_3 _ (List.mem_of_getElem? (i := 21) rfl), rfl⟩
theorem tb_572 : q_in (.laysFinal "CardNobodyReads" "CardNobodyReads" "book" "LCardNobodyReads$Texts;") := ⟨tbm_3 _ (List.mem_of_getElem? (i := 23) rfl), rfl⟩
theorem tb_574 : q_in (.laysFinal "CardNobodyReads" "CardNobodyReads" "fits" "LCardNobodyReads$Fits;") := ⟨tbm_3 _ (List.mem_of_getElem? (i := 25) rfl), rfl⟩
theorem tb_576 : q_in (.laysFinal "CardNobodyReads" "CardNobodyReads" "tonight" "LCardNobodyReads$Tonight;") := ⟨tbm_3 _ (List.mem_of_getElem? (i := 27) rfl), rfl⟩
theorem tb_578 : q_in (.laysFinal "CardNobodyReads" "CardNobodyReads" "kept" "LCardNobodyReads$Image;") := ⟨tbm_3 _ (List.mem_of_getElem? (i := 29) rfl), rfl⟩
theorem tb_580 : q_in (.laysFinal "CardNobodyReads" "CardNobodyReads" "host" "LCardNobodyReads$Sheets;") := ⟨tbm_3 _ (List.mem_of_getElem? (i := 31) rfl), rfl⟩
theorem tb_582 : q_in (.laysFinal "CardNobodyReads" "CardNobodyReads" "shuns" "[I") := ⟨tbm_3 _ (List.mem_of_getElem? (i := 33) rfl), rfl⟩
theorem tb_584 : q_in (.lays "CardNobodyReads" "CardNobodyReads" "guests" "I") := ⟨tbm_3 _ (List.mem_of_getElem? (i := 35) rfl), rfl⟩
theorem tb_586 : q_in (.lays "CardNobodyReads" "CardNobodyReads" "coin" "I") := ⟨tbm_3 _ (List.mem_of_getElem? (i := 37) rfl), rfl⟩
theorem tb_588 : q_in (.lays "CardNobodyReads" "CardNobodyReads" "law" "I") := ⟨tbm_3 _ (List.mem_of_getElem? (i := 39) rfl), rfl⟩
theorem tb_590 : q_in (.lays "CardNobodyReads" "CardNobodyReads" "stale" "Z") := ⟨tbm_3 _ (List.mem_of_getElem? (i := 41) rfl), rfl⟩
theorem tb_597 : q_in (.methodLink "CardNobodyReads" 77 yX3_mayStand) := ⟨tbm_3 _ (List.mem_of_getElem? (i := 48) rfl), rfl⟩
theorem tb_598 : q_in (.static yX3_mayStand) := ⟨tbm_3 _ (List.mem_of_getElem? (i := 49) rfl), rfl⟩
theorem tb_599 : q_in (.code yX3_mayStand cX3_mayStand 2 (some .boolean)) := ⟨tbm_3 _ (List.mem_of_getElem? (i := 50) rfl), rfl⟩
theorem tb_600 : q_in (.methodLinkNest "CardNobodyReads$Lines" 21 yX9_isParts "CardNobodyReads") := ⟨tbm_3 _ (List.mem_of_getElem? (i := 51) rfl), rfl⟩
theorem tb_601 : q_in (.static yX9_isParts) := ⟨tbm_3 _ (List.mem_of_getElem? (i := 52) rfl), rfl⟩
theorem tb_602 : q_in (.code yX9_isParts cX9_isParts 1 (some .boolean)) := ⟨tbm_3 _ (List.mem_of_getElem? (i := 53) rfl), rfl⟩
theorem tb_603 : q_in (.methodLink "CardNobodyReads" 92 yX9_within) := ⟨tbm_3 _ (List.mem_of_getElem? (i := 54) rfl), rfl⟩
theorem tb_604 : q_in (.methodLink "CardNobodyReads$Lines" 25 yJ6_bitCount_0f7a4) := ⟨tbm_3 _ (List.mem_of_getElem? (i := 55) rfl), rfl⟩
theorem tb_605 : q_in (.static yJ6_bitCount_0f7a4) := ⟨tbm_3 _ (List.mem_of_getElem? (i := 56) rfl), rfl⟩
theorem tb_606 : q_in (.code yJ6_bitCount_0f7a4 cJ6_bitCount_0f7a4 1 (some .int)) := ⟨tbm_3 _ (List.mem_of_getElem? (i := 57) rfl), rfl⟩
theorem tb_607 : q_in (.constant "java/lang/Integer" 265 (Int32.ofInt 1431655765)) := ⟨tbm_3 _ (List.mem_of_getElem? (i := 58) rfl), rfl⟩
theorem tb_608 : q_in (.constant "java/lang/Integer" 266 (Int32.ofInt 858993459)) := ⟨tbm_3 _ (List.mem_of_getElem? (i := 59) rfl), rfl⟩
theorem tb_609 : q_in (.constant "java/lang/Integer" 267 (Int32.ofInt 252645135)) := ⟨tbm_3 _ (List.mem_of_getElem? (i := 60) rfl), rfl⟩
theorem tb_610 : q_in (.methodLinkNest "CardNobodyReads$Lines" 31 yX9_within "CardNobodyReads") := ⟨tbm_3 _ (List.mem_of_getElem? (i := 61) rfl), rfl⟩
theorem tb_611 : q_in (.methodLink "CardNobodyReads" 84 yX9_addLine) := ⟨tbm_3 _ (List.mem_of_getElem? (i := 62) rfl), rfl⟩
theorem tb_613 : q_in (.instanceMethod yX9_addLine) := ⟨tbm_3 _ (List.mem_of_getElem? (i := 64) rfl), rfl⟩
theorem tb_614 : q_in (.code yX9_addLine cX9_addLine 3 (some .int)) := ⟨tbm_3 _ (List.mem_of_getElem? (i := 65) rfl), rfl⟩
theorem tb_615 : q_in (.methodLink "CardNobodyReads" 329 yX3_add) := ⟨tbm_3 _ (List.mem_of_getElem? (i := 66) rfl), rfl⟩
theorem tb_616 : q_in (.instanceMethod yX3_add) := ⟨tbm_3 _ (List.mem_of_getElem? (i := 67) rfl), rfl⟩
theorem tb_617 : q_in (.selects "CardNobodyReads$Lines" yX3_add yX3_add) := ⟨tbm_3 _ (List.mem_of_getElem? (i := 68) rfl), rfl⟩
theorem tb_618 : q_in (.code yX3_add cX3_add 6 (some .int)) := ⟨tbm_3 _ (List.mem_of_getElem? (i := 69) rfl), rfl⟩
theorem tb_619 : q_in (.methodLinkNest "CardNobodyReads$Lines" 39 yX9_put "CardNobodyReads") := ⟨tbm_3 _ (List.mem_of_getElem? (i := 70) rfl), rfl⟩
theorem tb_620 : q_in (.methodLink "CardNobodyReads$Lines" 43 yX7_partsOf) := ⟨tbm_3 _ (List.mem_of_getElem? (i := 71) rfl), rfl⟩
theorem tb_621 : q_in (.instanceMethod yX7_partsOf) := ⟨tbm_3 _ (List.mem_of_getElem? (i := 72) rfl), rfl⟩
theorem tb_622 : q_in (.selects "CardNobodyReads$Tongues" yX7_partsOf yX7_partsOf) := ⟨tbm_3 _ (List.mem_of_getElem? (i := 73) rfl), rfl⟩
theorem tb_623 : q_in (.code yX7_partsOf cX7_partsOf 5 (some .int)) := ⟨tbm_3 _ (List.mem_of_getElem? (i := 74) rfl), rfl⟩
theorem tb_624 : q_in (.methodLink "CardNobodyReads$Tongues" 45 yX7_partOf) := ⟨tbm_3 _ (List.mem_of_getElem? (i := 75) rfl), rfl⟩
theorem tb_625 : q_in (.instanceMethod yX7_partOf) := ⟨tbm_3 _ (List.mem_of_getElem? (i := 76) rfl), rfl⟩
theorem tb_626 : q_in (.selects "CardNobodyReads$Tongues" yX7_partOf yX7_partOf) := ⟨tbm_3 _ (List.mem_of_getElem? (i := 77) rfl), rfl⟩
theorem tb_627 : q_in (.code yX7_partOf cX7_partOf 3 (some .int)) := ⟨tbm_3 _ (List.mem_of_getElem? (i := 78) rfl), rfl⟩
theorem tb_632 : q_in (.methodLink "CardNobodyReads" 88 yX9_isLine) := ⟨tbm_3 _ (List.mem_of_getElem? (i := 83) rfl), rfl⟩
theorem tb_634 : q_in (.instanceMethod yX9_isLine) := ⟨tbm_3 _ (List.mem_of_getElem? (i := 85) rfl), rfl⟩
theorem tb_635 : q_in (.code yX9_isLine cX9_isLine 2 (some .boolean)) := ⟨tbm_3 _ (List.mem_of_getElem? (i := 86) rfl), rfl⟩
theorem tb_636 : q_in (.methodLink "CardNobodyReads" 96 yX3_signsOf) := ⟨tbm_3 _ (List.mem_of_getElem? (i := 87) rfl), rfl⟩
theorem tb_637 : q_in (.instanceMethod yX3_signsOf) := ⟨tbm_3 _ (List.mem_of_getElem? (i := 88) rfl), rfl⟩
theorem tb_638 : q_in (.selects "CardNobodyReads$Lines" yX3_signsOf yX3_signsOf) := ⟨tbm_3 _ (List.mem_of_getElem? (i := 89) rfl), rfl⟩
theorem tb_639 : q_in (.code yX3_signsOf cX3_signsOf 2 (some .int)) := ⟨tbm_3 _ (List.mem_of_getElem? (i := 90) rfl), rfl⟩
theorem tb_640 : q_in (.methodLinkNest "CardNobodyReads$Lines" 49 yX9_at "CardNobodyReads") := ⟨tbm_3 _ (List.mem_of_getElem? (i := 91) rfl), rfl⟩
theorem tb_641 : q_in (.methodLink "CardNobodyReads" 100 yX3_priceOf) := ⟨tbm_3 _ (List.mem_of_getElem? (i := 92) rfl), rfl⟩
theorem tb_642 : q_in (.instanceMethod yX3_priceOf) := ⟨tbm_3 _ (List.mem_of_getElem? (i := 93) rfl), rfl⟩
theorem tb_643 : q_in (.selects "CardNobodyReads$Lines" yX3_priceOf yX3_priceOf) := ⟨tbm_3 _ (List.mem_of_getElem? (i := 94) rfl), rfl⟩
theorem tb_644 : q_in (.code yX3_priceOf cX3_priceOf 2 (some .int)) := ⟨tbm_3 _ (List.mem_of_getElem? (i := 95) rfl), rfl⟩
theorem tb_649 : q_in (.methodLink "CardNobodyReads" 106 yX9_put) := ⟨tbm_3 _ (List.mem_of_getElem? (i := 100) rfl), rfl⟩
theorem tb_654 : q_in (.methodLink "CardNobodyReads" 110 yX9_isParts) := ⟨tbm_3 _ (List.mem_of_getElem? (i := 105) rfl), rfl⟩
theorem tb_659 : q_in (.methodLink "CardNobodyReads" 116 yX9_isGuest) := ⟨tbm_3 _ (List.mem_of_getElem? (i := 110) rfl), rfl⟩
theorem tb_661 : q_in (.instanceMethod yX9_isGuest) := ⟨tbm_3 _ (List.mem_of_getElem? (i := 112) rfl), rfl⟩
theorem tb_662 : q_in (.code yX9_isGuest cX9_isGuest 2 (some .boolean)) := ⟨tbm_3 _ (List.mem_of_getElem? (i := 113) rfl), rfl⟩
theorem tb_663 : q_in (.methodLink "CardNobodyReads" 119 yX9_at) := ⟨tbm_3 _ (List.mem_of_getElem? (i := 114) rfl), rfl⟩
theorem tb_676 : q_in (.methodLink "CardNobodyReads" 137 yX9_isByte) := ⟨tbm_3 _ (List.mem_of_getElem? (i := 127) rfl), rfl⟩
theorem tb_677 : q_in (.static yX9_isByte) := ⟨tbm_3 _ (List.mem_of_getElem? (i := 128) rfl), rfl⟩
theorem tb_678 : q_in (.code yX9_isByte cX9_isByte 1 (some .boolean)) := ⟨tbm_3 _ (List.mem_of_getElem? (i := 129) rfl), rfl⟩
theorem tb_679 : q_in (.methodLink "CardNobodyReads" 140 yX5_add) := ⟨tbm_3 _ (List.mem_of_getElem? (i := 130) rfl), rfl⟩
theorem tb_684 : q_in (.methodLink "CardNobodyReads" 144 yX6_read) := ⟨tbm_3 _ (List.mem_of_getElem? (i := 135) rfl), rfl⟩
theorem tb_693 : q_in (.methodLink "CardNobodyReads" 148 yX6_says) := ⟨tbm_3 _ (List.mem_of_getElem? (i := 144) rfl), rfl⟩
theorem tb_694 : q_in (.instanceMethod yX6_says) := ⟨tbm_3 _ (List.mem_of_getElem? (i := 145) rfl), rfl⟩
theorem tb_695 : q_in (.selects "CardNobodyReads$Texts" yX6_says yX6_says) := ⟨tbm_3 _ (List.mem_of_getElem? (i := 146) rfl), rfl⟩
theorem tb_696 : q_in (.code yX6_says cX6_says 9 (some .int)) := ⟨tbm_3 _ (List.mem_of_getElem? (i := 147) rfl), rfl⟩
theorem tb_697 : q_in (.methodLink "CardNobodyReads$Texts" 114 yJ6_bitCount_0f7a4) := ⟨tbm_3 _ (List.mem_of_getElem? (i := 148) rfl), rfl⟩
theorem tb_698 : q_in (.methodLink "CardNobodyReads$Texts" 120 yX6_valueOf) := ⟨tbm_3 _ (List.mem_of_getElem? (i := 149) rfl), rfl⟩
theorem tb_700 : q_in (.instanceMethod yX6_valueOf) := ⟨tbm_3 _ (List.mem_of_getElem? (i := 151) rfl), rfl⟩
theorem tb_701 : q_in (.code yX6_valueOf cX6_valueOf 8 (some .int)) := ⟨tbm_3 _ (List.mem_of_getElem? (i := 152) rfl), rfl⟩
theorem tb_702 : q_in (.methodLink "CardNobodyReads$Texts" 132 yX6_joined) := ⟨tbm_3 _ (List.mem_of_getElem? (i := 153) rfl), rfl⟩
theorem tb_703 : q_in (.static yX6_joined) := ⟨tbm_3 _ (List.mem_of_getElem? (i := 154) rfl), rfl⟩
theorem tb_704 : q_in (.code yX6_joined cX6_joined 3 (some .int)) := ⟨tbm_3 _ (List.mem_of_getElem? (i := 155) rfl), rfl⟩
theorem tb_705 : q_in (.methodLink "CardNobodyReads$Texts" 124 Lib.Math.min.name) := ⟨tbm_3 _ (List.mem_of_getElem? (i := 156) rfl), rfl⟩
theorem tb_706 : q_in (.methodLink "CardNobodyReads$Texts" 129 Lib.Math.max.name) := ⟨tbm_3 _ (List.mem_of_getElem? (i := 157) rfl), rfl⟩
theorem tb_711 : q_in (.methodLink "CardNobodyReads" 152 yX9_mayBeFact) := ⟨tbm_3 _ (List.mem_of_getElem? (i := 162) rfl), rfl⟩
theorem tb_713 : q_in (.instanceMethod yX9_mayBeFact) := ⟨tbm_3 _ (List.mem_of_getElem? (i := 164) rfl), rfl⟩
theorem tb_714 : q_in (.code yX9_mayBeFact cX9_mayBeFact 5 (some .boolean)) := ⟨tbm_3 _ (List.mem_of_getElem? (i := 165) rfl), rfl⟩
theorem tb_715 : q_in (.methodLink "CardNobodyReads" 156 yX0_add) := ⟨tbm_3 _ (List.mem_of_getElem? (i := 166) rfl), rfl⟩
theorem tb_716 : q_in (.instanceMethod yX0_add) := ⟨tbm_3 _ (List.mem_of_getElem? (i := 167) rfl), rfl⟩
theorem tb_717 : q_in (.selects "CardNobodyReads$Facts" yX0_add yX0_add) := ⟨tbm_3 _ (List.mem_of_getElem? (i := 168) rfl), rfl⟩
theorem tb_718 : q_in (.code yX0_add cX0_add 6 (some .int)) := ⟨tbm_3 _ (List.mem_of_getElem? (i := 169) rfl), rfl⟩
theorem tb_719 : q_in (.methodLinkNest "CardNobodyReads$Facts" 28 yX9_put "CardNobodyReads") := ⟨tbm_3 _ (List.mem_of_getElem? (i := 170) rfl), rfl⟩
theorem tb_732 : q_in (.methodLink "CardNobodyReads" 177 yX9_fitting) := ⟨tbm_3 _ (List.mem_of_getElem? (i := 183) rfl), rfl⟩
theorem tb_734 : q_in (.instanceMethod yX9_fitting) := ⟨tbm_3 _ (List.mem_of_getElem? (i := 185) rfl), rfl⟩
theorem tb_735 : q_in (.code yX9_fitting cX9_fitting 1 (some (.object "CardNobodyReads$Fits"))) := ⟨tbm_3 _ (List.mem_of_getElem? (i := 186) rfl), rfl⟩
theorem tb_736 : q_in (.methodLink "CardNobodyReads" 332 yX1_find) := ⟨tbm_3 _ (List.mem_of_getElem? (i := 187) rfl), rfl⟩
theorem tb_737 : q_in (.instanceMethod yX1_find) := ⟨tbm_3 _ (List.mem_of_getElem? (i := 188) rfl), rfl⟩
theorem tb_738 : q_in (.selects "CardNobodyReads$Fits" yX1_find yX1_find) := ⟨tbm_3 _ (List.mem_of_getElem? (i := 189) rfl), rfl⟩
theorem tb_739 : q_in (.code yX1_find cX1_find 8 none) := ⟨tbm_3 _ (List.mem_of_getElem? (i := 190) rfl), rfl⟩
theorem tb_740 : q_in (.methodLink "CardNobodyReads$Fits" 34 yX1_clear) := ⟨tbm_3 _ (List.mem_of_getElem? (i := 191) rfl), rfl⟩
theorem tb_741 : q_in (.static yX1_clear) := ⟨tbm_3 _ (List.mem_of_getElem? (i := 192) rfl), rfl⟩
theorem tb_742 : q_in (.code yX1_clear cX1_clear 2 none) := ⟨tbm_3 _ (List.mem_of_getElem? (i := 193) rfl), rfl⟩
theorem tb_743 : q_in (.methodLink "CardNobodyReads$Fits" 38 yX1_allow) := ⟨tbm_3 _ (List.mem_of_getElem? (i := 194) rfl), rfl⟩
theorem tb_745 : q_in (.instanceMethod yX1_allow) := ⟨tbm_3 _ (List.mem_of_getElem? (i := 196) rfl), rfl⟩
theorem tb_746 : q_in (.code yX1_allow cX1_allow 8 none) := ⟨tbm_3 _ (List.mem_of_getElem? (i := 197) rfl), rfl⟩
theorem tb_747 : q_in (.methodLink "CardNobodyReads$Fits" 65 yX3_signsOf) := ⟨tbm_3 _ (List.mem_of_getElem? (i := 198) rfl), rfl⟩
theorem tb_748 : q_in (.methodLink "CardNobodyReads$Fits" 56 yJ6_bitCount_0f7a4) := ⟨tbm_3 _ (List.mem_of_getElem? (i := 199) rfl), rfl⟩
theorem tb_749 : q_in (.methodLink "CardNobodyReads$Fits" 68 yX3_priceOf) := ⟨tbm_3 _ (List.mem_of_getElem? (i := 200) rfl), rfl⟩
theorem tb_750 : q_in (.methodLink "CardNobodyReads$Fits" 71 yX6_says) := ⟨tbm_3 _ (List.mem_of_getElem? (i := 201) rfl), rfl⟩
theorem tb_751 : q_in (.methodLinkNest "CardNobodyReads$Fits" 77 yX9_put "CardNobodyReads") := ⟨tbm_3 _ (List.mem_of_getElem? (i := 202) rfl), rfl⟩
theorem tb_752 : q_in (.methodLink "CardNobodyReads$Fits" 42 yX1_isLawful) := ⟨tbm_3 _ (List.mem_of_getElem? (i := 203) rfl), rfl⟩
theorem tb_754 : q_in (.instanceMethod yX1_isLawful) := ⟨tbm_3 _ (List.mem_of_getElem? (i := 205) rfl), rfl⟩
theorem tb_755 : q_in (.code yX1_isLawful cX1_isLawful 4 (some .boolean)) := ⟨tbm_3 _ (List.mem_of_getElem? (i := 206) rfl), rfl⟩
theorem tb_756 : q_in (.methodLink "CardNobodyReads$Fits" 81 yX3_had) := ⟨tbm_3 _ (List.mem_of_getElem? (i := 207) rfl), rfl⟩
theorem tb_757 : q_in (.instanceMethod yX3_had) := ⟨tbm_3 _ (List.mem_of_getElem? (i := 208) rfl), rfl⟩
theorem tb_758 : q_in (.selects "CardNobodyReads$Lines" yX3_had yX3_had) := ⟨tbm_3 _ (List.mem_of_getElem? (i := 209) rfl), rfl⟩
theorem tb_759 : q_in (.code yX3_had cX3_had 3 (some .int)) := ⟨tbm_3 _ (List.mem_of_getElem? (i := 210) rfl), rfl⟩
theorem tb_760 : q_in (.methodLinkNest "CardNobodyReads$Fits" 85 yX9_at "CardNobodyReads") := ⟨tbm_3 _ (List.mem_of_getElem? (i := 211) rfl), rfl⟩
theorem tb_761 : q_in (.methodLink "CardNobodyReads$Fits" 46 yX0_brokenIn) := ⟨tbm_3 _ (List.mem_of_getElem? (i := 212) rfl), rfl⟩
theorem tb_762 : q_in (.instanceMethod yX0_brokenIn) := ⟨tbm_3 _ (List.mem_of_getElem? (i := 213) rfl), rfl⟩
theorem tb_763 : q_in (.selects "CardNobodyReads$Facts" yX0_brokenIn yX0_brokenIn) := ⟨tbm_3 _ (List.mem_of_getElem? (i := 214) rfl), rfl⟩
theorem tb_764 : q_in (.code yX0_brokenIn cX0_brokenIn 7 (some .int)) := ⟨tbm_3 _ (List.mem_of_getElem? (i := 215) rfl), rfl⟩
theorem tb_765 : q_in (.methodLinkNest "CardNobodyReads$Facts" 38 yX9_at "CardNobodyReads") := ⟨tbm_3 _ (List.mem_of_getElem? (i := 216) rfl), rfl⟩
theorem tb_766 : q_in (.methodLink "CardNobodyReads$Facts" 42 yX3_had) := ⟨tbm_3 _ (List.mem_of_getElem? (i := 217) rfl), rfl⟩
theorem tb_767 : q_in (.methodLink "CardNobodyReads$Facts" 48 yX0_holds) := ⟨tbm_3 _ (List.mem_of_getElem? (i := 218) rfl), rfl⟩
theorem tb_768 : q_in (.static yX0_holds) := ⟨tbm_3 _ (List.mem_of_getElem? (i := 219) rfl), rfl⟩
theorem tb_769 : q_in (.code yX0_holds cX0_holds 6 (some .boolean)) := ⟨tbm_3 _ (List.mem_of_getElem? (i := 220) rfl), rfl⟩
theorem tb_770 : q_in (.methodLink "CardNobodyReads$Facts" 32 yJ6_bitCount_0f7a4) := ⟨tbm_3 _ (List.mem_of_getElem? (i := 221) rfl), rfl⟩
theorem tb_771 : q_in (.methodLink "CardNobodyReads$Fits" 52 yX1_take) := ⟨tbm_3 _ (List.mem_of_getElem? (i := 222) rfl), rfl⟩
theorem tb_773 : q_in (.instanceMethod yX1_take) := ⟨tbm_3 _ (List.mem_of_getElem? (i := 224) rfl), rfl⟩
theorem tb_774 : q_in (.code yX1_take cX1_take 6 none) := ⟨tbm_3 _ (List.mem_of_getElem? (i := 225) rfl), rfl⟩
theorem tb_775 : q_in (.methodLink "CardNobodyReads$Fits" 89 yX7_partOf) := ⟨tbm_3 _ (List.mem_of_getElem? (i := 226) rfl), rfl⟩
theorem tb_780 : q_in (.methodLink "CardNobodyReads" 182 yX9_isSign) := ⟨tbm_3 _ (List.mem_of_getElem? (i := 231) rfl), rfl⟩
theorem tb_781 : q_in (.static yX9_isSign) := ⟨tbm_3 _ (List.mem_of_getElem? (i := 232) rfl), rfl⟩
theorem tb_782 : q_in (.code yX9_isSign cX9_isSign 1 (some .boolean)) := ⟨tbm_3 _ (List.mem_of_getElem? (i := 233) rfl), rfl⟩
theorem tb_783 : q_in (.methodLink "CardNobodyReads" 185 yX1_tongueOf) := ⟨tbm_3 _ (List.mem_of_getElem? (i := 234) rfl), rfl⟩
theorem tb_784 : q_in (.instanceMethod yX1_tongueOf) := ⟨tbm_3 _ (List.mem_of_getElem? (i := 235) rfl), rfl⟩
theorem tb_785 : q_in (.selects "CardNobodyReads$Fits" yX1_tongueOf yX1_tongueOf) := ⟨tbm_3 _ (List.mem_of_getElem? (i := 236) rfl), rfl⟩
theorem tb_786 : q_in (.code yX1_tongueOf cX1_tongueOf 2 (some .int)) := ⟨tbm_3 _ (List.mem_of_getElem? (i := 237) rfl), rfl⟩
theorem tb_787 : q_in (.methodLink "CardNobodyReads" 188 yX7_partOf) := ⟨tbm_3 _ (List.mem_of_getElem? (i := 238) rfl), rfl⟩
theorem tb_792 : q_in (.methodLink "CardNobodyReads" 191 yX9_isPart) := ⟨tbm_4 _ (List.mem_of_getElem? (i := 3) rfl), rfl⟩
theorem tb_793 : q_in (.static yX9_isPart) := ⟨tbm_4 _ (List.mem_of_getElem? (i := 4) rfl), rfl⟩
theorem tb_794 : q_in (.code yX9_isPart cX9_isPart 1 (some .boolean)) := ⟨tbm_4 _ (List.mem_of_getElem? (i := 5) rfl), rfl⟩
theorem tb_795 : q_in (.methodLink "CardNobodyReads" 194 yX1_meaning) := ⟨tbm_4 _ (List.mem_of_getElem? (i := 6) rfl), rfl⟩
theorem tb_796 : q_in (.instanceMethod yX1_meaning) := ⟨tbm_4 _ (List.mem_of_getElem? (i := 7) rfl), rfl⟩
theorem tb_797 : q_in (.selects "CardNobodyReads$Fits" yX1_meaning yX1_meaning) := ⟨tbm_4 _ (List.mem_of_getElem? (i := 8) rfl), rfl⟩
theorem tb_798 : q_in (.code yX1_meaning cX1_meaning 3 (some .int)) := ⟨tbm_4 _ (List.mem_of_getElem? (i := 9) rfl), rfl⟩
theorem tb_807 : q_in (.methodLink "CardNobodyReads" 197 yX1_meaningsOf) := ⟨tbm_4 _ (List.mem_of_getElem? (i := 18) rfl), rfl⟩
theorem tb_808 : q_in (.instanceMethod yX1_meaningsOf) := ⟨tbm_4 _ (List.mem_of_getElem? (i := 19) rfl), rfl⟩
theorem tb_809 : q_in (.selects "CardNobodyReads$Fits" yX1_meaningsOf yX1_meaningsOf) := ⟨tbm_4 _ (List.mem_of_getElem? (i := 20) rfl), rfl⟩
theorem tb_810 : q_in (.code yX1_meaningsOf cX1_meaningsOf 4 (some .int)) := ⟨tbm_4 _ (List.mem_of_getElem? (i := 21) rfl), rfl⟩
theorem tb_811 : q_in (.methodLink "CardNobodyReads$Fits" 94 yX1_meaning) := ⟨tbm_4 _ (List.mem_of_getElem? (i := 22) rfl), rfl⟩
theorem tb_816 : q_in (.methodLink "CardNobodyReads" 200 yX9_isFractionPart) := ⟨tbm_4 _ (List.mem_of_getElem? (i := 27) rfl), rfl⟩
theorem tb_817 : q_in (.static yX9_isFractionPart) := ⟨tbm_4 _ (List.mem_of_getElem? (i := 28) rfl), rfl⟩
theorem tb_818 : q_in (.code yX9_isFractionPart cX9_isFractionPart 1 (some .boolean)) := ⟨tbm_4 _ (List.mem_of_getElem? (i := 29) rfl), rfl⟩
theorem tb_819 : q_in (.constantLong "CardNobodyReads" 203 (Int64.ofInt (-4611686018427387904))) := ⟨tbm_4 _ (List.mem_of_getElem? (i := 30) rfl), rfl⟩
theorem tb_820 : q_in (.methodLink "CardNobodyReads" 205 yX9_fraction) := ⟨tbm_4 _ (List.mem_of_getElem? (i := 31) rfl), rfl⟩
theorem tb_821 : q_in (.static yX9_fraction) := ⟨tbm_4 _ (List.mem_of_getElem? (i := 32) rfl), rfl⟩
theorem tb_822 : q_in (.code yX9_fraction cX9_fraction 4 (some .long)) := ⟨tbm_4 _ (List.mem_of_getElem? (i := 33) rfl), rfl⟩
theorem tb_823 : q_in (.methodLink "CardNobodyReads" 326 yX9_commonDivisor) := ⟨tbm_4 _ (List.mem_of_getElem? (i := 34) rfl), rfl⟩
theorem tb_824 : q_in (.static yX9_commonDivisor) := ⟨tbm_4 _ (List.mem_of_getElem? (i := 35) rfl), rfl⟩
theorem tb_825 : q_in (.code yX9_commonDivisor cX9_commonDivisor 6 (some .int)) := ⟨tbm_4 _ (List.mem_of_getElem? (i := 36) rfl), rfl⟩
theorem tb_830 : q_in (.methodLink "CardNobodyReads" 209 yX1_withAll) := ⟨tbm_4 _ (List.mem_of_getElem? (i := 41) rfl), rfl⟩
theorem tb_831 : q_in (.instanceMethod yX1_withAll) := ⟨tbm_4 _ (List.mem_of_getElem? (i := 42) rfl), rfl⟩
theorem tb_832 : q_in (.selects "CardNobodyReads$Fits" yX1_withAll yX1_withAll) := ⟨tbm_4 _ (List.mem_of_getElem? (i := 43) rfl), rfl⟩
theorem tb_833 : q_in (.code yX1_withAll cX1_withAll 5 (some .int)) := ⟨tbm_4 _ (List.mem_of_getElem? (i := 44) rfl), rfl⟩
theorem tb_834 : q_in (.methodLink "CardNobodyReads$Fits" 97 yX1_having) := ⟨tbm_4 _ (List.mem_of_getElem? (i := 45) rfl), rfl⟩
theorem tb_835 : q_in (.instanceMethod yX1_having) := ⟨tbm_4 _ (List.mem_of_getElem? (i := 46) rfl), rfl⟩
theorem tb_836 : q_in (.selects "CardNobodyReads$Fits" yX1_having yX1_having) := ⟨tbm_4 _ (List.mem_of_getElem? (i := 47) rfl), rfl⟩
theorem tb_837 : q_in (.code yX1_having cX1_having 3 (some .int)) := ⟨tbm_4 _ (List.mem_of_getElem? (i := 48) rfl), rfl⟩
theorem tb_842 : q_in (.methodLink "CardNobodyReads" 212 yX1_partsInAll) := ⟨tbm_4 _ (List.mem_of_getElem? (i := 53) rfl), rfl⟩
theorem tb_843 : q_in (.instanceMethod yX1_partsInAll) := ⟨tbm_4 _ (List.mem_of_getElem? (i := 54) rfl), rfl⟩
theorem tb_844 : q_in (.selects "CardNobodyReads$Fits" yX1_partsInAll yX1_partsInAll) := ⟨tbm_4 _ (List.mem_of_getElem? (i := 55) rfl), rfl⟩
theorem tb_845 : q_in (.code yX1_partsInAll cX1_partsInAll 4 (some .int)) := ⟨tbm_4 _ (List.mem_of_getElem? (i := 56) rfl), rfl⟩
theorem tb_846 : q_in (.methodLink "CardNobodyReads" 215 yX1_partsInAny) := ⟨tbm_4 _ (List.mem_of_getElem? (i := 57) rfl), rfl⟩
theorem tb_847 : q_in (.instanceMethod yX1_partsInAny) := ⟨tbm_4 _ (List.mem_of_getElem? (i := 58) rfl), rfl⟩
theorem tb_848 : q_in (.selects "CardNobodyReads$Fits" yX1_partsInAny yX1_partsInAny) := ⟨tbm_4 _ (List.mem_of_getElem? (i := 59) rfl), rfl⟩
theorem tb_849 : q_in (.code yX1_partsInAny cX1_partsInAny 4 (some .int)) := ⟨tbm_4 _ (List.mem_of_getElem? (i := 60) rfl), rfl⟩
theorem tb_854 : q_in (.methodLink "CardNobodyReads" 218 yX9_safeLines) := ⟨tbm_4 _ (List.mem_of_getElem? (i := 65) rfl), rfl⟩
theorem tb_856 : q_in (.instanceMethod yX9_safeLines) := ⟨tbm_4 _ (List.mem_of_getElem? (i := 67) rfl), rfl⟩
theorem tb_857 : q_in (.code yX9_safeLines cX9_safeLines 5 (some .int)) := ⟨tbm_4 _ (List.mem_of_getElem? (i := 68) rfl), rfl⟩
theorem tb_858 : q_in (.methodLink "CardNobodyReads" 222 yX1_withAny) := ⟨tbm_4 _ (List.mem_of_getElem? (i := 69) rfl), rfl⟩
theorem tb_859 : q_in (.instanceMethod yX1_withAny) := ⟨tbm_4 _ (List.mem_of_getElem? (i := 70) rfl), rfl⟩
theorem tb_860 : q_in (.selects "CardNobodyReads$Fits" yX1_withAny yX1_withAny) := ⟨tbm_4 _ (List.mem_of_getElem? (i := 71) rfl), rfl⟩
theorem tb_861 : q_in (.code yX1_withAny cX1_withAny 5 (some .int)) := ⟨tbm_4 _ (List.mem_of_getElem? (i := 72) rfl), rfl⟩
theorem tb_870 : q_in (.methodLink "CardNobodyReads" 225 yX9_planTonight) := ⟨tbm_4 _ (List.mem_of_getElem? (i := 81) rfl), rfl⟩
theorem tb_872 : q_in (.instanceMethod yX9_planTonight) := ⟨tbm_4 _ (List.mem_of_getElem? (i := 83) rfl), rfl⟩
theorem tb_873 : q_in (.code yX9_planTonight cX9_planTonight 5 none) := ⟨tbm_4 _ (List.mem_of_getElem? (i := 84) rfl), rfl⟩
theorem tb_874 : q_in (.methodLink "CardNobodyReads" 339 yX9_liking) := ⟨tbm_4 _ (List.mem_of_getElem? (i := 85) rfl), rfl⟩
theorem tb_876 : q_in (.instanceMethod yX9_liking) := ⟨tbm_4 _ (List.mem_of_getElem? (i := 87) rfl), rfl⟩
theorem tb_877 : q_in (.code yX9_liking cX9_liking 7 (some .int)) := ⟨tbm_4 _ (List.mem_of_getElem? (i := 88) rfl), rfl⟩
theorem tb_878 : q_in (.methodLink "CardNobodyReads" 336 yX1_having) := ⟨tbm_4 _ (List.mem_of_getElem? (i := 89) rfl), rfl⟩
theorem tb_879 : q_in (.methodLink "CardNobodyReads" 345 yX8_offer) := ⟨tbm_4 _ (List.mem_of_getElem? (i := 90) rfl), rfl⟩
theorem tb_880 : q_in (.instanceMethod yX8_offer) := ⟨tbm_4 _ (List.mem_of_getElem? (i := 91) rfl), rfl⟩
theorem tb_881 : q_in (.selects "CardNobodyReads$Tonight" yX8_offer yX8_offer) := ⟨tbm_4 _ (List.mem_of_getElem? (i := 92) rfl), rfl⟩
theorem tb_882 : q_in (.code yX8_offer cX8_offer 4 none) := ⟨tbm_4 _ (List.mem_of_getElem? (i := 93) rfl), rfl⟩
theorem tb_883 : q_in (.methodLinkNest "CardNobodyReads$Tonight" 21 yX9_put "CardNobodyReads") := ⟨tbm_4 _ (List.mem_of_getElem? (i := 94) rfl), rfl⟩
theorem tb_884 : q_in (.methodLink "CardNobodyReads" 348 yX8_plan) := ⟨tbm_4 _ (List.mem_of_getElem? (i := 95) rfl), rfl⟩
theorem tb_885 : q_in (.instanceMethod yX8_plan) := ⟨tbm_4 _ (List.mem_of_getElem? (i := 96) rfl), rfl⟩
theorem tb_886 : q_in (.selects "CardNobodyReads$Tonight" yX8_plan yX8_plan) := ⟨tbm_4 _ (List.mem_of_getElem? (i := 97) rfl), rfl⟩
theorem tb_887 : q_in (.code yX8_plan cX8_plan 6 none) := ⟨tbm_4 _ (List.mem_of_getElem? (i := 98) rfl), rfl⟩
theorem tb_888 : q_in (.methodLink "CardNobodyReads$Tonight" 29 yX8_serve) := ⟨tbm_4 _ (List.mem_of_getElem? (i := 99) rfl), rfl⟩
theorem tb_890 : q_in (.instanceMethod yX8_serve) := ⟨tbm_4 _ (List.mem_of_getElem? (i := 101) rfl), rfl⟩
theorem tb_891 : q_in (.code yX8_serve cX8_serve 9 none) := ⟨tbm_4 _ (List.mem_of_getElem? (i := 102) rfl), rfl⟩
theorem tb_892 : q_in (.methodLink "CardNobodyReads$Tonight" 46 yX8_keepIfBetter) := ⟨tbm_4 _ (List.mem_of_getElem? (i := 103) rfl), rfl⟩
theorem tb_894 : q_in (.instanceMethod yX8_keepIfBetter) := ⟨tbm_4 _ (List.mem_of_getElem? (i := 105) rfl), rfl⟩
theorem tb_895 : q_in (.code yX8_keepIfBetter cX8_keepIfBetter 2 none) := ⟨tbm_4 _ (List.mem_of_getElem? (i := 106) rfl), rfl⟩
theorem tb_896 : q_in (.methodLink "CardNobodyReads$Tonight" 53 arraycopyName) := ⟨tbm_4 _ (List.mem_of_getElem? (i := 107) rfl), rfl⟩
theorem tb_897 : q_in (.static arraycopyName) := ⟨tbm_4 _ (List.mem_of_getElem? (i := 108) rfl), rfl⟩
theorem tb_898 : q_in (.native arraycopyName) := ⟨tbm_4 _ (List.mem_of_getElem? (i := 109) rfl), rfl⟩
theorem tb_899 : q_in (.methodLinkNest "CardNobodyReads$Tonight" 36 yX9_at "CardNobodyReads") := ⟨tbm_4 _ (List.mem_of_getElem? (i := 110) rfl), rfl⟩
theorem tb_900 : q_in (.methodLink "CardNobodyReads$Tonight" 40 yX3_priceOf) := ⟨tbm_4 _ (List.mem_of_getElem? (i := 111) rfl), rfl⟩
theorem tb_909 : q_in (.methodLink "CardNobodyReads" 238 yX3_everyLine) := ⟨tbm_4 _ (List.mem_of_getElem? (i := 120) rfl), rfl⟩
theorem tb_910 : q_in (.instanceMethod yX3_everyLine) := ⟨tbm_4 _ (List.mem_of_getElem? (i := 121) rfl), rfl⟩
theorem tb_911 : q_in (.selects "CardNobodyReads$Lines" yX3_everyLine yX3_everyLine) := ⟨tbm_4 _ (List.mem_of_getElem? (i := 122) rfl), rfl⟩
theorem tb_912 : q_in (.code yX3_everyLine cX3_everyLine 1 (some .int)) := ⟨tbm_4 _ (List.mem_of_getElem? (i := 123) rfl), rfl⟩
theorem tb_913 : q_in (.methodLink "CardNobodyReads" 241 yX9_mostLiking) := ⟨tbm_4 _ (List.mem_of_getElem? (i := 124) rfl), rfl⟩
theorem tb_915 : q_in (.instanceMethod yX9_mostLiking) := ⟨tbm_4 _ (List.mem_of_getElem? (i := 126) rfl), rfl⟩
theorem tb_916 : q_in (.code yX9_mostLiking cX9_mostLiking 6 (some .int)) := ⟨tbm_4 _ (List.mem_of_getElem? (i := 127) rfl), rfl⟩
theorem tb_917 : q_in (.methodLink "CardNobodyReads" 342 Lib.Math.max.name) := ⟨tbm_4 _ (List.mem_of_getElem? (i := 128) rfl), rfl⟩
theorem tb_922 : q_in (.methodLink "CardNobodyReads" 245 yX9_teaching) := ⟨tbm_4 _ (List.mem_of_getElem? (i := 133) rfl), rfl⟩
theorem tb_924 : q_in (.instanceMethod yX9_teaching) := ⟨tbm_4 _ (List.mem_of_getElem? (i := 135) rfl), rfl⟩
theorem tb_925 : q_in (.code yX9_teaching cX9_teaching 6 (some .int)) := ⟨tbm_4 _ (List.mem_of_getElem? (i := 136) rfl), rfl⟩
theorem tb_930 : q_in (.methodLink "CardNobodyReads" 248 yX1_squares) := ⟨tbm_4 _ (List.mem_of_getElem? (i := 141) rfl), rfl⟩
theorem tb_931 : q_in (.instanceMethod yX1_squares) := ⟨tbm_4 _ (List.mem_of_getElem? (i := 142) rfl), rfl⟩
theorem tb_932 : q_in (.selects "CardNobodyReads$Fits" yX1_squares yX1_squares) := ⟨tbm_4 _ (List.mem_of_getElem? (i := 143) rfl), rfl⟩
theorem tb_933 : q_in (.code yX1_squares cX1_squares 9 (some .int)) := ⟨tbm_4 _ (List.mem_of_getElem? (i := 144) rfl), rfl⟩
theorem tb_934 : q_in (.methodLink "CardNobodyReads$Fits" 100 yX1_tongueOf) := ⟨tbm_4 _ (List.mem_of_getElem? (i := 145) rfl), rfl⟩
theorem tb_939 : q_in (.methodLink "CardNobodyReads" 252 Lib.Math.min.name) := ⟨tbm_4 _ (List.mem_of_getElem? (i := 150) rfl), rfl⟩
theorem tb_944 : q_in (.methodLink "CardNobodyReads" 257 yX3_had) := ⟨tbm_4 _ (List.mem_of_getElem? (i := 155) rfl), rfl⟩
theorem tb_945 : q_in (.methodLink "CardNobodyReads" 260 yX0_holds) := ⟨tbm_4 _ (List.mem_of_getElem? (i := 156) rfl), rfl⟩
theorem tb_958 : q_in (.methodLink "CardNobodyReads" 267 yJ6_bitCount_0f7a4) := ⟨tbm_4 _ (List.mem_of_getElem? (i := 169) rfl), rfl⟩
theorem tb_959 : q_in (.methodLink "CardNobodyReads" 272 yX3_pricesOf) := ⟨tbm_4 _ (List.mem_of_getElem? (i := 170) rfl), rfl⟩
theorem tb_960 : q_in (.instanceMethod yX3_pricesOf) := ⟨tbm_4 _ (List.mem_of_getElem? (i := 171) rfl), rfl⟩
theorem tb_961 : q_in (.selects "CardNobodyReads$Lines" yX3_pricesOf yX3_pricesOf) := ⟨tbm_4 _ (List.mem_of_getElem? (i := 172) rfl), rfl⟩
theorem tb_962 : q_in (.code yX3_pricesOf cX3_pricesOf 4 (some .int)) := ⟨tbm_4 _ (List.mem_of_getElem? (i := 173) rfl), rfl⟩
theorem tb_963 : q_in (.methodLink "CardNobodyReads$Lines" 53 yX3_priceOf) := ⟨tbm_4 _ (List.mem_of_getElem? (i := 174) rfl), rfl⟩
theorem tb_968 : q_in (.methodLink "CardNobodyReads" 275 yX9_isSheet) := ⟨tbm_4 _ (List.mem_of_getElem? (i := 179) rfl), rfl⟩
theorem tb_969 : q_in (.static yX9_isSheet) := ⟨tbm_4 _ (List.mem_of_getElem? (i := 180) rfl), rfl⟩
theorem tb_970 : q_in (.code yX9_isSheet cX9_isSheet 1 (some .boolean)) := ⟨tbm_4 _ (List.mem_of_getElem? (i := 181) rfl), rfl⟩
theorem tb_971 : q_in (.methodLink "CardNobodyReads" 278 yX4_isMissing) := ⟨tbm_4 _ (List.mem_of_getElem? (i := 182) rfl), rfl⟩
theorem tb_972 : q_in (.instanceMethod yX4_isMissing) := ⟨tbm_4 _ (List.mem_of_getElem? (i := 183) rfl), rfl⟩
theorem tb_973 : q_in (.selects "CardNobodyReads$Sheets" yX4_isMissing yX4_isMissing) := ⟨tbm_4 _ (List.mem_of_getElem? (i := 184) rfl), rfl⟩
theorem tb_974 : q_in (.code yX4_isMissing cX4_isMissing 2 (some .boolean)) := ⟨tbm_4 _ (List.mem_of_getElem? (i := 185) rfl), rfl⟩
theorem tb_975 : q_in (.methodLink "CardNobodyReads$Sheets" 21 yX4_sortOf) := ⟨tbm_4 _ (List.mem_of_getElem? (i := 186) rfl), rfl⟩
theorem tb_976 : q_in (.instanceMethod yX4_sortOf) := ⟨tbm_4 _ (List.mem_of_getElem? (i := 187) rfl), rfl⟩
theorem tb_977 : q_in (.selects "CardNobodyReads$Sheets" yX4_sortOf yX4_sortOf) := ⟨tbm_4 _ (List.mem_of_getElem? (i := 188) rfl), rfl⟩
theorem tb_978 : q_in (.code yX4_sortOf cX4_sortOf 2 (some .int)) := ⟨tbm_4 _ (List.mem_of_getElem? (i := 189) rfl), rfl⟩
theorem tb_979 : q_in (.methodLinkNest "CardNobodyReads$Sheets" 25 yX9_at "CardNobodyReads") := ⟨tbm_4 _ (List.mem_of_getElem? (i := 190) rfl), rfl⟩
theorem tb_980 : q_in (.methodLink "CardNobodyReads" 281 yX4_sizeOf) := ⟨tbm_4 _ (List.mem_of_getElem? (i := 191) rfl), rfl⟩
theorem tb_981 : q_in (.instanceMethod yX4_sizeOf) := ⟨tbm_4 _ (List.mem_of_getElem? (i := 192) rfl), rfl⟩
theorem tb_982 : q_in (.selects "CardNobodyReads$Sheets" yX4_sizeOf yX4_sizeOf) := ⟨tbm_4 _ (List.mem_of_getElem? (i := 193) rfl), rfl⟩
theorem tb_983 : q_in (.code yX4_sizeOf cX4_sizeOf 2 (some .int)) := ⟨tbm_4 _ (List.mem_of_getElem? (i := 194) rfl), rfl⟩
theorem tb_984 : q_in (.methodLink "CardNobodyReads" 284 yX9_isMeal) := ⟨tbm_4 _ (List.mem_of_getElem? (i := 195) rfl), rfl⟩
theorem tb_986 : q_in (.instanceMethod yX9_isMeal) := ⟨tbm_4 _ (List.mem_of_getElem? (i := 197) rfl), rfl⟩
theorem tb_987 : q_in (.code yX9_isMeal cX9_isMeal 4 (some .boolean)) := ⟨tbm_4 _ (List.mem_of_getElem? (i := 198) rfl), rfl⟩
theorem tb_988 : q_in (.methodLink "CardNobodyReads" 321 yX4_read) := ⟨tbm_4 _ (List.mem_of_getElem? (i := 199) rfl), rfl⟩
theorem tb_989 : q_in (.instanceMethod yX4_read) := ⟨tbm_4 _ (List.mem_of_getElem? (i := 200) rfl), rfl⟩
theorem tb_990 : q_in (.selects "CardNobodyReads$Sheets" yX4_read yX4_read) := ⟨tbm_4 _ (List.mem_of_getElem? (i := 201) rfl), rfl⟩
theorem tb_991 : q_in (.code yX4_read cX4_read 3 (some .int)) := ⟨tbm_4 _ (List.mem_of_getElem? (i := 202) rfl), rfl⟩
theorem tb_996 : q_in (.methodLink "CardNobodyReads" 287 yX4_become) := ⟨tbm_4 _ (List.mem_of_getElem? (i := 207) rfl), rfl⟩
theorem tb_997 : q_in (.instanceMethod yX4_become) := ⟨tbm_4 _ (List.mem_of_getElem? (i := 208) rfl), rfl⟩
theorem tb_998 : q_in (.selects "CardNobodyReads$Sheets" yX4_become yX4_become) := ⟨tbm_4 _ (List.mem_of_getElem? (i := 209) rfl), rfl⟩
theorem tb_999 : q_in (.code yX4_become cX4_become 5 none) := ⟨tbm_4 _ (List.mem_of_getElem? (i := 210) rfl), rfl⟩
theorem tb_1000 : q_in (.methodLinkNest "CardNobodyReads$Sheets" 29 yX9_put "CardNobodyReads") := ⟨tbm_4 _ (List.mem_of_getElem? (i := 211) rfl), rfl⟩
theorem tb_1001 : q_in (.methodLink "CardNobodyReads" 291 yX4_write) := ⟨tbm_4 _ (List.mem_of_getElem? (i := 212) rfl), rfl⟩
theorem tb_1002 : q_in (.instanceMethod yX4_write) := ⟨tbm_4 _ (List.mem_of_getElem? (i := 213) rfl), rfl⟩
theorem tb_1003 : q_in (.selects "CardNobodyReads$Sheets" yX4_write yX4_write) := ⟨tbm_4 _ (List.mem_of_getElem? (i := 214) rfl), rfl⟩
theorem tb_1004 : q_in (.code yX4_write cX4_write 5 none) := ⟨tbm_4 _ (List.mem_of_getElem? (i := 215) rfl), rfl⟩
theorem tb_1009 : q_in (.methodLink "CardNobodyReads" 294 yX1_anyBy) := ⟨tbm_4 _ (List.mem_of_getElem? (i := 220) rfl), rfl⟩
theorem tb_1010 : q_in (.instanceMethod yX1_anyBy) := ⟨tbm_4 _ (List.mem_of_getElem? (i := 221) rfl), rfl⟩
theorem tb_1011 : q_in (.selects "CardNobodyReads$Fits" yX1_anyBy yX1_anyBy) := ⟨tbm_4 _ (List.mem_of_getElem? (i := 222) rfl), rfl⟩
theorem tb_1012 : q_in (.code yX1_anyBy cX1_anyBy 6 (some .boolean)) := ⟨tbm_4 _ (List.mem_of_getElem? (i := 223) rfl), rfl⟩
theorem tb_1017 : q_in (.constant "CardNobodyReads" 298 (Int32.ofInt 99999)) := ⟨tbm_4 _ (List.mem_of_getElem? (i := 228) rfl), rfl⟩
theorem tb_1018 : q_in (.methodLink "CardNobodyReads" 299 yX1_drawnBy) := ⟨tbm_4 _ (List.mem_of_getElem? (i := 229) rfl), rfl⟩
theorem tb_1019 : q_in (.instanceMethod yX1_drawnBy) := ⟨tbm_4 _ (List.mem_of_getElem? (i := 230) rfl), rfl⟩
theorem tb_1020 : q_in (.selects "CardNobodyReads$Fits" yX1_drawnBy yX1_drawnBy) := ⟨tbm_4 _ (List.mem_of_getElem? (i := 231) rfl), rfl⟩
theorem tb_1021 : q_in (.code yX1_drawnBy cX1_drawnBy 4 (some .int)) := ⟨tbm_4 _ (List.mem_of_getElem? (i := 232) rfl), rfl⟩
theorem tb_1022 : q_in (.constantLong "CardNobodyReads$Fits" 103 (Int64.ofInt 48271)) := ⟨tbm_4 _ (List.mem_of_getElem? (i := 233) rfl), rfl⟩
theorem tb_1023 : q_in (.constantLong "CardNobodyReads$Fits" 105 (Int64.ofInt 2147483647)) := ⟨tbm_4 _ (List.mem_of_getElem? (i := 234) rfl), rfl⟩
theorem tb_1032 : q_in (.methodLink "CardNobodyReads" 308 arraycopyName) := ⟨tbm_5 _ (List.mem_of_getElem? (i := 3) rfl), rfl⟩
theorem tb_1049 : q_in (.methodLink "CardNobodyReads" 314 yX4_sortOf) := ⟨tbm_5 _ (List.mem_of_getElem? (i := 20) rfl), rfl⟩
theorem tb_1050 : q_in (.methodLink "CardNobodyReads" 317 yX4_move) := ⟨tbm_5 _ (List.mem_of_getElem? (i := 21) rfl), rfl⟩
theorem tb_1051 : q_in (.instanceMethod yX4_move) := ⟨tbm_5 _ (List.mem_of_getElem? (i := 22) rfl), rfl⟩
theorem tb_1052 : q_in (.selects "CardNobodyReads$Sheets" yX4_move yX4_move) := ⟨tbm_5 _ (List.mem_of_getElem? (i := 23) rfl), rfl⟩
theorem tb_1053 : q_in (.code yX4_move cX4_move 8 none) := ⟨tbm_5 _ (List.mem_of_getElem? (i := 24) rfl), rfl⟩
theorem tb_1054 : q_in (.methodLinkNest "CardNobodyReads$Sheets" 33 yX9_within "CardNobodyReads") := ⟨tbm_5 _ (List.mem_of_getElem? (i := 25) rfl), rfl⟩
theorem tb_1055 : q_in (.methodLink "CardNobodyReads$Sheets" 37 arraycopyName) := ⟨tbm_5 _ (List.mem_of_getElem? (i := 26) rfl), rfl⟩
theorem tb_1064 : q_in (.methodLink "CardNobodyReads" 323 yX0_isOne) := ⟨tbm_5 _ (List.mem_of_getElem? (i := 35) rfl), rfl⟩
theorem tb_1065 : q_in (.static yX0_isOne) := ⟨tbm_5 _ (List.mem_of_getElem? (i := 36) rfl), rfl⟩
theorem tb_1066 : q_in (.code yX0_isOne cX0_isOne 4 (some .boolean)) := ⟨tbm_5 _ (List.mem_of_getElem? (i := 37) rfl), rfl⟩
theorem tb_1067 : q_in (.fieldLinkNest "CardNobodyReads$Facts" 52 "CardNobodyReads" "KIND_ABOVE" "[I" "CardNobodyReads") := ⟨tbm_5 _ (List.mem_of_getElem? (i := 38) rfl), rfl⟩
theorem tb_1079 : q_in (.methodLink "CardNobodyReadsModel" 169 yX10_next) := ⟨tbm_5 _ (List.mem_of_getElem? (i := 50) rfl), rfl⟩
theorem tb_1081 : q_in (.instanceMethod yX10_next) := ⟨tbm_5 _ (List.mem_of_getElem? (i := 52) rfl), rfl⟩
theorem tb_1082 : q_in (.code yX10_next cX10_next 3 none) := ⟨tbm_5 _ (List.mem_of_getElem? (i := 53) rfl), rfl⟩
theorem tb_1083 : q_in (.methodLink "CardNobodyReadsModel" 101 yX10_in) := ⟨tbm_5 _ (List.mem_of_getElem? (i := 54) rfl), rfl⟩
theorem tb_1084 : q_in (.static yX10_in) := ⟨tbm_5 _ (List.mem_of_getElem? (i := 55) rfl), rfl⟩
theorem tb_1085 : q_in (.code yX10_in cX10_in 3 (some .boolean)) := ⟨tbm_5 _ (List.mem_of_getElem? (i := 56) rfl), rfl⟩
theorem tb_1086 : q_in (.methodLink "CardNobodyReadsModel" 143 yX10_wordFrom) := ⟨tbm_5 _ (List.mem_of_getElem? (i := 57) rfl), rfl⟩
theorem tb_1088 : q_in (.instanceMethod yX10_wordFrom) := ⟨tbm_5 _ (List.mem_of_getElem? (i := 59) rfl), rfl⟩
theorem tb_1089 : q_in (.code yX10_wordFrom cX10_wordFrom 6 (some .int)) := ⟨tbm_5 _ (List.mem_of_getElem? (i := 60) rfl), rfl⟩
theorem tb_1090 : q_in (.methodLink "CardNobodyReadsModel" 182 yX10_eRead) := ⟨tbm_5 _ (List.mem_of_getElem? (i := 61) rfl), rfl⟩
theorem tb_1092 : q_in (.instanceMethod yX10_eRead) := ⟨tbm_5 _ (List.mem_of_getElem? (i := 63) rfl), rfl⟩
theorem tb_1093 : q_in (.code yX10_eRead cX10_eRead 4 (some .boolean)) := ⟨tbm_5 _ (List.mem_of_getElem? (i := 64) rfl), rfl⟩
theorem tb_1094 : q_in (.constant "CardNobodyReadsModel" 172 (Int32.ofInt 100000)) := ⟨tbm_5 _ (List.mem_of_getElem? (i := 65) rfl), rfl⟩
theorem tb_1095 : q_in (.methodLink "CardNobodyReadsModel" 159 yX10_puts) := ⟨tbm_5 _ (List.mem_of_getElem? (i := 66) rfl), rfl⟩
theorem tb_1097 : q_in (.instanceMethod yX10_puts) := ⟨tbm_5 _ (List.mem_of_getElem? (i := 68) rfl), rfl⟩
theorem tb_1098 : q_in (.code yX10_puts cX10_puts 2 none) := ⟨tbm_5 _ (List.mem_of_getElem? (i := 69) rfl), rfl⟩
theorem tb_1099 : q_in (.methodLink "CardNobodyReadsModel" 166 yX10_unwinds) := ⟨tbm_5 _ (List.mem_of_getElem? (i := 70) rfl), rfl⟩
theorem tb_1101 : q_in (.instanceMethod yX10_unwinds) := ⟨tbm_5 _ (List.mem_of_getElem? (i := 72) rfl), rfl⟩
theorem tb_1102 : q_in (.code yX10_unwinds cX10_unwinds 3 none) := ⟨tbm_5 _ (List.mem_of_getElem? (i := 73) rfl), rfl⟩
theorem tb_1103 : q_in (.methodLink "CardNobodyReadsModel" 153 yX10_rank) := ⟨tbm_5 _ (List.mem_of_getElem? (i := 74) rfl), rfl⟩
theorem tb_1104 : q_in (.static yX10_rank) := ⟨tbm_5 _ (List.mem_of_getElem? (i := 75) rfl), rfl⟩
theorem tb_1105 : q_in (.code yX10_rank cX10_rank 1 (some .int)) := ⟨tbm_5 _ (List.mem_of_getElem? (i := 76) rfl), rfl⟩
theorem tb_1106 : q_in (.methodLink "CardNobodyReadsModel" 173 yX10_opensOne) := ⟨tbm_5 _ (List.mem_of_getElem? (i := 77) rfl), rfl⟩
theorem tb_1108 : q_in (.instanceMethod yX10_opensOne) := ⟨tbm_5 _ (List.mem_of_getElem? (i := 79) rfl), rfl⟩
theorem tb_1109 : q_in (.code yX10_opensOne cX10_opensOne 2 (some .boolean)) := ⟨tbm_5 _ (List.mem_of_getElem? (i := 80) rfl), rfl⟩
theorem tb_1110 : q_in (.methodLink "CardNobodyReadsModel" 163 yX10_holds) := ⟨tbm_5 _ (List.mem_of_getElem? (i := 81) rfl), rfl⟩
theorem tb_1112 : q_in (.instanceMethod yX10_holds) := ⟨tbm_5 _ (List.mem_of_getElem? (i := 83) rfl), rfl⟩
theorem tb_1113 : q_in (.code yX10_holds cX10_holds 2 none) := ⟨tbm_5 _ (List.mem_of_getElem? (i := 84) rfl), rfl⟩
theorem tb_1114 : q_in (.methodLink "CardNobodyReadsModel" 176 yX10_signOf) := ⟨tbm_5 _ (List.mem_of_getElem? (i := 85) rfl), rfl⟩
theorem tb_1116 : q_in (.instanceMethod yX10_signOf) := ⟨tbm_5 _ (List.mem_of_getElem? (i := 87) rfl), rfl⟩
theorem tb_1117 : q_in (.code yX10_signOf cX10_signOf 1 (some .int)) := ⟨tbm_5 _ (List.mem_of_getElem? (i := 88) rfl), rfl⟩
theorem tb_1118 : q_in (.methodLink "CardNobodyReadsModel" 179 yX10_between) := ⟨tbm_5 _ (List.mem_of_getElem? (i := 89) rfl), rfl⟩
theorem tb_1120 : q_in (.instanceMethod yX10_between) := ⟨tbm_5 _ (List.mem_of_getElem? (i := 91) rfl), rfl⟩
theorem tb_1121 : q_in (.code yX10_between cX10_between 2 (some .boolean)) := ⟨tbm_5 _ (List.mem_of_getElem? (i := 92) rfl), rfl⟩
theorem tb_1127 : q_in (.fieldLink "CardNobodyReadsModel" 98 "CardNobodyReadsModel" "lines" "I") := ⟨tbm_5 _ (List.mem_of_getElem? (i := 98) rfl), rfl⟩
theorem tb_1128 : q_in (.fieldLink "CardNobodyReadsModel" 7 "CardNobodyReadsModel" "signsOf" "[I") := ⟨tbm_5 _ (List.mem_of_getElem? (i := 99) rfl), rfl⟩
theorem tb_1129 : q_in (.fieldLink "CardNobodyReadsModel" 13 "CardNobodyReadsModel" "priceOf" "[I") := ⟨tbm_5 _ (List.mem_of_getElem? (i := 100) rfl), rfl⟩
theorem tb_1130 : q_in (.fieldLink "CardNobodyReadsModel" 105 "CardNobodyReadsModel" "guests" "I") := ⟨tbm_5 _ (List.mem_of_getElem? (i := 101) rfl), rfl⟩
theorem tb_1131 : q_in (.fieldLink "CardNobodyReadsModel" 16 "CardNobodyReadsModel" "shuns" "[I") := ⟨tbm_5 _ (List.mem_of_getElem? (i := 102) rfl), rfl⟩
theorem tb_1132 : q_in (.fieldLink "CardNobodyReadsModel" 19 "CardNobodyReadsModel" "coin" "I") := ⟨tbm_5 _ (List.mem_of_getElem? (i := 103) rfl), rfl⟩
theorem tb_1133 : q_in (.fieldLink "CardNobodyReadsModel" 119 "CardNobodyReadsModel" "facts" "I") := ⟨tbm_5 _ (List.mem_of_getElem? (i := 104) rfl), rfl⟩
theorem tb_1134 : q_in (.fieldLink "CardNobodyReadsModel" 23 "CardNobodyReadsModel" "factOf" "[I") := ⟨tbm_5 _ (List.mem_of_getElem? (i := 105) rfl), rfl⟩
theorem tb_1135 : q_in (.fieldLink "CardNobodyReadsModel" 26 "CardNobodyReadsModel" "tongues" "[I") := ⟨tbm_5 _ (List.mem_of_getElem? (i := 106) rfl), rfl⟩
theorem tb_1136 : q_in (.fieldLink "CardNobodyReadsModel" 29 "CardNobodyReadsModel" "tape" "[I") := ⟨tbm_5 _ (List.mem_of_getElem? (i := 107) rfl), rfl⟩
theorem tb_1137 : q_in (.fieldLink "CardNobodyReadsModel" 86 "CardNobodyReadsModel" "taped" "I") := ⟨tbm_5 _ (List.mem_of_getElem? (i := 108) rfl), rfl⟩
theorem tb_1138 : q_in (.fieldLink "CardNobodyReadsModel" 32 "CardNobodyReadsModel" "codes" "[I") := ⟨tbm_5 _ (List.mem_of_getElem? (i := 109) rfl), rfl⟩
theorem tb_1139 : q_in (.fieldLink "CardNobodyReadsModel" 35 "CardNobodyReadsModel" "starts" "[I") := ⟨tbm_5 _ (List.mem_of_getElem? (i := 110) rfl), rfl⟩
theorem tb_1140 : q_in (.fieldLink "CardNobodyReadsModel" 122 "CardNobodyReadsModel" "texts" "I") := ⟨tbm_5 _ (List.mem_of_getElem? (i := 111) rfl), rfl⟩
theorem tb_1141 : q_in (.fieldLink "CardNobodyReadsModel" 125 "CardNobodyReadsModel" "rule" "I") := ⟨tbm_5 _ (List.mem_of_getElem? (i := 112) rfl), rfl⟩
theorem tb_1142 : q_in (.fieldLink "CardNobodyReadsModel" 208 "CardNobodyReadsModel" "hasImage" "Z") := ⟨tbm_5 _ (List.mem_of_getElem? (i := 113) rfl), rfl⟩
theorem tb_1143 : q_in (.fieldLink "CardNobodyReadsModel" 296 "CardNobodyReadsModel" "imageLines" "I") := ⟨tbm_5 _ (List.mem_of_getElem? (i := 114) rfl), rfl⟩
theorem tb_1144 : q_in (.fieldLink "CardNobodyReadsModel" 299 "CardNobodyReadsModel" "imageGuests" "I") := ⟨tbm_5 _ (List.mem_of_getElem? (i := 115) rfl), rfl⟩
theorem tb_1145 : q_in (.fieldLink "CardNobodyReadsModel" 212 "CardNobodyReadsModel" "imageFacts" "I") := ⟨tbm_5 _ (List.mem_of_getElem? (i := 116) rfl), rfl⟩
theorem tb_1146 : q_in (.fieldLink "CardNobodyReadsModel" 302 "CardNobodyReadsModel" "imageCoin" "I") := ⟨tbm_5 _ (List.mem_of_getElem? (i := 117) rfl), rfl⟩
theorem tb_1147 : q_in (.fieldLink "CardNobodyReadsModel" 305 "CardNobodyReadsModel" "imageRule" "I") := ⟨tbm_5 _ (List.mem_of_getElem? (i := 118) rfl), rfl⟩
theorem tb_1148 : q_in (.fieldLink "CardNobodyReadsModel" 38 "CardNobodyReadsModel" "imagePrices" "[I") := ⟨tbm_5 _ (List.mem_of_getElem? (i := 119) rfl), rfl⟩
theorem tb_1149 : q_in (.fieldLink "CardNobodyReadsModel" 41 "CardNobodyReadsModel" "sheetSort" "[I") := ⟨tbm_5 _ (List.mem_of_getElem? (i := 120) rfl), rfl⟩
theorem tb_1150 : q_in (.fieldLink "CardNobodyReadsModel" 44 "CardNobodyReadsModel" "sheetSize" "[I") := ⟨tbm_5 _ (List.mem_of_getElem? (i := 121) rfl), rfl⟩
theorem tb_1151 : q_in (.fieldLink "CardNobodyReadsModel" 47 "CardNobodyReadsModel" "cells" "[I") := ⟨tbm_5 _ (List.mem_of_getElem? (i := 122) rfl), rfl⟩
theorem tb_1153 : q_in (.fieldLink "CardNobodyReadsModel" 131 "CardNobodyReadsModel" "at" "I") := ⟨tbm_5 _ (List.mem_of_getElem? (i := 124) rfl), rfl⟩
theorem tb_1154 : q_in (.fieldLink "CardNobodyReadsModel" 134 "CardNobodyReadsModel" "begun" "I") := ⟨tbm_5 _ (List.mem_of_getElem? (i := 125) rfl), rfl⟩
theorem tb_1155 : q_in (.fieldLink "CardNobodyReadsModel" 137 "CardNobodyReadsModel" "token" "I") := ⟨tbm_5 _ (List.mem_of_getElem? (i := 126) rfl), rfl⟩
theorem tb_1156 : q_in (.fieldLink "CardNobodyReadsModel" 140 "CardNobodyReadsModel" "value" "I") := ⟨tbm_5 _ (List.mem_of_getElem? (i := 127) rfl), rfl⟩
theorem tb_1157 : q_in (.fieldLink "CardNobodyReadsModel" 53 "CardNobodyReadsModel" "words" "[I") := ⟨tbm_5 _ (List.mem_of_getElem? (i := 128) rfl), rfl⟩
theorem tb_1158 : q_in (.fieldLink "CardNobodyReadsModel" 56 "CardNobodyReadsModel" "held" "[I") := ⟨tbm_5 _ (List.mem_of_getElem? (i := 129) rfl), rfl⟩
theorem tb_1159 : q_in (.fieldLink "CardNobodyReadsModel" 150 "CardNobodyReadsModel" "heldMany" "I") := ⟨tbm_5 _ (List.mem_of_getElem? (i := 130) rfl), rfl⟩
theorem tb_1160 : q_in (.fieldLink "CardNobodyReadsModel" 156 "CardNobodyReadsModel" "opens" "I") := ⟨tbm_5 _ (List.mem_of_getElem? (i := 131) rfl), rfl⟩
theorem tb_1161 : q_in (.fieldLink "CardNobodyReadsModel" 147 "CardNobodyReadsModel" "out" "I") := ⟨tbm_5 _ (List.mem_of_getElem? (i := 132) rfl), rfl⟩
theorem tb_1162 : q_in (.fieldLink "CardNobodyReadsModel" 59 "CardNobodyReadsModel" "stack" "[I") := ⟨tbm_5 _ (List.mem_of_getElem? (i := 133) rfl), rfl⟩
theorem tb_1163 : q_in (.fieldLink "CardNobodyReadsModel" 62 "CardNobodyReadsModel" "named" "[I") := ⟨tbm_5 _ (List.mem_of_getElem? (i := 134) rfl), rfl⟩
theorem tb_1164 : q_in (.fieldLink "CardNobodyReadsModel" 65 "CardNobodyReadsModel" "fails" "[I") := ⟨tbm_5 _ (List.mem_of_getElem? (i := 135) rfl), rfl⟩
theorem tb_1165 : q_in (.fieldLink "CardNobodyReadsModel" 68 "CardNobodyReadsModel" "mays" "[I") := ⟨tbm_5 _ (List.mem_of_getElem? (i := 136) rfl), rfl⟩
theorem tb_1166 : q_in (.fieldLink "CardNobodyReadsModel" 71 "CardNobodyReadsModel" "fits" "[I") := ⟨tbm_5 _ (List.mem_of_getElem? (i := 137) rfl), rfl⟩
theorem tb_1167 : q_in (.fieldLink "CardNobodyReadsModel" 220 "CardNobodyReadsModel" "fitMany" "I") := ⟨tbm_5 _ (List.mem_of_getElem? (i := 138) rfl), rfl⟩
theorem tb_1168 : q_in (.fieldLink "CardNobodyReadsModel" 74 "CardNobodyReadsModel" "likings" "[I") := ⟨tbm_5 _ (List.mem_of_getElem? (i := 139) rfl), rfl⟩
theorem tb_1169 : q_in (.fieldLink "CardNobodyReadsModel" 77 "CardNobodyReadsModel" "ordering" "[I") := ⟨tbm_5 _ (List.mem_of_getElem? (i := 140) rfl), rfl⟩
theorem tb_1170 : q_in (.fieldLink "CardNobodyReadsModel" 80 "CardNobodyReadsModel" "best" "[I") := ⟨tbm_5 _ (List.mem_of_getElem? (i := 141) rfl), rfl⟩
theorem tb_1171 : q_in (.fieldLink "CardNobodyReadsModel" 262 "CardNobodyReadsModel" "bestLiking" "I") := ⟨tbm_5 _ (List.mem_of_getElem? (i := 142) rfl), rfl⟩
theorem tb_1172 : q_in (.fieldLink "CardNobodyReadsModel" 265 "CardNobodyReadsModel" "bestPrice" "I") := ⟨tbm_5 _ (List.mem_of_getElem? (i := 143) rfl), rfl⟩
theorem tb_1173 : q_in (.fieldLink "CardNobodyReadsModel" 83 "CardNobodyReadsModel" "manyHave" "[I") := ⟨tbm_5 _ (List.mem_of_getElem? (i := 144) rfl), rfl⟩
theorem tb_1174 : q_in (.lays "CardNobodyReadsModel" "CardNobodyReadsModel" "lines" "I") := ⟨tbm_5 _ (List.mem_of_getElem? (i := 145) rfl), rfl⟩
theorem tb_1176 : q_in (.laysFinal "CardNobodyReadsModel" "CardNobodyReadsModel" "signsOf" "[I") := ⟨tbm_5 _ (List.mem_of_getElem? (i := 147) rfl), rfl⟩
theorem tb_1178 : q_in (.laysFinal "CardNobodyReadsModel" "CardNobodyReadsModel" "priceOf" "[I") := ⟨tbm_5 _ (List.mem_of_getElem? (i := 149) rfl), rfl⟩
theorem tb_1180 : q_in (.lays "CardNobodyReadsModel" "CardNobodyReadsModel" "guests" "I") := ⟨tbm_5 _ (List.mem_of_getElem? (i := 151) rfl), rfl⟩
theorem tb_1182 : q_in (.laysFinal "CardNobodyReadsModel" "CardNobodyReadsModel" "shuns" "[I") := ⟨tbm_5 _ (List.mem_of_getElem? (i := 153) rfl), rfl⟩
theorem tb_1184 : q_in (.lays "CardNobodyReadsModel" "CardNobodyReadsModel" "coin" "I") := ⟨tbm_5 _ (List.mem_of_getElem? (i := 155) rfl), rfl⟩
theorem tb_1186 : q_in (.lays "CardNobodyReadsModel" "CardNobodyReadsModel" "facts" "I") := ⟨tbm_5 _ (List.mem_of_getElem? (i := 157) rfl), rfl⟩
theorem tb_1188 : q_in (.laysFinal "CardNobodyReadsModel" "CardNobodyReadsModel" "factOf" "[I") := ⟨tbm_5 _ (List.mem_of_getElem? (i := 159) rfl), rfl⟩
theorem tb_1190 : q_in (.laysFinal "CardNobodyReadsModel" "CardNobodyReadsModel" "tongues" "[I") := ⟨tbm_5 _ (List.mem_of_getElem? (i := 161) rfl), rfl⟩
theorem tb_1192 : q_in (.laysFinal "CardNobodyReadsModel" "CardNobodyReadsModel" "tape" "[I") := ⟨tbm_5 _ (List.mem_of_getElem? (i := 163) rfl), rfl⟩
theorem tb_1194 : q_in (.lays "CardNobodyReadsModel" "CardNobodyReadsModel" "taped" "I") := ⟨tbm_5 _ (List.mem_of_getElem? (i := 165) rfl), rfl⟩
theorem tb_1196 : q_in (.laysFinal "CardNobodyReadsModel" "CardNobodyReadsModel" "codes" "[I") := ⟨tbm_5 _ (List.mem_of_getElem? (i := 167) rfl), rfl⟩
theorem tb_1198 : q_in (.laysFinal "CardNobodyReadsModel" "CardNobodyReadsModel" "starts" "[I") := ⟨tbm_5 _ (List.mem_of_getElem? (i := 169) rfl), rfl⟩
theorem tb_1200 : q_in (.lays "CardNobodyReadsModel" "CardNobodyReadsModel" "texts" "I") := ⟨tbm_5 _ (List.mem_of_getElem? (i := 171) rfl), rfl⟩
theorem tb_1202 : q_in (.lays "CardNobodyReadsModel" "CardNobodyReadsModel" "rule" "I") := ⟨tbm_5 _ (List.mem_of_getElem? (i := 173) rfl), rfl⟩
theorem tb_1204 : q_in (.lays "CardNobodyReadsModel" "CardNobodyReadsModel" "hasImage" "Z") := ⟨tbm_5 _ (List.mem_of_getElem? (i := 175) rfl), rfl⟩
theorem tb_1206 : q_in (.lays "CardNobodyReadsModel" "CardNobodyReadsModel" "imageLines" "I") := ⟨tbm_5 _ (List.mem_of_getElem? (i := 177) rfl), rfl⟩
theorem tb_1208 : q_in (.lays "CardNobodyReadsModel" "CardNobodyReadsModel" "imageGuests" "I") := ⟨tbm_5 _ (List.mem_of_getElem? (i := 179) rfl), rfl⟩
theorem tb_1210 : q_in (.lays "CardNobodyReadsModel" "CardNobodyReadsModel" "imageFacts" "I") := ⟨tbm_5 _ (List.mem_of_getElem? (i := 181) rfl), rfl⟩
theorem tb_1212 : q_in (.lays "CardNobodyReadsModel" "CardNobodyReadsModel" "imageCoin" "I") := ⟨tbm_5 _ (List.mem_of_getElem? (i := 183) rfl), rfl⟩
theorem tb_1214 : q_in (.lays "CardNobodyReadsModel" "CardNobodyReadsModel" "imageRule" "I") := ⟨tbm_5 _ (List.mem_of_getElem? (i := 185) rfl), rfl⟩
theorem tb_1216 : q_in (.laysFinal "CardNobodyReadsModel" "CardNobodyReadsModel" "imagePrices" "[I") := ⟨tbm_5 _ (List.mem_of_getElem? (i := 187) rfl), rfl⟩
theorem tb_1218 : q_in (.laysFinal "CardNobodyReadsModel" "CardNobodyReadsModel" "sheetSort" "[I") := ⟨tbm_5 _ (List.mem_of_getElem? (i := 189) rfl), rfl⟩
theorem tb_1220 : q_in (.laysFinal "CardNobodyReadsModel" "CardNobodyReadsModel" "sheetSize" "[I") := ⟨tbm_5 _ (List.mem_of_getElem? (i := 191) rfl), rfl⟩
theorem tb_1222 : q_in (.laysFinal "CardNobodyReadsModel" "CardNobodyReadsModel" "cells" "[I") := ⟨tbm_5 _ (List.mem_of_getElem? (i := 193) rfl), rfl⟩
theorem tb_1224 : q_in (.laysFinal "CardNobodyReadsModel" "CardNobodyReadsModel" "law" "[I") := ⟨tbm_5 _ (List.mem_of_getElem? (i := 195) rfl), rfl⟩
theorem tb_1226 : q_in (.lays "CardNobodyReadsModel" "CardNobodyReadsModel" "at" "I") := ⟨tbm_5 _ (List.mem_of_getElem? (i := 197) rfl), rfl⟩
theorem tb_1228 : q_in (.lays "CardNobodyReadsModel" "CardNobodyReadsModel" "begun" "I") := ⟨tbm_5 _ (List.mem_of_getElem? (i := 199) rfl), rfl⟩
theorem tb_1230 : q_in (.lays "CardNobodyReadsModel" "CardNobodyReadsModel" "token" "I") := ⟨tbm_5 _ (List.mem_of_getElem? (i := 201) rfl), rfl⟩
theorem tb_1232 : q_in (.lays "CardNobodyReadsModel" "CardNobodyReadsModel" "value" "I") := ⟨tbm_5 _ (List.mem_of_getElem? (i := 203) rfl), rfl⟩
theorem tb_1234 : q_in (.laysFinal "CardNobodyReadsModel" "CardNobodyReadsModel" "words" "[I") := ⟨tbm_5 _ (List.mem_of_getElem? (i := 205) rfl), rfl⟩
theorem tb_1236 : q_in (.laysFinal "CardNobodyReadsModel" "CardNobodyReadsModel" "held" "[I") := ⟨tbm_5 _ (List.mem_of_getElem? (i := 207) rfl), rfl⟩
theorem tb_1238 : q_in (.lays "CardNobodyReadsModel" "CardNobodyReadsModel" "heldMany" "I") := ⟨tbm_5 _ (List.mem_of_getElem? (i := 209) rfl), rfl⟩
theorem tb_1240 : q_in (.lays "CardNobodyReadsModel" "CardNobodyReadsModel" "opens" "I") := ⟨tbm_5 _ (List.mem_of_getElem? (i := 211) rfl), rfl⟩
theorem tb_1242 : q_in (.lays "CardNobodyReadsModel" "CardNobodyReadsModel" "out" "I") := ⟨tbm_5 _ (List.mem_of_getElem? (i := 213) rfl), rfl⟩
theorem tb_1244 : q_in (.laysFinal "CardNobodyReadsModel" "CardNobodyReadsModel" "stack" "[I") := ⟨tbm_5 _ (List.mem_of_getElem? (i := 215) rfl), rfl⟩
theorem tb_1246 : q_in (.laysFinal "CardNobodyReadsModel" "CardNobodyReadsModel" "named" "[I") := ⟨tbm_5 _ (List.mem_of_getElem? (i := 217) rfl), rfl⟩
theorem tb_1248 : q_in (.laysFinal "CardNobodyReadsModel" "CardNobodyReadsModel" "fails" "[I") := ⟨tbm_5 _ (List.mem_of_getElem? (i := 219) rfl), rfl⟩
theorem tb_1250 : q_in (.laysFinal "CardNobodyReadsModel" "CardNobodyReadsModel" "mays" "[I") := ⟨tbm_5 _ (List.mem_of_getElem? (i := 221) rfl), rfl⟩
theorem tb_1252 : q_in (.laysFinal "CardNobodyReadsModel" "CardNobodyReadsModel" "fits" "[I") := ⟨tbm_5 _ (List.mem_of_getElem? (i := 223) rfl), rfl⟩
theorem tb_1254 : q_in (.lays "CardNobodyReadsModel" "CardNobodyReadsModel" "fitMany" "I") := ⟨tbm_5 _ (List.mem_of_getElem? (i := 225) rfl), rfl⟩
theorem tb_1256 : q_in (.laysFinal "CardNobodyReadsModel" "CardNobodyReadsModel" "likings" "[I") := ⟨tbm_5 _ (List.mem_of_getElem? (i := 227) rfl), rfl⟩
theorem tb_1258 : q_in (.laysFinal "CardNobodyReadsModel" "CardNobodyReadsModel" "ordering" "[I") := ⟨tbm_5 _ (List.mem_of_getElem? (i := 229) rfl), rfl⟩
theorem tb_1260 : q_in (.laysFinal "CardNobodyReadsModel" "CardNobodyReadsModel" "best" "[I") := ⟨tbm_5 _ (List.mem_of_getElem? (i := 231) rfl), rfl⟩
theorem tb_1262 : q_in (.lays "CardNobodyReadsModel" "CardNobodyReadsModel" "bestLiking" "I") := ⟨tbm_5 _ (List.mem_of_getElem? (i := 233) rfl), rfl⟩
theorem tb_1264 : q_in (.lays "CardNobodyReadsModel" "CardNobodyReadsModel" "bestPrice" "I") := ⟨tbm_5 _ (List.mem_of_getElem? (i := 235) rfl), rfl⟩
theorem tb_1266 : q_in (.laysFinal "CardNobodyReadsModel" "CardNobodyReadsModel" "manyHave" "[I") := ⟨tbm_5 _ (List.mem_of_getElem? (i := 237) rfl), rfl⟩
theorem tb_1270 : q_in (.instanceMethod yX10_line) := ⟨tbm_6 _ (List.mem_of_getElem? (i := 1) rfl), rfl⟩
theorem tb_1271 : q_in (.selects "CardNobodyReadsModel" yX10_line yX10_line) := ⟨tbm_6 _ (List.mem_of_getElem? (i := 2) rfl), rfl⟩
theorem tb_1272 : q_in (.code yX10_line cX10_line 3 (some .int)) := ⟨tbm_6 _ (List.mem_of_getElem? (i := 3) rfl), rfl⟩
theorem tb_1273 : q_in (.methodLink "CardNobodyReadsModel" 108 yX10_ones) := ⟨tbm_6 _ (List.mem_of_getElem? (i := 4) rfl), rfl⟩
theorem tb_1274 : q_in (.static yX10_ones) := ⟨tbm_6 _ (List.mem_of_getElem? (i := 5) rfl), rfl⟩
theorem tb_1275 : q_in (.code yX10_ones cX10_ones 3 (some .int)) := ⟨tbm_6 _ (List.mem_of_getElem? (i := 6) rfl), rfl⟩
theorem tb_1280 : q_in (.methodLink "CardNobodyReadsModel" 112 yX10_isLine) := ⟨tbm_6 _ (List.mem_of_getElem? (i := 11) rfl), rfl⟩
theorem tb_1282 : q_in (.instanceMethod yX10_isLine) := ⟨tbm_6 _ (List.mem_of_getElem? (i := 13) rfl), rfl⟩
theorem tb_1283 : q_in (.code yX10_isLine cX10_isLine 2 (some .boolean)) := ⟨tbm_6 _ (List.mem_of_getElem? (i := 14) rfl), rfl⟩
theorem tb_1296 : q_in (.methodLink "CardNobodyReadsModel" 116 yX10_isGuest) := ⟨tbm_6 _ (List.mem_of_getElem? (i := 27) rfl), rfl⟩
theorem tb_1298 : q_in (.instanceMethod yX10_isGuest) := ⟨tbm_6 _ (List.mem_of_getElem? (i := 29) rfl), rfl⟩
theorem tb_1299 : q_in (.code yX10_isGuest cX10_isGuest 2 (some .boolean)) := ⟨tbm_6 _ (List.mem_of_getElem? (i := 30) rfl), rfl⟩
theorem tb_1312 : q_in (.methodLink "CardNobodyReadsModel" 128 yX10_isByte) := ⟨tbm_6 _ (List.mem_of_getElem? (i := 43) rfl), rfl⟩
theorem tb_1313 : q_in (.static yX10_isByte) := ⟨tbm_6 _ (List.mem_of_getElem? (i := 44) rfl), rfl⟩
theorem tb_1314 : q_in (.code yX10_isByte cX10_isByte 1 (some .boolean)) := ⟨tbm_6 _ (List.mem_of_getElem? (i := 45) rfl), rfl⟩
theorem tb_1324 : q_in (.methodLink "CardNobodyReadsModel" 196 yX10_asksOf) := ⟨tbm_6 _ (List.mem_of_getElem? (i := 55) rfl), rfl⟩
theorem tb_1326 : q_in (.instanceMethod yX10_asksOf) := ⟨tbm_6 _ (List.mem_of_getElem? (i := 57) rfl), rfl⟩
theorem tb_1327 : q_in (.code yX10_asksOf cX10_asksOf 7 (some .int)) := ⟨tbm_6 _ (List.mem_of_getElem? (i := 58) rfl), rfl⟩
theorem tb_1328 : q_in (.methodLink "CardNobodyReadsModel" 190 yX10_worth) := ⟨tbm_6 _ (List.mem_of_getElem? (i := 59) rfl), rfl⟩
theorem tb_1330 : q_in (.instanceMethod yX10_worth) := ⟨tbm_6 _ (List.mem_of_getElem? (i := 61) rfl), rfl⟩
theorem tb_1331 : q_in (.code yX10_worth cX10_worth 5 (some .int)) := ⟨tbm_6 _ (List.mem_of_getElem? (i := 62) rfl), rfl⟩
theorem tb_1332 : q_in (.methodLink "CardNobodyReadsModel" 186 yX10_bothOf) := ⟨tbm_6 _ (List.mem_of_getElem? (i := 63) rfl), rfl⟩
theorem tb_1333 : q_in (.static yX10_bothOf) := ⟨tbm_6 _ (List.mem_of_getElem? (i := 64) rfl), rfl⟩
theorem tb_1334 : q_in (.code yX10_bothOf cX10_bothOf 3 (some .int)) := ⟨tbm_6 _ (List.mem_of_getElem? (i := 65) rfl), rfl⟩
theorem tb_1335 : q_in (.methodLink "CardNobodyReadsModel" 193 yX10_within) := ⟨tbm_6 _ (List.mem_of_getElem? (i := 66) rfl), rfl⟩
theorem tb_1336 : q_in (.static yX10_within) := ⟨tbm_6 _ (List.mem_of_getElem? (i := 67) rfl), rfl⟩
theorem tb_1337 : q_in (.code yX10_within cX10_within 3 (some .int)) := ⟨tbm_6 _ (List.mem_of_getElem? (i := 68) rfl), rfl⟩
theorem tb_1342 : q_in (.methodLink "CardNobodyReadsModel" 200 yX10_isFact) := ⟨tbm_6 _ (List.mem_of_getElem? (i := 73) rfl), rfl⟩
theorem tb_1344 : q_in (.instanceMethod yX10_isFact) := ⟨tbm_6 _ (List.mem_of_getElem? (i := 75) rfl), rfl⟩
theorem tb_1345 : q_in (.code yX10_isFact cX10_isFact 5 (some .boolean)) := ⟨tbm_6 _ (List.mem_of_getElem? (i := 76) rfl), rfl⟩
theorem tb_1346 : q_in (.methodLink "CardNobodyReadsModel" 204 yX10_lays) := ⟨tbm_6 _ (List.mem_of_getElem? (i := 77) rfl), rfl⟩
theorem tb_1348 : q_in (.instanceMethod yX10_lays) := ⟨tbm_6 _ (List.mem_of_getElem? (i := 79) rfl), rfl⟩
theorem tb_1349 : q_in (.code yX10_lays cX10_lays 5 none) := ⟨tbm_6 _ (List.mem_of_getElem? (i := 80) rfl), rfl⟩
theorem tb_1362 : q_in (.methodLink "CardNobodyReadsModel" 228 yX10_finds) := ⟨tbm_6 _ (List.mem_of_getElem? (i := 93) rfl), rfl⟩
theorem tb_1364 : q_in (.instanceMethod yX10_finds) := ⟨tbm_6 _ (List.mem_of_getElem? (i := 95) rfl), rfl⟩
theorem tb_1365 : q_in (.code yX10_finds cX10_finds 3 none) := ⟨tbm_6 _ (List.mem_of_getElem? (i := 96) rfl), rfl⟩
theorem tb_1366 : q_in (.methodLink "CardNobodyReadsModel" 218 yX10_mays) := ⟨tbm_6 _ (List.mem_of_getElem? (i := 97) rfl), rfl⟩
theorem tb_1368 : q_in (.instanceMethod yX10_mays) := ⟨tbm_6 _ (List.mem_of_getElem? (i := 99) rfl), rfl⟩
theorem tb_1369 : q_in (.code yX10_mays cX10_mays 2 none) := ⟨tbm_6 _ (List.mem_of_getElem? (i := 100) rfl), rfl⟩
theorem tb_1370 : q_in (.methodLink "CardNobodyReadsModel" 223 yX10_mayBe) := ⟨tbm_6 _ (List.mem_of_getElem? (i := 101) rfl), rfl⟩
theorem tb_1372 : q_in (.instanceMethod yX10_mayBe) := ⟨tbm_6 _ (List.mem_of_getElem? (i := 103) rfl), rfl⟩
theorem tb_1373 : q_in (.code yX10_mayBe cX10_mayBe 3 (some .boolean)) := ⟨tbm_6 _ (List.mem_of_getElem? (i := 104) rfl), rfl⟩
theorem tb_1374 : q_in (.methodLink "CardNobodyReadsModel" 215 yX10_hasIn) := ⟨tbm_6 _ (List.mem_of_getElem? (i := 105) rfl), rfl⟩
theorem tb_1376 : q_in (.instanceMethod yX10_hasIn) := ⟨tbm_6 _ (List.mem_of_getElem? (i := 107) rfl), rfl⟩
theorem tb_1377 : q_in (.code yX10_hasIn cX10_hasIn 5 (some .int)) := ⟨tbm_6 _ (List.mem_of_getElem? (i := 108) rfl), rfl⟩
theorem tb_1378 : q_in (.methodLink "CardNobodyReadsModel" 226 yX10_holds_) := ⟨tbm_6 _ (List.mem_of_getElem? (i := 109) rfl), rfl⟩
theorem tb_1380 : q_in (.instanceMethod yX10_holds_) := ⟨tbm_6 _ (List.mem_of_getElem? (i := 111) rfl), rfl⟩
theorem tb_1381 : q_in (.code yX10_holds_ cX10_holds_ 6 (some .boolean)) := ⟨tbm_6 _ (List.mem_of_getElem? (i := 112) rfl), rfl⟩
theorem tb_1386 : q_in (.methodLink "CardNobodyReadsModel" 231 yX10_isSign) := ⟨tbm_6 _ (List.mem_of_getElem? (i := 117) rfl), rfl⟩
theorem tb_1387 : q_in (.static yX10_isSign) := ⟨tbm_6 _ (List.mem_of_getElem? (i := 118) rfl), rfl⟩
theorem tb_1388 : q_in (.code yX10_isSign cX10_isSign 1 (some .boolean)) := ⟨tbm_6 _ (List.mem_of_getElem? (i := 119) rfl), rfl⟩
theorem tb_1389 : q_in (.methodLink "CardNobodyReadsModel" 234 yX10_partIn) := ⟨tbm_6 _ (List.mem_of_getElem? (i := 120) rfl), rfl⟩
theorem tb_1391 : q_in (.instanceMethod yX10_partIn) := ⟨tbm_6 _ (List.mem_of_getElem? (i := 122) rfl), rfl⟩
theorem tb_1392 : q_in (.code yX10_partIn cX10_partIn 3 (some .int)) := ⟨tbm_6 _ (List.mem_of_getElem? (i := 123) rfl), rfl⟩
theorem tb_1397 : q_in (.methodLink "CardNobodyReadsModel" 237 yX10_meansIn) := ⟨tbm_6 _ (List.mem_of_getElem? (i := 128) rfl), rfl⟩
theorem tb_1399 : q_in (.instanceMethod yX10_meansIn) := ⟨tbm_6 _ (List.mem_of_getElem? (i := 130) rfl), rfl⟩
theorem tb_1400 : q_in (.code yX10_meansIn cX10_meansIn 5 (some .int)) := ⟨tbm_6 _ (List.mem_of_getElem? (i := 131) rfl), rfl⟩
theorem tb_1405 : q_in (.methodLink "CardNobodyReadsModel" 240 yX10_unlikeOf) := ⟨tbm_6 _ (List.mem_of_getElem? (i := 136) rfl), rfl⟩
theorem tb_1407 : q_in (.instanceMethod yX10_unlikeOf) := ⟨tbm_6 _ (List.mem_of_getElem? (i := 138) rfl), rfl⟩
theorem tb_1408 : q_in (.code yX10_unlikeOf cX10_unlikeOf 4 (some .int)) := ⟨tbm_6 _ (List.mem_of_getElem? (i := 139) rfl), rfl⟩
theorem tb_1417 : q_in (.constantLong "CardNobodyReadsModel" 243 (Int64.ofInt (-4611686018427387904))) := ⟨tbm_6 _ (List.mem_of_getElem? (i := 148) rfl), rfl⟩
theorem tb_1418 : q_in (.methodLink "CardNobodyReadsModel" 249 yX10_ofAll) := ⟨tbm_6 _ (List.mem_of_getElem? (i := 149) rfl), rfl⟩
theorem tb_1420 : q_in (.instanceMethod yX10_ofAll) := ⟨tbm_6 _ (List.mem_of_getElem? (i := 151) rfl), rfl⟩
theorem tb_1421 : q_in (.code yX10_ofAll cX10_ofAll 3 (some .long)) := ⟨tbm_6 _ (List.mem_of_getElem? (i := 152) rfl), rfl⟩
theorem tb_1422 : q_in (.methodLink "CardNobodyReadsModel" 245 yX10_lowest) := ⟨tbm_6 _ (List.mem_of_getElem? (i := 153) rfl), rfl⟩
theorem tb_1423 : q_in (.static yX10_lowest) := ⟨tbm_6 _ (List.mem_of_getElem? (i := 154) rfl), rfl⟩
theorem tb_1424 : q_in (.code yX10_lowest cX10_lowest 11 (some .long)) := ⟨tbm_6 _ (List.mem_of_getElem? (i := 155) rfl), rfl⟩
theorem tb_1437 : q_in (.methodLink "CardNobodyReadsModel" 256 yX10_safeFor) := ⟨tbm_6 _ (List.mem_of_getElem? (i := 168) rfl), rfl⟩
theorem tb_1439 : q_in (.instanceMethod yX10_safeFor) := ⟨tbm_6 _ (List.mem_of_getElem? (i := 170) rfl), rfl⟩
theorem tb_1440 : q_in (.code yX10_safeFor cX10_safeFor 4 (some .int)) := ⟨tbm_6 _ (List.mem_of_getElem? (i := 171) rfl), rfl⟩
theorem tb_1441 : q_in (.methodLink "CardNobodyReadsModel" 253 yX10_shunnedIn) := ⟨tbm_6 _ (List.mem_of_getElem? (i := 172) rfl), rfl⟩
theorem tb_1443 : q_in (.instanceMethod yX10_shunnedIn) := ⟨tbm_6 _ (List.mem_of_getElem? (i := 174) rfl), rfl⟩
theorem tb_1444 : q_in (.code yX10_shunnedIn cX10_shunnedIn 5 (some .int)) := ⟨tbm_6 _ (List.mem_of_getElem? (i := 175) rfl), rfl⟩
theorem tb_1453 : q_in (.methodLink "CardNobodyReadsModel" 275 yX10_tonight) := ⟨tbm_6 _ (List.mem_of_getElem? (i := 184) rfl), rfl⟩
theorem tb_1455 : q_in (.instanceMethod yX10_tonight) := ⟨tbm_6 _ (List.mem_of_getElem? (i := 186) rfl), rfl⟩
theorem tb_1456 : q_in (.code yX10_tonight cX10_tonight 1 none) := ⟨tbm_6 _ (List.mem_of_getElem? (i := 187) rfl), rfl⟩
theorem tb_1457 : q_in (.methodLink "CardNobodyReadsModel" 272 yX10_likes) := ⟨tbm_6 _ (List.mem_of_getElem? (i := 188) rfl), rfl⟩
theorem tb_1459 : q_in (.instanceMethod yX10_likes) := ⟨tbm_6 _ (List.mem_of_getElem? (i := 190) rfl), rfl⟩
theorem tb_1460 : q_in (.code yX10_likes cX10_likes 4 none) := ⟨tbm_6 _ (List.mem_of_getElem? (i := 191) rfl), rfl⟩
theorem tb_1461 : q_in (.methodLink "CardNobodyReadsModel" 259 yX10_liking) := ⟨tbm_6 _ (List.mem_of_getElem? (i := 192) rfl), rfl⟩
theorem tb_1463 : q_in (.instanceMethod yX10_liking) := ⟨tbm_6 _ (List.mem_of_getElem? (i := 194) rfl), rfl⟩
theorem tb_1464 : q_in (.code yX10_liking cX10_liking 5 (some .int)) := ⟨tbm_6 _ (List.mem_of_getElem? (i := 195) rfl), rfl⟩
theorem tb_1465 : q_in (.methodLink "CardNobodyReadsModel" 268 yX10_orders) := ⟨tbm_6 _ (List.mem_of_getElem? (i := 196) rfl), rfl⟩
theorem tb_1467 : q_in (.instanceMethod yX10_orders) := ⟨tbm_6 _ (List.mem_of_getElem? (i := 198) rfl), rfl⟩
theorem tb_1468 : q_in (.code yX10_orders cX10_orders 5 none) := ⟨tbm_6 _ (List.mem_of_getElem? (i := 199) rfl), rfl⟩
theorem tb_1481 : q_in (.methodLink "CardNobodyReadsModel" 282 yX10_teaching) := ⟨tbm_6 _ (List.mem_of_getElem? (i := 212) rfl), rfl⟩
theorem tb_1483 : q_in (.instanceMethod yX10_teaching) := ⟨tbm_6 _ (List.mem_of_getElem? (i := 214) rfl), rfl⟩
theorem tb_1484 : q_in (.code yX10_teaching cX10_teaching 5 (some .int)) := ⟨tbm_6 _ (List.mem_of_getElem? (i := 215) rfl), rfl⟩
theorem tb_1485 : q_in (.methodLink "CardNobodyReadsModel" 278 yX10_counts) := ⟨tbm_6 _ (List.mem_of_getElem? (i := 216) rfl), rfl⟩
theorem tb_1487 : q_in (.instanceMethod yX10_counts) := ⟨tbm_6 _ (List.mem_of_getElem? (i := 218) rfl), rfl⟩
theorem tb_1488 : q_in (.code yX10_counts cX10_counts 4 none) := ⟨tbm_6 _ (List.mem_of_getElem? (i := 219) rfl), rfl⟩
theorem tb_1505 : q_in (.methodLink "CardNobodyReadsModel" 285 yX10_fitWithout) := ⟨tbm_6 _ (List.mem_of_getElem? (i := 236) rfl), rfl⟩
theorem tb_1507 : q_in (.instanceMethod yX10_fitWithout) := ⟨tbm_6 _ (List.mem_of_getElem? (i := 238) rfl), rfl⟩
theorem tb_1508 : q_in (.code yX10_fitWithout cX10_fitWithout 4 (some .int)) := ⟨tbm_6 _ (List.mem_of_getElem? (i := 239) rfl), rfl⟩
theorem tb_1533 : q_in (.constant "CardNobodyReadsModel" 292 (Int32.ofInt 99999)) := ⟨tbm_7 _ (List.mem_of_getElem? (i := 24) rfl), rfl⟩
theorem tb_1534 : q_in (.methodLink "CardNobodyReadsModel" 293 yX10_drawnOf) := ⟨tbm_7 _ (List.mem_of_getElem? (i := 25) rfl), rfl⟩
theorem tb_1536 : q_in (.instanceMethod yX10_drawnOf) := ⟨tbm_7 _ (List.mem_of_getElem? (i := 27) rfl), rfl⟩
theorem tb_1537 : q_in (.code yX10_drawnOf cX10_drawnOf 4 (some .int)) := ⟨tbm_7 _ (List.mem_of_getElem? (i := 28) rfl), rfl⟩
theorem tb_1538 : q_in (.constantLong "CardNobodyReadsModel" 288 (Int64.ofInt 48271)) := ⟨tbm_7 _ (List.mem_of_getElem? (i := 29) rfl), rfl⟩
theorem tb_1539 : q_in (.constantLong "CardNobodyReadsModel" 290 (Int64.ofInt 2147483647)) := ⟨tbm_7 _ (List.mem_of_getElem? (i := 30) rfl), rfl⟩
theorem tb_1568 : q_in (.methodLink "CardNobodyReadsModel" 308 yX10_line) := ⟨tbm_7 _ (List.mem_of_getElem? (i := 59) rfl), rfl⟩
theorem tb_1573 : q_in (.methodLink "CardNobodyReadsModel" 311 yX10_isUnder) := ⟨tbm_7 _ (List.mem_of_getElem? (i := 64) rfl), rfl⟩
theorem tb_1574 : q_in (.static yX10_isUnder) := ⟨tbm_7 _ (List.mem_of_getElem? (i := 65) rfl), rfl⟩
theorem tb_1575 : q_in (.code yX10_isUnder cX10_isUnder 2 (some .boolean)) := ⟨tbm_7 _ (List.mem_of_getElem? (i := 66) rfl), rfl⟩
theorem tb_1576 : q_in (.fieldLink "java/lang/String" 9 "java/lang/String" "value" "[B") := ⟨tbm_7 _ (List.mem_of_getElem? (i := 67) rfl), rfl⟩
theorem tb_1577 : q_in (.fieldLink "java/lang/String" 15 "java/lang/String" "coder" "B") := ⟨tbm_7 _ (List.mem_of_getElem? (i := 68) rfl), rfl⟩
theorem cgX0 : q_cg 0 RX0 TX0 5 tyX0 := ⟨rfl, (show ∀ w ∈ [Cond.laysFinal "CardNobodyReads$Facts" "CardNobodyReads$Facts" "kinds" "[I", Cond.laysFinal "CardNobodyReads$Facts" "CardNobodyReads$Facts" "lines" "[I", Cond.laysFinal "CardNobodyReads$Facts" "CardNobodyReads$Facts" "parts" "[I", Cond.laysFinal "CardNobodyReads$Facts" "CardNobodyReads$Facts" "mores" "[I", Cond.lays "CardNobodyReads$Facts" "CardNobodyReads$Facts" "number" "I"], q_in w from List.forall_mem_cons.mpr ⟨tb_169, List.forall_mem_cons.mpr ⟨tb_171, List.forall_mem_cons.mpr ⟨tb_173, List.forall_mem_cons.mpr ⟨tb_175, List.forall_mem_cons.mpr ⟨tb_177, fun _ h => absurd h List.not_mem_nil⟩⟩⟩⟩⟩), tyX0_ok, nmX0⟩
theorem cgX1 : q_cg 1 RX1 TX1 7 tyX1 := ⟨rfl, (show ∀ w ∈ [Cond.laysFinal "CardNobodyReads$Fits" "CardNobodyReads$Fits" "fitting" "[I", Cond.laysFinal "CardNobodyReads$Fits" "CardNobodyReads$Fits" "meanings" "[I", Cond.laysFinal "CardNobodyReads$Fits" "CardNobodyReads$Fits" "havings" "[I", Cond.laysFinal "CardNobodyReads$Fits" "CardNobodyReads$Fits" "mays" "[I", Cond.laysFinal "CardNobodyReads$Fits" "CardNobodyReads$Fits" "pairs" "[I", Cond.lays "CardNobodyReads$Fits" "CardNobodyReads$Fits" "number" "I", Cond.lays "CardNobodyReads$Fits" "CardNobodyReads$Fits" "lone" "I"], q_in w from List.forall_mem_cons.mpr ⟨tb_468, List.forall_mem_cons.mpr ⟨tb_470, List.forall_mem_cons.mpr ⟨tb_472, List.forall_mem_cons.mpr ⟨tb_474, List.forall_mem_cons.mpr ⟨tb_476, List.forall_mem_cons.mpr ⟨tb_478, List.forall_mem_cons.mpr ⟨tb_480, fun _ h => absurd h List.not_mem_nil⟩⟩⟩⟩⟩⟩⟩), tyX1_ok, nmX1⟩
theorem cgX2 : q_cg 2 RX2 TX2 7 tyX2 := ⟨rfl, (show ∀ w ∈ [Cond.laysFinal "CardNobodyReads$Image" "CardNobodyReads$Image" "prices" "[I", Cond.lays "CardNobodyReads$Image" "CardNobodyReads$Image" "there" "Z", Cond.lays "CardNobodyReads$Image" "CardNobodyReads$Image" "lines" "I", Cond.lays "CardNobodyReads$Image" "CardNobodyReads$Image" "guests" "I", Cond.lays "CardNobodyReads$Image" "CardNobodyReads$Image" "facts" "I", Cond.lays "CardNobodyReads$Image" "CardNobodyReads$Image" "coin" "I", Cond.lays "CardNobodyReads$Image" "CardNobodyReads$Image" "law" "I"], q_in w from List.forall_mem_cons.mpr ⟨tb_522, List.forall_mem_cons.mpr ⟨tb_524, List.forall_mem_cons.mpr ⟨tb_526, List.forall_mem_cons.mpr ⟨tb_528, List.forall_mem_cons.mpr ⟨tb_530, List.forall_mem_cons.mpr ⟨tb_532, List.forall_mem_cons.mpr ⟨tb_534, fun _ h => absurd h List.not_mem_nil⟩⟩⟩⟩⟩⟩⟩), tyX2_ok, nmX2⟩
theorem cgX3 : q_cg 3 RX3 TX3 4 tyX3 := ⟨rfl, (show ∀ w ∈ [Cond.laysFinal "CardNobodyReads$Lines" "CardNobodyReads$Lines" "signs" "[I", Cond.laysFinal "CardNobodyReads$Lines" "CardNobodyReads$Lines" "prices" "[I", Cond.laysFinal "CardNobodyReads$Lines" "CardNobodyReads$Lines" "hads" "[I", Cond.lays "CardNobodyReads$Lines" "CardNobodyReads$Lines" "number" "I"], q_in w from List.forall_mem_cons.mpr ⟨tb_144, List.forall_mem_cons.mpr ⟨tb_146, List.forall_mem_cons.mpr ⟨tb_148, List.forall_mem_cons.mpr ⟨tb_150, fun _ h => absurd h List.not_mem_nil⟩⟩⟩⟩), tyX3_ok, nmX3⟩
theorem cgX4 : q_cg 4 RX4 TX4 3 tyX4 := ⟨rfl, (show ∀ w ∈ [Cond.laysFinal "CardNobodyReads$Sheets" "CardNobodyReads$Sheets" "sorts" "[I", Cond.laysFinal "CardNobodyReads$Sheets" "CardNobodyReads$Sheets" "sizes" "[I", Cond.laysFinal "CardNobodyReads$Sheets" "CardNobodyReads$Sheets" "cells" "[I"], q_in w from List.forall_mem_cons.mpr ⟨tb_546, List.forall_mem_cons.mpr ⟨tb_548, List.forall_mem_cons.mpr ⟨tb_550, fun _ h => absurd h List.not_mem_nil⟩⟩⟩), tyX4_ok, nmX4⟩
theorem cgX5 : q_cg 5 RX5 TX5 4 tyX5 := ⟨rfl, (show ∀ w ∈ [Cond.laysFinal "CardNobodyReads$Tape" "CardNobodyReads$Tape" "bytes" "[I", Cond.laysFinal "CardNobodyReads$Tape" "CardNobodyReads$Tape" "tokens" "[I", Cond.laysFinal "CardNobodyReads$Tape" "CardNobodyReads$Tape" "places" "[I", Cond.lays "CardNobodyReads$Tape" "CardNobodyReads$Tape" "size" "I"], q_in w from List.forall_mem_cons.mpr ⟨tb_199, List.forall_mem_cons.mpr ⟨tb_201, List.forall_mem_cons.mpr ⟨tb_203, List.forall_mem_cons.mpr ⟨tb_205, fun _ h => absurd h List.not_mem_nil⟩⟩⟩⟩), tyX5_ok, nmX5⟩
theorem cgX6 : q_cg 6 RX6 TX6 8 tyX6 := ⟨rfl, (show ∀ w ∈ [Cond.laysFinal "CardNobodyReads$Texts" "CardNobodyReads$Texts" "tape" "LCardNobodyReads$Tape;", Cond.laysFinal "CardNobodyReads$Texts" "CardNobodyReads$Texts" "steps" "[I", Cond.laysFinal "CardNobodyReads$Texts" "CardNobodyReads$Texts" "ends" "[I", Cond.laysFinal "CardNobodyReads$Texts" "CardNobodyReads$Texts" "stack" "[I", Cond.laysFinal "CardNobodyReads$Texts" "CardNobodyReads$Texts" "names" "[I", Cond.lays "CardNobodyReads$Texts" "CardNobodyReads$Texts" "number" "I", Cond.lays "CardNobodyReads$Texts" "CardNobodyReads$Texts" "length" "I", Cond.lays "CardNobodyReads$Texts" "CardNobodyReads$Texts" "next" "I"], q_in w from List.forall_mem_cons.mpr ⟨tb_435, List.forall_mem_cons.mpr ⟨tb_437, List.forall_mem_cons.mpr ⟨tb_439, List.forall_mem_cons.mpr ⟨tb_441, List.forall_mem_cons.mpr ⟨tb_443, List.forall_mem_cons.mpr ⟨tb_445, List.forall_mem_cons.mpr ⟨tb_447, List.forall_mem_cons.mpr ⟨tb_449, fun _ h => absurd h List.not_mem_nil⟩⟩⟩⟩⟩⟩⟩⟩), tyX6_ok, nmX6⟩
theorem cgX7 : q_cg 7 RX7 TX7 1 tyX7 := ⟨rfl, (show ∀ w ∈ [Cond.laysFinal "CardNobodyReads$Tongues" "CardNobodyReads$Tongues" "parts" "[I"], q_in w from List.forall_mem_cons.mpr ⟨tb_126, fun _ h => absurd h List.not_mem_nil⟩), tyX7_ok, nmX7⟩
theorem cgX8 : q_cg 8 RX8 TX8 5 tyX8 := ⟨rfl, (show ∀ w ∈ [Cond.laysFinal "CardNobodyReads$Tonight" "CardNobodyReads$Tonight" "likings" "[I", Cond.laysFinal "CardNobodyReads$Tonight" "CardNobodyReads$Tonight" "way" "[I", Cond.laysFinal "CardNobodyReads$Tonight" "CardNobodyReads$Tonight" "best" "[I", Cond.lays "CardNobodyReads$Tonight" "CardNobodyReads$Tonight" "liked" "I", Cond.lays "CardNobodyReads$Tonight" "CardNobodyReads$Tonight" "spent" "I"], q_in w from List.forall_mem_cons.mpr ⟨tb_497, List.forall_mem_cons.mpr ⟨tb_499, List.forall_mem_cons.mpr ⟨tb_501, List.forall_mem_cons.mpr ⟨tb_503, List.forall_mem_cons.mpr ⟨tb_505, fun _ h => absurd h List.not_mem_nil⟩⟩⟩⟩⟩), tyX8_ok, nmX8⟩
theorem cgX9 : q_cg 9 RX9 TX9 13 tyX9 := ⟨rfl, (show ∀ w ∈ [Cond.laysFinal "CardNobodyReads" "CardNobodyReads" "tongues" "LCardNobodyReads$Tongues;", Cond.laysFinal "CardNobodyReads" "CardNobodyReads" "card" "LCardNobodyReads$Lines;", Cond.laysFinal "CardNobodyReads" "CardNobodyReads" "known" "LCardNobodyReads$Facts;", Cond.laysFinal "CardNobodyReads" "CardNobodyReads" "book" "LCardNobodyReads$Texts;", Cond.laysFinal "CardNobodyReads" "CardNobodyReads" "fits" "LCardNobodyReads$Fits;", Cond.laysFinal "CardNobodyReads" "CardNobodyReads" "tonight" "LCardNobodyReads$Tonight;", Cond.laysFinal "CardNobodyReads" "CardNobodyReads" "kept" "LCardNobodyReads$Image;", Cond.laysFinal "CardNobodyReads" "CardNobodyReads" "host" "LCardNobodyReads$Sheets;", Cond.laysFinal "CardNobodyReads" "CardNobodyReads" "shuns" "[I", Cond.lays "CardNobodyReads" "CardNobodyReads" "guests" "I", Cond.lays "CardNobodyReads" "CardNobodyReads" "coin" "I", Cond.lays "CardNobodyReads" "CardNobodyReads" "law" "I", Cond.lays "CardNobodyReads" "CardNobodyReads" "stale" "Z"], q_in w from List.forall_mem_cons.mpr ⟨tb_566, List.forall_mem_cons.mpr ⟨tb_568, List.forall_mem_cons.mpr ⟨tb_570, List.forall_mem_cons.mpr ⟨tb_572, List.forall_mem_cons.mpr ⟨tb_574, List.forall_mem_cons.mpr ⟨tb_576, List.forall_mem_cons.mpr ⟨tb_578, List.forall_mem_cons.mpr ⟨tb_580, List.forall_mem_cons.mpr ⟨tb_582, List.forall_mem_cons.mpr ⟨tb_584, List.forall_mem_cons.mpr ⟨tb_586, List.forall_mem_cons.mpr ⟨tb_588, List.forall_mem_cons.mpr ⟨tb_590, fun _ h => absurd h List.not_mem_nil⟩⟩⟩⟩⟩⟩⟩⟩⟩⟩⟩⟩⟩), tyX9_ok, nmX9⟩
theorem cgX10 : q_cg 10 RX10 TX10 47 tyX10 := ⟨rfl, (show ∀ w ∈ [Cond.lays "CardNobodyReadsModel" "CardNobodyReadsModel" "lines" "I", Cond.laysFinal "CardNobodyReadsModel" "CardNobodyReadsModel" "signsOf" "[I", Cond.laysFinal "CardNobodyReadsModel" "CardNobodyReadsModel" "priceOf" "[I", Cond.lays "CardNobodyReadsModel" "CardNobodyReadsModel" "guests" "I", Cond.laysFinal "CardNobodyReadsModel" "CardNobodyReadsModel" "shuns" "[I", Cond.lays "CardNobodyReadsModel" "CardNobodyReadsModel" "coin" "I", Cond.lays "CardNobodyReadsModel" "CardNobodyReadsModel" "facts" "I", Cond.laysFinal "CardNobodyReadsModel" "CardNobodyReadsModel" "factOf" "[I", Cond.laysFinal "CardNobodyReadsModel" "CardNobodyReadsModel" "tongues" "[I", Cond.laysFinal "CardNobodyReadsModel" "CardNobodyReadsModel" "tape" "[I", Cond.lays "CardNobodyReadsModel" "CardNobodyReadsModel" "taped" "I", Cond.laysFinal "CardNobodyReadsModel" "CardNobodyReadsModel" "codes" "[I", Cond.laysFinal "CardNobodyReadsModel" "CardNobodyReadsModel" "starts" "[I", Cond.lays "CardNobodyReadsModel" "CardNobodyReadsModel" "texts" "I", Cond.lays "CardNobodyReadsModel" "CardNobodyReadsModel" "rule" "I", Cond.lays "CardNobodyReadsModel" "CardNobodyReadsModel" "hasImage" "Z", Cond.lays "CardNobodyReadsModel" "CardNobodyReadsModel" "imageLines" "I", Cond.lays "CardNobodyReadsModel" "CardNobodyReadsModel" "imageGuests" "I", Cond.lays "CardNobodyReadsModel" "CardNobodyReadsModel" "imageFacts" "I", Cond.lays "CardNobodyReadsModel" "CardNobodyReadsModel" "imageCoin" "I", Cond.lays "CardNobodyReadsModel" "CardNobodyReadsModel" "imageRule" "I", Cond.laysFinal "CardNobodyReadsModel" "CardNobodyReadsModel" "imagePrices" "[I", Cond.laysFinal "CardNobodyReadsModel" "CardNobodyReadsModel" "sheetSort" "[I", Cond.laysFinal "CardNobodyReadsModel" "CardNobodyReadsModel" "sheetSize" "[I", Cond.laysFinal "CardNobodyReadsModel" "CardNobodyReadsModel" "cells" "[I", Cond.laysFinal "CardNobodyReadsModel" "CardNobodyReadsModel" "law" "[I", Cond.lays "CardNobodyReadsModel" "CardNobodyReadsModel" "at" "I", Cond.lays "CardNobodyReadsModel" "CardNobodyReadsModel" "begun" "I", Cond.lays "CardNobodyReadsModel" "CardNobodyReadsModel" "token" "I", Cond.lays "CardNobodyReadsModel" "CardNobodyReadsModel" "value" "I", Cond.laysFinal "CardNobodyReadsModel" "CardNobodyReadsModel" "words" "[I", Cond.laysFinal "CardNobodyReadsModel" "CardNobodyReadsModel" "held" "[I", Cond.lays "CardNobodyReadsModel" "CardNobodyReadsModel" "heldMany" "I", Cond.lays "CardNobodyReadsModel" "CardNobodyReadsModel" "opens" "I", Cond.lays "CardNobodyReadsModel" "CardNobodyReadsModel" "out" "I", Cond.laysFinal "CardNobodyReadsModel" "CardNobodyReadsModel" "stack" "[I", Cond.laysFinal "CardNobodyReadsModel" "CardNobodyReadsModel" "named" "[I", Cond.laysFinal "CardNobodyReadsModel" "CardNobodyReadsModel" "fails" "[I", Cond.laysFinal "CardNobodyReadsModel" "CardNobodyReadsModel" "mays" "[I", Cond.laysFinal "CardNobodyReadsModel" "CardNobodyReadsModel" "fits" "[I", Cond.lays "CardNobodyReadsModel" "CardNobodyReadsModel" "fitMany" "I", Cond.laysFinal "CardNobodyReadsModel" "CardNobodyReadsModel" "likings" "[I", Cond.laysFinal "CardNobodyReadsModel" "CardNobodyReadsModel" "ordering" "[I", Cond.laysFinal "CardNobodyReadsModel" "CardNobodyReadsModel" "best" "[I", Cond.lays "CardNobodyReadsModel" "CardNobodyReadsModel" "bestLiking" "I", Cond.lays "CardNobodyReadsModel" "CardNobodyReadsModel" "bestPrice" "I", Cond.laysFinal "CardNobodyReadsModel" "CardNobodyReadsModel" "manyHave" "[I"], q_in w from List.forall_mem_cons.mpr ⟨tb_1174, List.forall_mem_cons.mpr ⟨tb_1176, List.forall_mem_cons.mpr ⟨tb_1178, List.forall_mem_cons.mpr ⟨tb_1180, List.forall_mem_cons.mpr ⟨tb_1182, List.forall_mem_cons.mpr ⟨tb_1184, List.forall_mem_cons.mpr ⟨tb_1186, List.forall_mem_cons.mpr ⟨tb_1188, List.forall_mem_cons.mpr ⟨tb_1190, List.forall_mem_cons.mpr ⟨tb_1192, List.forall_mem_cons.mpr ⟨tb_1194, List.forall_mem_cons.mpr ⟨tb_1196, List.forall_mem_cons.mpr ⟨tb_1198, List.forall_mem_cons.mpr ⟨tb_1200, List.forall_mem_cons.mpr ⟨tb_1202, List.forall_mem_cons.mpr ⟨tb_1204, List.forall_mem_cons.mpr ⟨tb_1206, List.forall_mem_cons.mpr ⟨tb_1208, List.forall_mem_cons.mpr ⟨tb_1210, List.forall_mem_cons.mpr ⟨tb_1212, List.forall_mem_cons.mpr ⟨tb_1214, List.forall_mem_cons.mpr ⟨tb_1216, List.forall_mem_cons.mpr ⟨tb_1218, List.forall_mem_cons.mpr ⟨tb_1220, List.forall_mem_cons.mpr ⟨tb_1222, List.forall_mem_cons.mpr ⟨tb_1224, List.forall_mem_cons.mpr ⟨tb_1226, List.forall_mem_cons.mpr ⟨tb_1228, List.forall_mem_cons.mpr ⟨tb_1230, List.forall_mem_cons.mpr ⟨tb_1232, List.forall_mem_cons.mpr ⟨tb_1234, List.forall_mem_cons.mpr ⟨tb_1236, List.forall_mem_cons.mpr ⟨tb_1238, List.forall_mem_cons.mpr ⟨tb_1240, List.forall_mem_cons.mpr ⟨tb_1242, List.forall_mem_cons.mpr ⟨tb_1244, List.forall_mem_cons.mpr ⟨tb_1246, List.forall_mem_cons.mpr ⟨tb_1248, List.forall_mem_cons.mpr ⟨tb_1250, List.forall_mem_cons.mpr ⟨tb_1252, List.forall_mem_cons.mpr ⟨tb_1254, List.forall_mem_cons.mpr ⟨tb_1256, List.forall_mem_cons.mpr ⟨tb_1258, List.forall_mem_cons.mpr ⟨tb_1260, List.forall_mem_cons.mpr ⟨tb_1262, List.forall_mem_cons.mpr ⟨tb_1264, List.forall_mem_cons.mpr ⟨tb_1266, fun _ h => absurd h List.not_mem_nil⟩⟩⟩⟩⟩⟩⟩⟩⟩⟩⟩⟩⟩⟩⟩⟩⟩⟩⟩⟩⟩⟩⟩⟩⟩⟩⟩⟩⟩⟩⟩⟩⟩⟩⟩⟩⟩⟩⟩⟩⟩⟩⟩⟩⟩⟩⟩), tyX10_ok, nmX10⟩
/-- all cells, behind both constructors -/
def q_SA (ad : Nat → Nat) : SW := [
  (ad 0, .inr (9, [some (some (ad 1)), some (some (ad 3)), some (some (ad 7)), some (some (ad 12)), some (some (ad 21)), some (some (ad 27)), some (some (ad 31)), some (some (ad 33)), some (some (ad 37)), none, none, none, none])),
  (ad 1, .inr (7, [some (some (ad 2))])),
  (ad 2, .inl 4320),
  (ad 3, .inr (3, [some (some (ad 4)), some (some (ad 5)), some (some (ad 6)), none])),
  (ad 4, .inl 10),
  (ad 5, .inl 10),
  (ad 6, .inl 7200),
  (ad 7, .inr (0, [some (some (ad 8)), some (some (ad 9)), some (some (ad 10)), some (some (ad 11)), none])),
  (ad 8, .inl 12),
  (ad 9, .inl 12),
  (ad 10, .inl 12),
  (ad 11, .inl 12),
  (ad 12, .inr (6, [some (some (ad 13)), some (some (ad 17)), some (some (ad 18)), some (some (ad 19)), some (some (ad 20)), none, none, none])),
  (ad 13, .inr (5, [some (some (ad 14)), some (some (ad 15)), some (some (ad 16)), none])),
  (ad 14, .inl 160),
  (ad 15, .inl 161),
  (ad 16, .inl 161),
  (ad 17, .inl 960),
  (ad 18, .inl 18),
  (ad 19, .inl 31),
  (ad 20, .inl 6),
  (ad 21, .inr (1, [some (some (ad 22)), some (some (ad 23)), some (some (ad 24)), some (some (ad 25)), some (some (ad 26)), none, none])),
  (ad 22, .inl 720),
  (ad 23, .inl 36),
  (ad 24, .inl 640),
  (ad 25, .inl 640),
  (ad 26, .inl 4096),
  (ad 27, .inr (8, [some (some (ad 28)), some (some (ad 29)), some (some (ad 30)), none, none])),
  (ad 28, .inl 40),
  (ad 29, .inl 4),
  (ad 30, .inl 4),
  (ad 31, .inr (2, [some (some (ad 32)), none, none, none, none, none, none])),
  (ad 32, .inl 10),
  (ad 33, .inr (4, [some (some (ad 34)), some (some (ad 35)), some (some (ad 36))])),
  (ad 34, .inl 4),
  (ad 35, .inl 4),
  (ad 36, .inl 160),
  (ad 37, .inl 4),
  (ad 38, .inr (10, [none, some (some (ad 39)), some (some (ad 40)), none, some (some (ad 41)), none, none, some (some (ad 42)), some (some (ad 43)), some (some (ad 44)), none, some (some (ad 45)), some (some (ad 46)), none, none, none, none, none, none, none, none, some (some (ad 47)), some (some (ad 48)), some (some (ad 49)), some (some (ad 50)), some (some (ad 51)), none, none, none, none, some (some (ad 52)), some (some (ad 53)), none, none, none, some (some (ad 54)), some (some (ad 55)), some (some (ad 56)), some (some (ad 57)), some (some (ad 58)), none, some (some (ad 59)), some (some (ad 60)), some (some (ad 61)), none, none, some (some (ad 62))])),
  (ad 39, .inl 10),
  (ad 40, .inl 10),
  (ad 41, .inl 4),
  (ad 42, .inl 52),
  (ad 43, .inl 4320),
  (ad 44, .inl 160),
  (ad 45, .inl 1200),
  (ad 46, .inl 24),
  (ad 47, .inl 10),
  (ad 48, .inl 4),
  (ad 49, .inl 4),
  (ad 50, .inl 160),
  (ad 51, .inl 53),
  (ad 52, .inl 96),
  (ad 53, .inl 200),
  (ad 54, .inl 200),
  (ad 55, .inl 6),
  (ad 56, .inl 720),
  (ad 57, .inl 640),
  (ad 58, .inl 720),
  (ad 59, .inl 40),
  (ad 60, .inl 4),
  (ad 61, .inl 4),
  (ad 62, .inl 4096)]
def q_ag (lo hi : Nat) (ad : Nat → Nat) (S : SW) : Prop := ∀ k, lo ≤ k → k < hi → S[k]? = (q_SA ad)[k]?
theorem q_ag_sub {lo hi lo2 hi2 : Nat} {ad : Nat → Nat} {S : SW} (h : q_ag lo hi ad S) (h1 : lo ≤ lo2) (h2 : hi2 ≤ hi) : q_ag lo2 hi2 ad S := fun k a b => h k (Nat.le_trans h1 a) (Nat.lt_of_lt_of_le b h2)
theorem cl0 {lo hi : Nat} {ad : Nat → Nat} {S : SW} (h : q_ag lo hi ad S) (h1 : lo ≤ 0 := by decide) (h2 : 0 < hi := by decide) : S[0]? = some (ad 0, .inr (9, [some (some (ad 1)), some (some (ad 3)), some (some (ad 7)), some (some (ad 12)), some (some (ad 21)), some (some (ad 27)), some (some (ad 31)), some (some (ad 33)), some (some (ad 37)), none, none, none, none])) := (h 0 h1 h2).trans rfl
theorem cl1 {lo hi : Nat} {ad : Nat → Nat} {S : SW} (h : q_ag lo hi ad S) (h1 : lo ≤ 1 := by decide) (h2 : 1 < hi := by decide) : S[1]? = some (ad 1, .inr (7, [some (some (ad 2))])) := (h 1 h1 h2).trans rfl
theorem cl2 {lo hi : Nat} {ad : Nat → Nat} {S : SW} (h : q_ag lo hi ad S) (h1 : lo ≤ 2 := by decide) (h2 : 2 < hi := by decide) : S[2]? = some (ad 2, .inl 4320) := (h 2 h1 h2).trans rfl
theorem cl3 {lo hi : Nat} {ad : Nat → Nat} {S : SW} (h : q_ag lo hi ad S) (h1 : lo ≤ 3 := by decide) (h2 : 3 < hi := by decide) : S[3]? = some (ad 3, .inr (3, [some (some (ad 4)), some (some (ad 5)), some (some (ad 6)), none])) := (h 3 h1 h2).trans rfl
theorem cl4 {lo hi : Nat} {ad : Nat → Nat} {S : SW} (h : q_ag lo hi ad S) (h1 : lo ≤ 4 := by decide) (h2 : 4 < hi := by decide) : S[4]? = some (ad 4, .inl 10) := (h 4 h1 h2).trans rfl
theorem cl5 {lo hi : Nat} {ad : Nat → Nat} {S : SW} (h : q_ag lo hi ad S) (h1 : lo ≤ 5 := by decide) (h2 : 5 < hi := by decide) : S[5]? = some (ad 5, .inl 10) := (h 5 h1 h2).trans rfl
theorem cl6 {lo hi : Nat} {ad : Nat → Nat} {S : SW} (h : q_ag lo hi ad S) (h1 : lo ≤ 6 := by decide) (h2 : 6 < hi := by decide) : S[6]? = some (ad 6, .inl 7200) := (h 6 h1 h2).trans rfl
theorem cl7 {lo hi : Nat} {ad : Nat → Nat} {S : SW} (h : q_ag lo hi ad S) (h1 : lo ≤ 7 := by decide) (h2 : 7 < hi := by decide) : S[7]? = some (ad 7, .inr (0, [some (some (ad 8)), some (some (ad 9)), some (some (ad 10)), some (some (ad 11)), none])) := (h 7 h1 h2).trans rfl
theorem cl8 {lo hi : Nat} {ad : Nat → Nat} {S : SW} (h : q_ag lo hi ad S) (h1 : lo ≤ 8 := by decide) (h2 : 8 < hi := by decide) : S[8]? = some (ad 8, .inl 12) := (h 8 h1 h2).trans rfl
theorem cl9 {lo hi : Nat} {ad : Nat → Nat} {S : SW} (h : q_ag lo hi ad S) (h1 : lo ≤ 9 := by decide) (h2 : 9 < hi := by decide) : S[9]? = some (ad 9, .inl 12) := (h 9 h1 h2).trans rfl
theorem cl10 {lo hi : Nat} {ad : Nat → Nat} {S : SW} (h : q_ag lo hi ad S) (h1 : lo ≤ 10 := by decide) (h2 : 10 < hi := by decide) : S[10]? = some (ad 10, .inl 12) := (h 10 h1 h2).trans rfl
theorem cl11 {lo hi : Nat} {ad : Nat → Nat} {S : SW} (h : q_ag lo hi ad S) (h1 : lo ≤ 11 := by decide) (h2 : 11 < hi := by decide) : S[11]? = some (ad 11, .inl 12) := (h 11 h1 h2).trans rfl
theorem cl12 {lo hi : Nat} {ad : Nat → Nat} {S : SW} (h : q_ag lo hi ad S) (h1 : lo ≤ 12 := by decide) (h2 : 12 < hi := by decide) : S[12]? = some (ad 12, .inr (6, [some (some (ad 13)), some (some (ad 17)), some (some (ad 18)), some (some (ad 19)), some (some (ad 20)), none, none, none])) := (h 12 h1 h2).trans rfl
theorem cl13 {lo hi : Nat} {ad : Nat → Nat} {S : SW} (h : q_ag lo hi ad S) (h1 : lo ≤ 13 := by decide) (h2 : 13 < hi := by decide) : S[13]? = some (ad 13, .inr (5, [some (some (ad 14)), some (some (ad 15)), some (some (ad 16)), none])) := (h 13 h1 h2).trans rfl
theorem cl14 {lo hi : Nat} {ad : Nat → Nat} {S : SW} (h : q_ag lo hi ad S) (h1 : lo ≤ 14 := by decide) (h2 : 14 < hi := by decide) : S[14]? = some (ad 14, .inl 160) := (h 14 h1 h2).trans rfl
theorem cl15 {lo hi : Nat} {ad : Nat → Nat} {S : SW} (h : q_ag lo hi ad S) (h1 : lo ≤ 15 := by decide) (h2 : 15 < hi := by decide) : S[15]? = some (ad 15, .inl 161) := (h 15 h1 h2).trans rfl
theorem cl16 {lo hi : Nat} {ad : Nat → Nat} {S : SW} (h : q_ag lo hi ad S) (h1 : lo ≤ 16 := by decide) (h2 : 16 < hi := by decide) : S[16]? = some (ad 16, .inl 161) := (h 16 h1 h2).trans rfl
theorem cl17 {lo hi : Nat} {ad : Nat → Nat} {S : SW} (h : q_ag lo hi ad S) (h1 : lo ≤ 17 := by decide) (h2 : 17 < hi := by decide) : S[17]? = some (ad 17, .inl 960) := (h 17 h1 h2).trans rfl
theorem cl18 {lo hi : Nat} {ad : Nat → Nat} {S : SW} (h : q_ag lo hi ad S) (h1 : lo ≤ 18 := by decide) (h2 : 18 < hi := by decide) : S[18]? = some (ad 18, .inl 18) := (h 18 h1 h2).trans rfl
theorem cl19 {lo hi : Nat} {ad : Nat → Nat} {S : SW} (h : q_ag lo hi ad S) (h1 : lo ≤ 19 := by decide) (h2 : 19 < hi := by decide) : S[19]? = some (ad 19, .inl 31) := (h 19 h1 h2).trans rfl
theorem cl20 {lo hi : Nat} {ad : Nat → Nat} {S : SW} (h : q_ag lo hi ad S) (h1 : lo ≤ 20 := by decide) (h2 : 20 < hi := by decide) : S[20]? = some (ad 20, .inl 6) := (h 20 h1 h2).trans rfl
theorem cl21 {lo hi : Nat} {ad : Nat → Nat} {S : SW} (h : q_ag lo hi ad S) (h1 : lo ≤ 21 := by decide) (h2 : 21 < hi := by decide) : S[21]? = some (ad 21, .inr (1, [some (some (ad 22)), some (some (ad 23)), some (some (ad 24)), some (some (ad 25)), some (some (ad 26)), none, none])) := (h 21 h1 h2).trans rfl
theorem cl22 {lo hi : Nat} {ad : Nat → Nat} {S : SW} (h : q_ag lo hi ad S) (h1 : lo ≤ 22 := by decide) (h2 : 22 < hi := by decide) : S[22]? = some (ad 22, .inl 720) := (h 22 h1 h2).trans rfl
theorem cl23 {lo hi : Nat} {ad : Nat → Nat} {S : SW} (h : q_ag lo hi ad S) (h1 : lo ≤ 23 := by decide) (h2 : 23 < hi := by decide) : S[23]? = some (ad 23, .inl 36) := (h 23 h1 h2).trans rfl
theorem cl24 {lo hi : Nat} {ad : Nat → Nat} {S : SW} (h : q_ag lo hi ad S) (h1 : lo ≤ 24 := by decide) (h2 : 24 < hi := by decide) : S[24]? = some (ad 24, .inl 640) := (h 24 h1 h2).trans rfl
theorem cl25 {lo hi : Nat} {ad : Nat → Nat} {S : SW} (h : q_ag lo hi ad S) (h1 : lo ≤ 25 := by decide) (h2 : 25 < hi := by decide) : S[25]? = some (ad 25, .inl 640) := (h 25 h1 h2).trans rfl
theorem cl26 {lo hi : Nat} {ad : Nat → Nat} {S : SW} (h : q_ag lo hi ad S) (h1 : lo ≤ 26 := by decide) (h2 : 26 < hi := by decide) : S[26]? = some (ad 26, .inl 4096) := (h 26 h1 h2).trans rfl
theorem cl27 {lo hi : Nat} {ad : Nat → Nat} {S : SW} (h : q_ag lo hi ad S) (h1 : lo ≤ 27 := by decide) (h2 : 27 < hi := by decide) : S[27]? = some (ad 27, .inr (8, [some (some (ad 28)), some (some (ad 29)), some (some (ad 30)), none, none])) := (h 27 h1 h2).trans rfl
theorem cl28 {lo hi : Nat} {ad : Nat → Nat} {S : SW} (h : q_ag lo hi ad S) (h1 : lo ≤ 28 := by decide) (h2 : 28 < hi := by decide) : S[28]? = some (ad 28, .inl 40) := (h 28 h1 h2).trans rfl
theorem cl29 {lo hi : Nat} {ad : Nat → Nat} {S : SW} (h : q_ag lo hi ad S) (h1 : lo ≤ 29 := by decide) (h2 : 29 < hi := by decide) : S[29]? = some (ad 29, .inl 4) := (h 29 h1 h2).trans rfl
theorem cl30 {lo hi : Nat} {ad : Nat → Nat} {S : SW} (h : q_ag lo hi ad S) (h1 : lo ≤ 30 := by decide) (h2 : 30 < hi := by decide) : S[30]? = some (ad 30, .inl 4) := (h 30 h1 h2).trans rfl
theorem cl31 {lo hi : Nat} {ad : Nat → Nat} {S : SW} (h : q_ag lo hi ad S) (h1 : lo ≤ 31 := by decide) (h2 : 31 < hi := by decide) : S[31]? = some (ad 31, .inr (2, [some (some (ad 32)), none, none, none, none, none, none])) := (h 31 h1 h2).trans rfl
theorem cl32 {lo hi : Nat} {ad : Nat → Nat} {S : SW} (h : q_ag lo hi ad S) (h1 : lo ≤ 32 := by decide) (h2 : 32 < hi := by decide) : S[32]? = some (ad 32, .inl 10) := (h 32 h1 h2).trans rfl
theorem cl33 {lo hi : Nat} {ad : Nat → Nat} {S : SW} (h : q_ag lo hi ad S) (h1 : lo ≤ 33 := by decide) (h2 : 33 < hi := by decide) : S[33]? = some (ad 33, .inr (4, [some (some (ad 34)), some (some (ad 35)), some (some (ad 36))])) := (h 33 h1 h2).trans rfl
theorem cl34 {lo hi : Nat} {ad : Nat → Nat} {S : SW} (h : q_ag lo hi ad S) (h1 : lo ≤ 34 := by decide) (h2 : 34 < hi := by decide) : S[34]? = some (ad 34, .inl 4) := (h 34 h1 h2).trans rfl
theorem cl35 {lo hi : Nat} {ad : Nat → Nat} {S : SW} (h : q_ag lo hi ad S) (h1 : lo ≤ 35 := by decide) (h2 : 35 < hi := by decide) : S[35]? = some (ad 35, .inl 4) := (h 35 h1 h2).trans rfl
theorem cl36 {lo hi : Nat} {ad : Nat → Nat} {S : SW} (h : q_ag lo hi ad S) (h1 : lo ≤ 36 := by decide) (h2 : 36 < hi := by decide) : S[36]? = some (ad 36, .inl 160) := (h 36 h1 h2).trans rfl
theorem cl37 {lo hi : Nat} {ad : Nat → Nat} {S : SW} (h : q_ag lo hi ad S) (h1 : lo ≤ 37 := by decide) (h2 : 37 < hi := by decide) : S[37]? = some (ad 37, .inl 4) := (h 37 h1 h2).trans rfl
theorem cl38 {lo hi : Nat} {ad : Nat → Nat} {S : SW} (h : q_ag lo hi ad S) (h1 : lo ≤ 38 := by decide) (h2 : 38 < hi := by decide) : S[38]? = some (ad 38, .inr (10, [none, some (some (ad 39)), some (some (ad 40)), none, some (some (ad 41)), none, none, some (some (ad 42)), some (some (ad 43)), some (some (ad 44)), none, some (some (ad 45)), some (some (ad 46)), none, none, none, none, none, none, none, none, some (some (ad 47)), some (some (ad 48)), some (some (ad 49)), some (some (ad 50)), some (some (ad 51)), none, none, none, none, some (some (ad 52)), some (some (ad 53)), none, none, none, some (some (ad 54)), some (some (ad 55)), some (some (ad 56)), some (some (ad 57)), some (some (ad 58)), none, some (some (ad 59)), some (some (ad 60)), some (some (ad 61)), none, none, some (some (ad 62))])) := (h 38 h1 h2).trans rfl
theorem cl39 {lo hi : Nat} {ad : Nat → Nat} {S : SW} (h : q_ag lo hi ad S) (h1 : lo ≤ 39 := by decide) (h2 : 39 < hi := by decide) : S[39]? = some (ad 39, .inl 10) := (h 39 h1 h2).trans rfl
theorem cl40 {lo hi : Nat} {ad : Nat → Nat} {S : SW} (h : q_ag lo hi ad S) (h1 : lo ≤ 40 := by decide) (h2 : 40 < hi := by decide) : S[40]? = some (ad 40, .inl 10) := (h 40 h1 h2).trans rfl
theorem cl41 {lo hi : Nat} {ad : Nat → Nat} {S : SW} (h : q_ag lo hi ad S) (h1 : lo ≤ 41 := by decide) (h2 : 41 < hi := by decide) : S[41]? = some (ad 41, .inl 4) := (h 41 h1 h2).trans rfl
theorem cl42 {lo hi : Nat} {ad : Nat → Nat} {S : SW} (h : q_ag lo hi ad S) (h1 : lo ≤ 42 := by decide) (h2 : 42 < hi := by decide) : S[42]? = some (ad 42, .inl 52) := (h 42 h1 h2).trans rfl
theorem cl43 {lo hi : Nat} {ad : Nat → Nat} {S : SW} (h : q_ag lo hi ad S) (h1 : lo ≤ 43 := by decide) (h2 : 43 < hi := by decide) : S[43]? = some (ad 43, .inl 4320) := (h 43 h1 h2).trans rfl
theorem cl44 {lo hi : Nat} {ad : Nat → Nat} {S : SW} (h : q_ag lo hi ad S) (h1 : lo ≤ 44 := by decide) (h2 : 44 < hi := by decide) : S[44]? = some (ad 44, .inl 160) := (h 44 h1 h2).trans rfl
theorem cl45 {lo hi : Nat} {ad : Nat → Nat} {S : SW} (h : q_ag lo hi ad S) (h1 : lo ≤ 45 := by decide) (h2 : 45 < hi := by decide) : S[45]? = some (ad 45, .inl 1200) := (h 45 h1 h2).trans rfl
theorem cl46 {lo hi : Nat} {ad : Nat → Nat} {S : SW} (h : q_ag lo hi ad S) (h1 : lo ≤ 46 := by decide) (h2 : 46 < hi := by decide) : S[46]? = some (ad 46, .inl 24) := (h 46 h1 h2).trans rfl
theorem cl47 {lo hi : Nat} {ad : Nat → Nat} {S : SW} (h : q_ag lo hi ad S) (h1 : lo ≤ 47 := by decide) (h2 : 47 < hi := by decide) : S[47]? = some (ad 47, .inl 10) := (h 47 h1 h2).trans rfl
theorem cl48 {lo hi : Nat} {ad : Nat → Nat} {S : SW} (h : q_ag lo hi ad S) (h1 : lo ≤ 48 := by decide) (h2 : 48 < hi := by decide) : S[48]? = some (ad 48, .inl 4) := (h 48 h1 h2).trans rfl
theorem cl49 {lo hi : Nat} {ad : Nat → Nat} {S : SW} (h : q_ag lo hi ad S) (h1 : lo ≤ 49 := by decide) (h2 : 49 < hi := by decide) : S[49]? = some (ad 49, .inl 4) := (h 49 h1 h2).trans rfl
theorem cl50 {lo hi : Nat} {ad : Nat → Nat} {S : SW} (h : q_ag lo hi ad S) (h1 : lo ≤ 50 := by decide) (h2 : 50 < hi := by decide) : S[50]? = some (ad 50, .inl 160) := (h 50 h1 h2).trans rfl
theorem cl51 {lo hi : Nat} {ad : Nat → Nat} {S : SW} (h : q_ag lo hi ad S) (h1 : lo ≤ 51 := by decide) (h2 : 51 < hi := by decide) : S[51]? = some (ad 51, .inl 53) := (h 51 h1 h2).trans rfl
theorem cl52 {lo hi : Nat} {ad : Nat → Nat} {S : SW} (h : q_ag lo hi ad S) (h1 : lo ≤ 52 := by decide) (h2 : 52 < hi := by decide) : S[52]? = some (ad 52, .inl 96) := (h 52 h1 h2).trans rfl
theorem cl53 {lo hi : Nat} {ad : Nat → Nat} {S : SW} (h : q_ag lo hi ad S) (h1 : lo ≤ 53 := by decide) (h2 : 53 < hi := by decide) : S[53]? = some (ad 53, .inl 200) := (h 53 h1 h2).trans rfl
theorem cl54 {lo hi : Nat} {ad : Nat → Nat} {S : SW} (h : q_ag lo hi ad S) (h1 : lo ≤ 54 := by decide) (h2 : 54 < hi := by decide) : S[54]? = some (ad 54, .inl 200) := (h 54 h1 h2).trans rfl
theorem cl55 {lo hi : Nat} {ad : Nat → Nat} {S : SW} (h : q_ag lo hi ad S) (h1 : lo ≤ 55 := by decide) (h2 : 55 < hi := by decide) : S[55]? = some (ad 55, .inl 6) := (h 55 h1 h2).trans rfl
theorem cl56 {lo hi : Nat} {ad : Nat → Nat} {S : SW} (h : q_ag lo hi ad S) (h1 : lo ≤ 56 := by decide) (h2 : 56 < hi := by decide) : S[56]? = some (ad 56, .inl 720) := (h 56 h1 h2).trans rfl
theorem cl57 {lo hi : Nat} {ad : Nat → Nat} {S : SW} (h : q_ag lo hi ad S) (h1 : lo ≤ 57 := by decide) (h2 : 57 < hi := by decide) : S[57]? = some (ad 57, .inl 640) := (h 57 h1 h2).trans rfl
theorem cl58 {lo hi : Nat} {ad : Nat → Nat} {S : SW} (h : q_ag lo hi ad S) (h1 : lo ≤ 58 := by decide) (h2 : 58 < hi := by decide) : S[58]? = some (ad 58, .inl 720) := (h 58 h1 h2).trans rfl
theorem cl59 {lo hi : Nat} {ad : Nat → Nat} {S : SW} (h : q_ag lo hi ad S) (h1 : lo ≤ 59 := by decide) (h2 : 59 < hi := by decide) : S[59]? = some (ad 59, .inl 40) := (h 59 h1 h2).trans rfl
theorem cl60 {lo hi : Nat} {ad : Nat → Nat} {S : SW} (h : q_ag lo hi ad S) (h1 : lo ≤ 60 := by decide) (h2 : 60 < hi := by decide) : S[60]? = some (ad 60, .inl 4) := (h 60 h1 h2).trans rfl
theorem cl61 {lo hi : Nat} {ad : Nat → Nat} {S : SW} (h : q_ag lo hi ad S) (h1 : lo ≤ 61 := by decide) (h2 : 61 < hi := by decide) : S[61]? = some (ad 61, .inl 4) := (h 61 h1 h2).trans rfl
theorem cl62 {lo hi : Nat} {ad : Nat → Nat} {S : SW} (h : q_ag lo hi ad S) (h1 : lo ≤ 62 := by decide) (h2 : 62 < hi := by decide) : S[62]? = some (ad 62, .inl 4096) := (h 62 h1 h2).trans rfl
