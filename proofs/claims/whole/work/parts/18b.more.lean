theorem tb_0 : q_in (.selects "CardNobodyReads$Tongues" yX7_spell yX7_spell) := ⟨List.mem_append_left _ (List.mem_of_getElem? (i := 0) rfl), rfl⟩
theorem tb_43 : q_in (.selects "CardNobodyReadsModel" yX10_isTongue yX10_isTongue) := ⟨List.mem_append_left _ (List.mem_of_getElem? (i := 43) rfl), rfl⟩
theorem tb_105 : q_in (.instanceMethod yX7_spell) := ⟨tbm_1 _ (List.mem_of_getElem? (i := 36) rfl), rfl⟩
theorem tb_106 : q_in (.code yX7_spell cX7_spell 7 none) := ⟨tbm_1 _ (List.mem_of_getElem? (i := 37) rfl), rfl⟩
theorem tb_594 : q_in (.instanceMethod yX9_line) := ⟨tbm_3 _ (List.mem_of_getElem? (i := 45) rfl), rfl⟩
theorem tb_595 : q_in (.selects "CardNobodyReads" yX9_line yX9_line) := ⟨tbm_3 _ (List.mem_of_getElem? (i := 46) rfl), rfl⟩
theorem tb_596 : q_in (.code yX9_line cX9_line 3 (some .int)) := ⟨tbm_3 _ (List.mem_of_getElem? (i := 47) rfl), rfl⟩
theorem tb_629 : q_in (.instanceMethod yX9_lineTold) := ⟨tbm_3 _ (List.mem_of_getElem? (i := 80) rfl), rfl⟩
theorem tb_630 : q_in (.selects "CardNobodyReads" yX9_lineTold yX9_lineTold) := ⟨tbm_3 _ (List.mem_of_getElem? (i := 81) rfl), rfl⟩
theorem tb_631 : q_in (.code yX9_lineTold cX9_lineTold 3 (some .int)) := ⟨tbm_3 _ (List.mem_of_getElem? (i := 82) rfl), rfl⟩
theorem tb_646 : q_in (.instanceMethod yX9_set) := ⟨tbm_3 _ (List.mem_of_getElem? (i := 97) rfl), rfl⟩
theorem tb_647 : q_in (.selects "CardNobodyReads" yX9_set yX9_set) := ⟨tbm_3 _ (List.mem_of_getElem? (i := 98) rfl), rfl⟩
theorem tb_648 : q_in (.code yX9_set cX9_set 4 (some .int)) := ⟨tbm_3 _ (List.mem_of_getElem? (i := 99) rfl), rfl⟩
theorem tb_651 : q_in (.instanceMethod yX9_guest) := ⟨tbm_3 _ (List.mem_of_getElem? (i := 102) rfl), rfl⟩
theorem tb_652 : q_in (.selects "CardNobodyReads" yX9_guest yX9_guest) := ⟨tbm_3 _ (List.mem_of_getElem? (i := 103) rfl), rfl⟩
theorem tb_653 : q_in (.code yX9_guest cX9_guest 2 (some .int)) := ⟨tbm_3 _ (List.mem_of_getElem? (i := 104) rfl), rfl⟩
theorem tb_656 : q_in (.instanceMethod yX9_guestTold) := ⟨tbm_3 _ (List.mem_of_getElem? (i := 107) rfl), rfl⟩
theorem tb_657 : q_in (.selects "CardNobodyReads" yX9_guestTold yX9_guestTold) := ⟨tbm_3 _ (List.mem_of_getElem? (i := 108) rfl), rfl⟩
theorem tb_658 : q_in (.code yX9_guestTold cX9_guestTold 2 (some .int)) := ⟨tbm_3 _ (List.mem_of_getElem? (i := 109) rfl), rfl⟩
theorem tb_665 : q_in (.instanceMethod yX9_pays) := ⟨tbm_3 _ (List.mem_of_getElem? (i := 116) rfl), rfl⟩
theorem tb_666 : q_in (.selects "CardNobodyReads" yX9_pays yX9_pays) := ⟨tbm_3 _ (List.mem_of_getElem? (i := 117) rfl), rfl⟩
theorem tb_667 : q_in (.code yX9_pays cX9_pays 3 (some .int)) := ⟨tbm_3 _ (List.mem_of_getElem? (i := 118) rfl), rfl⟩
theorem tb_669 : q_in (.instanceMethod yX9_count) := ⟨tbm_3 _ (List.mem_of_getElem? (i := 120) rfl), rfl⟩
theorem tb_670 : q_in (.selects "CardNobodyReads" yX9_count yX9_count) := ⟨tbm_3 _ (List.mem_of_getElem? (i := 121) rfl), rfl⟩
theorem tb_671 : q_in (.code yX9_count cX9_count 2 (some .int)) := ⟨tbm_3 _ (List.mem_of_getElem? (i := 122) rfl), rfl⟩
theorem tb_673 : q_in (.instanceMethod yX9_feed) := ⟨tbm_3 _ (List.mem_of_getElem? (i := 124) rfl), rfl⟩
theorem tb_674 : q_in (.selects "CardNobodyReads" yX9_feed yX9_feed) := ⟨tbm_3 _ (List.mem_of_getElem? (i := 125) rfl), rfl⟩
theorem tb_675 : q_in (.code yX9_feed cX9_feed 8 (some .int)) := ⟨tbm_3 _ (List.mem_of_getElem? (i := 126) rfl), rfl⟩
theorem tb_681 : q_in (.instanceMethod yX9_text) := ⟨tbm_3 _ (List.mem_of_getElem? (i := 132) rfl), rfl⟩
theorem tb_682 : q_in (.selects "CardNobodyReads" yX9_text yX9_text) := ⟨tbm_3 _ (List.mem_of_getElem? (i := 133) rfl), rfl⟩
theorem tb_683 : q_in (.code yX9_text cX9_text 2 (some .int)) := ⟨tbm_3 _ (List.mem_of_getElem? (i := 134) rfl), rfl⟩
theorem tb_686 : q_in (.instanceMethod yX9_force) := ⟨tbm_3 _ (List.mem_of_getElem? (i := 137) rfl), rfl⟩
theorem tb_687 : q_in (.selects "CardNobodyReads" yX9_force yX9_force) := ⟨tbm_3 _ (List.mem_of_getElem? (i := 138) rfl), rfl⟩
theorem tb_688 : q_in (.code yX9_force cX9_force 3 (some .int)) := ⟨tbm_3 _ (List.mem_of_getElem? (i := 139) rfl), rfl⟩
theorem tb_690 : q_in (.instanceMethod yX9_asks) := ⟨tbm_3 _ (List.mem_of_getElem? (i := 141) rfl), rfl⟩
theorem tb_691 : q_in (.selects "CardNobodyReads" yX9_asks yX9_asks) := ⟨tbm_3 _ (List.mem_of_getElem? (i := 142) rfl), rfl⟩
theorem tb_692 : q_in (.code yX9_asks cX9_asks 6 (some .int)) := ⟨tbm_3 _ (List.mem_of_getElem? (i := 143) rfl), rfl⟩
theorem tb_708 : q_in (.instanceMethod yX9_know) := ⟨tbm_3 _ (List.mem_of_getElem? (i := 159) rfl), rfl⟩
theorem tb_709 : q_in (.selects "CardNobodyReads" yX9_know yX9_know) := ⟨tbm_3 _ (List.mem_of_getElem? (i := 160) rfl), rfl⟩
theorem tb_710 : q_in (.code yX9_know cX9_know 5 (some .int)) := ⟨tbm_3 _ (List.mem_of_getElem? (i := 161) rfl), rfl⟩
theorem tb_721 : q_in (.instanceMethod yX9_forget) := ⟨tbm_3 _ (List.mem_of_getElem? (i := 172) rfl), rfl⟩
theorem tb_722 : q_in (.selects "CardNobodyReads" yX9_forget yX9_forget) := ⟨tbm_3 _ (List.mem_of_getElem? (i := 173) rfl), rfl⟩
theorem tb_723 : q_in (.code yX9_forget cX9_forget 1 (some .int)) := ⟨tbm_3 _ (List.mem_of_getElem? (i := 174) rfl), rfl⟩
theorem tb_725 : q_in (.instanceMethod yX9_factTold) := ⟨tbm_3 _ (List.mem_of_getElem? (i := 176) rfl), rfl⟩
theorem tb_726 : q_in (.selects "CardNobodyReads" yX9_factTold yX9_factTold) := ⟨tbm_3 _ (List.mem_of_getElem? (i := 177) rfl), rfl⟩
theorem tb_727 : q_in (.code yX9_factTold cX9_factTold 3 (some .int)) := ⟨tbm_3 _ (List.mem_of_getElem? (i := 178) rfl), rfl⟩
theorem tb_729 : q_in (.instanceMethod yX9_sets) := ⟨tbm_3 _ (List.mem_of_getElem? (i := 180) rfl), rfl⟩
theorem tb_730 : q_in (.selects "CardNobodyReads" yX9_sets yX9_sets) := ⟨tbm_3 _ (List.mem_of_getElem? (i := 181) rfl), rfl⟩
theorem tb_731 : q_in (.code yX9_sets cX9_sets 1 (some .int)) := ⟨tbm_3 _ (List.mem_of_getElem? (i := 182) rfl), rfl⟩
theorem tb_777 : q_in (.instanceMethod yX9_first) := ⟨tbm_3 _ (List.mem_of_getElem? (i := 228) rfl), rfl⟩
theorem tb_778 : q_in (.selects "CardNobodyReads" yX9_first yX9_first) := ⟨tbm_3 _ (List.mem_of_getElem? (i := 229) rfl), rfl⟩
theorem tb_779 : q_in (.code yX9_first cX9_first 3 (some .int)) := ⟨tbm_3 _ (List.mem_of_getElem? (i := 230) rfl), rfl⟩
theorem tb_789 : q_in (.instanceMethod yX9_means) := ⟨tbm_4 _ (List.mem_of_getElem? (i := 0) rfl), rfl⟩
theorem tb_790 : q_in (.selects "CardNobodyReads" yX9_means yX9_means) := ⟨tbm_4 _ (List.mem_of_getElem? (i := 1) rfl), rfl⟩
theorem tb_791 : q_in (.code yX9_means cX9_means 3 (some .int)) := ⟨tbm_4 _ (List.mem_of_getElem? (i := 2) rfl), rfl⟩
theorem tb_800 : q_in (.instanceMethod yX9_sure) := ⟨tbm_4 _ (List.mem_of_getElem? (i := 11) rfl), rfl⟩
theorem tb_801 : q_in (.selects "CardNobodyReads" yX9_sure yX9_sure) := ⟨tbm_4 _ (List.mem_of_getElem? (i := 12) rfl), rfl⟩
theorem tb_802 : q_in (.code yX9_sure cX9_sure 4 (some .int)) := ⟨tbm_4 _ (List.mem_of_getElem? (i := 13) rfl), rfl⟩
theorem tb_804 : q_in (.instanceMethod yX9_doubt) := ⟨tbm_4 _ (List.mem_of_getElem? (i := 15) rfl), rfl⟩
theorem tb_805 : q_in (.selects "CardNobodyReads" yX9_doubt yX9_doubt) := ⟨tbm_4 _ (List.mem_of_getElem? (i := 16) rfl), rfl⟩
theorem tb_806 : q_in (.code yX9_doubt cX9_doubt 5 (some .int)) := ⟨tbm_4 _ (List.mem_of_getElem? (i := 17) rfl), rfl⟩
theorem tb_813 : q_in (.instanceMethod yX9_odds) := ⟨tbm_4 _ (List.mem_of_getElem? (i := 24) rfl), rfl⟩
theorem tb_814 : q_in (.selects "CardNobodyReads" yX9_odds yX9_odds) := ⟨tbm_4 _ (List.mem_of_getElem? (i := 25) rfl), rfl⟩
theorem tb_815 : q_in (.code yX9_odds cX9_odds 5 (some .long)) := ⟨tbm_4 _ (List.mem_of_getElem? (i := 26) rfl), rfl⟩
theorem tb_827 : q_in (.instanceMethod yX9_has) := ⟨tbm_4 _ (List.mem_of_getElem? (i := 38) rfl), rfl⟩
theorem tb_828 : q_in (.selects "CardNobodyReads" yX9_has yX9_has) := ⟨tbm_4 _ (List.mem_of_getElem? (i := 39) rfl), rfl⟩
theorem tb_829 : q_in (.code yX9_has cX9_has 5 (some .long)) := ⟨tbm_4 _ (List.mem_of_getElem? (i := 40) rfl), rfl⟩
theorem tb_839 : q_in (.instanceMethod yX9_partsOfLine) := ⟨tbm_4 _ (List.mem_of_getElem? (i := 50) rfl), rfl⟩
theorem tb_840 : q_in (.selects "CardNobodyReads" yX9_partsOfLine yX9_partsOfLine) := ⟨tbm_4 _ (List.mem_of_getElem? (i := 51) rfl), rfl⟩
theorem tb_841 : q_in (.code yX9_partsOfLine cX9_partsOfLine 4 (some .int)) := ⟨tbm_4 _ (List.mem_of_getElem? (i := 52) rfl), rfl⟩
theorem tb_851 : q_in (.instanceMethod yX9_safe) := ⟨tbm_4 _ (List.mem_of_getElem? (i := 62) rfl), rfl⟩
theorem tb_852 : q_in (.selects "CardNobodyReads" yX9_safe yX9_safe) := ⟨tbm_4 _ (List.mem_of_getElem? (i := 63) rfl), rfl⟩
theorem tb_853 : q_in (.code yX9_safe cX9_safe 2 (some .int)) := ⟨tbm_4 _ (List.mem_of_getElem? (i := 64) rfl), rfl⟩
theorem tb_863 : q_in (.instanceMethod yX9_risk) := ⟨tbm_4 _ (List.mem_of_getElem? (i := 74) rfl), rfl⟩
theorem tb_864 : q_in (.selects "CardNobodyReads" yX9_risk yX9_risk) := ⟨tbm_4 _ (List.mem_of_getElem? (i := 75) rfl), rfl⟩
theorem tb_865 : q_in (.code yX9_risk cX9_risk 5 (some .long)) := ⟨tbm_4 _ (List.mem_of_getElem? (i := 76) rfl), rfl⟩
theorem tb_867 : q_in (.instanceMethod yX9_order) := ⟨tbm_4 _ (List.mem_of_getElem? (i := 78) rfl), rfl⟩
theorem tb_868 : q_in (.selects "CardNobodyReads" yX9_order yX9_order) := ⟨tbm_4 _ (List.mem_of_getElem? (i := 79) rfl), rfl⟩
theorem tb_869 : q_in (.code yX9_order cX9_order 2 (some .int)) := ⟨tbm_4 _ (List.mem_of_getElem? (i := 80) rfl), rfl⟩
theorem tb_902 : q_in (.instanceMethod yX9_ordered) := ⟨tbm_4 _ (List.mem_of_getElem? (i := 113) rfl), rfl⟩
theorem tb_903 : q_in (.selects "CardNobodyReads" yX9_ordered yX9_ordered) := ⟨tbm_4 _ (List.mem_of_getElem? (i := 114) rfl), rfl⟩
theorem tb_904 : q_in (.code yX9_ordered cX9_ordered 2 (some .int)) := ⟨tbm_4 _ (List.mem_of_getElem? (i := 115) rfl), rfl⟩
theorem tb_906 : q_in (.instanceMethod yX9_middle) := ⟨tbm_4 _ (List.mem_of_getElem? (i := 117) rfl), rfl⟩
theorem tb_907 : q_in (.selects "CardNobodyReads" yX9_middle yX9_middle) := ⟨tbm_4 _ (List.mem_of_getElem? (i := 118) rfl), rfl⟩
theorem tb_908 : q_in (.code yX9_middle cX9_middle 5 (some .int)) := ⟨tbm_4 _ (List.mem_of_getElem? (i := 119) rfl), rfl⟩
theorem tb_919 : q_in (.instanceMethod yX9_taste) := ⟨tbm_4 _ (List.mem_of_getElem? (i := 130) rfl), rfl⟩
theorem tb_920 : q_in (.selects "CardNobodyReads" yX9_taste yX9_taste) := ⟨tbm_4 _ (List.mem_of_getElem? (i := 131) rfl), rfl⟩
theorem tb_921 : q_in (.code yX9_taste cX9_taste 7 (some .int)) := ⟨tbm_4 _ (List.mem_of_getElem? (i := 132) rfl), rfl⟩
theorem tb_927 : q_in (.instanceMethod yX9_two) := ⟨tbm_4 _ (List.mem_of_getElem? (i := 138) rfl), rfl⟩
theorem tb_928 : q_in (.selects "CardNobodyReads" yX9_two yX9_two) := ⟨tbm_4 _ (List.mem_of_getElem? (i := 139) rfl), rfl⟩
theorem tb_929 : q_in (.code yX9_two cX9_two 8 (some .int)) := ⟨tbm_4 _ (List.mem_of_getElem? (i := 140) rfl), rfl⟩
theorem tb_936 : q_in (.instanceMethod yX9_ask) := ⟨tbm_4 _ (List.mem_of_getElem? (i := 147) rfl), rfl⟩
theorem tb_937 : q_in (.selects "CardNobodyReads" yX9_ask yX9_ask) := ⟨tbm_4 _ (List.mem_of_getElem? (i := 148) rfl), rfl⟩
theorem tb_938 : q_in (.code yX9_ask cX9_ask 9 (some .int)) := ⟨tbm_4 _ (List.mem_of_getElem? (i := 149) rfl), rfl⟩
theorem tb_941 : q_in (.instanceMethod yX9_would) := ⟨tbm_4 _ (List.mem_of_getElem? (i := 152) rfl), rfl⟩
theorem tb_942 : q_in (.selects "CardNobodyReads" yX9_would yX9_would) := ⟨tbm_4 _ (List.mem_of_getElem? (i := 153) rfl), rfl⟩
theorem tb_943 : q_in (.code yX9_would cX9_would 9 (some .int)) := ⟨tbm_4 _ (List.mem_of_getElem? (i := 154) rfl), rfl⟩
theorem tb_947 : q_in (.instanceMethod yX9_clash) := ⟨tbm_4 _ (List.mem_of_getElem? (i := 158) rfl), rfl⟩
theorem tb_948 : q_in (.selects "CardNobodyReads" yX9_clash yX9_clash) := ⟨tbm_4 _ (List.mem_of_getElem? (i := 159) rfl), rfl⟩
theorem tb_949 : q_in (.code yX9_clash cX9_clash 2 (some .int)) := ⟨tbm_4 _ (List.mem_of_getElem? (i := 160) rfl), rfl⟩
theorem tb_951 : q_in (.instanceMethod yX9_idle) := ⟨tbm_4 _ (List.mem_of_getElem? (i := 162) rfl), rfl⟩
theorem tb_952 : q_in (.selects "CardNobodyReads" yX9_idle yX9_idle) := ⟨tbm_4 _ (List.mem_of_getElem? (i := 163) rfl), rfl⟩
theorem tb_953 : q_in (.code yX9_idle cX9_idle 3 (some .int)) := ⟨tbm_4 _ (List.mem_of_getElem? (i := 164) rfl), rfl⟩
theorem tb_955 : q_in (.instanceMethod yX9_bill) := ⟨tbm_4 _ (List.mem_of_getElem? (i := 166) rfl), rfl⟩
theorem tb_956 : q_in (.selects "CardNobodyReads" yX9_bill yX9_bill) := ⟨tbm_4 _ (List.mem_of_getElem? (i := 167) rfl), rfl⟩
theorem tb_957 : q_in (.code yX9_bill cX9_bill 9 (some .int)) := ⟨tbm_4 _ (List.mem_of_getElem? (i := 168) rfl), rfl⟩
theorem tb_965 : q_in (.instanceMethod yX9_match) := ⟨tbm_4 _ (List.mem_of_getElem? (i := 176) rfl), rfl⟩
theorem tb_966 : q_in (.selects "CardNobodyReads" yX9_match yX9_match) := ⟨tbm_4 _ (List.mem_of_getElem? (i := 177) rfl), rfl⟩
theorem tb_967 : q_in (.code yX9_match cX9_match 5 (some .int)) := ⟨tbm_4 _ (List.mem_of_getElem? (i := 178) rfl), rfl⟩
theorem tb_993 : q_in (.instanceMethod yX9_film) := ⟨tbm_4 _ (List.mem_of_getElem? (i := 204) rfl), rfl⟩
theorem tb_994 : q_in (.selects "CardNobodyReads" yX9_film yX9_film) := ⟨tbm_4 _ (List.mem_of_getElem? (i := 205) rfl), rfl⟩
theorem tb_995 : q_in (.code yX9_film cX9_film 4 (some .int)) := ⟨tbm_4 _ (List.mem_of_getElem? (i := 206) rfl), rfl⟩
theorem tb_1006 : q_in (.instanceMethod yX9_laws) := ⟨tbm_4 _ (List.mem_of_getElem? (i := 217) rfl), rfl⟩
theorem tb_1007 : q_in (.selects "CardNobodyReads" yX9_laws yX9_laws) := ⟨tbm_4 _ (List.mem_of_getElem? (i := 218) rfl), rfl⟩
theorem tb_1008 : q_in (.code yX9_laws cX9_laws 3 (some .int)) := ⟨tbm_4 _ (List.mem_of_getElem? (i := 219) rfl), rfl⟩
theorem tb_1014 : q_in (.instanceMethod yX9_drawn) := ⟨tbm_4 _ (List.mem_of_getElem? (i := 225) rfl), rfl⟩
theorem tb_1015 : q_in (.selects "CardNobodyReads" yX9_drawn yX9_drawn) := ⟨tbm_4 _ (List.mem_of_getElem? (i := 226) rfl), rfl⟩
theorem tb_1016 : q_in (.code yX9_drawn cX9_drawn 4 (some .int)) := ⟨tbm_4 _ (List.mem_of_getElem? (i := 227) rfl), rfl⟩
theorem tb_1025 : q_in (.instanceMethod yX9_chance) := ⟨tbm_4 _ (List.mem_of_getElem? (i := 236) rfl), rfl⟩
theorem tb_1026 : q_in (.selects "CardNobodyReads" yX9_chance yX9_chance) := ⟨tbm_4 _ (List.mem_of_getElem? (i := 237) rfl), rfl⟩
theorem tb_1027 : q_in (.code yX9_chance cX9_chance 9 (some .long)) := ⟨tbm_4 _ (List.mem_of_getElem? (i := 238) rfl), rfl⟩
theorem tb_1029 : q_in (.instanceMethod yX9_image) := ⟨tbm_5 _ (List.mem_of_getElem? (i := 0) rfl), rfl⟩
theorem tb_1030 : q_in (.selects "CardNobodyReads" yX9_image yX9_image) := ⟨tbm_5 _ (List.mem_of_getElem? (i := 1) rfl), rfl⟩
theorem tb_1031 : q_in (.code yX9_image cX9_image 1 (some .int)) := ⟨tbm_5 _ (List.mem_of_getElem? (i := 2) rfl), rfl⟩
theorem tb_1034 : q_in (.instanceMethod yX9_back) := ⟨tbm_5 _ (List.mem_of_getElem? (i := 5) rfl), rfl⟩
theorem tb_1035 : q_in (.selects "CardNobodyReads" yX9_back yX9_back) := ⟨tbm_5 _ (List.mem_of_getElem? (i := 6) rfl), rfl⟩
theorem tb_1036 : q_in (.code yX9_back cX9_back 1 (some .int)) := ⟨tbm_5 _ (List.mem_of_getElem? (i := 7) rfl), rfl⟩
theorem tb_1038 : q_in (.instanceMethod yX9_sheet) := ⟨tbm_5 _ (List.mem_of_getElem? (i := 9) rfl), rfl⟩
theorem tb_1039 : q_in (.selects "CardNobodyReads" yX9_sheet yX9_sheet) := ⟨tbm_5 _ (List.mem_of_getElem? (i := 10) rfl), rfl⟩
theorem tb_1040 : q_in (.code yX9_sheet cX9_sheet 4 (some .int)) := ⟨tbm_5 _ (List.mem_of_getElem? (i := 11) rfl), rfl⟩
theorem tb_1042 : q_in (.instanceMethod yX9_cell) := ⟨tbm_5 _ (List.mem_of_getElem? (i := 13) rfl), rfl⟩
theorem tb_1043 : q_in (.selects "CardNobodyReads" yX9_cell yX9_cell) := ⟨tbm_5 _ (List.mem_of_getElem? (i := 14) rfl), rfl⟩
theorem tb_1044 : q_in (.code yX9_cell cX9_cell 4 (some .int)) := ⟨tbm_5 _ (List.mem_of_getElem? (i := 15) rfl), rfl⟩
theorem tb_1046 : q_in (.instanceMethod yX9_copy) := ⟨tbm_5 _ (List.mem_of_getElem? (i := 17) rfl), rfl⟩
theorem tb_1047 : q_in (.selects "CardNobodyReads" yX9_copy yX9_copy) := ⟨tbm_5 _ (List.mem_of_getElem? (i := 18) rfl), rfl⟩
theorem tb_1048 : q_in (.code yX9_copy cX9_copy 6 (some .int)) := ⟨tbm_5 _ (List.mem_of_getElem? (i := 19) rfl), rfl⟩
theorem tb_1057 : q_in (.instanceMethod yX9_linesBy) := ⟨tbm_5 _ (List.mem_of_getElem? (i := 28) rfl), rfl⟩
theorem tb_1058 : q_in (.selects "CardNobodyReads" yX9_linesBy yX9_linesBy) := ⟨tbm_5 _ (List.mem_of_getElem? (i := 29) rfl), rfl⟩
theorem tb_1059 : q_in (.code yX9_linesBy cX9_linesBy 9 (some .int)) := ⟨tbm_5 _ (List.mem_of_getElem? (i := 30) rfl), rfl⟩
theorem tb_1061 : q_in (.instanceMethod yX9_taken) := ⟨tbm_5 _ (List.mem_of_getElem? (i := 32) rfl), rfl⟩
theorem tb_1062 : q_in (.selects "CardNobodyReads" yX9_taken yX9_taken) := ⟨tbm_5 _ (List.mem_of_getElem? (i := 33) rfl), rfl⟩
theorem tb_1063 : q_in (.code yX9_taken cX9_taken 4 (some .int)) := ⟨tbm_5 _ (List.mem_of_getElem? (i := 34) rfl), rfl⟩
theorem tb_1076 : q_in (.instanceMethod yX10_text) := ⟨tbm_5 _ (List.mem_of_getElem? (i := 47) rfl), rfl⟩
theorem tb_1077 : q_in (.selects "CardNobodyReadsModel" yX10_text yX10_text) := ⟨tbm_5 _ (List.mem_of_getElem? (i := 48) rfl), rfl⟩
theorem tb_1078 : q_in (.code yX10_text cX10_text 3 (some .int)) := ⟨tbm_5 _ (List.mem_of_getElem? (i := 49) rfl), rfl⟩
theorem tb_1125 : q_in (.instanceMethod yX10_isTongue) := ⟨tbm_5 _ (List.mem_of_getElem? (i := 96) rfl), rfl⟩
theorem tb_1126 : q_in (.code yX10_isTongue cX10_isTongue 6 (some .boolean)) := ⟨tbm_5 _ (List.mem_of_getElem? (i := 97) rfl), rfl⟩
theorem tb_1277 : q_in (.instanceMethod yX10_lineTold) := ⟨tbm_6 _ (List.mem_of_getElem? (i := 8) rfl), rfl⟩
theorem tb_1278 : q_in (.selects "CardNobodyReadsModel" yX10_lineTold yX10_lineTold) := ⟨tbm_6 _ (List.mem_of_getElem? (i := 9) rfl), rfl⟩
theorem tb_1279 : q_in (.code yX10_lineTold cX10_lineTold 3 (some .int)) := ⟨tbm_6 _ (List.mem_of_getElem? (i := 10) rfl), rfl⟩
theorem tb_1285 : q_in (.instanceMethod yX10_set) := ⟨tbm_6 _ (List.mem_of_getElem? (i := 16) rfl), rfl⟩
theorem tb_1286 : q_in (.selects "CardNobodyReadsModel" yX10_set yX10_set) := ⟨tbm_6 _ (List.mem_of_getElem? (i := 17) rfl), rfl⟩
theorem tb_1287 : q_in (.code yX10_set cX10_set 4 (some .int)) := ⟨tbm_6 _ (List.mem_of_getElem? (i := 18) rfl), rfl⟩
theorem tb_1289 : q_in (.instanceMethod yX10_guest) := ⟨tbm_6 _ (List.mem_of_getElem? (i := 20) rfl), rfl⟩
theorem tb_1290 : q_in (.selects "CardNobodyReadsModel" yX10_guest yX10_guest) := ⟨tbm_6 _ (List.mem_of_getElem? (i := 21) rfl), rfl⟩
theorem tb_1291 : q_in (.code yX10_guest cX10_guest 2 (some .int)) := ⟨tbm_6 _ (List.mem_of_getElem? (i := 22) rfl), rfl⟩
theorem tb_1293 : q_in (.instanceMethod yX10_guestTold) := ⟨tbm_6 _ (List.mem_of_getElem? (i := 24) rfl), rfl⟩
theorem tb_1294 : q_in (.selects "CardNobodyReadsModel" yX10_guestTold yX10_guestTold) := ⟨tbm_6 _ (List.mem_of_getElem? (i := 25) rfl), rfl⟩
theorem tb_1295 : q_in (.code yX10_guestTold cX10_guestTold 2 (some .int)) := ⟨tbm_6 _ (List.mem_of_getElem? (i := 26) rfl), rfl⟩
theorem tb_1301 : q_in (.instanceMethod yX10_pays) := ⟨tbm_6 _ (List.mem_of_getElem? (i := 32) rfl), rfl⟩
theorem tb_1302 : q_in (.selects "CardNobodyReadsModel" yX10_pays yX10_pays) := ⟨tbm_6 _ (List.mem_of_getElem? (i := 33) rfl), rfl⟩
theorem tb_1303 : q_in (.code yX10_pays cX10_pays 3 (some .int)) := ⟨tbm_6 _ (List.mem_of_getElem? (i := 34) rfl), rfl⟩
theorem tb_1305 : q_in (.instanceMethod yX10_count) := ⟨tbm_6 _ (List.mem_of_getElem? (i := 36) rfl), rfl⟩
theorem tb_1306 : q_in (.selects "CardNobodyReadsModel" yX10_count yX10_count) := ⟨tbm_6 _ (List.mem_of_getElem? (i := 37) rfl), rfl⟩
theorem tb_1307 : q_in (.code yX10_count cX10_count 2 (some .int)) := ⟨tbm_6 _ (List.mem_of_getElem? (i := 38) rfl), rfl⟩
theorem tb_1309 : q_in (.instanceMethod yX10_feed) := ⟨tbm_6 _ (List.mem_of_getElem? (i := 40) rfl), rfl⟩
theorem tb_1310 : q_in (.selects "CardNobodyReadsModel" yX10_feed yX10_feed) := ⟨tbm_6 _ (List.mem_of_getElem? (i := 41) rfl), rfl⟩
theorem tb_1311 : q_in (.code yX10_feed cX10_feed 8 (some .int)) := ⟨tbm_6 _ (List.mem_of_getElem? (i := 42) rfl), rfl⟩
theorem tb_1317 : q_in (.instanceMethod yX10_force) := ⟨tbm_6 _ (List.mem_of_getElem? (i := 48) rfl), rfl⟩
theorem tb_1318 : q_in (.selects "CardNobodyReadsModel" yX10_force yX10_force) := ⟨tbm_6 _ (List.mem_of_getElem? (i := 49) rfl), rfl⟩
theorem tb_1319 : q_in (.code yX10_force cX10_force 3 (some .int)) := ⟨tbm_6 _ (List.mem_of_getElem? (i := 50) rfl), rfl⟩
theorem tb_1321 : q_in (.instanceMethod yX10_asks) := ⟨tbm_6 _ (List.mem_of_getElem? (i := 52) rfl), rfl⟩
theorem tb_1322 : q_in (.selects "CardNobodyReadsModel" yX10_asks yX10_asks) := ⟨tbm_6 _ (List.mem_of_getElem? (i := 53) rfl), rfl⟩
theorem tb_1323 : q_in (.code yX10_asks cX10_asks 7 (some .int)) := ⟨tbm_6 _ (List.mem_of_getElem? (i := 54) rfl), rfl⟩
theorem tb_1339 : q_in (.instanceMethod yX10_know) := ⟨tbm_6 _ (List.mem_of_getElem? (i := 70) rfl), rfl⟩
theorem tb_1340 : q_in (.selects "CardNobodyReadsModel" yX10_know yX10_know) := ⟨tbm_6 _ (List.mem_of_getElem? (i := 71) rfl), rfl⟩
theorem tb_1341 : q_in (.code yX10_know cX10_know 5 (some .int)) := ⟨tbm_6 _ (List.mem_of_getElem? (i := 72) rfl), rfl⟩
theorem tb_1351 : q_in (.instanceMethod yX10_forget) := ⟨tbm_6 _ (List.mem_of_getElem? (i := 82) rfl), rfl⟩
theorem tb_1352 : q_in (.selects "CardNobodyReadsModel" yX10_forget yX10_forget) := ⟨tbm_6 _ (List.mem_of_getElem? (i := 83) rfl), rfl⟩
theorem tb_1353 : q_in (.code yX10_forget cX10_forget 1 (some .int)) := ⟨tbm_6 _ (List.mem_of_getElem? (i := 84) rfl), rfl⟩
theorem tb_1355 : q_in (.instanceMethod yX10_factTold) := ⟨tbm_6 _ (List.mem_of_getElem? (i := 86) rfl), rfl⟩
theorem tb_1356 : q_in (.selects "CardNobodyReadsModel" yX10_factTold yX10_factTold) := ⟨tbm_6 _ (List.mem_of_getElem? (i := 87) rfl), rfl⟩
theorem tb_1357 : q_in (.code yX10_factTold cX10_factTold 3 (some .int)) := ⟨tbm_6 _ (List.mem_of_getElem? (i := 88) rfl), rfl⟩
theorem tb_1359 : q_in (.instanceMethod yX10_sets) := ⟨tbm_6 _ (List.mem_of_getElem? (i := 90) rfl), rfl⟩
theorem tb_1360 : q_in (.selects "CardNobodyReadsModel" yX10_sets yX10_sets) := ⟨tbm_6 _ (List.mem_of_getElem? (i := 91) rfl), rfl⟩
theorem tb_1361 : q_in (.code yX10_sets cX10_sets 1 (some .int)) := ⟨tbm_6 _ (List.mem_of_getElem? (i := 92) rfl), rfl⟩
theorem tb_1383 : q_in (.instanceMethod yX10_first) := ⟨tbm_6 _ (List.mem_of_getElem? (i := 114) rfl), rfl⟩
theorem tb_1384 : q_in (.selects "CardNobodyReadsModel" yX10_first yX10_first) := ⟨tbm_6 _ (List.mem_of_getElem? (i := 115) rfl), rfl⟩
theorem tb_1385 : q_in (.code yX10_first cX10_first 2 (some .int)) := ⟨tbm_6 _ (List.mem_of_getElem? (i := 116) rfl), rfl⟩
theorem tb_1394 : q_in (.instanceMethod yX10_means) := ⟨tbm_6 _ (List.mem_of_getElem? (i := 125) rfl), rfl⟩
theorem tb_1395 : q_in (.selects "CardNobodyReadsModel" yX10_means yX10_means) := ⟨tbm_6 _ (List.mem_of_getElem? (i := 126) rfl), rfl⟩
theorem tb_1396 : q_in (.code yX10_means cX10_means 3 (some .int)) := ⟨tbm_6 _ (List.mem_of_getElem? (i := 127) rfl), rfl⟩
theorem tb_1402 : q_in (.instanceMethod yX10_sure) := ⟨tbm_6 _ (List.mem_of_getElem? (i := 133) rfl), rfl⟩
theorem tb_1403 : q_in (.selects "CardNobodyReadsModel" yX10_sure yX10_sure) := ⟨tbm_6 _ (List.mem_of_getElem? (i := 134) rfl), rfl⟩
theorem tb_1404 : q_in (.code yX10_sure cX10_sure 2 (some .int)) := ⟨tbm_6 _ (List.mem_of_getElem? (i := 135) rfl), rfl⟩
theorem tb_1410 : q_in (.instanceMethod yX10_doubt) := ⟨tbm_6 _ (List.mem_of_getElem? (i := 141) rfl), rfl⟩
theorem tb_1411 : q_in (.selects "CardNobodyReadsModel" yX10_doubt yX10_doubt) := ⟨tbm_6 _ (List.mem_of_getElem? (i := 142) rfl), rfl⟩
theorem tb_1412 : q_in (.code yX10_doubt cX10_doubt 4 (some .int)) := ⟨tbm_6 _ (List.mem_of_getElem? (i := 143) rfl), rfl⟩
theorem tb_1414 : q_in (.instanceMethod yX10_odds) := ⟨tbm_6 _ (List.mem_of_getElem? (i := 145) rfl), rfl⟩
theorem tb_1415 : q_in (.selects "CardNobodyReadsModel" yX10_odds yX10_odds) := ⟨tbm_6 _ (List.mem_of_getElem? (i := 146) rfl), rfl⟩
theorem tb_1416 : q_in (.code yX10_odds cX10_odds 4 (some .long)) := ⟨tbm_6 _ (List.mem_of_getElem? (i := 147) rfl), rfl⟩
theorem tb_1426 : q_in (.instanceMethod yX10_has) := ⟨tbm_6 _ (List.mem_of_getElem? (i := 157) rfl), rfl⟩
theorem tb_1427 : q_in (.selects "CardNobodyReadsModel" yX10_has yX10_has) := ⟨tbm_6 _ (List.mem_of_getElem? (i := 158) rfl), rfl⟩
theorem tb_1428 : q_in (.code yX10_has cX10_has 6 (some .long)) := ⟨tbm_6 _ (List.mem_of_getElem? (i := 159) rfl), rfl⟩
theorem tb_1430 : q_in (.instanceMethod yX10_partsOfLine) := ⟨tbm_6 _ (List.mem_of_getElem? (i := 161) rfl), rfl⟩
theorem tb_1431 : q_in (.selects "CardNobodyReadsModel" yX10_partsOfLine yX10_partsOfLine) := ⟨tbm_6 _ (List.mem_of_getElem? (i := 162) rfl), rfl⟩
theorem tb_1432 : q_in (.code yX10_partsOfLine cX10_partsOfLine 6 (some .int)) := ⟨tbm_6 _ (List.mem_of_getElem? (i := 163) rfl), rfl⟩
theorem tb_1434 : q_in (.instanceMethod yX10_safe) := ⟨tbm_6 _ (List.mem_of_getElem? (i := 165) rfl), rfl⟩
theorem tb_1435 : q_in (.selects "CardNobodyReadsModel" yX10_safe yX10_safe) := ⟨tbm_6 _ (List.mem_of_getElem? (i := 166) rfl), rfl⟩
theorem tb_1436 : q_in (.code yX10_safe cX10_safe 2 (some .int)) := ⟨tbm_6 _ (List.mem_of_getElem? (i := 167) rfl), rfl⟩
theorem tb_1446 : q_in (.instanceMethod yX10_risk) := ⟨tbm_6 _ (List.mem_of_getElem? (i := 177) rfl), rfl⟩
theorem tb_1447 : q_in (.selects "CardNobodyReadsModel" yX10_risk yX10_risk) := ⟨tbm_6 _ (List.mem_of_getElem? (i := 178) rfl), rfl⟩
theorem tb_1448 : q_in (.code yX10_risk cX10_risk 4 (some .long)) := ⟨tbm_6 _ (List.mem_of_getElem? (i := 179) rfl), rfl⟩
theorem tb_1450 : q_in (.instanceMethod yX10_order) := ⟨tbm_6 _ (List.mem_of_getElem? (i := 181) rfl), rfl⟩
theorem tb_1451 : q_in (.selects "CardNobodyReadsModel" yX10_order yX10_order) := ⟨tbm_6 _ (List.mem_of_getElem? (i := 182) rfl), rfl⟩
theorem tb_1452 : q_in (.code yX10_order cX10_order 2 (some .int)) := ⟨tbm_6 _ (List.mem_of_getElem? (i := 183) rfl), rfl⟩
theorem tb_1470 : q_in (.instanceMethod yX10_ordered) := ⟨tbm_6 _ (List.mem_of_getElem? (i := 201) rfl), rfl⟩
theorem tb_1471 : q_in (.selects "CardNobodyReadsModel" yX10_ordered yX10_ordered) := ⟨tbm_6 _ (List.mem_of_getElem? (i := 202) rfl), rfl⟩
theorem tb_1472 : q_in (.code yX10_ordered cX10_ordered 2 (some .int)) := ⟨tbm_6 _ (List.mem_of_getElem? (i := 203) rfl), rfl⟩
theorem tb_1474 : q_in (.instanceMethod yX10_middle) := ⟨tbm_6 _ (List.mem_of_getElem? (i := 205) rfl), rfl⟩
theorem tb_1475 : q_in (.selects "CardNobodyReadsModel" yX10_middle yX10_middle) := ⟨tbm_6 _ (List.mem_of_getElem? (i := 206) rfl), rfl⟩
theorem tb_1476 : q_in (.code yX10_middle cX10_middle 7 (some .int)) := ⟨tbm_6 _ (List.mem_of_getElem? (i := 207) rfl), rfl⟩
theorem tb_1478 : q_in (.instanceMethod yX10_taste) := ⟨tbm_6 _ (List.mem_of_getElem? (i := 209) rfl), rfl⟩
theorem tb_1479 : q_in (.selects "CardNobodyReadsModel" yX10_taste yX10_taste) := ⟨tbm_6 _ (List.mem_of_getElem? (i := 210) rfl), rfl⟩
theorem tb_1480 : q_in (.code yX10_taste cX10_taste 6 (some .int)) := ⟨tbm_6 _ (List.mem_of_getElem? (i := 211) rfl), rfl⟩
theorem tb_1490 : q_in (.instanceMethod yX10_two) := ⟨tbm_6 _ (List.mem_of_getElem? (i := 221) rfl), rfl⟩
theorem tb_1491 : q_in (.selects "CardNobodyReadsModel" yX10_two yX10_two) := ⟨tbm_6 _ (List.mem_of_getElem? (i := 222) rfl), rfl⟩
theorem tb_1492 : q_in (.code yX10_two cX10_two 8 (some .int)) := ⟨tbm_6 _ (List.mem_of_getElem? (i := 223) rfl), rfl⟩
theorem tb_1494 : q_in (.instanceMethod yX10_ask) := ⟨tbm_6 _ (List.mem_of_getElem? (i := 225) rfl), rfl⟩
theorem tb_1495 : q_in (.selects "CardNobodyReadsModel" yX10_ask yX10_ask) := ⟨tbm_6 _ (List.mem_of_getElem? (i := 226) rfl), rfl⟩
theorem tb_1496 : q_in (.code yX10_ask cX10_ask 8 (some .int)) := ⟨tbm_6 _ (List.mem_of_getElem? (i := 227) rfl), rfl⟩
theorem tb_1498 : q_in (.instanceMethod yX10_would) := ⟨tbm_6 _ (List.mem_of_getElem? (i := 229) rfl), rfl⟩
theorem tb_1499 : q_in (.selects "CardNobodyReadsModel" yX10_would yX10_would) := ⟨tbm_6 _ (List.mem_of_getElem? (i := 230) rfl), rfl⟩
theorem tb_1500 : q_in (.code yX10_would cX10_would 5 (some .int)) := ⟨tbm_6 _ (List.mem_of_getElem? (i := 231) rfl), rfl⟩
theorem tb_1502 : q_in (.instanceMethod yX10_clash) := ⟨tbm_6 _ (List.mem_of_getElem? (i := 233) rfl), rfl⟩
theorem tb_1503 : q_in (.selects "CardNobodyReadsModel" yX10_clash yX10_clash) := ⟨tbm_6 _ (List.mem_of_getElem? (i := 234) rfl), rfl⟩
theorem tb_1504 : q_in (.code yX10_clash cX10_clash 3 (some .int)) := ⟨tbm_6 _ (List.mem_of_getElem? (i := 235) rfl), rfl⟩
theorem tb_1510 : q_in (.instanceMethod yX10_idle) := ⟨tbm_7 _ (List.mem_of_getElem? (i := 1) rfl), rfl⟩
theorem tb_1511 : q_in (.selects "CardNobodyReadsModel" yX10_idle yX10_idle) := ⟨tbm_7 _ (List.mem_of_getElem? (i := 2) rfl), rfl⟩
theorem tb_1512 : q_in (.code yX10_idle cX10_idle 3 (some .int)) := ⟨tbm_7 _ (List.mem_of_getElem? (i := 3) rfl), rfl⟩
theorem tb_1514 : q_in (.instanceMethod yX10_bill) := ⟨tbm_7 _ (List.mem_of_getElem? (i := 5) rfl), rfl⟩
theorem tb_1515 : q_in (.selects "CardNobodyReadsModel" yX10_bill yX10_bill) := ⟨tbm_7 _ (List.mem_of_getElem? (i := 6) rfl), rfl⟩
theorem tb_1516 : q_in (.code yX10_bill cX10_bill 10 (some .int)) := ⟨tbm_7 _ (List.mem_of_getElem? (i := 7) rfl), rfl⟩
theorem tb_1518 : q_in (.instanceMethod yX10_match) := ⟨tbm_7 _ (List.mem_of_getElem? (i := 9) rfl), rfl⟩
theorem tb_1519 : q_in (.selects "CardNobodyReadsModel" yX10_match yX10_match) := ⟨tbm_7 _ (List.mem_of_getElem? (i := 10) rfl), rfl⟩
theorem tb_1520 : q_in (.code yX10_match cX10_match 6 (some .int)) := ⟨tbm_7 _ (List.mem_of_getElem? (i := 11) rfl), rfl⟩
theorem tb_1522 : q_in (.instanceMethod yX10_film) := ⟨tbm_7 _ (List.mem_of_getElem? (i := 13) rfl), rfl⟩
theorem tb_1523 : q_in (.selects "CardNobodyReadsModel" yX10_film yX10_film) := ⟨tbm_7 _ (List.mem_of_getElem? (i := 14) rfl), rfl⟩
theorem tb_1524 : q_in (.code yX10_film cX10_film 3 (some .int)) := ⟨tbm_7 _ (List.mem_of_getElem? (i := 15) rfl), rfl⟩
theorem tb_1526 : q_in (.instanceMethod yX10_laws) := ⟨tbm_7 _ (List.mem_of_getElem? (i := 17) rfl), rfl⟩
theorem tb_1527 : q_in (.selects "CardNobodyReadsModel" yX10_laws yX10_laws) := ⟨tbm_7 _ (List.mem_of_getElem? (i := 18) rfl), rfl⟩
theorem tb_1528 : q_in (.code yX10_laws cX10_laws 4 (some .int)) := ⟨tbm_7 _ (List.mem_of_getElem? (i := 19) rfl), rfl⟩
theorem tb_1530 : q_in (.instanceMethod yX10_drawn) := ⟨tbm_7 _ (List.mem_of_getElem? (i := 21) rfl), rfl⟩
theorem tb_1531 : q_in (.selects "CardNobodyReadsModel" yX10_drawn yX10_drawn) := ⟨tbm_7 _ (List.mem_of_getElem? (i := 22) rfl), rfl⟩
theorem tb_1532 : q_in (.code yX10_drawn cX10_drawn 3 (some .int)) := ⟨tbm_7 _ (List.mem_of_getElem? (i := 23) rfl), rfl⟩
theorem tb_1541 : q_in (.instanceMethod yX10_chance) := ⟨tbm_7 _ (List.mem_of_getElem? (i := 32) rfl), rfl⟩
theorem tb_1542 : q_in (.selects "CardNobodyReadsModel" yX10_chance yX10_chance) := ⟨tbm_7 _ (List.mem_of_getElem? (i := 33) rfl), rfl⟩
theorem tb_1543 : q_in (.code yX10_chance cX10_chance 9 (some .long)) := ⟨tbm_7 _ (List.mem_of_getElem? (i := 34) rfl), rfl⟩
theorem tb_1545 : q_in (.instanceMethod yX10_image) := ⟨tbm_7 _ (List.mem_of_getElem? (i := 36) rfl), rfl⟩
theorem tb_1546 : q_in (.selects "CardNobodyReadsModel" yX10_image yX10_image) := ⟨tbm_7 _ (List.mem_of_getElem? (i := 37) rfl), rfl⟩
theorem tb_1547 : q_in (.code yX10_image cX10_image 2 (some .int)) := ⟨tbm_7 _ (List.mem_of_getElem? (i := 38) rfl), rfl⟩
theorem tb_1549 : q_in (.instanceMethod yX10_back) := ⟨tbm_7 _ (List.mem_of_getElem? (i := 40) rfl), rfl⟩
theorem tb_1550 : q_in (.selects "CardNobodyReadsModel" yX10_back yX10_back) := ⟨tbm_7 _ (List.mem_of_getElem? (i := 41) rfl), rfl⟩
theorem tb_1551 : q_in (.code yX10_back cX10_back 2 (some .int)) := ⟨tbm_7 _ (List.mem_of_getElem? (i := 42) rfl), rfl⟩
theorem tb_1553 : q_in (.instanceMethod yX10_sheet) := ⟨tbm_7 _ (List.mem_of_getElem? (i := 44) rfl), rfl⟩
theorem tb_1554 : q_in (.selects "CardNobodyReadsModel" yX10_sheet yX10_sheet) := ⟨tbm_7 _ (List.mem_of_getElem? (i := 45) rfl), rfl⟩
theorem tb_1555 : q_in (.code yX10_sheet cX10_sheet 5 (some .int)) := ⟨tbm_7 _ (List.mem_of_getElem? (i := 46) rfl), rfl⟩
theorem tb_1557 : q_in (.instanceMethod yX10_cell) := ⟨tbm_7 _ (List.mem_of_getElem? (i := 48) rfl), rfl⟩
theorem tb_1558 : q_in (.selects "CardNobodyReadsModel" yX10_cell yX10_cell) := ⟨tbm_7 _ (List.mem_of_getElem? (i := 49) rfl), rfl⟩
theorem tb_1559 : q_in (.code yX10_cell cX10_cell 4 (some .int)) := ⟨tbm_7 _ (List.mem_of_getElem? (i := 50) rfl), rfl⟩
theorem tb_1561 : q_in (.instanceMethod yX10_copy) := ⟨tbm_7 _ (List.mem_of_getElem? (i := 52) rfl), rfl⟩
theorem tb_1562 : q_in (.selects "CardNobodyReadsModel" yX10_copy yX10_copy) := ⟨tbm_7 _ (List.mem_of_getElem? (i := 53) rfl), rfl⟩
theorem tb_1563 : q_in (.code yX10_copy cX10_copy 10 (some .int)) := ⟨tbm_7 _ (List.mem_of_getElem? (i := 54) rfl), rfl⟩
theorem tb_1565 : q_in (.instanceMethod yX10_linesBy) := ⟨tbm_7 _ (List.mem_of_getElem? (i := 56) rfl), rfl⟩
theorem tb_1566 : q_in (.selects "CardNobodyReadsModel" yX10_linesBy yX10_linesBy) := ⟨tbm_7 _ (List.mem_of_getElem? (i := 57) rfl), rfl⟩
theorem tb_1567 : q_in (.code yX10_linesBy cX10_linesBy 9 (some .int)) := ⟨tbm_7 _ (List.mem_of_getElem? (i := 58) rfl), rfl⟩
theorem tb_1570 : q_in (.instanceMethod yX10_taken) := ⟨tbm_7 _ (List.mem_of_getElem? (i := 61) rfl), rfl⟩
theorem tb_1571 : q_in (.selects "CardNobodyReadsModel" yX10_taken yX10_taken) := ⟨tbm_7 _ (List.mem_of_getElem? (i := 62) rfl), rfl⟩
theorem tb_1572 : q_in (.code yX10_taken cX10_taken 3 (some .int)) := ⟨tbm_7 _ (List.mem_of_getElem? (i := 63) rfl), rfl⟩
theorem msX7_spell : q_mv MX7_spell 1 := ⟨⟨tb_106, tb_71, ⟨by decide +kernel, by decide +kernel⟩, by decide +kernel⟩, tb_105, tb_0⟩
theorem msX10_text : q_mv MX10_text 0 := ⟨⟨tb_1078, tb_87, ⟨by decide +kernel, by decide +kernel⟩, by decide +kernel⟩, tb_1076, tb_1077⟩
theorem msX10_isTongue : q_mv MX10_isTongue 2 := ⟨⟨tb_1126, tb_87, ⟨by decide +kernel, by decide +kernel⟩, by decide +kernel⟩, tb_1125, tb_43⟩
theorem msX9_line : q_mv MX9_line 2 := ⟨⟨tb_596, tb_70, ⟨by decide +kernel, by decide +kernel⟩, by decide +kernel⟩, tb_594, tb_595⟩
theorem msX9_lineTold : q_mv MX9_lineTold 2 := ⟨⟨tb_631, tb_70, ⟨by decide +kernel, by decide +kernel⟩, by decide +kernel⟩, tb_629, tb_630⟩
theorem msX10_lineTold : q_mv MX10_lineTold 2 := ⟨⟨tb_1279, tb_87, ⟨by decide +kernel, by decide +kernel⟩, by decide +kernel⟩, tb_1277, tb_1278⟩
theorem msX9_set : q_mv MX9_set 2 := ⟨⟨tb_648, tb_70, ⟨by decide +kernel, by decide +kernel⟩, by decide +kernel⟩, tb_646, tb_647⟩
theorem msX10_set : q_mv MX10_set 2 := ⟨⟨tb_1287, tb_87, ⟨by decide +kernel, by decide +kernel⟩, by decide +kernel⟩, tb_1285, tb_1286⟩
theorem msX9_guest : q_mv MX9_guest 1 := ⟨⟨tb_653, tb_70, ⟨by decide +kernel, by decide +kernel⟩, by decide +kernel⟩, tb_651, tb_652⟩
theorem msX10_guest : q_mv MX10_guest 1 := ⟨⟨tb_1291, tb_87, ⟨by decide +kernel, by decide +kernel⟩, by decide +kernel⟩, tb_1289, tb_1290⟩
theorem msX9_guestTold : q_mv MX9_guestTold 1 := ⟨⟨tb_658, tb_70, ⟨by decide +kernel, by decide +kernel⟩, by decide +kernel⟩, tb_656, tb_657⟩
theorem msX10_guestTold : q_mv MX10_guestTold 1 := ⟨⟨tb_1295, tb_87, ⟨by decide +kernel, by decide +kernel⟩, by decide +kernel⟩, tb_1293, tb_1294⟩
theorem msX9_pays : q_mv MX9_pays 1 := ⟨⟨tb_667, tb_70, ⟨by decide +kernel, by decide +kernel⟩, by decide +kernel⟩, tb_665, tb_666⟩
theorem msX10_pays : q_mv MX10_pays 1 := ⟨⟨tb_1303, tb_87, ⟨by decide +kernel, by decide +kernel⟩, by decide +kernel⟩, tb_1301, tb_1302⟩
theorem msX9_count : q_mv MX9_count 1 := ⟨⟨tb_671, tb_70, ⟨by decide +kernel, by decide +kernel⟩, by decide +kernel⟩, tb_669, tb_670⟩
theorem msX10_count : q_mv MX10_count 1 := ⟨⟨tb_1307, tb_87, ⟨by decide +kernel, by decide +kernel⟩, by decide +kernel⟩, tb_1305, tb_1306⟩
theorem msX9_feed : q_mv MX9_feed 6 := ⟨⟨tb_675, tb_70, ⟨by decide +kernel, by decide +kernel⟩, by decide +kernel⟩, tb_673, tb_674⟩
theorem msX10_feed : q_mv MX10_feed 6 := ⟨⟨tb_1311, tb_87, ⟨by decide +kernel, by decide +kernel⟩, by decide +kernel⟩, tb_1309, tb_1310⟩
theorem msX9_text : q_mv MX9_text 0 := ⟨⟨tb_683, tb_70, ⟨by decide +kernel, by decide +kernel⟩, by decide +kernel⟩, tb_681, tb_682⟩
theorem msX9_force : q_mv MX9_force 1 := ⟨⟨tb_688, tb_70, ⟨by decide +kernel, by decide +kernel⟩, by decide +kernel⟩, tb_686, tb_687⟩
theorem msX10_force : q_mv MX10_force 1 := ⟨⟨tb_1319, tb_87, ⟨by decide +kernel, by decide +kernel⟩, by decide +kernel⟩, tb_1317, tb_1318⟩
theorem msX9_asks : q_mv MX9_asks 5 := ⟨⟨tb_692, tb_70, ⟨by decide +kernel, by decide +kernel⟩, by decide +kernel⟩, tb_690, tb_691⟩
theorem msX10_asks : q_mv MX10_asks 5 := ⟨⟨tb_1323, tb_87, ⟨by decide +kernel, by decide +kernel⟩, by decide +kernel⟩, tb_1321, tb_1322⟩
theorem msX9_know : q_mv MX9_know 4 := ⟨⟨tb_710, tb_70, ⟨by decide +kernel, by decide +kernel⟩, by decide +kernel⟩, tb_708, tb_709⟩
theorem msX10_know : q_mv MX10_know 4 := ⟨⟨tb_1341, tb_87, ⟨by decide +kernel, by decide +kernel⟩, by decide +kernel⟩, tb_1339, tb_1340⟩
theorem msX9_forget : q_mv MX9_forget 0 := ⟨⟨tb_723, tb_70, ⟨by decide +kernel, by decide +kernel⟩, by decide +kernel⟩, tb_721, tb_722⟩
theorem msX10_forget : q_mv MX10_forget 0 := ⟨⟨tb_1353, tb_87, ⟨by decide +kernel, by decide +kernel⟩, by decide +kernel⟩, tb_1351, tb_1352⟩
theorem msX9_factTold : q_mv MX9_factTold 2 := ⟨⟨tb_727, tb_70, ⟨by decide +kernel, by decide +kernel⟩, by decide +kernel⟩, tb_725, tb_726⟩
theorem msX10_factTold : q_mv MX10_factTold 2 := ⟨⟨tb_1357, tb_87, ⟨by decide +kernel, by decide +kernel⟩, by decide +kernel⟩, tb_1355, tb_1356⟩
theorem msX9_sets : q_mv MX9_sets 0 := ⟨⟨tb_731, tb_70, ⟨by decide +kernel, by decide +kernel⟩, by decide +kernel⟩, tb_729, tb_730⟩
theorem msX10_sets : q_mv MX10_sets 0 := ⟨⟨tb_1361, tb_87, ⟨by decide +kernel, by decide +kernel⟩, by decide +kernel⟩, tb_1359, tb_1360⟩
theorem msX9_first : q_mv MX9_first 1 := ⟨⟨tb_779, tb_70, ⟨by decide +kernel, by decide +kernel⟩, by decide +kernel⟩, tb_777, tb_778⟩
theorem msX10_first : q_mv MX10_first 1 := ⟨⟨tb_1385, tb_87, ⟨by decide +kernel, by decide +kernel⟩, by decide +kernel⟩, tb_1383, tb_1384⟩
theorem msX9_means : q_mv MX9_means 2 := ⟨⟨tb_791, tb_70, ⟨by decide +kernel, by decide +kernel⟩, by decide +kernel⟩, tb_789, tb_790⟩
theorem msX10_means : q_mv MX10_means 2 := ⟨⟨tb_1396, tb_87, ⟨by decide +kernel, by decide +kernel⟩, by decide +kernel⟩, tb_1394, tb_1395⟩
theorem msX9_sure : q_mv MX9_sure 1 := ⟨⟨tb_802, tb_70, ⟨by decide +kernel, by decide +kernel⟩, by decide +kernel⟩, tb_800, tb_801⟩
theorem msX10_sure : q_mv MX10_sure 1 := ⟨⟨tb_1404, tb_87, ⟨by decide +kernel, by decide +kernel⟩, by decide +kernel⟩, tb_1402, tb_1403⟩
theorem msX9_doubt : q_mv MX9_doubt 1 := ⟨⟨tb_806, tb_70, ⟨by decide +kernel, by decide +kernel⟩, by decide +kernel⟩, tb_804, tb_805⟩
theorem msX10_doubt : q_mv MX10_doubt 1 := ⟨⟨tb_1412, tb_87, ⟨by decide +kernel, by decide +kernel⟩, by decide +kernel⟩, tb_1410, tb_1411⟩
theorem msX9_odds : q_mv MX9_odds 3 := ⟨⟨tb_815, tb_70, ⟨by decide +kernel, by decide +kernel⟩, by decide +kernel⟩, tb_813, tb_814⟩
theorem msX10_odds : q_mv MX10_odds 3 := ⟨⟨tb_1416, tb_87, ⟨by decide +kernel, by decide +kernel⟩, by decide +kernel⟩, tb_1414, tb_1415⟩
theorem msX9_has : q_mv MX9_has 3 := ⟨⟨tb_829, tb_70, ⟨by decide +kernel, by decide +kernel⟩, by decide +kernel⟩, tb_827, tb_828⟩
theorem msX10_has : q_mv MX10_has 3 := ⟨⟨tb_1428, tb_87, ⟨by decide +kernel, by decide +kernel⟩, by decide +kernel⟩, tb_1426, tb_1427⟩
theorem msX9_partsOfLine : q_mv MX9_partsOfLine 2 := ⟨⟨tb_841, tb_70, ⟨by decide +kernel, by decide +kernel⟩, by decide +kernel⟩, tb_839, tb_840⟩
theorem msX10_partsOfLine : q_mv MX10_partsOfLine 2 := ⟨⟨tb_1432, tb_87, ⟨by decide +kernel, by decide +kernel⟩, by decide +kernel⟩, tb_1430, tb_1431⟩
theorem msX9_safe : q_mv MX9_safe 1 := ⟨⟨tb_853, tb_70, ⟨by decide +kernel, by decide +kernel⟩, by decide +kernel⟩, tb_851, tb_852⟩
theorem msX10_safe : q_mv MX10_safe 1 := ⟨⟨tb_1436, tb_87, ⟨by decide +kernel, by decide +kernel⟩, by decide +kernel⟩, tb_1434, tb_1435⟩
theorem msX9_risk : q_mv MX9_risk 3 := ⟨⟨tb_865, tb_70, ⟨by decide +kernel, by decide +kernel⟩, by decide +kernel⟩, tb_863, tb_864⟩
theorem msX10_risk : q_mv MX10_risk 3 := ⟨⟨tb_1448, tb_87, ⟨by decide +kernel, by decide +kernel⟩, by decide +kernel⟩, tb_1446, tb_1447⟩
theorem msX9_order : q_mv MX9_order 1 := ⟨⟨tb_869, tb_70, ⟨by decide +kernel, by decide +kernel⟩, by decide +kernel⟩, tb_867, tb_868⟩
theorem msX10_order : q_mv MX10_order 1 := ⟨⟨tb_1452, tb_87, ⟨by decide +kernel, by decide +kernel⟩, by decide +kernel⟩, tb_1450, tb_1451⟩
theorem msX9_ordered : q_mv MX9_ordered 1 := ⟨⟨tb_904, tb_70, ⟨by decide +kernel, by decide +kernel⟩, by decide +kernel⟩, tb_902, tb_903⟩
theorem msX10_ordered : q_mv MX10_ordered 1 := ⟨⟨tb_1472, tb_87, ⟨by decide +kernel, by decide +kernel⟩, by decide +kernel⟩, tb_1470, tb_1471⟩
theorem msX9_middle : q_mv MX9_middle 1 := ⟨⟨tb_908, tb_70, ⟨by decide +kernel, by decide +kernel⟩, by decide +kernel⟩, tb_906, tb_907⟩
theorem msX10_middle : q_mv MX10_middle 1 := ⟨⟨tb_1476, tb_87, ⟨by decide +kernel, by decide +kernel⟩, by decide +kernel⟩, tb_1474, tb_1475⟩
theorem msX9_taste : q_mv MX9_taste 1 := ⟨⟨tb_921, tb_70, ⟨by decide +kernel, by decide +kernel⟩, by decide +kernel⟩, tb_919, tb_920⟩
theorem msX10_taste : q_mv MX10_taste 1 := ⟨⟨tb_1480, tb_87, ⟨by decide +kernel, by decide +kernel⟩, by decide +kernel⟩, tb_1478, tb_1479⟩
theorem msX9_two : q_mv MX9_two 1 := ⟨⟨tb_929, tb_70, ⟨by decide +kernel, by decide +kernel⟩, by decide +kernel⟩, tb_927, tb_928⟩
theorem msX10_two : q_mv MX10_two 1 := ⟨⟨tb_1492, tb_87, ⟨by decide +kernel, by decide +kernel⟩, by decide +kernel⟩, tb_1490, tb_1491⟩
theorem msX9_ask : q_mv MX9_ask 1 := ⟨⟨tb_938, tb_70, ⟨by decide +kernel, by decide +kernel⟩, by decide +kernel⟩, tb_936, tb_937⟩
theorem msX10_ask : q_mv MX10_ask 1 := ⟨⟨tb_1496, tb_87, ⟨by decide +kernel, by decide +kernel⟩, by decide +kernel⟩, tb_1494, tb_1495⟩
theorem msX9_would : q_mv MX9_would 4 := ⟨⟨tb_943, tb_70, ⟨by decide +kernel, by decide +kernel⟩, by decide +kernel⟩, tb_941, tb_942⟩
theorem msX10_would : q_mv MX10_would 4 := ⟨⟨tb_1500, tb_87, ⟨by decide +kernel, by decide +kernel⟩, by decide +kernel⟩, tb_1498, tb_1499⟩
theorem msX9_clash : q_mv MX9_clash 0 := ⟨⟨tb_949, tb_70, ⟨by decide +kernel, by decide +kernel⟩, by decide +kernel⟩, tb_947, tb_948⟩
theorem msX10_clash : q_mv MX10_clash 0 := ⟨⟨tb_1504, tb_87, ⟨by decide +kernel, by decide +kernel⟩, by decide +kernel⟩, tb_1502, tb_1503⟩
theorem msX9_idle : q_mv MX9_idle 0 := ⟨⟨tb_953, tb_70, ⟨by decide +kernel, by decide +kernel⟩, by decide +kernel⟩, tb_951, tb_952⟩
theorem msX10_idle : q_mv MX10_idle 0 := ⟨⟨tb_1512, tb_87, ⟨by decide +kernel, by decide +kernel⟩, by decide +kernel⟩, tb_1510, tb_1511⟩
theorem msX9_bill : q_mv MX9_bill 3 := ⟨⟨tb_957, tb_70, ⟨by decide +kernel, by decide +kernel⟩, by decide +kernel⟩, tb_955, tb_956⟩
theorem msX10_bill : q_mv MX10_bill 3 := ⟨⟨tb_1516, tb_87, ⟨by decide +kernel, by decide +kernel⟩, by decide +kernel⟩, tb_1514, tb_1515⟩
theorem msX9_match : q_mv MX9_match 1 := ⟨⟨tb_967, tb_70, ⟨by decide +kernel, by decide +kernel⟩, by decide +kernel⟩, tb_965, tb_966⟩
theorem msX10_match : q_mv MX10_match 1 := ⟨⟨tb_1520, tb_87, ⟨by decide +kernel, by decide +kernel⟩, by decide +kernel⟩, tb_1518, tb_1519⟩
theorem msX9_film : q_mv MX9_film 1 := ⟨⟨tb_995, tb_70, ⟨by decide +kernel, by decide +kernel⟩, by decide +kernel⟩, tb_993, tb_994⟩
theorem msX10_film : q_mv MX10_film 1 := ⟨⟨tb_1524, tb_87, ⟨by decide +kernel, by decide +kernel⟩, by decide +kernel⟩, tb_1522, tb_1523⟩
theorem msX9_laws : q_mv MX9_laws 0 := ⟨⟨tb_1008, tb_70, ⟨by decide +kernel, by decide +kernel⟩, by decide +kernel⟩, tb_1006, tb_1007⟩
theorem msX10_laws : q_mv MX10_laws 0 := ⟨⟨tb_1528, tb_87, ⟨by decide +kernel, by decide +kernel⟩, by decide +kernel⟩, tb_1526, tb_1527⟩
theorem msX9_drawn : q_mv MX9_drawn 2 := ⟨⟨tb_1016, tb_70, ⟨by decide +kernel, by decide +kernel⟩, by decide +kernel⟩, tb_1014, tb_1015⟩
theorem msX10_drawn : q_mv MX10_drawn 2 := ⟨⟨tb_1532, tb_87, ⟨by decide +kernel, by decide +kernel⟩, by decide +kernel⟩, tb_1530, tb_1531⟩
theorem msX9_chance : q_mv MX9_chance 5 := ⟨⟨tb_1027, tb_70, ⟨by decide +kernel, by decide +kernel⟩, by decide +kernel⟩, tb_1025, tb_1026⟩
theorem msX10_chance : q_mv MX10_chance 5 := ⟨⟨tb_1543, tb_87, ⟨by decide +kernel, by decide +kernel⟩, by decide +kernel⟩, tb_1541, tb_1542⟩
theorem msX9_image : q_mv MX9_image 0 := ⟨⟨tb_1031, tb_70, ⟨by decide +kernel, by decide +kernel⟩, by decide +kernel⟩, tb_1029, tb_1030⟩
theorem msX10_image : q_mv MX10_image 0 := ⟨⟨tb_1547, tb_87, ⟨by decide +kernel, by decide +kernel⟩, by decide +kernel⟩, tb_1545, tb_1546⟩
theorem msX9_back : q_mv MX9_back 0 := ⟨⟨tb_1036, tb_70, ⟨by decide +kernel, by decide +kernel⟩, by decide +kernel⟩, tb_1034, tb_1035⟩
theorem msX10_back : q_mv MX10_back 0 := ⟨⟨tb_1551, tb_87, ⟨by decide +kernel, by decide +kernel⟩, by decide +kernel⟩, tb_1549, tb_1550⟩
theorem msX9_sheet : q_mv MX9_sheet 3 := ⟨⟨tb_1040, tb_70, ⟨by decide +kernel, by decide +kernel⟩, by decide +kernel⟩, tb_1038, tb_1039⟩
theorem msX10_sheet : q_mv MX10_sheet 3 := ⟨⟨tb_1555, tb_87, ⟨by decide +kernel, by decide +kernel⟩, by decide +kernel⟩, tb_1553, tb_1554⟩
theorem msX9_cell : q_mv MX9_cell 3 := ⟨⟨tb_1044, tb_70, ⟨by decide +kernel, by decide +kernel⟩, by decide +kernel⟩, tb_1042, tb_1043⟩
theorem msX10_cell : q_mv MX10_cell 3 := ⟨⟨tb_1559, tb_87, ⟨by decide +kernel, by decide +kernel⟩, by decide +kernel⟩, tb_1557, tb_1558⟩
theorem msX9_copy : q_mv MX9_copy 5 := ⟨⟨tb_1048, tb_70, ⟨by decide +kernel, by decide +kernel⟩, by decide +kernel⟩, tb_1046, tb_1047⟩
theorem msX10_copy : q_mv MX10_copy 5 := ⟨⟨tb_1563, tb_87, ⟨by decide +kernel, by decide +kernel⟩, by decide +kernel⟩, tb_1561, tb_1562⟩
theorem msX9_linesBy : q_mv MX9_linesBy 4 := ⟨⟨tb_1059, tb_70, ⟨by decide +kernel, by decide +kernel⟩, by decide +kernel⟩, tb_1057, tb_1058⟩
theorem msX10_linesBy : q_mv MX10_linesBy 4 := ⟨⟨tb_1567, tb_87, ⟨by decide +kernel, by decide +kernel⟩, by decide +kernel⟩, tb_1565, tb_1566⟩
theorem msX9_taken : q_mv MX9_taken 2 := ⟨⟨tb_1063, tb_70, ⟨by decide +kernel, by decide +kernel⟩, by decide +kernel⟩, tb_1061, tb_1062⟩
theorem msX10_taken : q_mv MX10_taken 2 := ⟨⟨tb_1572, tb_87, ⟨by decide +kernel, by decide +kernel⟩, by decide +kernel⟩, tb_1570, tb_1571⟩
