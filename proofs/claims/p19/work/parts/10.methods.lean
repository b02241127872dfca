theorem zg_1 {w : Cond} (h : w ∈ tables_1_1) (hg : goodWord w = true) : w ∈ zgt := List.mem_filter.mpr ⟨List.mem_append_right _ (List.mem_append_left _ h), hg⟩
theorem zg_2 {w : Cond} (h : w ∈ tables_1_2) (hg : goodWord w = true) : w ∈ zgt := List.mem_filter.mpr ⟨List.mem_append_right _ (List.mem_append_right _ (List.mem_append_left _ h)), hg⟩
theorem zg_3 {w : Cond} (h : w ∈ tables_1_3) (hg : goodWord w = true) : w ∈ zgt := List.mem_filter.mpr ⟨List.mem_append_right _ (List.mem_append_right _ (List.mem_append_right _ (List.mem_append_left _ h))), hg⟩
theorem zg_4 {w : Cond} (h : w ∈ tables_1_4) (hg : goodWord w = true) : w ∈ zgt := List.mem_filter.mpr ⟨List.mem_append_right _ (List.mem_append_right _ (List.mem_append_right _ (List.mem_append_right _ (h)))), hg⟩
theorem zgn_1 {w : Cond} (h : w ∈ tables_1_1) (hg : zisN w = true) : w ∈ zns := List.mem_filter.mpr ⟨List.mem_append_right _ (List.mem_append_left _ h), hg⟩
theorem zgn_2 {w : Cond} (h : w ∈ tables_1_2) (hg : zisN w = true) : w ∈ zns := List.mem_filter.mpr ⟨List.mem_append_right _ (List.mem_append_right _ (List.mem_append_left _ h)), hg⟩
theorem zgn_3 {w : Cond} (h : w ∈ tables_1_3) (hg : zisN w = true) : w ∈ zns := List.mem_filter.mpr ⟨List.mem_append_right _ (List.mem_append_right _ (List.mem_append_right _ (List.mem_append_left _ h))), hg⟩
theorem zgn_4 {w : Cond} (h : w ∈ tables_1_4) (hg : zisN w = true) : w ∈ zns := List.mem_filter.mpr ⟨List.mem_append_right _ (List.mem_append_right _ (List.mem_append_right _ (List.mem_append_right _ (h)))), hg⟩
theorem zg_s {w : Cond} (h : w ∈ k2_sels lw_privs) (hg : goodWord w = true) : w ∈ zgt := List.mem_filter.mpr ⟨List.mem_append_left _ h, hg⟩
def m_Bakers_barredForEach : zMI := (⟨"OthersHands$Bakers", "barredForEach", "(LOthersHands$Town;I)I"⟩, prog_2_method_4_code, 4, some .int, 1, 22)
theorem cd_Bakers_barredForEach : zCd m_Bakers_barredForEach := ⟨(zg_3 (List.mem_of_getElem? (i := 81) rfl) rfl), (zg_1 (List.mem_of_getElem? (i := 14) rfl) rfl), by decide +kernel, by decide +kernel⟩
def m_Bakers_feedAll : zMI := (⟨"OthersHands$Bakers", "feedAll", "(LOthersHands$Town;II)Z"⟩, prog_2_method_3_code, 5, some .boolean, 2, 45)
theorem cd_Bakers_feedAll : zCd m_Bakers_feedAll := ⟨(zg_3 (List.mem_of_getElem? (i := 78) rfl) rfl), (zg_1 (List.mem_of_getElem? (i := 14) rfl) rfl), by decide +kernel, by decide +kernel⟩
def m_Bakers_fewest : zMI := (⟨"OthersHands$Bakers", "fewest", "(LOthersHands$Town;I)I"⟩, prog_2_method_2_code, 5, some .int, 3, 69)
theorem cd_Bakers_fewest : zCd m_Bakers_fewest := ⟨(zg_3 (List.mem_of_getElem? (i := 74) rfl) rfl), (zg_1 (List.mem_of_getElem? (i := 14) rfl) rfl), by decide +kernel, by decide +kernel⟩
def m_Bread_eats : zMI := (⟨"OthersHands$Bread", "eats", "(I)Z"⟩, prog_3_method_9_code, 3, some .boolean, 1, 21)
theorem cd_Bread_eats : zCd m_Bread_eats := ⟨(zg_3 (List.mem_of_getElem? (i := 136) rfl) rfl), (zg_1 (List.mem_of_getElem? (i := 8) rfl) rfl), by decide +kernel, by decide +kernel⟩
def m_Bread_init : zMI := (⟨"OthersHands$Bread", "<init>", "()V"⟩, prog_3_method_1_code, 1, none, 1, 20)
theorem cd_Bread_init : zCd m_Bread_init := ⟨(zg_1 (List.mem_of_getElem? (i := 184) rfl) rfl), (zg_1 (List.mem_of_getElem? (i := 8) rfl) rfl), by decide +kernel, by decide +kernel⟩
def m_Bread_layOut : zMI := (⟨"OthersHands$Bread", "layOut", "(LOthersHands$Town;)V"⟩, prog_3_method_2_code, 3, none, 5, 113)
theorem cd_Bread_layOut : zCd m_Bread_layOut := ⟨(zg_3 (List.mem_of_getElem? (i := 36) rfl) rfl), (zg_1 (List.mem_of_getElem? (i := 8) rfl) rfl), by decide +kernel, by decide +kernel⟩
def m_Bread_leastShortSet : zMI := (⟨"OthersHands$Bread", "leastShortSet", "()I"⟩, prog_3_method_5_code, 2, some .int, 2, 45)
theorem cd_Bread_leastShortSet : zCd m_Bread_leastShortSet := ⟨(zg_3 (List.mem_of_getElem? (i := 67) rfl) rfl), (zg_1 (List.mem_of_getElem? (i := 8) rfl) rfl), by decide +kernel, by decide +kernel⟩
def m_Bread_live : zMI := (⟨"OthersHands$Bread", "live", "(II)I"⟩, prog_3_method_8_code, 6, some .int, 2, 43)
theorem cd_Bread_live : zCd m_Bread_live := ⟨(zg_3 (List.mem_of_getElem? (i := 131) rfl) rfl), (zg_1 (List.mem_of_getElem? (i := 8) rfl) rfl), by decide +kernel, by decide +kernel⟩
def m_Bread_loavesFor : zMI := (⟨"OthersHands$Bread", "loavesFor", "(I)I"⟩, prog_3_method_3_code, 5, some .int, 1, 21)
theorem cd_Bread_loavesFor : zCd m_Bread_loavesFor := ⟨(zg_3 (List.mem_of_getElem? (i := 51) rfl) rfl), (zg_1 (List.mem_of_getElem? (i := 8) rfl) rfl), by decide +kernel, by decide +kernel⟩
def m_Bread_mostFed : zMI := (⟨"OthersHands$Bread", "mostFed", "(I)I"⟩, prog_3_method_4_code, 4, some .int, 2, 45)
theorem cd_Bread_mostFed : zCd m_Bread_mostFed := ⟨(zg_3 (List.mem_of_getElem? (i := 46) rfl) rfl), (zg_1 (List.mem_of_getElem? (i := 8) rfl) rfl), by decide +kernel, by decide +kernel⟩
def m_Bread_serve : zMI := (⟨"OthersHands$Bread", "serve", "()I"⟩, prog_3_method_6_code, 4, some .int, 4, 92)
theorem cd_Bread_serve : zCd m_Bread_serve := ⟨(zg_3 (List.mem_of_getElem? (i := 42) rfl) rfl), (zg_1 (List.mem_of_getElem? (i := 8) rfl) rfl), by decide +kernel, by decide +kernel⟩
def m_Bread_takeLeastMeal : zMI := (⟨"OthersHands$Bread", "takeLeastMeal", "(II)I"⟩, prog_3_method_7_code, 5, some .int, 3, 68)
theorem cd_Bread_takeLeastMeal : zCd m_Bread_takeLeastMeal := ⟨(zg_3 (List.mem_of_getElem? (i := 59) rfl) rfl), (zg_1 (List.mem_of_getElem? (i := 8) rfl) rfl), by decide +kernel, by decide +kernel⟩
def m_Filling_applySight : zMI := (⟨"OthersHands$Filling", "applySight", "(IILOthersHands$Pages;)V"⟩, prog_4_method_4_code, 5, none, 2, 44)
theorem cd_Filling_applySight : zCd m_Filling_applySight := ⟨(zg_2 (List.mem_of_getElem? (i := 235) rfl) rfl), (zg_1 (List.mem_of_getElem? (i := 7) rfl) rfl), by decide +kernel, by decide +kernel⟩
def m_Filling_barredInAll : zMI := (⟨"OthersHands$Filling", "barredInAll", "(LOthersHands$Town;I)I"⟩, prog_4_method_7_code, 8, some .int, 3, 69)
theorem cd_Filling_barredInAll : zCd m_Filling_barredInAll := ⟨(zg_3 (List.mem_of_getElem? (i := 19) rfl) rfl), (zg_1 (List.mem_of_getElem? (i := 7) rfl) rfl), by decide +kernel, by decide +kernel⟩
def m_Filling_barredInSome : zMI := (⟨"OthersHands$Filling", "barredInSome", "(LOthersHands$Town;I)I"⟩, prog_4_method_9_code, 6, some .int, 3, 69)
theorem cd_Filling_barredInSome : zCd m_Filling_barredInSome := ⟨(zg_3 (List.mem_of_getElem? (i := 27) rfl) rfl), (zg_1 (List.mem_of_getElem? (i := 7) rfl) rfl), by decide +kernel, by decide +kernel⟩
def m_Filling_findAsks : zMI := (⟨"OthersHands$Filling", "findAsks", "(LOthersHands$Pages;)V"⟩, prog_4_method_3_code, 3, none, 0, 0)
theorem cd_Filling_findAsks : zCd m_Filling_findAsks := ⟨(zg_2 (List.mem_of_getElem? (i := 229) rfl) rfl), (zg_1 (List.mem_of_getElem? (i := 7) rfl) rfl), by decide +kernel, by decide +kernel⟩
def m_Filling_firstMan : zMI := (⟨"OthersHands$Filling", "firstMan", "(I)I"⟩, prog_4_method_6_code, 2, some .int, 2, 42)
theorem cd_Filling_firstMan : zCd m_Filling_firstMan := ⟨(zg_3 (List.mem_of_getElem? (i := 6) rfl) rfl), (zg_1 (List.mem_of_getElem? (i := 7) rfl) rfl), by decide +kernel, by decide +kernel⟩
def m_Filling_init : zMI := (⟨"OthersHands$Filling", "<init>", "()V"⟩, prog_4_method_1_code, 1, none, 1, 20)
theorem cd_Filling_init : zCd m_Filling_init := ⟨(zg_1 (List.mem_of_getElem? (i := 165) rfl) rfl), (zg_1 (List.mem_of_getElem? (i := 7) rfl) rfl), by decide +kernel, by decide +kernel⟩
def m_Filling_isForced : zMI := (⟨"OthersHands$Filling", "isForced", "(II)Z"⟩, prog_4_method_8_code, 4, some .boolean, 1, 21)
theorem cd_Filling_isForced : zCd m_Filling_isForced := ⟨(zg_3 (List.mem_of_getElem? (i := 23) rfl) rfl), (zg_1 (List.mem_of_getElem? (i := 7) rfl) rfl), by decide +kernel, by decide +kernel⟩
def m_Filling_ways : zMI := (⟨"OthersHands$Filling", "ways", "()I"⟩, prog_4_method_5_code, 3, some .int, 1, 20)
theorem cd_Filling_ways : zCd m_Filling_ways := ⟨(zg_3 (List.mem_of_getElem? (i := 1) rfl) rfl), (zg_1 (List.mem_of_getElem? (i := 7) rfl) rfl), by decide +kernel, by decide +kernel⟩
def m_Filling_weigh : zMI := (⟨"OthersHands$Filling", "weigh", "(LOthersHands$Town;)V"⟩, prog_4_method_2_code, 3, none, 3, 69)
theorem cd_Filling_weigh : zCd m_Filling_weigh := ⟨(zg_2 (List.mem_of_getElem? (i := 225) rfl) rfl), (zg_1 (List.mem_of_getElem? (i := 7) rfl) rfl), by decide +kernel, by decide +kernel⟩
def m_JI_bitCount : zMI := (⟨"java/lang/Integer", "bitCount", "(I)I"⟩, prog_13_method_49_code, 1, some .int, 0, 0)
theorem cd_JI_bitCount : zCd m_JI_bitCount := ⟨(zg_2 (List.mem_of_getElem? (i := 50) rfl) rfl), (zg_1 (List.mem_of_getElem? (i := 11) rfl) rfl), by decide +kernel, by decide +kernel⟩
def m_JM_max : zMI := (⟨"java/lang/Math", "max", "(II)I"⟩, prog_14_method_65_code, 2, some .int, 0, 0)
theorem cd_JM_max : zCd m_JM_max := ⟨(zg_3 (List.mem_of_getElem? (i := 55) rfl) rfl), (zg_1 (List.mem_of_getElem? (i := 13) rfl) rfl), by decide +kernel, by decide +kernel⟩
def m_Matchmaker_arrange : zMI := (⟨"OthersHands$Matchmaker", "arrange", "(LOthersHands$Town;)I"⟩, prog_5_method_2_code, 4, some .int, 5, 113)
theorem cd_Matchmaker_arrange : zCd m_Matchmaker_arrange := ⟨(zg_3 (List.mem_of_getElem? (i := 98) rfl) rfl), (zg_1 (List.mem_of_getElem? (i := 9) rfl) rfl), by decide +kernel, by decide +kernel⟩
def m_Matchmaker_bestOther : zMI := (⟨"OthersHands$Matchmaker", "bestOther", "(II)I"⟩, prog_5_method_6_code, 5, some .int, 2, 44)
theorem cd_Matchmaker_bestOther : zCd m_Matchmaker_bestOther := ⟨(zg_3 (List.mem_of_getElem? (i := 114) rfl) rfl), (zg_1 (List.mem_of_getElem? (i := 9) rfl) rfl), by decide +kernel, by decide +kernel⟩
def m_Matchmaker_choose : zMI := (⟨"OthersHands$Matchmaker", "choose", "(I)V"⟩, prog_5_method_7_code, 5, none, 3, 68)
theorem cd_Matchmaker_choose : zCd m_Matchmaker_choose := ⟨(zg_3 (List.mem_of_getElem? (i := 123) rfl) rfl), (zg_1 (List.mem_of_getElem? (i := 9) rfl) rfl), by decide +kernel, by decide +kernel⟩
def m_Matchmaker_init : zMI := (⟨"OthersHands$Matchmaker", "<init>", "()V"⟩, prog_5_method_1_code, 1, none, 1, 20)
theorem cd_Matchmaker_init : zCd m_Matchmaker_init := ⟨(zg_1 (List.mem_of_getElem? (i := 202) rfl) rfl), (zg_1 (List.mem_of_getElem? (i := 9) rfl) rfl), by decide +kernel, by decide +kernel⟩
def m_Matchmaker_leastSum : zMI := (⟨"OthersHands$Matchmaker", "leastSum", "(I)I"⟩, prog_5_method_4_code, 4, some .int, 3, 68)
theorem cd_Matchmaker_leastSum : zCd m_Matchmaker_leastSum := ⟨(zg_3 (List.mem_of_getElem? (i := 108) rfl) rfl), (zg_1 (List.mem_of_getElem? (i := 9) rfl) rfl), by decide +kernel, by decide +kernel⟩
def m_Matchmaker_sumUp : zMI := (⟨"OthersHands$Matchmaker", "sumUp", "(I)V"⟩, prog_5_method_3_code, 3, none, 4, 91)
theorem cd_Matchmaker_sumUp : zCd m_Matchmaker_sumUp := ⟨(zg_3 (List.mem_of_getElem? (i := 103) rfl) rfl), (zg_1 (List.mem_of_getElem? (i := 9) rfl) rfl), by decide +kernel, by decide +kernel⟩
def m_Matchmaker_sumWith : zMI := (⟨"OthersHands$Matchmaker", "sumWith", "(III)I"⟩, prog_5_method_5_code, 5, some .int, 1, 20)
theorem cd_Matchmaker_sumWith : zCd m_Matchmaker_sumWith := ⟨(zg_3 (List.mem_of_getElem? (i := 119) rfl) rfl), (zg_1 (List.mem_of_getElem? (i := 9) rfl) rfl), by decide +kernel, by decide +kernel⟩
def m_O_book : zMI := (⟨"OthersHands", "book", "()I"⟩, prog_1_method_5_code, 1, some .int, 5, 108)
theorem cd_O_book : zCd m_O_book := ⟨(zg_2 (List.mem_of_getElem? (i := 69) rfl) rfl), (zg_1 (List.mem_of_getElem? (i := 1) rfl) rfl), by decide +kernel, by decide +kernel⟩
def m_O_days : zMI := (⟨"OthersHands", "days", "(III)I"⟩, prog_1_method_24_code, 5, some .int, 6, 135)
theorem cd_O_days : zCd m_O_days := ⟨(zg_3 (List.mem_of_getElem? (i := 127) rfl) rfl), (zg_1 (List.mem_of_getElem? (i := 1) rfl) rfl), by decide +kernel, by decide +kernel⟩
def m_O_fault : zMI := (⟨"OthersHands", "fault", "()I"⟩, prog_1_method_4_code, 1, some .int, 5, 108)
theorem cd_O_fault : zCd m_O_fault := ⟨(zg_2 (List.mem_of_getElem? (i := 19) rfl) rfl), (zg_1 (List.mem_of_getElem? (i := 1) rfl) rfl), by decide +kernel, by decide +kernel⟩
def m_O_fed : zMI := (⟨"OthersHands", "fed", "(I)I"⟩, prog_1_method_19_code, 3, some .int, 6, 135)
theorem cd_O_fed : zCd m_O_fed := ⟨(zg_3 (List.mem_of_getElem? (i := 32) rfl) rfl), (zg_1 (List.mem_of_getElem? (i := 1) rfl) rfl), by decide +kernel, by decide +kernel⟩
def m_O_filled : zMI := (⟨"OthersHands", "filled", "(I)I"⟩, prog_1_method_17_code, 2, some .int, 4, 91)
theorem cd_O_filled : zCd m_O_filled := ⟨(zg_2 (List.mem_of_getElem? (i := 221) rfl) rfl), (zg_1 (List.mem_of_getElem? (i := 1) rfl) rfl), by decide +kernel, by decide +kernel⟩
def m_O_forget : zMI := (⟨"OthersHands", "forget", "()I"⟩, prog_1_method_16_code, 1, some .int, 1, 21)
theorem cd_O_forget : zCd m_O_forget := ⟨(zg_2 (List.mem_of_getElem? (i := 213) rfl) rfl), (zg_1 (List.mem_of_getElem? (i := 1) rfl) rfl), by decide +kernel, by decide +kernel⟩
def m_O_has : zMI := (⟨"OthersHands", "has", "(II)Z"⟩, prog_1_method_30_code, 2, some .boolean, 0, 0)
theorem cd_O_has : zCd m_O_has := ⟨(zg_2 (List.mem_of_getElem? (i := 133) rfl) rfl), (zg_1 (List.mem_of_getElem? (i := 1) rfl) rfl), by decide +kernel, by decide +kernel⟩
def m_O_image : zMI := (⟨"OthersHands", "image", "(I)I"⟩, prog_1_method_25_code, 3, some .int, 3, 82)
theorem cd_O_image : zCd m_O_image := ⟨(zg_3 (List.mem_of_getElem? (i := 140) rfl) rfl), (zg_1 (List.mem_of_getElem? (i := 1) rfl) rfl), by decide +kernel, by decide +kernel⟩
def m_O_init : zMI := (⟨"OthersHands", "<init>", "()V"⟩, prog_1_method_1_code, 1, none, 3, 61)
theorem cd_O_init : zCd m_O_init := ⟨(zg_1 (List.mem_of_getElem? (i := 19) rfl) rfl), (zg_1 (List.mem_of_getElem? (i := 1) rfl) rfl), by decide +kernel, by decide +kernel⟩
def m_O_isMan : zMI := (⟨"OthersHands", "isMan", "(I)Z"⟩, prog_1_method_28_code, 1, some .boolean, 0, 0)
theorem cd_O_isMan : zCd m_O_isMan := ⟨(zg_2 (List.mem_of_getElem? (i := 95) rfl) rfl), (zg_1 (List.mem_of_getElem? (i := 1) rfl) rfl), by decide +kernel, by decide +kernel⟩
def m_O_isThing : zMI := (⟨"OthersHands", "isThing", "(I)Z"⟩, prog_1_method_29_code, 2, some .boolean, 0, 0)
theorem cd_O_isThing : zCd m_O_isThing := ⟨(zg_2 (List.mem_of_getElem? (i := 88) rfl) rfl), (zg_1 (List.mem_of_getElem? (i := 1) rfl) rfl), by decide +kernel, by decide +kernel⟩
def m_O_join : zMI := (⟨"OthersHands", "join", "(II)I"⟩, prog_1_method_7_code, 3, some .int, 1, 20)
theorem cd_O_join : zCd m_O_join := ⟨(zg_2 (List.mem_of_getElem? (i := 92) rfl) rfl), (zg_1 (List.mem_of_getElem? (i := 1) rfl) rfl), by decide +kernel, by decide +kernel⟩
def m_O_lack : zMI := (⟨"OthersHands", "lack", "()I"⟩, prog_1_method_20_code, 1, some .int, 6, 135)
theorem cd_O_lack : zCd m_O_lack := ⟨(zg_3 (List.mem_of_getElem? (i := 63) rfl) rfl), (zg_1 (List.mem_of_getElem? (i := 1) rfl) rfl), by decide +kernel, by decide +kernel⟩
def m_O_leastOf : zMI := (⟨"OthersHands", "leastOf", "(I)I"⟩, prog_1_method_31_code, 2, some .int, 1, 21)
theorem cd_O_leastOf : zCd m_O_leastOf := ⟨(zg_3 (List.mem_of_getElem? (i := 10) rfl) rfl), (zg_1 (List.mem_of_getElem? (i := 1) rfl) rfl), by decide +kernel, by decide +kernel⟩
def m_O_loaves : zMI := (⟨"OthersHands", "loaves", "(II)I"⟩, prog_1_method_10_code, 4, some .int, 1, 21)
theorem cd_O_loaves : zCd m_O_loaves := ⟨(zg_2 (List.mem_of_getElem? (i := 114) rfl) rfl), (zg_1 (List.mem_of_getElem? (i := 1) rfl) rfl), by decide +kernel, by decide +kernel⟩
def m_O_makers : zMI := (⟨"OthersHands", "makers", "(II)I"⟩, prog_1_method_21_code, 4, some .int, 4, 93)
theorem cd_O_makers : zCd m_O_makers := ⟨(zg_3 (List.mem_of_getElem? (i := 71) rfl) rfl), (zg_1 (List.mem_of_getElem? (i := 1) rfl) rfl), by decide +kernel, by decide +kernel⟩
def m_O_married : zMI := (⟨"OthersHands", "married", "(I)I"⟩, prog_1_method_23_code, 3, some .int, 6, 136)
theorem cd_O_married : zCd m_O_married := ⟨(zg_3 (List.mem_of_getElem? (i := 94) rfl) rfl), (zg_1 (List.mem_of_getElem? (i := 1) rfl) rfl), by decide +kernel, by decide +kernel⟩
def m_O_may : zMI := (⟨"OthersHands", "may", "(II)I"⟩, prog_1_method_12_code, 3, some .int, 5, 113)
theorem cd_O_may : zCd m_O_may := ⟨(zg_2 (List.mem_of_getElem? (i := 175) rfl) rfl), (zg_1 (List.mem_of_getElem? (i := 1) rfl) rfl), by decide +kernel, by decide +kernel⟩
def m_O_near : zMI := (⟨"OthersHands", "near", "(II)I"⟩, prog_1_method_13_code, 3, some .int, 3, 69)
theorem cd_O_near : zCd m_O_near := ⟨(zg_2 (List.mem_of_getElem? (i := 187) rfl) rfl), (zg_1 (List.mem_of_getElem? (i := 1) rfl) rfl), by decide +kernel, by decide +kernel⟩
def m_O_part : zMI := (⟨"OthersHands", "part", "(I)I"⟩, prog_1_method_8_code, 3, some .int, 1, 20)
theorem cd_O_part : zCd m_O_part := ⟨(zg_2 (List.mem_of_getElem? (i := 99) rfl) rfl), (zg_1 (List.mem_of_getElem? (i := 1) rfl) rfl), by decide +kernel, by decide +kernel⟩
def m_O_restore : zMI := (⟨"OthersHands", "restore", "(I)I"⟩, prog_1_method_26_code, 3, some .int, 3, 82)
theorem cd_O_restore : zCd m_O_restore := ⟨(zg_3 (List.mem_of_getElem? (i := 149) rfl) rfl), (zg_1 (List.mem_of_getElem? (i := 1) rfl) rfl), by decide +kernel, by decide +kernel⟩
def m_O_say : zMI := (⟨"OthersHands", "say", "(I)I"⟩, prog_1_method_2_code, 2, some .int, 1, 21)
theorem cd_O_say : zCd m_O_say := ⟨(zg_2 (List.mem_of_getElem? (i := 3) rfl) rfl), (zg_1 (List.mem_of_getElem? (i := 1) rfl) rfl), by decide +kernel, by decide +kernel⟩
def m_O_seen : zMI := (⟨"OthersHands", "seen", "(II)I"⟩, prog_1_method_15_code, 3, some .int, 1, 22)
theorem cd_O_seen : zCd m_O_seen := ⟨(zg_2 (List.mem_of_getElem? (i := 205) rfl) rfl), (zg_1 (List.mem_of_getElem? (i := 1) rfl) rfl), by decide +kernel, by decide +kernel⟩
def m_O_set : zMI := (⟨"OthersHands", "set", "(II)I"⟩, prog_1_method_9_code, 3, some .int, 1, 23)
theorem cd_O_set : zCd m_O_set := ⟨(zg_2 (List.mem_of_getElem? (i := 103) rfl) rfl), (zg_1 (List.mem_of_getElem? (i := 1) rfl) rfl), by decide +kernel, by decide +kernel⟩
def m_O_share : zMI := (⟨"OthersHands", "share", "(III)J"⟩, prog_1_method_14_code, 5, some .long, 3, 69)
theorem cd_O_share : zCd m_O_share := ⟨(zg_2 (List.mem_of_getElem? (i := 195) rfl) rfl), (zg_1 (List.mem_of_getElem? (i := 1) rfl) rfl), by decide +kernel, by decide +kernel⟩
def m_O_sure : zMI := (⟨"OthersHands", "sure", "(II)I"⟩, prog_1_method_18_code, 3, some .int, 4, 96)
theorem cd_O_sure : zCd m_O_sure := ⟨(zg_3 (List.mem_of_getElem? (i := 15) rfl) rfl), (zg_1 (List.mem_of_getElem? (i := 1) rfl) rfl), by decide +kernel, by decide +kernel⟩
def m_O_thing : zMI := (⟨"OthersHands", "thing", "(II)I"⟩, prog_1_method_6_code, 3, some .int, 1, 21)
theorem cd_O_thing : zCd m_O_thing := ⟨(zg_2 (List.mem_of_getElem? (i := 84) rfl) rfl), (zg_1 (List.mem_of_getElem? (i := 1) rfl) rfl), by decide +kernel, by decide +kernel⟩
def m_O_told : zMI := (⟨"OthersHands", "told", "(I)I"⟩, prog_1_method_27_code, 2, some .int, 1, 21)
theorem cd_O_told : zCd m_O_told := ⟨(zg_3 (List.mem_of_getElem? (i := 153) rfl) rfl), (zg_1 (List.mem_of_getElem? (i := 1) rfl) rfl), by decide +kernel, by decide +kernel⟩
def m_O_touched : zMI := (⟨"OthersHands", "touched", "(II)I"⟩, prog_1_method_11_code, 3, some .int, 5, 111)
theorem cd_O_touched : zCd m_O_touched := ⟨(zg_2 (List.mem_of_getElem? (i := 118) rfl) rfl), (zg_1 (List.mem_of_getElem? (i := 1) rfl) rfl), by decide +kernel, by decide +kernel⟩
def m_O_washed : zMI := (⟨"OthersHands", "washed", "(II)I"⟩, prog_1_method_22_code, 4, some .int, 3, 69)
theorem cd_O_washed : zCd m_O_washed := ⟨(zg_3 (List.mem_of_getElem? (i := 88) rfl) rfl), (zg_1 (List.mem_of_getElem? (i := 1) rfl) rfl), by decide +kernel, by decide +kernel⟩
def m_O_wipe : zMI := (⟨"OthersHands", "wipe", "()I"⟩, prog_1_method_3_code, 1, some .int, 1, 21)
theorem cd_O_wipe : zCd m_O_wipe := ⟨(zg_2 (List.mem_of_getElem? (i := 11) rfl) rfl), (zg_1 (List.mem_of_getElem? (i := 1) rfl) rfl), by decide +kernel, by decide +kernel⟩
def m_Pad_clear : zMI := (⟨"OthersHands$Pad", "clear", "()I"⟩, prog_6_method_3_code, 2, some .int, 0, 0)
theorem cd_Pad_clear : zCd m_Pad_clear := ⟨(zg_2 (List.mem_of_getElem? (i := 15) rfl) rfl), (zg_1 (List.mem_of_getElem? (i := 2) rfl) rfl), by decide +kernel, by decide +kernel⟩
def m_Pad_init : zMI := (⟨"OthersHands$Pad", "<init>", "()V"⟩, prog_6_method_1_code, 1, none, 1, 20)
theorem cd_Pad_init : zCd m_Pad_init := ⟨(zg_1 (List.mem_of_getElem? (i := 27) rfl) rfl), (zg_1 (List.mem_of_getElem? (i := 2) rfl) rfl), by decide +kernel, by decide +kernel⟩
def m_Pad_put : zMI := (⟨"OthersHands$Pad", "put", "(I)I"⟩, prog_6_method_2_code, 2, some .int, 0, 0)
theorem cd_Pad_put : zCd m_Pad_put := ⟨(zg_2 (List.mem_of_getElem? (i := 7) rfl) rfl), (zg_1 (List.mem_of_getElem? (i := 2) rfl) rfl), by decide +kernel, by decide +kernel⟩
def m_Pages_become : zMI := (⟨"OthersHands$Pages", "become", "(LOthersHands$Pages;)V"⟩, prog_7_method_2_code, 2, none, 1, 40)
theorem cd_Pages_become : zCd m_Pages_become := ⟨(zg_2 (List.mem_of_getElem? (i := 77) rfl) rfl), (zg_1 (List.mem_of_getElem? (i := 4) rfl) rfl), by decide +kernel, by decide +kernel⟩
def m_Pages_behind : zMI := (⟨"OthersHands$Pages", "behind", "(IZ)I"⟩, prog_7_method_5_code, 5, some .int, 1, 21)
theorem cd_Pages_behind : zCd m_Pages_behind := ⟨(zg_2 (List.mem_of_getElem? (i := 130) rfl) rfl), (zg_1 (List.mem_of_getElem? (i := 4) rfl) rfl), by decide +kernel, by decide +kernel⟩
def m_Pages_bitOf : zMI := (⟨"OthersHands$Pages", "bitOf", "(I)I"⟩, prog_7_method_6_code, 1, some .int, 0, 0)
theorem cd_Pages_bitOf : zCd m_Pages_bitOf := ⟨(zg_2 (List.mem_of_getElem? (i := 136) rfl) rfl), (zg_1 (List.mem_of_getElem? (i := 4) rfl) rfl), by decide +kernel, by decide +kernel⟩
def m_Pages_clearMaking : zMI := (⟨"OthersHands$Pages", "clearMaking", "(I)V"⟩, prog_7_method_3_code, 2, none, 0, 0)
theorem cd_Pages_clearMaking : zCd m_Pages_clearMaking := ⟨(zg_2 (List.mem_of_getElem? (i := 27) rfl) rfl), (zg_1 (List.mem_of_getElem? (i := 4) rfl) rfl), by decide +kernel, by decide +kernel⟩
def m_Pages_handsOf : zMI := (⟨"OthersHands$Pages", "handsOf", "(I)I"⟩, prog_7_method_4_code, 4, some .int, 1, 21)
theorem cd_Pages_handsOf : zCd m_Pages_handsOf := ⟨(zg_2 (List.mem_of_getElem? (i := 140) rfl) rfl), (zg_1 (List.mem_of_getElem? (i := 4) rfl) rfl), by decide +kernel, by decide +kernel⟩
def m_Pages_init : zMI := (⟨"OthersHands$Pages", "<init>", "()V"⟩, prog_7_method_1_code, 1, none, 1, 20)
theorem cd_Pages_init : zCd m_Pages_init := ⟨(zg_1 (List.mem_of_getElem? (i := 50) rfl) rfl), (zg_1 (List.mem_of_getElem? (i := 4) rfl) rfl), by decide +kernel, by decide +kernel⟩
def m_Reader_hasRoomForHand : zMI := (⟨"OthersHands$Reader", "hasRoomForHand", "(I)Z"⟩, prog_8_method_7_code, 2, some .boolean, 1, 20)
theorem cd_Reader_hasRoomForHand : zCd m_Reader_hasRoomForHand := ⟨(zg_2 (List.mem_of_getElem? (i := 47) rfl) rfl), (zg_1 (List.mem_of_getElem? (i := 3) rfl) rfl), by decide +kernel, by decide +kernel⟩
def m_Reader_init : zMI := (⟨"OthersHands$Reader", "<init>", "()V"⟩, prog_8_method_1_code, 1, none, 2, 40)
theorem cd_Reader_init : zCd m_Reader_init := ⟨(zg_1 (List.mem_of_getElem? (i := 44) rfl) rfl), (zg_1 (List.mem_of_getElem? (i := 3) rfl) rfl), by decide +kernel, by decide +kernel⟩
def m_Reader_read : zMI := (⟨"OthersHands$Reader", "read", "(LOthersHands$Pad;)I"⟩, prog_8_method_2_code, 3, some .int, 4, 86)
theorem cd_Reader_read : zCd m_Reader_read := ⟨(zg_2 (List.mem_of_getElem? (i := 23) rfl) rfl), (zg_1 (List.mem_of_getElem? (i := 3) rfl) rfl), by decide +kernel, by decide +kernel⟩
def m_Reader_takes : zMI := (⟨"OthersHands$Reader", "takes", "(I)Z"⟩, prog_8_method_3_code, 3, some .boolean, 3, 64)
theorem cd_Reader_takes : zCd m_Reader_takes := ⟨(zg_2 (List.mem_of_getElem? (i := 31) rfl) rfl), (zg_1 (List.mem_of_getElem? (i := 3) rfl) rfl), by decide +kernel, by decide +kernel⟩
def m_Reader_takesAsk : zMI := (⟨"OthersHands$Reader", "takesAsk", "(I)Z"⟩, prog_8_method_9_code, 2, some .boolean, 2, 41)
theorem cd_Reader_takesAsk : zCd m_Reader_takesAsk := ⟨(zg_2 (List.mem_of_getElem? (i := 61) rfl) rfl), (zg_1 (List.mem_of_getElem? (i := 3) rfl) rfl), by decide +kernel, by decide +kernel⟩
def m_Reader_takesEnd : zMI := (⟨"OthersHands$Reader", "takesEnd", "(I)Z"⟩, prog_8_method_10_code, 2, some .boolean, 1, 21)
theorem cd_Reader_takesEnd : zCd m_Reader_takesEnd := ⟨(zg_2 (List.mem_of_getElem? (i := 65) rfl) rfl), (zg_1 (List.mem_of_getElem? (i := 3) rfl) rfl), by decide +kernel, by decide +kernel⟩
def m_Reader_takesFrom : zMI := (⟨"OthersHands$Reader", "takesFrom", "(II)Z"⟩, prog_8_method_4_code, 3, some .boolean, 0, 0)
theorem cd_Reader_takesFrom : zCd m_Reader_takesFrom := ⟨(zg_2 (List.mem_of_getElem? (i := 39) rfl) rfl), (zg_1 (List.mem_of_getElem? (i := 3) rfl) rfl), by decide +kernel, by decide +kernel⟩
def m_Reader_takesMan : zMI := (⟨"OthersHands$Reader", "takesMan", "(II)Z"⟩, prog_8_method_8_code, 4, some .boolean, 2, 41)
theorem cd_Reader_takesMan : zCd m_Reader_takesMan := ⟨(zg_2 (List.mem_of_getElem? (i := 43) rfl) rfl), (zg_1 (List.mem_of_getElem? (i := 3) rfl) rfl), by decide +kernel, by decide +kernel⟩
def m_Reader_takesPlus : zMI := (⟨"OthersHands$Reader", "takesPlus", "(I)Z"⟩, prog_8_method_5_code, 2, some .boolean, 0, 0)
theorem cd_Reader_takesPlus : zCd m_Reader_takesPlus := ⟨(zg_2 (List.mem_of_getElem? (i := 57) rfl) rfl), (zg_1 (List.mem_of_getElem? (i := 3) rfl) rfl), by decide +kernel, by decide +kernel⟩
def m_Reader_takesTool : zMI := (⟨"OthersHands$Reader", "takesTool", "(II)Z"⟩, prog_8_method_6_code, 3, some .boolean, 0, 0)
theorem cd_Reader_takesTool : zCd m_Reader_takesTool := ⟨(zg_2 (List.mem_of_getElem? (i := 35) rfl) rfl), (zg_1 (List.mem_of_getElem? (i := 3) rfl) rfl), by decide +kernel, by decide +kernel⟩
def m_Shares_holders : zMI := (⟨"OthersHands$Shares", "holders", "(LOthersHands$Pages;II)I"⟩, prog_9_method_5_code, 7, some .int, 3, 69)
theorem cd_Shares_holders : zCd m_Shares_holders := ⟨(zg_2 (List.mem_of_getElem? (i := 158) rfl) rfl), (zg_1 (List.mem_of_getElem? (i := 6) rfl) rfl), by decide +kernel, by decide +kernel⟩
def m_Shares_init : zMI := (⟨"OthersHands$Shares", "<init>", "()V"⟩, prog_9_method_1_code, 1, none, 1, 20)
theorem cd_Shares_init : zCd m_Shares_init := ⟨(zg_1 (List.mem_of_getElem? (i := 155) rfl) rfl), (zg_1 (List.mem_of_getElem? (i := 6) rfl) rfl), by decide +kernel, by decide +kernel⟩
def m_Shares_isAhead : zMI := (⟨"OthersHands$Shares", "isAhead", "(II)Z"⟩, prog_9_method_3_code, 2, some .boolean, 0, 0)
theorem cd_Shares_isAhead : zCd m_Shares_isAhead := ⟨(zg_2 (List.mem_of_getElem? (i := 165) rfl) rfl), (zg_1 (List.mem_of_getElem? (i := 6) rfl) rfl), by decide +kernel, by decide +kernel⟩
def m_Shares_lowest : zMI := (⟨"OthersHands$Shares", "lowest", "(III)I"⟩, prog_9_method_6_code, 7, some .int, 0, 0)
theorem cd_Shares_lowest : zCd m_Shares_lowest := ⟨(zg_2 (List.mem_of_getElem? (i := 201) rfl) rfl), (zg_1 (List.mem_of_getElem? (i := 6) rfl) rfl), by decide +kernel, by decide +kernel⟩
def m_Shares_partsOf : zMI := (⟨"OthersHands$Shares", "partsOf", "(LOthersHands$Pages;II)I"⟩, prog_9_method_2_code, 7, some .int, 2, 43)
theorem cd_Shares_partsOf : zCd m_Shares_partsOf := ⟨(zg_2 (List.mem_of_getElem? (i := 162) rfl) rfl), (zg_1 (List.mem_of_getElem? (i := 6) rfl) rfl), by decide +kernel, by decide +kernel⟩
def m_Shares_partsOfHands : zMI := (⟨"OthersHands$Shares", "partsOfHands", "(II)I"⟩, prog_9_method_4_code, 3, some .int, 1, 21)
theorem cd_Shares_partsOfHands : zCd m_Shares_partsOfHands := ⟨(zg_2 (List.mem_of_getElem? (i := 168) rfl) rfl), (zg_1 (List.mem_of_getElem? (i := 6) rfl) rfl), by decide +kernel, by decide +kernel⟩
def m_Town_addSight : zMI := (⟨"OthersHands$Town", "addSight", "(II)I"⟩, prog_10_method_6_code, 3, some .int, 0, 0)
theorem cd_Town_addSight : zCd m_Town_addSight := ⟨(zg_2 (List.mem_of_getElem? (i := 209) rfl) rfl), (zg_1 (List.mem_of_getElem? (i := 5) rfl) rfl), by decide +kernel, by decide +kernel⟩
def m_Town_barredMen : zMI := (⟨"OthersHands$Town", "barredMen", "(I)I"⟩, prog_10_method_12_code, 2, some .int, 4, 90)
theorem cd_Town_barredMen : zCd m_Town_barredMen := ⟨(zg_2 (List.mem_of_getElem? (i := 144) rfl) rfl), (zg_1 (List.mem_of_getElem? (i := 5) rfl) rfl), by decide +kernel, by decide +kernel⟩
def m_Town_become : zMI := (⟨"OthersHands$Town", "become", "(LOthersHands$Town;)V"⟩, prog_10_method_2_code, 2, none, 2, 61)
theorem cd_Town_become : zCd m_Town_become := ⟨(zg_3 (List.mem_of_getElem? (i := 144) rfl) rfl), (zg_1 (List.mem_of_getElem? (i := 5) rfl) rfl), by decide +kernel, by decide +kernel⟩
def m_Town_change : zMI := (⟨"OthersHands$Town", "change", "(II)I"⟩, prog_10_method_5_code, 4, some .int, 0, 0)
theorem cd_Town_change : zCd m_Town_change := ⟨(zg_2 (List.mem_of_getElem? (i := 110) rfl) rfl), (zg_1 (List.mem_of_getElem? (i := 5) rfl) rfl), by decide +kernel, by decide +kernel⟩
def m_Town_couple : zMI := (⟨"OthersHands$Town", "couple", "(I)I"⟩, prog_10_method_8_code, 3, some .int, 0, 0)
theorem cd_Town_couple : zCd m_Town_couple := ⟨(zg_2 (List.mem_of_getElem? (i := 154) rfl) rfl), (zg_1 (List.mem_of_getElem? (i := 5) rfl) rfl), by decide +kernel, by decide +kernel⟩
def m_Town_dropSights : zMI := (⟨"OthersHands$Town", "dropSights", "()I"⟩, prog_10_method_7_code, 2, some .int, 0, 0)
theorem cd_Town_dropSights : zCd m_Town_dropSights := ⟨(zg_2 (List.mem_of_getElem? (i := 217) rfl) rfl), (zg_1 (List.mem_of_getElem? (i := 5) rfl) rfl), by decide +kernel, by decide +kernel⟩
def m_Town_fewestSteps : zMI := (⟨"OthersHands$Town", "fewestSteps", "(II)I"⟩, prog_10_method_15_code, 5, some .int, 2, 45)
theorem cd_Town_fewestSteps : zCd m_Town_fewestSteps := ⟨(zg_2 (List.mem_of_getElem? (i := 191) rfl) rfl), (zg_1 (List.mem_of_getElem? (i := 5) rfl) rfl), by decide +kernel, by decide +kernel⟩
def m_Town_init : zMI := (⟨"OthersHands$Town", "<init>", "()V"⟩, prog_10_method_1_code, 2, none, 2, 40)
theorem cd_Town_init : zCd m_Town_init := ⟨(zg_1 (List.mem_of_getElem? (i := 105) rfl) rfl), (zg_1 (List.mem_of_getElem? (i := 5) rfl) rfl), by decide +kernel, by decide +kernel⟩
def m_Town_lawfulThings : zMI := (⟨"OthersHands$Town", "lawfulThings", "(I)I"⟩, prog_10_method_13_code, 4, some .int, 4, 90)
theorem cd_Town_lawfulThings : zCd m_Town_lawfulThings := ⟨(zg_2 (List.mem_of_getElem? (i := 179) rfl) rfl), (zg_1 (List.mem_of_getElem? (i := 5) rfl) rfl), by decide +kernel, by decide +kernel⟩
def m_Town_mostOf : zMI := (⟨"OthersHands$Town", "mostOf", "(I)I"⟩, prog_10_method_4_code, 1, some .int, 0, 0)
theorem cd_Town_mostOf : zCd m_Town_mostOf := ⟨(zg_2 (List.mem_of_getElem? (i := 106) rfl) rfl), (zg_1 (List.mem_of_getElem? (i := 5) rfl) rfl), by decide +kernel, by decide +kernel⟩
def m_Town_open : zMI := (⟨"OthersHands$Town", "open", "(LOthersHands$Pages;)V"⟩, prog_10_method_3_code, 3, none, 2, 61)
theorem cd_Town_open : zCd m_Town_open := ⟨(zg_2 (List.mem_of_getElem? (i := 73) rfl) rfl), (zg_1 (List.mem_of_getElem? (i := 5) rfl) rfl), by decide +kernel, by decide +kernel⟩
def m_Town_reach : zMI := (⟨"OthersHands$Town", "reach", "(I)I"⟩, prog_10_method_10_code, 5, some .int, 2, 45)
theorem cd_Town_reach : zCd m_Town_reach := ⟨(zg_2 (List.mem_of_getElem? (i := 126) rfl) rfl), (zg_1 (List.mem_of_getElem? (i := 5) rfl) rfl), by decide +kernel, by decide +kernel⟩
def m_Town_taintOf : zMI := (⟨"OthersHands$Town", "taintOf", "(I)I"⟩, prog_10_method_14_code, 4, some .int, 4, 90)
theorem cd_Town_taintOf : zCd m_Town_taintOf := ⟨(zg_2 (List.mem_of_getElem? (i := 183) rfl) rfl), (zg_1 (List.mem_of_getElem? (i := 5) rfl) rfl), by decide +kernel, by decide +kernel⟩
def m_Town_touchers : zMI := (⟨"OthersHands$Town", "touchers", "(I)I"⟩, prog_10_method_11_code, 2, some .int, 3, 69)
theorem cd_Town_touchers : zCd m_Town_touchers := ⟨(zg_2 (List.mem_of_getElem? (i := 122) rfl) rfl), (zg_1 (List.mem_of_getElem? (i := 5) rfl) rfl), by decide +kernel, by decide +kernel⟩
def m_Town_withPartners : zMI := (⟨"OthersHands$Town", "withPartners", "(I)I"⟩, prog_10_method_9_code, 4, some .int, 1, 22)
theorem cd_Town_withPartners : zCd m_Town_withPartners := ⟨(zg_2 (List.mem_of_getElem? (i := 149) rfl) rfl), (zg_1 (List.mem_of_getElem? (i := 5) rfl) rfl), by decide +kernel, by decide +kernel⟩
def m_X_allBarred : zMI := (⟨"OthersHandsModel", "allBarred", "()I"⟩, prog_12_method_44_code, 3, some .int, 3, 68)
theorem cd_X_allBarred : zCd m_X_allBarred := ⟨(zg_4 (List.mem_of_getElem? (i := 162) rfl) rfl), (zg_1 (List.mem_of_getElem? (i := 10) rfl) rfl), by decide +kernel, by decide +kernel⟩
def m_X_asTold : zMI := (⟨"OthersHandsModel", "asTold", "()V"⟩, prog_12_method_17_code, 2, none, 0, 0)
theorem cd_X_asTold : zCd m_X_asTold := ⟨(zg_4 (List.mem_of_getElem? (i := 45) rfl) rfl), (zg_1 (List.mem_of_getElem? (i := 10) rfl) rfl), by decide +kernel, by decide +kernel⟩
def m_X_barredFrom : zMI := (⟨"OthersHandsModel", "barredFrom", "(I)I"⟩, prog_12_method_21_code, 2, some .int, 2, 47)
theorem cd_X_barredFrom : zCd m_X_barredFrom := ⟨(zg_4 (List.mem_of_getElem? (i := 58) rfl) rfl), (zg_1 (List.mem_of_getElem? (i := 10) rfl) rfl), by decide +kernel, by decide +kernel⟩
def m_X_bits : zMI := (⟨"OthersHandsModel", "bits", "(I)I"⟩, prog_12_method_4_code, 3, some .int, 0, 0)
theorem cd_X_bits : zCd m_X_bits := ⟨(zg_4 (List.mem_of_getElem? (i := 76) rfl) rfl), (zg_1 (List.mem_of_getElem? (i := 10) rfl) rfl), by decide +kernel, by decide +kernel⟩
def m_X_book : zMI := (⟨"OthersHandsModel", "book", "()I"⟩, prog_12_method_11_code, 6, some .int, 2, 52)
theorem cd_X_book : zCd m_X_book := ⟨(zg_4 (List.mem_of_getElem? (i := 10) rfl) rfl), (zg_1 (List.mem_of_getElem? (i := 10) rfl) rfl), by decide +kernel, by decide +kernel⟩
def m_X_byTenths : zMI := (⟨"OthersHandsModel", "byTenths", "(I)I"⟩, prog_12_method_23_code, 5, some .int, 2, 48)
theorem cd_X_byTenths : zCd m_X_byTenths := ⟨(zg_4 (List.mem_of_getElem? (i := 69) rfl) rfl), (zg_1 (List.mem_of_getElem? (i := 10) rfl) rfl), by decide +kernel, by decide +kernel⟩
def m_X_codes : zMI := (⟨"OthersHandsModel", "codes", "()I"⟩, prog_12_method_33_code, 3, some .int, 1, 22)
theorem cd_X_codes : zCd m_X_codes := ⟨(zg_4 (List.mem_of_getElem? (i := 114) rfl) rfl), (zg_1 (List.mem_of_getElem? (i := 10) rfl) rfl), by decide +kernel, by decide +kernel⟩
def m_X_days : zMI := (⟨"OthersHandsModel", "days", "(III)I"⟩, prog_12_method_47_code, 10, some .int, 5, 112)
theorem cd_X_days : zCd m_X_days := ⟨(zg_4 (List.mem_of_getElem? (i := 171) rfl) rfl), (zg_1 (List.mem_of_getElem? (i := 10) rfl) rfl), by decide +kernel, by decide +kernel⟩
def m_X_fault : zMI := (⟨"OthersHandsModel", "fault", "()I"⟩, prog_12_method_10_code, 1, some .int, 2, 52)
theorem cd_X_fault : zCd m_X_fault := ⟨(zg_4 (List.mem_of_getElem? (i := 2) rfl) rfl), (zg_1 (List.mem_of_getElem? (i := 10) rfl) rfl), by decide +kernel, by decide +kernel⟩
def m_X_faultOf : zMI := (⟨"OthersHandsModel", "faultOf", "()I"⟩, prog_12_method_9_code, 11, some .int, 1, 22)
theorem cd_X_faultOf : zCd m_X_faultOf := ⟨(zg_4 (List.mem_of_getElem? (i := 6) rfl) rfl), (zg_1 (List.mem_of_getElem? (i := 10) rfl) rfl), by decide +kernel, by decide +kernel⟩
def m_X_fed : zMI := (⟨"OthersHandsModel", "fed", "(I)I"⟩, prog_12_method_39_code, 6, some .int, 5, 112)
theorem cd_X_fed : zCd m_X_fed := ⟨(zg_4 (List.mem_of_getElem? (i := 134) rfl) rfl), (zg_1 (List.mem_of_getElem? (i := 10) rfl) rfl), by decide +kernel, by decide +kernel⟩
def m_X_feeds : zMI := (⟨"OthersHandsModel", "feeds", "(II)Z"⟩, prog_12_method_41_code, 7, some .boolean, 1, 22)
theorem cd_X_feeds : zCd m_X_feeds := ⟨(zg_4 (List.mem_of_getElem? (i := 150) rfl) rfl), (zg_1 (List.mem_of_getElem? (i := 10) rfl) rfl), by decide +kernel, by decide +kernel⟩
def m_X_fill : zMI := (⟨"OthersHandsModel", "fill", "(I)Z"⟩, prog_12_method_35_code, 6, some .boolean, 3, 68)
theorem cd_X_fill : zCd m_X_fill := ⟨(zg_4 (List.mem_of_getElem? (i := 122) rfl) rfl), (zg_1 (List.mem_of_getElem? (i := 10) rfl) rfl), by decide +kernel, by decide +kernel⟩
def m_X_filled : zMI := (⟨"OthersHandsModel", "filled", "(I)I"⟩, prog_12_method_36_code, 5, some .int, 4, 93)
theorem cd_X_filled : zCd m_X_filled := ⟨(zg_4 (List.mem_of_getElem? (i := 110) rfl) rfl), (zg_1 (List.mem_of_getElem? (i := 10) rfl) rfl), by decide +kernel, by decide +kernel⟩
def m_X_forget : zMI := (⟨"OthersHandsModel", "forget", "()I"⟩, prog_12_method_31_code, 2, some .int, 0, 0)
theorem cd_X_forget : zCd m_X_forget := ⟨(zg_4 (List.mem_of_getElem? (i := 106) rfl) rfl), (zg_1 (List.mem_of_getElem? (i := 10) rfl) rfl), by decide +kernel, by decide +kernel⟩
def m_X_has : zMI := (⟨"OthersHandsModel", "has", "(II)Z"⟩, prog_12_method_3_code, 2, some .boolean, 0, 0)
theorem cd_X_has : zCd m_X_has := ⟨(zg_4 (List.mem_of_getElem? (i := 65) rfl) rfl), (zg_1 (List.mem_of_getElem? (i := 10) rfl) rfl), by decide +kernel, by decide +kernel⟩
def m_X_image : zMI := (⟨"OthersHandsModel", "image", "(I)I"⟩, prog_12_method_48_code, 4, some .int, 1, 22)
theorem cd_X_image : zCd m_X_image := ⟨(zg_4 (List.mem_of_getElem? (i := 176) rfl) rfl), (zg_1 (List.mem_of_getElem? (i := 10) rfl) rfl), by decide +kernel, by decide +kernel⟩
def m_X_in : zMI := (⟨"OthersHandsModel", "in", "(III)Z"⟩, prog_12_method_2_code, 3, some .boolean, 0, 0)
theorem cd_X_in : zCd m_X_in := ⟨(zg_3 (List.mem_of_getElem? (i := 234) rfl) rfl), (zg_1 (List.mem_of_getElem? (i := 10) rfl) rfl), by decide +kernel, by decide +kernel⟩
def m_X_init : zMI := (⟨"OthersHandsModel", "<init>", "()V"⟩, prog_12_method_1_code, 2, none, 1, 20)
theorem cd_X_init : zCd m_X_init := ⟨(zg_3 (List.mem_of_getElem? (i := 158) rfl) rfl), (zg_1 (List.mem_of_getElem? (i := 10) rfl) rfl), by decide +kernel, by decide +kernel⟩
def m_X_isMan : zMI := (⟨"OthersHandsModel", "isMan", "(I)Z"⟩, prog_12_method_5_code, 1, some .boolean, 1, 22)
theorem cd_X_isMan : zCd m_X_isMan := ⟨(zg_4 (List.mem_of_getElem? (i := 25) rfl) rfl), (zg_1 (List.mem_of_getElem? (i := 10) rfl) rfl), by decide +kernel, by decide +kernel⟩
def m_X_isThing : zMI := (⟨"OthersHandsModel", "isThing", "(I)Z"⟩, prog_12_method_6_code, 2, some .boolean, 1, 22)
theorem cd_X_isThing : zCd m_X_isThing := ⟨(zg_4 (List.mem_of_getElem? (i := 18) rfl) rfl), (zg_1 (List.mem_of_getElem? (i := 10) rfl) rfl), by decide +kernel, by decide +kernel⟩
def m_X_join : zMI := (⟨"OthersHandsModel", "join", "(II)I"⟩, prog_12_method_13_code, 3, some .int, 2, 42)
theorem cd_X_join : zCd m_X_join := ⟨(zg_4 (List.mem_of_getElem? (i := 22) rfl) rfl), (zg_1 (List.mem_of_getElem? (i := 10) rfl) rfl), by decide +kernel, by decide +kernel⟩
def m_X_lack : zMI := (⟨"OthersHandsModel", "lack", "()I"⟩, prog_12_method_40_code, 5, some .int, 5, 112)
theorem cd_X_lack : zCd m_X_lack := ⟨(zg_4 (List.mem_of_getElem? (i := 142) rfl) rfl), (zg_1 (List.mem_of_getElem? (i := 10) rfl) rfl), by decide +kernel, by decide +kernel⟩
def m_X_layMays : zMI := (⟨"OthersHandsModel", "layMays", "()V"⟩, prog_12_method_38_code, 2, none, 4, 91)
theorem cd_X_layMays : zCd m_X_layMays := ⟨(zg_4 (List.mem_of_getElem? (i := 138) rfl) rfl), (zg_1 (List.mem_of_getElem? (i := 10) rfl) rfl), by decide +kernel, by decide +kernel⟩
def m_X_layPlan : zMI := (⟨"OthersHandsModel", "layPlan", "(I)Z"⟩, prog_12_method_45_code, 7, some .boolean, 0, 0)
theorem cd_X_layPlan : zCd m_X_layPlan := ⟨(zg_4 (List.mem_of_getElem? (i := 167) rfl) rfl), (zg_1 (List.mem_of_getElem? (i := 10) rfl) rfl), by decide +kernel, by decide +kernel⟩
def m_X_loaves : zMI := (⟨"OthersHandsModel", "loaves", "(II)I"⟩, prog_12_method_16_code, 4, some .int, 2, 43)
theorem cd_X_loaves : zCd m_X_loaves := ⟨(zg_4 (List.mem_of_getElem? (i := 37) rfl) rfl), (zg_1 (List.mem_of_getElem? (i := 10) rfl) rfl), by decide +kernel, by decide +kernel⟩
def m_X_makers : zMI := (⟨"OthersHandsModel", "makers", "(II)I"⟩, prog_12_method_42_code, 6, some .int, 2, 48)
theorem cd_X_makers : zCd m_X_makers := ⟨(zg_4 (List.mem_of_getElem? (i := 146) rfl) rfl), (zg_1 (List.mem_of_getElem? (i := 10) rfl) rfl), by decide +kernel, by decide +kernel⟩
def m_X_manAt : zMI := (⟨"OthersHandsModel", "manAt", "(II)I"⟩, prog_12_method_34_code, 5, some .int, 1, 22)
theorem cd_X_manAt : zCd m_X_manAt := ⟨(zg_4 (List.mem_of_getElem? (i := 126) rfl) rfl), (zg_1 (List.mem_of_getElem? (i := 10) rfl) rfl), by decide +kernel, by decide +kernel⟩
def m_X_married : zMI := (⟨"OthersHandsModel", "married", "(I)I"⟩, prog_12_method_46_code, 7, some .int, 4, 90)
theorem cd_X_married : zCd m_X_married := ⟨(zg_4 (List.mem_of_getElem? (i := 158) rfl) rfl), (zg_1 (List.mem_of_getElem? (i := 10) rfl) rfl), by decide +kernel, by decide +kernel⟩
def m_X_may : zMI := (⟨"OthersHandsModel", "may", "(II)I"⟩, prog_12_method_26_code, 5, some .int, 4, 91)
theorem cd_X_may : zCd m_X_may := ⟨(zg_4 (List.mem_of_getElem? (i := 80) rfl) rfl), (zg_1 (List.mem_of_getElem? (i := 10) rfl) rfl), by decide +kernel, by decide +kernel⟩
def m_X_mayHave : zMI := (⟨"OthersHandsModel", "mayHave", "(I)I"⟩, prog_12_method_25_code, 4, some .int, 3, 68)
theorem cd_X_mayHave : zCd m_X_mayHave := ⟨(zg_4 (List.mem_of_getElem? (i := 84) rfl) rfl), (zg_1 (List.mem_of_getElem? (i := 10) rfl) rfl), by decide +kernel, by decide +kernel⟩
def m_X_near : zMI := (⟨"OthersHandsModel", "near", "(II)I"⟩, prog_12_method_28_code, 4, some .int, 2, 48)
theorem cd_X_near : zCd m_X_near := ⟨(zg_4 (List.mem_of_getElem? (i := 88) rfl) rfl), (zg_1 (List.mem_of_getElem? (i := 10) rfl) rfl), by decide +kernel, by decide +kernel⟩
def m_X_nearTo : zMI := (⟨"OthersHandsModel", "nearTo", "(II)I"⟩, prog_12_method_27_code, 5, some .int, 1, 24)
theorem cd_X_nearTo : zCd m_X_nearTo := ⟨(zg_4 (List.mem_of_getElem? (i := 92) rfl) rfl), (zg_1 (List.mem_of_getElem? (i := 10) rfl) rfl), by decide +kernel, by decide +kernel⟩
def m_X_opens : zMI := (⟨"OthersHandsModel", "opens", "()I"⟩, prog_12_method_32_code, 3, some .int, 0, 0)
theorem cd_X_opens : zCd m_X_opens := ⟨(zg_4 (List.mem_of_getElem? (i := 118) rfl) rfl), (zg_1 (List.mem_of_getElem? (i := 10) rfl) rfl), by decide +kernel, by decide +kernel⟩
def m_X_part : zMI := (⟨"OthersHandsModel", "part", "(I)I"⟩, prog_12_method_14_code, 3, some .int, 2, 42)
theorem cd_X_part : zCd m_X_part := ⟨(zg_4 (List.mem_of_getElem? (i := 29) rfl) rfl), (zg_1 (List.mem_of_getElem? (i := 10) rfl) rfl), by decide +kernel, by decide +kernel⟩
def m_X_restore : zMI := (⟨"OthersHandsModel", "restore", "(I)I"⟩, prog_12_method_49_code, 4, some .int, 1, 22)
theorem cd_X_restore : zCd m_X_restore := ⟨(zg_4 (List.mem_of_getElem? (i := 180) rfl) rfl), (zg_1 (List.mem_of_getElem? (i := 10) rfl) rfl), by decide +kernel, by decide +kernel⟩
def m_X_say : zMI := (⟨"OthersHandsModel", "say", "(I)I"⟩, prog_12_method_7_code, 2, some .int, 1, 22)
theorem cd_X_say : zCd m_X_say := ⟨(zg_3 (List.mem_of_getElem? (i := 231) rfl) rfl), (zg_1 (List.mem_of_getElem? (i := 10) rfl) rfl), by decide +kernel, by decide +kernel⟩
def m_X_seen : zMI := (⟨"OthersHandsModel", "seen", "(II)I"⟩, prog_12_method_30_code, 3, some .int, 2, 43)
theorem cd_X_seen : zCd m_X_seen := ⟨(zg_4 (List.mem_of_getElem? (i := 102) rfl) rfl), (zg_1 (List.mem_of_getElem? (i := 10) rfl) rfl), by decide +kernel, by decide +kernel⟩
def m_X_set : zMI := (⟨"OthersHandsModel", "set", "(II)I"⟩, prog_12_method_15_code, 4, some .int, 1, 22)
theorem cd_X_set : zCd m_X_set := ⟨(zg_4 (List.mem_of_getElem? (i := 33) rfl) rfl), (zg_1 (List.mem_of_getElem? (i := 10) rfl) rfl), by decide +kernel, by decide +kernel⟩
def m_X_share : zMI := (⟨"OthersHandsModel", "share", "(III)J"⟩, prog_12_method_29_code, 8, some .long, 2, 48)
theorem cd_X_share : zCd m_X_share := ⟨(zg_4 (List.mem_of_getElem? (i := 96) rfl) rfl), (zg_1 (List.mem_of_getElem? (i := 10) rfl) rfl), by decide +kernel, by decide +kernel⟩
def m_X_shareOf : zMI := (⟨"OthersHandsModel", "shareOf", "(II)I"⟩, prog_12_method_22_code, 7, some .int, 1, 22)
theorem cd_X_shareOf : zCd m_X_shareOf := ⟨(zg_4 (List.mem_of_getElem? (i := 73) rfl) rfl), (zg_1 (List.mem_of_getElem? (i := 10) rfl) rfl), by decide +kernel, by decide +kernel⟩
def m_X_sure : zMI := (⟨"OthersHandsModel", "sure", "(II)I"⟩, prog_12_method_37_code, 8, some .int, 4, 93)
theorem cd_X_sure : zCd m_X_sure := ⟨(zg_4 (List.mem_of_getElem? (i := 130) rfl) rfl), (zg_1 (List.mem_of_getElem? (i := 10) rfl) rfl), by decide +kernel, by decide +kernel⟩
def m_X_thing : zMI := (⟨"OthersHandsModel", "thing", "(II)I"⟩, prog_12_method_12_code, 3, some .int, 2, 43)
theorem cd_X_thing : zCd m_X_thing := ⟨(zg_4 (List.mem_of_getElem? (i := 14) rfl) rfl), (zg_1 (List.mem_of_getElem? (i := 10) rfl) rfl), by decide +kernel, by decide +kernel⟩
def m_X_told : zMI := (⟨"OthersHandsModel", "told", "(I)I"⟩, prog_12_method_50_code, 2, some .int, 2, 43)
theorem cd_X_told : zCd m_X_told := ⟨(zg_4 (List.mem_of_getElem? (i := 184) rfl) rfl), (zg_1 (List.mem_of_getElem? (i := 10) rfl) rfl), by decide +kernel, by decide +kernel⟩
def m_X_touched : zMI := (⟨"OthersHandsModel", "touched", "(II)I"⟩, prog_12_method_24_code, 3, some .int, 3, 72)
theorem cd_X_touched : zCd m_X_touched := ⟨(zg_4 (List.mem_of_getElem? (i := 41) rfl) rfl), (zg_1 (List.mem_of_getElem? (i := 10) rfl) rfl), by decide +kernel, by decide +kernel⟩
def m_X_touchers : zMI := (⟨"OthersHandsModel", "touchers", "(I)I"⟩, prog_12_method_19_code, 4, some .int, 1, 24)
theorem cd_X_touchers : zCd m_X_touchers := ⟨(zg_4 (List.mem_of_getElem? (i := 49) rfl) rfl), (zg_1 (List.mem_of_getElem? (i := 10) rfl) rfl), by decide +kernel, by decide +kernel⟩
def m_X_walk : zMI := (⟨"OthersHandsModel", "walk", "(I)V"⟩, prog_12_method_18_code, 5, none, 0, 0)
theorem cd_X_walk : zCd m_X_walk := ⟨(zg_4 (List.mem_of_getElem? (i := 53) rfl) rfl), (zg_1 (List.mem_of_getElem? (i := 10) rfl) rfl), by decide +kernel, by decide +kernel⟩
def m_X_washed : zMI := (⟨"OthersHandsModel", "washed", "(II)I"⟩, prog_12_method_43_code, 6, some .int, 2, 48)
theorem cd_X_washed : zCd m_X_washed := ⟨(zg_4 (List.mem_of_getElem? (i := 154) rfl) rfl), (zg_1 (List.mem_of_getElem? (i := 10) rfl) rfl), by decide +kernel, by decide +kernel⟩
def m_X_wipe : zMI := (⟨"OthersHandsModel", "wipe", "()I"⟩, prog_12_method_8_code, 2, some .int, 0, 0)
theorem cd_X_wipe : zCd m_X_wipe := ⟨(zg_3 (List.mem_of_getElem? (i := 238) rfl) rfl), (zg_1 (List.mem_of_getElem? (i := 10) rfl) rfl), by decide +kernel, by decide +kernel⟩
def m_X_withPartners : zMI := (⟨"OthersHandsModel", "withPartners", "(I)I"⟩, prog_12_method_20_code, 4, some .int, 1, 21)
theorem cd_X_withPartners : zCd m_X_withPartners := ⟨(zg_4 (List.mem_of_getElem? (i := 62) rfl) rfl), (zg_1 (List.mem_of_getElem? (i := 10) rfl) rfl), by decide +kernel, by decide +kernel⟩
def SHP (g : Nat → Option Nat) (X : List zShp) : List zShp :=
  (.inr (.inl (8, [some (some 1), some (some 3), some (some 10), some (some 21), some (some 22), some (some 24), some (some 27), some (some 31)]))) :: (.inr (.inl (3, [some (some 2), none]))) :: (.inl (0, 60)) :: (.inr (.inl (5, [some (some 4), none, none]))) :: (.inr (.inl (4, [some (some 5), some (some 6), some (some 7), some (some 8), some (some 9), none]))) :: (.inl (0, 10)) :: (.inl (0, 10)) :: (.inl (0, 10)) :: (.inl (0, 10)) :: (.inl (0, 10)) :: (.inr (.inl (7, [some (some 11), some (some 17), some (some 18), some (some 19), some (some 20), none, none, none, none]))) :: (.inr (.inl (4, [some (some 12), some (some 13), some (some 14), some (some 15), some (some 16), none]))) :: (.inl (0, 10)) :: (.inl (0, 10)) :: (.inl (0, 10)) :: (.inl (0, 10)) :: (.inl (0, 10)) :: (.inl (0, 6)) :: (.inl (0, 10)) :: (.inl (0, 6)) :: (.inl (0, 6)) :: (.inr (.inr (2, g))) :: (.inr (.inl (6, [some (some 23)]))) :: (.inl (0, 10)) :: (.inr (.inl (1, [some (some 25), some (some 26), none, none]))) :: (.inl (0, 4)) :: (.inl (0, 4)) :: (.inr (.inl (0, [some (some 28), some (some 29), some (some 30)]))) :: (.inl (0, 6)) :: (.inl (0, 10)) :: (.inl (0, 6)) :: (.inr (.inl (2, [some (some 32), some (some 33), some (some 34)]))) :: (.inl (0, 6)) :: (.inl (0, 64)) :: (.inl (0, 6)) :: (.inr (.inl (9, [none, none, none, some (some 36), none, some (some 37), none, some (some 38), some (some 39), none, some (some 40), some (some 41), some (some 42), some (some 43), some (some 44), some (some 45), some (some 46), some (some 47), some (some 48), some (some 49), some (some 50), some (some 51)]))) :: (.inl (0, 6)) :: (.inl (0, 60)) :: (.inl (0, 50)) :: (.inl (0, 10)) :: (.inl (0, 12)) :: (.inl (0, 10)) :: (.inl (0, 10)) :: (.inl (0, 10)) :: (.inl (0, 6)) :: (.inl (0, 6)) :: (.inl (0, 6)) :: (.inl (0, 10)) :: (.inl (0, 6)) :: (.inl (0, 6)) :: (.inl (0, 168)) :: (.inl (1, 2)) :: X
theorem sh_0 (g : Nat → Option Nat) (X : List zShp) : (SHP g X)[0]? = some (.inr (.inl (8, [some (some 1), some (some 3), some (some 10), some (some 21), some (some 22), some (some 24), some (some 27), some (some 31)]))) := rfl
theorem sh_1 (g : Nat → Option Nat) (X : List zShp) : (SHP g X)[1]? = some (.inr (.inl (3, [some (some 2), none]))) := rfl
theorem sh_2 (g : Nat → Option Nat) (X : List zShp) : (SHP g X)[2]? = some (.inl (0, 60)) := rfl
theorem sh_3 (g : Nat → Option Nat) (X : List zShp) : (SHP g X)[3]? = some (.inr (.inl (5, [some (some 4), none, none]))) := rfl
theorem sh_4 (g : Nat → Option Nat) (X : List zShp) : (SHP g X)[4]? = some (.inr (.inl (4, [some (some 5), some (some 6), some (some 7), some (some 8), some (some 9), none]))) := rfl
theorem sh_5 (g : Nat → Option Nat) (X : List zShp) : (SHP g X)[5]? = some (.inl (0, 10)) := rfl
theorem sh_6 (g : Nat → Option Nat) (X : List zShp) : (SHP g X)[6]? = some (.inl (0, 10)) := rfl
theorem sh_7 (g : Nat → Option Nat) (X : List zShp) : (SHP g X)[7]? = some (.inl (0, 10)) := rfl
theorem sh_8 (g : Nat → Option Nat) (X : List zShp) : (SHP g X)[8]? = some (.inl (0, 10)) := rfl
theorem sh_9 (g : Nat → Option Nat) (X : List zShp) : (SHP g X)[9]? = some (.inl (0, 10)) := rfl
theorem sh_10 (g : Nat → Option Nat) (X : List zShp) : (SHP g X)[10]? = some (.inr (.inl (7, [some (some 11), some (some 17), some (some 18), some (some 19), some (some 20), none, none, none, none]))) := rfl
theorem sh_11 (g : Nat → Option Nat) (X : List zShp) : (SHP g X)[11]? = some (.inr (.inl (4, [some (some 12), some (some 13), some (some 14), some (some 15), some (some 16), none]))) := rfl
theorem sh_12 (g : Nat → Option Nat) (X : List zShp) : (SHP g X)[12]? = some (.inl (0, 10)) := rfl
theorem sh_13 (g : Nat → Option Nat) (X : List zShp) : (SHP g X)[13]? = some (.inl (0, 10)) := rfl
theorem sh_14 (g : Nat → Option Nat) (X : List zShp) : (SHP g X)[14]? = some (.inl (0, 10)) := rfl
theorem sh_15 (g : Nat → Option Nat) (X : List zShp) : (SHP g X)[15]? = some (.inl (0, 10)) := rfl
theorem sh_16 (g : Nat → Option Nat) (X : List zShp) : (SHP g X)[16]? = some (.inl (0, 10)) := rfl
theorem sh_17 (g : Nat → Option Nat) (X : List zShp) : (SHP g X)[17]? = some (.inl (0, 6)) := rfl
theorem sh_18 (g : Nat → Option Nat) (X : List zShp) : (SHP g X)[18]? = some (.inl (0, 10)) := rfl
theorem sh_19 (g : Nat → Option Nat) (X : List zShp) : (SHP g X)[19]? = some (.inl (0, 6)) := rfl
theorem sh_20 (g : Nat → Option Nat) (X : List zShp) : (SHP g X)[20]? = some (.inl (0, 6)) := rfl
theorem sh_21 (g : Nat → Option Nat) (X : List zShp) : (SHP g X)[21]? = some (.inr (.inr (2, g))) := rfl
theorem sh_22 (g : Nat → Option Nat) (X : List zShp) : (SHP g X)[22]? = some (.inr (.inl (6, [some (some 23)]))) := rfl
theorem sh_23 (g : Nat → Option Nat) (X : List zShp) : (SHP g X)[23]? = some (.inl (0, 10)) := rfl
theorem sh_24 (g : Nat → Option Nat) (X : List zShp) : (SHP g X)[24]? = some (.inr (.inl (1, [some (some 25), some (some 26), none, none]))) := rfl
theorem sh_25 (g : Nat → Option Nat) (X : List zShp) : (SHP g X)[25]? = some (.inl (0, 4)) := rfl
theorem sh_26 (g : Nat → Option Nat) (X : List zShp) : (SHP g X)[26]? = some (.inl (0, 4)) := rfl
theorem sh_27 (g : Nat → Option Nat) (X : List zShp) : (SHP g X)[27]? = some (.inr (.inl (0, [some (some 28), some (some 29), some (some 30)]))) := rfl
theorem sh_28 (g : Nat → Option Nat) (X : List zShp) : (SHP g X)[28]? = some (.inl (0, 6)) := rfl
theorem sh_29 (g : Nat → Option Nat) (X : List zShp) : (SHP g X)[29]? = some (.inl (0, 10)) := rfl
theorem sh_30 (g : Nat → Option Nat) (X : List zShp) : (SHP g X)[30]? = some (.inl (0, 6)) := rfl
theorem sh_31 (g : Nat → Option Nat) (X : List zShp) : (SHP g X)[31]? = some (.inr (.inl (2, [some (some 32), some (some 33), some (some 34)]))) := rfl
theorem sh_32 (g : Nat → Option Nat) (X : List zShp) : (SHP g X)[32]? = some (.inl (0, 6)) := rfl
theorem sh_33 (g : Nat → Option Nat) (X : List zShp) : (SHP g X)[33]? = some (.inl (0, 64)) := rfl
theorem sh_34 (g : Nat → Option Nat) (X : List zShp) : (SHP g X)[34]? = some (.inl (0, 6)) := rfl
theorem sh_35 (g : Nat → Option Nat) (X : List zShp) : (SHP g X)[35]? = some (.inr (.inl (9, [none, none, none, some (some 36), none, some (some 37), none, some (some 38), some (some 39), none, some (some 40), some (some 41), some (some 42), some (some 43), some (some 44), some (some 45), some (some 46), some (some 47), some (some 48), some (some 49), some (some 50), some (some 51)]))) := rfl
theorem sh_36 (g : Nat → Option Nat) (X : List zShp) : (SHP g X)[36]? = some (.inl (0, 6)) := rfl
theorem sh_37 (g : Nat → Option Nat) (X : List zShp) : (SHP g X)[37]? = some (.inl (0, 60)) := rfl
theorem sh_38 (g : Nat → Option Nat) (X : List zShp) : (SHP g X)[38]? = some (.inl (0, 50)) := rfl
theorem sh_39 (g : Nat → Option Nat) (X : List zShp) : (SHP g X)[39]? = some (.inl (0, 10)) := rfl
theorem sh_40 (g : Nat → Option Nat) (X : List zShp) : (SHP g X)[40]? = some (.inl (0, 12)) := rfl
theorem sh_41 (g : Nat → Option Nat) (X : List zShp) : (SHP g X)[41]? = some (.inl (0, 10)) := rfl
theorem sh_42 (g : Nat → Option Nat) (X : List zShp) : (SHP g X)[42]? = some (.inl (0, 10)) := rfl
theorem sh_43 (g : Nat → Option Nat) (X : List zShp) : (SHP g X)[43]? = some (.inl (0, 10)) := rfl
theorem sh_44 (g : Nat → Option Nat) (X : List zShp) : (SHP g X)[44]? = some (.inl (0, 6)) := rfl
theorem sh_45 (g : Nat → Option Nat) (X : List zShp) : (SHP g X)[45]? = some (.inl (0, 6)) := rfl
theorem sh_46 (g : Nat → Option Nat) (X : List zShp) : (SHP g X)[46]? = some (.inl (0, 6)) := rfl
theorem sh_47 (g : Nat → Option Nat) (X : List zShp) : (SHP g X)[47]? = some (.inl (0, 10)) := rfl
theorem sh_48 (g : Nat → Option Nat) (X : List zShp) : (SHP g X)[48]? = some (.inl (0, 6)) := rfl
theorem sh_49 (g : Nat → Option Nat) (X : List zShp) : (SHP g X)[49]? = some (.inl (0, 6)) := rfl
theorem sh_50 (g : Nat → Option Nat) (X : List zShp) : (SHP g X)[50]? = some (.inl (0, 168)) := rfl
theorem sh_51 (g : Nat → Option Nat) (X : List zShp) : (SHP g X)[51]? = some (.inl (1, 2)) := rfl
