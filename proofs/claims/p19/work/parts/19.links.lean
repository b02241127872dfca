theorem gf_O_12 : zGF "OthersHands" 12 8 0 := ⟨_, _, _, rfl, zi_O, by decide, (zg_1 (List.mem_of_getElem? (i := 215) rfl) rfl)⟩
theorem pf_O_12 : zPF "OthersHands" 12 8 0 true (.object "OthersHands$Pad") := ⟨_, _, _, _, rfl, zi_O, by decide, (zg_1 (List.mem_of_getElem? (i := 215) rfl) rfl), zo_O, zn_O, rfl, by decide +kernel, rfl⟩
theorem gf_O_19 : zGF "OthersHands" 19 8 1 := ⟨_, _, _, rfl, zi_O, by decide, (zg_1 (List.mem_of_getElem? (i := 216) rfl) rfl)⟩
theorem pf_O_19 : zPF "OthersHands" 19 8 1 true (.object "OthersHands$Reader") := ⟨_, _, _, _, rfl, zi_O, by decide, (zg_1 (List.mem_of_getElem? (i := 216) rfl) rfl), zo_O, zn_O, rfl, by decide +kernel, rfl⟩
theorem gf_O_26 : zGF "OthersHands" 26 8 2 := ⟨_, _, _, rfl, zi_O, by decide, (zg_1 (List.mem_of_getElem? (i := 217) rfl) rfl)⟩
theorem pf_O_26 : zPF "OthersHands" 26 8 2 true (.object "OthersHands$Town") := ⟨_, _, _, _, rfl, zi_O, by decide, (zg_1 (List.mem_of_getElem? (i := 217) rfl) rfl), zo_O, zn_O, rfl, by decide +kernel, rfl⟩
theorem gf_O_30 : zGF "OthersHands" 30 8 3 := ⟨_, _, _, rfl, zi_O, by decide, (zg_1 (List.mem_of_getElem? (i := 218) rfl) rfl)⟩
theorem pf_O_30 : zPF "OthersHands" 30 8 3 true (.array (.object "OthersHands$Town")) := ⟨_, _, _, _, rfl, zi_O, by decide, (zg_1 (List.mem_of_getElem? (i := 218) rfl) rfl), zo_O, zn_O, rfl, by decide +kernel, rfl⟩
theorem gf_O_37 : zGF "OthersHands" 37 8 4 := ⟨_, _, _, rfl, zi_O, by decide, (zg_1 (List.mem_of_getElem? (i := 219) rfl) rfl)⟩
theorem pf_O_37 : zPF "OthersHands" 37 8 4 true (.object "OthersHands$Shares") := ⟨_, _, _, _, rfl, zi_O, by decide, (zg_1 (List.mem_of_getElem? (i := 219) rfl) rfl), zo_O, zn_O, rfl, by decide +kernel, rfl⟩
theorem gf_O_44 : zGF "OthersHands" 44 8 5 := ⟨_, _, _, rfl, zi_O, by decide, (zg_1 (List.mem_of_getElem? (i := 220) rfl) rfl)⟩
theorem pf_O_44 : zPF "OthersHands" 44 8 5 true (.object "OthersHands$Filling") := ⟨_, _, _, _, rfl, zi_O, by decide, (zg_1 (List.mem_of_getElem? (i := 220) rfl) rfl), zo_O, zn_O, rfl, by decide +kernel, rfl⟩
theorem gf_O_51 : zGF "OthersHands" 51 8 6 := ⟨_, _, _, rfl, zi_O, by decide, (zg_1 (List.mem_of_getElem? (i := 221) rfl) rfl)⟩
theorem pf_O_51 : zPF "OthersHands" 51 8 6 true (.object "OthersHands$Bread") := ⟨_, _, _, _, rfl, zi_O, by decide, (zg_1 (List.mem_of_getElem? (i := 221) rfl) rfl), zo_O, zn_O, rfl, by decide +kernel, rfl⟩
theorem gf_O_58 : zGF "OthersHands" 58 8 7 := ⟨_, _, _, rfl, zi_O, by decide, (zg_1 (List.mem_of_getElem? (i := 222) rfl) rfl)⟩
theorem pf_O_58 : zPF "OthersHands" 58 8 7 true (.object "OthersHands$Matchmaker") := ⟨_, _, _, _, rfl, zi_O, by decide, (zg_1 (List.mem_of_getElem? (i := 222) rfl) rfl), zo_O, zn_O, rfl, by decide +kernel, rfl⟩
theorem gf_O_74 : zGF "OthersHands" 74 5 0 := ⟨_, _, _, rfl, zi_Reader, by decide, (zg_1 (List.mem_of_getElem? (i := 91) rfl) rfl)⟩
theorem gf_O_82 : zGF "OthersHands" 82 7 0 := ⟨_, _, _, rfl, zi_Town, by decide, (zg_1 (List.mem_of_getElem? (i := 111) rfl) rfl)⟩
theorem gf_O_85 : zGF "OthersHands" 85 4 5 := ⟨_, _, _, rfl, zi_Pages, by decide, (zg_1 (List.mem_of_getElem? (i := 75) rfl) rfl)⟩
theorem gf_O_95 : zGF "OthersHands" 95 4 0 := ⟨_, _, _, rfl, zi_Pages, by decide, (zg_1 (List.mem_of_getElem? (i := 55) rfl) rfl)⟩
theorem gf_O_99 : zGF "OthersHands" 99 4 1 := ⟨_, _, _, rfl, zi_Pages, by decide, (zg_1 (List.mem_of_getElem? (i := 60) rfl) rfl)⟩
theorem gf_O_102 : zGF "OthersHands" 102 4 2 := ⟨_, _, _, rfl, zi_Pages, by decide, (zg_1 (List.mem_of_getElem? (i := 64) rfl) rfl)⟩
theorem gf_O_105 : zGF "OthersHands" 105 4 3 := ⟨_, _, _, rfl, zi_Pages, by decide, (zg_1 (List.mem_of_getElem? (i := 67) rfl) rfl)⟩
theorem gf_O_108 : zGF "OthersHands" 108 4 4 := ⟨_, _, _, rfl, zi_Pages, by decide, (zg_1 (List.mem_of_getElem? (i := 70) rfl) rfl)⟩
theorem gf_O_114 : zGF "OthersHands" 114 7 1 := ⟨_, _, _, rfl, zi_Town, by decide, (zg_1 (List.mem_of_getElem? (i := 114) rfl) rfl)⟩
theorem gf_O_124 : zGF "OthersHands" 124 7 2 := ⟨_, _, _, rfl, zi_Town, by decide, (zg_1 (List.mem_of_getElem? (i := 117) rfl) rfl)⟩
theorem gf_O_133 : zGF "OthersHands" 133 7 8 := ⟨_, _, _, rfl, zi_Town, by decide, (zg_1 (List.mem_of_getElem? (i := 130) rfl) rfl)⟩
theorem gf_O_192 : zGF "OthersHands" 192 0 2 := ⟨_, _, _, rfl, zi_Bread, by decide, (zg_1 (List.mem_of_getElem? (i := 190) rfl) rfl)⟩
theorem gf_O_211 : zGF "OthersHands" 211 7 6 := ⟨_, _, _, rfl, zi_Town, by decide, (zg_1 (List.mem_of_getElem? (i := 126) rfl) rfl)⟩
theorem gf_O_223 : zGF "OthersHands" 223 2 2 := ⟨_, _, _, rfl, zi_Matchmaker, by decide, (zg_1 (List.mem_of_getElem? (i := 207) rfl) rfl)⟩
theorem gf_O_229 : zGF "OthersHands" 229 0 1 := ⟨_, _, _, rfl, zi_Bread, by decide, (zg_1 (List.mem_of_getElem? (i := 188) rfl) rfl)⟩
theorem gf_O_235 : zGF "OthersHands" 235 3 1 := ⟨_, _, _, rfl, zi_Pad, by decide, (zg_1 (List.mem_of_getElem? (i := 33) rfl) rfl)⟩
theorem gf_O_236 : zGF "OthersHands" 236 7 7 := ⟨_, _, _, rfl, zi_Town, by decide, (zg_1 (List.mem_of_getElem? (i := 128) rfl) rfl)⟩
theorem gf_O_239 : zGF "OthersHands" 239 7 5 := ⟨_, _, _, rfl, zi_Town, by decide, (zg_1 (List.mem_of_getElem? (i := 124) rfl) rfl)⟩
theorem gf_Bread_9 : zGF "OthersHands$Bread" 9 0 0 := ⟨_, _, _, rfl, zi_Bread, by decide, (zg_1 (List.mem_of_getElem? (i := 186) rfl) rfl)⟩
theorem pf_Bread_9 : zPF "OthersHands$Bread" 9 0 0 true (.array .int) := ⟨_, _, _, _, rfl, zi_Bread, by decide, (zg_1 (List.mem_of_getElem? (i := 186) rfl) rfl), zo_Bread, zn_Bread, rfl, by decide +kernel, rfl⟩
theorem gf_Bread_15 : zGF "OthersHands$Bread" 15 0 1 := ⟨_, _, _, rfl, zi_Bread, by decide, (zg_1 (List.mem_of_getElem? (i := 187) rfl) rfl)⟩
theorem pf_Bread_15 : zPF "OthersHands$Bread" 15 0 1 true (.array .int) := ⟨_, _, _, _, rfl, zi_Bread, by decide, (zg_1 (List.mem_of_getElem? (i := 187) rfl) rfl), zo_Bread, zn_Bread, rfl, by decide +kernel, rfl⟩
theorem gf_Bread_18 : zGF "OthersHands$Bread" 18 0 2 := ⟨_, _, _, rfl, zi_Bread, by decide, (zg_1 (List.mem_of_getElem? (i := 189) rfl) rfl)⟩
theorem pf_Bread_18 : zPF "OthersHands$Bread" 18 0 2 true (.array .int) := ⟨_, _, _, _, rfl, zi_Bread, by decide, (zg_1 (List.mem_of_getElem? (i := 189) rfl) rfl), zo_Bread, zn_Bread, rfl, by decide +kernel, rfl⟩
theorem gf_Bread_27 : zGF "OthersHands$Bread" 27 7 2 := ⟨_, _, _, rfl, zi_Town, by decide, (zg_1 (List.mem_of_getElem? (i := 116) rfl) rfl)⟩
theorem gf_Filling_9 : zGF "OthersHands$Filling" 9 1 0 := ⟨_, _, _, rfl, zi_Filling, by decide, (zg_1 (List.mem_of_getElem? (i := 167) rfl) rfl)⟩
theorem pf_Filling_9 : zPF "OthersHands$Filling" 9 1 0 true (.array .int) := ⟨_, _, _, _, rfl, zi_Filling, by decide, (zg_1 (List.mem_of_getElem? (i := 167) rfl) rfl), zo_Filling, zn_Filling, rfl, by decide +kernel, rfl⟩
theorem gf_Filling_15 : zGF "OthersHands$Filling" 15 1 1 := ⟨_, _, _, rfl, zi_Filling, by decide, (zg_1 (List.mem_of_getElem? (i := 168) rfl) rfl)⟩
theorem pf_Filling_15 : zPF "OthersHands$Filling" 15 1 1 true (.array .int) := ⟨_, _, _, _, rfl, zi_Filling, by decide, (zg_1 (List.mem_of_getElem? (i := 168) rfl) rfl), zo_Filling, zn_Filling, rfl, by decide +kernel, rfl⟩
theorem gf_Filling_18 : zGF "OthersHands$Filling" 18 7 0 := ⟨_, _, _, rfl, zi_Town, by decide, (zg_1 (List.mem_of_getElem? (i := 110) rfl) rfl)⟩
theorem gf_Filling_28 : zGF "OthersHands$Filling" 28 1 3 := ⟨_, _, _, rfl, zi_Filling, by decide, (zg_1 (List.mem_of_getElem? (i := 170) rfl) rfl)⟩
theorem pf_Filling_28 : zPF "OthersHands$Filling" 28 1 3 false (.boolean) := ⟨_, _, _, _, rfl, zi_Filling, by decide, (zg_1 (List.mem_of_getElem? (i := 170) rfl) rfl), zo_Filling, zn_Filling, rfl, by decide +kernel, rfl⟩
theorem gf_Filling_32 : zGF "OthersHands$Filling" 32 7 5 := ⟨_, _, _, rfl, zi_Town, by decide, (zg_1 (List.mem_of_getElem? (i := 122) rfl) rfl)⟩
theorem gf_Filling_36 : zGF "OthersHands$Filling" 36 7 4 := ⟨_, _, _, rfl, zi_Town, by decide, (zg_1 (List.mem_of_getElem? (i := 121) rfl) rfl)⟩
theorem gf_Filling_43 : zGF "OthersHands$Filling" 43 7 3 := ⟨_, _, _, rfl, zi_Town, by decide, (zg_1 (List.mem_of_getElem? (i := 119) rfl) rfl)⟩
theorem gf_Filling_53 : zGF "OthersHands$Filling" 53 1 2 := ⟨_, _, _, rfl, zi_Filling, by decide, (zg_1 (List.mem_of_getElem? (i := 169) rfl) rfl)⟩
theorem pf_Filling_53 : zPF "OthersHands$Filling" 53 1 2 false (.int) := ⟨_, _, _, _, rfl, zi_Filling, by decide, (zg_1 (List.mem_of_getElem? (i := 169) rfl) rfl), zo_Filling, zn_Filling, rfl, by decide +kernel, rfl⟩
theorem gf_Filling_56 : zGF "OthersHands$Filling" 56 4 5 := ⟨_, _, _, rfl, zi_Pages, by decide, (zg_1 (List.mem_of_getElem? (i := 74) rfl) rfl)⟩
theorem gf_Filling_61 : zGF "OthersHands$Filling" 61 4 4 := ⟨_, _, _, rfl, zi_Pages, by decide, (zg_1 (List.mem_of_getElem? (i := 69) rfl) rfl)⟩
theorem gf_Filling_64 : zGF "OthersHands$Filling" 64 4 0 := ⟨_, _, _, rfl, zi_Pages, by decide, (zg_1 (List.mem_of_getElem? (i := 54) rfl) rfl)⟩
theorem gf_Matchmaker_9 : zGF "OthersHands$Matchmaker" 9 2 0 := ⟨_, _, _, rfl, zi_Matchmaker, by decide, (zg_1 (List.mem_of_getElem? (i := 204) rfl) rfl)⟩
theorem pf_Matchmaker_9 : zPF "OthersHands$Matchmaker" 9 2 0 true (.array .int) := ⟨_, _, _, _, rfl, zi_Matchmaker, by decide, (zg_1 (List.mem_of_getElem? (i := 204) rfl) rfl), zo_Matchmaker, zn_Matchmaker, rfl, by decide +kernel, rfl⟩
theorem gf_Matchmaker_15 : zGF "OthersHands$Matchmaker" 15 2 1 := ⟨_, _, _, rfl, zi_Matchmaker, by decide, (zg_1 (List.mem_of_getElem? (i := 205) rfl) rfl)⟩
theorem pf_Matchmaker_15 : zPF "OthersHands$Matchmaker" 15 2 1 true (.array .int) := ⟨_, _, _, _, rfl, zi_Matchmaker, by decide, (zg_1 (List.mem_of_getElem? (i := 205) rfl) rfl), zo_Matchmaker, zn_Matchmaker, rfl, by decide +kernel, rfl⟩
theorem gf_Matchmaker_18 : zGF "OthersHands$Matchmaker" 18 2 2 := ⟨_, _, _, rfl, zi_Matchmaker, by decide, (zg_1 (List.mem_of_getElem? (i := 206) rfl) rfl)⟩
theorem pf_Matchmaker_18 : zPF "OthersHands$Matchmaker" 18 2 2 true (.array .int) := ⟨_, _, _, _, rfl, zi_Matchmaker, by decide, (zg_1 (List.mem_of_getElem? (i := 206) rfl) rfl), zo_Matchmaker, zn_Matchmaker, rfl, by decide +kernel, rfl⟩
theorem gf_Matchmaker_27 : zGF "OthersHands$Matchmaker" 27 7 1 := ⟨_, _, _, rfl, zi_Town, by decide, (zg_1 (List.mem_of_getElem? (i := 113) rfl) rfl)⟩
theorem gf_Pad_9 : zGF "OthersHands$Pad" 9 3 0 := ⟨_, _, _, rfl, zi_Pad, by decide, (zg_1 (List.mem_of_getElem? (i := 29) rfl) rfl)⟩
theorem pf_Pad_9 : zPF "OthersHands$Pad" 9 3 0 true (.array .int) := ⟨_, _, _, _, rfl, zi_Pad, by decide, (zg_1 (List.mem_of_getElem? (i := 29) rfl) rfl), zo_Pad, zn_Pad, rfl, by decide +kernel, rfl⟩
theorem gf_Pad_15 : zGF "OthersHands$Pad" 15 3 1 := ⟨_, _, _, rfl, zi_Pad, by decide, (zg_1 (List.mem_of_getElem? (i := 31) rfl) rfl)⟩
theorem pf_Pad_15 : zPF "OthersHands$Pad" 15 3 1 false (.int) := ⟨_, _, _, _, rfl, zi_Pad, by decide, (zg_1 (List.mem_of_getElem? (i := 31) rfl) rfl), zo_Pad, zn_Pad, rfl, by decide +kernel, rfl⟩
theorem gf_Pages_9 : zGF "OthersHands$Pages" 9 4 0 := ⟨_, _, _, rfl, zi_Pages, by decide, (zg_1 (List.mem_of_getElem? (i := 52) rfl) rfl)⟩
theorem pf_Pages_9 : zPF "OthersHands$Pages" 9 4 0 true (.array .int) := ⟨_, _, _, _, rfl, zi_Pages, by decide, (zg_1 (List.mem_of_getElem? (i := 52) rfl) rfl), zo_Pages, zn_Pages, rfl, by decide +kernel, rfl⟩
theorem gf_Pages_15 : zGF "OthersHands$Pages" 15 4 1 := ⟨_, _, _, rfl, zi_Pages, by decide, (zg_1 (List.mem_of_getElem? (i := 57) rfl) rfl)⟩
theorem pf_Pages_15 : zPF "OthersHands$Pages" 15 4 1 true (.array .int) := ⟨_, _, _, _, rfl, zi_Pages, by decide, (zg_1 (List.mem_of_getElem? (i := 57) rfl) rfl), zo_Pages, zn_Pages, rfl, by decide +kernel, rfl⟩
theorem gf_Pages_18 : zGF "OthersHands$Pages" 18 4 2 := ⟨_, _, _, rfl, zi_Pages, by decide, (zg_1 (List.mem_of_getElem? (i := 61) rfl) rfl)⟩
theorem pf_Pages_18 : zPF "OthersHands$Pages" 18 4 2 true (.array .int) := ⟨_, _, _, _, rfl, zi_Pages, by decide, (zg_1 (List.mem_of_getElem? (i := 61) rfl) rfl), zo_Pages, zn_Pages, rfl, by decide +kernel, rfl⟩
theorem gf_Pages_21 : zGF "OthersHands$Pages" 21 4 3 := ⟨_, _, _, rfl, zi_Pages, by decide, (zg_1 (List.mem_of_getElem? (i := 65) rfl) rfl)⟩
theorem pf_Pages_21 : zPF "OthersHands$Pages" 21 4 3 true (.array .int) := ⟨_, _, _, _, rfl, zi_Pages, by decide, (zg_1 (List.mem_of_getElem? (i := 65) rfl) rfl), zo_Pages, zn_Pages, rfl, by decide +kernel, rfl⟩
theorem gf_Pages_24 : zGF "OthersHands$Pages" 24 4 4 := ⟨_, _, _, rfl, zi_Pages, by decide, (zg_1 (List.mem_of_getElem? (i := 68) rfl) rfl)⟩
theorem pf_Pages_24 : zPF "OthersHands$Pages" 24 4 4 true (.array .int) := ⟨_, _, _, _, rfl, zi_Pages, by decide, (zg_1 (List.mem_of_getElem? (i := 68) rfl) rfl), zo_Pages, zn_Pages, rfl, by decide +kernel, rfl⟩
theorem gf_Pages_33 : zGF "OthersHands$Pages" 33 4 5 := ⟨_, _, _, rfl, zi_Pages, by decide, (zg_1 (List.mem_of_getElem? (i := 73) rfl) rfl)⟩
theorem pf_Pages_33 : zPF "OthersHands$Pages" 33 4 5 false (.int) := ⟨_, _, _, _, rfl, zi_Pages, by decide, (zg_1 (List.mem_of_getElem? (i := 73) rfl) rfl), zo_Pages, zn_Pages, rfl, by decide +kernel, rfl⟩
theorem gf_Reader_12 : zGF "OthersHands$Reader" 12 5 0 := ⟨_, _, _, rfl, zi_Reader, by decide, (zg_1 (List.mem_of_getElem? (i := 90) rfl) rfl)⟩
theorem pf_Reader_12 : zPF "OthersHands$Reader" 12 5 0 true (.object "OthersHands$Pages") := ⟨_, _, _, _, rfl, zi_Reader, by decide, (zg_1 (List.mem_of_getElem? (i := 90) rfl) rfl), zo_Reader, zn_Reader, rfl, by decide +kernel, rfl⟩
theorem gf_Reader_18 : zGF "OthersHands$Reader" 18 4 5 := ⟨_, _, _, rfl, zi_Pages, by decide, (zg_1 (List.mem_of_getElem? (i := 72) rfl) rfl)⟩
theorem gf_Reader_26 : zGF "OthersHands$Reader" 26 5 1 := ⟨_, _, _, rfl, zi_Reader, by decide, (zg_1 (List.mem_of_getElem? (i := 92) rfl) rfl)⟩
theorem pf_Reader_26 : zPF "OthersHands$Reader" 26 5 1 false (.int) := ⟨_, _, _, _, rfl, zi_Reader, by decide, (zg_1 (List.mem_of_getElem? (i := 92) rfl) rfl), zo_Reader, zn_Reader, rfl, by decide +kernel, rfl⟩
theorem gf_Reader_29 : zGF "OthersHands$Reader" 29 5 2 := ⟨_, _, _, rfl, zi_Reader, by decide, (zg_1 (List.mem_of_getElem? (i := 93) rfl) rfl)⟩
theorem pf_Reader_29 : zPF "OthersHands$Reader" 29 5 2 false (.int) := ⟨_, _, _, _, rfl, zi_Reader, by decide, (zg_1 (List.mem_of_getElem? (i := 93) rfl) rfl), zo_Reader, zn_Reader, rfl, by decide +kernel, rfl⟩
theorem gf_Reader_32 : zGF "OthersHands$Reader" 32 3 1 := ⟨_, _, _, rfl, zi_Pad, by decide, (zg_1 (List.mem_of_getElem? (i := 32) rfl) rfl)⟩
theorem gf_Reader_35 : zGF "OthersHands$Reader" 35 3 0 := ⟨_, _, _, rfl, zi_Pad, by decide, (zg_1 (List.mem_of_getElem? (i := 30) rfl) rfl)⟩
theorem gf_Reader_62 : zGF "OthersHands$Reader" 62 4 1 := ⟨_, _, _, rfl, zi_Pages, by decide, (zg_1 (List.mem_of_getElem? (i := 59) rfl) rfl)⟩
theorem gf_Reader_65 : zGF "OthersHands$Reader" 65 4 2 := ⟨_, _, _, rfl, zi_Pages, by decide, (zg_1 (List.mem_of_getElem? (i := 63) rfl) rfl)⟩
theorem gf_Reader_68 : zGF "OthersHands$Reader" 68 4 3 := ⟨_, _, _, rfl, zi_Pages, by decide, (zg_1 (List.mem_of_getElem? (i := 66) rfl) rfl)⟩
theorem gf_Reader_71 : zGF "OthersHands$Reader" 71 4 0 := ⟨_, _, _, rfl, zi_Pages, by decide, (zg_1 (List.mem_of_getElem? (i := 56) rfl) rfl)⟩
theorem gf_Reader_83 : zGF "OthersHands$Reader" 83 4 4 := ⟨_, _, _, rfl, zi_Pages, by decide, (zg_1 (List.mem_of_getElem? (i := 71) rfl) rfl)⟩
theorem gf_Shares_9 : zGF "OthersHands$Shares" 9 6 0 := ⟨_, _, _, rfl, zi_Shares, by decide, (zg_1 (List.mem_of_getElem? (i := 157) rfl) rfl)⟩
theorem pf_Shares_9 : zPF "OthersHands$Shares" 9 6 0 true (.array .int) := ⟨_, _, _, _, rfl, zi_Shares, by decide, (zg_1 (List.mem_of_getElem? (i := 157) rfl) rfl), zo_Shares, zn_Shares, rfl, by decide +kernel, rfl⟩
theorem gf_Shares_15 : zGF "OthersHands$Shares" 15 4 1 := ⟨_, _, _, rfl, zi_Pages, by decide, (zg_1 (List.mem_of_getElem? (i := 58) rfl) rfl)⟩
theorem gf_Shares_20 : zGF "OthersHands$Shares" 20 4 2 := ⟨_, _, _, rfl, zi_Pages, by decide, (zg_1 (List.mem_of_getElem? (i := 62) rfl) rfl)⟩
theorem gf_Shares_27 : zGF "OthersHands$Shares" 27 4 0 := ⟨_, _, _, rfl, zi_Pages, by decide, (zg_1 (List.mem_of_getElem? (i := 53) rfl) rfl)⟩
theorem gf_Town_12 : zGF "OthersHands$Town" 12 7 0 := ⟨_, _, _, rfl, zi_Town, by decide, (zg_1 (List.mem_of_getElem? (i := 109) rfl) rfl)⟩
theorem pf_Town_12 : zPF "OthersHands$Town" 12 7 0 true (.object "OthersHands$Pages") := ⟨_, _, _, _, rfl, zi_Town, by decide, (zg_1 (List.mem_of_getElem? (i := 109) rfl) rfl), zo_Town, zn_Town, rfl, by decide +kernel, rfl⟩
theorem gf_Town_18 : zGF "OthersHands$Town" 18 7 1 := ⟨_, _, _, rfl, zi_Town, by decide, (zg_1 (List.mem_of_getElem? (i := 112) rfl) rfl)⟩
theorem pf_Town_18 : zPF "OthersHands$Town" 18 7 1 true (.array .int) := ⟨_, _, _, _, rfl, zi_Town, by decide, (zg_1 (List.mem_of_getElem? (i := 112) rfl) rfl), zo_Town, zn_Town, rfl, by decide +kernel, rfl⟩
theorem gf_Town_22 : zGF "OthersHands$Town" 22 7 2 := ⟨_, _, _, rfl, zi_Town, by decide, (zg_1 (List.mem_of_getElem? (i := 115) rfl) rfl)⟩
theorem pf_Town_22 : zPF "OthersHands$Town" 22 7 2 true (.array .int) := ⟨_, _, _, _, rfl, zi_Town, by decide, (zg_1 (List.mem_of_getElem? (i := 115) rfl) rfl), zo_Town, zn_Town, rfl, by decide +kernel, rfl⟩
theorem gf_Town_25 : zGF "OthersHands$Town" 25 7 3 := ⟨_, _, _, rfl, zi_Town, by decide, (zg_1 (List.mem_of_getElem? (i := 118) rfl) rfl)⟩
theorem pf_Town_25 : zPF "OthersHands$Town" 25 7 3 true (.array .int) := ⟨_, _, _, _, rfl, zi_Town, by decide, (zg_1 (List.mem_of_getElem? (i := 118) rfl) rfl), zo_Town, zn_Town, rfl, by decide +kernel, rfl⟩
theorem gf_Town_28 : zGF "OthersHands$Town" 28 7 4 := ⟨_, _, _, rfl, zi_Town, by decide, (zg_1 (List.mem_of_getElem? (i := 120) rfl) rfl)⟩
theorem pf_Town_28 : zPF "OthersHands$Town" 28 7 4 true (.array .int) := ⟨_, _, _, _, rfl, zi_Town, by decide, (zg_1 (List.mem_of_getElem? (i := 120) rfl) rfl), zo_Town, zn_Town, rfl, by decide +kernel, rfl⟩
theorem gf_Town_31 : zGF "OthersHands$Town" 31 7 6 := ⟨_, _, _, rfl, zi_Town, by decide, (zg_1 (List.mem_of_getElem? (i := 125) rfl) rfl)⟩
theorem pf_Town_31 : zPF "OthersHands$Town" 31 7 6 false (.int) := ⟨_, _, _, _, rfl, zi_Town, by decide, (zg_1 (List.mem_of_getElem? (i := 125) rfl) rfl), zo_Town, zn_Town, rfl, by decide +kernel, rfl⟩
theorem gf_Town_35 : zGF "OthersHands$Town" 35 7 8 := ⟨_, _, _, rfl, zi_Town, by decide, (zg_1 (List.mem_of_getElem? (i := 129) rfl) rfl)⟩
theorem pf_Town_35 : zPF "OthersHands$Town" 35 7 8 false (.int) := ⟨_, _, _, _, rfl, zi_Town, by decide, (zg_1 (List.mem_of_getElem? (i := 129) rfl) rfl), zo_Town, zn_Town, rfl, by decide +kernel, rfl⟩
theorem gf_Town_48 : zGF "OthersHands$Town" 48 7 5 := ⟨_, _, _, rfl, zi_Town, by decide, (zg_1 (List.mem_of_getElem? (i := 123) rfl) rfl)⟩
theorem pf_Town_48 : zPF "OthersHands$Town" 48 7 5 false (.int) := ⟨_, _, _, _, rfl, zi_Town, by decide, (zg_1 (List.mem_of_getElem? (i := 123) rfl) rfl), zo_Town, zn_Town, rfl, by decide +kernel, rfl⟩
theorem gf_Town_51 : zGF "OthersHands$Town" 51 7 7 := ⟨_, _, _, rfl, zi_Town, by decide, (zg_1 (List.mem_of_getElem? (i := 127) rfl) rfl)⟩
theorem pf_Town_51 : zPF "OthersHands$Town" 51 7 7 false (.int) := ⟨_, _, _, _, rfl, zi_Town, by decide, (zg_1 (List.mem_of_getElem? (i := 127) rfl) rfl), zo_Town, zn_Town, rfl, by decide +kernel, rfl⟩
theorem gf_Town_78 : zGF "OthersHands$Town" 78 4 5 := ⟨_, _, _, rfl, zi_Pages, by decide, (zg_1 (List.mem_of_getElem? (i := 76) rfl) rfl)⟩
theorem gf_X_7 : zGF "OthersHandsModel" 7 9 0 := ⟨_, _, _, rfl, zi_X, by decide, (zg_3 (List.mem_of_getElem? (i := 160) rfl) rfl)⟩
theorem pf_X_7 : zPF "OthersHandsModel" 7 9 0 false (.int) := ⟨_, _, _, _, rfl, zi_X, by decide, (zg_3 (List.mem_of_getElem? (i := 160) rfl) rfl), zo_X, zn_X, rfl, by decide +kernel, rfl⟩
theorem gf_X_13 : zGF "OthersHandsModel" 13 9 2 := ⟨_, _, _, rfl, zi_X, by decide, (zg_3 (List.mem_of_getElem? (i := 162) rfl) rfl)⟩
theorem pf_X_13 : zPF "OthersHandsModel" 13 9 2 false (.int) := ⟨_, _, _, _, rfl, zi_X, by decide, (zg_3 (List.mem_of_getElem? (i := 162) rfl) rfl), zo_X, zn_X, rfl, by decide +kernel, rfl⟩
theorem gf_X_16 : zGF "OthersHandsModel" 16 9 3 := ⟨_, _, _, rfl, zi_X, by decide, (zg_3 (List.mem_of_getElem? (i := 163) rfl) rfl)⟩
theorem pf_X_16 : zPF "OthersHandsModel" 16 9 3 true (.array .int) := ⟨_, _, _, _, rfl, zi_X, by decide, (zg_3 (List.mem_of_getElem? (i := 163) rfl) rfl), zo_X, zn_X, rfl, by decide +kernel, rfl⟩
theorem gf_X_20 : zGF "OthersHandsModel" 20 9 5 := ⟨_, _, _, rfl, zi_X, by decide, (zg_3 (List.mem_of_getElem? (i := 165) rfl) rfl)⟩
theorem pf_X_20 : zPF "OthersHandsModel" 20 9 5 true (.array .int) := ⟨_, _, _, _, rfl, zi_X, by decide, (zg_3 (List.mem_of_getElem? (i := 165) rfl) rfl), zo_X, zn_X, rfl, by decide +kernel, rfl⟩
theorem gf_X_23 : zGF "OthersHandsModel" 23 9 7 := ⟨_, _, _, rfl, zi_X, by decide, (zg_3 (List.mem_of_getElem? (i := 167) rfl) rfl)⟩
theorem pf_X_23 : zPF "OthersHandsModel" 23 9 7 true (.array .int) := ⟨_, _, _, _, rfl, zi_X, by decide, (zg_3 (List.mem_of_getElem? (i := 167) rfl) rfl), zo_X, zn_X, rfl, by decide +kernel, rfl⟩
theorem gf_X_26 : zGF "OthersHandsModel" 26 9 8 := ⟨_, _, _, rfl, zi_X, by decide, (zg_3 (List.mem_of_getElem? (i := 168) rfl) rfl)⟩
theorem pf_X_26 : zPF "OthersHandsModel" 26 9 8 true (.array .int) := ⟨_, _, _, _, rfl, zi_X, by decide, (zg_3 (List.mem_of_getElem? (i := 168) rfl) rfl), zo_X, zn_X, rfl, by decide +kernel, rfl⟩
theorem gf_X_29 : zGF "OthersHandsModel" 29 9 10 := ⟨_, _, _, rfl, zi_X, by decide, (zg_3 (List.mem_of_getElem? (i := 170) rfl) rfl)⟩
theorem pf_X_29 : zPF "OthersHandsModel" 29 9 10 true (.array .int) := ⟨_, _, _, _, rfl, zi_X, by decide, (zg_3 (List.mem_of_getElem? (i := 170) rfl) rfl), zo_X, zn_X, rfl, by decide +kernel, rfl⟩
theorem gf_X_32 : zGF "OthersHandsModel" 32 9 11 := ⟨_, _, _, rfl, zi_X, by decide, (zg_3 (List.mem_of_getElem? (i := 171) rfl) rfl)⟩
theorem pf_X_32 : zPF "OthersHandsModel" 32 9 11 true (.array .int) := ⟨_, _, _, _, rfl, zi_X, by decide, (zg_3 (List.mem_of_getElem? (i := 171) rfl) rfl), zo_X, zn_X, rfl, by decide +kernel, rfl⟩
theorem gf_X_35 : zGF "OthersHandsModel" 35 9 12 := ⟨_, _, _, rfl, zi_X, by decide, (zg_3 (List.mem_of_getElem? (i := 172) rfl) rfl)⟩
theorem pf_X_35 : zPF "OthersHandsModel" 35 9 12 true (.array .int) := ⟨_, _, _, _, rfl, zi_X, by decide, (zg_3 (List.mem_of_getElem? (i := 172) rfl) rfl), zo_X, zn_X, rfl, by decide +kernel, rfl⟩
theorem gf_X_38 : zGF "OthersHandsModel" 38 9 13 := ⟨_, _, _, rfl, zi_X, by decide, (zg_3 (List.mem_of_getElem? (i := 173) rfl) rfl)⟩
theorem pf_X_38 : zPF "OthersHandsModel" 38 9 13 true (.array .int) := ⟨_, _, _, _, rfl, zi_X, by decide, (zg_3 (List.mem_of_getElem? (i := 173) rfl) rfl), zo_X, zn_X, rfl, by decide +kernel, rfl⟩
theorem gf_X_41 : zGF "OthersHandsModel" 41 9 14 := ⟨_, _, _, rfl, zi_X, by decide, (zg_3 (List.mem_of_getElem? (i := 174) rfl) rfl)⟩
theorem pf_X_41 : zPF "OthersHandsModel" 41 9 14 true (.array .int) := ⟨_, _, _, _, rfl, zi_X, by decide, (zg_3 (List.mem_of_getElem? (i := 174) rfl) rfl), zo_X, zn_X, rfl, by decide +kernel, rfl⟩
theorem gf_X_44 : zGF "OthersHandsModel" 44 9 15 := ⟨_, _, _, rfl, zi_X, by decide, (zg_3 (List.mem_of_getElem? (i := 175) rfl) rfl)⟩
theorem pf_X_44 : zPF "OthersHandsModel" 44 9 15 true (.array .int) := ⟨_, _, _, _, rfl, zi_X, by decide, (zg_3 (List.mem_of_getElem? (i := 175) rfl) rfl), zo_X, zn_X, rfl, by decide +kernel, rfl⟩
theorem gf_X_47 : zGF "OthersHandsModel" 47 9 16 := ⟨_, _, _, rfl, zi_X, by decide, (zg_3 (List.mem_of_getElem? (i := 176) rfl) rfl)⟩
theorem pf_X_47 : zPF "OthersHandsModel" 47 9 16 true (.array .int) := ⟨_, _, _, _, rfl, zi_X, by decide, (zg_3 (List.mem_of_getElem? (i := 176) rfl) rfl), zo_X, zn_X, rfl, by decide +kernel, rfl⟩
theorem gf_X_50 : zGF "OthersHandsModel" 50 9 17 := ⟨_, _, _, rfl, zi_X, by decide, (zg_3 (List.mem_of_getElem? (i := 177) rfl) rfl)⟩
theorem pf_X_50 : zPF "OthersHandsModel" 50 9 17 true (.array .int) := ⟨_, _, _, _, rfl, zi_X, by decide, (zg_3 (List.mem_of_getElem? (i := 177) rfl) rfl), zo_X, zn_X, rfl, by decide +kernel, rfl⟩
theorem gf_X_53 : zGF "OthersHandsModel" 53 9 18 := ⟨_, _, _, rfl, zi_X, by decide, (zg_3 (List.mem_of_getElem? (i := 178) rfl) rfl)⟩
theorem pf_X_53 : zPF "OthersHandsModel" 53 9 18 true (.array .int) := ⟨_, _, _, _, rfl, zi_X, by decide, (zg_3 (List.mem_of_getElem? (i := 178) rfl) rfl), zo_X, zn_X, rfl, by decide +kernel, rfl⟩
theorem gf_X_56 : zGF "OthersHandsModel" 56 9 19 := ⟨_, _, _, rfl, zi_X, by decide, (zg_3 (List.mem_of_getElem? (i := 179) rfl) rfl)⟩
theorem pf_X_56 : zPF "OthersHandsModel" 56 9 19 true (.array .int) := ⟨_, _, _, _, rfl, zi_X, by decide, (zg_3 (List.mem_of_getElem? (i := 179) rfl) rfl), zo_X, zn_X, rfl, by decide +kernel, rfl⟩
theorem gf_X_59 : zGF "OthersHandsModel" 59 9 20 := ⟨_, _, _, rfl, zi_X, by decide, (zg_3 (List.mem_of_getElem? (i := 180) rfl) rfl)⟩
theorem pf_X_59 : zPF "OthersHandsModel" 59 9 20 true (.array .int) := ⟨_, _, _, _, rfl, zi_X, by decide, (zg_3 (List.mem_of_getElem? (i := 180) rfl) rfl), zo_X, zn_X, rfl, by decide +kernel, rfl⟩
theorem gf_X_62 : zGF "OthersHandsModel" 62 9 21 := ⟨_, _, _, rfl, zi_X, by decide, (zg_3 (List.mem_of_getElem? (i := 181) rfl) rfl)⟩
theorem pf_X_62 : zPF "OthersHandsModel" 62 9 21 true (.array .boolean) := ⟨_, _, _, _, rfl, zi_X, by decide, (zg_3 (List.mem_of_getElem? (i := 181) rfl) rfl), zo_X, zn_X, rfl, by decide +kernel, rfl⟩
theorem gf_X_70 : zGF "OthersHandsModel" 70 9 6 := ⟨_, _, _, rfl, zi_X, by decide, (zg_3 (List.mem_of_getElem? (i := 166) rfl) rfl)⟩
theorem pf_X_70 : zPF "OthersHandsModel" 70 9 6 false (.int) := ⟨_, _, _, _, rfl, zi_X, by decide, (zg_3 (List.mem_of_getElem? (i := 166) rfl) rfl), zo_X, zn_X, rfl, by decide +kernel, rfl⟩
theorem gf_X_73 : zGF "OthersHandsModel" 73 9 4 := ⟨_, _, _, rfl, zi_X, by decide, (zg_3 (List.mem_of_getElem? (i := 164) rfl) rfl)⟩
theorem pf_X_73 : zPF "OthersHandsModel" 73 9 4 false (.int) := ⟨_, _, _, _, rfl, zi_X, by decide, (zg_3 (List.mem_of_getElem? (i := 164) rfl) rfl), zo_X, zn_X, rfl, by decide +kernel, rfl⟩
theorem gf_X_80 : zGF "OthersHandsModel" 80 9 9 := ⟨_, _, _, rfl, zi_X, by decide, (zg_3 (List.mem_of_getElem? (i := 169) rfl) rfl)⟩
theorem pf_X_80 : zPF "OthersHandsModel" 80 9 9 false (.int) := ⟨_, _, _, _, rfl, zi_X, by decide, (zg_3 (List.mem_of_getElem? (i := 169) rfl) rfl), zo_X, zn_X, rfl, by decide +kernel, rfl⟩
theorem gf_X_90 : zGF "OthersHandsModel" 90 9 1 := ⟨_, _, _, rfl, zi_X, by decide, (zg_3 (List.mem_of_getElem? (i := 161) rfl) rfl)⟩
theorem pf_X_90 : zPF "OthersHandsModel" 90 9 1 false (.int) := ⟨_, _, _, _, rfl, zi_X, by decide, (zg_3 (List.mem_of_getElem? (i := 161) rfl) rfl), zo_X, zn_X, rfl, by decide +kernel, rfl⟩
theorem lk_O_11 : zLIN "OthersHands" "OthersHands" 11 m_Pad_init 0 := ⟨cd_Pad_init, by decide +kernel, (zgn_1 (List.mem_of_getElem? (i := 25) rfl) rfl), (zg_1 (List.mem_of_getElem? (i := 26) rfl) rfl), rfl, rfl⟩
theorem lk_O_18 : zLIN "OthersHands" "OthersHands" 18 m_Reader_init 0 := ⟨cd_Reader_init, by decide +kernel, (zgn_1 (List.mem_of_getElem? (i := 42) rfl) rfl), (zg_1 (List.mem_of_getElem? (i := 43) rfl) rfl), rfl, rfl⟩
theorem lk_O_25 : zLI "OthersHands" 25 m_Town_init 0 := ⟨cd_Town_init, by decide +kernel, (zg_1 (List.mem_of_getElem? (i := 103) rfl) rfl), (zg_1 (List.mem_of_getElem? (i := 104) rfl) rfl), rfl, rfl⟩
theorem lk_O_36 : zLIN "OthersHands" "OthersHands" 36 m_Shares_init 0 := ⟨cd_Shares_init, by decide +kernel, (zgn_1 (List.mem_of_getElem? (i := 153) rfl) rfl), (zg_1 (List.mem_of_getElem? (i := 154) rfl) rfl), rfl, rfl⟩
theorem lk_O_43 : zLIN "OthersHands" "OthersHands" 43 m_Filling_init 0 := ⟨cd_Filling_init, by decide +kernel, (zgn_1 (List.mem_of_getElem? (i := 163) rfl) rfl), (zg_1 (List.mem_of_getElem? (i := 164) rfl) rfl), rfl, rfl⟩
theorem lk_O_50 : zLIN "OthersHands" "OthersHands" 50 m_Bread_init 0 := ⟨cd_Bread_init, by decide +kernel, (zgn_1 (List.mem_of_getElem? (i := 182) rfl) rfl), (zg_1 (List.mem_of_getElem? (i := 183) rfl) rfl), rfl, rfl⟩
theorem lk_O_57 : zLIN "OthersHands" "OthersHands" 57 m_Matchmaker_init 0 := ⟨cd_Matchmaker_init, by decide +kernel, (zgn_1 (List.mem_of_getElem? (i := 200) rfl) rfl), (zg_1 (List.mem_of_getElem? (i := 201) rfl) rfl), rfl, rfl⟩
theorem lk_O_62 : zLV "OthersHands" 62 m_Pad_put 1 := ⟨cd_Pad_put, by decide +kernel, (zg_2 (List.mem_of_getElem? (i := 4) rfl) rfl), (zg_2 (List.mem_of_getElem? (i := 5) rfl) rfl), (zg_2 (List.mem_of_getElem? (i := 6) rfl) rfl)⟩
theorem lk_O_66 : zLV "OthersHands" 66 m_Pad_clear 0 := ⟨cd_Pad_clear, by decide +kernel, (zg_2 (List.mem_of_getElem? (i := 12) rfl) rfl), (zg_2 (List.mem_of_getElem? (i := 13) rfl) rfl), (zg_2 (List.mem_of_getElem? (i := 14) rfl) rfl)⟩
theorem lk_O_70 : zLV "OthersHands" 70 m_Reader_read 1 := ⟨cd_Reader_read, by decide +kernel, (zg_2 (List.mem_of_getElem? (i := 20) rfl) rfl), (zg_2 (List.mem_of_getElem? (i := 21) rfl) rfl), (zg_2 (List.mem_of_getElem? (i := 22) rfl) rfl)⟩
theorem lk_O_78 : zLV "OthersHands" 78 m_Town_open 1 := ⟨cd_Town_open, by decide +kernel, (zg_2 (List.mem_of_getElem? (i := 70) rfl) rfl), (zg_2 (List.mem_of_getElem? (i := 71) rfl) rfl), (zg_2 (List.mem_of_getElem? (i := 72) rfl) rfl)⟩
theorem lk_O_91 : zLV "OthersHands" 91 m_O_isThing 1 := ⟨cd_O_isThing, by decide +kernel, (zg_2 (List.mem_of_getElem? (i := 85) rfl) rfl), (zg_2 (List.mem_of_getElem? (i := 87) rfl) rfl), (zg_s (List.mem_of_getElem? (i := 8) rfl) rfl)⟩
theorem lk_O_111 : zLS "OthersHands" 111 m_O_isMan 1 := ⟨cd_O_isMan, by decide +kernel, (zg_2 (List.mem_of_getElem? (i := 93) rfl) rfl), (zg_2 (List.mem_of_getElem? (i := 94) rfl) rfl)⟩
theorem lk_O_117 : zLS "OthersHands" 117 m_Town_mostOf 1 := ⟨cd_Town_mostOf, by decide +kernel, (zg_2 (List.mem_of_getElem? (i := 104) rfl) rfl), (zg_2 (List.mem_of_getElem? (i := 105) rfl) rfl)⟩
theorem lk_O_120 : zLV "OthersHands" 120 m_Town_change 2 := ⟨cd_Town_change, by decide +kernel, (zg_2 (List.mem_of_getElem? (i := 107) rfl) rfl), (zg_2 (List.mem_of_getElem? (i := 108) rfl) rfl), (zg_2 (List.mem_of_getElem? (i := 109) rfl) rfl)⟩
theorem lk_O_127 : zLV "OthersHands" 127 m_Town_touchers 1 := ⟨cd_Town_touchers, by decide +kernel, (zg_2 (List.mem_of_getElem? (i := 119) rfl) rfl), (zg_2 (List.mem_of_getElem? (i := 120) rfl) rfl), (zg_2 (List.mem_of_getElem? (i := 121) rfl) rfl)⟩
theorem lk_O_130 : zLV "OthersHands" 130 m_Town_barredMen 1 := ⟨cd_Town_barredMen, by decide +kernel, (zg_2 (List.mem_of_getElem? (i := 141) rfl) rfl), (zg_2 (List.mem_of_getElem? (i := 142) rfl) rfl), (zg_2 (List.mem_of_getElem? (i := 143) rfl) rfl)⟩
theorem lk_O_136 : zLV "OthersHands" 136 m_Shares_holders 3 := ⟨cd_Shares_holders, by decide +kernel, (zg_2 (List.mem_of_getElem? (i := 155) rfl) rfl), (zg_2 (List.mem_of_getElem? (i := 156) rfl) rfl), (zg_2 (List.mem_of_getElem? (i := 157) rfl) rfl)⟩
theorem lk_O_140 : zLV "OthersHands" 140 m_Town_withPartners 1 := ⟨cd_Town_withPartners, by decide +kernel, (zg_2 (List.mem_of_getElem? (i := 171) rfl) rfl), (zg_2 (List.mem_of_getElem? (i := 147) rfl) rfl), (zg_2 (List.mem_of_getElem? (i := 148) rfl) rfl)⟩
theorem lk_O_143 : zLV "OthersHands" 143 m_Town_lawfulThings 1 := ⟨cd_Town_lawfulThings, by decide +kernel, (zg_2 (List.mem_of_getElem? (i := 176) rfl) rfl), (zg_2 (List.mem_of_getElem? (i := 177) rfl) rfl), (zg_2 (List.mem_of_getElem? (i := 178) rfl) rfl)⟩
theorem lk_O_146 : zLV "OthersHands" 146 m_Town_taintOf 1 := ⟨cd_Town_taintOf, by decide +kernel, (zg_2 (List.mem_of_getElem? (i := 180) rfl) rfl), (zg_2 (List.mem_of_getElem? (i := 181) rfl) rfl), (zg_2 (List.mem_of_getElem? (i := 182) rfl) rfl)⟩
theorem lk_O_149 : zLV "OthersHands" 149 m_Town_fewestSteps 2 := ⟨cd_Town_fewestSteps, by decide +kernel, (zg_2 (List.mem_of_getElem? (i := 188) rfl) rfl), (zg_2 (List.mem_of_getElem? (i := 189) rfl) rfl), (zg_2 (List.mem_of_getElem? (i := 190) rfl) rfl)⟩
theorem lk_O_156 : zLV "OthersHands" 156 m_Shares_partsOf 3 := ⟨cd_Shares_partsOf, by decide +kernel, (zg_2 (List.mem_of_getElem? (i := 198) rfl) rfl), (zg_2 (List.mem_of_getElem? (i := 160) rfl) rfl), (zg_2 (List.mem_of_getElem? (i := 161) rfl) rfl)⟩
theorem lk_O_159 : zLS "OthersHands" 159 m_Shares_lowest 3 := ⟨cd_Shares_lowest, by decide +kernel, (zg_2 (List.mem_of_getElem? (i := 199) rfl) rfl), (zg_2 (List.mem_of_getElem? (i := 200) rfl) rfl)⟩
theorem lk_O_163 : zLV "OthersHands" 163 m_Town_addSight 2 := ⟨cd_Town_addSight, by decide +kernel, (zg_2 (List.mem_of_getElem? (i := 206) rfl) rfl), (zg_2 (List.mem_of_getElem? (i := 207) rfl) rfl), (zg_2 (List.mem_of_getElem? (i := 208) rfl) rfl)⟩
theorem lk_O_166 : zLV "OthersHands" 166 m_Town_dropSights 0 := ⟨cd_Town_dropSights, by decide +kernel, (zg_2 (List.mem_of_getElem? (i := 214) rfl) rfl), (zg_2 (List.mem_of_getElem? (i := 215) rfl) rfl), (zg_2 (List.mem_of_getElem? (i := 216) rfl) rfl)⟩
theorem lk_O_169 : zLV "OthersHands" 169 m_Filling_weigh 1 := ⟨cd_Filling_weigh, by decide +kernel, (zg_2 (List.mem_of_getElem? (i := 222) rfl) rfl), (zg_2 (List.mem_of_getElem? (i := 223) rfl) rfl), (zg_2 (List.mem_of_getElem? (i := 224) rfl) rfl)⟩
theorem lk_O_173 : zLV "OthersHands" 173 m_Filling_ways 0 := ⟨cd_Filling_ways, by decide +kernel, (zg_2 (List.mem_of_getElem? (i := 238) rfl) rfl), (zg_2 (List.mem_of_getElem? (i := 239) rfl) rfl), (zg_3 (List.mem_of_getElem? (i := 0) rfl) rfl)⟩
theorem lk_O_176 : zLV "OthersHands" 176 m_Filling_firstMan 1 := ⟨cd_Filling_firstMan, by decide +kernel, (zg_3 (List.mem_of_getElem? (i := 3) rfl) rfl), (zg_3 (List.mem_of_getElem? (i := 4) rfl) rfl), (zg_3 (List.mem_of_getElem? (i := 5) rfl) rfl)⟩
theorem lk_O_179 : zLV "OthersHands" 179 m_Filling_barredInAll 2 := ⟨cd_Filling_barredInAll, by decide +kernel, (zg_3 (List.mem_of_getElem? (i := 16) rfl) rfl), (zg_3 (List.mem_of_getElem? (i := 17) rfl) rfl), (zg_3 (List.mem_of_getElem? (i := 18) rfl) rfl)⟩
theorem lk_O_183 : zLV "OthersHands" 183 m_Filling_barredInSome 2 := ⟨cd_Filling_barredInSome, by decide +kernel, (zg_3 (List.mem_of_getElem? (i := 24) rfl) rfl), (zg_3 (List.mem_of_getElem? (i := 25) rfl) rfl), (zg_3 (List.mem_of_getElem? (i := 26) rfl) rfl)⟩
theorem lk_O_186 : zLV "OthersHands" 186 m_Bread_layOut 1 := ⟨cd_Bread_layOut, by decide +kernel, (zg_3 (List.mem_of_getElem? (i := 33) rfl) rfl), (zg_3 (List.mem_of_getElem? (i := 34) rfl) rfl), (zg_3 (List.mem_of_getElem? (i := 35) rfl) rfl)⟩
theorem lk_O_189 : zLV "OthersHands" 189 m_Bread_serve 0 := ⟨cd_Bread_serve, by decide +kernel, (zg_3 (List.mem_of_getElem? (i := 39) rfl) rfl), (zg_3 (List.mem_of_getElem? (i := 40) rfl) rfl), (zg_3 (List.mem_of_getElem? (i := 41) rfl) rfl)⟩
theorem lk_O_195 : zLV "OthersHands" 195 m_Bread_leastShortSet 0 := ⟨cd_Bread_leastShortSet, by decide +kernel, (zg_3 (List.mem_of_getElem? (i := 64) rfl) rfl), (zg_3 (List.mem_of_getElem? (i := 65) rfl) rfl), (zg_3 (List.mem_of_getElem? (i := 66) rfl) rfl)⟩
theorem lk_O_198 : zLS "OthersHands" 198 m_Bakers_fewest 2 := ⟨cd_Bakers_fewest, by decide +kernel, (zg_3 (List.mem_of_getElem? (i := 72) rfl) rfl), (zg_3 (List.mem_of_getElem? (i := 73) rfl) rfl)⟩
theorem lk_O_203 : zLS "OthersHands" 203 m_JI_bitCount 1 := ⟨cd_JI_bitCount, by decide +kernel, (zg_3 (List.mem_of_getElem? (i := 84) rfl) rfl), (zg_2 (List.mem_of_getElem? (i := 49) rfl) rfl)⟩
theorem lk_O_208 : zLV "OthersHands" 208 m_Town_couple 1 := ⟨cd_Town_couple, by decide +kernel, (zg_3 (List.mem_of_getElem? (i := 89) rfl) rfl), (zg_2 (List.mem_of_getElem? (i := 152) rfl) rfl), (zg_2 (List.mem_of_getElem? (i := 153) rfl) rfl)⟩
theorem lk_O_214 : zLS "OthersHands" 214 m_JM_max 2 := ⟨cd_JM_max, by decide +kernel, (zg_3 (List.mem_of_getElem? (i := 90) rfl) rfl), (zg_3 (List.mem_of_getElem? (i := 54) rfl) rfl)⟩
theorem lk_O_219 : zLV "OthersHands" 219 m_Matchmaker_arrange 1 := ⟨cd_Matchmaker_arrange, by decide +kernel, (zg_3 (List.mem_of_getElem? (i := 95) rfl) rfl), (zg_3 (List.mem_of_getElem? (i := 96) rfl) rfl), (zg_3 (List.mem_of_getElem? (i := 97) rfl) rfl)⟩
theorem lk_O_226 : zLV "OthersHands" 226 m_Bread_live 2 := ⟨cd_Bread_live, by decide +kernel, (zg_3 (List.mem_of_getElem? (i := 128) rfl) rfl), (zg_3 (List.mem_of_getElem? (i := 129) rfl) rfl), (zg_3 (List.mem_of_getElem? (i := 130) rfl) rfl)⟩
theorem lk_O_232 : zLV "OthersHands" 232 m_Town_become 1 := ⟨cd_Town_become, by decide +kernel, (zg_3 (List.mem_of_getElem? (i := 141) rfl) rfl), (zg_3 (List.mem_of_getElem? (i := 142) rfl) rfl), (zg_3 (List.mem_of_getElem? (i := 143) rfl) rfl)⟩
theorem lk_O_242 : zLS "OthersHands" 242 m_O_has 2 := ⟨cd_O_has, by decide +kernel, (zg_3 (List.mem_of_getElem? (i := 11) rfl) rfl), (zg_2 (List.mem_of_getElem? (i := 132) rfl) rfl)⟩
theorem lk_Bakers_9 : zLS "OthersHands$Bakers" 9 m_JI_bitCount 1 := ⟨cd_JI_bitCount, by decide +kernel, (zg_3 (List.mem_of_getElem? (i := 75) rfl) rfl), (zg_2 (List.mem_of_getElem? (i := 49) rfl) rfl)⟩
theorem lk_Bakers_15 : zLS "OthersHands$Bakers" 15 m_Bakers_feedAll 3 := ⟨cd_Bakers_feedAll, by decide +kernel, (zg_3 (List.mem_of_getElem? (i := 76) rfl) rfl), (zg_3 (List.mem_of_getElem? (i := 77) rfl) rfl)⟩
theorem lk_Bakers_21 : zLS "OthersHands$Bakers" 21 m_Bakers_barredForEach 2 := ⟨cd_Bakers_barredForEach, by decide +kernel, (zg_3 (List.mem_of_getElem? (i := 79) rfl) rfl), (zg_3 (List.mem_of_getElem? (i := 80) rfl) rfl)⟩
theorem lk_Bakers_25 : zLSN "OthersHands$Bakers" "OthersHands" 25 m_O_has 2 := ⟨cd_O_has, by decide +kernel, (zgn_3 (List.mem_of_getElem? (i := 82) rfl) rfl), (zg_2 (List.mem_of_getElem? (i := 132) rfl) rfl)⟩
theorem lk_Bakers_29 : zLV "OthersHands$Bakers" 29 m_Town_couple 1 := ⟨cd_Town_couple, by decide +kernel, (zg_3 (List.mem_of_getElem? (i := 83) rfl) rfl), (zg_2 (List.mem_of_getElem? (i := 152) rfl) rfl), (zg_2 (List.mem_of_getElem? (i := 153) rfl) rfl)⟩
theorem lk_Bread_21 : zLV "OthersHands$Bread" 21 m_Town_lawfulThings 1 := ⟨cd_Town_lawfulThings, by decide +kernel, (zg_3 (List.mem_of_getElem? (i := 37) rfl) rfl), (zg_2 (List.mem_of_getElem? (i := 177) rfl) rfl), (zg_2 (List.mem_of_getElem? (i := 178) rfl) rfl)⟩
theorem lk_Bread_36 : zLSN "OthersHands$Bread" "OthersHands" 36 m_O_has 2 := ⟨cd_O_has, by decide +kernel, (zgn_3 (List.mem_of_getElem? (i := 52) rfl) rfl), (zg_2 (List.mem_of_getElem? (i := 132) rfl) rfl)⟩
theorem lk_Bread_40 : zLS "OthersHands$Bread" 40 m_JI_bitCount 1 := ⟨cd_JI_bitCount, by decide +kernel, (zg_3 (List.mem_of_getElem? (i := 47) rfl) rfl), (zg_2 (List.mem_of_getElem? (i := 49) rfl) rfl)⟩
theorem lk_Bread_45 : zLV "OthersHands$Bread" 45 m_Bread_loavesFor 1 := ⟨cd_Bread_loavesFor, by decide +kernel, (zg_3 (List.mem_of_getElem? (i := 48) rfl) rfl), (zg_3 (List.mem_of_getElem? (i := 50) rfl) rfl), (zg_s (List.mem_of_getElem? (i := 13) rfl) rfl)⟩
theorem lk_Bread_48 : zLS "OthersHands$Bread" 48 m_JM_max 2 := ⟨cd_JM_max, by decide +kernel, (zg_3 (List.mem_of_getElem? (i := 53) rfl) rfl), (zg_3 (List.mem_of_getElem? (i := 54) rfl) rfl)⟩
theorem lk_Bread_54 : zLV "OthersHands$Bread" 54 m_Bread_mostFed 1 := ⟨cd_Bread_mostFed, by decide +kernel, (zg_3 (List.mem_of_getElem? (i := 43) rfl) rfl), (zg_3 (List.mem_of_getElem? (i := 45) rfl) rfl), (zg_s (List.mem_of_getElem? (i := 12) rfl) rfl)⟩
theorem lk_Bread_57 : zLV "OthersHands$Bread" 57 m_Bread_takeLeastMeal 2 := ⟨cd_Bread_takeLeastMeal, by decide +kernel, (zg_3 (List.mem_of_getElem? (i := 56) rfl) rfl), (zg_3 (List.mem_of_getElem? (i := 58) rfl) rfl), (zg_s (List.mem_of_getElem? (i := 14) rfl) rfl)⟩
theorem lk_Bread_61 : zLV "OthersHands$Bread" 61 m_Bread_eats 1 := ⟨cd_Bread_eats, by decide +kernel, (zg_3 (List.mem_of_getElem? (i := 133) rfl) rfl), (zg_3 (List.mem_of_getElem? (i := 135) rfl) rfl), (zg_s (List.mem_of_getElem? (i := 20) rfl) rfl)⟩
theorem lk_Filling_24 : zLV "OthersHands$Filling" 24 m_Filling_findAsks 1 := ⟨cd_Filling_findAsks, by decide +kernel, (zg_2 (List.mem_of_getElem? (i := 226) rfl) rfl), (zg_2 (List.mem_of_getElem? (i := 228) rfl) rfl), (zg_s (List.mem_of_getElem? (i := 9) rfl) rfl)⟩
theorem lk_Filling_39 : zLV "OthersHands$Filling" 39 m_Town_reach 1 := ⟨cd_Town_reach, by decide +kernel, (zg_2 (List.mem_of_getElem? (i := 230) rfl) rfl), (zg_2 (List.mem_of_getElem? (i := 124) rfl) rfl), (zg_2 (List.mem_of_getElem? (i := 125) rfl) rfl)⟩
theorem lk_Filling_46 : zLV "OthersHands$Filling" 46 m_Town_couple 1 := ⟨cd_Town_couple, by decide +kernel, (zg_2 (List.mem_of_getElem? (i := 231) rfl) rfl), (zg_2 (List.mem_of_getElem? (i := 152) rfl) rfl), (zg_2 (List.mem_of_getElem? (i := 153) rfl) rfl)⟩
theorem lk_Filling_49 : zLV "OthersHands$Filling" 49 m_Filling_applySight 3 := ⟨cd_Filling_applySight, by decide +kernel, (zg_2 (List.mem_of_getElem? (i := 232) rfl) rfl), (zg_2 (List.mem_of_getElem? (i := 234) rfl) rfl), (zg_s (List.mem_of_getElem? (i := 10) rfl) rfl)⟩
theorem lk_Filling_67 : zLV "OthersHands$Filling" 67 m_Pages_handsOf 1 := ⟨cd_Pages_handsOf, by decide +kernel, (zg_2 (List.mem_of_getElem? (i := 236) rfl) rfl), (zg_2 (List.mem_of_getElem? (i := 138) rfl) rfl), (zg_2 (List.mem_of_getElem? (i := 139) rfl) rfl)⟩
theorem lk_Filling_70 : zLSN "OthersHands$Filling" "OthersHands" 70 m_O_has 2 := ⟨cd_O_has, by decide +kernel, (zgn_2 (List.mem_of_getElem? (i := 237) rfl) rfl), (zg_2 (List.mem_of_getElem? (i := 132) rfl) rfl)⟩
theorem lk_Filling_74 : zLS "OthersHands$Filling" 74 m_JI_bitCount 1 := ⟨cd_JI_bitCount, by decide +kernel, (zg_3 (List.mem_of_getElem? (i := 2) rfl) rfl), (zg_2 (List.mem_of_getElem? (i := 49) rfl) rfl)⟩
theorem lk_Filling_79 : zLV "OthersHands$Filling" 79 m_Filling_ways 0 := ⟨cd_Filling_ways, by decide +kernel, (zg_3 (List.mem_of_getElem? (i := 7) rfl) rfl), (zg_2 (List.mem_of_getElem? (i := 239) rfl) rfl), (zg_3 (List.mem_of_getElem? (i := 0) rfl) rfl)⟩
theorem lk_Filling_83 : zLSN "OthersHands$Filling" "OthersHands" 83 m_O_leastOf 1 := ⟨cd_O_leastOf, by decide +kernel, (zgn_3 (List.mem_of_getElem? (i := 8) rfl) rfl), (zg_3 (List.mem_of_getElem? (i := 9) rfl) rfl)⟩
theorem lk_Filling_86 : zLV "OthersHands$Filling" 86 m_Filling_isForced 2 := ⟨cd_Filling_isForced, by decide +kernel, (zg_3 (List.mem_of_getElem? (i := 20) rfl) rfl), (zg_3 (List.mem_of_getElem? (i := 22) rfl) rfl), (zg_s (List.mem_of_getElem? (i := 11) rfl) rfl)⟩
theorem lk_Filling_89 : zLV "OthersHands$Filling" 89 m_Town_withPartners 1 := ⟨cd_Town_withPartners, by decide +kernel, (zg_3 (List.mem_of_getElem? (i := 28) rfl) rfl), (zg_2 (List.mem_of_getElem? (i := 147) rfl) rfl), (zg_2 (List.mem_of_getElem? (i := 148) rfl) rfl)⟩
theorem lk_Matchmaker_21 : zLV "OthersHands$Matchmaker" 21 m_Town_taintOf 1 := ⟨cd_Town_taintOf, by decide +kernel, (zg_3 (List.mem_of_getElem? (i := 99) rfl) rfl), (zg_2 (List.mem_of_getElem? (i := 181) rfl) rfl), (zg_2 (List.mem_of_getElem? (i := 182) rfl) rfl)⟩
theorem lk_Matchmaker_30 : zLV "OthersHands$Matchmaker" 30 m_Matchmaker_sumUp 1 := ⟨cd_Matchmaker_sumUp, by decide +kernel, (zg_3 (List.mem_of_getElem? (i := 100) rfl) rfl), (zg_3 (List.mem_of_getElem? (i := 102) rfl) rfl), (zg_s (List.mem_of_getElem? (i := 15) rfl) rfl)⟩
theorem lk_Matchmaker_34 : zLV "OthersHands$Matchmaker" 34 m_Matchmaker_choose 1 := ⟨cd_Matchmaker_choose, by decide +kernel, (zg_3 (List.mem_of_getElem? (i := 120) rfl) rfl), (zg_3 (List.mem_of_getElem? (i := 122) rfl) rfl), (zg_s (List.mem_of_getElem? (i := 19) rfl) rfl)⟩
theorem lk_Matchmaker_37 : zLS "OthersHands$Matchmaker" 37 m_JI_bitCount 1 := ⟨cd_JI_bitCount, by decide +kernel, (zg_3 (List.mem_of_getElem? (i := 104) rfl) rfl), (zg_2 (List.mem_of_getElem? (i := 49) rfl) rfl)⟩
theorem lk_Matchmaker_42 : zLV "OthersHands$Matchmaker" 42 m_Matchmaker_leastSum 1 := ⟨cd_Matchmaker_leastSum, by decide +kernel, (zg_3 (List.mem_of_getElem? (i := 105) rfl) rfl), (zg_3 (List.mem_of_getElem? (i := 107) rfl) rfl), (zg_s (List.mem_of_getElem? (i := 16) rfl) rfl)⟩
theorem lk_Matchmaker_45 : zLSN "OthersHands$Matchmaker" "OthersHands" 45 m_O_leastOf 1 := ⟨cd_O_leastOf, by decide +kernel, (zgn_3 (List.mem_of_getElem? (i := 109) rfl) rfl), (zg_3 (List.mem_of_getElem? (i := 9) rfl) rfl)⟩
theorem lk_Matchmaker_48 : zLSN "OthersHands$Matchmaker" "OthersHands" 48 m_O_isMan 1 := ⟨cd_O_isMan, by decide +kernel, (zgn_3 (List.mem_of_getElem? (i := 110) rfl) rfl), (zg_2 (List.mem_of_getElem? (i := 94) rfl) rfl)⟩
theorem lk_Matchmaker_52 : zLV "OthersHands$Matchmaker" 52 m_Matchmaker_bestOther 2 := ⟨cd_Matchmaker_bestOther, by decide +kernel, (zg_3 (List.mem_of_getElem? (i := 111) rfl) rfl), (zg_3 (List.mem_of_getElem? (i := 113) rfl) rfl), (zg_s (List.mem_of_getElem? (i := 17) rfl) rfl)⟩
theorem lk_Matchmaker_56 : zLV "OthersHands$Matchmaker" 56 m_Matchmaker_sumWith 3 := ⟨cd_Matchmaker_sumWith, by decide +kernel, (zg_3 (List.mem_of_getElem? (i := 116) rfl) rfl), (zg_3 (List.mem_of_getElem? (i := 118) rfl) rfl), (zg_s (List.mem_of_getElem? (i := 18) rfl) rfl)⟩
theorem lk_Matchmaker_60 : zLSN "OthersHands$Matchmaker" "OthersHands" 60 m_O_has 2 := ⟨cd_O_has, by decide +kernel, (zgn_3 (List.mem_of_getElem? (i := 115) rfl) rfl), (zg_2 (List.mem_of_getElem? (i := 132) rfl) rfl)⟩
theorem lk_Pages_37 : zLSN "OthersHands$Pages" "OthersHands" 37 m_O_has 2 := ⟨cd_O_has, by decide +kernel, (zgn_2 (List.mem_of_getElem? (i := 131) rfl) rfl), (zg_2 (List.mem_of_getElem? (i := 132) rfl) rfl)⟩
theorem lk_Pages_41 : zLS "OthersHands$Pages" 41 m_Pages_bitOf 1 := ⟨cd_Pages_bitOf, by decide +kernel, (zg_2 (List.mem_of_getElem? (i := 134) rfl) rfl), (zg_2 (List.mem_of_getElem? (i := 135) rfl) rfl)⟩
theorem lk_Reader_11 : zLIN "OthersHands$Reader" "OthersHands" 11 m_Pages_init 0 := ⟨cd_Pages_init, by decide +kernel, (zgn_1 (List.mem_of_getElem? (i := 48) rfl) rfl), (zg_1 (List.mem_of_getElem? (i := 49) rfl) rfl), rfl, rfl⟩
theorem lk_Reader_22 : zLV "OthersHands$Reader" 22 m_Pages_clearMaking 1 := ⟨cd_Pages_clearMaking, by decide +kernel, (zg_2 (List.mem_of_getElem? (i := 24) rfl) rfl), (zg_2 (List.mem_of_getElem? (i := 25) rfl) rfl), (zg_2 (List.mem_of_getElem? (i := 26) rfl) rfl)⟩
theorem lk_Reader_39 : zLV "OthersHands$Reader" 39 m_Reader_takes 1 := ⟨cd_Reader_takes, by decide +kernel, (zg_2 (List.mem_of_getElem? (i := 28) rfl) rfl), (zg_2 (List.mem_of_getElem? (i := 30) rfl) rfl), (zg_s (List.mem_of_getElem? (i := 0) rfl) rfl)⟩
theorem lk_Reader_43 : zLV "OthersHands$Reader" 43 m_Reader_takesTool 2 := ⟨cd_Reader_takesTool, by decide +kernel, (zg_2 (List.mem_of_getElem? (i := 32) rfl) rfl), (zg_2 (List.mem_of_getElem? (i := 34) rfl) rfl), (zg_s (List.mem_of_getElem? (i := 1) rfl) rfl)⟩
theorem lk_Reader_47 : zLV "OthersHands$Reader" 47 m_Reader_takesFrom 2 := ⟨cd_Reader_takesFrom, by decide +kernel, (zg_2 (List.mem_of_getElem? (i := 36) rfl) rfl), (zg_2 (List.mem_of_getElem? (i := 38) rfl) rfl), (zg_s (List.mem_of_getElem? (i := 2) rfl) rfl)⟩
theorem lk_Reader_50 : zLV "OthersHands$Reader" 50 m_Reader_takesMan 2 := ⟨cd_Reader_takesMan, by decide +kernel, (zg_2 (List.mem_of_getElem? (i := 40) rfl) rfl), (zg_2 (List.mem_of_getElem? (i := 42) rfl) rfl), (zg_s (List.mem_of_getElem? (i := 3) rfl) rfl)⟩
theorem lk_Reader_53 : zLV "OthersHands$Reader" 53 m_Reader_takesPlus 1 := ⟨cd_Reader_takesPlus, by decide +kernel, (zg_2 (List.mem_of_getElem? (i := 54) rfl) rfl), (zg_2 (List.mem_of_getElem? (i := 56) rfl) rfl), (zg_s (List.mem_of_getElem? (i := 5) rfl) rfl)⟩
theorem lk_Reader_56 : zLV "OthersHands$Reader" 56 m_Reader_takesAsk 1 := ⟨cd_Reader_takesAsk, by decide +kernel, (zg_2 (List.mem_of_getElem? (i := 58) rfl) rfl), (zg_2 (List.mem_of_getElem? (i := 60) rfl) rfl), (zg_s (List.mem_of_getElem? (i := 6) rfl) rfl)⟩
theorem lk_Reader_59 : zLV "OthersHands$Reader" 59 m_Reader_takesEnd 1 := ⟨cd_Reader_takesEnd, by decide +kernel, (zg_2 (List.mem_of_getElem? (i := 62) rfl) rfl), (zg_2 (List.mem_of_getElem? (i := 64) rfl) rfl), (zg_s (List.mem_of_getElem? (i := 7) rfl) rfl)⟩
theorem lk_Reader_74 : zLS "OthersHands$Reader" 74 m_JI_bitCount 1 := ⟨cd_JI_bitCount, by decide +kernel, (zg_2 (List.mem_of_getElem? (i := 48) rfl) rfl), (zg_2 (List.mem_of_getElem? (i := 49) rfl) rfl)⟩
theorem lk_Reader_80 : zLV "OthersHands$Reader" 80 m_Reader_hasRoomForHand 1 := ⟨cd_Reader_hasRoomForHand, by decide +kernel, (zg_2 (List.mem_of_getElem? (i := 44) rfl) rfl), (zg_2 (List.mem_of_getElem? (i := 46) rfl) rfl), (zg_s (List.mem_of_getElem? (i := 4) rfl) rfl)⟩
theorem lk_Shares_23 : zLS "OthersHands$Shares" 23 m_Shares_isAhead 2 := ⟨cd_Shares_isAhead, by decide +kernel, (zg_2 (List.mem_of_getElem? (i := 163) rfl) rfl), (zg_2 (List.mem_of_getElem? (i := 164) rfl) rfl)⟩
theorem lk_Shares_30 : zLS "OthersHands$Shares" 30 m_Shares_partsOfHands 2 := ⟨cd_Shares_partsOfHands, by decide +kernel, (zg_2 (List.mem_of_getElem? (i := 166) rfl) rfl), (zg_2 (List.mem_of_getElem? (i := 167) rfl) rfl)⟩
theorem lk_Shares_34 : zLS "OthersHands$Shares" 34 m_JI_bitCount 1 := ⟨cd_JI_bitCount, by decide +kernel, (zg_2 (List.mem_of_getElem? (i := 169) rfl) rfl), (zg_2 (List.mem_of_getElem? (i := 49) rfl) rfl)⟩
theorem lk_Shares_40 : zLSN "OthersHands$Shares" "OthersHands" 40 m_O_has 2 := ⟨cd_O_has, by decide +kernel, (zgn_2 (List.mem_of_getElem? (i := 170) rfl) rfl), (zg_2 (List.mem_of_getElem? (i := 132) rfl) rfl)⟩
theorem lk_Shares_43 : zLV "OthersHands$Shares" 43 m_Shares_partsOf 3 := ⟨cd_Shares_partsOf, by decide +kernel, (zg_2 (List.mem_of_getElem? (i := 159) rfl) rfl), (zg_2 (List.mem_of_getElem? (i := 160) rfl) rfl), (zg_2 (List.mem_of_getElem? (i := 161) rfl) rfl)⟩
theorem lk_Town_11 : zLIN "OthersHands$Town" "OthersHands" 11 m_Pages_init 0 := ⟨cd_Pages_init, by decide +kernel, (zgn_1 (List.mem_of_getElem? (i := 108) rfl) rfl), (zg_1 (List.mem_of_getElem? (i := 49) rfl) rfl), rfl, rfl⟩
theorem lk_Town_38 : zLV "OthersHands$Town" 38 m_Pages_become 1 := ⟨cd_Pages_become, by decide +kernel, (zg_2 (List.mem_of_getElem? (i := 74) rfl) rfl), (zg_2 (List.mem_of_getElem? (i := 75) rfl) rfl), (zg_2 (List.mem_of_getElem? (i := 76) rfl) rfl)⟩
theorem lk_Town_54 : zLSN "OthersHands$Town" "OthersHands" 54 m_O_has 2 := ⟨cd_O_has, by decide +kernel, (zgn_2 (List.mem_of_getElem? (i := 150) rfl) rfl), (zg_2 (List.mem_of_getElem? (i := 132) rfl) rfl)⟩
theorem lk_Town_58 : zLV "OthersHands$Town" 58 m_Town_couple 1 := ⟨cd_Town_couple, by decide +kernel, (zg_2 (List.mem_of_getElem? (i := 151) rfl) rfl), (zg_2 (List.mem_of_getElem? (i := 152) rfl) rfl), (zg_2 (List.mem_of_getElem? (i := 153) rfl) rfl)⟩
theorem lk_Town_62 : zLV "OthersHands$Town" 62 m_Pages_behind 2 := ⟨cd_Pages_behind, by decide +kernel, (zg_2 (List.mem_of_getElem? (i := 127) rfl) rfl), (zg_2 (List.mem_of_getElem? (i := 128) rfl) rfl), (zg_2 (List.mem_of_getElem? (i := 129) rfl) rfl)⟩
theorem lk_Town_66 : zLV "OthersHands$Town" 66 m_Town_reach 1 := ⟨cd_Town_reach, by decide +kernel, (zg_2 (List.mem_of_getElem? (i := 123) rfl) rfl), (zg_2 (List.mem_of_getElem? (i := 124) rfl) rfl), (zg_2 (List.mem_of_getElem? (i := 125) rfl) rfl)⟩
theorem lk_Town_69 : zLV "OthersHands$Town" 69 m_Pages_handsOf 1 := ⟨cd_Pages_handsOf, by decide +kernel, (zg_2 (List.mem_of_getElem? (i := 137) rfl) rfl), (zg_2 (List.mem_of_getElem? (i := 138) rfl) rfl), (zg_2 (List.mem_of_getElem? (i := 139) rfl) rfl)⟩
theorem lk_Town_72 : zLV "OthersHands$Town" 72 m_Town_touchers 1 := ⟨cd_Town_touchers, by decide +kernel, (zg_2 (List.mem_of_getElem? (i := 145) rfl) rfl), (zg_2 (List.mem_of_getElem? (i := 120) rfl) rfl), (zg_2 (List.mem_of_getElem? (i := 121) rfl) rfl)⟩
theorem lk_Town_75 : zLV "OthersHands$Town" 75 m_Town_withPartners 1 := ⟨cd_Town_withPartners, by decide +kernel, (zg_2 (List.mem_of_getElem? (i := 146) rfl) rfl), (zg_2 (List.mem_of_getElem? (i := 147) rfl) rfl), (zg_2 (List.mem_of_getElem? (i := 148) rfl) rfl)⟩
theorem lk_X_66 : zLS "OthersHandsModel" 66 m_X_in 3 := ⟨cd_X_in, by decide +kernel, (zg_3 (List.mem_of_getElem? (i := 232) rfl) rfl), (zg_3 (List.mem_of_getElem? (i := 233) rfl) rfl)⟩
theorem lk_X_76 : zLV "OthersHandsModel" 76 m_X_faultOf 0 := ⟨cd_X_faultOf, by decide +kernel, (zg_4 (List.mem_of_getElem? (i := 3) rfl) rfl), (zg_4 (List.mem_of_getElem? (i := 5) rfl) rfl), (zg_s (List.mem_of_getElem? (i := 21) rfl) rfl)⟩
theorem lk_X_83 : zLV "OthersHandsModel" 83 m_X_isThing 1 := ⟨cd_X_isThing, by decide +kernel, (zg_4 (List.mem_of_getElem? (i := 15) rfl) rfl), (zg_4 (List.mem_of_getElem? (i := 17) rfl) rfl), (zg_s (List.mem_of_getElem? (i := 22) rfl) rfl)⟩
theorem lk_X_87 : zLS "OthersHandsModel" 87 m_X_isMan 1 := ⟨cd_X_isMan, by decide +kernel, (zg_4 (List.mem_of_getElem? (i := 23) rfl) rfl), (zg_4 (List.mem_of_getElem? (i := 24) rfl) rfl)⟩
theorem lk_X_94 : zLV "OthersHandsModel" 94 m_X_walk 1 := ⟨cd_X_walk, by decide +kernel, (zg_4 (List.mem_of_getElem? (i := 50) rfl) rfl), (zg_4 (List.mem_of_getElem? (i := 52) rfl) rfl), (zg_s (List.mem_of_getElem? (i := 25) rfl) rfl)⟩
theorem lk_X_98 : zLS "OthersHandsModel" 98 m_X_has 2 := ⟨cd_X_has, by decide +kernel, (zg_4 (List.mem_of_getElem? (i := 63) rfl) rfl), (zg_4 (List.mem_of_getElem? (i := 64) rfl) rfl)⟩
theorem lk_X_102 : zLV "OthersHandsModel" 102 m_X_touchers 1 := ⟨cd_X_touchers, by decide +kernel, (zg_4 (List.mem_of_getElem? (i := 46) rfl) rfl), (zg_4 (List.mem_of_getElem? (i := 48) rfl) rfl), (zg_s (List.mem_of_getElem? (i := 24) rfl) rfl)⟩
theorem lk_X_106 : zLV "OthersHandsModel" 106 m_X_withPartners 1 := ⟨cd_X_withPartners, by decide +kernel, (zg_4 (List.mem_of_getElem? (i := 59) rfl) rfl), (zg_4 (List.mem_of_getElem? (i := 61) rfl) rfl), (zg_s (List.mem_of_getElem? (i := 27) rfl) rfl)⟩
theorem lk_X_109 : zLS "OthersHandsModel" 109 m_X_bits 1 := ⟨cd_X_bits, by decide +kernel, (zg_4 (List.mem_of_getElem? (i := 74) rfl) rfl), (zg_4 (List.mem_of_getElem? (i := 75) rfl) rfl)⟩
theorem lk_X_112 : zLV "OthersHandsModel" 112 m_X_shareOf 2 := ⟨cd_X_shareOf, by decide +kernel, (zg_4 (List.mem_of_getElem? (i := 70) rfl) rfl), (zg_4 (List.mem_of_getElem? (i := 72) rfl) rfl), (zg_s (List.mem_of_getElem? (i := 29) rfl) rfl)⟩
theorem lk_X_116 : zLV "OthersHandsModel" 116 m_X_asTold 0 := ⟨cd_X_asTold, by decide +kernel, (zg_4 (List.mem_of_getElem? (i := 42) rfl) rfl), (zg_4 (List.mem_of_getElem? (i := 44) rfl) rfl), (zg_s (List.mem_of_getElem? (i := 23) rfl) rfl)⟩
theorem lk_X_119 : zLV "OthersHandsModel" 119 m_X_barredFrom 1 := ⟨cd_X_barredFrom, by decide +kernel, (zg_4 (List.mem_of_getElem? (i := 55) rfl) rfl), (zg_4 (List.mem_of_getElem? (i := 57) rfl) rfl), (zg_s (List.mem_of_getElem? (i := 26) rfl) rfl)⟩
theorem lk_X_122 : zLV "OthersHandsModel" 122 m_X_byTenths 1 := ⟨cd_X_byTenths, by decide +kernel, (zg_4 (List.mem_of_getElem? (i := 66) rfl) rfl), (zg_4 (List.mem_of_getElem? (i := 68) rfl) rfl), (zg_s (List.mem_of_getElem? (i := 28) rfl) rfl)⟩
theorem lk_X_125 : zLV "OthersHandsModel" 125 m_X_mayHave 1 := ⟨cd_X_mayHave, by decide +kernel, (zg_4 (List.mem_of_getElem? (i := 81) rfl) rfl), (zg_4 (List.mem_of_getElem? (i := 83) rfl) rfl), (zg_s (List.mem_of_getElem? (i := 30) rfl) rfl)⟩
theorem lk_X_128 : zLV "OthersHandsModel" 128 m_X_nearTo 2 := ⟨cd_X_nearTo, by decide +kernel, (zg_4 (List.mem_of_getElem? (i := 89) rfl) rfl), (zg_4 (List.mem_of_getElem? (i := 91) rfl) rfl), (zg_s (List.mem_of_getElem? (i := 31) rfl) rfl)⟩
theorem lk_X_135 : zLV "OthersHandsModel" 135 m_X_opens 0 := ⟨cd_X_opens, by decide +kernel, (zg_4 (List.mem_of_getElem? (i := 115) rfl) rfl), (zg_4 (List.mem_of_getElem? (i := 117) rfl) rfl), (zg_s (List.mem_of_getElem? (i := 33) rfl) rfl)⟩
theorem lk_X_138 : zLV "OthersHandsModel" 138 m_X_manAt 2 := ⟨cd_X_manAt, by decide +kernel, (zg_4 (List.mem_of_getElem? (i := 123) rfl) rfl), (zg_4 (List.mem_of_getElem? (i := 125) rfl) rfl), (zg_s (List.mem_of_getElem? (i := 35) rfl) rfl)⟩
theorem lk_X_141 : zLV "OthersHandsModel" 141 m_X_codes 0 := ⟨cd_X_codes, by decide +kernel, (zg_4 (List.mem_of_getElem? (i := 111) rfl) rfl), (zg_4 (List.mem_of_getElem? (i := 113) rfl) rfl), (zg_s (List.mem_of_getElem? (i := 32) rfl) rfl)⟩
theorem lk_X_144 : zLV "OthersHandsModel" 144 m_X_fill 1 := ⟨cd_X_fill, by decide +kernel, (zg_4 (List.mem_of_getElem? (i := 119) rfl) rfl), (zg_4 (List.mem_of_getElem? (i := 121) rfl) rfl), (zg_s (List.mem_of_getElem? (i := 34) rfl) rfl)⟩
theorem lk_X_147 : zLV "OthersHandsModel" 147 m_X_layMays 0 := ⟨cd_X_layMays, by decide +kernel, (zg_4 (List.mem_of_getElem? (i := 135) rfl) rfl), (zg_4 (List.mem_of_getElem? (i := 137) rfl) rfl), (zg_s (List.mem_of_getElem? (i := 36) rfl) rfl)⟩
theorem lk_X_150 : zLV "OthersHandsModel" 150 m_X_feeds 2 := ⟨cd_X_feeds, by decide +kernel, (zg_4 (List.mem_of_getElem? (i := 147) rfl) rfl), (zg_4 (List.mem_of_getElem? (i := 149) rfl) rfl), (zg_s (List.mem_of_getElem? (i := 37) rfl) rfl)⟩
theorem lk_X_153 : zLV "OthersHandsModel" 153 m_X_allBarred 0 := ⟨cd_X_allBarred, by decide +kernel, (zg_4 (List.mem_of_getElem? (i := 159) rfl) rfl), (zg_4 (List.mem_of_getElem? (i := 161) rfl) rfl), (zg_s (List.mem_of_getElem? (i := 38) rfl) rfl)⟩
theorem lk_X_157 : zLV "OthersHandsModel" 157 m_X_layPlan 1 := ⟨cd_X_layPlan, by decide +kernel, (zg_4 (List.mem_of_getElem? (i := 164) rfl) rfl), (zg_4 (List.mem_of_getElem? (i := 166) rfl) rfl), (zg_s (List.mem_of_getElem? (i := 39) rfl) rfl)⟩
