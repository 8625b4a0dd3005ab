abbrev mX0_init : xM := (yX0_init, cX0_init, 1, none)
abbrev mX0_open : xM := (yX0_open, cX0_open, 2, none)
abbrev mX0_offer : xM := (yX0_offer, cX0_offer, 10, none)
abbrev mX0_picked : xM := (yX0_picked, cX0_picked, 1, (some .long))
abbrev mX1_init : xM := (yX1_init, cX1_init, 1, none)
abbrev mX1_has : xM := (yX1_has, cX1_has, 2, (some .boolean))
abbrev mX1_hasFact : xM := (yX1_hasFact, cX1_hasFact, 3, (some .boolean))
abbrev mX1_start : xM := (yX1_start, cX1_start, 3, (some .int))
abbrev mX1_settle : xM := (yX1_settle, cX1_settle, 5, none)
abbrev mX2_init : xM := (yX2_init, cX2_init, 1, none)
abbrev mX2_has : xM := (yX2_has, cX2_has, 2, (some .boolean))
abbrev mX2_add : xM := (yX2_add, cX2_add, 5, (some .int))
abbrev mX2_renew : xM := (yX2_renew, cX2_renew, 4, (some .boolean))
abbrev mX2_rateOf : xM := (yX2_rateOf, cX2_rateOf, 4, (some .int))
abbrev mX2_chanceOf : xM := (yX2_chanceOf, cX2_chanceOf, 7, (some .int))
abbrev mX2_doubtOf : xM := (yX2_doubtOf, cX2_doubtOf, 4, (some .int))
abbrev mX2_countOf : xM := (yX2_countOf, cX2_countOf, 4, (some .int))
abbrev mX3_init : xM := (yX3_init, cX3_init, 1, none)
abbrev mX3_has : xM := (yX3_has, cX3_has, 2, (some .boolean))
abbrev mX3_add : xM := (yX3_add, cX3_add, 5, (some .int))
abbrev mX3_isOpenOn : xM := (yX3_isOpenOn, cX3_isOpenOn, 3, (some .boolean))
abbrev mX3_settle : xM := (yX3_settle, cX3_settle, 4, none)
abbrev mX3_close : xM := (yX3_close, cX3_close, 4, none)
abbrev mX3_weightOf : xM := (yX3_weightOf, cX3_weightOf, 2, (some .int))
abbrev mX3_weightFor : xM := (yX3_weightFor, cX3_weightFor, 8, (some .int))
abbrev mX3_differOn : xM := (yX3_differOn, cX3_differOn, 4, (some .boolean))
abbrev mX4_init : xM := (yX4_init, cX4_init, 2, none)
abbrev mX4_shiftOf : xM := (yX4_shiftOf, cX4_shiftOf, 7, (some .int))
abbrev mX4_onScale : xM := (yX4_onScale, cX4_onScale, 4, (some .int))
abbrev mX4_describe : xM := (yX4_describe, cX4_describe, 9, none)
abbrev mX5_init : xM := (yX5_init, cX5_init, 1, none)
abbrev mX5_parse : xM := (yX5_parse, cX5_parse, 3, (some .int))
abbrev mX5_parseLine : xM := (yX5_parseLine, cX5_parseLine, 3, (some .boolean))
abbrev mX5_parseJoined : xM := (yX5_parseJoined, cX5_parseJoined, 6, (some .boolean))
abbrev mX5_parsePart : xM := (yX5_parsePart, cX5_parsePart, 4, (some .boolean))
abbrev mX5_joins : xM := (yX5_joins, cX5_joins, 1, (some .int))
abbrev mX5_token : xM := (yX5_token, cX5_token, 1, (some .int))
abbrev mX5_pass : xM := (yX5_pass, cX5_pass, 2, (some .boolean))
abbrev mX5_refuse : xM := (yX5_refuse, cX5_refuse, 3, (some .boolean))
abbrev mX6_init : xM := (yX6_init, cX6_init, 1, none)
abbrev mX6_clear : xM := (yX6_clear, cX6_clear, 1, none)
abbrev mX6_add : xM := (yX6_add, cX6_add, 2, none)
abbrev mX6_endLine : xM := (yX6_endLine, cX6_endLine, 2, none)
abbrev mX6_copy : xM := (yX6_copy, cX6_copy, 2, none)
abbrev mX6_starsFor : xM := (yX6_starsFor, cX6_starsFor, 4, (some .int))
abbrev mX6_valueOf : xM := (yX6_valueOf, cX6_valueOf, 7, (some .int))
abbrev mX6_joined : xM := (yX6_joined, cX6_joined, 3, (some .int))
abbrev mX7_init : xM := (yX7_init, cX7_init, 1, none)
abbrev mX7_appendBytes : xM := (yX7_appendBytes, cX7_appendBytes, 4, none)
abbrev mX7_append : xM := (yX7_append, cX7_append, 3, none)
abbrev mX7_isBlank : xM := (yX7_isBlank, cX7_isBlank, 2, (some .boolean))
abbrev mX7_isLetter : xM := (yX7_isLetter, cX7_isLetter, 2, (some .boolean))
abbrev mX7_isDigit : xM := (yX7_isDigit, cX7_isDigit, 2, (some .boolean))
abbrev mX7_endOfLetters : xM := (yX7_endOfLetters, cX7_endOfLetters, 3, (some .int))
abbrev mX7_endOfDigits : xM := (yX7_endOfDigits, cX7_endOfDigits, 3, (some .int))
abbrev mX7_spells : xM := (yX7_spells, cX7_spells, 5, (some .boolean))
abbrev mX8_init : xM := (yX8_init, cX8_init, 1, none)
abbrev mX8_scan : xM := (yX8_scan, cX8_scan, 3, none)
abbrev mX8_startsToken : xM := (yX8_startsToken, cX8_startsToken, 3, (some .boolean))
abbrev mX8_addFrom : xM := (yX8_addFrom, cX8_addFrom, 3, none)
abbrev mX8_addNumber : xM := (yX8_addNumber, cX8_addNumber, 6, none)
abbrev mX8_add : xM := (yX8_add, cX8_add, 4, none)
abbrev mX8_signToken : xM := (yX8_signToken, cX8_signToken, 1, (some .int))
abbrev mX8_wordToken : xM := (yX8_wordToken, cX8_wordToken, 3, (some .int))
abbrev mX9_init : xM := (yX9_init, cX9_init, 1, none)
abbrev mX9_years : xM := (yX9_years, cX9_years, 2, (some .int))
abbrev mX9_fact : xM := (yX9_fact, cX9_fact, 5, (some .int))
abbrev mX9_line : xM := (yX9_line, cX9_line, 4, (some .boolean))
abbrev mX9_check : xM := (yX9_check, cX9_check, 3, (some .int))
abbrev mX9_rate : xM := (yX9_rate, cX9_rate, 2, (some .int))
abbrev mX9_chance : xM := (yX9_chance, cX9_chance, 2, (some .int))
abbrev mX9_takes : xM := (yX9_takes, cX9_takes, 3, (some .boolean))
abbrev mX9_plan : xM := (yX9_plan, cX9_plan, 5, (some .int))
abbrev mX9_letter : xM := (yX9_letter, cX9_letter, 5, (some .int))
abbrev mX9_weight : xM := (yX9_weight, cX9_weight, 2, (some .int))
abbrev mX9_believed : xM := (yX9_believed, cX9_believed, 2, (some .int))
abbrev mX9_quarrel : xM := (yX9_quarrel, cX9_quarrel, 2, (some .int))
abbrev mX9_proof : xM := (yX9_proof, cX9_proof, 2, (some .int))
abbrev mX9_mark : xM := (yX9_mark, cX9_mark, 4, (some .boolean))
abbrev mX9_shift : xM := (yX9_shift, cX9_shift, 2, (some .int))
abbrev mX9_paid : xM := (yX9_paid, cX9_paid, 3, (some .boolean))
abbrev mX9_feed : xM := (yX9_feed, cX9_feed, 7, (some .int))
abbrev mX9_text : xM := (yX9_text, cX9_text, 2, (some .int))
abbrev mX9_stars : xM := (yX9_stars, cX9_stars, 2, (some .int))
abbrev mX9_number : xM := (yX9_number, cX9_number, 7, (some .int))
abbrev mX9_edition : xM := (yX9_edition, cX9_edition, 3, (some .int))
abbrev mX9_printed : xM := (yX9_printed, cX9_printed, 4, (some .int))
abbrev mX9_errors : xM := (yX9_errors, cX9_errors, 7, (some .int))
abbrev mX9_count : xM := (yX9_count, cX9_count, 2, (some .int))
abbrev mX9_look : xM := (yX9_look, cX9_look, 3, (some .int))
abbrev mX9_within : xM := (yX9_within, cX9_within, 2, (some .boolean))
abbrev mX9_cut : xM := (yX9_cut, cX9_cut, 3, (some .int))
abbrev mX9_isKind : xM := (yX9_isKind, cX9_isKind, 1, (some .boolean))
abbrev mX9_isPlace : xM := (yX9_isPlace, cX9_isPlace, 1, (some .boolean))
abbrev mX9_isReader : xM := (yX9_isReader, cX9_isReader, 1, (some .boolean))
abbrev mX9_isWalker : xM := (yX9_isWalker, cX9_isWalker, 1, (some .boolean))
abbrev mX9_isValue : xM := (yX9_isValue, cX9_isValue, 1, (some .boolean))
abbrev mX9_isName : xM := (yX9_isName, cX9_isName, 1, (some .boolean))
abbrev mX9_placesFor : xM := (yX9_placesFor, cX9_placesFor, 3, (some .long))
abbrev mX9_doubtOfSet : xM := (yX9_doubtOfSet, cX9_doubtOfSet, 5, (some .int))
abbrev mX9_linesKept : xM := (yX9_linesKept, cX9_linesKept, 4, (some .long))
abbrev mX9_beliefOf : xM := (yX9_beliefOf, cX9_beliefOf, 9, (some .int))
abbrev mX9_starsOf : xM := (yX9_starsOf, cX9_starsOf, 2, (some .int))
abbrev mX10_thrown : xM := (yX10_thrown, cX10_thrown, 1, (some .int))
abbrev mX10_feed : xM := (yX10_feed, cX10_feed, 7, (some .int))
abbrev mX10_lay : xM := (yX10_lay, cX10_lay, 5, none)
abbrev mX10_init : xM := (yX10_init, cX10_init, 3, none)
abbrev mX10_isLetter : xM := (yX10_isLetter, cX10_isLetter, 1, (some .boolean))
abbrev mX10_isDigit : xM := (yX10_isDigit, cX10_isDigit, 1, (some .boolean))
abbrev mX10_rank : xM := (yX10_rank, cX10_rank, 1, (some .int))
abbrev mX10_isSignOf : xM := (yX10_isSignOf, cX10_isSignOf, 1, (some .boolean))
abbrev mX10_cutAll : xM := (yX10_cutAll, cX10_cutAll, 7, none)
abbrev mX10_wrong : xM := (yX10_wrong, cX10_wrong, 2, none)
abbrev mX10_isSign : xM := (yX10_isSign, cX10_isSign, 2, (some .boolean))
abbrev mX10_isWord : xM := (yX10_isWord, cX10_isWord, 2, (some .boolean))
abbrev mX10_takeSign : xM := (yX10_takeSign, cX10_takeSign, 2, none)
abbrev mX10_hasSign : xM := (yX10_hasSign, cX10_hasSign, 3, (some .boolean))
abbrev mX10_hasWord : xM := (yX10_hasWord, cX10_hasWord, 3, (some .boolean))
abbrev mX10_takeWord : xM := (yX10_takeWord, cX10_takeWord, 2, none)
abbrev mX10_emit : xM := (yX10_emit, cX10_emit, 3, none)
abbrev mX10_text : xM := (yX10_text, cX10_text, 1, (some .int))
abbrev mX10_line : xM := (yX10_line, cX10_line, 3, none)
abbrev mX10_opens : xM := (yX10_opens, cX10_opens, 1, none)
abbrev mX10_partWord : xM := (yX10_partWord, cX10_partWord, 2, (some .int))
abbrev mX10_part : xM := (yX10_part, cX10_part, 2, (some .boolean))
abbrev mX10_goesOnBehind : xM := (yX10_goesOnBehind, cX10_goesOnBehind, 1, (some .boolean))
abbrev mX10_worth : xM := (yX10_worth, cX10_worth, 7, (some .int))
abbrev mX10_years : xM := (yX10_years, cX10_years, 2, (some .int))
abbrev mX10_isPlace : xM := (yX10_isPlace, cX10_isPlace, 1, (some .boolean))
abbrev mX10_isValue : xM := (yX10_isValue, cX10_isValue, 1, (some .boolean))
abbrev mX10_fact : xM := (yX10_fact, cX10_fact, 4, (some .int))
abbrev mX10_isFact : xM := (yX10_isFact, cX10_isFact, 2, (some .boolean))
abbrev mX10_line_ : xM := (yX10_line_, cX10_line_, 4, (some .boolean))
abbrev mX10_rateOf : xM := (yX10_rateOf, cX10_rateOf, 3, (some .int))
abbrev mX10_chanceOf : xM := (yX10_chanceOf, cX10_chanceOf, 5, (some .int))
abbrev mX10_rate : xM := (yX10_rate, cX10_rate, 2, (some .int))
abbrev mX10_chance : xM := (yX10_chance, cX10_chance, 2, (some .int))
abbrev mX10_check : xM := (yX10_check, cX10_check, 5, (some .int))
abbrev mX10_takes : xM := (yX10_takes, cX10_takes, 3, (some .boolean))
abbrev mX10_daysOf : xM := (yX10_daysOf, cX10_daysOf, 4, (some .int))
abbrev mX10_doubtOf : xM := (yX10_doubtOf, cX10_doubtOf, 5, (some .long))
abbrev mX10_plan : xM := (yX10_plan, cX10_plan, 6, (some .int))
abbrev mX10_letter : xM := (yX10_letter, cX10_letter, 4, (some .int))
abbrev mX10_weightOf : xM := (yX10_weightOf, cX10_weightOf, 5, (some .int))
abbrev mX10_weight : xM := (yX10_weight, cX10_weight, 2, (some .int))
abbrev mX10_isOpen : xM := (yX10_isOpen, cX10_isOpen, 3, (some .boolean))
abbrev mX10_heard : xM := (yX10_heard, cX10_heard, 7, (some .int))
abbrev mX10_believes : xM := (yX10_believes, cX10_believes, 6, (some .int))
abbrev mX10_believed : xM := (yX10_believed, cX10_believed, 2, (some .int))
abbrev mX10_quarrel : xM := (yX10_quarrel, cX10_quarrel, 5, (some .int))
abbrev mX10_proof : xM := (yX10_proof, cX10_proof, 2, (some .int))
abbrev mX10_mark : xM := (yX10_mark, cX10_mark, 4, (some .boolean))
abbrev mX10_shiftOf : xM := (yX10_shiftOf, cX10_shiftOf, 5, (some .int))
abbrev mX10_shift : xM := (yX10_shift, cX10_shift, 2, (some .int))
abbrev mX10_paid : xM := (yX10_paid, cX10_paid, 3, (some .boolean))
abbrev mX10_starsOf : xM := (yX10_starsOf, cX10_starsOf, 8, (some .int))
abbrev mX10_stars : xM := (yX10_stars, cX10_stars, 2, (some .int))
abbrev mX10_laysOut : xM := (yX10_laysOut, cX10_laysOut, 5, none)
abbrev mX10_isWith : xM := (yX10_isWith, cX10_isWith, 8, (some .boolean))
abbrev mX10_number : xM := (yX10_number, cX10_number, 7, (some .int))
abbrev mX10_edition : xM := (yX10_edition, cX10_edition, 2, (some .int))
abbrev mX10_proves : xM := (yX10_proves, cX10_proves, 5, none)
abbrev mX10_printed : xM := (yX10_printed, cX10_printed, 4, (some .int))
abbrev mX10_errors : xM := (yX10_errors, cX10_errors, 5, (some .int))
abbrev mX10_count : xM := (yX10_count, cX10_count, 4, (some .int))
abbrev mX10_look : xM := (yX10_look, cX10_look, 3, (some .int))
abbrev mJ13_bitCount_95d88 : xM := (yJ13_bitCount_95d88, cJ13_bitCount_95d88, 2, (some .int))
abbrev mJ9_max_7cf53 : xM := (yJ9_max_7cf53, cJ9_max_7cf53, 2, (some .int))
abbrev mJ9_min_7cf53 : xM := (yJ9_min_7cf53, cJ9_min_7cf53, 2, (some .int))
abbrev mJ0_length_8abf5 : xM := (yJ0_length_8abf5, cJ0_length_8abf5, 1, (some .int))
abbrev mJ0_charAt_5068e : xM := (yJ0_charAt_5068e, cJ0_charAt_5068e, 2, (some .char))
abbrev mJ0_coder_7d493 : xM := (yJ0_coder_7d493, cJ0_coder_7d493, 1, (some .byte))
abbrev mJ0_isLatin1_aae02 : xM := (yJ0_isLatin1_aae02, cJ0_isLatin1_aae02, 1, (some .boolean))
abbrev mJ0_checkIndex_df160 : xM := (yJ0_checkIndex_df160, cJ0_checkIndex_df160, 2, none)
abbrev mJ1_charAt_3b067 : xM := (yJ1_charAt_3b067, cJ1_charAt_3b067, 2, (some .char))
abbrev mJ2_getChar_3b067 : xM := (yJ2_getChar_3b067, cJ2_getChar_3b067, 2, (some .char))
abbrev mJ2_length_9d52b : xM := (yJ2_length_9d52b, cJ2_length_9d52b, 1, (some .int))
abbrev mJ2_charAt_3b067 : xM := (yJ2_charAt_3b067, cJ2_charAt_3b067, 2, (some .char))
abbrev mJ2_checkIndex_2214a : xM := (yJ2_checkIndex_2214a, cJ2_checkIndex_2214a, 2, none)
abbrev mJ7_fill_d0a16 : xM := (yJ7_fill_d0a16, cJ7_fill_d0a16, 5, none)
abbrev mJ7_fill_53178 : xM := (yJ7_fill_53178, cJ7_fill_53178, 4, none)
abbrev mJ3_checkIndex_8e157 : xM := (yJ3_checkIndex_8e157, cJ3_checkIndex_8e157, 3, (some .int))
abbrev mL_shift : xM := (yL_shift, cL_shift, 4, (some .int))
abbrev mL_look : xM := (yL_look, cL_look, 5, (some .int))
abbrev mL_law : xM := (yL_law, cL_law, 7, (some .boolean))
theorem w_0 : xw (.selects RX2 yX2_add yX2_add) := ⟨List.mem_of_getElem? (i := 0) (by decide +kernel), by decide +kernel⟩
theorem w_1 : xw (.selects RX2 yX2_has yX2_has) := ⟨List.mem_of_getElem? (i := 1) (by decide +kernel), by decide +kernel⟩
theorem w_10 : xw (.selects RX9 yX9_placesFor yX9_placesFor) := ⟨List.mem_of_getElem? (i := 10) (by decide +kernel), by decide +kernel⟩
theorem w_104 : xw (.initialized RJ0) := ⟨List.mem_of_getElem? (i := 104) (by decide +kernel), by decide +kernel⟩
theorem w_105 : xw (.initialized RJ1) := ⟨List.mem_of_getElem? (i := 105) (by decide +kernel), by decide +kernel⟩
theorem w_106 : xw (.initialized RJ3) := ⟨List.mem_of_getElem? (i := 106) (by decide +kernel), by decide +kernel⟩
theorem w_108 : xw (.initialized RJ10) := ⟨List.mem_of_getElem? (i := 108) (by decide +kernel), by decide +kernel⟩
theorem w_109 : xw (.initialized RJ13) := ⟨List.mem_of_getElem? (i := 109) (by decide +kernel), by decide +kernel⟩
theorem w_1091 : xw (.methodLink RL 107 yX10_text) := ⟨List.mem_of_getElem? (i := 1091) (by decide +kernel), by decide +kernel⟩
theorem w_1092 : xw (.instanceMethod yX10_text) := ⟨List.mem_of_getElem? (i := 1092) (by decide +kernel), by decide +kernel⟩
theorem w_1093 : xw (.selects RX10 yX10_text yX10_text) := ⟨List.mem_of_getElem? (i := 1093) (by decide +kernel), by decide +kernel⟩
theorem w_1094 : xw (.code yX10_text cX10_text 1 (some .int)) := ⟨List.mem_of_getElem? (i := 1094) (by decide +kernel), by decide +kernel⟩
theorem w_1095 : xw (.methodLink RX10 200 yX10_cutAll) := ⟨List.mem_of_getElem? (i := 1095) (by decide +kernel), by decide +kernel⟩
theorem w_1097 : xw (.instanceMethod yX10_cutAll) := ⟨List.mem_of_getElem? (i := 1097) (by decide +kernel), by decide +kernel⟩
theorem w_1098 : xw (.code yX10_cutAll cX10_cutAll 7 none) := ⟨List.mem_of_getElem? (i := 1098) (by decide +kernel), by decide +kernel⟩
theorem w_1099 : xw (.methodLink RX10 152 yX10_isLetter) := ⟨List.mem_of_getElem? (i := 1099) (by decide +kernel), by decide +kernel⟩
theorem w_11 : xw (.selects RX0 yX0_open yX0_open) := ⟨List.mem_of_getElem? (i := 11) (by decide +kernel), by decide +kernel⟩
theorem w_1100 : xw (.static yX10_isLetter) := ⟨List.mem_of_getElem? (i := 1100) (by decide +kernel), by decide +kernel⟩
theorem w_1101 : xw (.code yX10_isLetter cX10_isLetter 1 (some .boolean)) := ⟨List.mem_of_getElem? (i := 1101) (by decide +kernel), by decide +kernel⟩
theorem w_1102 : xw (.constantLong RX10 159 (37)) := ⟨List.mem_of_getElem? (i := 1102) (by decide +kernel), by decide +kernel⟩
theorem w_1103 : xw (.methodLink RX10 161 yX10_rank) := ⟨List.mem_of_getElem? (i := 1103) (by decide +kernel), by decide +kernel⟩
theorem w_1104 : xw (.static yX10_rank) := ⟨List.mem_of_getElem? (i := 1104) (by decide +kernel), by decide +kernel⟩
theorem w_1105 : xw (.code yX10_rank cX10_rank 1 (some .int)) := ⟨List.mem_of_getElem? (i := 1105) (by decide +kernel), by decide +kernel⟩
theorem w_1106 : xw (.methodLink RX10 165 yX10_isDigit) := ⟨List.mem_of_getElem? (i := 1106) (by decide +kernel), by decide +kernel⟩
theorem w_1107 : xw (.static yX10_isDigit) := ⟨List.mem_of_getElem? (i := 1107) (by decide +kernel), by decide +kernel⟩
theorem w_1108 : xw (.code yX10_isDigit cX10_isDigit 1 (some .boolean)) := ⟨List.mem_of_getElem? (i := 1108) (by decide +kernel), by decide +kernel⟩
theorem w_1109 : xw (.constantLong RX10 168 (10)) := ⟨List.mem_of_getElem? (i := 1109) (by decide +kernel), by decide +kernel⟩
theorem w_1110 : xw (.constantLong RX10 170 (48)) := ⟨List.mem_of_getElem? (i := 1110) (by decide +kernel), by decide +kernel⟩
theorem w_1111 : xw (.methodLink RX10 172 yX10_isSignOf) := ⟨List.mem_of_getElem? (i := 1111) (by decide +kernel), by decide +kernel⟩
theorem w_1112 : xw (.static yX10_isSignOf) := ⟨List.mem_of_getElem? (i := 1112) (by decide +kernel), by decide +kernel⟩
theorem w_1113 : xw (.code yX10_isSignOf cX10_isSignOf 1 (some .boolean)) := ⟨List.mem_of_getElem? (i := 1113) (by decide +kernel), by decide +kernel⟩
theorem w_1114 : xw (.methodLink RX10 206 yX10_line) := ⟨List.mem_of_getElem? (i := 1114) (by decide +kernel), by decide +kernel⟩
theorem w_1116 : xw (.instanceMethod yX10_line) := ⟨List.mem_of_getElem? (i := 1116) (by decide +kernel), by decide +kernel⟩
theorem w_1117 : xw (.code yX10_line cX10_line 3 none) := ⟨List.mem_of_getElem? (i := 1117) (by decide +kernel), by decide +kernel⟩
theorem w_1118 : xw (.methodLink RX10 188 yX10_isWord) := ⟨List.mem_of_getElem? (i := 1118) (by decide +kernel), by decide +kernel⟩
theorem w_1120 : xw (.instanceMethod yX10_isWord) := ⟨List.mem_of_getElem? (i := 1120) (by decide +kernel), by decide +kernel⟩
theorem w_1121 : xw (.code yX10_isWord cX10_isWord 2 (some .boolean)) := ⟨List.mem_of_getElem? (i := 1121) (by decide +kernel), by decide +kernel⟩
theorem w_1122 : xw (.methodLink RX10 184 yX10_wrong) := ⟨List.mem_of_getElem? (i := 1122) (by decide +kernel), by decide +kernel⟩
theorem w_1124 : xw (.instanceMethod yX10_wrong) := ⟨List.mem_of_getElem? (i := 1124) (by decide +kernel), by decide +kernel⟩
theorem w_1125 : xw (.code yX10_wrong cX10_wrong 2 none) := ⟨List.mem_of_getElem? (i := 1125) (by decide +kernel), by decide +kernel⟩
theorem w_1126 : xw (.constantLong RX10 209 (5)) := ⟨List.mem_of_getElem? (i := 1126) (by decide +kernel), by decide +kernel⟩
theorem w_1127 : xw (.methodLink RX10 211 yX10_takeWord) := ⟨List.mem_of_getElem? (i := 1127) (by decide +kernel), by decide +kernel⟩
theorem w_1129 : xw (.instanceMethod yX10_takeWord) := ⟨List.mem_of_getElem? (i := 1129) (by decide +kernel), by decide +kernel⟩
theorem w_1130 : xw (.code yX10_takeWord cX10_takeWord 2 none) := ⟨List.mem_of_getElem? (i := 1130) (by decide +kernel), by decide +kernel⟩
theorem w_1131 : xw (.methodLink RX10 191 yX10_hasWord) := ⟨List.mem_of_getElem? (i := 1131) (by decide +kernel), by decide +kernel⟩
theorem w_1133 : xw (.instanceMethod yX10_hasWord) := ⟨List.mem_of_getElem? (i := 1133) (by decide +kernel), by decide +kernel⟩
theorem w_1134 : xw (.code yX10_hasWord cX10_hasWord 3 (some .boolean)) := ⟨List.mem_of_getElem? (i := 1134) (by decide +kernel), by decide +kernel⟩
theorem w_1135 : xw (.methodLink RX10 217 yX10_opens) := ⟨List.mem_of_getElem? (i := 1135) (by decide +kernel), by decide +kernel⟩
theorem w_1137 : xw (.instanceMethod yX10_opens) := ⟨List.mem_of_getElem? (i := 1137) (by decide +kernel), by decide +kernel⟩
theorem w_1138 : xw (.code yX10_opens cX10_opens 1 none) := ⟨List.mem_of_getElem? (i := 1138) (by decide +kernel), by decide +kernel⟩
theorem w_1139 : xw (.methodLink RX10 220 yX10_part) := ⟨List.mem_of_getElem? (i := 1139) (by decide +kernel), by decide +kernel⟩
theorem w_1141 : xw (.instanceMethod yX10_part) := ⟨List.mem_of_getElem? (i := 1141) (by decide +kernel), by decide +kernel⟩
theorem w_1142 : xw (.code yX10_part cX10_part 2 (some .boolean)) := ⟨List.mem_of_getElem? (i := 1142) (by decide +kernel), by decide +kernel⟩
theorem w_1143 : xw (.methodLink RX10 234 yX10_partWord) := ⟨List.mem_of_getElem? (i := 1143) (by decide +kernel), by decide +kernel⟩
theorem w_1145 : xw (.instanceMethod yX10_partWord) := ⟨List.mem_of_getElem? (i := 1145) (by decide +kernel), by decide +kernel⟩
theorem w_1146 : xw (.code yX10_partWord cX10_partWord 2 (some .int)) := ⟨List.mem_of_getElem? (i := 1146) (by decide +kernel), by decide +kernel⟩
theorem w_1147 : xw (.methodLink RX10 181 yX10_isSign) := ⟨List.mem_of_getElem? (i := 1147) (by decide +kernel), by decide +kernel⟩
theorem w_1149 : xw (.instanceMethod yX10_isSign) := ⟨List.mem_of_getElem? (i := 1149) (by decide +kernel), by decide +kernel⟩
theorem w_1150 : xw (.code yX10_isSign cX10_isSign 2 (some .boolean)) := ⟨List.mem_of_getElem? (i := 1150) (by decide +kernel), by decide +kernel⟩
theorem w_1151 : xw (.methodLink RX10 238 yX10_hasSign) := ⟨List.mem_of_getElem? (i := 1151) (by decide +kernel), by decide +kernel⟩
theorem w_1153 : xw (.instanceMethod yX10_hasSign) := ⟨List.mem_of_getElem? (i := 1153) (by decide +kernel), by decide +kernel⟩
theorem w_1154 : xw (.code yX10_hasSign cX10_hasSign 3 (some .boolean)) := ⟨List.mem_of_getElem? (i := 1154) (by decide +kernel), by decide +kernel⟩
theorem w_1155 : xw (.methodLink RX10 227 yX10_emit) := ⟨List.mem_of_getElem? (i := 1155) (by decide +kernel), by decide +kernel⟩
theorem w_1157 : xw (.instanceMethod yX10_emit) := ⟨List.mem_of_getElem? (i := 1157) (by decide +kernel), by decide +kernel⟩
theorem w_1158 : xw (.code yX10_emit cX10_emit 3 none) := ⟨List.mem_of_getElem? (i := 1158) (by decide +kernel), by decide +kernel⟩
theorem w_1159 : xw (.methodLink RX10 224 yX10_goesOnBehind) := ⟨List.mem_of_getElem? (i := 1159) (by decide +kernel), by decide +kernel⟩
theorem w_1161 : xw (.instanceMethod yX10_goesOnBehind) := ⟨List.mem_of_getElem? (i := 1161) (by decide +kernel), by decide +kernel⟩
theorem w_1162 : xw (.code yX10_goesOnBehind cX10_goesOnBehind 1 (some .boolean)) := ⟨List.mem_of_getElem? (i := 1162) (by decide +kernel), by decide +kernel⟩
theorem w_1163 : xw (.methodLink RX10 231 yX10_takeSign) := ⟨List.mem_of_getElem? (i := 1163) (by decide +kernel), by decide +kernel⟩
theorem w_1165 : xw (.instanceMethod yX10_takeSign) := ⟨List.mem_of_getElem? (i := 1165) (by decide +kernel), by decide +kernel⟩
theorem w_1166 : xw (.code yX10_takeSign cX10_takeSign 2 none) := ⟨List.mem_of_getElem? (i := 1166) (by decide +kernel), by decide +kernel⟩
theorem w_1167 : xw (.methodLink RL 26 yX10_years) := ⟨List.mem_of_getElem? (i := 1167) (by decide +kernel), by decide +kernel⟩
theorem w_1168 : xw (.instanceMethod yX10_years) := ⟨List.mem_of_getElem? (i := 1168) (by decide +kernel), by decide +kernel⟩
theorem w_1169 : xw (.selects RX10 yX10_years yX10_years) := ⟨List.mem_of_getElem? (i := 1169) (by decide +kernel), by decide +kernel⟩
theorem w_1170 : xw (.code yX10_years cX10_years 2 (some .int)) := ⟨List.mem_of_getElem? (i := 1170) (by decide +kernel), by decide +kernel⟩
theorem w_1171 : xw (.methodLink RL 31 yX10_fact) := ⟨List.mem_of_getElem? (i := 1171) (by decide +kernel), by decide +kernel⟩
theorem w_1172 : xw (.instanceMethod yX10_fact) := ⟨List.mem_of_getElem? (i := 1172) (by decide +kernel), by decide +kernel⟩
theorem w_1173 : xw (.selects RX10 yX10_fact yX10_fact) := ⟨List.mem_of_getElem? (i := 1173) (by decide +kernel), by decide +kernel⟩
theorem w_1174 : xw (.code yX10_fact cX10_fact 4 (some .int)) := ⟨List.mem_of_getElem? (i := 1174) (by decide +kernel), by decide +kernel⟩
theorem w_1175 : xw (.methodLink RX10 244 yX10_isPlace) := ⟨List.mem_of_getElem? (i := 1175) (by decide +kernel), by decide +kernel⟩
theorem w_1176 : xw (.static yX10_isPlace) := ⟨List.mem_of_getElem? (i := 1176) (by decide +kernel), by decide +kernel⟩
theorem w_1177 : xw (.code yX10_isPlace cX10_isPlace 1 (some .boolean)) := ⟨List.mem_of_getElem? (i := 1177) (by decide +kernel), by decide +kernel⟩
theorem w_1178 : xw (.methodLink RX10 247 yX10_isValue) := ⟨List.mem_of_getElem? (i := 1178) (by decide +kernel), by decide +kernel⟩
theorem w_1179 : xw (.static yX10_isValue) := ⟨List.mem_of_getElem? (i := 1179) (by decide +kernel), by decide +kernel⟩
theorem w_1180 : xw (.code yX10_isValue cX10_isValue 1 (some .boolean)) := ⟨List.mem_of_getElem? (i := 1180) (by decide +kernel), by decide +kernel⟩
theorem w_1181 : xw (.methodLink RL 36 yX10_line_) := ⟨List.mem_of_getElem? (i := 1181) (by decide +kernel), by decide +kernel⟩
theorem w_1182 : xw (.instanceMethod yX10_line_) := ⟨List.mem_of_getElem? (i := 1182) (by decide +kernel), by decide +kernel⟩
theorem w_1183 : xw (.selects RX10 yX10_line_ yX10_line_) := ⟨List.mem_of_getElem? (i := 1183) (by decide +kernel), by decide +kernel⟩
theorem w_1184 : xw (.code yX10_line_ cX10_line_ 4 (some .boolean)) := ⟨List.mem_of_getElem? (i := 1184) (by decide +kernel), by decide +kernel⟩
theorem w_1185 : xw (.methodLink RX10 253 yX10_isFact) := ⟨List.mem_of_getElem? (i := 1185) (by decide +kernel), by decide +kernel⟩
theorem w_1187 : xw (.instanceMethod yX10_isFact) := ⟨List.mem_of_getElem? (i := 1187) (by decide +kernel), by decide +kernel⟩
theorem w_1188 : xw (.code yX10_isFact cX10_isFact 2 (some .boolean)) := ⟨List.mem_of_getElem? (i := 1188) (by decide +kernel), by decide +kernel⟩
theorem w_1189 : xw (.methodLink RL 44 yX10_rate) := ⟨List.mem_of_getElem? (i := 1189) (by decide +kernel), by decide +kernel⟩
theorem w_1190 : xw (.instanceMethod yX10_rate) := ⟨List.mem_of_getElem? (i := 1190) (by decide +kernel), by decide +kernel⟩
theorem w_1191 : xw (.selects RX10 yX10_rate yX10_rate) := ⟨List.mem_of_getElem? (i := 1191) (by decide +kernel), by decide +kernel⟩
theorem w_1192 : xw (.code yX10_rate cX10_rate 2 (some .int)) := ⟨List.mem_of_getElem? (i := 1192) (by decide +kernel), by decide +kernel⟩
theorem w_1193 : xw (.methodLink RX10 258 yX10_rateOf) := ⟨List.mem_of_getElem? (i := 1193) (by decide +kernel), by decide +kernel⟩
theorem w_1195 : xw (.instanceMethod yX10_rateOf) := ⟨List.mem_of_getElem? (i := 1195) (by decide +kernel), by decide +kernel⟩
theorem w_1196 : xw (.code yX10_rateOf cX10_rateOf 3 (some .int)) := ⟨List.mem_of_getElem? (i := 1196) (by decide +kernel), by decide +kernel⟩
theorem w_1197 : xw (.constantLong RX10 256 (1000000)) := ⟨List.mem_of_getElem? (i := 1197) (by decide +kernel), by decide +kernel⟩
theorem w_1198 : xw (.methodLink RL 48 yX10_chance) := ⟨List.mem_of_getElem? (i := 1198) (by decide +kernel), by decide +kernel⟩
theorem w_1199 : xw (.instanceMethod yX10_chance) := ⟨List.mem_of_getElem? (i := 1199) (by decide +kernel), by decide +kernel⟩
theorem w_12 : xw (.selects RX2 yX2_doubtOf yX2_doubtOf) := ⟨List.mem_of_getElem? (i := 12) (by decide +kernel), by decide +kernel⟩
theorem w_1200 : xw (.selects RX10 yX10_chance yX10_chance) := ⟨List.mem_of_getElem? (i := 1200) (by decide +kernel), by decide +kernel⟩
theorem w_1201 : xw (.code yX10_chance cX10_chance 2 (some .int)) := ⟨List.mem_of_getElem? (i := 1201) (by decide +kernel), by decide +kernel⟩
theorem w_1202 : xw (.methodLink RX10 261 yX10_chanceOf) := ⟨List.mem_of_getElem? (i := 1202) (by decide +kernel), by decide +kernel⟩
theorem w_1204 : xw (.instanceMethod yX10_chanceOf) := ⟨List.mem_of_getElem? (i := 1204) (by decide +kernel), by decide +kernel⟩
theorem w_1205 : xw (.code yX10_chanceOf cX10_chanceOf 5 (some .int)) := ⟨List.mem_of_getElem? (i := 1205) (by decide +kernel), by decide +kernel⟩
theorem w_1206 : xw (.methodLink RL 40 yX10_check) := ⟨List.mem_of_getElem? (i := 1206) (by decide +kernel), by decide +kernel⟩
theorem w_1207 : xw (.instanceMethod yX10_check) := ⟨List.mem_of_getElem? (i := 1207) (by decide +kernel), by decide +kernel⟩
theorem w_1208 : xw (.selects RX10 yX10_check yX10_check) := ⟨List.mem_of_getElem? (i := 1208) (by decide +kernel), by decide +kernel⟩
theorem w_1209 : xw (.code yX10_check cX10_check 5 (some .int)) := ⟨List.mem_of_getElem? (i := 1209) (by decide +kernel), by decide +kernel⟩
theorem w_1210 : xw (.methodLink RX10 267 yX10_proves) := ⟨List.mem_of_getElem? (i := 1210) (by decide +kernel), by decide +kernel⟩
theorem w_1212 : xw (.instanceMethod yX10_proves) := ⟨List.mem_of_getElem? (i := 1212) (by decide +kernel), by decide +kernel⟩
theorem w_1213 : xw (.code yX10_proves cX10_proves 5 none) := ⟨List.mem_of_getElem? (i := 1213) (by decide +kernel), by decide +kernel⟩
theorem w_1214 : xw (.methodLink RL 53 yX10_takes) := ⟨List.mem_of_getElem? (i := 1214) (by decide +kernel), by decide +kernel⟩
theorem w_1215 : xw (.instanceMethod yX10_takes) := ⟨List.mem_of_getElem? (i := 1215) (by decide +kernel), by decide +kernel⟩
theorem w_1216 : xw (.selects RX10 yX10_takes yX10_takes) := ⟨List.mem_of_getElem? (i := 1216) (by decide +kernel), by decide +kernel⟩
theorem w_1217 : xw (.code yX10_takes cX10_takes 3 (some .boolean)) := ⟨List.mem_of_getElem? (i := 1217) (by decide +kernel), by decide +kernel⟩
theorem w_1218 : xw (.methodLink RL 57 yX10_plan) := ⟨List.mem_of_getElem? (i := 1218) (by decide +kernel), by decide +kernel⟩
theorem w_1219 : xw (.instanceMethod yX10_plan) := ⟨List.mem_of_getElem? (i := 1219) (by decide +kernel), by decide +kernel⟩
theorem w_1220 : xw (.selects RX10 yX10_plan yX10_plan) := ⟨List.mem_of_getElem? (i := 1220) (by decide +kernel), by decide +kernel⟩
theorem w_1221 : xw (.code yX10_plan cX10_plan 6 (some .int)) := ⟨List.mem_of_getElem? (i := 1221) (by decide +kernel), by decide +kernel⟩
theorem w_1222 : xw (.constant RX10 270 (1000000)) := ⟨List.mem_of_getElem? (i := 1222) (by decide +kernel), by decide +kernel⟩
theorem w_1223 : xw (.methodLink RX10 271 yX10_doubtOf) := ⟨List.mem_of_getElem? (i := 1223) (by decide +kernel), by decide +kernel⟩
theorem w_1225 : xw (.instanceMethod yX10_doubtOf) := ⟨List.mem_of_getElem? (i := 1225) (by decide +kernel), by decide +kernel⟩
theorem w_1226 : xw (.code yX10_doubtOf cX10_doubtOf 5 (some .long)) := ⟨List.mem_of_getElem? (i := 1226) (by decide +kernel), by decide +kernel⟩
theorem w_1227 : xw (.methodLink RX10 275 yX10_daysOf) := ⟨List.mem_of_getElem? (i := 1227) (by decide +kernel), by decide +kernel⟩
theorem w_1229 : xw (.instanceMethod yX10_daysOf) := ⟨List.mem_of_getElem? (i := 1229) (by decide +kernel), by decide +kernel⟩
theorem w_1230 : xw (.code yX10_daysOf cX10_daysOf 4 (some .int)) := ⟨List.mem_of_getElem? (i := 1230) (by decide +kernel), by decide +kernel⟩
theorem w_1231 : xw (.constantLong RX10 278 (1000)) := ⟨List.mem_of_getElem? (i := 1231) (by decide +kernel), by decide +kernel⟩
theorem w_1232 : xw (.methodLink RL 61 yX10_letter) := ⟨List.mem_of_getElem? (i := 1232) (by decide +kernel), by decide +kernel⟩
theorem w_1233 : xw (.instanceMethod yX10_letter) := ⟨List.mem_of_getElem? (i := 1233) (by decide +kernel), by decide +kernel⟩
theorem w_1234 : xw (.selects RX10 yX10_letter yX10_letter) := ⟨List.mem_of_getElem? (i := 1234) (by decide +kernel), by decide +kernel⟩
theorem w_1235 : xw (.code yX10_letter cX10_letter 4 (some .int)) := ⟨List.mem_of_getElem? (i := 1235) (by decide +kernel), by decide +kernel⟩
theorem w_1236 : xw (.methodLink RL 65 yX10_weight) := ⟨List.mem_of_getElem? (i := 1236) (by decide +kernel), by decide +kernel⟩
theorem w_1237 : xw (.instanceMethod yX10_weight) := ⟨List.mem_of_getElem? (i := 1237) (by decide +kernel), by decide +kernel⟩
theorem w_1238 : xw (.selects RX10 yX10_weight yX10_weight) := ⟨List.mem_of_getElem? (i := 1238) (by decide +kernel), by decide +kernel⟩
theorem w_1239 : xw (.code yX10_weight cX10_weight 2 (some .int)) := ⟨List.mem_of_getElem? (i := 1239) (by decide +kernel), by decide +kernel⟩
theorem w_1240 : xw (.methodLink RX10 280 yX10_weightOf) := ⟨List.mem_of_getElem? (i := 1240) (by decide +kernel), by decide +kernel⟩
theorem w_1242 : xw (.instanceMethod yX10_weightOf) := ⟨List.mem_of_getElem? (i := 1242) (by decide +kernel), by decide +kernel⟩
theorem w_1243 : xw (.code yX10_weightOf cX10_weightOf 5 (some .int)) := ⟨List.mem_of_getElem? (i := 1243) (by decide +kernel), by decide +kernel⟩
theorem w_1244 : xw (.methodLink RL 69 yX10_believed) := ⟨List.mem_of_getElem? (i := 1244) (by decide +kernel), by decide +kernel⟩
theorem w_1245 : xw (.instanceMethod yX10_believed) := ⟨List.mem_of_getElem? (i := 1245) (by decide +kernel), by decide +kernel⟩
theorem w_1246 : xw (.selects RX10 yX10_believed yX10_believed) := ⟨List.mem_of_getElem? (i := 1246) (by decide +kernel), by decide +kernel⟩
theorem w_1247 : xw (.code yX10_believed cX10_believed 2 (some .int)) := ⟨List.mem_of_getElem? (i := 1247) (by decide +kernel), by decide +kernel⟩
theorem w_1248 : xw (.methodLink RX10 291 yX10_believes) := ⟨List.mem_of_getElem? (i := 1248) (by decide +kernel), by decide +kernel⟩
theorem w_1250 : xw (.instanceMethod yX10_believes) := ⟨List.mem_of_getElem? (i := 1250) (by decide +kernel), by decide +kernel⟩
theorem w_1251 : xw (.code yX10_believes cX10_believes 6 (some .int)) := ⟨List.mem_of_getElem? (i := 1251) (by decide +kernel), by decide +kernel⟩
theorem w_1252 : xw (.methodLink RX10 283 yX10_isOpen) := ⟨List.mem_of_getElem? (i := 1252) (by decide +kernel), by decide +kernel⟩
theorem w_1254 : xw (.instanceMethod yX10_isOpen) := ⟨List.mem_of_getElem? (i := 1254) (by decide +kernel), by decide +kernel⟩
theorem w_1255 : xw (.code yX10_isOpen cX10_isOpen 3 (some .boolean)) := ⟨List.mem_of_getElem? (i := 1255) (by decide +kernel), by decide +kernel⟩
theorem w_1256 : xw (.methodLink RX10 287 yX10_heard) := ⟨List.mem_of_getElem? (i := 1256) (by decide +kernel), by decide +kernel⟩
theorem w_1258 : xw (.instanceMethod yX10_heard) := ⟨List.mem_of_getElem? (i := 1258) (by decide +kernel), by decide +kernel⟩
theorem w_1259 : xw (.code yX10_heard cX10_heard 7 (some .int)) := ⟨List.mem_of_getElem? (i := 1259) (by decide +kernel), by decide +kernel⟩
theorem w_1260 : xw (.methodLink RL 73 yX10_quarrel) := ⟨List.mem_of_getElem? (i := 1260) (by decide +kernel), by decide +kernel⟩
theorem w_1261 : xw (.instanceMethod yX10_quarrel) := ⟨List.mem_of_getElem? (i := 1261) (by decide +kernel), by decide +kernel⟩
theorem w_1262 : xw (.selects RX10 yX10_quarrel yX10_quarrel) := ⟨List.mem_of_getElem? (i := 1262) (by decide +kernel), by decide +kernel⟩
theorem w_1263 : xw (.code yX10_quarrel cX10_quarrel 5 (some .int)) := ⟨List.mem_of_getElem? (i := 1263) (by decide +kernel), by decide +kernel⟩
theorem w_1264 : xw (.methodLink RL 77 yX10_proof) := ⟨List.mem_of_getElem? (i := 1264) (by decide +kernel), by decide +kernel⟩
theorem w_1265 : xw (.instanceMethod yX10_proof) := ⟨List.mem_of_getElem? (i := 1265) (by decide +kernel), by decide +kernel⟩
theorem w_1266 : xw (.selects RX10 yX10_proof yX10_proof) := ⟨List.mem_of_getElem? (i := 1266) (by decide +kernel), by decide +kernel⟩
theorem w_1267 : xw (.code yX10_proof cX10_proof 2 (some .int)) := ⟨List.mem_of_getElem? (i := 1267) (by decide +kernel), by decide +kernel⟩
theorem w_1268 : xw (.methodLink RL 81 yX10_mark) := ⟨List.mem_of_getElem? (i := 1268) (by decide +kernel), by decide +kernel⟩
theorem w_1269 : xw (.instanceMethod yX10_mark) := ⟨List.mem_of_getElem? (i := 1269) (by decide +kernel), by decide +kernel⟩
theorem w_1270 : xw (.selects RX10 yX10_mark yX10_mark) := ⟨List.mem_of_getElem? (i := 1270) (by decide +kernel), by decide +kernel⟩
theorem w_1271 : xw (.code yX10_mark cX10_mark 4 (some .boolean)) := ⟨List.mem_of_getElem? (i := 1271) (by decide +kernel), by decide +kernel⟩
theorem w_1272 : xw (.methodLink RL 87 yX10_shift) := ⟨List.mem_of_getElem? (i := 1272) (by decide +kernel), by decide +kernel⟩
theorem w_1273 : xw (.instanceMethod yX10_shift) := ⟨List.mem_of_getElem? (i := 1273) (by decide +kernel), by decide +kernel⟩
theorem w_1274 : xw (.selects RX10 yX10_shift yX10_shift) := ⟨List.mem_of_getElem? (i := 1274) (by decide +kernel), by decide +kernel⟩
theorem w_1275 : xw (.code yX10_shift cX10_shift 2 (some .int)) := ⟨List.mem_of_getElem? (i := 1275) (by decide +kernel), by decide +kernel⟩
theorem w_1276 : xw (.methodLink RX10 294 yX10_shiftOf) := ⟨List.mem_of_getElem? (i := 1276) (by decide +kernel), by decide +kernel⟩
theorem w_1278 : xw (.instanceMethod yX10_shiftOf) := ⟨List.mem_of_getElem? (i := 1278) (by decide +kernel), by decide +kernel⟩
theorem w_1279 : xw (.code yX10_shiftOf cX10_shiftOf 5 (some .int)) := ⟨List.mem_of_getElem? (i := 1279) (by decide +kernel), by decide +kernel⟩
theorem w_1280 : xw (.methodLink RL 96 yX10_paid) := ⟨List.mem_of_getElem? (i := 1280) (by decide +kernel), by decide +kernel⟩
theorem w_1281 : xw (.instanceMethod yX10_paid) := ⟨List.mem_of_getElem? (i := 1281) (by decide +kernel), by decide +kernel⟩
theorem w_1282 : xw (.selects RX10 yX10_paid yX10_paid) := ⟨List.mem_of_getElem? (i := 1282) (by decide +kernel), by decide +kernel⟩
theorem w_1283 : xw (.code yX10_paid cX10_paid 3 (some .boolean)) := ⟨List.mem_of_getElem? (i := 1283) (by decide +kernel), by decide +kernel⟩
theorem w_1284 : xw (.methodLink RL 111 yX10_stars) := ⟨List.mem_of_getElem? (i := 1284) (by decide +kernel), by decide +kernel⟩
theorem w_1285 : xw (.instanceMethod yX10_stars) := ⟨List.mem_of_getElem? (i := 1285) (by decide +kernel), by decide +kernel⟩
theorem w_1286 : xw (.selects RX10 yX10_stars yX10_stars) := ⟨List.mem_of_getElem? (i := 1286) (by decide +kernel), by decide +kernel⟩
theorem w_1287 : xw (.code yX10_stars cX10_stars 2 (some .int)) := ⟨List.mem_of_getElem? (i := 1287) (by decide +kernel), by decide +kernel⟩
theorem w_1288 : xw (.methodLink RX10 300 yX10_starsOf) := ⟨List.mem_of_getElem? (i := 1288) (by decide +kernel), by decide +kernel⟩
theorem w_1290 : xw (.instanceMethod yX10_starsOf) := ⟨List.mem_of_getElem? (i := 1290) (by decide +kernel), by decide +kernel⟩
theorem w_1291 : xw (.code yX10_starsOf cX10_starsOf 8 (some .int)) := ⟨List.mem_of_getElem? (i := 1291) (by decide +kernel), by decide +kernel⟩
theorem w_1292 : xw (.methodLink RX10 297 yX10_worth) := ⟨List.mem_of_getElem? (i := 1292) (by decide +kernel), by decide +kernel⟩
theorem w_1294 : xw (.instanceMethod yX10_worth) := ⟨List.mem_of_getElem? (i := 1294) (by decide +kernel), by decide +kernel⟩
theorem w_1295 : xw (.code yX10_worth cX10_worth 7 (some .int)) := ⟨List.mem_of_getElem? (i := 1295) (by decide +kernel), by decide +kernel⟩
theorem w_1296 : xw (.methodLink RL 115 yX10_number) := ⟨List.mem_of_getElem? (i := 1296) (by decide +kernel), by decide +kernel⟩
theorem w_1297 : xw (.instanceMethod yX10_number) := ⟨List.mem_of_getElem? (i := 1297) (by decide +kernel), by decide +kernel⟩
theorem w_1298 : xw (.selects RX10 yX10_number yX10_number) := ⟨List.mem_of_getElem? (i := 1298) (by decide +kernel), by decide +kernel⟩
theorem w_1299 : xw (.code yX10_number cX10_number 7 (some .int)) := ⟨List.mem_of_getElem? (i := 1299) (by decide +kernel), by decide +kernel⟩
theorem w_13 : xw (.selects RX0 yX0_offer yX0_offer) := ⟨List.mem_of_getElem? (i := 13) (by decide +kernel), by decide +kernel⟩
theorem w_1300 : xw (.methodLink RX10 309 yX10_laysOut) := ⟨List.mem_of_getElem? (i := 1300) (by decide +kernel), by decide +kernel⟩
theorem w_1302 : xw (.instanceMethod yX10_laysOut) := ⟨List.mem_of_getElem? (i := 1302) (by decide +kernel), by decide +kernel⟩
theorem w_1303 : xw (.code yX10_laysOut cX10_laysOut 5 none) := ⟨List.mem_of_getElem? (i := 1303) (by decide +kernel), by decide +kernel⟩
theorem w_1304 : xw (.methodLink RX10 306 yX10_isWith) := ⟨List.mem_of_getElem? (i := 1304) (by decide +kernel), by decide +kernel⟩
theorem w_1306 : xw (.instanceMethod yX10_isWith) := ⟨List.mem_of_getElem? (i := 1306) (by decide +kernel), by decide +kernel⟩
theorem w_1307 : xw (.code yX10_isWith cX10_isWith 8 (some .boolean)) := ⟨List.mem_of_getElem? (i := 1307) (by decide +kernel), by decide +kernel⟩
theorem w_1308 : xw (.methodLink RL 119 yX10_edition) := ⟨List.mem_of_getElem? (i := 1308) (by decide +kernel), by decide +kernel⟩
theorem w_1309 : xw (.instanceMethod yX10_edition) := ⟨List.mem_of_getElem? (i := 1309) (by decide +kernel), by decide +kernel⟩
theorem w_1310 : xw (.selects RX10 yX10_edition yX10_edition) := ⟨List.mem_of_getElem? (i := 1310) (by decide +kernel), by decide +kernel⟩
theorem w_1311 : xw (.code yX10_edition cX10_edition 2 (some .int)) := ⟨List.mem_of_getElem? (i := 1311) (by decide +kernel), by decide +kernel⟩
theorem w_1312 : xw (.methodLink RL 123 yX10_printed) := ⟨List.mem_of_getElem? (i := 1312) (by decide +kernel), by decide +kernel⟩
theorem w_1313 : xw (.instanceMethod yX10_printed) := ⟨List.mem_of_getElem? (i := 1313) (by decide +kernel), by decide +kernel⟩
theorem w_1314 : xw (.selects RX10 yX10_printed yX10_printed) := ⟨List.mem_of_getElem? (i := 1314) (by decide +kernel), by decide +kernel⟩
theorem w_1315 : xw (.code yX10_printed cX10_printed 4 (some .int)) := ⟨List.mem_of_getElem? (i := 1315) (by decide +kernel), by decide +kernel⟩
theorem w_1316 : xw (.methodLink RL 127 yX10_errors) := ⟨List.mem_of_getElem? (i := 1316) (by decide +kernel), by decide +kernel⟩
theorem w_1317 : xw (.instanceMethod yX10_errors) := ⟨List.mem_of_getElem? (i := 1317) (by decide +kernel), by decide +kernel⟩
theorem w_1318 : xw (.selects RX10 yX10_errors yX10_errors) := ⟨List.mem_of_getElem? (i := 1318) (by decide +kernel), by decide +kernel⟩
theorem w_1319 : xw (.code yX10_errors cX10_errors 5 (some .int)) := ⟨List.mem_of_getElem? (i := 1319) (by decide +kernel), by decide +kernel⟩
theorem w_1320 : xw (.methodLink RL 131 yX10_count) := ⟨List.mem_of_getElem? (i := 1320) (by decide +kernel), by decide +kernel⟩
theorem w_1321 : xw (.instanceMethod yX10_count) := ⟨List.mem_of_getElem? (i := 1321) (by decide +kernel), by decide +kernel⟩
theorem w_1322 : xw (.selects RX10 yX10_count yX10_count) := ⟨List.mem_of_getElem? (i := 1322) (by decide +kernel), by decide +kernel⟩
theorem w_1323 : xw (.code yX10_count cX10_count 4 (some .int)) := ⟨List.mem_of_getElem? (i := 1323) (by decide +kernel), by decide +kernel⟩
theorem w_1324 : xw (.methodLink RL 135 yX10_look) := ⟨List.mem_of_getElem? (i := 1324) (by decide +kernel), by decide +kernel⟩
theorem w_1325 : xw (.instanceMethod yX10_look) := ⟨List.mem_of_getElem? (i := 1325) (by decide +kernel), by decide +kernel⟩
theorem w_1326 : xw (.selects RX10 yX10_look yX10_look) := ⟨List.mem_of_getElem? (i := 1326) (by decide +kernel), by decide +kernel⟩
theorem w_1327 : xw (.code yX10_look cX10_look 3 (some .int)) := ⟨List.mem_of_getElem? (i := 1327) (by decide +kernel), by decide +kernel⟩
theorem w_1328 : xw (.constantLong RL 97 (4294967295)) := ⟨List.mem_of_getElem? (i := 1328) (by decide +kernel), by decide +kernel⟩
theorem w_1344 : xw (.fieldLink RJ0 9 "java/lang/String" "value" "[B") := ⟨List.mem_of_getElem? (i := 1344) (by decide +kernel), by decide +kernel⟩
theorem w_1345 : xw (.fieldLink RJ0 15 "java/lang/String" "coder" "B") := ⟨List.mem_of_getElem? (i := 1345) (by decide +kernel), by decide +kernel⟩
theorem w_14 : xw (.selects RX0 yX0_picked yX0_picked) := ⟨List.mem_of_getElem? (i := 14) (by decide +kernel), by decide +kernel⟩
theorem w_15 : xw (.selects RX9 yX9_doubtOfSet yX9_doubtOfSet) := ⟨List.mem_of_getElem? (i := 15) (by decide +kernel), by decide +kernel⟩
theorem w_16 : xw (.selects RX3 yX3_add yX3_add) := ⟨List.mem_of_getElem? (i := 16) (by decide +kernel), by decide +kernel⟩
theorem w_17 : xw (.selects RX3 yX3_weightOf yX3_weightOf) := ⟨List.mem_of_getElem? (i := 17) (by decide +kernel), by decide +kernel⟩
theorem w_18 : xw (.selects RX9 yX9_beliefOf yX9_beliefOf) := ⟨List.mem_of_getElem? (i := 18) (by decide +kernel), by decide +kernel⟩
theorem w_19 : xw (.selects RX3 yX3_weightFor yX3_weightFor) := ⟨List.mem_of_getElem? (i := 19) (by decide +kernel), by decide +kernel⟩
theorem w_2 : xw (.selects RX3 yX3_settle yX3_settle) := ⟨List.mem_of_getElem? (i := 2) (by decide +kernel), by decide +kernel⟩
theorem w_20 : xw (.selects RX3 yX3_differOn yX3_differOn) := ⟨List.mem_of_getElem? (i := 20) (by decide +kernel), by decide +kernel⟩
theorem w_21 : xw (.selects RX3 yX3_has yX3_has) := ⟨List.mem_of_getElem? (i := 21) (by decide +kernel), by decide +kernel⟩
theorem w_22 : xw (.selects RX7 yX7_appendBytes yX7_appendBytes) := ⟨List.mem_of_getElem? (i := 22) (by decide +kernel), by decide +kernel⟩
theorem w_23 : xw (.selects RX7 yX7_append yX7_append) := ⟨List.mem_of_getElem? (i := 23) (by decide +kernel), by decide +kernel⟩
theorem w_24 : xw (.selects RX5 yX5_parse yX5_parse) := ⟨List.mem_of_getElem? (i := 24) (by decide +kernel), by decide +kernel⟩
theorem w_25 : xw (.selects RX8 yX8_scan yX8_scan) := ⟨List.mem_of_getElem? (i := 25) (by decide +kernel), by decide +kernel⟩
theorem w_26 : xw (.selects RX7 yX7_isLetter yX7_isLetter) := ⟨List.mem_of_getElem? (i := 26) (by decide +kernel), by decide +kernel⟩
theorem w_27 : xw (.selects RX7 yX7_isDigit yX7_isDigit) := ⟨List.mem_of_getElem? (i := 27) (by decide +kernel), by decide +kernel⟩
theorem w_28 : xw (.selects RX7 yX7_isBlank yX7_isBlank) := ⟨List.mem_of_getElem? (i := 28) (by decide +kernel), by decide +kernel⟩
theorem w_29 : xw (.selects RX8 yX8_addFrom yX8_addFrom) := ⟨List.mem_of_getElem? (i := 29) (by decide +kernel), by decide +kernel⟩
theorem w_3 : xw (.selects RX3 yX3_isOpenOn yX3_isOpenOn) := ⟨List.mem_of_getElem? (i := 3) (by decide +kernel), by decide +kernel⟩
theorem w_30 : xw (.selects RX7 yX7_endOfLetters yX7_endOfLetters) := ⟨List.mem_of_getElem? (i := 30) (by decide +kernel), by decide +kernel⟩
theorem w_31 : xw (.selects RX7 yX7_spells yX7_spells) := ⟨List.mem_of_getElem? (i := 31) (by decide +kernel), by decide +kernel⟩
theorem w_32 : xw (.selects RX8 yX8_add yX8_add) := ⟨List.mem_of_getElem? (i := 32) (by decide +kernel), by decide +kernel⟩
theorem w_33 : xw (.selects RX7 yX7_endOfDigits yX7_endOfDigits) := ⟨List.mem_of_getElem? (i := 33) (by decide +kernel), by decide +kernel⟩
theorem w_34 : xw (.selects RX8 yX8_addNumber yX8_addNumber) := ⟨List.mem_of_getElem? (i := 34) (by decide +kernel), by decide +kernel⟩
theorem w_35 : xw (.selects RX6 yX6_clear yX6_clear) := ⟨List.mem_of_getElem? (i := 35) (by decide +kernel), by decide +kernel⟩
theorem w_36 : xw (.selects RX5 yX5_token yX5_token) := ⟨List.mem_of_getElem? (i := 36) (by decide +kernel), by decide +kernel⟩
theorem w_37 : xw (.selects RX5 yX5_parseLine yX5_parseLine) := ⟨List.mem_of_getElem? (i := 37) (by decide +kernel), by decide +kernel⟩
theorem w_38 : xw (.selects RX5 yX5_refuse yX5_refuse) := ⟨List.mem_of_getElem? (i := 38) (by decide +kernel), by decide +kernel⟩
theorem w_384 : xw (.methodLink RL 23 yX9_years) := ⟨List.mem_of_getElem? (i := 384) (by decide +kernel), by decide +kernel⟩
theorem w_385 : xw (.instanceMethod yX9_years) := ⟨List.mem_of_getElem? (i := 385) (by decide +kernel), by decide +kernel⟩
theorem w_386 : xw (.selects RX9 yX9_years yX9_years) := ⟨List.mem_of_getElem? (i := 386) (by decide +kernel), by decide +kernel⟩
theorem w_387 : xw (.code yX9_years cX9_years 2 (some .int)) := ⟨List.mem_of_getElem? (i := 387) (by decide +kernel), by decide +kernel⟩
theorem w_388 : xw (.methodLink RX9 82 yX9_within) := ⟨List.mem_of_getElem? (i := 388) (by decide +kernel), by decide +kernel⟩
theorem w_389 : xw (.static yX9_within) := ⟨List.mem_of_getElem? (i := 389) (by decide +kernel), by decide +kernel⟩
theorem w_39 : xw (.selects RX5 yX5_pass yX5_pass) := ⟨List.mem_of_getElem? (i := 39) (by decide +kernel), by decide +kernel⟩
theorem w_390 : xw (.code yX9_within cX9_within 2 (some .boolean)) := ⟨List.mem_of_getElem? (i := 390) (by decide +kernel), by decide +kernel⟩
theorem w_391 : xw (.methodLink RL 27 yX9_fact) := ⟨List.mem_of_getElem? (i := 391) (by decide +kernel), by decide +kernel⟩
theorem w_392 : xw (.instanceMethod yX9_fact) := ⟨List.mem_of_getElem? (i := 392) (by decide +kernel), by decide +kernel⟩
theorem w_393 : xw (.selects RX9 yX9_fact yX9_fact) := ⟨List.mem_of_getElem? (i := 393) (by decide +kernel), by decide +kernel⟩
theorem w_394 : xw (.code yX9_fact cX9_fact 5 (some .int)) := ⟨List.mem_of_getElem? (i := 394) (by decide +kernel), by decide +kernel⟩
theorem w_395 : xw (.methodLink RX9 90 yX9_isKind) := ⟨List.mem_of_getElem? (i := 395) (by decide +kernel), by decide +kernel⟩
theorem w_396 : xw (.static yX9_isKind) := ⟨List.mem_of_getElem? (i := 396) (by decide +kernel), by decide +kernel⟩
theorem w_397 : xw (.code yX9_isKind cX9_isKind 1 (some .boolean)) := ⟨List.mem_of_getElem? (i := 397) (by decide +kernel), by decide +kernel⟩
theorem w_398 : xw (.methodLink RX9 94 yX9_isPlace) := ⟨List.mem_of_getElem? (i := 398) (by decide +kernel), by decide +kernel⟩
theorem w_399 : xw (.static yX9_isPlace) := ⟨List.mem_of_getElem? (i := 399) (by decide +kernel), by decide +kernel⟩
theorem w_4 : xw (.selects RX3 yX3_close yX3_close) := ⟨List.mem_of_getElem? (i := 4) (by decide +kernel), by decide +kernel⟩
theorem w_40 : xw (.selects RX5 yX5_parseJoined yX5_parseJoined) := ⟨List.mem_of_getElem? (i := 40) (by decide +kernel), by decide +kernel⟩
theorem w_400 : xw (.code yX9_isPlace cX9_isPlace 1 (some .boolean)) := ⟨List.mem_of_getElem? (i := 400) (by decide +kernel), by decide +kernel⟩
theorem w_401 : xw (.methodLink RX9 97 yX9_isValue) := ⟨List.mem_of_getElem? (i := 401) (by decide +kernel), by decide +kernel⟩
theorem w_402 : xw (.static yX9_isValue) := ⟨List.mem_of_getElem? (i := 402) (by decide +kernel), by decide +kernel⟩
theorem w_403 : xw (.code yX9_isValue cX9_isValue 1 (some .boolean)) := ⟨List.mem_of_getElem? (i := 403) (by decide +kernel), by decide +kernel⟩
theorem w_404 : xw (.methodLinkNest RX9 103 yX2_add "GuideBook") := ⟨List.mem_of_getElem? (i := 404) (by decide +kernel), by decide +kernel⟩
theorem w_406 : xw (.instanceMethod yX2_add) := ⟨List.mem_of_getElem? (i := 406) (by decide +kernel), by decide +kernel⟩
theorem w_407 : xw (.code yX2_add cX2_add 5 (some .int)) := ⟨List.mem_of_getElem? (i := 407) (by decide +kernel), by decide +kernel⟩
theorem w_408 : xw (.methodLink RL 32 yX9_line) := ⟨List.mem_of_getElem? (i := 408) (by decide +kernel), by decide +kernel⟩
theorem w_409 : xw (.instanceMethod yX9_line) := ⟨List.mem_of_getElem? (i := 409) (by decide +kernel), by decide +kernel⟩
theorem w_41 : xw (.selects RX5 yX5_parsePart yX5_parsePart) := ⟨List.mem_of_getElem? (i := 41) (by decide +kernel), by decide +kernel⟩
theorem w_410 : xw (.selects RX9 yX9_line yX9_line) := ⟨List.mem_of_getElem? (i := 410) (by decide +kernel), by decide +kernel⟩
theorem w_411 : xw (.code yX9_line cX9_line 4 (some .boolean)) := ⟨List.mem_of_getElem? (i := 411) (by decide +kernel), by decide +kernel⟩
theorem w_412 : xw (.methodLinkNest RX9 107 yX2_has "GuideBook") := ⟨List.mem_of_getElem? (i := 412) (by decide +kernel), by decide +kernel⟩
theorem w_414 : xw (.instanceMethod yX2_has) := ⟨List.mem_of_getElem? (i := 414) (by decide +kernel), by decide +kernel⟩
theorem w_415 : xw (.code yX2_has cX2_has 2 (some .boolean)) := ⟨List.mem_of_getElem? (i := 415) (by decide +kernel), by decide +kernel⟩
theorem w_416 : xw (.methodLink RL 37 yX9_check) := ⟨List.mem_of_getElem? (i := 416) (by decide +kernel), by decide +kernel⟩
theorem w_417 : xw (.instanceMethod yX9_check) := ⟨List.mem_of_getElem? (i := 417) (by decide +kernel), by decide +kernel⟩
theorem w_418 : xw (.selects RX9 yX9_check yX9_check) := ⟨List.mem_of_getElem? (i := 418) (by decide +kernel), by decide +kernel⟩
theorem w_419 : xw (.code yX9_check cX9_check 3 (some .int)) := ⟨List.mem_of_getElem? (i := 419) (by decide +kernel), by decide +kernel⟩
theorem w_42 : xw (.selects RX6 yX6_add yX6_add) := ⟨List.mem_of_getElem? (i := 42) (by decide +kernel), by decide +kernel⟩
theorem w_420 : xw (.methodLinkNest RX9 116 yX3_settle "GuideBook") := ⟨List.mem_of_getElem? (i := 420) (by decide +kernel), by decide +kernel⟩
theorem w_422 : xw (.instanceMethod yX3_settle) := ⟨List.mem_of_getElem? (i := 422) (by decide +kernel), by decide +kernel⟩
theorem w_423 : xw (.code yX3_settle cX3_settle 4 none) := ⟨List.mem_of_getElem? (i := 423) (by decide +kernel), by decide +kernel⟩
theorem w_424 : xw (.methodLink RX3 37 yX3_isOpenOn) := ⟨List.mem_of_getElem? (i := 424) (by decide +kernel), by decide +kernel⟩
theorem w_426 : xw (.instanceMethod yX3_isOpenOn) := ⟨List.mem_of_getElem? (i := 426) (by decide +kernel), by decide +kernel⟩
theorem w_427 : xw (.code yX3_isOpenOn cX3_isOpenOn 3 (some .boolean)) := ⟨List.mem_of_getElem? (i := 427) (by decide +kernel), by decide +kernel⟩
theorem w_428 : xw (.methodLink RX3 41 yX3_close) := ⟨List.mem_of_getElem? (i := 428) (by decide +kernel), by decide +kernel⟩
theorem w_43 : xw (.selects RX6 yX6_endLine yX6_endLine) := ⟨List.mem_of_getElem? (i := 43) (by decide +kernel), by decide +kernel⟩
theorem w_430 : xw (.instanceMethod yX3_close) := ⟨List.mem_of_getElem? (i := 430) (by decide +kernel), by decide +kernel⟩
theorem w_431 : xw (.code yX3_close cX3_close 4 none) := ⟨List.mem_of_getElem? (i := 431) (by decide +kernel), by decide +kernel⟩
theorem w_432 : xw (.methodLinkNest RX9 120 yX1_settle "GuideBook") := ⟨List.mem_of_getElem? (i := 432) (by decide +kernel), by decide +kernel⟩
theorem w_434 : xw (.instanceMethod yX1_settle) := ⟨List.mem_of_getElem? (i := 434) (by decide +kernel), by decide +kernel⟩
theorem w_435 : xw (.code yX1_settle cX1_settle 5 none) := ⟨List.mem_of_getElem? (i := 435) (by decide +kernel), by decide +kernel⟩
theorem w_436 : xw (.methodLink RX1 30 yX1_hasFact) := ⟨List.mem_of_getElem? (i := 436) (by decide +kernel), by decide +kernel⟩
theorem w_438 : xw (.instanceMethod yX1_hasFact) := ⟨List.mem_of_getElem? (i := 438) (by decide +kernel), by decide +kernel⟩
theorem w_439 : xw (.code yX1_hasFact cX1_hasFact 3 (some .boolean)) := ⟨List.mem_of_getElem? (i := 439) (by decide +kernel), by decide +kernel⟩
theorem w_44 : xw (.selects RX6 yX6_copy yX6_copy) := ⟨List.mem_of_getElem? (i := 44) (by decide +kernel), by decide +kernel⟩
theorem w_440 : xw (.methodLinkNest RX9 121 yX2_renew "GuideBook") := ⟨List.mem_of_getElem? (i := 440) (by decide +kernel), by decide +kernel⟩
theorem w_442 : xw (.instanceMethod yX2_renew) := ⟨List.mem_of_getElem? (i := 442) (by decide +kernel), by decide +kernel⟩
theorem w_443 : xw (.code yX2_renew cX2_renew 4 (some .boolean)) := ⟨List.mem_of_getElem? (i := 443) (by decide +kernel), by decide +kernel⟩
theorem w_444 : xw (.methodLink RL 41 yX9_rate) := ⟨List.mem_of_getElem? (i := 444) (by decide +kernel), by decide +kernel⟩
theorem w_445 : xw (.instanceMethod yX9_rate) := ⟨List.mem_of_getElem? (i := 445) (by decide +kernel), by decide +kernel⟩
theorem w_446 : xw (.selects RX9 yX9_rate yX9_rate) := ⟨List.mem_of_getElem? (i := 446) (by decide +kernel), by decide +kernel⟩
theorem w_447 : xw (.code yX9_rate cX9_rate 2 (some .int)) := ⟨List.mem_of_getElem? (i := 447) (by decide +kernel), by decide +kernel⟩
theorem w_448 : xw (.methodLinkNest RX9 124 yX2_rateOf "GuideBook") := ⟨List.mem_of_getElem? (i := 448) (by decide +kernel), by decide +kernel⟩
theorem w_45 : xw (.selects RX9 yX9_starsOf yX9_starsOf) := ⟨List.mem_of_getElem? (i := 45) (by decide +kernel), by decide +kernel⟩
theorem w_450 : xw (.instanceMethod yX2_rateOf) := ⟨List.mem_of_getElem? (i := 450) (by decide +kernel), by decide +kernel⟩
theorem w_451 : xw (.code yX2_rateOf cX2_rateOf 4 (some .int)) := ⟨List.mem_of_getElem? (i := 451) (by decide +kernel), by decide +kernel⟩
theorem w_455 : xw (.constantLong RX2 49 (1000000)) := ⟨List.mem_of_getElem? (i := 455) (by decide +kernel), by decide +kernel⟩
theorem w_456 : xw (.methodLinkNest RX2 51 yX9_cut "GuideBook") := ⟨List.mem_of_getElem? (i := 456) (by decide +kernel), by decide +kernel⟩
theorem w_457 : xw (.static yX9_cut) := ⟨List.mem_of_getElem? (i := 457) (by decide +kernel), by decide +kernel⟩
theorem w_458 : xw (.code yX9_cut cX9_cut 3 (some .int)) := ⟨List.mem_of_getElem? (i := 458) (by decide +kernel), by decide +kernel⟩
theorem w_459 : xw (.methodLink RL 45 yX9_chance) := ⟨List.mem_of_getElem? (i := 459) (by decide +kernel), by decide +kernel⟩
theorem w_46 : xw (.selects RX4 yX4_describe yX4_describe) := ⟨List.mem_of_getElem? (i := 46) (by decide +kernel), by decide +kernel⟩
theorem w_460 : xw (.instanceMethod yX9_chance) := ⟨List.mem_of_getElem? (i := 460) (by decide +kernel), by decide +kernel⟩
theorem w_461 : xw (.selects RX9 yX9_chance yX9_chance) := ⟨List.mem_of_getElem? (i := 461) (by decide +kernel), by decide +kernel⟩
theorem w_462 : xw (.code yX9_chance cX9_chance 2 (some .int)) := ⟨List.mem_of_getElem? (i := 462) (by decide +kernel), by decide +kernel⟩
theorem w_463 : xw (.methodLinkNest RX9 128 yX2_chanceOf "GuideBook") := ⟨List.mem_of_getElem? (i := 463) (by decide +kernel), by decide +kernel⟩
theorem w_465 : xw (.instanceMethod yX2_chanceOf) := ⟨List.mem_of_getElem? (i := 465) (by decide +kernel), by decide +kernel⟩
theorem w_466 : xw (.code yX2_chanceOf cX2_chanceOf 7 (some .int)) := ⟨List.mem_of_getElem? (i := 466) (by decide +kernel), by decide +kernel⟩
theorem w_467 : xw (.methodLink RX2 55 yX2_rateOf) := ⟨List.mem_of_getElem? (i := 467) (by decide +kernel), by decide +kernel⟩
theorem w_468 : xw (.methodLink RL 49 yX9_takes) := ⟨List.mem_of_getElem? (i := 468) (by decide +kernel), by decide +kernel⟩
theorem w_469 : xw (.instanceMethod yX9_takes) := ⟨List.mem_of_getElem? (i := 469) (by decide +kernel), by decide +kernel⟩
theorem w_47 : xw (.selects RX4 yX4_onScale yX4_onScale) := ⟨List.mem_of_getElem? (i := 47) (by decide +kernel), by decide +kernel⟩
theorem w_470 : xw (.selects RX9 yX9_takes yX9_takes) := ⟨List.mem_of_getElem? (i := 470) (by decide +kernel), by decide +kernel⟩
theorem w_471 : xw (.code yX9_takes cX9_takes 3 (some .boolean)) := ⟨List.mem_of_getElem? (i := 471) (by decide +kernel), by decide +kernel⟩
theorem w_472 : xw (.methodLink RL 54 yX9_plan) := ⟨List.mem_of_getElem? (i := 472) (by decide +kernel), by decide +kernel⟩
theorem w_473 : xw (.instanceMethod yX9_plan) := ⟨List.mem_of_getElem? (i := 473) (by decide +kernel), by decide +kernel⟩
theorem w_474 : xw (.selects RX9 yX9_plan yX9_plan) := ⟨List.mem_of_getElem? (i := 474) (by decide +kernel), by decide +kernel⟩
theorem w_475 : xw (.code yX9_plan cX9_plan 5 (some .int)) := ⟨List.mem_of_getElem? (i := 475) (by decide +kernel), by decide +kernel⟩
theorem w_476 : xw (.methodLink RX9 131 yX9_placesFor) := ⟨List.mem_of_getElem? (i := 476) (by decide +kernel), by decide +kernel⟩
theorem w_478 : xw (.instanceMethod yX9_placesFor) := ⟨List.mem_of_getElem? (i := 478) (by decide +kernel), by decide +kernel⟩
theorem w_479 : xw (.code yX9_placesFor cX9_placesFor 3 (some .long)) := ⟨List.mem_of_getElem? (i := 479) (by decide +kernel), by decide +kernel⟩
theorem w_48 : xw (.selects RX4 yX4_shiftOf yX4_shiftOf) := ⟨List.mem_of_getElem? (i := 48) (by decide +kernel), by decide +kernel⟩
theorem w_480 : xw (.methodLinkNest RX9 245 yX0_open "GuideBook") := ⟨List.mem_of_getElem? (i := 480) (by decide +kernel), by decide +kernel⟩
theorem w_482 : xw (.instanceMethod yX0_open) := ⟨List.mem_of_getElem? (i := 482) (by decide +kernel), by decide +kernel⟩
theorem w_483 : xw (.code yX0_open cX0_open 2 none) := ⟨List.mem_of_getElem? (i := 483) (by decide +kernel), by decide +kernel⟩
theorem w_484 : xw (.methodLink RX0 22 yJ7_fill_d0a16) := ⟨List.mem_of_getElem? (i := 484) (by decide +kernel), by decide +kernel⟩
theorem w_485 : xw (.static yJ7_fill_d0a16) := ⟨List.mem_of_getElem? (i := 485) (by decide +kernel), by decide +kernel⟩
theorem w_486 : xw (.code yJ7_fill_d0a16 cJ7_fill_d0a16 5 none) := ⟨List.mem_of_getElem? (i := 486) (by decide +kernel), by decide +kernel⟩
theorem w_487 : xw (.methodLinkNest RX9 248 yX2_doubtOf "GuideBook") := ⟨List.mem_of_getElem? (i := 487) (by decide +kernel), by decide +kernel⟩
theorem w_489 : xw (.instanceMethod yX2_doubtOf) := ⟨List.mem_of_getElem? (i := 489) (by decide +kernel), by decide +kernel⟩
theorem w_49 : xw (.selects RX2 yX2_countOf yX2_countOf) := ⟨List.mem_of_getElem? (i := 49) (by decide +kernel), by decide +kernel⟩
theorem w_490 : xw (.code yX2_doubtOf cX2_doubtOf 4 (some .int)) := ⟨List.mem_of_getElem? (i := 490) (by decide +kernel), by decide +kernel⟩
theorem w_491 : xw (.constant RX2 59 (1000000)) := ⟨List.mem_of_getElem? (i := 491) (by decide +kernel), by decide +kernel⟩
theorem w_492 : xw (.methodLink RX2 60 yX2_chanceOf) := ⟨List.mem_of_getElem? (i := 492) (by decide +kernel), by decide +kernel⟩
theorem w_493 : xw (.methodLinkNest RX9 251 yX0_offer "GuideBook") := ⟨List.mem_of_getElem? (i := 493) (by decide +kernel), by decide +kernel⟩
theorem w_495 : xw (.instanceMethod yX0_offer) := ⟨List.mem_of_getElem? (i := 495) (by decide +kernel), by decide +kernel⟩
theorem w_496 : xw (.code yX0_offer cX0_offer 10 none) := ⟨List.mem_of_getElem? (i := 496) (by decide +kernel), by decide +kernel⟩
theorem w_497 : xw (.constantLong RX0 28 (1000)) := ⟨List.mem_of_getElem? (i := 497) (by decide +kernel), by decide +kernel⟩
theorem w_498 : xw (.methodLinkNest RX9 255 yX0_picked "GuideBook") := ⟨List.mem_of_getElem? (i := 498) (by decide +kernel), by decide +kernel⟩
theorem w_5 : xw (.selects RX1 yX1_settle yX1_settle) := ⟨List.mem_of_getElem? (i := 5) (by decide +kernel), by decide +kernel⟩
theorem w_50 : xw (.selects RX6 yX6_starsFor yX6_starsFor) := ⟨List.mem_of_getElem? (i := 50) (by decide +kernel), by decide +kernel⟩
theorem w_500 : xw (.instanceMethod yX0_picked) := ⟨List.mem_of_getElem? (i := 500) (by decide +kernel), by decide +kernel⟩
theorem w_501 : xw (.code yX0_picked cX0_picked 1 (some .long)) := ⟨List.mem_of_getElem? (i := 501) (by decide +kernel), by decide +kernel⟩
theorem w_502 : xw (.methodLink RX9 135 yX9_doubtOfSet) := ⟨List.mem_of_getElem? (i := 502) (by decide +kernel), by decide +kernel⟩
theorem w_504 : xw (.instanceMethod yX9_doubtOfSet) := ⟨List.mem_of_getElem? (i := 504) (by decide +kernel), by decide +kernel⟩
theorem w_505 : xw (.code yX9_doubtOfSet cX9_doubtOfSet 5 (some .int)) := ⟨List.mem_of_getElem? (i := 505) (by decide +kernel), by decide +kernel⟩
theorem w_506 : xw (.methodLink RL 58 yX9_letter) := ⟨List.mem_of_getElem? (i := 506) (by decide +kernel), by decide +kernel⟩
theorem w_507 : xw (.instanceMethod yX9_letter) := ⟨List.mem_of_getElem? (i := 507) (by decide +kernel), by decide +kernel⟩
theorem w_508 : xw (.selects RX9 yX9_letter yX9_letter) := ⟨List.mem_of_getElem? (i := 508) (by decide +kernel), by decide +kernel⟩
theorem w_509 : xw (.code yX9_letter cX9_letter 5 (some .int)) := ⟨List.mem_of_getElem? (i := 509) (by decide +kernel), by decide +kernel⟩
theorem w_51 : xw (.selects RX6 yX6_valueOf yX6_valueOf) := ⟨List.mem_of_getElem? (i := 51) (by decide +kernel), by decide +kernel⟩
theorem w_510 : xw (.methodLink RX9 139 yX9_isReader) := ⟨List.mem_of_getElem? (i := 510) (by decide +kernel), by decide +kernel⟩
theorem w_511 : xw (.static yX9_isReader) := ⟨List.mem_of_getElem? (i := 511) (by decide +kernel), by decide +kernel⟩
theorem w_512 : xw (.code yX9_isReader cX9_isReader 1 (some .boolean)) := ⟨List.mem_of_getElem? (i := 512) (by decide +kernel), by decide +kernel⟩
theorem w_513 : xw (.methodLinkNest RX9 143 yX3_add "GuideBook") := ⟨List.mem_of_getElem? (i := 513) (by decide +kernel), by decide +kernel⟩
theorem w_515 : xw (.instanceMethod yX3_add) := ⟨List.mem_of_getElem? (i := 515) (by decide +kernel), by decide +kernel⟩
theorem w_516 : xw (.code yX3_add cX3_add 5 (some .int)) := ⟨List.mem_of_getElem? (i := 516) (by decide +kernel), by decide +kernel⟩
theorem w_517 : xw (.methodLink RL 62 yX9_weight) := ⟨List.mem_of_getElem? (i := 517) (by decide +kernel), by decide +kernel⟩
theorem w_518 : xw (.instanceMethod yX9_weight) := ⟨List.mem_of_getElem? (i := 518) (by decide +kernel), by decide +kernel⟩
theorem w_519 : xw (.selects RX9 yX9_weight yX9_weight) := ⟨List.mem_of_getElem? (i := 519) (by decide +kernel), by decide +kernel⟩
theorem w_52 : xw (.selects RX9 yX9_linesKept yX9_linesKept) := ⟨List.mem_of_getElem? (i := 52) (by decide +kernel), by decide +kernel⟩
theorem w_520 : xw (.code yX9_weight cX9_weight 2 (some .int)) := ⟨List.mem_of_getElem? (i := 520) (by decide +kernel), by decide +kernel⟩
theorem w_521 : xw (.methodLinkNest RX9 144 yX3_weightOf "GuideBook") := ⟨List.mem_of_getElem? (i := 521) (by decide +kernel), by decide +kernel⟩
theorem w_523 : xw (.instanceMethod yX3_weightOf) := ⟨List.mem_of_getElem? (i := 523) (by decide +kernel), by decide +kernel⟩
theorem w_524 : xw (.code yX3_weightOf cX3_weightOf 2 (some .int)) := ⟨List.mem_of_getElem? (i := 524) (by decide +kernel), by decide +kernel⟩
theorem w_525 : xw (.methodLinkNest RX3 45 yX9_cut "GuideBook") := ⟨List.mem_of_getElem? (i := 525) (by decide +kernel), by decide +kernel⟩
theorem w_526 : xw (.methodLink RL 66 yX9_believed) := ⟨List.mem_of_getElem? (i := 526) (by decide +kernel), by decide +kernel⟩
theorem w_527 : xw (.instanceMethod yX9_believed) := ⟨List.mem_of_getElem? (i := 527) (by decide +kernel), by decide +kernel⟩
theorem w_528 : xw (.selects RX9 yX9_believed yX9_believed) := ⟨List.mem_of_getElem? (i := 528) (by decide +kernel), by decide +kernel⟩
theorem w_529 : xw (.code yX9_believed cX9_believed 2 (some .int)) := ⟨List.mem_of_getElem? (i := 529) (by decide +kernel), by decide +kernel⟩
theorem w_53 : xw (.selects RX1 yX1_start yX1_start) := ⟨List.mem_of_getElem? (i := 53) (by decide +kernel), by decide +kernel⟩
theorem w_530 : xw (.methodLink RX9 147 yX9_beliefOf) := ⟨List.mem_of_getElem? (i := 530) (by decide +kernel), by decide +kernel⟩
theorem w_532 : xw (.instanceMethod yX9_beliefOf) := ⟨List.mem_of_getElem? (i := 532) (by decide +kernel), by decide +kernel⟩
theorem w_533 : xw (.code yX9_beliefOf cX9_beliefOf 9 (some .int)) := ⟨List.mem_of_getElem? (i := 533) (by decide +kernel), by decide +kernel⟩
theorem w_534 : xw (.methodLinkNest RX9 259 yX3_weightFor "GuideBook") := ⟨List.mem_of_getElem? (i := 534) (by decide +kernel), by decide +kernel⟩
theorem w_536 : xw (.instanceMethod yX3_weightFor) := ⟨List.mem_of_getElem? (i := 536) (by decide +kernel), by decide +kernel⟩
theorem w_537 : xw (.code yX3_weightFor cX3_weightFor 8 (some .int)) := ⟨List.mem_of_getElem? (i := 537) (by decide +kernel), by decide +kernel⟩
theorem w_538 : xw (.methodLink RX3 49 yX3_weightOf) := ⟨List.mem_of_getElem? (i := 538) (by decide +kernel), by decide +kernel⟩
theorem w_539 : xw (.methodLinkNest RX9 266 yX3_isOpenOn "GuideBook") := ⟨List.mem_of_getElem? (i := 539) (by decide +kernel), by decide +kernel⟩
theorem w_54 : xw (.selects RX1 yX1_has yX1_has) := ⟨List.mem_of_getElem? (i := 54) (by decide +kernel), by decide +kernel⟩
theorem w_540 : xw (.methodLink RL 70 yX9_quarrel) := ⟨List.mem_of_getElem? (i := 540) (by decide +kernel), by decide +kernel⟩
theorem w_541 : xw (.instanceMethod yX9_quarrel) := ⟨List.mem_of_getElem? (i := 541) (by decide +kernel), by decide +kernel⟩
theorem w_542 : xw (.selects RX9 yX9_quarrel yX9_quarrel) := ⟨List.mem_of_getElem? (i := 542) (by decide +kernel), by decide +kernel⟩
theorem w_543 : xw (.code yX9_quarrel cX9_quarrel 2 (some .int)) := ⟨List.mem_of_getElem? (i := 543) (by decide +kernel), by decide +kernel⟩
theorem w_544 : xw (.methodLinkNest RX9 150 yX3_differOn "GuideBook") := ⟨List.mem_of_getElem? (i := 544) (by decide +kernel), by decide +kernel⟩
theorem w_546 : xw (.instanceMethod yX3_differOn) := ⟨List.mem_of_getElem? (i := 546) (by decide +kernel), by decide +kernel⟩
theorem w_547 : xw (.code yX3_differOn cX3_differOn 4 (some .boolean)) := ⟨List.mem_of_getElem? (i := 547) (by decide +kernel), by decide +kernel⟩
theorem w_548 : xw (.methodLink RL 74 yX9_proof) := ⟨List.mem_of_getElem? (i := 548) (by decide +kernel), by decide +kernel⟩
theorem w_549 : xw (.instanceMethod yX9_proof) := ⟨List.mem_of_getElem? (i := 549) (by decide +kernel), by decide +kernel⟩
theorem w_550 : xw (.selects RX9 yX9_proof yX9_proof) := ⟨List.mem_of_getElem? (i := 550) (by decide +kernel), by decide +kernel⟩
theorem w_551 : xw (.code yX9_proof cX9_proof 2 (some .int)) := ⟨List.mem_of_getElem? (i := 551) (by decide +kernel), by decide +kernel⟩
theorem w_552 : xw (.methodLinkNest RX9 153 yX3_has "GuideBook") := ⟨List.mem_of_getElem? (i := 552) (by decide +kernel), by decide +kernel⟩
theorem w_554 : xw (.instanceMethod yX3_has) := ⟨List.mem_of_getElem? (i := 554) (by decide +kernel), by decide +kernel⟩
theorem w_555 : xw (.code yX3_has cX3_has 2 (some .boolean)) := ⟨List.mem_of_getElem? (i := 555) (by decide +kernel), by decide +kernel⟩
theorem w_556 : xw (.methodLink RL 78 yX9_mark) := ⟨List.mem_of_getElem? (i := 556) (by decide +kernel), by decide +kernel⟩
theorem w_557 : xw (.instanceMethod yX9_mark) := ⟨List.mem_of_getElem? (i := 557) (by decide +kernel), by decide +kernel⟩
theorem w_558 : xw (.selects RX9 yX9_mark yX9_mark) := ⟨List.mem_of_getElem? (i := 558) (by decide +kernel), by decide +kernel⟩
theorem w_559 : xw (.code yX9_mark cX9_mark 4 (some .boolean)) := ⟨List.mem_of_getElem? (i := 559) (by decide +kernel), by decide +kernel⟩
theorem w_56 : xw (.selects RX10 yX10_lay yX10_lay) := ⟨List.mem_of_getElem? (i := 56) (by decide +kernel), by decide +kernel⟩
theorem w_560 : xw (.methodLink RX9 157 yX9_isWalker) := ⟨List.mem_of_getElem? (i := 560) (by decide +kernel), by decide +kernel⟩
theorem w_561 : xw (.static yX9_isWalker) := ⟨List.mem_of_getElem? (i := 561) (by decide +kernel), by decide +kernel⟩
theorem w_562 : xw (.code yX9_isWalker cX9_isWalker 1 (some .boolean)) := ⟨List.mem_of_getElem? (i := 562) (by decide +kernel), by decide +kernel⟩
theorem w_563 : xw (.methodLink RL 92 yX9_paid) := ⟨List.mem_of_getElem? (i := 563) (by decide +kernel), by decide +kernel⟩
theorem w_564 : xw (.instanceMethod yX9_paid) := ⟨List.mem_of_getElem? (i := 564) (by decide +kernel), by decide +kernel⟩
theorem w_565 : xw (.selects RX9 yX9_paid yX9_paid) := ⟨List.mem_of_getElem? (i := 565) (by decide +kernel), by decide +kernel⟩
theorem w_566 : xw (.code yX9_paid cX9_paid 3 (some .boolean)) := ⟨List.mem_of_getElem? (i := 566) (by decide +kernel), by decide +kernel⟩
theorem w_567 : xw (.methodLink RL 99 yX9_feed) := ⟨List.mem_of_getElem? (i := 567) (by decide +kernel), by decide +kernel⟩
theorem w_568 : xw (.instanceMethod yX9_feed) := ⟨List.mem_of_getElem? (i := 568) (by decide +kernel), by decide +kernel⟩
theorem w_569 : xw (.selects RX9 yX9_feed yX9_feed) := ⟨List.mem_of_getElem? (i := 569) (by decide +kernel), by decide +kernel⟩
theorem w_57 : xw (.selects RX10 yX10_cutAll yX10_cutAll) := ⟨List.mem_of_getElem? (i := 57) (by decide +kernel), by decide +kernel⟩
theorem w_570 : xw (.code yX9_feed cX9_feed 7 (some .int)) := ⟨List.mem_of_getElem? (i := 570) (by decide +kernel), by decide +kernel⟩
theorem w_571 : xw (.methodLinkNest RX9 174 yX7_appendBytes "GuideBook") := ⟨List.mem_of_getElem? (i := 571) (by decide +kernel), by decide +kernel⟩
theorem w_573 : xw (.instanceMethod yX7_appendBytes) := ⟨List.mem_of_getElem? (i := 573) (by decide +kernel), by decide +kernel⟩
theorem w_574 : xw (.code yX7_appendBytes cX7_appendBytes 4 none) := ⟨List.mem_of_getElem? (i := 574) (by decide +kernel), by decide +kernel⟩
theorem w_575 : xw (.constantLong RX7 15 (255)) := ⟨List.mem_of_getElem? (i := 575) (by decide +kernel), by decide +kernel⟩
theorem w_576 : xw (.methodLink RX7 17 yX7_append) := ⟨List.mem_of_getElem? (i := 576) (by decide +kernel), by decide +kernel⟩
theorem w_578 : xw (.instanceMethod yX7_append) := ⟨List.mem_of_getElem? (i := 578) (by decide +kernel), by decide +kernel⟩
theorem w_579 : xw (.code yX7_append cX7_append 3 none) := ⟨List.mem_of_getElem? (i := 579) (by decide +kernel), by decide +kernel⟩
theorem w_58 : xw (.selects RX10 yX10_line yX10_line) := ⟨List.mem_of_getElem? (i := 58) (by decide +kernel), by decide +kernel⟩
theorem w_580 : xw (.methodLink RL 104 yX9_text) := ⟨List.mem_of_getElem? (i := 580) (by decide +kernel), by decide +kernel⟩
theorem w_581 : xw (.instanceMethod yX9_text) := ⟨List.mem_of_getElem? (i := 581) (by decide +kernel), by decide +kernel⟩
theorem w_582 : xw (.selects RX9 yX9_text yX9_text) := ⟨List.mem_of_getElem? (i := 582) (by decide +kernel), by decide +kernel⟩
theorem w_583 : xw (.code yX9_text cX9_text 2 (some .int)) := ⟨List.mem_of_getElem? (i := 583) (by decide +kernel), by decide +kernel⟩
theorem w_584 : xw (.methodLinkNest RX9 180 yX5_parse "GuideBook") := ⟨List.mem_of_getElem? (i := 584) (by decide +kernel), by decide +kernel⟩
theorem w_586 : xw (.instanceMethod yX5_parse) := ⟨List.mem_of_getElem? (i := 586) (by decide +kernel), by decide +kernel⟩
theorem w_587 : xw (.code yX5_parse cX5_parse 3 (some .int)) := ⟨List.mem_of_getElem? (i := 587) (by decide +kernel), by decide +kernel⟩
theorem w_588 : xw (.methodLinkNest RX5 25 yX8_scan "GuideBook") := ⟨List.mem_of_getElem? (i := 588) (by decide +kernel), by decide +kernel⟩
theorem w_59 : xw (.selects RX10 yX10_isWord yX10_isWord) := ⟨List.mem_of_getElem? (i := 59) (by decide +kernel), by decide +kernel⟩
theorem w_590 : xw (.instanceMethod yX8_scan) := ⟨List.mem_of_getElem? (i := 590) (by decide +kernel), by decide +kernel⟩
theorem w_591 : xw (.code yX8_scan cX8_scan 3 none) := ⟨List.mem_of_getElem? (i := 591) (by decide +kernel), by decide +kernel⟩
theorem w_592 : xw (.methodLink RX8 30 yX8_startsToken) := ⟨List.mem_of_getElem? (i := 592) (by decide +kernel), by decide +kernel⟩
theorem w_593 : xw (.static yX8_startsToken) := ⟨List.mem_of_getElem? (i := 593) (by decide +kernel), by decide +kernel⟩
theorem w_594 : xw (.code yX8_startsToken cX8_startsToken 3 (some .boolean)) := ⟨List.mem_of_getElem? (i := 594) (by decide +kernel), by decide +kernel⟩
theorem w_595 : xw (.methodLinkNest RX8 42 yX7_isLetter "GuideBook") := ⟨List.mem_of_getElem? (i := 595) (by decide +kernel), by decide +kernel⟩
theorem w_597 : xw (.instanceMethod yX7_isLetter) := ⟨List.mem_of_getElem? (i := 597) (by decide +kernel), by decide +kernel⟩
theorem w_598 : xw (.code yX7_isLetter cX7_isLetter 2 (some .boolean)) := ⟨List.mem_of_getElem? (i := 598) (by decide +kernel), by decide +kernel⟩
theorem w_599 : xw (.methodLinkNest RX7 25 yX9_within "GuideBook") := ⟨List.mem_of_getElem? (i := 599) (by decide +kernel), by decide +kernel⟩
theorem w_6 : xw (.selects RX1 yX1_hasFact yX1_hasFact) := ⟨List.mem_of_getElem? (i := 6) (by decide +kernel), by decide +kernel⟩
theorem w_60 : xw (.selects RX10 yX10_wrong yX10_wrong) := ⟨List.mem_of_getElem? (i := 60) (by decide +kernel), by decide +kernel⟩
theorem w_600 : xw (.methodLinkNest RX8 46 yX7_isDigit "GuideBook") := ⟨List.mem_of_getElem? (i := 600) (by decide +kernel), by decide +kernel⟩
theorem w_602 : xw (.instanceMethod yX7_isDigit) := ⟨List.mem_of_getElem? (i := 602) (by decide +kernel), by decide +kernel⟩
theorem w_603 : xw (.code yX7_isDigit cX7_isDigit 2 (some .boolean)) := ⟨List.mem_of_getElem? (i := 603) (by decide +kernel), by decide +kernel⟩
theorem w_604 : xw (.methodLinkNest RX8 49 yX7_isBlank "GuideBook") := ⟨List.mem_of_getElem? (i := 604) (by decide +kernel), by decide +kernel⟩
theorem w_606 : xw (.instanceMethod yX7_isBlank) := ⟨List.mem_of_getElem? (i := 606) (by decide +kernel), by decide +kernel⟩
theorem w_607 : xw (.code yX7_isBlank cX7_isBlank 2 (some .boolean)) := ⟨List.mem_of_getElem? (i := 607) (by decide +kernel), by decide +kernel⟩
theorem w_608 : xw (.methodLink RX8 34 yX8_addFrom) := ⟨List.mem_of_getElem? (i := 608) (by decide +kernel), by decide +kernel⟩
theorem w_61 : xw (.selects RX10 yX10_takeWord yX10_takeWord) := ⟨List.mem_of_getElem? (i := 61) (by decide +kernel), by decide +kernel⟩
theorem w_610 : xw (.instanceMethod yX8_addFrom) := ⟨List.mem_of_getElem? (i := 610) (by decide +kernel), by decide +kernel⟩
theorem w_611 : xw (.code yX8_addFrom cX8_addFrom 3 none) := ⟨List.mem_of_getElem? (i := 611) (by decide +kernel), by decide +kernel⟩
theorem w_612 : xw (.methodLinkNest RX8 52 yX7_endOfLetters "GuideBook") := ⟨List.mem_of_getElem? (i := 612) (by decide +kernel), by decide +kernel⟩
theorem w_614 : xw (.instanceMethod yX7_endOfLetters) := ⟨List.mem_of_getElem? (i := 614) (by decide +kernel), by decide +kernel⟩
theorem w_615 : xw (.code yX7_endOfLetters cX7_endOfLetters 3 (some .int)) := ⟨List.mem_of_getElem? (i := 615) (by decide +kernel), by decide +kernel⟩
theorem w_616 : xw (.methodLink RX7 29 yX7_isLetter) := ⟨List.mem_of_getElem? (i := 616) (by decide +kernel), by decide +kernel⟩
theorem w_617 : xw (.methodLink RX8 56 yX8_wordToken) := ⟨List.mem_of_getElem? (i := 617) (by decide +kernel), by decide +kernel⟩
theorem w_618 : xw (.static yX8_wordToken) := ⟨List.mem_of_getElem? (i := 618) (by decide +kernel), by decide +kernel⟩
theorem w_619 : xw (.code yX8_wordToken cX8_wordToken 3 (some .int)) := ⟨List.mem_of_getElem? (i := 619) (by decide +kernel), by decide +kernel⟩
theorem w_62 : xw (.selects RX10 yX10_hasWord yX10_hasWord) := ⟨List.mem_of_getElem? (i := 62) (by decide +kernel), by decide +kernel⟩
theorem w_621 : xw (.methodLinkNest RX8 76 yX7_spells "GuideBook") := ⟨List.mem_of_getElem? (i := 621) (by decide +kernel), by decide +kernel⟩
theorem w_623 : xw (.instanceMethod yX7_spells) := ⟨List.mem_of_getElem? (i := 623) (by decide +kernel), by decide +kernel⟩
theorem w_624 : xw (.code yX7_spells cX7_spells 5 (some .boolean)) := ⟨List.mem_of_getElem? (i := 624) (by decide +kernel), by decide +kernel⟩
theorem w_625 : xw (.methodLink RX7 36 yJ0_length_8abf5) := ⟨List.mem_of_getElem? (i := 625) (by decide +kernel), by decide +kernel⟩
theorem w_626 : xw (.instanceMethod yJ0_length_8abf5) := ⟨List.mem_of_getElem? (i := 626) (by decide +kernel), by decide +kernel⟩
theorem w_627 : xw (.selects RJ0 yJ0_length_8abf5 yJ0_length_8abf5) := ⟨List.mem_of_getElem? (i := 627) (by decide +kernel), by decide +kernel⟩
theorem w_628 : xw (.code yJ0_length_8abf5 cJ0_length_8abf5 1 (some .int)) := ⟨List.mem_of_getElem? (i := 628) (by decide +kernel), by decide +kernel⟩
theorem w_629 : xw (.methodLink RJ0 335 yJ0_coder_7d493) := ⟨List.mem_of_getElem? (i := 629) (by decide +kernel), by decide +kernel⟩
theorem w_63 : xw (.selects RX10 yX10_opens yX10_opens) := ⟨List.mem_of_getElem? (i := 63) (by decide +kernel), by decide +kernel⟩
theorem w_630 : xw (.instanceMethod yJ0_coder_7d493) := ⟨List.mem_of_getElem? (i := 630) (by decide +kernel), by decide +kernel⟩
theorem w_631 : xw (.selects RJ0 yJ0_coder_7d493 yJ0_coder_7d493) := ⟨List.mem_of_getElem? (i := 631) (by decide +kernel), by decide +kernel⟩
theorem w_632 : xw (.code yJ0_coder_7d493 cJ0_coder_7d493 1 (some .byte)) := ⟨List.mem_of_getElem? (i := 632) (by decide +kernel), by decide +kernel⟩
theorem w_633 : xw (.fieldLink RJ0 38 "java/lang/String" "COMPACT_STRINGS" "Z") := ⟨List.mem_of_getElem? (i := 633) (by decide +kernel), by decide +kernel⟩
theorem w_635 : xw (.methodLink RX7 41 yJ0_charAt_5068e) := ⟨List.mem_of_getElem? (i := 635) (by decide +kernel), by decide +kernel⟩
theorem w_636 : xw (.instanceMethod yJ0_charAt_5068e) := ⟨List.mem_of_getElem? (i := 636) (by decide +kernel), by decide +kernel⟩
theorem w_637 : xw (.selects RJ0 yJ0_charAt_5068e yJ0_charAt_5068e) := ⟨List.mem_of_getElem? (i := 637) (by decide +kernel), by decide +kernel⟩
theorem w_638 : xw (.code yJ0_charAt_5068e cJ0_charAt_5068e 2 (some .char)) := ⟨List.mem_of_getElem? (i := 638) (by decide +kernel), by decide +kernel⟩
theorem w_639 : xw (.methodLink RJ0 492 yJ0_isLatin1_aae02) := ⟨List.mem_of_getElem? (i := 639) (by decide +kernel), by decide +kernel⟩
theorem w_64 : xw (.selects RX10 yX10_part yX10_part) := ⟨List.mem_of_getElem? (i := 64) (by decide +kernel), by decide +kernel⟩
theorem w_640 : xw (.instanceMethod yJ0_isLatin1_aae02) := ⟨List.mem_of_getElem? (i := 640) (by decide +kernel), by decide +kernel⟩
theorem w_641 : xw (.selects RJ0 yJ0_isLatin1_aae02 yJ0_isLatin1_aae02) := ⟨List.mem_of_getElem? (i := 641) (by decide +kernel), by decide +kernel⟩
theorem w_642 : xw (.code yJ0_isLatin1_aae02 cJ0_isLatin1_aae02 1 (some .boolean)) := ⟨List.mem_of_getElem? (i := 642) (by decide +kernel), by decide +kernel⟩
theorem w_643 : xw (.methodLink RJ0 495 yJ1_charAt_3b067) := ⟨List.mem_of_getElem? (i := 643) (by decide +kernel), by decide +kernel⟩
theorem w_644 : xw (.static yJ1_charAt_3b067) := ⟨List.mem_of_getElem? (i := 644) (by decide +kernel), by decide +kernel⟩
theorem w_645 : xw (.code yJ1_charAt_3b067 cJ1_charAt_3b067 2 (some .char)) := ⟨List.mem_of_getElem? (i := 645) (by decide +kernel), by decide +kernel⟩
theorem w_646 : xw (.methodLink RJ1 9 yJ0_checkIndex_df160) := ⟨List.mem_of_getElem? (i := 646) (by decide +kernel), by decide +kernel⟩
theorem w_647 : xw (.static yJ0_checkIndex_df160) := ⟨List.mem_of_getElem? (i := 647) (by decide +kernel), by decide +kernel⟩
theorem w_648 : xw (.code yJ0_checkIndex_df160 cJ0_checkIndex_df160 2 none) := ⟨List.mem_of_getElem? (i := 648) (by decide +kernel), by decide +kernel⟩
theorem w_649 : xw (.fieldLink RJ0 1053 "jdk/internal/util/Preconditions" "SIOOBE_FORMATTER" "Ljava/util/function/BiFunction;") := ⟨List.mem_of_getElem? (i := 649) (by decide +kernel), by decide +kernel⟩
theorem w_65 : xw (.selects RX10 yX10_partWord yX10_partWord) := ⟨List.mem_of_getElem? (i := 65) (by decide +kernel), by decide +kernel⟩
theorem w_651 : xw (.methodLink RJ0 1059 yJ3_checkIndex_8e157) := ⟨List.mem_of_getElem? (i := 651) (by decide +kernel), by decide +kernel⟩
theorem w_652 : xw (.static yJ3_checkIndex_8e157) := ⟨List.mem_of_getElem? (i := 652) (by decide +kernel), by decide +kernel⟩
theorem w_653 : xw (.code yJ3_checkIndex_8e157 cJ3_checkIndex_8e157 3 (some .int)) := ⟨List.mem_of_getElem? (i := 653) (by decide +kernel), by decide +kernel⟩
theorem w_66 : xw (.selects RX10 yX10_isSign yX10_isSign) := ⟨List.mem_of_getElem? (i := 66) (by decide +kernel), by decide +kernel⟩
theorem w_67 : xw (.selects RX10 yX10_hasSign yX10_hasSign) := ⟨List.mem_of_getElem? (i := 67) (by decide +kernel), by decide +kernel⟩
theorem w_68 : xw (.selects RX10 yX10_emit yX10_emit) := ⟨List.mem_of_getElem? (i := 68) (by decide +kernel), by decide +kernel⟩
theorem w_681 : xw (.methodLink RX8 38 yX8_add) := ⟨List.mem_of_getElem? (i := 681) (by decide +kernel), by decide +kernel⟩
theorem w_683 : xw (.instanceMethod yX8_add) := ⟨List.mem_of_getElem? (i := 683) (by decide +kernel), by decide +kernel⟩
theorem w_684 : xw (.code yX8_add cX8_add 4 none) := ⟨List.mem_of_getElem? (i := 684) (by decide +kernel), by decide +kernel⟩
theorem w_685 : xw (.methodLinkNest RX8 60 yX7_endOfDigits "GuideBook") := ⟨List.mem_of_getElem? (i := 685) (by decide +kernel), by decide +kernel⟩
theorem w_687 : xw (.instanceMethod yX7_endOfDigits) := ⟨List.mem_of_getElem? (i := 687) (by decide +kernel), by decide +kernel⟩
theorem w_688 : xw (.code yX7_endOfDigits cX7_endOfDigits 3 (some .int)) := ⟨List.mem_of_getElem? (i := 688) (by decide +kernel), by decide +kernel⟩
theorem w_689 : xw (.methodLink RX7 33 yX7_isDigit) := ⟨List.mem_of_getElem? (i := 689) (by decide +kernel), by decide +kernel⟩
theorem w_69 : xw (.selects RX10 yX10_goesOnBehind yX10_goesOnBehind) := ⟨List.mem_of_getElem? (i := 69) (by decide +kernel), by decide +kernel⟩
theorem w_690 : xw (.methodLink RX8 63 yX8_addNumber) := ⟨List.mem_of_getElem? (i := 690) (by decide +kernel), by decide +kernel⟩
theorem w_692 : xw (.instanceMethod yX8_addNumber) := ⟨List.mem_of_getElem? (i := 692) (by decide +kernel), by decide +kernel⟩
theorem w_693 : xw (.code yX8_addNumber cX8_addNumber 6 none) := ⟨List.mem_of_getElem? (i := 693) (by decide +kernel), by decide +kernel⟩
theorem w_694 : xw (.methodLink RX8 71 yX8_signToken) := ⟨List.mem_of_getElem? (i := 694) (by decide +kernel), by decide +kernel⟩
theorem w_695 : xw (.static yX8_signToken) := ⟨List.mem_of_getElem? (i := 695) (by decide +kernel), by decide +kernel⟩
theorem w_696 : xw (.code yX8_signToken cX8_signToken 1 (some .int)) := ⟨List.mem_of_getElem? (i := 696) (by decide +kernel), by decide +kernel⟩
theorem w_697 : xw (.methodLinkNest RX5 29 yX6_clear "GuideBook") := ⟨List.mem_of_getElem? (i := 697) (by decide +kernel), by decide +kernel⟩
theorem w_699 : xw (.instanceMethod yX6_clear) := ⟨List.mem_of_getElem? (i := 699) (by decide +kernel), by decide +kernel⟩
theorem w_7 : xw (.selects RX2 yX2_renew yX2_renew) := ⟨List.mem_of_getElem? (i := 7) (by decide +kernel), by decide +kernel⟩
theorem w_70 : xw (.selects RX10 yX10_takeSign yX10_takeSign) := ⟨List.mem_of_getElem? (i := 70) (by decide +kernel), by decide +kernel⟩
theorem w_700 : xw (.code yX6_clear cX6_clear 1 none) := ⟨List.mem_of_getElem? (i := 700) (by decide +kernel), by decide +kernel⟩
theorem w_701 : xw (.methodLink RX5 39 yX5_token) := ⟨List.mem_of_getElem? (i := 701) (by decide +kernel), by decide +kernel⟩
theorem w_703 : xw (.instanceMethod yX5_token) := ⟨List.mem_of_getElem? (i := 703) (by decide +kernel), by decide +kernel⟩
theorem w_704 : xw (.code yX5_token cX5_token 1 (some .int)) := ⟨List.mem_of_getElem? (i := 704) (by decide +kernel), by decide +kernel⟩
theorem w_705 : xw (.methodLink RX5 43 yX5_parseLine) := ⟨List.mem_of_getElem? (i := 705) (by decide +kernel), by decide +kernel⟩
theorem w_707 : xw (.instanceMethod yX5_parseLine) := ⟨List.mem_of_getElem? (i := 707) (by decide +kernel), by decide +kernel⟩
theorem w_708 : xw (.code yX5_parseLine cX5_parseLine 3 (some .boolean)) := ⟨List.mem_of_getElem? (i := 708) (by decide +kernel), by decide +kernel⟩
theorem w_709 : xw (.methodLink RX5 47 yX5_refuse) := ⟨List.mem_of_getElem? (i := 709) (by decide +kernel), by decide +kernel⟩
theorem w_71 : xw (.selects RX10 yX10_isFact yX10_isFact) := ⟨List.mem_of_getElem? (i := 71) (by decide +kernel), by decide +kernel⟩
theorem w_711 : xw (.instanceMethod yX5_refuse) := ⟨List.mem_of_getElem? (i := 711) (by decide +kernel), by decide +kernel⟩
theorem w_712 : xw (.code yX5_refuse cX5_refuse 3 (some .boolean)) := ⟨List.mem_of_getElem? (i := 712) (by decide +kernel), by decide +kernel⟩
theorem w_713 : xw (.methodLink RX5 54 yX5_pass) := ⟨List.mem_of_getElem? (i := 713) (by decide +kernel), by decide +kernel⟩
theorem w_715 : xw (.instanceMethod yX5_pass) := ⟨List.mem_of_getElem? (i := 715) (by decide +kernel), by decide +kernel⟩
theorem w_716 : xw (.code yX5_pass cX5_pass 2 (some .boolean)) := ⟨List.mem_of_getElem? (i := 716) (by decide +kernel), by decide +kernel⟩
theorem w_717 : xw (.methodLink RX5 57 yX5_parseJoined) := ⟨List.mem_of_getElem? (i := 717) (by decide +kernel), by decide +kernel⟩
theorem w_719 : xw (.instanceMethod yX5_parseJoined) := ⟨List.mem_of_getElem? (i := 719) (by decide +kernel), by decide +kernel⟩
theorem w_72 : xw (.selects RX10 yX10_rateOf yX10_rateOf) := ⟨List.mem_of_getElem? (i := 72) (by decide +kernel), by decide +kernel⟩
theorem w_720 : xw (.code yX5_parseJoined cX5_parseJoined 6 (some .boolean)) := ⟨List.mem_of_getElem? (i := 720) (by decide +kernel), by decide +kernel⟩
theorem w_721 : xw (.methodLink RX5 65 yX5_parsePart) := ⟨List.mem_of_getElem? (i := 721) (by decide +kernel), by decide +kernel⟩
theorem w_723 : xw (.instanceMethod yX5_parsePart) := ⟨List.mem_of_getElem? (i := 723) (by decide +kernel), by decide +kernel⟩
theorem w_724 : xw (.code yX5_parsePart cX5_parsePart 4 (some .boolean)) := ⟨List.mem_of_getElem? (i := 724) (by decide +kernel), by decide +kernel⟩
theorem w_725 : xw (.methodLinkNest RX5 75 yX9_isName "GuideBook") := ⟨List.mem_of_getElem? (i := 725) (by decide +kernel), by decide +kernel⟩
theorem w_726 : xw (.static yX9_isName) := ⟨List.mem_of_getElem? (i := 726) (by decide +kernel), by decide +kernel⟩
theorem w_727 : xw (.code yX9_isName cX9_isName 1 (some .boolean)) := ⟨List.mem_of_getElem? (i := 727) (by decide +kernel), by decide +kernel⟩
theorem w_728 : xw (.methodLinkNest RX5 72 yX6_add "GuideBook") := ⟨List.mem_of_getElem? (i := 728) (by decide +kernel), by decide +kernel⟩
theorem w_73 : xw (.selects RX10 yX10_chanceOf yX10_chanceOf) := ⟨List.mem_of_getElem? (i := 73) (by decide +kernel), by decide +kernel⟩
theorem w_730 : xw (.instanceMethod yX6_add) := ⟨List.mem_of_getElem? (i := 730) (by decide +kernel), by decide +kernel⟩
theorem w_731 : xw (.code yX6_add cX6_add 2 none) := ⟨List.mem_of_getElem? (i := 731) (by decide +kernel), by decide +kernel⟩
theorem w_732 : xw (.methodLink RX5 68 yX5_joins) := ⟨List.mem_of_getElem? (i := 732) (by decide +kernel), by decide +kernel⟩
theorem w_733 : xw (.static yX5_joins) := ⟨List.mem_of_getElem? (i := 733) (by decide +kernel), by decide +kernel⟩
theorem w_734 : xw (.code yX5_joins cX5_joins 1 (some .int)) := ⟨List.mem_of_getElem? (i := 734) (by decide +kernel), by decide +kernel⟩
theorem w_735 : xw (.methodLinkNest RX5 61 yX6_endLine "GuideBook") := ⟨List.mem_of_getElem? (i := 735) (by decide +kernel), by decide +kernel⟩
theorem w_737 : xw (.instanceMethod yX6_endLine) := ⟨List.mem_of_getElem? (i := 737) (by decide +kernel), by decide +kernel⟩
theorem w_738 : xw (.code yX6_endLine cX6_endLine 2 none) := ⟨List.mem_of_getElem? (i := 738) (by decide +kernel), by decide +kernel⟩
theorem w_739 : xw (.methodLinkNest RX9 187 yX6_copy "GuideBook") := ⟨List.mem_of_getElem? (i := 739) (by decide +kernel), by decide +kernel⟩
theorem w_74 : xw (.selects RX10 yX10_proves yX10_proves) := ⟨List.mem_of_getElem? (i := 74) (by decide +kernel), by decide +kernel⟩
theorem w_741 : xw (.instanceMethod yX6_copy) := ⟨List.mem_of_getElem? (i := 741) (by decide +kernel), by decide +kernel⟩
theorem w_742 : xw (.code yX6_copy cX6_copy 2 none) := ⟨List.mem_of_getElem? (i := 742) (by decide +kernel), by decide +kernel⟩
theorem w_743 : xw (.methodLink RX6 31 arraycopyName) := ⟨List.mem_of_getElem? (i := 743) (by decide +kernel), by decide +kernel⟩
theorem w_744 : xw (.static arraycopyName) := ⟨List.mem_of_getElem? (i := 744) (by decide +kernel), by decide +kernel⟩
theorem w_745 : xw (.native arraycopyName) := ⟨List.mem_of_getElem? (i := 745) (by decide +kernel), by decide +kernel⟩
theorem w_746 : xw (.methodLink RL 108 yX9_stars) := ⟨List.mem_of_getElem? (i := 746) (by decide +kernel), by decide +kernel⟩
theorem w_747 : xw (.instanceMethod yX9_stars) := ⟨List.mem_of_getElem? (i := 747) (by decide +kernel), by decide +kernel⟩
theorem w_748 : xw (.selects RX9 yX9_stars yX9_stars) := ⟨List.mem_of_getElem? (i := 748) (by decide +kernel), by decide +kernel⟩
theorem w_749 : xw (.code yX9_stars cX9_stars 2 (some .int)) := ⟨List.mem_of_getElem? (i := 749) (by decide +kernel), by decide +kernel⟩
theorem w_75 : xw (.selects RX10 yX10_doubtOf yX10_doubtOf) := ⟨List.mem_of_getElem? (i := 75) (by decide +kernel), by decide +kernel⟩
theorem w_750 : xw (.methodLink RX9 191 yX9_starsOf) := ⟨List.mem_of_getElem? (i := 750) (by decide +kernel), by decide +kernel⟩
theorem w_752 : xw (.instanceMethod yX9_starsOf) := ⟨List.mem_of_getElem? (i := 752) (by decide +kernel), by decide +kernel⟩
theorem w_753 : xw (.code yX9_starsOf cX9_starsOf 2 (some .int)) := ⟨List.mem_of_getElem? (i := 753) (by decide +kernel), by decide +kernel⟩
theorem w_754 : xw (.methodLinkNest RX9 269 yX4_describe "GuideBook") := ⟨List.mem_of_getElem? (i := 754) (by decide +kernel), by decide +kernel⟩
theorem w_756 : xw (.instanceMethod yX4_describe) := ⟨List.mem_of_getElem? (i := 756) (by decide +kernel), by decide +kernel⟩
theorem w_757 : xw (.code yX4_describe cX4_describe 9 none) := ⟨List.mem_of_getElem? (i := 757) (by decide +kernel), by decide +kernel⟩
theorem w_758 : xw (.methodLink RX4 39 yX4_onScale) := ⟨List.mem_of_getElem? (i := 758) (by decide +kernel), by decide +kernel⟩
theorem w_76 : xw (.selects RX10 yX10_daysOf yX10_daysOf) := ⟨List.mem_of_getElem? (i := 76) (by decide +kernel), by decide +kernel⟩
theorem w_760 : xw (.instanceMethod yX4_onScale) := ⟨List.mem_of_getElem? (i := 760) (by decide +kernel), by decide +kernel⟩
theorem w_761 : xw (.code yX4_onScale cX4_onScale 4 (some .int)) := ⟨List.mem_of_getElem? (i := 761) (by decide +kernel), by decide +kernel⟩
theorem w_762 : xw (.methodLink RX4 26 yX4_shiftOf) := ⟨List.mem_of_getElem? (i := 762) (by decide +kernel), by decide +kernel⟩
theorem w_764 : xw (.instanceMethod yX4_shiftOf) := ⟨List.mem_of_getElem? (i := 764) (by decide +kernel), by decide +kernel⟩
theorem w_765 : xw (.code yX4_shiftOf cX4_shiftOf 7 (some .int)) := ⟨List.mem_of_getElem? (i := 765) (by decide +kernel), by decide +kernel⟩
theorem w_766 : xw (.methodLinkNest RX4 22 yX9_cut "GuideBook") := ⟨List.mem_of_getElem? (i := 766) (by decide +kernel), by decide +kernel⟩
theorem w_77 : xw (.selects RX10 yX10_weightOf yX10_weightOf) := ⟨List.mem_of_getElem? (i := 77) (by decide +kernel), by decide +kernel⟩
theorem w_771 : xw (.methodLinkNest RX9 273 yX2_countOf "GuideBook") := ⟨List.mem_of_getElem? (i := 771) (by decide +kernel), by decide +kernel⟩
theorem w_773 : xw (.instanceMethod yX2_countOf) := ⟨List.mem_of_getElem? (i := 773) (by decide +kernel), by decide +kernel⟩
theorem w_774 : xw (.code yX2_countOf cX2_countOf 4 (some .int)) := ⟨List.mem_of_getElem? (i := 774) (by decide +kernel), by decide +kernel⟩
theorem w_775 : xw (.methodLinkNest RX9 276 yX6_starsFor "GuideBook") := ⟨List.mem_of_getElem? (i := 775) (by decide +kernel), by decide +kernel⟩
theorem w_777 : xw (.instanceMethod yX6_starsFor) := ⟨List.mem_of_getElem? (i := 777) (by decide +kernel), by decide +kernel⟩
theorem w_778 : xw (.code yX6_starsFor cX6_starsFor 4 (some .int)) := ⟨List.mem_of_getElem? (i := 778) (by decide +kernel), by decide +kernel⟩
theorem w_779 : xw (.methodLink RX6 37 yX6_valueOf) := ⟨List.mem_of_getElem? (i := 779) (by decide +kernel), by decide +kernel⟩
theorem w_78 : xw (.selects RX10 yX10_believes yX10_believes) := ⟨List.mem_of_getElem? (i := 78) (by decide +kernel), by decide +kernel⟩
theorem w_781 : xw (.instanceMethod yX6_valueOf) := ⟨List.mem_of_getElem? (i := 781) (by decide +kernel), by decide +kernel⟩
theorem w_782 : xw (.code yX6_valueOf cX6_valueOf 7 (some .int)) := ⟨List.mem_of_getElem? (i := 782) (by decide +kernel), by decide +kernel⟩
theorem w_783 : xw (.methodLinkNest RX6 41 yX9_isName "GuideBook") := ⟨List.mem_of_getElem? (i := 783) (by decide +kernel), by decide +kernel⟩
theorem w_784 : xw (.methodLink RX6 45 yX6_joined) := ⟨List.mem_of_getElem? (i := 784) (by decide +kernel), by decide +kernel⟩
theorem w_785 : xw (.static yX6_joined) := ⟨List.mem_of_getElem? (i := 785) (by decide +kernel), by decide +kernel⟩
theorem w_786 : xw (.code yX6_joined cX6_joined 3 (some .int)) := ⟨List.mem_of_getElem? (i := 786) (by decide +kernel), by decide +kernel⟩
theorem w_787 : xw (.methodLink RL 112 yX9_number) := ⟨List.mem_of_getElem? (i := 787) (by decide +kernel), by decide +kernel⟩
theorem w_788 : xw (.instanceMethod yX9_number) := ⟨List.mem_of_getElem? (i := 788) (by decide +kernel), by decide +kernel⟩
theorem w_789 : xw (.selects RX9 yX9_number yX9_number) := ⟨List.mem_of_getElem? (i := 789) (by decide +kernel), by decide +kernel⟩
theorem w_79 : xw (.selects RX10 yX10_isOpen yX10_isOpen) := ⟨List.mem_of_getElem? (i := 79) (by decide +kernel), by decide +kernel⟩
theorem w_790 : xw (.code yX9_number cX9_number 7 (some .int)) := ⟨List.mem_of_getElem? (i := 790) (by decide +kernel), by decide +kernel⟩
theorem w_791 : xw (.methodLink RX9 197 yX9_linesKept) := ⟨List.mem_of_getElem? (i := 791) (by decide +kernel), by decide +kernel⟩
theorem w_793 : xw (.instanceMethod yX9_linesKept) := ⟨List.mem_of_getElem? (i := 793) (by decide +kernel), by decide +kernel⟩
theorem w_794 : xw (.code yX9_linesKept cX9_linesKept 4 (some .long)) := ⟨List.mem_of_getElem? (i := 794) (by decide +kernel), by decide +kernel⟩
theorem w_795 : xw (.constantLong RX9 201 (2)) := ⟨List.mem_of_getElem? (i := 795) (by decide +kernel), by decide +kernel⟩
theorem w_796 : xw (.methodLink RX9 203 yJ13_bitCount_95d88) := ⟨List.mem_of_getElem? (i := 796) (by decide +kernel), by decide +kernel⟩
theorem w_797 : xw (.static yJ13_bitCount_95d88) := ⟨List.mem_of_getElem? (i := 797) (by decide +kernel), by decide +kernel⟩
theorem w_798 : xw (.code yJ13_bitCount_95d88 cJ13_bitCount_95d88 2 (some .int)) := ⟨List.mem_of_getElem? (i := 798) (by decide +kernel), by decide +kernel⟩
theorem w_799 : xw (.constantLong RJ13 314 (6148914691236517205)) := ⟨List.mem_of_getElem? (i := 799) (by decide +kernel), by decide +kernel⟩
theorem w_8 : xw (.selects RX2 yX2_rateOf yX2_rateOf) := ⟨List.mem_of_getElem? (i := 8) (by decide +kernel), by decide +kernel⟩
theorem w_80 : xw (.selects RX10 yX10_heard yX10_heard) := ⟨List.mem_of_getElem? (i := 80) (by decide +kernel), by decide +kernel⟩
theorem w_800 : xw (.constantLong RJ13 316 (3689348814741910323)) := ⟨List.mem_of_getElem? (i := 800) (by decide +kernel), by decide +kernel⟩
theorem w_801 : xw (.constantLong RJ13 318 (1085102592571150095)) := ⟨List.mem_of_getElem? (i := 801) (by decide +kernel), by decide +kernel⟩
theorem w_802 : xw (.methodLink RL 116 yX9_edition) := ⟨List.mem_of_getElem? (i := 802) (by decide +kernel), by decide +kernel⟩
theorem w_803 : xw (.instanceMethod yX9_edition) := ⟨List.mem_of_getElem? (i := 803) (by decide +kernel), by decide +kernel⟩
theorem w_804 : xw (.selects RX9 yX9_edition yX9_edition) := ⟨List.mem_of_getElem? (i := 804) (by decide +kernel), by decide +kernel⟩
theorem w_805 : xw (.code yX9_edition cX9_edition 3 (some .int)) := ⟨List.mem_of_getElem? (i := 805) (by decide +kernel), by decide +kernel⟩
theorem w_806 : xw (.methodLinkNest RX9 209 yX1_start "GuideBook") := ⟨List.mem_of_getElem? (i := 806) (by decide +kernel), by decide +kernel⟩
theorem w_808 : xw (.instanceMethod yX1_start) := ⟨List.mem_of_getElem? (i := 808) (by decide +kernel), by decide +kernel⟩
theorem w_809 : xw (.code yX1_start cX1_start 3 (some .int)) := ⟨List.mem_of_getElem? (i := 809) (by decide +kernel), by decide +kernel⟩
theorem w_81 : xw (.selects RX10 yX10_shiftOf yX10_shiftOf) := ⟨List.mem_of_getElem? (i := 81) (by decide +kernel), by decide +kernel⟩
theorem w_810 : xw (.methodLink RL 120 yX9_printed) := ⟨List.mem_of_getElem? (i := 810) (by decide +kernel), by decide +kernel⟩
theorem w_811 : xw (.instanceMethod yX9_printed) := ⟨List.mem_of_getElem? (i := 811) (by decide +kernel), by decide +kernel⟩
theorem w_812 : xw (.selects RX9 yX9_printed yX9_printed) := ⟨List.mem_of_getElem? (i := 812) (by decide +kernel), by decide +kernel⟩
theorem w_813 : xw (.code yX9_printed cX9_printed 4 (some .int)) := ⟨List.mem_of_getElem? (i := 813) (by decide +kernel), by decide +kernel⟩
theorem w_814 : xw (.methodLinkNest RX9 218 yX1_has "GuideBook") := ⟨List.mem_of_getElem? (i := 814) (by decide +kernel), by decide +kernel⟩
theorem w_816 : xw (.instanceMethod yX1_has) := ⟨List.mem_of_getElem? (i := 816) (by decide +kernel), by decide +kernel⟩
theorem w_817 : xw (.code yX1_has cX1_has 2 (some .boolean)) := ⟨List.mem_of_getElem? (i := 817) (by decide +kernel), by decide +kernel⟩
theorem w_818 : xw (.methodLinkNest RX9 219 yX1_hasFact "GuideBook") := ⟨List.mem_of_getElem? (i := 818) (by decide +kernel), by decide +kernel⟩
theorem w_819 : xw (.methodLink RL 124 yX9_errors) := ⟨List.mem_of_getElem? (i := 819) (by decide +kernel), by decide +kernel⟩
theorem w_82 : xw (.selects RX10 yX10_starsOf yX10_starsOf) := ⟨List.mem_of_getElem? (i := 82) (by decide +kernel), by decide +kernel⟩
theorem w_820 : xw (.instanceMethod yX9_errors) := ⟨List.mem_of_getElem? (i := 820) (by decide +kernel), by decide +kernel⟩
theorem w_821 : xw (.selects RX9 yX9_errors yX9_errors) := ⟨List.mem_of_getElem? (i := 821) (by decide +kernel), by decide +kernel⟩
theorem w_822 : xw (.code yX9_errors cX9_errors 7 (some .int)) := ⟨List.mem_of_getElem? (i := 822) (by decide +kernel), by decide +kernel⟩
theorem w_823 : xw (.methodLink RL 128 yX9_count) := ⟨List.mem_of_getElem? (i := 823) (by decide +kernel), by decide +kernel⟩
theorem w_824 : xw (.instanceMethod yX9_count) := ⟨List.mem_of_getElem? (i := 824) (by decide +kernel), by decide +kernel⟩
theorem w_825 : xw (.selects RX9 yX9_count yX9_count) := ⟨List.mem_of_getElem? (i := 825) (by decide +kernel), by decide +kernel⟩
theorem w_826 : xw (.code yX9_count cX9_count 2 (some .int)) := ⟨List.mem_of_getElem? (i := 826) (by decide +kernel), by decide +kernel⟩
theorem w_83 : xw (.selects RX10 yX10_worth yX10_worth) := ⟨List.mem_of_getElem? (i := 83) (by decide +kernel), by decide +kernel⟩
theorem w_84 : xw (.selects RX10 yX10_laysOut yX10_laysOut) := ⟨List.mem_of_getElem? (i := 84) (by decide +kernel), by decide +kernel⟩
theorem w_85 : xw (.selects RX10 yX10_isWith yX10_isWith) := ⟨List.mem_of_getElem? (i := 85) (by decide +kernel), by decide +kernel⟩
theorem w_87 : xw (.initialized RX9) := ⟨List.mem_of_getElem? (i := 87) (by decide +kernel), by decide +kernel⟩
theorem w_88 : xw (.initialized RX2) := ⟨List.mem_of_getElem? (i := 88) (by decide +kernel), by decide +kernel⟩
theorem w_89 : xw (.initialized RX3) := ⟨List.mem_of_getElem? (i := 89) (by decide +kernel), by decide +kernel⟩
theorem w_9 : xw (.selects RX2 yX2_chanceOf yX2_chanceOf) := ⟨List.mem_of_getElem? (i := 9) (by decide +kernel), by decide +kernel⟩
theorem w_90 : xw (.initialized RX4) := ⟨List.mem_of_getElem? (i := 90) (by decide +kernel), by decide +kernel⟩
theorem w_900 : xw (.methodLinkNest RX9 171 yX4_shiftOf "GuideBook") := ⟨List.mem_of_getElem? (i := 900) (by decide +kernel), by decide +kernel⟩
theorem w_91 : xw (.initialized RJ7) := ⟨List.mem_of_getElem? (i := 91) (by decide +kernel), by decide +kernel⟩
theorem w_910 : xw (.methodLink RL 88 yX10_thrown) := ⟨List.mem_of_getElem? (i := 910) (by decide +kernel), by decide +kernel⟩
theorem w_911 : xw (.instanceMethod yX10_thrown) := ⟨List.mem_of_getElem? (i := 911) (by decide +kernel), by decide +kernel⟩
theorem w_912 : xw (.selects RX10 yX10_thrown yX10_thrown) := ⟨List.mem_of_getElem? (i := 912) (by decide +kernel), by decide +kernel⟩
theorem w_913 : xw (.code yX10_thrown cX10_thrown 1 (some .int)) := ⟨List.mem_of_getElem? (i := 913) (by decide +kernel), by decide +kernel⟩
theorem w_914 : xw (.methodLink RL 103 yX10_feed) := ⟨List.mem_of_getElem? (i := 914) (by decide +kernel), by decide +kernel⟩
theorem w_915 : xw (.instanceMethod yX10_feed) := ⟨List.mem_of_getElem? (i := 915) (by decide +kernel), by decide +kernel⟩
theorem w_916 : xw (.selects RX10 yX10_feed yX10_feed) := ⟨List.mem_of_getElem? (i := 916) (by decide +kernel), by decide +kernel⟩
theorem w_917 : xw (.code yX10_feed cX10_feed 7 (some .int)) := ⟨List.mem_of_getElem? (i := 917) (by decide +kernel), by decide +kernel⟩
theorem w_918 : xw (.methodLink RX10 7 yX10_lay) := ⟨List.mem_of_getElem? (i := 918) (by decide +kernel), by decide +kernel⟩
theorem w_92 : xw (.initialized RX7) := ⟨List.mem_of_getElem? (i := 92) (by decide +kernel), by decide +kernel⟩
theorem w_920 : xw (.instanceMethod yX10_lay) := ⟨List.mem_of_getElem? (i := 920) (by decide +kernel), by decide +kernel⟩
theorem w_922 : xw (.code yX10_lay cX10_lay 5 none) := ⟨List.mem_of_getElem? (i := 922) (by decide +kernel), by decide +kernel⟩
theorem w_93 : xw (.initialized RX5) := ⟨List.mem_of_getElem? (i := 93) (by decide +kernel), by decide +kernel⟩
theorem w_94 : xw (.initialized RX8) := ⟨List.mem_of_getElem? (i := 94) (by decide +kernel), by decide +kernel⟩
theorem w_95 : xw (.initialized RX6) := ⟨List.mem_of_getElem? (i := 95) (by decide +kernel), by decide +kernel⟩
theorem w_96 : xw (.initialized RX1) := ⟨List.mem_of_getElem? (i := 96) (by decide +kernel), by decide +kernel⟩
theorem w_97 : xw (.initialized RX0) := ⟨List.mem_of_getElem? (i := 97) (by decide +kernel), by decide +kernel⟩
theorem w_98 : xw (.initialized RX10) := ⟨List.mem_of_getElem? (i := 98) (by decide +kernel), by decide +kernel⟩
theorem w_99 : xw (.initialized RJ9) := ⟨List.mem_of_getElem? (i := 99) (by decide +kernel), by decide +kernel⟩
theorem cs_RJ0_1059 : xCw RJ0 1059 mJ3_checkIndex_8e157 3 := ⟨Or.inl w_651, w_653, w_106, ⟨by decide +kernel, by decide +kernel, by decide +kernel⟩, by decide⟩
theorem cs_RJ0_335 : xCw RJ0 335 mJ0_coder_7d493 0 := ⟨Or.inl w_629, w_632, w_104, ⟨by decide +kernel, by decide +kernel, by decide +kernel⟩, by decide⟩
theorem cs_RJ0_492 : xCw RJ0 492 mJ0_isLatin1_aae02 0 := ⟨Or.inl w_639, w_642, w_104, ⟨by decide +kernel, by decide +kernel, by decide +kernel⟩, by decide⟩
theorem cs_RJ0_495 : xCw RJ0 495 mJ1_charAt_3b067 2 := ⟨Or.inl w_643, w_645, w_105, ⟨by decide +kernel, by decide +kernel, by decide +kernel⟩, by decide⟩
theorem cs_RJ1_9 : xCw RJ1 9 mJ0_checkIndex_df160 2 := ⟨Or.inl w_646, w_648, w_104, ⟨by decide +kernel, by decide +kernel, by decide +kernel⟩, by decide⟩
theorem cs_RL_103 : xCw RL 103 mX10_feed 3 := ⟨Or.inl w_914, w_917, w_98, ⟨by decide +kernel, by decide +kernel, by decide +kernel⟩, by decide⟩
theorem cs_RL_104 : xCw RL 104 mX9_text 0 := ⟨Or.inl w_580, w_583, w_87, ⟨by decide +kernel, by decide +kernel, by decide +kernel⟩, by decide⟩
theorem cs_RL_107 : xCw RL 107 mX10_text 0 := ⟨Or.inl w_1091, w_1094, w_98, ⟨by decide +kernel, by decide +kernel, by decide +kernel⟩, by decide⟩
theorem cs_RL_108 : xCw RL 108 mX9_stars 1 := ⟨Or.inl w_746, w_749, w_87, ⟨by decide +kernel, by decide +kernel, by decide +kernel⟩, by decide⟩
theorem cs_RL_111 : xCw RL 111 mX10_stars 1 := ⟨Or.inl w_1284, w_1287, w_98, ⟨by decide +kernel, by decide +kernel, by decide +kernel⟩, by decide⟩
theorem cs_RL_112 : xCw RL 112 mX9_number 2 := ⟨Or.inl w_787, w_790, w_87, ⟨by decide +kernel, by decide +kernel, by decide +kernel⟩, by decide⟩
theorem cs_RL_115 : xCw RL 115 mX10_number 2 := ⟨Or.inl w_1296, w_1299, w_98, ⟨by decide +kernel, by decide +kernel, by decide +kernel⟩, by decide⟩
theorem cs_RL_116 : xCw RL 116 mX9_edition 0 := ⟨Or.inl w_802, w_805, w_87, ⟨by decide +kernel, by decide +kernel, by decide +kernel⟩, by decide⟩
theorem cs_RL_119 : xCw RL 119 mX10_edition 0 := ⟨Or.inl w_1308, w_1311, w_98, ⟨by decide +kernel, by decide +kernel, by decide +kernel⟩, by decide⟩
theorem cs_RL_120 : xCw RL 120 mX9_printed 3 := ⟨Or.inl w_810, w_813, w_87, ⟨by decide +kernel, by decide +kernel, by decide +kernel⟩, by decide⟩
theorem cs_RL_123 : xCw RL 123 mX10_printed 3 := ⟨Or.inl w_1312, w_1315, w_98, ⟨by decide +kernel, by decide +kernel, by decide +kernel⟩, by decide⟩
theorem cs_RL_124 : xCw RL 124 mX9_errors 2 := ⟨Or.inl w_819, w_822, w_87, ⟨by decide +kernel, by decide +kernel, by decide +kernel⟩, by decide⟩
theorem cs_RL_127 : xCw RL 127 mX10_errors 2 := ⟨Or.inl w_1316, w_1319, w_98, ⟨by decide +kernel, by decide +kernel, by decide +kernel⟩, by decide⟩
theorem cs_RL_128 : xCw RL 128 mX9_count 1 := ⟨Or.inl w_823, w_826, w_87, ⟨by decide +kernel, by decide +kernel, by decide +kernel⟩, by decide⟩
theorem cs_RL_131 : xCw RL 131 mX10_count 1 := ⟨Or.inl w_1320, w_1323, w_98, ⟨by decide +kernel, by decide +kernel, by decide +kernel⟩, by decide⟩
theorem cs_RL_135 : xCw RL 135 mX10_look 2 := ⟨Or.inl w_1324, w_1327, w_98, ⟨by decide +kernel, by decide +kernel, by decide +kernel⟩, by decide⟩
theorem cs_RL_23 : xCw RL 23 mX9_years 1 := ⟨Or.inl w_384, w_387, w_87, ⟨by decide +kernel, by decide +kernel, by decide +kernel⟩, by decide⟩
theorem cs_RL_26 : xCw RL 26 mX10_years 1 := ⟨Or.inl w_1167, w_1170, w_98, ⟨by decide +kernel, by decide +kernel, by decide +kernel⟩, by decide⟩
theorem cs_RL_27 : xCw RL 27 mX9_fact 3 := ⟨Or.inl w_391, w_394, w_87, ⟨by decide +kernel, by decide +kernel, by decide +kernel⟩, by decide⟩
theorem cs_RL_31 : xCw RL 31 mX10_fact 3 := ⟨Or.inl w_1171, w_1174, w_98, ⟨by decide +kernel, by decide +kernel, by decide +kernel⟩, by decide⟩
theorem cs_RL_32 : xCw RL 32 mX9_line 3 := ⟨Or.inl w_408, w_411, w_87, ⟨by decide +kernel, by decide +kernel, by decide +kernel⟩, by decide⟩
theorem cs_RL_36 : xCw RL 36 mX10_line_ 3 := ⟨Or.inl w_1181, w_1184, w_98, ⟨by decide +kernel, by decide +kernel, by decide +kernel⟩, by decide⟩
theorem cs_RL_37 : xCw RL 37 mX9_check 2 := ⟨Or.inl w_416, w_419, w_87, ⟨by decide +kernel, by decide +kernel, by decide +kernel⟩, by decide⟩
theorem cs_RL_40 : xCw RL 40 mX10_check 2 := ⟨Or.inl w_1206, w_1209, w_98, ⟨by decide +kernel, by decide +kernel, by decide +kernel⟩, by decide⟩
theorem cs_RL_41 : xCw RL 41 mX9_rate 1 := ⟨Or.inl w_444, w_447, w_87, ⟨by decide +kernel, by decide +kernel, by decide +kernel⟩, by decide⟩
theorem cs_RL_44 : xCw RL 44 mX10_rate 1 := ⟨Or.inl w_1189, w_1192, w_98, ⟨by decide +kernel, by decide +kernel, by decide +kernel⟩, by decide⟩
theorem cs_RL_45 : xCw RL 45 mX9_chance 1 := ⟨Or.inl w_459, w_462, w_87, ⟨by decide +kernel, by decide +kernel, by decide +kernel⟩, by decide⟩
theorem cs_RL_48 : xCw RL 48 mX10_chance 1 := ⟨Or.inl w_1198, w_1201, w_98, ⟨by decide +kernel, by decide +kernel, by decide +kernel⟩, by decide⟩
theorem cs_RL_49 : xCw RL 49 mX9_takes 2 := ⟨Or.inl w_468, w_471, w_87, ⟨by decide +kernel, by decide +kernel, by decide +kernel⟩, by decide⟩
theorem cs_RL_53 : xCw RL 53 mX10_takes 2 := ⟨Or.inl w_1214, w_1217, w_98, ⟨by decide +kernel, by decide +kernel, by decide +kernel⟩, by decide⟩
theorem cs_RL_54 : xCw RL 54 mX9_plan 2 := ⟨Or.inl w_472, w_475, w_87, ⟨by decide +kernel, by decide +kernel, by decide +kernel⟩, by decide⟩
theorem cs_RL_57 : xCw RL 57 mX10_plan 2 := ⟨Or.inl w_1218, w_1221, w_98, ⟨by decide +kernel, by decide +kernel, by decide +kernel⟩, by decide⟩
theorem cs_RL_58 : xCw RL 58 mX9_letter 3 := ⟨Or.inl w_506, w_509, w_87, ⟨by decide +kernel, by decide +kernel, by decide +kernel⟩, by decide⟩
theorem cs_RL_61 : xCw RL 61 mX10_letter 3 := ⟨Or.inl w_1232, w_1235, w_98, ⟨by decide +kernel, by decide +kernel, by decide +kernel⟩, by decide⟩
theorem cs_RL_62 : xCw RL 62 mX9_weight 1 := ⟨Or.inl w_517, w_520, w_87, ⟨by decide +kernel, by decide +kernel, by decide +kernel⟩, by decide⟩
theorem cs_RL_65 : xCw RL 65 mX10_weight 1 := ⟨Or.inl w_1236, w_1239, w_98, ⟨by decide +kernel, by decide +kernel, by decide +kernel⟩, by decide⟩
theorem cs_RL_66 : xCw RL 66 mX9_believed 1 := ⟨Or.inl w_526, w_529, w_87, ⟨by decide +kernel, by decide +kernel, by decide +kernel⟩, by decide⟩
theorem cs_RL_69 : xCw RL 69 mX10_believed 1 := ⟨Or.inl w_1244, w_1247, w_98, ⟨by decide +kernel, by decide +kernel, by decide +kernel⟩, by decide⟩
theorem cs_RL_70 : xCw RL 70 mX9_quarrel 1 := ⟨Or.inl w_540, w_543, w_87, ⟨by decide +kernel, by decide +kernel, by decide +kernel⟩, by decide⟩
theorem cs_RL_73 : xCw RL 73 mX10_quarrel 1 := ⟨Or.inl w_1260, w_1263, w_98, ⟨by decide +kernel, by decide +kernel, by decide +kernel⟩, by decide⟩
theorem cs_RL_74 : xCw RL 74 mX9_proof 1 := ⟨Or.inl w_548, w_551, w_87, ⟨by decide +kernel, by decide +kernel, by decide +kernel⟩, by decide⟩
theorem cs_RL_77 : xCw RL 77 mX10_proof 1 := ⟨Or.inl w_1264, w_1267, w_98, ⟨by decide +kernel, by decide +kernel, by decide +kernel⟩, by decide⟩
theorem cs_RL_78 : xCw RL 78 mX9_mark 3 := ⟨Or.inl w_556, w_559, w_87, ⟨by decide +kernel, by decide +kernel, by decide +kernel⟩, by decide⟩
theorem cs_RL_81 : xCw RL 81 mX10_mark 3 := ⟨Or.inl w_1268, w_1271, w_98, ⟨by decide +kernel, by decide +kernel, by decide +kernel⟩, by decide⟩
theorem cs_RL_87 : xCw RL 87 mX10_shift 1 := ⟨Or.inl w_1272, w_1275, w_98, ⟨by decide +kernel, by decide +kernel, by decide +kernel⟩, by decide⟩
theorem cs_RL_88 : xCw RL 88 mX10_thrown 0 := ⟨Or.inl w_910, w_913, w_98, ⟨by decide +kernel, by decide +kernel, by decide +kernel⟩, by decide⟩
theorem cs_RL_92 : xCw RL 92 mX9_paid 2 := ⟨Or.inl w_563, w_566, w_87, ⟨by decide +kernel, by decide +kernel, by decide +kernel⟩, by decide⟩
theorem cs_RL_96 : xCw RL 96 mX10_paid 2 := ⟨Or.inl w_1280, w_1283, w_98, ⟨by decide +kernel, by decide +kernel, by decide +kernel⟩, by decide⟩
theorem cs_RL_99 : xCw RL 99 mX9_feed 3 := ⟨Or.inl w_567, w_570, w_87, ⟨by decide +kernel, by decide +kernel, by decide +kernel⟩, by decide⟩
theorem cs_RX0_22 : xCw RX0 22 mJ7_fill_d0a16 2 := ⟨Or.inl w_484, w_486, w_91, ⟨by decide +kernel, by decide +kernel, by decide +kernel⟩, by decide⟩
theorem cs_RX10_152 : xCw RX10 152 mX10_isLetter 1 := ⟨Or.inl w_1099, w_1101, w_98, ⟨by decide +kernel, by decide +kernel, by decide +kernel⟩, by decide⟩
theorem cs_RX10_161 : xCw RX10 161 mX10_rank 1 := ⟨Or.inl w_1103, w_1105, w_98, ⟨by decide +kernel, by decide +kernel, by decide +kernel⟩, by decide⟩
theorem cs_RX10_165 : xCw RX10 165 mX10_isDigit 1 := ⟨Or.inl w_1106, w_1108, w_98, ⟨by decide +kernel, by decide +kernel, by decide +kernel⟩, by decide⟩
theorem cs_RX10_172 : xCw RX10 172 mX10_isSignOf 1 := ⟨Or.inl w_1111, w_1113, w_98, ⟨by decide +kernel, by decide +kernel, by decide +kernel⟩, by decide⟩
theorem cs_RX10_181 : xCw RX10 181 mX10_isSign 1 := ⟨Or.inl w_1147, w_1150, w_98, ⟨by decide +kernel, by decide +kernel, by decide +kernel⟩, by decide⟩
theorem cs_RX10_184 : xCw RX10 184 mX10_wrong 1 := ⟨Or.inl w_1122, w_1125, w_98, ⟨by decide +kernel, by decide +kernel, by decide +kernel⟩, by decide⟩
theorem cs_RX10_188 : xCw RX10 188 mX10_isWord 1 := ⟨Or.inl w_1118, w_1121, w_98, ⟨by decide +kernel, by decide +kernel, by decide +kernel⟩, by decide⟩
theorem cs_RX10_191 : xCw RX10 191 mX10_hasWord 1 := ⟨Or.inl w_1131, w_1134, w_98, ⟨by decide +kernel, by decide +kernel, by decide +kernel⟩, by decide⟩
theorem cs_RX10_200 : xCw RX10 200 mX10_cutAll 0 := ⟨Or.inl w_1095, w_1098, w_98, ⟨by decide +kernel, by decide +kernel, by decide +kernel⟩, by decide⟩
theorem cs_RX10_206 : xCw RX10 206 mX10_line 0 := ⟨Or.inl w_1114, w_1117, w_98, ⟨by decide +kernel, by decide +kernel, by decide +kernel⟩, by decide⟩
theorem cs_RX10_211 : xCw RX10 211 mX10_takeWord 1 := ⟨Or.inl w_1127, w_1130, w_98, ⟨by decide +kernel, by decide +kernel, by decide +kernel⟩, by decide⟩
theorem cs_RX10_217 : xCw RX10 217 mX10_opens 0 := ⟨Or.inl w_1135, w_1138, w_98, ⟨by decide +kernel, by decide +kernel, by decide +kernel⟩, by decide⟩
theorem cs_RX10_220 : xCw RX10 220 mX10_part 0 := ⟨Or.inl w_1139, w_1142, w_98, ⟨by decide +kernel, by decide +kernel, by decide +kernel⟩, by decide⟩
theorem cs_RX10_224 : xCw RX10 224 mX10_goesOnBehind 0 := ⟨Or.inl w_1159, w_1162, w_98, ⟨by decide +kernel, by decide +kernel, by decide +kernel⟩, by decide⟩
theorem cs_RX10_227 : xCw RX10 227 mX10_emit 2 := ⟨Or.inl w_1155, w_1158, w_98, ⟨by decide +kernel, by decide +kernel, by decide +kernel⟩, by decide⟩
theorem cs_RX10_231 : xCw RX10 231 mX10_takeSign 1 := ⟨Or.inl w_1163, w_1166, w_98, ⟨by decide +kernel, by decide +kernel, by decide +kernel⟩, by decide⟩
theorem cs_RX10_234 : xCw RX10 234 mX10_partWord 0 := ⟨Or.inl w_1143, w_1146, w_98, ⟨by decide +kernel, by decide +kernel, by decide +kernel⟩, by decide⟩
theorem cs_RX10_238 : xCw RX10 238 mX10_hasSign 1 := ⟨Or.inl w_1151, w_1154, w_98, ⟨by decide +kernel, by decide +kernel, by decide +kernel⟩, by decide⟩
theorem cs_RX10_244 : xCw RX10 244 mX10_isPlace 1 := ⟨Or.inl w_1175, w_1177, w_98, ⟨by decide +kernel, by decide +kernel, by decide +kernel⟩, by decide⟩
theorem cs_RX10_247 : xCw RX10 247 mX10_isValue 1 := ⟨Or.inl w_1178, w_1180, w_98, ⟨by decide +kernel, by decide +kernel, by decide +kernel⟩, by decide⟩
theorem cs_RX10_253 : xCw RX10 253 mX10_isFact 1 := ⟨Or.inl w_1185, w_1188, w_98, ⟨by decide +kernel, by decide +kernel, by decide +kernel⟩, by decide⟩
theorem cs_RX10_258 : xCw RX10 258 mX10_rateOf 1 := ⟨Or.inl w_1193, w_1196, w_98, ⟨by decide +kernel, by decide +kernel, by decide +kernel⟩, by decide⟩
theorem cs_RX10_261 : xCw RX10 261 mX10_chanceOf 1 := ⟨Or.inl w_1202, w_1205, w_98, ⟨by decide +kernel, by decide +kernel, by decide +kernel⟩, by decide⟩
theorem cs_RX10_267 : xCw RX10 267 mX10_proves 2 := ⟨Or.inl w_1210, w_1213, w_98, ⟨by decide +kernel, by decide +kernel, by decide +kernel⟩, by decide⟩
theorem cs_RX10_271 : xCw RX10 271 mX10_doubtOf 1 := ⟨Or.inl w_1223, w_1226, w_98, ⟨by decide +kernel, by decide +kernel, by decide +kernel⟩, by decide⟩
theorem cs_RX10_275 : xCw RX10 275 mX10_daysOf 1 := ⟨Or.inl w_1227, w_1230, w_98, ⟨by decide +kernel, by decide +kernel, by decide +kernel⟩, by decide⟩
theorem cs_RX10_280 : xCw RX10 280 mX10_weightOf 1 := ⟨Or.inl w_1240, w_1243, w_98, ⟨by decide +kernel, by decide +kernel, by decide +kernel⟩, by decide⟩
theorem cs_RX10_283 : xCw RX10 283 mX10_isOpen 2 := ⟨Or.inl w_1252, w_1255, w_98, ⟨by decide +kernel, by decide +kernel, by decide +kernel⟩, by decide⟩
theorem cs_RX10_287 : xCw RX10 287 mX10_heard 2 := ⟨Or.inl w_1256, w_1259, w_98, ⟨by decide +kernel, by decide +kernel, by decide +kernel⟩, by decide⟩
theorem cs_RX10_291 : xCw RX10 291 mX10_believes 1 := ⟨Or.inl w_1248, w_1251, w_98, ⟨by decide +kernel, by decide +kernel, by decide +kernel⟩, by decide⟩
theorem cs_RX10_294 : xCw RX10 294 mX10_shiftOf 1 := ⟨Or.inl w_1276, w_1279, w_98, ⟨by decide +kernel, by decide +kernel, by decide +kernel⟩, by decide⟩
theorem cs_RX10_297 : xCw RX10 297 mX10_worth 1 := ⟨Or.inl w_1292, w_1295, w_98, ⟨by decide +kernel, by decide +kernel, by decide +kernel⟩, by decide⟩
theorem cs_RX10_300 : xCw RX10 300 mX10_starsOf 1 := ⟨Or.inl w_1288, w_1291, w_98, ⟨by decide +kernel, by decide +kernel, by decide +kernel⟩, by decide⟩
theorem cs_RX10_306 : xCw RX10 306 mX10_isWith 2 := ⟨Or.inl w_1304, w_1307, w_98, ⟨by decide +kernel, by decide +kernel, by decide +kernel⟩, by decide⟩
theorem cs_RX10_309 : xCw RX10 309 mX10_laysOut 1 := ⟨Or.inl w_1300, w_1303, w_98, ⟨by decide +kernel, by decide +kernel, by decide +kernel⟩, by decide⟩
theorem cs_RX10_7 : xCw RX10 7 mX10_lay 1 := ⟨Or.inl w_918, w_922, w_98, ⟨by decide +kernel, by decide +kernel, by decide +kernel⟩, by decide⟩
theorem cs_RX1_30 : xCw RX1 30 mX1_hasFact 2 := ⟨Or.inl w_436, w_439, w_96, ⟨by decide +kernel, by decide +kernel, by decide +kernel⟩, by decide⟩
theorem cs_RX2_51 : xCw RX2 51 mX9_cut 2 := ⟨Or.inr ⟨_, w_456⟩, w_458, w_87, ⟨by decide +kernel, by decide +kernel, by decide +kernel⟩, by decide⟩
theorem cs_RX2_55 : xCw RX2 55 mX2_rateOf 1 := ⟨Or.inl w_467, w_451, w_88, ⟨by decide +kernel, by decide +kernel, by decide +kernel⟩, by decide⟩
theorem cs_RX2_60 : xCw RX2 60 mX2_chanceOf 1 := ⟨Or.inl w_492, w_466, w_88, ⟨by decide +kernel, by decide +kernel, by decide +kernel⟩, by decide⟩
theorem cs_RX3_37 : xCw RX3 37 mX3_isOpenOn 2 := ⟨Or.inl w_424, w_427, w_89, ⟨by decide +kernel, by decide +kernel, by decide +kernel⟩, by decide⟩
theorem cs_RX3_41 : xCw RX3 41 mX3_close 2 := ⟨Or.inl w_428, w_431, w_89, ⟨by decide +kernel, by decide +kernel, by decide +kernel⟩, by decide⟩
theorem cs_RX3_45 : xCw RX3 45 mX9_cut 2 := ⟨Or.inr ⟨_, w_525⟩, w_458, w_87, ⟨by decide +kernel, by decide +kernel, by decide +kernel⟩, by decide⟩
theorem cs_RX3_49 : xCw RX3 49 mX3_weightOf 1 := ⟨Or.inl w_538, w_524, w_89, ⟨by decide +kernel, by decide +kernel, by decide +kernel⟩, by decide⟩
theorem cs_RX4_22 : xCw RX4 22 mX9_cut 2 := ⟨Or.inr ⟨_, w_766⟩, w_458, w_87, ⟨by decide +kernel, by decide +kernel, by decide +kernel⟩, by decide⟩
theorem cs_RX4_26 : xCw RX4 26 mX4_shiftOf 1 := ⟨Or.inl w_762, w_765, w_90, ⟨by decide +kernel, by decide +kernel, by decide +kernel⟩, by decide⟩
theorem cs_RX4_39 : xCw RX4 39 mX4_onScale 2 := ⟨Or.inl w_758, w_761, w_90, ⟨by decide +kernel, by decide +kernel, by decide +kernel⟩, by decide⟩
theorem cs_RX5_25 : xCw RX5 25 mX8_scan 1 := ⟨Or.inr ⟨_, w_588⟩, w_591, w_94, ⟨by decide +kernel, by decide +kernel, by decide +kernel⟩, by decide⟩
theorem cs_RX5_29 : xCw RX5 29 mX6_clear 0 := ⟨Or.inr ⟨_, w_697⟩, w_700, w_95, ⟨by decide +kernel, by decide +kernel, by decide +kernel⟩, by decide⟩
theorem cs_RX5_39 : xCw RX5 39 mX5_token 0 := ⟨Or.inl w_701, w_704, w_93, ⟨by decide +kernel, by decide +kernel, by decide +kernel⟩, by decide⟩
theorem cs_RX5_43 : xCw RX5 43 mX5_parseLine 1 := ⟨Or.inl w_705, w_708, w_93, ⟨by decide +kernel, by decide +kernel, by decide +kernel⟩, by decide⟩
theorem cs_RX5_47 : xCw RX5 47 mX5_refuse 1 := ⟨Or.inl w_709, w_712, w_93, ⟨by decide +kernel, by decide +kernel, by decide +kernel⟩, by decide⟩
theorem cs_RX5_54 : xCw RX5 54 mX5_pass 1 := ⟨Or.inl w_713, w_716, w_93, ⟨by decide +kernel, by decide +kernel, by decide +kernel⟩, by decide⟩
theorem cs_RX5_57 : xCw RX5 57 mX5_parseJoined 2 := ⟨Or.inl w_717, w_720, w_93, ⟨by decide +kernel, by decide +kernel, by decide +kernel⟩, by decide⟩
theorem cs_RX5_61 : xCw RX5 61 mX6_endLine 1 := ⟨Or.inr ⟨_, w_735⟩, w_738, w_95, ⟨by decide +kernel, by decide +kernel, by decide +kernel⟩, by decide⟩
theorem cs_RX5_65 : xCw RX5 65 mX5_parsePart 1 := ⟨Or.inl w_721, w_724, w_93, ⟨by decide +kernel, by decide +kernel, by decide +kernel⟩, by decide⟩
theorem cs_RX5_68 : xCw RX5 68 mX5_joins 1 := ⟨Or.inl w_732, w_734, w_93, ⟨by decide +kernel, by decide +kernel, by decide +kernel⟩, by decide⟩
theorem cs_RX5_72 : xCw RX5 72 mX6_add 1 := ⟨Or.inr ⟨_, w_728⟩, w_731, w_95, ⟨by decide +kernel, by decide +kernel, by decide +kernel⟩, by decide⟩
theorem cs_RX5_75 : xCw RX5 75 mX9_isName 1 := ⟨Or.inr ⟨_, w_725⟩, w_727, w_87, ⟨by decide +kernel, by decide +kernel, by decide +kernel⟩, by decide⟩
theorem cs_RX6_37 : xCw RX6 37 mX6_valueOf 3 := ⟨Or.inl w_779, w_782, w_95, ⟨by decide +kernel, by decide +kernel, by decide +kernel⟩, by decide⟩
theorem cs_RX6_41 : xCw RX6 41 mX9_isName 1 := ⟨Or.inr ⟨_, w_783⟩, w_727, w_87, ⟨by decide +kernel, by decide +kernel, by decide +kernel⟩, by decide⟩
theorem cs_RX6_45 : xCw RX6 45 mX6_joined 3 := ⟨Or.inl w_784, w_786, w_95, ⟨by decide +kernel, by decide +kernel, by decide +kernel⟩, by decide⟩
theorem cs_RX7_17 : xCw RX7 17 mX7_append 1 := ⟨Or.inl w_576, w_579, w_92, ⟨by decide +kernel, by decide +kernel, by decide +kernel⟩, by decide⟩
theorem cs_RX7_25 : xCw RX7 25 mX9_within 2 := ⟨Or.inr ⟨_, w_599⟩, w_390, w_87, ⟨by decide +kernel, by decide +kernel, by decide +kernel⟩, by decide⟩
theorem cs_RX7_29 : xCw RX7 29 mX7_isLetter 1 := ⟨Or.inl w_616, w_598, w_92, ⟨by decide +kernel, by decide +kernel, by decide +kernel⟩, by decide⟩
theorem cs_RX7_33 : xCw RX7 33 mX7_isDigit 1 := ⟨Or.inl w_689, w_603, w_92, ⟨by decide +kernel, by decide +kernel, by decide +kernel⟩, by decide⟩
theorem cs_RX7_36 : xCw RX7 36 mJ0_length_8abf5 0 := ⟨Or.inl w_625, w_628, w_104, ⟨by decide +kernel, by decide +kernel, by decide +kernel⟩, by decide⟩
theorem cs_RX7_41 : xCw RX7 41 mJ0_charAt_5068e 1 := ⟨Or.inl w_635, w_638, w_104, ⟨by decide +kernel, by decide +kernel, by decide +kernel⟩, by decide⟩
theorem cs_RX8_30 : xCw RX8 30 mX8_startsToken 2 := ⟨Or.inl w_592, w_594, w_94, ⟨by decide +kernel, by decide +kernel, by decide +kernel⟩, by decide⟩
theorem cs_RX8_34 : xCw RX8 34 mX8_addFrom 2 := ⟨Or.inl w_608, w_611, w_94, ⟨by decide +kernel, by decide +kernel, by decide +kernel⟩, by decide⟩
theorem cs_RX8_38 : xCw RX8 38 mX8_add 3 := ⟨Or.inl w_681, w_684, w_94, ⟨by decide +kernel, by decide +kernel, by decide +kernel⟩, by decide⟩
theorem cs_RX8_42 : xCw RX8 42 mX7_isLetter 1 := ⟨Or.inr ⟨_, w_595⟩, w_598, w_92, ⟨by decide +kernel, by decide +kernel, by decide +kernel⟩, by decide⟩
theorem cs_RX8_46 : xCw RX8 46 mX7_isDigit 1 := ⟨Or.inr ⟨_, w_600⟩, w_603, w_92, ⟨by decide +kernel, by decide +kernel, by decide +kernel⟩, by decide⟩
theorem cs_RX8_49 : xCw RX8 49 mX7_isBlank 1 := ⟨Or.inr ⟨_, w_604⟩, w_607, w_92, ⟨by decide +kernel, by decide +kernel, by decide +kernel⟩, by decide⟩
theorem cs_RX8_52 : xCw RX8 52 mX7_endOfLetters 1 := ⟨Or.inr ⟨_, w_612⟩, w_615, w_92, ⟨by decide +kernel, by decide +kernel, by decide +kernel⟩, by decide⟩
theorem cs_RX8_56 : xCw RX8 56 mX8_wordToken 3 := ⟨Or.inl w_617, w_619, w_94, ⟨by decide +kernel, by decide +kernel, by decide +kernel⟩, by decide⟩
theorem cs_RX8_60 : xCw RX8 60 mX7_endOfDigits 1 := ⟨Or.inr ⟨_, w_685⟩, w_688, w_92, ⟨by decide +kernel, by decide +kernel, by decide +kernel⟩, by decide⟩
theorem cs_RX8_63 : xCw RX8 63 mX8_addNumber 3 := ⟨Or.inl w_690, w_693, w_94, ⟨by decide +kernel, by decide +kernel, by decide +kernel⟩, by decide⟩
theorem cs_RX8_71 : xCw RX8 71 mX8_signToken 1 := ⟨Or.inl w_694, w_696, w_94, ⟨by decide +kernel, by decide +kernel, by decide +kernel⟩, by decide⟩
theorem cs_RX8_76 : xCw RX8 76 mX7_spells 3 := ⟨Or.inr ⟨_, w_621⟩, w_624, w_92, ⟨by decide +kernel, by decide +kernel, by decide +kernel⟩, by decide⟩
theorem cs_RX9_103 : xCw RX9 103 mX2_add 3 := ⟨Or.inr ⟨_, w_404⟩, w_407, w_88, ⟨by decide +kernel, by decide +kernel, by decide +kernel⟩, by decide⟩
theorem cs_RX9_107 : xCw RX9 107 mX2_has 1 := ⟨Or.inr ⟨_, w_412⟩, w_415, w_88, ⟨by decide +kernel, by decide +kernel, by decide +kernel⟩, by decide⟩
theorem cs_RX9_116 : xCw RX9 116 mX3_settle 2 := ⟨Or.inr ⟨_, w_420⟩, w_423, w_89, ⟨by decide +kernel, by decide +kernel, by decide +kernel⟩, by decide⟩
theorem cs_RX9_120 : xCw RX9 120 mX1_settle 2 := ⟨Or.inr ⟨_, w_432⟩, w_435, w_96, ⟨by decide +kernel, by decide +kernel, by decide +kernel⟩, by decide⟩
theorem cs_RX9_121 : xCw RX9 121 mX2_renew 2 := ⟨Or.inr ⟨_, w_440⟩, w_443, w_88, ⟨by decide +kernel, by decide +kernel, by decide +kernel⟩, by decide⟩
theorem cs_RX9_124 : xCw RX9 124 mX2_rateOf 1 := ⟨Or.inr ⟨_, w_448⟩, w_451, w_88, ⟨by decide +kernel, by decide +kernel, by decide +kernel⟩, by decide⟩
theorem cs_RX9_128 : xCw RX9 128 mX2_chanceOf 1 := ⟨Or.inr ⟨_, w_463⟩, w_466, w_88, ⟨by decide +kernel, by decide +kernel, by decide +kernel⟩, by decide⟩
theorem cs_RX9_131 : xCw RX9 131 mX9_placesFor 1 := ⟨Or.inl w_476, w_479, w_87, ⟨by decide +kernel, by decide +kernel, by decide +kernel⟩, by decide⟩
theorem cs_RX9_135 : xCw RX9 135 mX9_doubtOfSet 1 := ⟨Or.inl w_502, w_505, w_87, ⟨by decide +kernel, by decide +kernel, by decide +kernel⟩, by decide⟩
theorem cs_RX9_139 : xCw RX9 139 mX9_isReader 1 := ⟨Or.inl w_510, w_512, w_87, ⟨by decide +kernel, by decide +kernel, by decide +kernel⟩, by decide⟩
theorem cs_RX9_143 : xCw RX9 143 mX3_add 3 := ⟨Or.inr ⟨_, w_513⟩, w_516, w_89, ⟨by decide +kernel, by decide +kernel, by decide +kernel⟩, by decide⟩
theorem cs_RX9_144 : xCw RX9 144 mX3_weightOf 1 := ⟨Or.inr ⟨_, w_521⟩, w_524, w_89, ⟨by decide +kernel, by decide +kernel, by decide +kernel⟩, by decide⟩
theorem cs_RX9_147 : xCw RX9 147 mX9_beliefOf 1 := ⟨Or.inl w_530, w_533, w_87, ⟨by decide +kernel, by decide +kernel, by decide +kernel⟩, by decide⟩
theorem cs_RX9_150 : xCw RX9 150 mX3_differOn 1 := ⟨Or.inr ⟨_, w_544⟩, w_547, w_89, ⟨by decide +kernel, by decide +kernel, by decide +kernel⟩, by decide⟩
theorem cs_RX9_153 : xCw RX9 153 mX3_has 1 := ⟨Or.inr ⟨_, w_552⟩, w_555, w_89, ⟨by decide +kernel, by decide +kernel, by decide +kernel⟩, by decide⟩
theorem cs_RX9_157 : xCw RX9 157 mX9_isWalker 1 := ⟨Or.inl w_560, w_562, w_87, ⟨by decide +kernel, by decide +kernel, by decide +kernel⟩, by decide⟩
theorem cs_RX9_171 : xCw RX9 171 mX4_shiftOf 1 := ⟨Or.inr ⟨_, w_900⟩, w_765, w_90, ⟨by decide +kernel, by decide +kernel, by decide +kernel⟩, by decide⟩
theorem cs_RX9_174 : xCw RX9 174 mX7_appendBytes 1 := ⟨Or.inr ⟨_, w_571⟩, w_574, w_92, ⟨by decide +kernel, by decide +kernel, by decide +kernel⟩, by decide⟩
theorem cs_RX9_180 : xCw RX9 180 mX5_parse 1 := ⟨Or.inr ⟨_, w_584⟩, w_587, w_93, ⟨by decide +kernel, by decide +kernel, by decide +kernel⟩, by decide⟩
theorem cs_RX9_187 : xCw RX9 187 mX6_copy 1 := ⟨Or.inr ⟨_, w_739⟩, w_742, w_95, ⟨by decide +kernel, by decide +kernel, by decide +kernel⟩, by decide⟩
theorem cs_RX9_191 : xCw RX9 191 mX9_starsOf 1 := ⟨Or.inl w_750, w_753, w_87, ⟨by decide +kernel, by decide +kernel, by decide +kernel⟩, by decide⟩
theorem cs_RX9_197 : xCw RX9 197 mX9_linesKept 2 := ⟨Or.inl w_791, w_794, w_87, ⟨by decide +kernel, by decide +kernel, by decide +kernel⟩, by decide⟩
theorem cs_RX9_203 : xCw RX9 203 mJ13_bitCount_95d88 1 := ⟨Or.inl w_796, w_798, w_109, ⟨by decide +kernel, by decide +kernel, by decide +kernel⟩, by decide⟩
theorem cs_RX9_209 : xCw RX9 209 mX1_start 1 := ⟨Or.inr ⟨_, w_806⟩, w_809, w_96, ⟨by decide +kernel, by decide +kernel, by decide +kernel⟩, by decide⟩
theorem cs_RX9_218 : xCw RX9 218 mX1_has 1 := ⟨Or.inr ⟨_, w_814⟩, w_817, w_96, ⟨by decide +kernel, by decide +kernel, by decide +kernel⟩, by decide⟩
theorem cs_RX9_219 : xCw RX9 219 mX1_hasFact 2 := ⟨Or.inr ⟨_, w_818⟩, w_439, w_96, ⟨by decide +kernel, by decide +kernel, by decide +kernel⟩, by decide⟩
theorem cs_RX9_245 : xCw RX9 245 mX0_open 1 := ⟨Or.inr ⟨_, w_480⟩, w_483, w_97, ⟨by decide +kernel, by decide +kernel, by decide +kernel⟩, by decide⟩
theorem cs_RX9_248 : xCw RX9 248 mX2_doubtOf 1 := ⟨Or.inr ⟨_, w_487⟩, w_490, w_88, ⟨by decide +kernel, by decide +kernel, by decide +kernel⟩, by decide⟩
theorem cs_RX9_251 : xCw RX9 251 mX0_offer 4 := ⟨Or.inr ⟨_, w_493⟩, w_496, w_97, ⟨by decide +kernel, by decide +kernel, by decide +kernel⟩, by decide⟩
theorem cs_RX9_255 : xCw RX9 255 mX0_picked 0 := ⟨Or.inr ⟨_, w_498⟩, w_501, w_97, ⟨by decide +kernel, by decide +kernel, by decide +kernel⟩, by decide⟩
theorem cs_RX9_259 : xCw RX9 259 mX3_weightFor 2 := ⟨Or.inr ⟨_, w_534⟩, w_537, w_89, ⟨by decide +kernel, by decide +kernel, by decide +kernel⟩, by decide⟩
theorem cs_RX9_266 : xCw RX9 266 mX3_isOpenOn 2 := ⟨Or.inr ⟨_, w_539⟩, w_427, w_89, ⟨by decide +kernel, by decide +kernel, by decide +kernel⟩, by decide⟩
theorem cs_RX9_269 : xCw RX9 269 mX4_describe 2 := ⟨Or.inr ⟨_, w_754⟩, w_757, w_90, ⟨by decide +kernel, by decide +kernel, by decide +kernel⟩, by decide⟩
theorem cs_RX9_273 : xCw RX9 273 mX2_countOf 1 := ⟨Or.inr ⟨_, w_771⟩, w_774, w_88, ⟨by decide +kernel, by decide +kernel, by decide +kernel⟩, by decide⟩
theorem cs_RX9_276 : xCw RX9 276 mX6_starsFor 1 := ⟨Or.inr ⟨_, w_775⟩, w_778, w_95, ⟨by decide +kernel, by decide +kernel, by decide +kernel⟩, by decide⟩
theorem cs_RX9_82 : xCw RX9 82 mX9_within 2 := ⟨Or.inl w_388, w_390, w_87, ⟨by decide +kernel, by decide +kernel, by decide +kernel⟩, by decide⟩
theorem cs_RX9_90 : xCw RX9 90 mX9_isKind 1 := ⟨Or.inl w_395, w_397, w_87, ⟨by decide +kernel, by decide +kernel, by decide +kernel⟩, by decide⟩
theorem cs_RX9_94 : xCw RX9 94 mX9_isPlace 1 := ⟨Or.inl w_398, w_400, w_87, ⟨by decide +kernel, by decide +kernel, by decide +kernel⟩, by decide⟩
theorem cs_RX9_97 : xCw RX9 97 mX9_isValue 1 := ⟨Or.inl w_401, w_403, w_87, ⟨by decide +kernel, by decide +kernel, by decide +kernel⟩, by decide⟩
theorem fl_RX0_15 : xFl RX0 15 TX0 1 := Or.inl ⟨List.mem_of_getElem? (i := 338) (by decide +kernel), by decide +kernel⟩
theorem fl_RX0_18 : xFl RX0 18 TX0 2 := Or.inl ⟨List.mem_of_getElem? (i := 339) (by decide +kernel), by decide +kernel⟩
theorem fl_RX0_9 : xFl RX0 9 TX0 0 := Or.inl ⟨List.mem_of_getElem? (i := 337) (by decide +kernel), by decide +kernel⟩
theorem fl_RX10_1 : xFl RX10 1 TX10 0 := Or.inl ⟨List.mem_of_getElem? (i := 937) (by decide +kernel), by decide +kernel⟩
theorem fl_RX10_100 : xFl RX10 100 TX10 31 := Or.inl ⟨List.mem_of_getElem? (i := 968) (by decide +kernel), by decide +kernel⟩
theorem fl_RX10_103 : xFl RX10 103 TX10 32 := Or.inl ⟨List.mem_of_getElem? (i := 969) (by decide +kernel), by decide +kernel⟩
theorem fl_RX10_106 : xFl RX10 106 TX10 33 := Or.inl ⟨List.mem_of_getElem? (i := 970) (by decide +kernel), by decide +kernel⟩
theorem fl_RX10_109 : xFl RX10 109 TX10 34 := Or.inl ⟨List.mem_of_getElem? (i := 971) (by decide +kernel), by decide +kernel⟩
theorem fl_RX10_11 : xFl RX10 11 TX10 2 := Or.inl ⟨List.mem_of_getElem? (i := 939) (by decide +kernel), by decide +kernel⟩
theorem fl_RX10_112 : xFl RX10 112 TX10 35 := Or.inl ⟨List.mem_of_getElem? (i := 972) (by decide +kernel), by decide +kernel⟩
theorem fl_RX10_115 : xFl RX10 115 TX10 37 := Or.inl ⟨List.mem_of_getElem? (i := 974) (by decide +kernel), by decide +kernel⟩
theorem fl_RX10_118 : xFl RX10 118 TX10 38 := Or.inl ⟨List.mem_of_getElem? (i := 975) (by decide +kernel), by decide +kernel⟩
theorem fl_RX10_121 : xFl RX10 121 TX10 39 := Or.inl ⟨List.mem_of_getElem? (i := 976) (by decide +kernel), by decide +kernel⟩
theorem fl_RX10_124 : xFl RX10 124 TX10 40 := Or.inl ⟨List.mem_of_getElem? (i := 977) (by decide +kernel), by decide +kernel⟩
theorem fl_RX10_127 : xFl RX10 127 TX10 41 := Or.inl ⟨List.mem_of_getElem? (i := 978) (by decide +kernel), by decide +kernel⟩
theorem fl_RX10_130 : xFl RX10 130 TX10 42 := Or.inl ⟨List.mem_of_getElem? (i := 979) (by decide +kernel), by decide +kernel⟩
theorem fl_RX10_134 : xFl RX10 134 TX10 44 := Or.inl ⟨List.mem_of_getElem? (i := 981) (by decide +kernel), by decide +kernel⟩
theorem fl_RX10_137 : xFl RX10 137 TX10 45 := Or.inl ⟨List.mem_of_getElem? (i := 982) (by decide +kernel), by decide +kernel⟩
theorem fl_RX10_14 : xFl RX10 14 TX10 1 := Or.inl ⟨List.mem_of_getElem? (i := 938) (by decide +kernel), by decide +kernel⟩
theorem fl_RX10_140 : xFl RX10 140 TX10 46 := Or.inl ⟨List.mem_of_getElem? (i := 983) (by decide +kernel), by decide +kernel⟩
theorem fl_RX10_143 : xFl RX10 143 TX10 48 := Or.inl ⟨List.mem_of_getElem? (i := 985) (by decide +kernel), by decide +kernel⟩
theorem fl_RX10_146 : xFl RX10 146 TX10 49 := Or.inl ⟨List.mem_of_getElem? (i := 986) (by decide +kernel), by decide +kernel⟩
theorem fl_RX10_149 : xFl RX10 149 TX10 50 := Or.inl ⟨List.mem_of_getElem? (i := 987) (by decide +kernel), by decide +kernel⟩
theorem fl_RX10_156 : xFl RX10 156 TX10 3 := Or.inl ⟨List.mem_of_getElem? (i := 940) (by decide +kernel), by decide +kernel⟩
theorem fl_RX10_175 : xFl RX10 175 TX10 7 := Or.inl ⟨List.mem_of_getElem? (i := 944) (by decide +kernel), by decide +kernel⟩
theorem fl_RX10_178 : xFl RX10 178 TX10 8 := Or.inl ⟨List.mem_of_getElem? (i := 945) (by decide +kernel), by decide +kernel⟩
theorem fl_RX10_194 : xFl RX10 194 TX10 16 := Or.inl ⟨List.mem_of_getElem? (i := 953) (by decide +kernel), by decide +kernel⟩
theorem fl_RX10_197 : xFl RX10 197 TX10 17 := Or.inl ⟨List.mem_of_getElem? (i := 954) (by decide +kernel), by decide +kernel⟩
theorem fl_RX10_203 : xFl RX10 203 TX10 15 := Or.inl ⟨List.mem_of_getElem? (i := 952) (by decide +kernel), by decide +kernel⟩
theorem fl_RX10_214 : xFl RX10 214 TX10 18 := Or.inl ⟨List.mem_of_getElem? (i := 955) (by decide +kernel), by decide +kernel⟩
theorem fl_RX10_24 : xFl RX10 24 TX10 4 := Or.inl ⟨List.mem_of_getElem? (i := 941) (by decide +kernel), by decide +kernel⟩
theorem fl_RX10_241 : xFl RX10 241 TX10 24 := Or.inl ⟨List.mem_of_getElem? (i := 961) (by decide +kernel), by decide +kernel⟩
theorem fl_RX10_250 : xFl RX10 250 TX10 25 := Or.inl ⟨List.mem_of_getElem? (i := 962) (by decide +kernel), by decide +kernel⟩
theorem fl_RX10_264 : xFl RX10 264 TX10 36 := Or.inl ⟨List.mem_of_getElem? (i := 973) (by decide +kernel), by decide +kernel⟩
theorem fl_RX10_27 : xFl RX10 27 TX10 5 := Or.inl ⟨List.mem_of_getElem? (i := 942) (by decide +kernel), by decide +kernel⟩
theorem fl_RX10_30 : xFl RX10 30 TX10 6 := Or.inl ⟨List.mem_of_getElem? (i := 943) (by decide +kernel), by decide +kernel⟩
theorem fl_RX10_303 : xFl RX10 303 TX10 43 := Or.inl ⟨List.mem_of_getElem? (i := 980) (by decide +kernel), by decide +kernel⟩
theorem fl_RX10_312 : xFl RX10 312 TX10 47 := Or.inl ⟨List.mem_of_getElem? (i := 984) (by decide +kernel), by decide +kernel⟩
theorem fl_RX10_52 : xFl RX10 52 TX10 9 := Or.inl ⟨List.mem_of_getElem? (i := 946) (by decide +kernel), by decide +kernel⟩
theorem fl_RX10_55 : xFl RX10 55 TX10 10 := Or.inl ⟨List.mem_of_getElem? (i := 947) (by decide +kernel), by decide +kernel⟩
theorem fl_RX10_58 : xFl RX10 58 TX10 11 := Or.inl ⟨List.mem_of_getElem? (i := 948) (by decide +kernel), by decide +kernel⟩
theorem fl_RX10_61 : xFl RX10 61 TX10 12 := Or.inl ⟨List.mem_of_getElem? (i := 949) (by decide +kernel), by decide +kernel⟩
theorem fl_RX10_64 : xFl RX10 64 TX10 13 := Or.inl ⟨List.mem_of_getElem? (i := 950) (by decide +kernel), by decide +kernel⟩
theorem fl_RX10_67 : xFl RX10 67 TX10 14 := Or.inl ⟨List.mem_of_getElem? (i := 951) (by decide +kernel), by decide +kernel⟩
theorem fl_RX10_70 : xFl RX10 70 TX10 19 := Or.inl ⟨List.mem_of_getElem? (i := 956) (by decide +kernel), by decide +kernel⟩
theorem fl_RX10_73 : xFl RX10 73 TX10 20 := Or.inl ⟨List.mem_of_getElem? (i := 957) (by decide +kernel), by decide +kernel⟩
theorem fl_RX10_76 : xFl RX10 76 TX10 21 := Or.inl ⟨List.mem_of_getElem? (i := 958) (by decide +kernel), by decide +kernel⟩
theorem fl_RX10_79 : xFl RX10 79 TX10 22 := Or.inl ⟨List.mem_of_getElem? (i := 959) (by decide +kernel), by decide +kernel⟩
theorem fl_RX10_82 : xFl RX10 82 TX10 23 := Or.inl ⟨List.mem_of_getElem? (i := 960) (by decide +kernel), by decide +kernel⟩
theorem fl_RX10_85 : xFl RX10 85 TX10 26 := Or.inl ⟨List.mem_of_getElem? (i := 963) (by decide +kernel), by decide +kernel⟩
theorem fl_RX10_88 : xFl RX10 88 TX10 27 := Or.inl ⟨List.mem_of_getElem? (i := 964) (by decide +kernel), by decide +kernel⟩
theorem fl_RX10_91 : xFl RX10 91 TX10 28 := Or.inl ⟨List.mem_of_getElem? (i := 965) (by decide +kernel), by decide +kernel⟩
theorem fl_RX10_94 : xFl RX10 94 TX10 29 := Or.inl ⟨List.mem_of_getElem? (i := 966) (by decide +kernel), by decide +kernel⟩
theorem fl_RX10_97 : xFl RX10 97 TX10 30 := Or.inl ⟨List.mem_of_getElem? (i := 967) (by decide +kernel), by decide +kernel⟩
theorem fl_RX1_11 : xFl RX1 11 TX1 0 := Or.inl ⟨List.mem_of_getElem? (i := 310) (by decide +kernel), by decide +kernel⟩
theorem fl_RX1_16 : xFl RX1 16 TX1 1 := Or.inl ⟨List.mem_of_getElem? (i := 312) (by decide +kernel), by decide +kernel⟩
theorem fl_RX1_22 : xFl RX1 22 TX1 3 := Or.inl ⟨List.mem_of_getElem? (i := 316) (by decide +kernel), by decide +kernel⟩
theorem fl_RX1_26 : xFl RX1 26 TX1 4 := Or.inl ⟨List.mem_of_getElem? (i := 318) (by decide +kernel), by decide +kernel⟩
theorem fl_RX2_15 : xFl RX2 15 TX2 1 := Or.inl ⟨List.mem_of_getElem? (i := 126) (by decide +kernel), by decide +kernel⟩
theorem fl_RX2_18 : xFl RX2 18 TX2 2 := Or.inl ⟨List.mem_of_getElem? (i := 128) (by decide +kernel), by decide +kernel⟩
theorem fl_RX2_21 : xFl RX2 21 TX2 3 := Or.inl ⟨List.mem_of_getElem? (i := 130) (by decide +kernel), by decide +kernel⟩
theorem fl_RX2_24 : xFl RX2 24 TX2 4 := Or.inl ⟨List.mem_of_getElem? (i := 132) (by decide +kernel), by decide +kernel⟩
theorem fl_RX2_27 : xFl RX2 27 TX2 5 := Or.inl ⟨List.mem_of_getElem? (i := 134) (by decide +kernel), by decide +kernel⟩
theorem fl_RX2_30 : xFl RX2 30 TX2 6 := Or.inl ⟨List.mem_of_getElem? (i := 136) (by decide +kernel), by decide +kernel⟩
theorem fl_RX2_33 : xFl RX2 33 TX2 7 := Or.inl ⟨List.mem_of_getElem? (i := 137) (by decide +kernel), by decide +kernel⟩
theorem fl_RX2_36 : xFl RX2 36 TX2 8 := Or.inl ⟨List.mem_of_getElem? (i := 138) (by decide +kernel), by decide +kernel⟩
theorem fl_RX2_40 : xFl RX2 40 TX2 9 := Or.inl ⟨List.mem_of_getElem? (i := 141) (by decide +kernel), by decide +kernel⟩
theorem fl_RX2_9 : xFl RX2 9 TX2 0 := Or.inl ⟨List.mem_of_getElem? (i := 124) (by decide +kernel), by decide +kernel⟩
theorem fl_RX3_15 : xFl RX3 15 TX3 1 := Or.inl ⟨List.mem_of_getElem? (i := 171) (by decide +kernel), by decide +kernel⟩
theorem fl_RX3_18 : xFl RX3 18 TX3 2 := Or.inl ⟨List.mem_of_getElem? (i := 172) (by decide +kernel), by decide +kernel⟩
theorem fl_RX3_21 : xFl RX3 21 TX3 3 := Or.inl ⟨List.mem_of_getElem? (i := 174) (by decide +kernel), by decide +kernel⟩
theorem fl_RX3_24 : xFl RX3 24 TX3 4 := Or.inl ⟨List.mem_of_getElem? (i := 176) (by decide +kernel), by decide +kernel⟩
theorem fl_RX3_27 : xFl RX3 27 TX3 5 := Or.inl ⟨List.mem_of_getElem? (i := 177) (by decide +kernel), by decide +kernel⟩
theorem fl_RX3_30 : xFl RX3 30 TX3 6 := Or.inl ⟨List.mem_of_getElem? (i := 178) (by decide +kernel), by decide +kernel⟩
theorem fl_RX3_34 : xFl RX3 34 TX3 7 := Or.inl ⟨List.mem_of_getElem? (i := 180) (by decide +kernel), by decide +kernel⟩
theorem fl_RX3_9 : xFl RX3 9 TX3 0 := Or.inl ⟨List.mem_of_getElem? (i := 170) (by decide +kernel), by decide +kernel⟩
theorem fl_RX4_11 : xFl RX4 11 TX4 0 := Or.inl ⟨List.mem_of_getElem? (i := 210) (by decide +kernel), by decide +kernel⟩
theorem fl_RX5_12 : xFl RX5 12 TX5 0 := Or.inl ⟨List.mem_of_getElem? (i := 287) (by decide +kernel), by decide +kernel⟩
theorem fl_RX5_21 : xFl RX5 21 TX5 1 := Or.inl ⟨List.mem_of_getElem? (i := 288) (by decide +kernel), by decide +kernel⟩
theorem fl_RX5_32 : xFl RX5 32 TX5 2 := Or.inl ⟨List.mem_of_getElem? (i := 290) (by decide +kernel), by decide +kernel⟩
theorem fl_RX5_36 : xFl RX5 36 TX5 3 := Or.inl ⟨List.mem_of_getElem? (i := 291) (by decide +kernel), by decide +kernel⟩
theorem fl_RX5_50 : xFl RX5 50 TX8 2 := Or.inr ⟨"GuideBook", List.mem_of_getElem? (i := 249) (by decide +kernel), by decide +kernel⟩
theorem fl_RX5_78 : xFl RX5 78 TX8 3 := Or.inr ⟨"GuideBook", List.mem_of_getElem? (i := 251) (by decide +kernel), by decide +kernel⟩
theorem fl_RX5_81 : xFl RX5 81 TX8 0 := Or.inr ⟨"GuideBook", List.mem_of_getElem? (i := 245) (by decide +kernel), by decide +kernel⟩
theorem fl_RX5_84 : xFl RX5 84 TX8 1 := Or.inr ⟨"GuideBook", List.mem_of_getElem? (i := 247) (by decide +kernel), by decide +kernel⟩
theorem fl_RX6_15 : xFl RX6 15 TX6 1 := Or.inl ⟨List.mem_of_getElem? (i := 268) (by decide +kernel), by decide +kernel⟩
theorem fl_RX6_18 : xFl RX6 18 TX6 2 := Or.inl ⟨List.mem_of_getElem? (i := 269) (by decide +kernel), by decide +kernel⟩
theorem fl_RX6_21 : xFl RX6 21 TX6 3 := Or.inl ⟨List.mem_of_getElem? (i := 270) (by decide +kernel), by decide +kernel⟩
theorem fl_RX6_24 : xFl RX6 24 TX6 4 := Or.inl ⟨List.mem_of_getElem? (i := 271) (by decide +kernel), by decide +kernel⟩
theorem fl_RX6_28 : xFl RX6 28 TX6 5 := Or.inl ⟨List.mem_of_getElem? (i := 272) (by decide +kernel), by decide +kernel⟩
theorem fl_RX6_9 : xFl RX6 9 TX6 0 := Or.inl ⟨List.mem_of_getElem? (i := 267) (by decide +kernel), by decide +kernel⟩
theorem fl_RX7_21 : xFl RX7 21 TX7 1 := Or.inl ⟨List.mem_of_getElem? (i := 224) (by decide +kernel), by decide +kernel⟩
theorem fl_RX7_9 : xFl RX7 9 TX7 0 := Or.inl ⟨List.mem_of_getElem? (i := 221) (by decide +kernel), by decide +kernel⟩
theorem fl_RX8_15 : xFl RX8 15 TX8 1 := Or.inl ⟨List.mem_of_getElem? (i := 246) (by decide +kernel), by decide +kernel⟩
theorem fl_RX8_18 : xFl RX8 18 TX8 2 := Or.inl ⟨List.mem_of_getElem? (i := 248) (by decide +kernel), by decide +kernel⟩
theorem fl_RX8_21 : xFl RX8 21 TX8 3 := Or.inl ⟨List.mem_of_getElem? (i := 250) (by decide +kernel), by decide +kernel⟩
theorem fl_RX8_25 : xFl RX8 25 TX7 1 := Or.inr ⟨"GuideBook", List.mem_of_getElem? (i := 223) (by decide +kernel), by decide +kernel⟩
theorem fl_RX8_67 : xFl RX8 67 TX7 0 := Or.inr ⟨"GuideBook", List.mem_of_getElem? (i := 222) (by decide +kernel), by decide +kernel⟩
theorem fl_RX8_9 : xFl RX8 9 TX8 0 := Or.inl ⟨List.mem_of_getElem? (i := 244) (by decide +kernel), by decide +kernel⟩
theorem fl_RX9_100 : xFl RX9 100 TX2 8 := Or.inr ⟨"GuideBook", List.mem_of_getElem? (i := 139) (by decide +kernel), by decide +kernel⟩
theorem fl_RX9_110 : xFl RX9 110 TX2 4 := Or.inr ⟨"GuideBook", List.mem_of_getElem? (i := 133) (by decide +kernel), by decide +kernel⟩
theorem fl_RX9_113 : xFl RX9 113 TX2 5 := Or.inr ⟨"GuideBook", List.mem_of_getElem? (i := 135) (by decide +kernel), by decide +kernel⟩
theorem fl_RX9_12 : xFl RX9 12 TX9 0 := Or.inl ⟨List.mem_of_getElem? (i := 349) (by decide +kernel), by decide +kernel⟩
theorem fl_RX9_142 : xFl RX9 142 TX3 6 := Or.inr ⟨"GuideBook", List.mem_of_getElem? (i := 179) (by decide +kernel), by decide +kernel⟩
theorem fl_RX9_154 : xFl RX9 154 TX3 3 := Or.inr ⟨"GuideBook", List.mem_of_getElem? (i := 175) (by decide +kernel), by decide +kernel⟩
theorem fl_RX9_160 : xFl RX9 160 TX4 0 := Or.inr ⟨"GuideBook", List.mem_of_getElem? (i := 211) (by decide +kernel), by decide +kernel⟩
theorem fl_RX9_178 : xFl RX9 178 TX7 1 := Or.inr ⟨"GuideBook", List.mem_of_getElem? (i := 225) (by decide +kernel), by decide +kernel⟩
theorem fl_RX9_184 : xFl RX9 184 TX5 1 := Or.inr ⟨"GuideBook", List.mem_of_getElem? (i := 289) (by decide +kernel), by decide +kernel⟩
theorem fl_RX9_19 : xFl RX9 19 TX9 1 := Or.inl ⟨List.mem_of_getElem? (i := 350) (by decide +kernel), by decide +kernel⟩
theorem fl_RX9_194 : xFl RX9 194 TX2 1 := Or.inr ⟨"GuideBook", List.mem_of_getElem? (i := 127) (by decide +kernel), by decide +kernel⟩
theorem fl_RX9_208 : xFl RX9 208 TX1 4 := Or.inr ⟨"GuideBook", List.mem_of_getElem? (i := 319) (by decide +kernel), by decide +kernel⟩
theorem fl_RX9_212 : xFl RX9 212 TX1 0 := Or.inr ⟨"GuideBook", List.mem_of_getElem? (i := 311) (by decide +kernel), by decide +kernel⟩
theorem fl_RX9_215 : xFl RX9 215 TX1 2 := Or.inr ⟨"GuideBook", List.mem_of_getElem? (i := 315) (by decide +kernel), by decide +kernel⟩
theorem fl_RX9_222 : xFl RX9 222 TX1 3 := Or.inr ⟨"GuideBook", List.mem_of_getElem? (i := 317) (by decide +kernel), by decide +kernel⟩
theorem fl_RX9_224 : xFl RX9 224 TX2 0 := Or.inr ⟨"GuideBook", List.mem_of_getElem? (i := 125) (by decide +kernel), by decide +kernel⟩
theorem fl_RX9_227 : xFl RX9 227 TX1 1 := Or.inr ⟨"GuideBook", List.mem_of_getElem? (i := 313) (by decide +kernel), by decide +kernel⟩
theorem fl_RX9_229 : xFl RX9 229 TX3 7 := Or.inr ⟨"GuideBook", List.mem_of_getElem? (i := 181) (by decide +kernel), by decide +kernel⟩
theorem fl_RX9_232 : xFl RX9 232 TX6 5 := Or.inr ⟨"GuideBook", List.mem_of_getElem? (i := 273) (by decide +kernel), by decide +kernel⟩
theorem fl_RX9_237 : xFl RX9 237 TX2 2 := Or.inr ⟨"GuideBook", List.mem_of_getElem? (i := 129) (by decide +kernel), by decide +kernel⟩
theorem fl_RX9_240 : xFl RX9 240 TX2 3 := Or.inr ⟨"GuideBook", List.mem_of_getElem? (i := 131) (by decide +kernel), by decide +kernel⟩
theorem fl_RX9_26 : xFl RX9 26 TX9 2 := Or.inl ⟨List.mem_of_getElem? (i := 351) (by decide +kernel), by decide +kernel⟩
theorem fl_RX9_263 : xFl RX9 263 TX3 2 := Or.inr ⟨"GuideBook", List.mem_of_getElem? (i := 173) (by decide +kernel), by decide +kernel⟩
theorem fl_RX9_33 : xFl RX9 33 TX9 3 := Or.inl ⟨List.mem_of_getElem? (i := 352) (by decide +kernel), by decide +kernel⟩
theorem fl_RX9_40 : xFl RX9 40 TX9 4 := Or.inl ⟨List.mem_of_getElem? (i := 353) (by decide +kernel), by decide +kernel⟩
theorem fl_RX9_47 : xFl RX9 47 TX9 5 := Or.inl ⟨List.mem_of_getElem? (i := 354) (by decide +kernel), by decide +kernel⟩
theorem fl_RX9_54 : xFl RX9 54 TX9 6 := Or.inl ⟨List.mem_of_getElem? (i := 355) (by decide +kernel), by decide +kernel⟩
theorem fl_RX9_61 : xFl RX9 61 TX9 7 := Or.inl ⟨List.mem_of_getElem? (i := 356) (by decide +kernel), by decide +kernel⟩
theorem fl_RX9_65 : xFl RX9 65 TX9 8 := Or.inl ⟨List.mem_of_getElem? (i := 357) (by decide +kernel), by decide +kernel⟩
theorem fl_RX9_69 : xFl RX9 69 TX9 9 := Or.inl ⟨List.mem_of_getElem? (i := 358) (by decide +kernel), by decide +kernel⟩
theorem fl_RX9_73 : xFl RX9 73 TX9 10 := Or.inl ⟨List.mem_of_getElem? (i := 359) (by decide +kernel), by decide +kernel⟩
theorem fl_RX9_86 : xFl RX9 86 TX2 9 := Or.inr ⟨"GuideBook", List.mem_of_getElem? (i := 140) (by decide +kernel), by decide +kernel⟩
theorem wm_max_RX2_43 : xw (.methodLink RX2 43 Lib.Math.max.name) := ⟨List.mem_of_getElem? (i := 452) (by decide +kernel), by decide +kernel⟩
theorem wm_max_RX4_36 : xw (.methodLink RX4 36 Lib.Math.max.name) := ⟨List.mem_of_getElem? (i := 770) (by decide +kernel), by decide +kernel⟩
theorem wm_min_RX4_30 : xw (.methodLink RX4 30 Lib.Math.min.name) := ⟨List.mem_of_getElem? (i := 767) (by decide +kernel), by decide +kernel⟩
theorem wmc_max : xw (.code Lib.Math.max.name Lib.Math.max.code 2 (some .int)) := ⟨List.mem_of_getElem? (i := 454) (by decide +kernel), by decide +kernel⟩
theorem wmc_min : xw (.code Lib.Math.min.name Lib.Math.min.code 2 (some .int)) := ⟨List.mem_of_getElem? (i := 769) (by decide +kernel), by decide +kernel⟩
theorem wms_max : xw (.static Lib.Math.max.name) := ⟨List.mem_of_getElem? (i := 453) (by decide +kernel), by decide +kernel⟩
theorem wms_min : xw (.static Lib.Math.min.name) := ⟨List.mem_of_getElem? (i := 768) (by decide +kernel), by decide +kernel⟩
