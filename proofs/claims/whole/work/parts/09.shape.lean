def xnn : Nat := 126
def xshL : List (Nat × Nat × List Nat) := [(5, 9, [2, 11, 18, 30, 32, 42, 47, 82, 85, 86, 87]), (5, 2, [3, 4, 5, 6, 7, 8, 9, 10, 0, 0]), (0, 60, []), (0, 60, []), (0, 60, []), (0, 60, []), (0, 60, []), (0, 60, []), (0, 6, []), (0, 6, []), (5, 3, [12, 13, 14, 15, 16, 17, 0, 0]), (0, 100, []), (0, 100, []), (0, 100, []), (0, 100, []), (0, 20, []), (0, 20, []), (5, 4, [19]), (4, 10, [19]), (0, 5, []), (0, 5, []), (0, 5, []), (0, 5, []), (0, 5, []), (0, 5, []), (0, 5, []), (0, 5, []), (0, 5, []), (0, 5, []), (5, 7, [31, 0]), (1, 600, []), (5, 5, [33, 37, 0, 0]), (5, 8, [34, 35, 36, 0]), (0, 601, []), (0, 601, []), (0, 601, []), (5, 6, [38, 39, 40, 41, 0, 0]), (0, 600, []), (0, 16, []), (0, 16, []), (0, 32, []), (5, 6, [43, 44, 45, 46, 0, 0]), (0, 600, []), (0, 16, []), (0, 16, []), (0, 32, []), (5, 1, [48, 59, 70, 81, 0]), (4, 10, [48]), (0, 60, []), (0, 60, []), (0, 60, []), (0, 60, []), (0, 60, []), (0, 60, []), (0, 60, []), (0, 60, []), (0, 60, []), (0, 60, []), (4, 10, [59]), (0, 60, []), (0, 60, []), (0, 60, []), (0, 60, []), (0, 60, []), (0, 60, []), (0, 60, []), (0, 60, []), (0, 60, []), (0, 60, []), (4, 10, [70]), (0, 10, []), (0, 10, []), (0, 10, []), (0, 10, []), (0, 10, []), (0, 10, []), (0, 10, []), (0, 10, []), (0, 10, []), (0, 10, []), (0, 10, []), (5, 0, [83, 84, 0]), (3, 100, []), (3, 100, []), (0, 10, []), (2, 10, []), (0, 6, []), (5, 10, [0, 89, 0, 0, 90, 91, 92, 0, 0, 93, 94, 95, 96, 97, 98, 0, 0, 0, 0, 99, 100, 101, 102, 103, 0, 0, 104, 105, 106, 107, 108, 109, 110, 111, 112, 113, 0, 114, 115, 116, 117, 118, 119, 0, 120, 121, 122, 0, 123, 124, 125]), (0, 600, []), (0, 602, []), (0, 602, []), (3, 602, []), (3, 9, []), (0, 2, []), (0, 32, []), (0, 32, []), (0, 1320, []), (0, 1320, []), (0, 7, []), (0, 7, []), (0, 7, []), (0, 6, []), (0, 660, []), (0, 60, []), (0, 60, []), (0, 60, []), (0, 60, []), (0, 60, []), (0, 60, []), (0, 6, []), (0, 6, []), (0, 10, []), (3, 10, []), (0, 100, []), (0, 100, []), (0, 100, []), (0, 100, []), (0, 50, []), (2, 10, []), (0, 60, []), (0, 6100, []), (0, 6100, []), (0, 600, []), (0, 600, []), (0, 100, []), (3, 1, [])]
def xsh (a : Nat) : Nat × Nat × List Nat := xshL.getD a (9, 0, [])
theorem sh_0 : xsh 0 = (5, 9, [2, 11, 18, 30, 32, 42, 47, 82, 85, 86, 87]) := by decide +kernel
theorem sh_1 : xsh 1 = (5, 2, [3, 4, 5, 6, 7, 8, 9, 10, 0, 0]) := by decide +kernel
theorem sh_2 : xsh 2 = (0, 60, []) := by decide +kernel
theorem sh_3 : xsh 3 = (0, 60, []) := by decide +kernel
theorem sh_4 : xsh 4 = (0, 60, []) := by decide +kernel
theorem sh_5 : xsh 5 = (0, 60, []) := by decide +kernel
theorem sh_6 : xsh 6 = (0, 60, []) := by decide +kernel
theorem sh_7 : xsh 7 = (0, 60, []) := by decide +kernel
theorem sh_8 : xsh 8 = (0, 6, []) := by decide +kernel
theorem sh_9 : xsh 9 = (0, 6, []) := by decide +kernel
theorem sh_10 : xsh 10 = (5, 3, [12, 13, 14, 15, 16, 17, 0, 0]) := by decide +kernel
theorem sh_11 : xsh 11 = (0, 100, []) := by decide +kernel
theorem sh_12 : xsh 12 = (0, 100, []) := by decide +kernel
theorem sh_13 : xsh 13 = (0, 100, []) := by decide +kernel
theorem sh_14 : xsh 14 = (0, 100, []) := by decide +kernel
theorem sh_15 : xsh 15 = (0, 20, []) := by decide +kernel
theorem sh_16 : xsh 16 = (0, 20, []) := by decide +kernel
theorem sh_17 : xsh 17 = (5, 4, [19]) := by decide +kernel
theorem sh_18 : xsh 18 = (4, 10, [19]) := by decide +kernel
theorem sh_19 : xsh 19 = (0, 5, []) := by decide +kernel
theorem sh_20 : xsh 20 = (0, 5, []) := by decide +kernel
theorem sh_21 : xsh 21 = (0, 5, []) := by decide +kernel
theorem sh_22 : xsh 22 = (0, 5, []) := by decide +kernel
theorem sh_23 : xsh 23 = (0, 5, []) := by decide +kernel
theorem sh_24 : xsh 24 = (0, 5, []) := by decide +kernel
theorem sh_25 : xsh 25 = (0, 5, []) := by decide +kernel
theorem sh_26 : xsh 26 = (0, 5, []) := by decide +kernel
theorem sh_27 : xsh 27 = (0, 5, []) := by decide +kernel
theorem sh_28 : xsh 28 = (0, 5, []) := by decide +kernel
theorem sh_29 : xsh 29 = (5, 7, [31, 0]) := by decide +kernel
theorem sh_30 : xsh 30 = (1, 600, []) := by decide +kernel
theorem sh_31 : xsh 31 = (5, 5, [33, 37, 0, 0]) := by decide +kernel
theorem sh_32 : xsh 32 = (5, 8, [34, 35, 36, 0]) := by decide +kernel
theorem sh_33 : xsh 33 = (0, 601, []) := by decide +kernel
theorem sh_34 : xsh 34 = (0, 601, []) := by decide +kernel
theorem sh_35 : xsh 35 = (0, 601, []) := by decide +kernel
theorem sh_36 : xsh 36 = (5, 6, [38, 39, 40, 41, 0, 0]) := by decide +kernel
theorem sh_37 : xsh 37 = (0, 600, []) := by decide +kernel
theorem sh_38 : xsh 38 = (0, 16, []) := by decide +kernel
theorem sh_39 : xsh 39 = (0, 16, []) := by decide +kernel
theorem sh_40 : xsh 40 = (0, 32, []) := by decide +kernel
theorem sh_41 : xsh 41 = (5, 6, [43, 44, 45, 46, 0, 0]) := by decide +kernel
theorem sh_42 : xsh 42 = (0, 600, []) := by decide +kernel
theorem sh_43 : xsh 43 = (0, 16, []) := by decide +kernel
theorem sh_44 : xsh 44 = (0, 16, []) := by decide +kernel
theorem sh_45 : xsh 45 = (0, 32, []) := by decide +kernel
theorem sh_46 : xsh 46 = (5, 1, [48, 59, 70, 81, 0]) := by decide +kernel
theorem sh_47 : xsh 47 = (4, 10, [48]) := by decide +kernel
theorem sh_48 : xsh 48 = (0, 60, []) := by decide +kernel
theorem sh_49 : xsh 49 = (0, 60, []) := by decide +kernel
theorem sh_50 : xsh 50 = (0, 60, []) := by decide +kernel
theorem sh_51 : xsh 51 = (0, 60, []) := by decide +kernel
theorem sh_52 : xsh 52 = (0, 60, []) := by decide +kernel
theorem sh_53 : xsh 53 = (0, 60, []) := by decide +kernel
theorem sh_54 : xsh 54 = (0, 60, []) := by decide +kernel
theorem sh_55 : xsh 55 = (0, 60, []) := by decide +kernel
theorem sh_56 : xsh 56 = (0, 60, []) := by decide +kernel
theorem sh_57 : xsh 57 = (0, 60, []) := by decide +kernel
theorem sh_58 : xsh 58 = (4, 10, [59]) := by decide +kernel
theorem sh_59 : xsh 59 = (0, 60, []) := by decide +kernel
theorem sh_60 : xsh 60 = (0, 60, []) := by decide +kernel
theorem sh_61 : xsh 61 = (0, 60, []) := by decide +kernel
theorem sh_62 : xsh 62 = (0, 60, []) := by decide +kernel
theorem sh_63 : xsh 63 = (0, 60, []) := by decide +kernel
theorem sh_64 : xsh 64 = (0, 60, []) := by decide +kernel
theorem sh_65 : xsh 65 = (0, 60, []) := by decide +kernel
theorem sh_66 : xsh 66 = (0, 60, []) := by decide +kernel
theorem sh_67 : xsh 67 = (0, 60, []) := by decide +kernel
theorem sh_68 : xsh 68 = (0, 60, []) := by decide +kernel
theorem sh_69 : xsh 69 = (4, 10, [70]) := by decide +kernel
theorem sh_70 : xsh 70 = (0, 10, []) := by decide +kernel
theorem sh_71 : xsh 71 = (0, 10, []) := by decide +kernel
theorem sh_72 : xsh 72 = (0, 10, []) := by decide +kernel
theorem sh_73 : xsh 73 = (0, 10, []) := by decide +kernel
theorem sh_74 : xsh 74 = (0, 10, []) := by decide +kernel
theorem sh_75 : xsh 75 = (0, 10, []) := by decide +kernel
theorem sh_76 : xsh 76 = (0, 10, []) := by decide +kernel
theorem sh_77 : xsh 77 = (0, 10, []) := by decide +kernel
theorem sh_78 : xsh 78 = (0, 10, []) := by decide +kernel
theorem sh_79 : xsh 79 = (0, 10, []) := by decide +kernel
theorem sh_80 : xsh 80 = (0, 10, []) := by decide +kernel
theorem sh_81 : xsh 81 = (5, 0, [83, 84, 0]) := by decide +kernel
theorem sh_82 : xsh 82 = (3, 100, []) := by decide +kernel
theorem sh_83 : xsh 83 = (3, 100, []) := by decide +kernel
theorem sh_84 : xsh 84 = (0, 10, []) := by decide +kernel
theorem sh_85 : xsh 85 = (2, 10, []) := by decide +kernel
theorem sh_86 : xsh 86 = (0, 6, []) := by decide +kernel
theorem sh_87 : xsh 87 = (5, 10, [0, 89, 0, 0, 90, 91, 92, 0, 0, 93, 94, 95, 96, 97, 98, 0, 0, 0, 0, 99, 100, 101, 102, 103, 0, 0, 104, 105, 106, 107, 108, 109, 110, 111, 112, 113, 0, 114, 115, 116, 117, 118, 119, 0, 120, 121, 122, 0, 123, 124, 125]) := by decide +kernel
theorem sh_88 : xsh 88 = (0, 600, []) := by decide +kernel
theorem sh_89 : xsh 89 = (0, 602, []) := by decide +kernel
theorem sh_90 : xsh 90 = (0, 602, []) := by decide +kernel
theorem sh_91 : xsh 91 = (3, 602, []) := by decide +kernel
theorem sh_92 : xsh 92 = (3, 9, []) := by decide +kernel
theorem sh_93 : xsh 93 = (0, 2, []) := by decide +kernel
theorem sh_94 : xsh 94 = (0, 32, []) := by decide +kernel
theorem sh_95 : xsh 95 = (0, 32, []) := by decide +kernel
theorem sh_96 : xsh 96 = (0, 1320, []) := by decide +kernel
theorem sh_97 : xsh 97 = (0, 1320, []) := by decide +kernel
theorem sh_98 : xsh 98 = (0, 7, []) := by decide +kernel
theorem sh_99 : xsh 99 = (0, 7, []) := by decide +kernel
theorem sh_100 : xsh 100 = (0, 7, []) := by decide +kernel
theorem sh_101 : xsh 101 = (0, 6, []) := by decide +kernel
theorem sh_102 : xsh 102 = (0, 660, []) := by decide +kernel
theorem sh_103 : xsh 103 = (0, 60, []) := by decide +kernel
theorem sh_104 : xsh 104 = (0, 60, []) := by decide +kernel
theorem sh_105 : xsh 105 = (0, 60, []) := by decide +kernel
theorem sh_106 : xsh 106 = (0, 60, []) := by decide +kernel
theorem sh_107 : xsh 107 = (0, 60, []) := by decide +kernel
theorem sh_108 : xsh 108 = (0, 60, []) := by decide +kernel
theorem sh_109 : xsh 109 = (0, 6, []) := by decide +kernel
theorem sh_110 : xsh 110 = (0, 6, []) := by decide +kernel
theorem sh_111 : xsh 111 = (0, 10, []) := by decide +kernel
theorem sh_112 : xsh 112 = (3, 10, []) := by decide +kernel
theorem sh_113 : xsh 113 = (0, 100, []) := by decide +kernel
theorem sh_114 : xsh 114 = (0, 100, []) := by decide +kernel
theorem sh_115 : xsh 115 = (0, 100, []) := by decide +kernel
theorem sh_116 : xsh 116 = (0, 100, []) := by decide +kernel
theorem sh_117 : xsh 117 = (0, 50, []) := by decide +kernel
theorem sh_118 : xsh 118 = (2, 10, []) := by decide +kernel
theorem sh_119 : xsh 119 = (0, 60, []) := by decide +kernel
theorem sh_120 : xsh 120 = (0, 6100, []) := by decide +kernel
theorem sh_121 : xsh 121 = (0, 6100, []) := by decide +kernel
theorem sh_122 : xsh 122 = (0, 600, []) := by decide +kernel
theorem sh_123 : xsh 123 = (0, 600, []) := by decide +kernel
theorem sh_124 : xsh 124 = (0, 100, []) := by decide +kernel
theorem sh_125 : xsh 125 = (3, 1, []) := by decide +kernel
theorem shr_18 : ∀ i, i < 10 → xsh (19 + i) = (0, 5, []) := by decide +kernel
theorem shn_18 : ∀ i, i < 10 → 19 + i < xnn := by decide +kernel
theorem shr_47 : ∀ i, i < 10 → xsh (48 + i) = (0, 60, []) := by decide +kernel
theorem shn_47 : ∀ i, i < 10 → 48 + i < xnn := by decide +kernel
theorem shr_58 : ∀ i, i < 10 → xsh (59 + i) = (0, 60, []) := by decide +kernel
theorem shn_58 : ∀ i, i < 10 → 59 + i < xnn := by decide +kernel
theorem shr_69 : ∀ i, i < 10 → xsh (70 + i) = (0, 10, []) := by decide +kernel
theorem shn_69 : ∀ i, i < 10 → 70 + i < xnn := by decide +kernel
abbrev ag : Nat := 0
abbrev ag_facts : Nat := 1
abbrev ag_facts_kind : Nat := 2
abbrev ag_facts_place : Nat := 3
abbrev ag_facts_value : Nat := 4
abbrev ag_facts_year : Nat := 5
abbrev ag_facts_length : Nat := 6
abbrev ag_facts_worth : Nat := 7
abbrev ag_facts_kindYears : Nat := 8
abbrev ag_facts_kindChanges : Nat := 9
abbrev ag_letters : Nat := 10
abbrev ag_letters_reader : Nat := 11
abbrev ag_letters_about : Nat := 12
abbrev ag_letters_said : Nat := 13
abbrev ag_letters_state : Nat := 14
abbrev ag_letters_rightOf : Nat := 15
abbrev ag_letters_wrongOf : Nat := 16
abbrev ag_marks : Nat := 17
abbrev ag_marks_given : Nat := 18
abbrev ag_tape : Nat := 29
abbrev ag_tape_signs : Nat := 30
abbrev ag_parser : Nat := 31
abbrev ag_parser_tokens : Nat := 32
abbrev ag_parser_tokens_what : Nat := 33
abbrev ag_parser_tokens_where : Nat := 34
abbrev ag_parser_tokens_value : Nat := 35
abbrev ag_parser_draft : Nat := 36
abbrev ag_parser_draft_code : Nat := 37
abbrev ag_parser_draft_endOf : Nat := 38
abbrev ag_parser_draft_starsIn : Nat := 39
abbrev ag_parser_draft_waiting : Nat := 40
abbrev ag_script : Nat := 41
abbrev ag_script_code : Nat := 42
abbrev ag_script_endOf : Nat := 43
abbrev ag_script_starsIn : Nat := 44
abbrev ag_script_waiting : Nat := 45
abbrev ag_editions : Nat := 46
abbrev ag_editions_values : Nat := 47
abbrev ag_editions_state : Nat := 58
abbrev ag_editions_stars : Nat := 69
abbrev ag_editions_facts : Nat := 80
abbrev ag_bag : Nat := 81
abbrev ag_bag_best : Nat := 82
abbrev ag_bag_things : Nat := 83
abbrev ag_daysOf : Nat := 84
abbrev ag_praised : Nat := 85
abbrev ag_named : Nat := 86
abbrev am : Nat := 87
abbrev am_tape : Nat := 88
abbrev am_sort : Nat := 89
abbrev am_place : Nat := 90
abbrev am_value : Nat := 91
abbrev am_words : Nat := 92
abbrev am_lines : Nat := 93
abbrev am_lineN : Nat := 94
abbrev am_lineAt : Nat := 95
abbrev am_op : Nat := 96
abbrev am_one : Nat := 97
abbrev am_sumWaits : Nat := 98
abbrev am_signWaits : Nat := 99
abbrev am_andWaits : Nat := 100
abbrev am_known : Nat := 101
abbrev am_pile : Nat := 102
abbrev am_kindOf : Nat := 103
abbrev am_placeOf : Nat := 104
abbrev am_worthNow : Nat := 105
abbrev am_checkedOn : Nat := 106
abbrev am_lengths : Nat := 107
abbrev am_worths : Nat := 108
abbrev am_kindYears : Nat := 109
abbrev am_kindChanges : Nat := 110
abbrev am_takes : Nat := 111
abbrev am_doubt : Nat := 112
abbrev am_readers : Nat := 113
abbrev am_about : Nat := 114
abbrev am_says : Nat := 115
abbrev am_proofs : Nat := 116
abbrev am_marks : Nat := 117
abbrev am_isPaid : Nat := 118
abbrev am_onPage : Nat := 119
abbrev am_most : Nat := 120
abbrev am_used : Nat := 121
abbrev am_asPrinted : Nat := 122
abbrev am_proved : Nat := 123
abbrev am_starred : Nat := 124
abbrev aout : Nat := 125
abbrev fBag_best : Nat := 0
abbrev fBag_things : Nat := 1
abbrev fBag_room : Nat := 2
abbrev fEditions_values : Nat := 0
abbrev fEditions_state : Nat := 1
abbrev fEditions_stars : Nat := 2
abbrev fEditions_facts : Nat := 3
abbrev fEditions_size : Nat := 4
abbrev fFacts_kind : Nat := 0
abbrev fFacts_place : Nat := 1
abbrev fFacts_value : Nat := 2
abbrev fFacts_year : Nat := 3
abbrev fFacts_length : Nat := 4
abbrev fFacts_worth : Nat := 5
abbrev fFacts_kindYears : Nat := 6
abbrev fFacts_kindChanges : Nat := 7
abbrev fFacts_size : Nat := 8
abbrev fFacts_now : Nat := 9
abbrev fLetters_reader : Nat := 0
abbrev fLetters_about : Nat := 1
abbrev fLetters_said : Nat := 2
abbrev fLetters_state : Nat := 3
abbrev fLetters_rightOf : Nat := 4
abbrev fLetters_wrongOf : Nat := 5
abbrev fLetters_size : Nat := 6
abbrev fLetters_open : Nat := 7
abbrev fMarks_given : Nat := 0
abbrev fParser_tokens : Nat := 0
abbrev fParser_draft : Nat := 1
abbrev fParser_at : Nat := 2
abbrev fParser_fault : Nat := 3
abbrev fScript_code : Nat := 0
abbrev fScript_endOf : Nat := 1
abbrev fScript_starsIn : Nat := 2
abbrev fScript_waiting : Nat := 3
abbrev fScript_size : Nat := 4
abbrev fScript_lines : Nat := 5
abbrev fTape_signs : Nat := 0
abbrev fTape_length : Nat := 1
abbrev fTokens_what : Nat := 0
abbrev fTokens_where : Nat := 1
abbrev fTokens_value : Nat := 2
abbrev fTokens_size : Nat := 3
abbrev fGuideBook_facts : Nat := 0
abbrev fGuideBook_letters : Nat := 1
abbrev fGuideBook_marks : Nat := 2
abbrev fGuideBook_tape : Nat := 3
abbrev fGuideBook_parser : Nat := 4
abbrev fGuideBook_script : Nat := 5
abbrev fGuideBook_editions : Nat := 6
abbrev fGuideBook_bag : Nat := 7
abbrev fGuideBook_daysOf : Nat := 8
abbrev fGuideBook_praised : Nat := 9
abbrev fGuideBook_named : Nat := 10
abbrev fGuideBookModel_thrown : Nat := 0
abbrev fGuideBookModel_tape : Nat := 1
abbrev fGuideBookModel_taped : Nat := 2
abbrev fGuideBookModel_size : Nat := 3
abbrev fGuideBookModel_sort : Nat := 4
abbrev fGuideBookModel_place : Nat := 5
abbrev fGuideBookModel_value : Nat := 6
abbrev fGuideBookModel_at : Nat := 7
abbrev fGuideBookModel_fault : Nat := 8
abbrev fGuideBookModel_words : Nat := 9
abbrev fGuideBookModel_lines : Nat := 10
abbrev fGuideBookModel_lineN : Nat := 11
abbrev fGuideBookModel_lineAt : Nat := 12
abbrev fGuideBookModel_op : Nat := 13
abbrev fGuideBookModel_one : Nat := 14
abbrev fGuideBookModel_holds : Nat := 15
abbrev fGuideBookModel_next : Nat := 16
abbrev fGuideBookModel_codes : Nat := 17
abbrev fGuideBookModel_deep : Nat := 18
abbrev fGuideBookModel_sumWaits : Nat := 19
abbrev fGuideBookModel_signWaits : Nat := 20
abbrev fGuideBookModel_andWaits : Nat := 21
abbrev fGuideBookModel_known : Nat := 22
abbrev fGuideBookModel_pile : Nat := 23
abbrev fGuideBookModel_now : Nat := 24
abbrev fGuideBookModel_facts : Nat := 25
abbrev fGuideBookModel_kindOf : Nat := 26
abbrev fGuideBookModel_placeOf : Nat := 27
abbrev fGuideBookModel_worthNow : Nat := 28
abbrev fGuideBookModel_checkedOn : Nat := 29
abbrev fGuideBookModel_lengths : Nat := 30
abbrev fGuideBookModel_worths : Nat := 31
abbrev fGuideBookModel_kindYears : Nat := 32
abbrev fGuideBookModel_kindChanges : Nat := 33
abbrev fGuideBookModel_takes : Nat := 34
abbrev fGuideBookModel_doubt : Nat := 35
abbrev fGuideBookModel_letters : Nat := 36
abbrev fGuideBookModel_readers : Nat := 37
abbrev fGuideBookModel_about : Nat := 38
abbrev fGuideBookModel_says : Nat := 39
abbrev fGuideBookModel_proofs : Nat := 40
abbrev fGuideBookModel_marks : Nat := 41
abbrev fGuideBookModel_isPaid : Nat := 42
abbrev fGuideBookModel_many : Nat := 43
abbrev fGuideBookModel_onPage : Nat := 44
abbrev fGuideBookModel_most : Nat := 45
abbrev fGuideBookModel_used : Nat := 46
abbrev fGuideBookModel_editions : Nat := 47
abbrev fGuideBookModel_asPrinted : Nat := 48
abbrev fGuideBookModel_proved : Nat := 49
abbrev fGuideBookModel_starred : Nat := 50
theorem xcw_0 : ∀ w ∈ u_ws RX0 TX0 3, xTr w = true := by decide +kernel
theorem xcl_0 : xCl 0 RX0 TX0 3 tyX0 := ⟨rfl, fun w h => ⟨inX0 w h, xcw_0 w h⟩, tyX0_ok, nmX0⟩
theorem xcw_1 : ∀ w ∈ u_ws RX1 TX1 5, xTr w = true := by decide +kernel
theorem xcl_1 : xCl 1 RX1 TX1 5 tyX1 := ⟨rfl, fun w h => ⟨inX1 w h, xcw_1 w h⟩, tyX1_ok, nmX1⟩
theorem xcw_2 : ∀ w ∈ u_ws RX2 TX2 10, xTr w = true := by decide +kernel
theorem xcl_2 : xCl 2 RX2 TX2 10 tyX2 := ⟨rfl, fun w h => ⟨inX2 w h, xcw_2 w h⟩, tyX2_ok, nmX2⟩
theorem xcw_3 : ∀ w ∈ u_ws RX3 TX3 8, xTr w = true := by decide +kernel
theorem xcl_3 : xCl 3 RX3 TX3 8 tyX3 := ⟨rfl, fun w h => ⟨inX3 w h, xcw_3 w h⟩, tyX3_ok, nmX3⟩
theorem xcw_4 : ∀ w ∈ u_ws RX4 TX4 1, xTr w = true := by decide +kernel
theorem xcl_4 : xCl 4 RX4 TX4 1 tyX4 := ⟨rfl, fun w h => ⟨inX4 w h, xcw_4 w h⟩, tyX4_ok, nmX4⟩
theorem xcw_5 : ∀ w ∈ u_ws RX5 TX5 4, xTr w = true := by decide +kernel
theorem xcl_5 : xCl 5 RX5 TX5 4 tyX5 := ⟨rfl, fun w h => ⟨inX5 w h, xcw_5 w h⟩, tyX5_ok, nmX5⟩
theorem xcw_6 : ∀ w ∈ u_ws RX6 TX6 6, xTr w = true := by decide +kernel
theorem xcl_6 : xCl 6 RX6 TX6 6 tyX6 := ⟨rfl, fun w h => ⟨inX6 w h, xcw_6 w h⟩, tyX6_ok, nmX6⟩
theorem xcw_7 : ∀ w ∈ u_ws RX7 TX7 2, xTr w = true := by decide +kernel
theorem xcl_7 : xCl 7 RX7 TX7 2 tyX7 := ⟨rfl, fun w h => ⟨inX7 w h, xcw_7 w h⟩, tyX7_ok, nmX7⟩
theorem xcw_8 : ∀ w ∈ u_ws RX8 TX8 4, xTr w = true := by decide +kernel
theorem xcl_8 : xCl 8 RX8 TX8 4 tyX8 := ⟨rfl, fun w h => ⟨inX8 w h, xcw_8 w h⟩, tyX8_ok, nmX8⟩
theorem xcw_9 : ∀ w ∈ u_ws RX9 TX9 11, xTr w = true := by decide +kernel
theorem xcl_9 : xCl 9 RX9 TX9 11 tyX9 := ⟨rfl, fun w h => ⟨inX9 w h, xcw_9 w h⟩, tyX9_ok, nmX9⟩
theorem xcw_10 : ∀ w ∈ u_ws RX10 TX10 51, xTr w = true := by decide +kernel
theorem xcl_10 : xCl 10 RX10 TX10 51 tyX10 := ⟨rfl, fun w h => ⟨inX10 w h, xcw_10 w h⟩, tyX10_ok, nmX10⟩
