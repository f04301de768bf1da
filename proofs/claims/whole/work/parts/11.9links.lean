set_option maxRecDepth 100000 in
theorem ql_13_9 : qc_lk2 13 9 160 yX11_init = true := by decide +kernel
set_option maxRecDepth 100000 in
theorem ql_11_11 : qc_lk2 11 11 168 yX1_init = true := by decide +kernel
set_option maxRecDepth 100000 in
theorem ql_11_20 : qc_lk2 11 20 202 yX10_init = true := by decide +kernel
set_option maxRecDepth 100000 in
theorem ql_11_29 : qc_lk2 11 29 219 yX9_init = true := by decide +kernel
set_option maxRecDepth 100000 in
theorem ql_11_32 : qc_lk2 11 32 257 yX2_init = true := by decide +kernel
set_option maxRecDepth 100000 in
theorem ql_2_25 : qc_lk2 2 25 264 yX0_init = true := by decide +kernel
set_option maxRecDepth 100000 in
theorem ql_11_41 : qc_lk2 11 41 343 yX3_init = true := by decide +kernel
set_option maxRecDepth 100000 in
theorem ql_11_48 : qc_lk2 11 48 405 yX4_init = true := by decide +kernel
set_option maxRecDepth 100000 in
theorem ql_4_21 : qc_lk2 4 21 411 yX6_init = true := by decide +kernel
set_option maxRecDepth 100000 in
theorem ql_13_13 : qc_lk2 13 13 474 yX11_objects = true := by decide +kernel
set_option maxRecDepth 100000 in
theorem ql_13_18 : qc_lk2 13 18 478 yX11_column = true := by decide +kernel
set_option maxRecDepth 100000 in
theorem ql_11_71 : qc_lk2 11 71 482 yX1_isColumn = true := by decide +kernel
set_option maxRecDepth 100000 in
theorem ql_11_75 : qc_lk2 11 75 485 yX1_isLane = true := by decide +kernel
set_option maxRecDepth 100000 in
theorem ql_11_78 : qc_lk2 11 78 488 yX1_make = true := by decide +kernel
set_option maxRecDepth 100000 in
theorem ql_1_43 : qc_lk2 1 43 492 yX1_freeRow = true := by decide +kernel
set_option maxRecDepth 100000 in
theorem ql_1_47 : qc_lk2 1 47 496 yX1_isUsed = true := by decide +kernel
set_option maxRecDepth 100000 in
theorem ql_13_23 : qc_lk2 13 23 500 yX11_share = true := by decide +kernel
set_option maxRecDepth 100000 in
theorem ql_11_82 : qc_lk2 11 82 504 yX1_unite = true := by decide +kernel
set_option maxRecDepth 100000 in
theorem ql_13_28 : qc_lk2 13 28 508 yX11_drop = true := by decide +kernel
set_option maxRecDepth 100000 in
theorem ql_11_86 : qc_lk2 11 86 512 yX1_lose = true := by decide +kernel
set_option maxRecDepth 100000 in
theorem ql_13_34 : qc_lk2 13 34 516 yX11_put = true := by decide +kernel
set_option maxRecDepth 100000 in
theorem ql_11_89 : qc_lk2 11 89 520 yX1_laneOf = true := by decide +kernel
set_option maxRecDepth 100000 in
theorem ql_1_39 : qc_lk2 1 39 524 yX1_isColumn = true := by decide +kernel
set_option maxRecDepth 100000 in
theorem ql_11_93 : qc_lk2 11 93 525 yX1_setBits = true := by decide +kernel
set_option maxRecDepth 100000 in
theorem ql_1_50 : qc_lk2 1 50 529 yX1_laneOf = true := by decide +kernel
set_option maxRecDepth 100000 in
theorem ql_1_54 : qc_lk2 1 54 530 yX1_cellFault = true := by decide +kernel
set_option maxRecDepth 100000 in
theorem ql_1_58 : qc_lk2 1 58 534 yX1_narrowed = true := by decide +kernel
set_option maxRecDepth 100000 in
theorem ql_1_62 : qc_lk2 1 62 537 yX8_isNoFloat = true := by decide +kernel
set_option maxRecDepth 100000 in
theorem ql_8_9 : qc_lk2 8 9 540 yX8_isNoNumber = true := by decide +kernel
set_option maxRecDepth 100000 in
theorem ql_1_67 : qc_lk2 1 67 543 yX8_isNoDouble = true := by decide +kernel
set_option maxRecDepth 100000 in
theorem ql_1_71 : qc_lk2 1 71 546 yX8_floatOf = true := by decide +kernel
set_option maxRecDepth 100000 in
theorem ql_8_13 : qc_lk2 8 13 549 yX8_decoded = true := by decide +kernel
set_option maxRecDepth 100000 in
theorem ql_8_34 : qc_lk2 8 34 553 yX8_scaled = true := by decide +kernel
set_option maxRecDepth 100000 in
theorem ql_8_53 : qc_lk2 8 53 556 yX8_twoTo = true := by decide +kernel
set_option maxRecDepth 100000 in
theorem ql_1_75 : qc_lk2 1 75 560 yX8_doubleOf = true := by decide +kernel
set_option maxRecDepth 100000 in
theorem ql_13_39 : qc_lk2 13 39 563 yX11_cell = true := by decide +kernel
set_option maxRecDepth 100000 in
theorem ql_11_97 : qc_lk2 11 97 567 yX1_sizeOf = true := by decide +kernel
set_option maxRecDepth 100000 in
theorem ql_11_102 : qc_lk2 11 102 572 yX1_bitsOf = true := by decide +kernel
set_option maxRecDepth 100000 in
theorem ql_1_79 : qc_lk2 1 79 576 yX8_bitsOfFloat = true := by decide +kernel
set_option maxRecDepth 100000 in
theorem ql_8_17 : qc_lk2 8 17 579 yX8_magnitude = true := by decide +kernel
set_option maxRecDepth 100000 in
theorem ql_8_25 : qc_lk2 8 25 582 yX8_isMinus = true := by decide +kernel
set_option maxRecDepth 100000 in
theorem ql_8_21 : qc_lk2 8 21 585 yX8_encoded = true := by decide +kernel
set_option maxRecDepth 100000 in
theorem ql_8_38 : qc_lk2 8 38 588 yX8_isEndless = true := by decide +kernel
set_option maxRecDepth 100000 in
theorem ql_8_43 : qc_lk2 8 43 594 yX8_powerOf = true := by decide +kernel
set_option maxRecDepth 100000 in
theorem ql_8_47 : qc_lk2 8 47 597 yJ9_max_7cf53 = true := by decide +kernel
set_option maxRecDepth 100000 in
theorem ql_1_83 : qc_lk2 1 83 601 yX8_bitsOfDouble = true := by decide +kernel
set_option maxRecDepth 100000 in
theorem ql_13_44 : qc_lk2 13 44 605 yX11_about = true := by decide +kernel
set_option maxRecDepth 100000 in
theorem ql_11_106 : qc_lk2 11 106 609 yX1_leastLike = true := by decide +kernel
set_option maxRecDepth 100000 in
theorem ql_13_48 : qc_lk2 13 48 613 yX11_feed = true := by decide +kernel
set_option maxRecDepth 100000 in
theorem ql_11_109 : qc_lk2 11 109 617 yX10_hasRoom = true := by decide +kernel
set_option maxRecDepth 100000 in
theorem ql_11_113 : qc_lk2 11 113 621 yX10_append = true := by decide +kernel
set_option maxRecDepth 100000 in
theorem ql_13_53 : qc_lk2 13 53 625 yX11_end = true := by decide +kernel
set_option maxRecDepth 100000 in
theorem ql_11_120 : qc_lk2 11 120 629 yX10_cut = true := by decide +kernel
set_option maxRecDepth 100000 in
theorem ql_13_57 : qc_lk2 13 57 633 yX11_query = true := by decide +kernel
set_option maxRecDepth 100000 in
theorem ql_11_123 : qc_lk2 11 123 637 yX2_read = true := by decide +kernel
set_option maxRecDepth 100000 in
theorem ql_2_58 : qc_lk2 2 58 641 yX2_begin = true := by decide +kernel
set_option maxRecDepth 100000 in
theorem ql_2_154 : qc_lk2 2 154 645 yX0_begin = true := by decide +kernel
set_option maxRecDepth 100000 in
theorem ql_2_170 : qc_lk2 2 170 649 yX9_start = true := by decide +kernel
set_option maxRecDepth 100000 in
theorem ql_9_34 : qc_lk2 9 34 653 yX9_take = true := by decide +kernel
set_option maxRecDepth 100000 in
theorem ql_9_42 : qc_lk2 9 42 657 yX10_at = true := by decide +kernel
set_option maxRecDepth 100000 in
theorem ql_9_46 : qc_lk2 9 46 661 yX9_isBlank = true := by decide +kernel
set_option maxRecDepth 100000 in
theorem ql_9_53 : qc_lk2 9 53 664 yX9_isLetter = true := by decide +kernel
set_option maxRecDepth 100000 in
theorem ql_9_56 : qc_lk2 9 56 667 yX9_readWord = true := by decide +kernel
set_option maxRecDepth 100000 in
theorem ql_9_79 : qc_lk2 9 79 675 yJ0_length_8abf5 = true := by decide +kernel
set_option maxRecDepth 100000 in
theorem ql_14_335 : qc_lk2 14 335 679 yJ0_coder_7d493 = true := by decide +kernel
set_option maxRecDepth 100000 in
theorem ql_9_85 : qc_lk2 9 85 685 yX10_hasAt = true := by decide +kernel
set_option maxRecDepth 100000 in
theorem ql_10_19 : qc_lk2 10 19 689 yJ0_length_8abf5 = true := by decide +kernel
set_option maxRecDepth 100000 in
theorem ql_10_24 : qc_lk2 10 24 690 yJ0_charAt_5068e = true := by decide +kernel
set_option maxRecDepth 100000 in
theorem ql_14_492 : qc_lk2 14 492 694 yJ0_isLatin1_aae02 = true := by decide +kernel
set_option maxRecDepth 100000 in
theorem ql_14_495 : qc_lk2 14 495 698 yJ1_charAt_3b067 = true := by decide +kernel
set_option maxRecDepth 100000 in
theorem ql_15_9 : qc_lk2 15 9 701 yJ0_checkIndex_df160 = true := by decide +kernel
set_option maxRecDepth 100000 in
theorem ql_14_1059 : qc_lk2 14 1059 706 yJ3_checkIndex_8e157 = true := by decide +kernel
set_option maxRecDepth 100000 in
theorem ql_9_59 : qc_lk2 9 59 728 yX9_isFigure = true := by decide +kernel
set_option maxRecDepth 100000 in
theorem ql_9_62 : qc_lk2 9 62 731 yX9_readFigures = true := by decide +kernel
set_option maxRecDepth 100000 in
theorem ql_9_105 : qc_lk2 9 105 738 yJ9_min_f86c9 = true := by decide +kernel
set_option maxRecDepth 100000 in
theorem ql_9_89 : qc_lk2 9 89 741 yX9_refuse = true := by decide +kernel
set_option maxRecDepth 100000 in
theorem ql_9_65 : qc_lk2 9 65 749 yX9_readColumn = true := by decide +kernel
set_option maxRecDepth 100000 in
theorem ql_9_68 : qc_lk2 9 68 755 yX9_readSign = true := by decide +kernel
set_option maxRecDepth 100000 in
theorem ql_2_64 : qc_lk2 2 64 759 yX2_took = true := by decide +kernel
set_option maxRecDepth 100000 in
theorem ql_2_195 : qc_lk2 2 195 763 yX9_take = true := by decide +kernel
set_option maxRecDepth 100000 in
theorem ql_2_68 : qc_lk2 2 68 764 yX2_readCondition = true := by decide +kernel
set_option maxRecDepth 100000 in
theorem ql_2_173 : qc_lk2 2 173 768 yX2_joined = true := by decide +kernel
set_option maxRecDepth 100000 in
theorem ql_2_253 : qc_lk2 2 253 774 yX2_denied = true := by decide +kernel
set_option maxRecDepth 100000 in
theorem ql_2_221 : qc_lk2 2 221 778 yX2_openOne = true := by decide +kernel
set_option maxRecDepth 100000 in
theorem ql_2_145 : qc_lk2 2 145 782 yX9_refuse = true := by decide +kernel
set_option maxRecDepth 100000 in
theorem ql_2_116 : qc_lk2 2 116 783 yX2_fit = true := by decide +kernel
set_option maxRecDepth 100000 in
theorem ql_2_207 : qc_lk2 2 207 787 yX0_add = true := by decide +kernel
set_option maxRecDepth 100000 in
theorem ql_0_28 : qc_lk2 0 28 791 yX0_change = true := by decide +kernel
set_option maxRecDepth 100000 in
theorem ql_0_32 : qc_lk2 0 32 794 yJ9_max_7cf53 = true := by decide +kernel
set_option maxRecDepth 100000 in
theorem ql_2_256 : qc_lk2 2 256 795 yX2_signed = true := by decide +kernel
set_option maxRecDepth 100000 in
theorem ql_2_296 : qc_lk2 2 296 803 yX2_part = true := by decide +kernel
set_option maxRecDepth 100000 in
theorem ql_2_299 : qc_lk2 2 299 808 yX2_laid = true := by decide +kernel
set_option maxRecDepth 100000 in
theorem ql_2_306 : qc_lk2 2 306 813 yX2_keepReal = true := by decide +kernel
set_option maxRecDepth 100000 in
theorem ql_2_318 : qc_lk2 2 318 824 yX2_cellOf = true := by decide +kernel
set_option maxRecDepth 100000 in
theorem ql_2_198 : qc_lk2 2 198 828 yX2_metColumn = true := by decide +kernel
set_option maxRecDepth 100000 in
theorem ql_2_126 : qc_lk2 2 126 832 yX2_misplaced = true := by decide +kernel
set_option maxRecDepth 100000 in
theorem ql_2_340 : qc_lk2 2 340 836 yX1_laneOf = true := by decide +kernel
set_option maxRecDepth 100000 in
theorem ql_2_105 : qc_lk2 2 105 839 yX2_sum = true := by decide +kernel
set_option maxRecDepth 100000 in
theorem ql_2_218 : qc_lk2 2 218 845 yX2_choice = true := by decide +kernel
set_option maxRecDepth 100000 in
theorem ql_2_89 : qc_lk2 2 89 849 yX2_expect = true := by decide +kernel
set_option maxRecDepth 100000 in
theorem ql_2_224 : qc_lk2 2 224 853 yX0_addJump = true := by decide +kernel
set_option maxRecDepth 100000 in
theorem ql_0_38 : qc_lk2 0 38 857 yX0_add = true := by decide +kernel
set_option maxRecDepth 100000 in
theorem ql_2_233 : qc_lk2 2 233 860 yX0_aim = true := by decide +kernel
set_option maxRecDepth 100000 in
theorem ql_2_237 : qc_lk2 2 237 864 yX0_otherWay = true := by decide +kernel
set_option maxRecDepth 100000 in
theorem ql_2_240 : qc_lk2 2 240 868 yJ9_max_7cf53 = true := by decide +kernel
set_option maxRecDepth 100000 in
theorem ql_2_177 : qc_lk2 2 177 869 yX0_convert = true := by decide +kernel
set_option maxRecDepth 100000 in
theorem ql_0_42 : qc_lk2 0 42 873 yX0_conversion = true := by decide +kernel
set_option maxRecDepth 100000 in
theorem ql_2_246 : qc_lk2 2 246 876 yX0_convertAt = true := by decide +kernel
set_option maxRecDepth 100000 in
theorem ql_0_45 : qc_lk2 0 45 880 yX0_moveGoals = true := by decide +kernel
set_option maxRecDepth 100000 in
theorem ql_2_210 : qc_lk2 2 210 886 yX1_kindOf = true := by decide +kernel
set_option maxRecDepth 100000 in
theorem ql_2_324 : qc_lk2 2 324 891 yX2_function = true := by decide +kernel
set_option maxRecDepth 100000 in
theorem ql_2_349 : qc_lk2 2 349 899 yX2_applied = true := by decide +kernel
set_option maxRecDepth 100000 in
theorem ql_2_109 : qc_lk2 2 109 905 yX2_isWhole = true := by decide +kernel
set_option maxRecDepth 100000 in
theorem ql_2_259 : qc_lk2 2 259 908 yX2_isJoint = true := by decide +kernel
set_option maxRecDepth 100000 in
theorem ql_2_269 : qc_lk2 2 269 912 yX2_fits = true := by decide +kernel
set_option maxRecDepth 100000 in
theorem ql_2_273 : qc_lk2 2 273 919 yX2_joinTruths = true := by decide +kernel
set_option maxRecDepth 100000 in
theorem ql_2_277 : qc_lk2 2 277 925 yX2_joinValues = true := by decide +kernel
set_option maxRecDepth 100000 in
theorem ql_2_74 : qc_lk2 2 74 931 yX2_readOrder = true := by decide +kernel
set_option maxRecDepth 100000 in
theorem ql_2_96 : qc_lk2 2 96 941 yX2_readHow = true := by decide +kernel
set_option maxRecDepth 100000 in
theorem ql_2_123 : qc_lk2 2 123 959 yX2_readSet = true := by decide +kernel
set_option maxRecDepth 100000 in
theorem ql_2_132 : qc_lk2 2 132 966 yX0_isTooLong = true := by decide +kernel
set_option maxRecDepth 100000 in
theorem ql_2_151 : qc_lk2 2 151 972 yX7_init = true := by decide +kernel
set_option maxRecDepth 100000 in
theorem ql_7_48 : qc_lk2 7 48 979 yJ7_copyOf_65012 = true := by decide +kernel
set_option maxRecDepth 100000 in
theorem ql_17_304 : qc_lk2 17 304 989 yJ9_min_7cf53 = true := by decide +kernel
set_option maxRecDepth 100000 in
theorem ql_11_127 : qc_lk2 11 127 1032 yX2_faultKind = true := by decide +kernel
set_option maxRecDepth 100000 in
theorem ql_11_131 : qc_lk2 11 131 1036 yX2_faultPlace = true := by decide +kernel
set_option maxRecDepth 100000 in
theorem ql_13_62 : qc_lk2 13 62 1040 yX11_fault = true := by decide +kernel
set_option maxRecDepth 100000 in
theorem ql_13_66 : qc_lk2 13 66 1044 yX11_acts = true := by decide +kernel
set_option maxRecDepth 100000 in
theorem ql_11_134 : qc_lk2 11 134 1048 yX11_queryAt = true := by decide +kernel
set_option maxRecDepth 100000 in
theorem ql_11_138 : qc_lk2 11 138 1052 yX7_size = true := by decide +kernel
set_option maxRecDepth 100000 in
theorem ql_13_70 : qc_lk2 13 70 1056 yX11_act = true := by decide +kernel
set_option maxRecDepth 100000 in
theorem ql_11_141 : qc_lk2 11 141 1060 yX7_op = true := by decide +kernel
set_option maxRecDepth 100000 in
theorem ql_11_145 : qc_lk2 11 145 1064 yX7_number = true := by decide +kernel
set_option maxRecDepth 100000 in
theorem ql_13_75 : qc_lk2 13 75 1068 yX11_run = true := by decide +kernel
set_option maxRecDepth 100000 in
theorem ql_11_148 : qc_lk2 11 148 1072 yX4_go = true := by decide +kernel
set_option maxRecDepth 100000 in
theorem ql_4_30 : qc_lk2 4 30 1076 yX3_begin = true := by decide +kernel
set_option maxRecDepth 100000 in
theorem ql_3_61 : qc_lk2 3 61 1080 yX3_forget = true := by decide +kernel
set_option maxRecDepth 100000 in
theorem ql_3_77 : qc_lk2 3 77 1085 yX7_size = true := by decide +kernel
set_option maxRecDepth 100000 in
theorem ql_3_81 : qc_lk2 3 81 1086 yX3_openGroup = true := by decide +kernel
set_option maxRecDepth 100000 in
theorem ql_4_42 : qc_lk2 4 42 1090 yX1_keep = true := by decide +kernel
set_option maxRecDepth 100000 in
theorem ql_4_51 : qc_lk2 4 51 1095 yX4_visit = true := by decide +kernel
set_option maxRecDepth 100000 in
theorem ql_4_67 : qc_lk2 4 67 1099 yX7_size = true := by decide +kernel
set_option maxRecDepth 100000 in
theorem ql_4_71 : qc_lk2 4 71 1100 yX4_perform = true := by decide +kernel
set_option maxRecDepth 100000 in
theorem ql_4_110 : qc_lk2 4 110 1104 yX6_empty = true := by decide +kernel
set_option maxRecDepth 100000 in
theorem ql_4_116 : qc_lk2 4 116 1108 yX7_op = true := by decide +kernel
set_option maxRecDepth 100000 in
theorem ql_4_120 : qc_lk2 4 120 1109 yX7_number = true := by decide +kernel
set_option maxRecDepth 100000 in
theorem ql_4_123 : qc_lk2 4 123 1110 yX4_step = true := by decide +kernel
set_option maxRecDepth 100000 in
theorem ql_4_129 : qc_lk2 4 129 1114 yX4_store = true := by decide +kernel
set_option maxRecDepth 100000 in
theorem ql_4_75 : qc_lk2 4 75 1118 yX6_take = true := by decide +kernel
set_option maxRecDepth 100000 in
theorem ql_4_82 : qc_lk2 4 82 1122 yX6_takeReal = true := by decide +kernel
set_option maxRecDepth 100000 in
theorem ql_4_182 : qc_lk2 4 182 1126 yX1_cellFault = true := by decide +kernel
set_option maxRecDepth 100000 in
theorem ql_4_194 : qc_lk2 4 194 1127 yX1_setReal = true := by decide +kernel
set_option maxRecDepth 100000 in
theorem ql_4_198 : qc_lk2 4 198 1131 yX1_setWhole = true := by decide +kernel
set_option maxRecDepth 100000 in
theorem ql_4_132 : qc_lk2 4 132 1135 yX4_fetch = true := by decide +kernel
set_option maxRecDepth 100000 in
theorem ql_4_186 : qc_lk2 4 186 1139 yX1_realAt = true := by decide +kernel
set_option maxRecDepth 100000 in
theorem ql_4_178 : qc_lk2 4 178 1143 yX6_layReal = true := by decide +kernel
set_option maxRecDepth 100000 in
theorem ql_4_190 : qc_lk2 4 190 1147 yX1_wholeAt = true := by decide +kernel
set_option maxRecDepth 100000 in
theorem ql_4_158 : qc_lk2 4 158 1151 yX6_lay = true := by decide +kernel
set_option maxRecDepth 100000 in
theorem ql_4_135 : qc_lk2 4 135 1155 yX4_joinReals = true := by decide +kernel
set_option maxRecDepth 100000 in
theorem ql_4_202 : qc_lk2 4 202 1159 yX8_isLost = true := by decide +kernel
set_option maxRecDepth 100000 in
theorem ql_4_208 : qc_lk2 4 208 1162 yX8_joinedFloats = true := by decide +kernel
set_option maxRecDepth 100000 in
theorem ql_8_63 : qc_lk2 8 63 1165 yX8_remainder = true := by decide +kernel
set_option maxRecDepth 100000 in
theorem ql_4_212 : qc_lk2 4 212 1169 yX8_joined = true := by decide +kernel
set_option maxRecDepth 100000 in
theorem ql_4_138 : qc_lk2 4 138 1172 yX4_joinWholes = true := by decide +kernel
set_option maxRecDepth 100000 in
theorem ql_4_141 : qc_lk2 4 141 1176 yX4_layGiven = true := by decide +kernel
set_option maxRecDepth 100000 in
theorem ql_4_174 : qc_lk2 4 174 1180 yX7_real = true := by decide +kernel
set_option maxRecDepth 100000 in
theorem ql_4_145 : qc_lk2 4 145 1184 yX4_joinBits = true := by decide +kernel
set_option maxRecDepth 100000 in
theorem ql_4_148 : qc_lk2 4 148 1188 yX4_turn = true := by decide +kernel
set_option maxRecDepth 100000 in
theorem ql_4_151 : qc_lk2 4 151 1193 yX4_compare = true := by decide +kernel
set_option maxRecDepth 100000 in
theorem ql_4_218 : qc_lk2 4 218 1197 yX8_compared = true := by decide +kernel
set_option maxRecDepth 100000 in
theorem ql_4_222 : qc_lk2 4 222 1200 yJ13_compare_74951 = true := by decide +kernel
set_option maxRecDepth 100000 in
theorem ql_4_154 : qc_lk2 4 154 1203 yX4_holds = true := by decide +kernel
set_option maxRecDepth 100000 in
theorem ql_4_162 : qc_lk2 4 162 1206 yX4_convert = true := by decide +kernel
set_option maxRecDepth 100000 in
theorem ql_4_227 : qc_lk2 4 227 1210 yX4_convertReal = true := by decide +kernel
set_option maxRecDepth 100000 in
theorem ql_4_231 : qc_lk2 4 231 1214 yX4_convertWhole = true := by decide +kernel
set_option maxRecDepth 100000 in
theorem ql_4_165 : qc_lk2 4 165 1218 yX4_applyToReals = true := by decide +kernel
set_option maxRecDepth 100000 in
theorem ql_4_244 : qc_lk2 4 244 1222 yX8_magnitude = true := by decide +kernel
set_option maxRecDepth 100000 in
theorem ql_4_248 : qc_lk2 4 248 1223 yX8_floor = true := by decide +kernel
set_option maxRecDepth 100000 in
theorem ql_8_73 : qc_lk2 8 73 1226 yX8_nearest = true := by decide +kernel
set_option maxRecDepth 100000 in
theorem ql_4_251 : qc_lk2 4 251 1230 yX8_nearest = true := by decide +kernel
set_option maxRecDepth 100000 in
theorem ql_4_254 : qc_lk2 4 254 1231 yX8_signOf = true := by decide +kernel
set_option maxRecDepth 100000 in
theorem ql_4_257 : qc_lk2 4 257 1235 yX8_lesser = true := by decide +kernel
set_option maxRecDepth 100000 in
theorem ql_4_261 : qc_lk2 4 261 1238 yX8_greater = true := by decide +kernel
set_option maxRecDepth 100000 in
theorem ql_4_168 : qc_lk2 4 168 1241 yX4_applyToWholes = true := by decide +kernel
set_option maxRecDepth 100000 in
theorem ql_4_235 : qc_lk2 4 235 1245 yJ9_min_f86c9 = true := by decide +kernel
set_option maxRecDepth 100000 in
theorem ql_4_241 : qc_lk2 4 241 1246 yJ9_max_f86c9 = true := by decide +kernel
set_option maxRecDepth 100000 in
theorem ql_4_171 : qc_lk2 4 171 1249 yX4_jump = true := by decide +kernel
set_option maxRecDepth 100000 in
theorem ql_4_106 : qc_lk2 4 106 1253 yX3_fail = true := by decide +kernel
set_option maxRecDepth 100000 in
theorem ql_4_98 : qc_lk2 4 98 1258 yX3_insert = true := by decide +kernel
set_option maxRecDepth 100000 in
theorem ql_3_85 : qc_lk2 3 85 1262 yX8_compared = true := by decide +kernel
set_option maxRecDepth 100000 in
theorem ql_4_102 : qc_lk2 4 102 1263 yX3_fold = true := by decide +kernel
set_option maxRecDepth 100000 in
theorem ql_3_97 : qc_lk2 3 97 1267 yX3_groupOf = true := by decide +kernel
set_option maxRecDepth 100000 in
theorem ql_3_101 : qc_lk2 3 101 1271 yX3_foldedWhole = true := by decide +kernel
set_option maxRecDepth 100000 in
theorem ql_3_126 : qc_lk2 3 126 1277 yJ9_min_f86c9 = true := by decide +kernel
set_option maxRecDepth 100000 in
theorem ql_3_129 : qc_lk2 3 129 1278 yJ9_max_f86c9 = true := by decide +kernel
set_option maxRecDepth 100000 in
theorem ql_3_105 : qc_lk2 3 105 1279 yX3_isSummed = true := by decide +kernel
set_option maxRecDepth 100000 in
theorem ql_3_109 : qc_lk2 3 109 1284 yX8_isLost = true := by decide +kernel
set_option maxRecDepth 100000 in
theorem ql_3_113 : qc_lk2 3 113 1285 yX3_foldedReal = true := by decide +kernel
set_option maxRecDepth 100000 in
theorem ql_3_132 : qc_lk2 3 132 1289 yX8_lesser = true := by decide +kernel
set_option maxRecDepth 100000 in
theorem ql_3_136 : qc_lk2 3 136 1290 yX8_greater = true := by decide +kernel
set_option maxRecDepth 100000 in
theorem ql_4_55 : qc_lk2 4 55 1291 yX1_giveBack = true := by decide +kernel
set_option maxRecDepth 100000 in
theorem ql_4_61 : qc_lk2 4 61 1295 yX3_keepFirst = true := by decide +kernel
set_option maxRecDepth 100000 in
theorem ql_3_91 : qc_lk2 3 91 1299 yJ9_min_7cf53 = true := by decide +kernel
set_option maxRecDepth 100000 in
theorem ql_13_79 : qc_lk2 13 79 1300 yX11_told = true := by decide +kernel
set_option maxRecDepth 100000 in
theorem ql_13_83 : qc_lk2 13 83 1304 yX11_hit = true := by decide +kernel
set_option maxRecDepth 100000 in
theorem ql_11_169 : qc_lk2 11 169 1308 yX3_isHit = true := by decide +kernel
set_option maxRecDepth 100000 in
theorem ql_13_87 : qc_lk2 13 87 1312 yX11_score = true := by decide +kernel
set_option maxRecDepth 100000 in
theorem ql_11_188 : qc_lk2 11 188 1316 yX8_bitsOfDouble = true := by decide +kernel
set_option maxRecDepth 100000 in
theorem ql_13_92 : qc_lk2 13 92 1317 yX11_value = true := by decide +kernel
set_option maxRecDepth 100000 in
theorem ql_11_194 : qc_lk2 11 194 1321 yX3_valueBits = true := by decide +kernel
set_option maxRecDepth 100000 in
theorem ql_3_139 : qc_lk2 3 139 1325 yX8_bitsOfFloat = true := by decide +kernel
set_option maxRecDepth 100000 in
theorem ql_3_143 : qc_lk2 3 143 1326 yX8_bitsOfDouble = true := by decide +kernel
set_option maxRecDepth 100000 in
theorem ql_13_96 : qc_lk2 13 96 1327 yX11_count = true := by decide +kernel
set_option maxRecDepth 100000 in
theorem ql_11_198 : qc_lk2 11 198 1331 yX1_present = true := by decide +kernel
set_option maxRecDepth 100000 in
theorem ql_13_100 : qc_lk2 13 100 1335 yX11_clear = true := by decide +kernel
set_option maxRecDepth 100000 in
theorem ql_11_201 : qc_lk2 11 201 1339 yX3_forget = true := by decide +kernel
set_option maxRecDepth 100000 in
theorem ql_13_12 : qc_lk2 13 12 1342 yX12_init = true := by decide +kernel
set_option maxRecDepth 100000 in
theorem ql_13_17 : qc_lk2 13 17 1614 yX12_objects = true := by decide +kernel
set_option maxRecDepth 100000 in
theorem ql_12_162 : qc_lk2 12 162 1619 yX12_in = true := by decide +kernel
set_option maxRecDepth 100000 in
theorem ql_13_22 : qc_lk2 13 22 1622 yX12_column = true := by decide +kernel
set_option maxRecDepth 100000 in
theorem ql_12_171 : qc_lk2 12 171 1626 yX12_isColumn = true := by decide +kernel
set_option maxRecDepth 100000 in
theorem ql_12_177 : qc_lk2 12 177 1631 yX12_freeRow = true := by decide +kernel
set_option maxRecDepth 100000 in
theorem ql_13_27 : qc_lk2 13 27 1635 yX12_share = true := by decide +kernel
set_option maxRecDepth 100000 in
theorem ql_13_31 : qc_lk2 13 31 1639 yX12_drop = true := by decide +kernel
set_option maxRecDepth 100000 in
theorem ql_13_38 : qc_lk2 13 38 1643 yX12_put = true := by decide +kernel
set_option maxRecDepth 100000 in
theorem ql_12_199 : qc_lk2 12 199 1657 yX12_lowest = true := by decide +kernel
set_option maxRecDepth 100000 in
theorem ql_13_43 : qc_lk2 13 43 1660 yX12_cell = true := by decide +kernel
set_option maxRecDepth 100000 in
theorem ql_12_213 : qc_lk2 12 213 1665 yX12_bitsOf = true := by decide +kernel
set_option maxRecDepth 100000 in
theorem ql_12_203 : qc_lk2 12 203 1669 yJxf58ca_floatToIntBits_5c35a = true := by decide +kernel
set_option maxRecDepth 100000 in
theorem ql_21_59 : qc_lk2 21 59 1672 yJxf58ca_isNaN_12338 = true := by decide +kernel
set_option maxRecDepth 100000 in
theorem ql_12_207 : qc_lk2 12 207 1679 yJxe99ae_doubleToLongBits_ccdee = true := by decide +kernel
set_option maxRecDepth 100000 in
theorem ql_20_122 : qc_lk2 20 122 1682 yJxe99ae_isNaN_b9ae7 = true := by decide +kernel
set_option maxRecDepth 100000 in
theorem ql_13_47 : qc_lk2 13 47 1689 yX12_about = true := by decide +kernel
set_option maxRecDepth 100000 in
theorem ql_13_52 : qc_lk2 13 52 1694 yX12_feed = true := by decide +kernel
set_option maxRecDepth 100000 in
theorem ql_12_222 : qc_lk2 12 222 1698 yX12_four = true := by decide +kernel
set_option maxRecDepth 100000 in
theorem ql_13_56 : qc_lk2 13 56 1702 yX12_end = true := by decide +kernel
set_option maxRecDepth 100000 in
theorem ql_13_61 : qc_lk2 13 61 1706 yX12_query = true := by decide +kernel
set_option maxRecDepth 100000 in
theorem ql_12_304 : qc_lk2 12 304 1710 yX12_next = true := by decide +kernel
set_option maxRecDepth 100000 in
theorem ql_12_235 : qc_lk2 12 235 1714 yX12_byteAt = true := by decide +kernel
set_option maxRecDepth 100000 in
theorem ql_12_256 : qc_lk2 12 256 1720 yX12_letters = true := by decide +kernel
set_option maxRecDepth 100000 in
theorem ql_12_259 : qc_lk2 12 259 1729 yX12_figures = true := by decide +kernel
set_option maxRecDepth 100000 in
theorem ql_12_265 : qc_lk2 12 265 1733 yX12_isFigure = true := by decide +kernel
set_option maxRecDepth 100000 in
theorem ql_12_268 : qc_lk2 12 268 1740 yX12_fail = true := by decide +kernel
set_option maxRecDepth 100000 in
theorem ql_12_272 : qc_lk2 12 272 1745 yX12_sign = true := by decide +kernel
set_option maxRecDepth 100000 in
theorem ql_12_576 : qc_lk2 12 576 1749 yX12_read = true := by decide +kernel
set_option maxRecDepth 100000 in
theorem ql_12_358 : qc_lk2 12 358 1754 yX12_isWord = true := by decide +kernel
set_option maxRecDepth 100000 in
theorem ql_12_564 : qc_lk2 12 564 1760 yX12_readFind = true := by decide +kernel
set_option maxRecDepth 100000 in
theorem ql_12_518 : qc_lk2 12 518 1764 yX12_readWhere = true := by decide +kernel
set_option maxRecDepth 100000 in
theorem ql_12_512 : qc_lk2 12 512 1768 yX12_or = true := by decide +kernel
set_option maxRecDepth 100000 in
theorem ql_12_464 : qc_lk2 12 464 1772 yX12_expression = true := by decide +kernel
set_option maxRecDepth 100000 in
theorem ql_12_419 : qc_lk2 12 419 1776 yX12_frame = true := by decide +kernel
set_option maxRecDepth 100000 in
theorem ql_12_448 : qc_lk2 12 448 1780 yX12_begins = true := by decide +kernel
set_option maxRecDepth 100000 in
theorem ql_12_400 : qc_lk2 12 400 1785 yX12_opens = true := by decide +kernel
set_option maxRecDepth 100000 in
theorem ql_12_403 : qc_lk2 12 403 1789 yX12_joint = true := by decide +kernel
set_option maxRecDepth 100000 in
theorem ql_12_301 : qc_lk2 12 301 1793 yX12_is = true := by decide +kernel
set_option maxRecDepth 100000 in
theorem ql_12_297 : qc_lk2 12 297 1797 yX12_isSign = true := by decide +kernel
set_option maxRecDepth 100000 in
theorem ql_12_343 : qc_lk2 12 343 1801 yX12_node = true := by decide +kernel
set_option maxRecDepth 100000 in
theorem ql_12_310 : qc_lk2 12 310 1805 yX12_needOf = true := by decide +kernel
set_option maxRecDepth 100000 in
theorem ql_12_314 : qc_lk2 12 314 1809 yX12_most = true := by decide +kernel
set_option maxRecDepth 100000 in
theorem ql_12_347 : qc_lk2 12 347 1812 yX12_lay = true := by decide +kernel
set_option maxRecDepth 100000 in
theorem ql_12_412 : qc_lk2 12 412 1816 yX12_beginsCell = true := by decide +kernel
set_option maxRecDepth 100000 in
theorem ql_12_423 : qc_lk2 12 423 1820 yX12_column_ = true := by decide +kernel
set_option maxRecDepth 100000 in
theorem ql_12_426 : qc_lk2 12 426 1824 yX12_kindOfLane = true := by decide +kernel
set_option maxRecDepth 100000 in
theorem ql_12_416 : qc_lk2 12 416 1827 yX12_beginsWord = true := by decide +kernel
set_option maxRecDepth 100000 in
theorem ql_12_435 : qc_lk2 12 435 1834 yX12_function = true := by decide +kernel
set_option maxRecDepth 100000 in
theorem ql_12_381 : qc_lk2 12 381 1845 yX12_cast = true := by decide +kernel
set_option maxRecDepth 100000 in
theorem ql_12_452 : qc_lk2 12 452 1856 yX12_strengthHere = true := by decide +kernel
set_option maxRecDepth 100000 in
theorem ql_12_364 : qc_lk2 12 364 1862 yX12_comparison = true := by decide +kernel
set_option maxRecDepth 100000 in
theorem ql_12_455 : qc_lk2 12 455 1866 yX12_joinsDown = true := by decide +kernel
set_option maxRecDepth 100000 in
theorem ql_12_353 : qc_lk2 12 353 1870 yX12_joins = true := by decide +kernel
set_option maxRecDepth 100000 in
theorem ql_12_330 : qc_lk2 12 330 1874 yX12_taken = true := by decide +kernel
set_option maxRecDepth 100000 in
theorem ql_12_333 : qc_lk2 12 333 1878 yX12_isNumber = true := by decide +kernel
set_option maxRecDepth 100000 in
theorem ql_12_336 : qc_lk2 12 336 1881 yX12_isWhole = true := by decide +kernel
set_option maxRecDepth 100000 in
theorem ql_12_339 : qc_lk2 12 339 1884 yX12_needs4 = true := by decide +kernel
set_option maxRecDepth 100000 in
theorem ql_12_350 : qc_lk2 12 350 1888 yX12_later = true := by decide +kernel
set_option maxRecDepth 100000 in
theorem ql_12_458 : qc_lk2 12 458 1891 yX12_opHere = true := by decide +kernel
set_option maxRecDepth 100000 in
theorem ql_12_461 : qc_lk2 12 461 1895 yX12_ends = true := by decide +kernel
set_option maxRecDepth 100000 in
theorem ql_12_438 : qc_lk2 12 438 1899 yX12_want = true := by decide +kernel
set_option maxRecDepth 100000 in
theorem ql_12_445 : qc_lk2 12 445 1903 yX12_endsFunction = true := by decide +kernel
set_option maxRecDepth 100000 in
theorem ql_12_441 : qc_lk2 12 441 1907 yX12_called = true := by decide +kernel
set_option maxRecDepth 100000 in
theorem ql_12_523 : qc_lk2 12 523 1912 yX12_sum = true := by decide +kernel
set_option maxRecDepth 100000 in
theorem ql_12_567 : qc_lk2 12 567 1918 yX12_readFold = true := by decide +kernel
set_option maxRecDepth 100000 in
theorem ql_12_570 : qc_lk2 12 570 1927 yX12_readSet = true := by decide +kernel
set_option maxRecDepth 100000 in
theorem ql_12_579 : qc_lk2 12 579 1931 yX12_makes = true := by decide +kernel
set_option maxRecDepth 100000 in
theorem ql_12_573 : qc_lk2 12 573 1935 yX12_layAll = true := by decide +kernel
set_option maxRecDepth 100000 in
theorem ql_12_487 : qc_lk2 12 487 1939 yX12_task = true := by decide +kernel
set_option maxRecDepth 100000 in
theorem ql_12_491 : qc_lk2 12 491 1943 yX12_unfold = true := by decide +kernel
set_option maxRecDepth 100000 in
theorem ql_12_478 : qc_lk2 12 478 1947 yX12_emit = true := by decide +kernel
set_option maxRecDepth 100000 in
theorem ql_12_471 : qc_lk2 12 471 1951 yX12_here = true := by decide +kernel
set_option maxRecDepth 100000 in
theorem ql_12_500 : qc_lk2 12 500 1955 yX12_kindOp = true := by decide +kernel
set_option maxRecDepth 100000 in
theorem ql_12_503 : qc_lk2 12 503 1958 yX12_taskOfKind = true := by decide +kernel
set_option maxRecDepth 100000 in
theorem ql_12_506 : qc_lk2 12 506 1962 yX12_unfoldJumps = true := by decide +kernel
set_option maxRecDepth 100000 in
theorem ql_12_509 : qc_lk2 12 509 1966 yX12_unfoldOne = true := by decide +kernel
set_option maxRecDepth 100000 in
theorem ql_12_481 : qc_lk2 12 481 1970 yX12_becomes = true := by decide +kernel
set_option maxRecDepth 100000 in
theorem ql_12_494 : qc_lk2 12 494 1974 yX12_patch = true := by decide +kernel
set_option maxRecDepth 100000 in
theorem ql_12_497 : qc_lk2 12 497 1978 yX12_casts = true := by decide +kernel
set_option maxRecDepth 100000 in
theorem ql_13_65 : qc_lk2 13 65 1982 yX12_fault = true := by decide +kernel
set_option maxRecDepth 100000 in
theorem ql_13_69 : qc_lk2 13 69 1986 yX12_acts = true := by decide +kernel
set_option maxRecDepth 100000 in
theorem ql_12_585 : qc_lk2 12 585 1990 yX12_isQuery = true := by decide +kernel
set_option maxRecDepth 100000 in
theorem ql_13_74 : qc_lk2 13 74 1994 yX12_act = true := by decide +kernel
set_option maxRecDepth 100000 in
theorem ql_13_78 : qc_lk2 13 78 1998 yX12_run = true := by decide +kernel
set_option maxRecDepth 100000 in
theorem ql_12_713 : qc_lk2 12 713 2002 yX12_works = true := by decide +kernel
set_option maxRecDepth 100000 in
theorem ql_12_701 : qc_lk2 12 701 2006 yX12_does = true := by decide +kernel
set_option maxRecDepth 100000 in
theorem ql_12_623 : qc_lk2 12 623 2010 yX12_laysReal = true := by decide +kernel
set_option maxRecDepth 100000 in
theorem ql_12_627 : qc_lk2 12 627 2014 yX12_lays = true := by decide +kernel
set_option maxRecDepth 100000 in
theorem ql_12_671 : qc_lk2 12 671 2018 yX12_loads = true := by decide +kernel
set_option maxRecDepth 100000 in
theorem ql_12_620 : qc_lk2 12 620 2022 yX12_cellAt = true := by decide +kernel
set_option maxRecDepth 100000 in
theorem ql_12_674 : qc_lk2 12 674 2026 yX12_stores = true := by decide +kernel
set_option maxRecDepth 100000 in
theorem ql_12_677 : qc_lk2 12 677 2030 yX12_joins_ = true := by decide +kernel
set_option maxRecDepth 100000 in
theorem ql_12_634 : qc_lk2 12 634 2034 yX12_reckoned = true := by decide +kernel
set_option maxRecDepth 100000 in
theorem ql_12_638 : qc_lk2 12 638 2037 yX12_isNone = true := by decide +kernel
set_option maxRecDepth 100000 in
theorem ql_12_611 : qc_lk2 12 611 2040 yX12_isEndless = true := by decide +kernel
set_option maxRecDepth 100000 in
theorem ql_12_592 : qc_lk2 12 592 2045 yX12_isMinus = true := by decide +kernel
set_option maxRecDepth 100000 in
theorem ql_12_642 : qc_lk2 12 642 2048 yX12_reckonedFloat = true := by decide +kernel
set_option maxRecDepth 100000 in
theorem ql_12_646 : qc_lk2 12 646 2051 yX12_reckonedReal = true := by decide +kernel
set_option maxRecDepth 100000 in
theorem ql_12_679 : qc_lk2 12 679 2054 yX12_shifts = true := by decide +kernel
set_option maxRecDepth 100000 in
theorem ql_12_682 : qc_lk2 12 682 2058 yX12_turns = true := by decide +kernel
set_option maxRecDepth 100000 in
theorem ql_12_685 : qc_lk2 12 685 2062 yX12_compares = true := by decide +kernel
set_option maxRecDepth 100000 in
theorem ql_12_688 : qc_lk2 12 688 2066 yX12_isSo = true := by decide +kernel
set_option maxRecDepth 100000 in
theorem ql_12_692 : qc_lk2 12 692 2069 yX12_converts = true := by decide +kernel
set_option maxRecDepth 100000 in
theorem ql_12_695 : qc_lk2 12 695 2073 yX12_functions = true := by decide +kernel
set_option maxRecDepth 100000 in
theorem ql_12_608 : qc_lk2 12 608 2077 yX12_without = true := by decide +kernel
set_option maxRecDepth 100000 in
theorem ql_12_600 : qc_lk2 12 600 2080 yX12_floor = true := by decide +kernel
set_option maxRecDepth 100000 in
theorem ql_12_650 : qc_lk2 12 650 2085 yX12_nearest = true := by decide +kernel
set_option maxRecDepth 100000 in
theorem ql_12_655 : qc_lk2 12 655 2091 yX12_lesser = true := by decide +kernel
set_option maxRecDepth 100000 in
theorem ql_12_659 : qc_lk2 12 659 2094 yX12_greater = true := by decide +kernel
set_option maxRecDepth 100000 in
theorem ql_12_698 : qc_lk2 12 698 2097 yX12_goes = true := by decide +kernel
set_option maxRecDepth 100000 in
theorem ql_12_730 : qc_lk2 12 730 2101 yX12_goesOn = true := by decide +kernel
set_option maxRecDepth 100000 in
theorem ql_12_716 : qc_lk2 12 716 2105 yX12_hit = true := by decide +kernel
set_option maxRecDepth 100000 in
theorem ql_12_720 : qc_lk2 12 720 2109 yX12_folds = true := by decide +kernel
set_option maxRecDepth 100000 in
theorem ql_12_710 : qc_lk2 12 710 2113 yX12_fails = true := by decide +kernel
set_option maxRecDepth 100000 in
theorem ql_12_733 : qc_lk2 12 733 2117 yX12_takesBack = true := by decide +kernel
set_option maxRecDepth 100000 in
theorem ql_12_739 : qc_lk2 12 739 2121 yX12_sorts = true := by decide +kernel
set_option maxRecDepth 100000 in
theorem ql_13_82 : qc_lk2 13 82 2125 yX12_told = true := by decide +kernel
set_option maxRecDepth 100000 in
theorem ql_13_86 : qc_lk2 13 86 2129 yX12_hit_ = true := by decide +kernel
set_option maxRecDepth 100000 in
theorem ql_13_91 : qc_lk2 13 91 2133 yX12_score = true := by decide +kernel
set_option maxRecDepth 100000 in
theorem ql_13_95 : qc_lk2 13 95 2137 yX12_value = true := by decide +kernel
set_option maxRecDepth 100000 in
theorem ql_13_99 : qc_lk2 13 99 2141 yX12_count = true := by decide +kernel
set_option maxRecDepth 100000 in
theorem ql_13_103 : qc_lk2 13 103 2145 yX12_clear = true := by decide +kernel
