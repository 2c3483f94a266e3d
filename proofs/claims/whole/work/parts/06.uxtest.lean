theorem fx_0_9 : pm_FT.lookup (0, 9) = some (3, 0, [0], true, false, 1, 478, "LoomShed$Barred", 0) := by rfl
theorem fx_0_15 : pm_FT.lookup (0, 15) = some (4, 0, [0], true, false, 1, 479, "LoomShed$Barred", 0) := by rfl
theorem fx_1_9 : pm_FT.lookup (1, 9) = some (4, 3, [1], true, false, 1, 182, "LoomShed$Frame", 0) := by rfl
theorem fx_1_15 : pm_FT.lookup (1, 15) = some (5, 3, [1], true, false, 1, 184, "LoomShed$Frame", 0) := by rfl
theorem fx_1_18 : pm_FT.lookup (1, 18) = some (6, 3, [1], true, false, 1, 186, "LoomShed$Frame", 0) := by rfl
theorem fx_1_21 : pm_FT.lookup (1, 21) = some (7, 3, [1], true, false, 1, 187, "LoomShed$Frame", 0) := by rfl
theorem fx_1_25 : pm_FT.lookup (1, 25) = some (0, 0, [1], false, false, 0, 174, "LoomShed$Frame", 0) := by rfl
theorem fx_1_29 : pm_FT.lookup (1, 29) = some (2, 0, [8], false, true, 0, 133, "LoomShed$Shed", 0) := by rfl
theorem fx_1_34 : pm_FT.lookup (1, 34) = some (1, 0, [1], false, false, 0, 175, "LoomShed$Frame", 0) := by rfl
theorem fx_1_35 : pm_FT.lookup (1, 35) = some (2, 0, [1], false, false, 0, 177, "LoomShed$Frame", 0) := by rfl
theorem fx_1_42 : pm_FT.lookup (1, 42) = some (1, 0, [8], false, true, 0, 130, "LoomShed$Shed", 0) := by rfl
theorem fx_1_55 : pm_FT.lookup (1, 55) = some (3, 0, [1], false, false, 0, 179, "LoomShed$Frame", 0) := by rfl
theorem fx_1_75 : pm_FT.lookup (1, 75) = some (1, 0, [0, 2, 6, 9, 10], true, false, 2, 429, "LoomShed$Piece", 0) := by rfl
theorem fx_3_11 : pm_FT.lookup (3, 11) = some (0, 3, [3], true, false, 1, 157, "LoomShed$History", 0) := by rfl
theorem fx_3_18 : pm_FT.lookup (3, 18) = some (1, 0, [3], false, false, 0, 158, "LoomShed$History", 0) := by rfl
theorem fx_3_26 : pm_FT.lookup (3, 26) = some (2, 0, [3], false, false, 0, 159, "LoomShed$History", 0) := by rfl
theorem fx_4_9 : pm_FT.lookup (4, 9) = some (3, 3, [4], true, false, 1, 219, "LoomShed$Laying", 0) := by rfl
theorem fx_4_15 : pm_FT.lookup (4, 15) = some (4, 3, [4], true, false, 1, 220, "LoomShed$Laying", 0) := by rfl
theorem fx_4_20 : pm_FT.lookup (4, 20) = some (5, 3, [4], true, false, 1, 221, "LoomShed$Laying", 0) := by rfl
theorem fx_4_23 : pm_FT.lookup (4, 23) = some (6, 3, [4], true, false, 1, 223, "LoomShed$Laying", 0) := by rfl
theorem fx_4_26 : pm_FT.lookup (4, 26) = some (7, 3, [4], true, false, 1, 224, "LoomShed$Laying", 0) := by rfl
theorem fx_4_29 : pm_FT.lookup (4, 29) = some (8, 3, [4], true, false, 1, 225, "LoomShed$Laying", 0) := by rfl
theorem fx_4_32 : pm_FT.lookup (4, 32) = some (9, 3, [4], true, false, 1, 226, "LoomShed$Laying", 0) := by rfl
theorem fx_4_39 : pm_FT.lookup (4, 39) = some (0, 0, [4], false, false, 0, 215, "LoomShed$Laying", 0) := by rfl
theorem fx_4_55 : pm_FT.lookup (4, 55) = some (1, 0, [1], false, true, 0, 176, "LoomShed$Frame", 0) := by rfl
theorem fx_4_58 : pm_FT.lookup (4, 58) = some (3, 0, [1], false, true, 0, 180, "LoomShed$Frame", 0) := by rfl
theorem fx_4_61 : pm_FT.lookup (4, 61) = some (1, 0, [4], false, false, 0, 216, "LoomShed$Laying", 0) := by rfl
theorem fx_4_62 : pm_FT.lookup (4, 62) = some (2, 0, [4], false, false, 0, 217, "LoomShed$Laying", 0) := by rfl
theorem fx_4_69 : pm_FT.lookup (4, 69) = some (5, 3, [1], true, true, 2, 185, "LoomShed$Frame", 0) := by rfl
theorem fx_4_92 : pm_FT.lookup (4, 92) = some (10, 0, [4], false, false, 0, 227, "LoomShed$Laying", 0) := by rfl
theorem fx_5_9 : pm_FT.lookup (5, 9) = some (2, 3, [5], true, false, 1, 260, "LoomShed$Levelling", 0) := by rfl
theorem fx_5_15 : pm_FT.lookup (5, 15) = some (3, 3, [5], true, false, 1, 261, "LoomShed$Levelling", 0) := by rfl
theorem fx_5_18 : pm_FT.lookup (5, 18) = some (4, 3, [5], true, false, 1, 262, "LoomShed$Levelling", 0) := by rfl
theorem fx_5_21 : pm_FT.lookup (5, 21) = some (5, 3, [5], true, false, 1, 263, "LoomShed$Levelling", 0) := by rfl
theorem fx_5_24 : pm_FT.lookup (5, 24) = some (6, 3, [5], true, false, 1, 265, "LoomShed$Levelling", 0) := by rfl
theorem fx_5_27 : pm_FT.lookup (5, 27) = some (0, 1, [5], false, false, 0, 257, "LoomShed$Levelling", 0) := by rfl
theorem fx_5_35 : pm_FT.lookup (5, 35) = some (1, 0, [5], false, false, 0, 259, "LoomShed$Levelling", 0) := by rfl
theorem fx_5_48 : pm_FT.lookup (5, 48) = some (2, 0, [8], false, true, 0, 135, "LoomShed$Shed", 0) := by rfl
theorem fx_5_55 : pm_FT.lookup (5, 55) = some (0, 0, [0, 2, 6, 9, 10], true, false, 2, 421, "LoomShed$Piece", 0) := by rfl
theorem fx_5_60 : pm_FT.lookup (5, 60) = some (1, 0, [0, 2, 6, 9, 10], true, false, 2, 430, "LoomShed$Piece", 0) := by rfl
theorem fx_5_63 : pm_FT.lookup (5, 63) = some (1, 0, [8], false, true, 0, 132, "LoomShed$Shed", 0) := by rfl
theorem fx_5_70 : pm_FT.lookup (5, 70) = some (7, 0, [5], false, false, 0, 267, "LoomShed$Levelling", 0) := by rfl
theorem fx_5_73 : pm_FT.lookup (5, 73) = some (8, 0, [5], false, false, 0, 268, "LoomShed$Levelling", 0) := by rfl
theorem fx_5_76 : pm_FT.lookup (5, 76) = some (9, 0, [5], false, false, 0, 269, "LoomShed$Levelling", 0) := by rfl
theorem fx_6_9 : pm_FT.lookup (6, 9) = some (0, 0, [0, 2, 6, 9, 10], true, false, 1, 420, "LoomShed$Piece", 0) := by rfl
theorem fx_6_15 : pm_FT.lookup (6, 15) = some (1, 0, [0, 2, 6, 9, 10], true, false, 1, 428, "LoomShed$Piece", 0) := by rfl
theorem fx_6_18 : pm_FT.lookup (6, 18) = some (2, 0, [0, 2, 6, 9, 10], true, false, 1, 436, "LoomShed$Piece", 0) := by rfl
theorem fx_7_9 : pm_FT.lookup (7, 9) = some (4, 3, [7], true, false, 1, 302, "LoomShed$Sharing", 0) := by rfl
theorem fx_7_15 : pm_FT.lookup (7, 15) = some (5, 3, [7], true, false, 1, 303, "LoomShed$Sharing", 0) := by rfl
theorem fx_7_18 : pm_FT.lookup (7, 18) = some (6, 3, [7], true, false, 1, 304, "LoomShed$Sharing", 0) := by rfl
theorem fx_7_21 : pm_FT.lookup (7, 21) = some (7, 3, [7], true, false, 1, 305, "LoomShed$Sharing", 0) := by rfl
theorem fx_7_24 : pm_FT.lookup (7, 24) = some (8, 3, [7], true, false, 1, 306, "LoomShed$Sharing", 0) := by rfl
theorem fx_7_27 : pm_FT.lookup (7, 27) = some (0, 0, [7], false, false, 0, 297, "LoomShed$Sharing", 0) := by rfl
theorem fx_7_37 : pm_FT.lookup (7, 37) = some (1, 0, [7], false, false, 0, 299, "LoomShed$Sharing", 0) := by rfl
theorem fx_7_40 : pm_FT.lookup (7, 40) = some (0, 0, [8], false, true, 0, 128, "LoomShed$Shed", 0) := by rfl
theorem fx_7_45 : pm_FT.lookup (7, 45) = some (2, 0, [7], false, false, 0, 300, "LoomShed$Sharing", 0) := by rfl
theorem fx_7_46 : pm_FT.lookup (7, 46) = some (2, 0, [8], false, true, 0, 134, "LoomShed$Shed", 0) := by rfl
theorem fx_7_49 : pm_FT.lookup (7, 49) = some (3, 0, [7], false, false, 0, 301, "LoomShed$Sharing", 0) := by rfl
theorem fx_7_61 : pm_FT.lookup (7, 61) = some (9, 0, [7], false, false, 0, 308, "LoomShed$Sharing", 0) := by rfl
theorem fx_8_9 : pm_FT.lookup (8, 9) = some (0, 0, [8], false, false, 0, 126, "LoomShed$Shed", 0) := by rfl
theorem fx_8_15 : pm_FT.lookup (8, 15) = some (1, 0, [8], false, false, 0, 129, "LoomShed$Shed", 0) := by rfl
theorem fx_8_20 : pm_FT.lookup (8, 20) = some (3, 3, [8], true, false, 1, 138, "LoomShed$Shed", 0) := by rfl
theorem fx_8_28 : pm_FT.lookup (8, 28) = some (2, 0, [8], false, false, 0, 136, "LoomShed$Shed", 0) := by rfl
theorem fx_8_35 : pm_FT.lookup (8, 35) = some (0, 0, [0, 2, 6, 9, 10], true, false, 2, 426, "LoomShed$Piece", 0) := by rfl
theorem fx_9_9 : pm_FT.lookup (9, 9) = some (3, 0, [9], true, false, 1, 464, "LoomShed$Split", 0) := by rfl
theorem fx_11_12 : pm_FT.lookup (11, 12) = some (0, 3, [11], true, false, 1, 331, "LoomShed", 0) := by rfl
theorem fx_11_19 : pm_FT.lookup (11, 19) = some (1, 3, [11], true, false, 1, 332, "LoomShed", 0) := by rfl
theorem fx_11_26 : pm_FT.lookup (11, 26) = some (2, 3, [11], true, false, 1, 333, "LoomShed", 0) := by rfl
theorem fx_11_33 : pm_FT.lookup (11, 33) = some (3, 3, [11], true, false, 1, 334, "LoomShed", 0) := by rfl
theorem fx_11_37 : pm_FT.lookup (11, 37) = some (7, 3, [11], true, false, 1, 338, "LoomShed", 0) := by rfl
theorem fx_11_40 : pm_FT.lookup (11, 40) = some (8, 3, [11], true, false, 1, 339, "LoomShed", 0) := by rfl
theorem fx_11_46 : pm_FT.lookup (11, 46) = some (11, 3, [11], true, false, 1, 342, "LoomShed", 0) := by rfl
theorem fx_11_53 : pm_FT.lookup (11, 53) = some (12, 3, [11], true, false, 1, 343, "LoomShed", 0) := by rfl
theorem fx_11_57 : pm_FT.lookup (11, 57) = some (0, 0, [8], false, true, 0, 127, "LoomShed$Shed", 0) := by rfl
theorem fx_11_64 : pm_FT.lookup (11, 64) = some (1, 0, [8], false, true, 0, 131, "LoomShed$Shed", 0) := by rfl
theorem fx_11_71 : pm_FT.lookup (11, 71) = some (2, 0, [8], false, true, 0, 137, "LoomShed$Shed", 0) := by rfl
theorem fx_11_92 : pm_FT.lookup (11, 92) = some (0, 0, [9], true, false, 2, 422, "LoomShed$Split", 423) := by rfl
theorem fx_11_95 : pm_FT.lookup (11, 95) = some (1, 0, [9], true, false, 2, 431, "LoomShed$Split", 432) := by rfl
theorem fx_11_98 : pm_FT.lookup (11, 98) = some (2, 0, [9], true, false, 2, 437, "LoomShed$Split", 438) := by rfl
theorem fx_11_108 : pm_FT.lookup (11, 108) = some (3, 0, [9], true, false, 2, 465, "LoomShed$Split", 0) := by rfl
theorem fx_11_117 : pm_FT.lookup (11, 117) = some (0, 0, [0], true, false, 2, 424, "LoomShed$Barred", 425) := by rfl
theorem fx_11_118 : pm_FT.lookup (11, 118) = some (1, 0, [0], true, false, 2, 433, "LoomShed$Barred", 434) := by rfl
theorem fx_11_119 : pm_FT.lookup (11, 119) = some (2, 0, [0], true, false, 2, 439, "LoomShed$Barred", 440) := by rfl
theorem fx_11_133 : pm_FT.lookup (11, 133) = some (0, 0, [0, 2, 6, 9, 10], true, false, 2, 427, "LoomShed$Piece", 0) := by rfl
theorem fx_11_134 : pm_FT.lookup (11, 134) = some (1, 0, [0, 2, 6, 9, 10], true, false, 2, 435, "LoomShed$Piece", 0) := by rfl
theorem fx_11_148 : pm_FT.lookup (11, 148) = some (2, 0, [3], false, true, 0, 160, "LoomShed$History", 0) := by rfl
theorem fx_11_162 : pm_FT.lookup (11, 162) = some (3, 0, [1], false, true, 0, 181, "LoomShed$Frame", 0) := by rfl
theorem fx_11_168 : pm_FT.lookup (11, 168) = some (2, 0, [1], false, true, 0, 178, "LoomShed$Frame", 0) := by rfl
theorem fx_11_171 : pm_FT.lookup (11, 171) = some (4, 3, [1], true, true, 2, 183, "LoomShed$Frame", 0) := by rfl
theorem fx_11_179 : pm_FT.lookup (11, 179) = some (2, 0, [4], false, true, 0, 218, "LoomShed$Laying", 0) := by rfl
theorem fx_11_189 : pm_FT.lookup (11, 189) = some (5, 3, [4], true, true, 2, 222, "LoomShed$Laying", 0) := by rfl
theorem fx_11_217 : pm_FT.lookup (11, 217) = some (9, 0, [11], false, false, 0, 340, "LoomShed", 0) := by rfl
theorem fx_11_220 : pm_FT.lookup (11, 220) = some (10, 0, [11], false, false, 0, 341, "LoomShed", 0) := by rfl
theorem fx_11_229 : pm_FT.lookup (11, 229) = some (5, 3, [5], true, true, 2, 264, "LoomShed$Levelling", 0) := by rfl
theorem fx_11_232 : pm_FT.lookup (11, 232) = some (6, 3, [5], true, true, 2, 266, "LoomShed$Levelling", 0) := by rfl
theorem fx_11_238 : pm_FT.lookup (11, 238) = some (8, 3, [7], true, true, 2, 307, "LoomShed$Sharing", 0) := by rfl
theorem fx_11_241 : pm_FT.lookup (11, 241) = some (9, 0, [7], false, true, 0, 309, "LoomShed$Sharing", 0) := by rfl
theorem fx_11_251 : pm_FT.lookup (11, 251) = some (4, 1, [11], false, false, 0, 335, "LoomShed", 0) := by rfl
theorem fx_11_255 : pm_FT.lookup (11, 255) = some (5, 1, [11], false, false, 0, 336, "LoomShed", 0) := by rfl
theorem fx_11_258 : pm_FT.lookup (11, 258) = some (6, 1, [11], false, false, 0, 337, "LoomShed", 0) := by rfl
theorem fx_11_261 : pm_FT.lookup (11, 261) = some (0, 1, [5], false, true, 0, 258, "LoomShed$Levelling", 0) := by rfl
theorem fx_11_264 : pm_FT.lookup (11, 264) = some (0, 0, [7], false, true, 0, 298, "LoomShed$Sharing", 0) := by rfl
theorem fx_12_7 : pm_FT.lookup (12, 7) = some (0, 3, [12], true, false, 1, 924, "LoomShedModel", 0) := by rfl
theorem fx_12_13 : pm_FT.lookup (12, 13) = some (1, 3, [12], true, false, 1, 925, "LoomShedModel", 0) := by rfl
theorem fx_12_16 : pm_FT.lookup (12, 16) = some (5, 3, [12], true, false, 1, 929, "LoomShedModel", 0) := by rfl
theorem fx_12_19 : pm_FT.lookup (12, 19) = some (7, 3, [12], true, false, 1, 931, "LoomShedModel", 0) := by rfl
theorem fx_12_23 : pm_FT.lookup (12, 23) = some (8, 3, [12], true, false, 1, 932, "LoomShedModel", 0) := by rfl
theorem fx_12_26 : pm_FT.lookup (12, 26) = some (9, 3, [12], true, false, 1, 933, "LoomShedModel", 0) := by rfl
theorem fx_12_29 : pm_FT.lookup (12, 29) = some (12, 3, [12], true, false, 1, 936, "LoomShedModel", 0) := by rfl
theorem fx_12_32 : pm_FT.lookup (12, 32) = some (13, 3, [12], true, false, 1, 937, "LoomShedModel", 0) := by rfl
theorem fx_12_35 : pm_FT.lookup (12, 35) = some (14, 3, [12], true, false, 1, 938, "LoomShedModel", 0) := by rfl
theorem fx_12_38 : pm_FT.lookup (12, 38) = some (15, 3, [12], true, false, 1, 939, "LoomShedModel", 0) := by rfl
theorem fx_12_42 : pm_FT.lookup (12, 42) = some (19, 3, [12], true, false, 1, 943, "LoomShedModel", 0) := by rfl
theorem fx_12_45 : pm_FT.lookup (12, 45) = some (20, 3, [12], true, false, 1, 944, "LoomShedModel", 0) := by rfl
theorem fx_12_48 : pm_FT.lookup (12, 48) = some (21, 3, [12], true, false, 1, 945, "LoomShedModel", 0) := by rfl
theorem fx_12_51 : pm_FT.lookup (12, 51) = some (22, 3, [12], true, false, 1, 946, "LoomShedModel", 0) := by rfl
theorem fx_12_54 : pm_FT.lookup (12, 54) = some (23, 3, [12], true, false, 1, 947, "LoomShedModel", 0) := by rfl
theorem fx_12_57 : pm_FT.lookup (12, 57) = some (24, 3, [12], true, false, 1, 948, "LoomShedModel", 0) := by rfl
theorem fx_12_60 : pm_FT.lookup (12, 60) = some (2, 0, [12], false, false, 0, 926, "LoomShedModel", 0) := by rfl
theorem fx_12_75 : pm_FT.lookup (12, 75) = some (3, 0, [12], false, false, 0, 927, "LoomShedModel", 0) := by rfl
theorem fx_12_78 : pm_FT.lookup (12, 78) = some (6, 0, [12], false, false, 0, 930, "LoomShedModel", 0) := by rfl
theorem fx_12_89 : pm_FT.lookup (12, 89) = some (4, 0, [12], false, false, 0, 928, "LoomShedModel", 0) := by rfl
theorem fx_12_117 : pm_FT.lookup (12, 117) = some (11, 2, [12], false, false, 0, 935, "LoomShedModel", 0) := by rfl
theorem fx_12_121 : pm_FT.lookup (12, 121) = some (10, 2, [12], false, false, 0, 934, "LoomShedModel", 0) := by rfl
theorem fx_12_146 : pm_FT.lookup (12, 146) = some (16, 0, [12], false, false, 0, 940, "LoomShedModel", 0) := by rfl
theorem fx_12_167 : pm_FT.lookup (12, 167) = some (17, 2, [12], false, false, 0, 941, "LoomShedModel", 0) := by rfl
theorem fx_12_170 : pm_FT.lookup (12, 170) = some (18, 2, [12], false, false, 0, 942, "LoomShedModel", 0) := by rfl
theorem mx_0_3 : pm_MLT.lookup (0, 3) = some (1, 3, [(0, 19)], false, [477, 417, 104]) := by decide +kernel
theorem mx_1_3 : pm_MLT.lookup (1, 3) = some (9, 0, [], false, [173, 116, 117]) := by decide +kernel
theorem mx_1_38 : pm_MLT.lookup (1, 38) = some (2, 1, [(8, 26)], true, [614, 509, 6, 96]) := by decide +kernel
theorem mx_1_45 : pm_MLT.lookup (1, 45) = some (2, 3, [(1, 50)], false, [615, 617, 12, 98]) := by decide +kernel
theorem mx_1_49 : pm_MLT.lookup (1, 49) = some (0, 2, [(0, 52)], false, [627, 628, 103]) := by decide +kernel
theorem mx_1_58 : pm_MLT.lookup (1, 58) = some (2, 1, [(8, 53)], true, [630, 632, 14, 96]) := by decide +kernel
theorem mx_1_62 : pm_MLT.lookup (1, 62) = some (3, 0, [(0, 40), (2, 40), (6, 40), (9, 39), (10, 40)], false, [634, 564, 562, 40, 565, 562, 104, 566, 562, 104, 563, 562, 104, 567, 568, 107, 570, 562, 104]) := by decide +kernel
theorem mx_1_68 : pm_MLT.lookup (1, 68) = some (0, 2, [(0, 11)], false, [635, 388, 103]) := by decide +kernel
theorem mx_1_71 : pm_MLT.lookup (1, 71) = some (2, 3, [(1, 54)], false, [636, 638, 15, 98]) := by decide +kernel
theorem mx_1_78 : pm_MLT.lookup (1, 78) = some (2, 1, [(1, 51)], false, [619, 621, 13, 98]) := by decide +kernel
theorem mx_1_82 : pm_MLT.lookup (1, 82) = some (3, 1, [(0, 38), (2, 37), (6, 38), (9, 38), (10, 38)], false, [623, 553, 551, 38, 554, 551, 104, 555, 556, 106, 552, 551, 104, 558, 551, 104, 559, 551, 104]) := by decide +kernel
theorem mx_1_87 : pm_MLT.lookup (1, 87) = some (3, 0, [(0, 41), (2, 42), (6, 42), (9, 42), (10, 42)], false, [625, 575, 573, 42, 576, 577, 108, 579, 573, 104, 574, 573, 104, 580, 573, 104, 581, 573, 104]) := by decide +kernel
theorem mx_1_90 : pm_MLT.lookup (1, 90) = some (3, 0, [(0, 43), (2, 44), (6, 44), (9, 44), (10, 44)], false, [626, 586, 584, 44, 587, 588, 108, 590, 584, 104, 585, 584, 104, 591, 584, 104, 592, 584, 104]) := by decide +kernel
theorem mx_1_93 : pm_MLT.lookup (1, 93) = some (3, 2, [(0, 55), (2, 56), (6, 56), (9, 56), (10, 56)], false, [640, 643, 641, 56, 644, 645, 108, 647, 641, 104, 642, 641, 104, 648, 641, 104, 649, 641, 104]) := by decide +kernel
theorem mx_1_97 : pm_MLT.lookup (1, 97) = some (2, 1, [(1, 64)], false, [680, 682, 21, 98]) := by decide +kernel
theorem mx_1_100 : pm_MLT.lookup (1, 100) = some (2, 2, [(1, 65)], false, [839, 686, 22, 98]) := by decide +kernel
theorem mx_1_103 : pm_MLT.lookup (1, 103) = some (2, 1, [(1, 63)], false, [840, 678, 20, 98]) := by decide +kernel
theorem mx_2_3 : pm_MLT.lookup (2, 3) = some (1, 3, [(0, 19)], false, [453, 417, 104]) := by decide +kernel
theorem mx_3_3 : pm_MLT.lookup (3, 3) = some (9, 0, [], false, [153, 116, 117]) := by decide +kernel
theorem mx_3_17 : pm_MLT.lookup (3, 17) = some (1, 0, [(0, 1)], true, [156, 121, 96]) := by decide +kernel
theorem mx_3_22 : pm_MLT.lookup (3, 22) = some (2, 1, [(8, 10)], true, [383, 385, 2, 96]) := by decide +kernel
theorem mx_3_29 : pm_MLT.lookup (3, 29) = some (0, 2, [(0, 11)], false, [387, 388, 103]) := by decide +kernel
theorem mx_4_3 : pm_MLT.lookup (4, 3) = some (9, 0, [], false, [212, 116, 117]) := by decide +kernel
theorem mx_4_35 : pm_MLT.lookup (4, 35) = some (2, 3, [(4, 62)], false, [672, 674, 19, 99]) := by decide +kernel
theorem mx_4_43 : pm_MLT.lookup (4, 43) = some (2, 1, [(4, 66)], false, [688, 690, 23, 99]) := by decide +kernel
theorem mx_4_47 : pm_MLT.lookup (4, 47) = some (2, 0, [(4, 68)], false, [697, 699, 25, 99]) := by decide +kernel
theorem mx_4_52 : pm_MLT.lookup (4, 52) = some (2, 1, [(4, 73)], false, [717, 719, 29, 99]) := by decide +kernel
theorem mx_4_65 : pm_MLT.lookup (4, 65) = some (2, 1, [(1, 63)], true, [676, 678, 20, 98]) := by decide +kernel
theorem mx_4_72 : pm_MLT.lookup (4, 72) = some (2, 2, [(1, 65)], true, [684, 686, 22, 98]) := by decide +kernel
theorem mx_4_76 : pm_MLT.lookup (4, 76) = some (0, 2, [(0, 11)], false, [692, 388, 103]) := by decide +kernel
theorem mx_4_81 : pm_MLT.lookup (4, 81) = some (2, 3, [(4, 67)], false, [693, 695, 24, 99]) := by decide +kernel
theorem mx_4_85 : pm_MLT.lookup (4, 85) = some (2, 0, [(4, 69)], false, [701, 703, 26, 99]) := by decide +kernel
theorem mx_4_88 : pm_MLT.lookup (4, 88) = some (2, 2, [(4, 71)], false, [708, 710, 27, 99]) := by decide +kernel
theorem mx_4_95 : pm_MLT.lookup (4, 95) = some (2, 2, [(4, 72)], false, [712, 714, 28, 99]) := by decide +kernel
theorem mx_4_98 : pm_MLT.lookup (4, 98) = some (0, 2, [(0, 70)], false, [705, 706, 109]) := by decide +kernel
theorem mx_4_104 : pm_MLT.lookup (4, 104) = some (2, 1, [(4, 74)], false, [721, 723, 30, 99]) := by decide +kernel
theorem mx_4_107 : pm_MLT.lookup (4, 107) = some (2, 2, [(4, 75)], false, [725, 727, 31, 99]) := by decide +kernel
theorem mx_4_110 : pm_MLT.lookup (4, 110) = some (2, 2, [(4, 76)], false, [729, 731, 32, 99]) := by decide +kernel
theorem mx_4_113 : pm_MLT.lookup (4, 113) = some (2, 2, [(4, 82)], false, [753, 755, 36, 99]) := by decide +kernel
theorem mx_4_116 : pm_MLT.lookup (4, 116) = some (2, 2, [(4, 83)], false, [757, 759, 37, 99]) := by decide +kernel
theorem mx_4_119 : pm_MLT.lookup (4, 119) = some (2, 2, [(4, 84)], false, [761, 763, 38, 99]) := by decide +kernel
theorem mx_5_3 : pm_MLT.lookup (5, 3) = some (9, 0, [], false, [256, 116, 117]) := by decide +kernel
theorem mx_5_31 : pm_MLT.lookup (5, 31) = some (2, 1, [(5, 107)], false, [859, 861, 53, 100]) := by decide +kernel
theorem mx_5_39 : pm_MLT.lookup (5, 39) = some (2, 0, [(5, 108)], false, [865, 867, 54, 100]) := by decide +kernel
theorem mx_5_42 : pm_MLT.lookup (5, 42) = some (2, 0, [(5, 111)], false, [877, 879, 57, 100]) := by decide +kernel
theorem mx_5_45 : pm_MLT.lookup (5, 45) = some (2, 0, [(5, 112)], false, [882, 884, 58, 100]) := by decide +kernel
theorem mx_5_51 : pm_MLT.lookup (5, 51) = some (2, 1, [(8, 26)], true, [863, 509, 6, 96]) := by decide +kernel
theorem mx_5_66 : pm_MLT.lookup (5, 66) = some (3, 1, [(0, 38), (2, 37), (6, 38), (9, 38), (10, 38)], false, [864, 553, 551, 38, 554, 551, 104, 555, 556, 106, 552, 551, 104, 558, 551, 104, 559, 551, 104]) := by decide +kernel
theorem mx_5_79 : pm_MLT.lookup (5, 79) = some (2, 2, [(5, 109)], false, [869, 871, 55, 100]) := by decide +kernel
theorem mx_5_83 : pm_MLT.lookup (5, 83) = some (2, 3, [(5, 110)], false, [873, 875, 56, 100]) := by decide +kernel
theorem mx_5_87 : pm_MLT.lookup (5, 87) = some (0, 2, [(0, 103)], true, [881, 842, 95]) := by decide +kernel
theorem mx_5_91 : pm_MLT.lookup (5, 91) = some (2, 1, [(5, 113)], false, [886, 888, 59, 100]) := by decide +kernel
theorem mx_6_3 : pm_MLT.lookup (6, 3) = some (9, 0, [], false, [419, 116, 117]) := by decide +kernel
theorem mx_7_3 : pm_MLT.lookup (7, 3) = some (9, 0, [], false, [296, 116, 117]) := by decide +kernel
theorem mx_7_31 : pm_MLT.lookup (7, 31) = some (0, 2, [(0, 11)], false, [898, 388, 103]) := by decide +kernel
theorem mx_7_50 : pm_MLT.lookup (7, 50) = some (2, 1, [(8, 53)], true, [899, 632, 14, 96]) := by decide +kernel
theorem mx_7_54 : pm_MLT.lookup (7, 54) = some (0, 2, [(0, 70)], false, [900, 706, 109]) := by decide +kernel
theorem mx_7_64 : pm_MLT.lookup (7, 64) = some (0, 3, [(0, 116)], false, [902, 903, 101]) := by decide +kernel
theorem mx_7_68 : pm_MLT.lookup (7, 68) = some (2, 0, [(7, 117)], false, [905, 907, 61, 101]) := by decide +kernel
theorem mx_7_72 : pm_MLT.lookup (7, 72) = some (2, 1, [(7, 118)], false, [910, 912, 62, 101]) := by decide +kernel
theorem mx_7_76 : pm_MLT.lookup (7, 76) = some (2, 2, [(7, 119)], false, [914, 916, 63, 101]) := by decide +kernel
theorem mx_7_80 : pm_MLT.lookup (7, 80) = some (0, 2, [(0, 52)], false, [909, 628, 103]) := by decide +kernel
theorem mx_8_3 : pm_MLT.lookup (8, 3) = some (9, 0, [], false, [123, 116, 117]) := by decide +kernel
theorem mx_8_24 : pm_MLT.lookup (8, 24) = some (2, 1, [(8, 26)], false, [507, 509, 6, 96]) := by decide +kernel
theorem mx_8_31 : pm_MLT.lookup (8, 31) = some (2, 1, [(8, 25)], false, [516, 505, 5, 96]) := by decide +kernel
theorem mx_8_38 : pm_MLT.lookup (8, 38) = some (2, 1, [(8, 53)], false, [655, 632, 14, 96]) := by decide +kernel
theorem mx_9_3 : pm_MLT.lookup (9, 3) = some (1, 3, [(0, 19)], false, [463, 417, 104]) := by decide +kernel
theorem mx_10_3 : pm_MLT.lookup (10, 3) = some (1, 3, [(0, 19)], false, [416, 417, 104]) := by decide +kernel
theorem mx_11_3 : pm_MLT.lookup (11, 3) = some (9, 0, [], false, [115, 116, 117]) := by decide +kernel
theorem mx_11_11 : pm_MLT.lookup (11, 11) = some (1, 0, [(0, 1)], true, [120, 121, 96]) := by decide +kernel
theorem mx_11_18 : pm_MLT.lookup (11, 18) = some (1, 0, [(0, 2)], false, [150, 151, 97]) := by decide +kernel
theorem mx_11_25 : pm_MLT.lookup (11, 25) = some (1, 0, [(0, 3)], true, [170, 171, 98]) := by decide +kernel
theorem mx_11_32 : pm_MLT.lookup (11, 32) = some (1, 0, [(0, 4)], true, [209, 210, 99]) := by decide +kernel
theorem mx_11_45 : pm_MLT.lookup (11, 45) = some (1, 0, [(0, 5)], true, [253, 254, 100]) := by decide +kernel
theorem mx_11_52 : pm_MLT.lookup (11, 52) = some (1, 0, [(0, 6)], true, [293, 294, 101]) := by decide +kernel
theorem mx_11_61 : pm_MLT.lookup (11, 61) = some (2, 0, [(11, 8)], false, [375, 377, 0, 95]) := by decide +kernel
theorem mx_11_67 : pm_MLT.lookup (11, 67) = some (0, 4, [(0, 15)], false, [402, 403, 95]) := by decide +kernel
theorem mx_11_74 : pm_MLT.lookup (11, 74) = some (0, 4, [(0, 17)], false, [408, 409, 95]) := by decide +kernel
theorem mx_11_78 : pm_MLT.lookup (11, 78) = some (2, 1, [(8, 23)], true, [495, 497, 4, 96]) := by decide +kernel
theorem mx_11_82 : pm_MLT.lookup (11, 82) = some (2, 1, [(8, 25)], true, [503, 505, 5, 96]) := by decide +kernel
theorem mx_11_86 : pm_MLT.lookup (11, 86) = some (2, 1, [(8, 26)], true, [511, 509, 6, 96]) := by decide +kernel
theorem mx_11_101 : pm_MLT.lookup (11, 101) = some (1, 4, [(0, 21)], false, [460, 461, 107]) := by decide +kernel
theorem mx_11_104 : pm_MLT.lookup (11, 104) = some (2, 2, [(8, 27)], true, [512, 514, 7, 96]) := by decide +kernel
theorem mx_11_111 : pm_MLT.lookup (11, 111) = some (0, 2, [(0, 16)], false, [405, 406, 95]) := by decide +kernel
theorem mx_11_120 : pm_MLT.lookup (11, 120) = some (1, 5, [(0, 22)], false, [474, 475, 108]) := by decide +kernel
theorem mx_11_123 : pm_MLT.lookup (11, 123) = some (2, 1, [(8, 30)], true, [525, 527, 8, 96]) := by decide +kernel
theorem mx_11_127 : pm_MLT.lookup (11, 127) = some (3, 0, [(0, 32), (2, 33), (6, 36), (9, 34), (10, 35)], false, [533, 536, 534, 36, 537, 538, 108, 540, 541, 106, 535, 534, 104, 543, 544, 107, 546, 547, 105]) := by decide +kernel
theorem mx_11_135 : pm_MLT.lookup (11, 135) = some (3, 1, [(0, 38), (2, 37), (6, 38), (9, 38), (10, 38)], false, [550, 553, 551, 38, 554, 551, 104, 555, 556, 106, 552, 551, 104, 558, 551, 104, 559, 551, 104]) := by decide +kernel
theorem mx_11_139 : pm_MLT.lookup (11, 139) = some (3, 0, [(0, 40), (2, 40), (6, 40), (9, 39), (10, 40)], false, [561, 564, 562, 40, 565, 562, 104, 566, 562, 104, 563, 562, 104, 567, 568, 107, 570, 562, 104]) := by decide +kernel
theorem mx_11_142 : pm_MLT.lookup (11, 142) = some (3, 0, [(0, 41), (2, 42), (6, 42), (9, 42), (10, 42)], false, [572, 575, 573, 42, 576, 577, 108, 579, 573, 104, 574, 573, 104, 580, 573, 104, 581, 573, 104]) := by decide +kernel
theorem mx_11_145 : pm_MLT.lookup (11, 145) = some (3, 0, [(0, 43), (2, 44), (6, 44), (9, 44), (10, 44)], false, [583, 586, 584, 44, 587, 588, 108, 590, 584, 104, 585, 584, 104, 591, 584, 104, 592, 584, 104]) := by decide +kernel
theorem mx_11_151 : pm_MLT.lookup (11, 151) = some (2, 1, [(3, 46)], true, [598, 600, 9, 97]) := by decide +kernel
theorem mx_11_155 : pm_MLT.lookup (11, 155) = some (2, 0, [(11, 12)], false, [390, 392, 3, 95]) := by decide +kernel
theorem mx_11_158 : pm_MLT.lookup (11, 158) = some (2, 0, [(11, 48)], false, [606, 608, 10, 95]) := by decide +kernel
theorem mx_11_165 : pm_MLT.lookup (11, 165) = some (2, 0, [(8, 57)], true, [651, 653, 16, 96]) := by decide +kernel
theorem mx_11_175 : pm_MLT.lookup (11, 175) = some (2, 0, [(11, 60)], false, [664, 666, 17, 95]) := by decide +kernel
theorem mx_11_182 : pm_MLT.lookup (11, 182) = some (2, 0, [(11, 78)], false, [737, 739, 33, 95]) := by decide +kernel
theorem mx_11_186 : pm_MLT.lookup (11, 186) = some (2, 0, [(11, 80)], false, [745, 747, 34, 95]) := by decide +kernel
theorem mx_11_193 : pm_MLT.lookup (11, 193) = some (2, 3, [(11, 86)], false, [769, 771, 39, 95]) := by decide +kernel
theorem mx_11_197 : pm_MLT.lookup (11, 197) = some (2, 2, [(11, 90)], false, [786, 788, 42, 95]) := by decide +kernel
theorem mx_11_201 : pm_MLT.lookup (11, 201) = some (2, 0, [(4, 92)], true, [794, 796, 43, 99]) := by decide +kernel
theorem mx_11_204 : pm_MLT.lookup (11, 204) = some (2, 1, [(4, 93)], true, [798, 800, 44, 99]) := by decide +kernel
theorem mx_11_207 : pm_MLT.lookup (11, 207) = some (2, 3, [(11, 95)], false, [806, 808, 45, 95]) := by decide +kernel
theorem mx_11_211 : pm_MLT.lookup (11, 211) = some (2, 0, [(1, 99)], true, [823, 825, 47, 98]) := by decide +kernel
theorem mx_11_214 : pm_MLT.lookup (11, 214) = some (2, 0, [(11, 100)], false, [827, 829, 48, 95]) := by decide +kernel
theorem mx_11_223 : pm_MLT.lookup (11, 223) = some (2, 0, [(8, 105)], true, [849, 851, 51, 96]) := by decide +kernel
theorem mx_11_226 : pm_MLT.lookup (11, 226) = some (2, 1, [(5, 106)], true, [855, 857, 52, 100]) := by decide +kernel
theorem mx_11_235 : pm_MLT.lookup (11, 235) = some (2, 2, [(7, 115)], true, [894, 896, 60, 101]) := by decide +kernel
theorem mx_11_244 : pm_MLT.lookup (11, 244) = some (0, 2, [(0, 103)], false, [841, 842, 95]) := by decide +kernel
theorem mx_11_248 : pm_MLT.lookup (11, 248) = some (2, 1, [(3, 9)], true, [379, 381, 1, 97]) := by decide +kernel
theorem mx_11_269 : pm_MLT.lookup (11, 269) = some (1, 2, [(0, 18)], false, [413, 414, 105]) := by decide +kernel
theorem mx_11_274 : pm_MLT.lookup (11, 274) = some (1, 1, [(0, 20)], false, [450, 451, 106]) := by decide +kernel
theorem mx_11_276 : pm_MLT.lookup (11, 276) = some (1, 3, [(0, 19)], false, [490, 417, 104]) := by decide +kernel
theorem mx_11_279 : pm_MLT.lookup (11, 279) = some (2, 3, [(1, 49)], true, [610, 612, 11, 98]) := by decide +kernel
theorem mx_11_283 : pm_MLT.lookup (11, 283) = some (2, 3, [(4, 61)], true, [668, 670, 18, 99]) := by decide +kernel
theorem mx_11_287 : pm_MLT.lookup (11, 287) = some (2, 0, [(4, 81)], true, [749, 751, 35, 99]) := by decide +kernel
theorem mx_11_290 : pm_MLT.lookup (11, 290) = some (2, 1, [(1, 87)], true, [773, 775, 40, 98]) := by decide +kernel
theorem mx_11_293 : pm_MLT.lookup (11, 293) = some (2, 1, [(1, 64)], true, [777, 682, 21, 98]) := by decide +kernel
theorem mx_11_296 : pm_MLT.lookup (11, 296) = some (2, 2, [(4, 88)], true, [778, 780, 41, 99]) := by decide +kernel
theorem mx_11_299 : pm_MLT.lookup (11, 299) = some (2, 2, [(11, 96)], false, [810, 812, 46, 95]) := by decide +kernel
theorem mx_11_304 : pm_MLT.lookup (11, 304) = some (2, 1, [(1, 101)], true, [831, 833, 49, 98]) := by decide +kernel
theorem mx_11_307 : pm_MLT.lookup (11, 307) = some (2, 1, [(1, 102)], true, [835, 837, 50, 98]) := by decide +kernel
theorem mx_11_310 : pm_MLT.lookup (11, 310) = some (0, 2, [(0, 52)], false, [844, 628, 103]) := by decide +kernel
theorem mx_12_1 : pm_MLT.lookup (12, 1) = some (9, 0, [], false, [923, 116, 117]) := by decide +kernel
theorem mx_12_64 : pm_MLT.lookup (12, 64) = some (0, 3, [(0, 123)], false, [1009, 1010, 102]) := by decide +kernel
theorem mx_12_68 : pm_MLT.lookup (12, 68) = some (2, 0, [(12, 124)], false, [1012, 1014, 64, 102]) := by decide +kernel
theorem mx_12_71 : pm_MLT.lookup (12, 71) = some (2, 1, [(12, 128)], false, [1028, 1030, 65, 102]) := by decide +kernel
theorem mx_12_81 : pm_MLT.lookup (12, 81) = some (2, 1, [(12, 136)], false, [1060, 1062, 69, 102]) := by decide +kernel
theorem mx_12_85 : pm_MLT.lookup (12, 85) = some (2, 1, [(12, 132)], false, [1044, 1046, 66, 102]) := by decide +kernel
theorem mx_12_92 : pm_MLT.lookup (12, 92) = some (2, 2, [(12, 145)], false, [1096, 1098, 76, 102]) := by decide +kernel
theorem mx_12_96 : pm_MLT.lookup (12, 96) = some (2, 1, [(12, 146)], false, [1100, 1102, 77, 102]) := by decide +kernel
theorem mx_12_99 : pm_MLT.lookup (12, 99) = some (2, 0, [(12, 135)], false, [1056, 1058, 68, 102]) := by decide +kernel
theorem mx_12_102 : pm_MLT.lookup (12, 102) = some (2, 2, [(12, 134)], false, [1052, 1054, 67, 102]) := by decide +kernel
theorem mx_12_106 : pm_MLT.lookup (12, 106) = some (2, 0, [(12, 137)], false, [1064, 1066, 70, 102]) := by decide +kernel
theorem mx_12_110 : pm_MLT.lookup (12, 110) = some (2, 0, [(12, 138)], false, [1068, 1070, 71, 102]) := by decide +kernel
theorem mx_12_113 : pm_MLT.lookup (12, 113) = some (2, 2, [(12, 144)], false, [1092, 1094, 75, 102]) := by decide +kernel
theorem mx_12_124 : pm_MLT.lookup (12, 124) = some (2, 2, [(12, 143)], false, [1088, 1090, 74, 102]) := by decide +kernel
theorem mx_12_128 : pm_MLT.lookup (12, 128) = some (2, 1, [(12, 147)], false, [1104, 1106, 78, 102]) := by decide +kernel
theorem mx_12_132 : pm_MLT.lookup (12, 132) = some (2, 0, [(12, 142)], false, [1084, 1086, 73, 102]) := by decide +kernel
theorem mx_12_135 : pm_MLT.lookup (12, 135) = some (2, 1, [(12, 148)], false, [1108, 1110, 79, 102]) := by decide +kernel
theorem mx_12_138 : pm_MLT.lookup (12, 138) = some (2, 2, [(12, 141)], false, [1080, 1082, 72, 102]) := by decide +kernel
theorem mx_12_142 : pm_MLT.lookup (12, 142) = some (2, 0, [(12, 150)], false, [1116, 1118, 80, 102]) := by decide +kernel
theorem mx_12_149 : pm_MLT.lookup (12, 149) = some (2, 2, [(12, 153)], false, [1128, 1130, 82, 102]) := by decide +kernel
theorem mx_12_152 : pm_MLT.lookup (12, 152) = some (2, 2, [(12, 154)], false, [1132, 1134, 83, 102]) := by decide +kernel
theorem mx_12_155 : pm_MLT.lookup (12, 155) = some (2, 0, [(12, 152)], false, [1124, 1126, 81, 102]) := by decide +kernel
theorem mx_12_158 : pm_MLT.lookup (12, 158) = some (2, 2, [(12, 156)], false, [1140, 1142, 84, 102]) := by decide +kernel
theorem mx_12_161 : pm_MLT.lookup (12, 161) = some (2, 2, [(12, 160)], false, [1156, 1158, 85, 102]) := by decide +kernel
theorem mx_12_164 : pm_MLT.lookup (12, 164) = some (0, 2, [(0, 165)], false, [1176, 1177, 102]) := by decide +kernel
theorem mx_12_173 : pm_MLT.lookup (12, 173) = some (2, 1, [(12, 163)], false, [1168, 1170, 86, 102]) := by decide +kernel
theorem mx_12_176 : pm_MLT.lookup (12, 176) = some (2, 2, [(12, 164)], false, [1172, 1174, 87, 102]) := by decide +kernel
theorem mx_12_180 : pm_MLT.lookup (12, 180) = some (2, 0, [(12, 166)], false, [1179, 1181, 88, 102]) := by decide +kernel
theorem mx_12_184 : pm_MLT.lookup (12, 184) = some (2, 0, [(12, 167)], false, [1183, 1185, 89, 102]) := by decide +kernel
theorem mx_12_187 : pm_MLT.lookup (12, 187) = some (2, 2, [(12, 170)], false, [1195, 1197, 91, 102]) := by decide +kernel
theorem mx_12_190 : pm_MLT.lookup (12, 190) = some (2, 2, [(12, 171)], false, [1199, 1201, 92, 102]) := by decide +kernel
theorem mx_12_193 : pm_MLT.lookup (12, 193) = some (2, 0, [(12, 169)], false, [1191, 1193, 90, 102]) := by decide +kernel
theorem mx_12_196 : pm_MLT.lookup (12, 196) = some (2, 1, [(12, 173)], false, [1207, 1209, 93, 102]) := by decide +kernel
theorem mx_13_9 : pm_MLT.lookup (13, 9) = some (1, 0, [(0, 0)], false, [112, 113, 95]) := by decide +kernel
theorem mx_13_12 : pm_MLT.lookup (13, 12) = some (1, 0, [(0, 120)], false, [920, 921, 102]) := by decide +kernel
theorem mx_13_13 : pm_MLT.lookup (13, 13) = some (2, 1, [(11, 7)], false, [371, 372, 373, 95]) := by decide +kernel
theorem mx_13_17 : pm_MLT.lookup (13, 17) = some (2, 1, [(12, 122)], false, [1005, 1006, 1007, 102]) := by decide +kernel
theorem mx_13_18 : pm_MLT.lookup (13, 18) = some (2, 1, [(11, 13)], false, [394, 395, 396, 95]) := by decide +kernel
theorem mx_13_21 : pm_MLT.lookup (13, 21) = some (2, 1, [(12, 125)], false, [1016, 1017, 1018, 102]) := by decide +kernel
theorem mx_13_22 : pm_MLT.lookup (13, 22) = some (2, 4, [(11, 14)], false, [398, 399, 400, 95]) := by decide +kernel
theorem mx_13_26 : pm_MLT.lookup (13, 26) = some (2, 4, [(12, 126)], false, [1020, 1021, 1022, 102]) := by decide +kernel
theorem mx_13_27 : pm_MLT.lookup (13, 27) = some (2, 2, [(11, 24)], false, [499, 500, 501, 95]) := by decide +kernel
theorem mx_13_31 : pm_MLT.lookup (13, 31) = some (2, 2, [(12, 127)], false, [1024, 1025, 1026, 102]) := by decide +kernel
theorem mx_13_32 : pm_MLT.lookup (13, 32) = some (2, 3, [(11, 28)], false, [517, 518, 519, 95]) := by decide +kernel
theorem mx_13_36 : pm_MLT.lookup (13, 36) = some (2, 3, [(12, 129)], false, [1032, 1033, 1034, 102]) := by decide +kernel
theorem mx_13_37 : pm_MLT.lookup (13, 37) = some (2, 1, [(11, 29)], false, [521, 522, 523, 95]) := by decide +kernel
theorem mx_13_40 : pm_MLT.lookup (13, 40) = some (2, 1, [(12, 130)], false, [1036, 1037, 1038, 102]) := by decide +kernel
theorem mx_13_41 : pm_MLT.lookup (13, 41) = some (2, 2, [(11, 31)], false, [529, 530, 531, 95]) := by decide +kernel
theorem mx_13_44 : pm_MLT.lookup (13, 44) = some (2, 2, [(12, 131)], false, [1040, 1041, 1042, 102]) := by decide +kernel
theorem mx_13_45 : pm_MLT.lookup (13, 45) = some (2, 0, [(11, 45)], false, [594, 595, 596, 95]) := by decide +kernel
theorem mx_13_49 : pm_MLT.lookup (13, 49) = some (2, 0, [(12, 121)], false, [1001, 1002, 1003, 102]) := by decide +kernel
theorem mx_13_50 : pm_MLT.lookup (13, 50) = some (2, 1, [(11, 47)], false, [602, 603, 604, 95]) := by decide +kernel
theorem mx_13_53 : pm_MLT.lookup (13, 53) = some (2, 1, [(12, 133)], false, [1048, 1049, 1050, 102]) := by decide +kernel
theorem mx_13_54 : pm_MLT.lookup (13, 54) = some (2, 1, [(11, 58)], false, [656, 657, 658, 95]) := by decide +kernel
theorem mx_13_57 : pm_MLT.lookup (13, 57) = some (2, 1, [(12, 139)], false, [1072, 1073, 1074, 102]) := by decide +kernel
theorem mx_13_58 : pm_MLT.lookup (13, 58) = some (2, 0, [(11, 59)], false, [660, 661, 662, 95]) := by decide +kernel
theorem mx_13_61 : pm_MLT.lookup (13, 61) = some (2, 0, [(12, 140)], false, [1076, 1077, 1078, 102]) := by decide +kernel
theorem mx_13_62 : pm_MLT.lookup (13, 62) = some (2, 0, [(11, 77)], false, [733, 734, 735, 95]) := by decide +kernel
theorem mx_13_65 : pm_MLT.lookup (13, 65) = some (2, 0, [(12, 149)], false, [1112, 1113, 1114, 102]) := by decide +kernel
theorem mx_13_66 : pm_MLT.lookup (13, 66) = some (2, 2, [(11, 79)], false, [741, 742, 743, 95]) := by decide +kernel
theorem mx_13_69 : pm_MLT.lookup (13, 69) = some (2, 2, [(12, 151)], false, [1120, 1121, 1122, 102]) := by decide +kernel
theorem mx_13_70 : pm_MLT.lookup (13, 70) = some (2, 2, [(11, 85)], false, [765, 766, 767, 95]) := by decide +kernel
theorem mx_13_73 : pm_MLT.lookup (13, 73) = some (2, 2, [(12, 155)], false, [1136, 1137, 1138, 102]) := by decide +kernel
theorem mx_13_74 : pm_MLT.lookup (13, 74) = some (2, 0, [(11, 89)], false, [782, 783, 784, 95]) := by decide +kernel
theorem mx_13_77 : pm_MLT.lookup (13, 77) = some (2, 0, [(12, 157)], false, [1144, 1145, 1146, 102]) := by decide +kernel
theorem mx_13_78 : pm_MLT.lookup (13, 78) = some (2, 1, [(11, 91)], false, [790, 791, 792, 95]) := by decide +kernel
theorem mx_13_81 : pm_MLT.lookup (13, 81) = some (2, 1, [(12, 158)], false, [1148, 1149, 1150, 102]) := by decide +kernel
theorem mx_13_82 : pm_MLT.lookup (13, 82) = some (2, 0, [(11, 94)], false, [802, 803, 804, 95]) := by decide +kernel
theorem mx_13_85 : pm_MLT.lookup (13, 85) = some (2, 0, [(12, 159)], false, [1152, 1153, 1154, 102]) := by decide +kernel
theorem mx_13_86 : pm_MLT.lookup (13, 86) = some (2, 0, [(11, 97)], false, [815, 816, 817, 95]) := by decide +kernel
theorem mx_13_89 : pm_MLT.lookup (13, 89) = some (2, 0, [(12, 161)], false, [1160, 1161, 1162, 102]) := by decide +kernel
theorem mx_13_90 : pm_MLT.lookup (13, 90) = some (2, 1, [(11, 98)], false, [819, 820, 821, 95]) := by decide +kernel
theorem mx_13_93 : pm_MLT.lookup (13, 93) = some (2, 1, [(12, 162)], false, [1164, 1165, 1166, 102]) := by decide +kernel
theorem mx_13_94 : pm_MLT.lookup (13, 94) = some (2, 2, [(11, 104)], false, [845, 846, 847, 95]) := by decide +kernel
theorem mx_13_97 : pm_MLT.lookup (13, 97) = some (2, 2, [(12, 168)], false, [1187, 1188, 1189, 102]) := by decide +kernel
theorem mx_13_98 : pm_MLT.lookup (13, 98) = some (2, 2, [(11, 114)], false, [890, 891, 892, 95]) := by decide +kernel
theorem mx_13_101 : pm_MLT.lookup (13, 101) = some (2, 2, [(12, 172)], false, [1203, 1204, 1205, 102]) := by decide +kernel
theorem cx_1_85 : pm_CT.lookup (1, 85) = some ("LoomShed$Barred", 624) := by decide +kernel
theorem cx_3_9 : pm_CT.lookup (3, 9) = some ("LoomShed$Shed", 154) := by decide +kernel
theorem cx_4_18 : pm_CT.lookup (4, 18) = some ("[[I", 213) := by decide +kernel
theorem cx_8_18 : pm_CT.lookup (8, 18) = some ("LoomShed$Piece", 124) := by decide +kernel
theorem cx_8_42 : pm_CT.lookup (8, 42) = some ("LoomShed$Split", 853) := by decide +kernel
theorem cx_8_44 : pm_CT.lookup (8, 44) = some ("LoomShed$Barred", 854) := by decide +kernel
theorem cx_11_9 : pm_CT.lookup (11, 9) = some ("LoomShed$Shed", 118) := by decide +kernel
theorem cx_11_16 : pm_CT.lookup (11, 16) = some ("LoomShed$History", 148) := by decide +kernel
theorem cx_11_23 : pm_CT.lookup (11, 23) = some ("LoomShed$Frame", 168) := by decide +kernel
theorem cx_11_30 : pm_CT.lookup (11, 30) = some ("LoomShed$Laying", 207) := by decide +kernel
theorem cx_11_43 : pm_CT.lookup (11, 43) = some ("LoomShed$Levelling", 251) := by decide +kernel
theorem cx_11_50 : pm_CT.lookup (11, 50) = some ("LoomShed$Sharing", 291) := by decide +kernel
theorem cx_11_90 : pm_CT.lookup (11, 90) = some ("LoomShed$Split", 458) := by decide +kernel
theorem cx_11_115 : pm_CT.lookup (11, 115) = some ("LoomShed$Barred", 472) := by decide +kernel
theorem cx_11_128 : pm_CT.lookup (11, 128) = some ("LoomShed$Piece", 488) := by decide +kernel
theorem cx_11_267 : pm_CT.lookup (11, 267) = some ("LoomShed$Tight", 411) := by decide +kernel
theorem cx_11_272 : pm_CT.lookup (11, 272) = some ("LoomShed$Free", 448) := by decide +kernel
theorem cx_13_7 : pm_CT.lookup (13, 7) = some ("LoomShed", 110) := by decide +kernel
theorem cx_13_10 : pm_CT.lookup (13, 10) = some ("LoomShedModel", 918) := by decide +kernel
theorem kx_4_51 : pm_KT.lookup (4, 51) = some (1000000, 716) := by decide +kernel
theorem kx_7_60 : pm_KT.lookup (7, 60) = some (1000000, 901) := by decide +kernel
theorem kx_11_303 : pm_KT.lookup (11, 303) = some (1000000, 814) := by decide +kernel
section
variable {d : Nat} {ls : pm_L} {st : List pm_V} {h : pm_H} {Q : Option pm_V → pm_H → Prop}
theorem ux_123_0 : pm_w d 123 0 ls st h Q ↔ pm_li ls 0 fun x => pm_w d 123 1 ls (.inl x :: st) h Q := pw_iload_n (show decode (pm_b 123) 0 = .ok (.iload_n 0, 1) by decide +kernel)
theorem ux_123_1 : pm_w d 123 1 ls st h Q ↔ pm_li ls 1 fun x => pm_w d 123 2 ls (.inl x :: st) h Q := pw_iload_n (show decode (pm_b 123) 1 = .ok (.iload_n 1, 1) by decide +kernel)
theorem ux_123_2 : pm_w d 123 2 ls st h Q ↔ pm_i st fun y s => pm_i s fun x s => ((x < y) → pm_w d 123 14 ls s h Q) ∧ (¬ (x < y) → pm_w d 123 5 ls s h Q) := pw_ic_lt (show decode (pm_b 123) 2 = .ok (.if_icmp .lt 12, 3) by decide +kernel) (by decide)
theorem ux_123_5 : pm_w d 123 5 ls st h Q ↔ pm_li ls 0 fun x => pm_w d 123 6 ls (.inl x :: st) h Q := pw_iload_n (show decode (pm_b 123) 5 = .ok (.iload_n 0, 1) by decide +kernel)
theorem ux_123_6 : pm_w d 123 6 ls st h Q ↔ pm_li ls 2 fun x => pm_w d 123 7 ls (.inl x :: st) h Q := pw_iload_n (show decode (pm_b 123) 6 = .ok (.iload_n 2, 1) by decide +kernel)
theorem ux_123_7 : pm_w d 123 7 ls st h Q ↔ pm_i st fun y s => pm_i s fun x s => ((y < x) → pm_w d 123 14 ls s h Q) ∧ (¬ (y < x) → pm_w d 123 10 ls s h Q) := pw_ic_gt (show decode (pm_b 123) 7 = .ok (.if_icmp .gt 7, 3) by decide +kernel) (by decide)
theorem ux_123_10 : pm_w d 123 10 ls st h Q ↔ pm_w d 123 11 ls (.inl 1 :: st) h Q := pw_iconst (show decode (pm_b 123) 10 = .ok (.iconst 1, 1) by decide +kernel) (by unfold pm_I32; decide)
theorem ux_123_11 : pm_w d 123 11 ls st h Q ↔ pm_w d 123 15 ls st h Q := pw_goto (show decode (pm_b 123) 11 = .ok (.goto 4, 3) by decide +kernel) (by decide)
theorem ux_123_14 : pm_w d 123 14 ls st h Q ↔ pm_w d 123 15 ls (.inl 0 :: st) h Q := pw_iconst (show decode (pm_b 123) 14 = .ok (.iconst 0, 1) by decide +kernel) (by unfold pm_I32; decide)
theorem ux_123_15 : pm_w d 123 15 ls st h Q ↔ pm_i st fun x s => (s = [] ∧ (x = 0 ∨ x = 1)) ∧ Q (some (.inl x)) h := pw_zreturn (show decode (pm_b 123) 15 = .ok (.ireturn, 1) by decide +kernel) rfl
theorem ux_137_0 : pm_w d 137 0 ls st h Q ↔ pm_lq ls 0 fun x => pm_w d 137 1 ls (.inr (.inr x) :: st) h Q := pw_aload_n (show decode (pm_b 137) 0 = .ok (.aload_n 0, 1) by decide +kernel)
theorem ux_137_1 : pm_w d 137 1 ls st h Q ↔ pm_r st fun a s => pm_tgs h a [12] ∧ pm_w d 137 4 ls (.inl (h.1 a 6) :: s) h Q := pw_get (show decode (pm_b 137) 1 = .ok (.getfield 78, 3) by decide +kernel) fx_12_78
theorem ux_137_4 : pm_w d 137 4 ls st h Q ↔ pm_i st fun x s => ((x ≤ 0) → pm_w d 137 16 ls s h Q) ∧ (¬ (x ≤ 0) → pm_w d 137 7 ls s h Q) := pw_if_le (show decode (pm_b 137) 4 = .ok (.ifCond .le 12, 3) by decide +kernel) (by decide)
theorem ux_137_7 : pm_w d 137 7 ls st h Q ↔ pm_lq ls 0 fun x => pm_w d 137 8 ls (.inr (.inr x) :: st) h Q := pw_aload_n (show decode (pm_b 137) 7 = .ok (.aload_n 0, 1) by decide +kernel)
theorem ux_137_8 : pm_w d 137 8 ls st h Q ↔ pm_r st fun a s => pm_tgs h a [12] ∧ pm_w d 137 11 ls (.inl (h.1 a 6) :: s) h Q := pw_get (show decode (pm_b 137) 8 = .ok (.getfield 78, 3) by decide +kernel) fx_12_78
theorem ux_137_11 : pm_w d 137 11 ls st h Q ↔ pm_w d 137 12 ls (.inl 1 :: st) h Q := pw_iconst (show decode (pm_b 137) 11 = .ok (.iconst 1, 1) by decide +kernel) (by unfold pm_I32; decide)
theorem ux_137_12 : pm_w d 137 12 ls st h Q ↔ pm_i st fun y s => pm_i s fun x s => pm_I32 (x - y) ∧ pm_w d 137 13 ls (.inl (x - y) :: s) h Q := pw_isub (show decode (pm_b 137) 12 = .ok (.isub, 1) by decide +kernel)
theorem ux_137_13 : pm_w d 137 13 ls st h Q ↔ pm_w d 137 17 ls st h Q := pw_goto (show decode (pm_b 137) 13 = .ok (.goto 4, 3) by decide +kernel) (by decide)
theorem ux_137_16 : pm_w d 137 16 ls st h Q ↔ pm_w d 137 17 ls (.inl 0 :: st) h Q := pw_iconst (show decode (pm_b 137) 16 = .ok (.iconst 0, 1) by decide +kernel) (by unfold pm_I32; decide)
theorem ux_137_17 : pm_w d 137 17 ls st h Q ↔ pm_i st fun x s => s = [] ∧ Q (some (.inl x)) h := pw_ireturn (show decode (pm_b 137) 17 = .ok (.ireturn, 1) by decide +kernel) rfl
theorem ux_138_0 : pm_w d 138 0 ls st h Q ↔ pm_w d 138 1 ls (.inl 0 :: st) h Q := pw_iconst (show decode (pm_b 138) 0 = .ok (.iconst 0, 1) by decide +kernel) (by unfold pm_I32; decide)
theorem ux_138_1 : pm_w d 138 1 ls st h Q ↔ pm_i st fun x s => pm_w d 138 2 (pm_s1 ls 1 (.inl x)) s h Q := pw_istore_n (show decode (pm_b 138) 1 = .ok (.istore_n 1, 1) by decide +kernel) (by decide)
theorem ux_138_2 : pm_w d 138 2 ls st h Q ↔ pm_w d 138 3 ls (.inl 0 :: st) h Q := pw_iconst (show decode (pm_b 138) 2 = .ok (.iconst 0, 1) by decide +kernel) (by unfold pm_I32; decide)
theorem ux_138_3 : pm_w d 138 3 ls st h Q ↔ pm_i st fun x s => pm_w d 138 4 (pm_s1 ls 2 (.inl x)) s h Q := pw_istore_n (show decode (pm_b 138) 3 = .ok (.istore_n 2, 1) by decide +kernel) (by decide)
theorem ux_138_4 : pm_w d 138 4 ls st h Q ↔ pm_li ls 2 fun x => pm_w d 138 5 ls (.inl x :: st) h Q := pw_iload_n (show decode (pm_b 138) 4 = .ok (.iload_n 2, 1) by decide +kernel)
theorem ux_138_5 : pm_w d 138 5 ls st h Q ↔ pm_lq ls 0 fun x => pm_w d 138 6 ls (.inr (.inr x) :: st) h Q := pw_aload_n (show decode (pm_b 138) 5 = .ok (.aload_n 0, 1) by decide +kernel)
theorem ux_138_6 : pm_w d 138 6 ls st h Q ↔ pm_r st fun a s => pm_tgs h a [12] ∧ pm_w d 138 9 ls (.inr (.inr (h.2.1 a 0)) :: s) h Q := pw_get (show decode (pm_b 138) 6 = .ok (.getfield 7, 3) by decide +kernel) fx_12_7
theorem ux_138_9 : pm_w d 138 9 ls st h Q ↔ pm_w d 138 10 ls (.inl 2 :: st) h Q := pw_iconst (show decode (pm_b 138) 9 = .ok (.iconst 2, 1) by decide +kernel) (by unfold pm_I32; decide)
theorem ux_138_10 : pm_w d 138 10 ls st h Q ↔ pm_i st fun x s => pm_r s fun a s => pm_inb h a 20 x ∧ pm_w d 138 11 ls (.inl (h.1 a x.toNat) :: s) h Q := pw_iaload (show decode (pm_b 138) 10 = .ok (.iaload, 1) by decide +kernel)
theorem ux_138_11 : pm_w d 138 11 ls st h Q ↔ pm_i st fun y s => pm_i s fun x s => ((y ≤ x) → pm_w d 138 32 ls s h Q) ∧ (¬ (y ≤ x) → pm_w d 138 14 ls s h Q) := pw_ic_ge (show decode (pm_b 138) 11 = .ok (.if_icmp .ge 21, 3) by decide +kernel) (by decide)
theorem ux_138_14 : pm_w d 138 14 ls st h Q ↔ pm_li ls 1 fun x => pm_w d 138 15 ls (.inl x :: st) h Q := pw_iload_n (show decode (pm_b 138) 14 = .ok (.iload_n 1, 1) by decide +kernel)
theorem ux_138_15 : pm_w d 138 15 ls st h Q ↔ pm_lq ls 0 fun x => pm_w d 138 16 ls (.inr (.inr x) :: st) h Q := pw_aload_n (show decode (pm_b 138) 15 = .ok (.aload_n 0, 1) by decide +kernel)
theorem ux_138_16 : pm_w d 138 16 ls st h Q ↔ pm_r st fun a s => pm_tgs h a [12] ∧ pm_w d 138 19 ls (.inr (.inr (h.2.1 a 0)) :: s) h Q := pw_get (show decode (pm_b 138) 16 = .ok (.getfield 7, 3) by decide +kernel) fx_12_7
theorem ux_138_19 : pm_w d 138 19 ls st h Q ↔ pm_w d 138 21 ls (.inl 15 :: st) h Q := pw_bipush (show decode (pm_b 138) 19 = .ok (.bipush 15, 2) by decide +kernel) (by decide)
theorem ux_138_21 : pm_w d 138 21 ls st h Q ↔ pm_li ls 2 fun x => pm_w d 138 22 ls (.inl x :: st) h Q := pw_iload_n (show decode (pm_b 138) 21 = .ok (.iload_n 2, 1) by decide +kernel)
theorem ux_138_22 : pm_w d 138 22 ls st h Q ↔ pm_i st fun y s => pm_i s fun x s => pm_I32 (x + y) ∧ pm_w d 138 23 ls (.inl (x + y) :: s) h Q := pw_iadd (show decode (pm_b 138) 22 = .ok (.iadd, 1) by decide +kernel)
theorem ux_138_23 : pm_w d 138 23 ls st h Q ↔ pm_i st fun x s => pm_r s fun a s => pm_inb h a 20 x ∧ pm_w d 138 24 ls (.inl (h.1 a x.toNat) :: s) h Q := pw_iaload (show decode (pm_b 138) 23 = .ok (.iaload, 1) by decide +kernel)
theorem ux_138_24 : pm_w d 138 24 ls st h Q ↔ pm_i st fun y s => pm_i s fun x s => pm_I32 (x + y) ∧ pm_w d 138 25 ls (.inl (x + y) :: s) h Q := pw_iadd (show decode (pm_b 138) 24 = .ok (.iadd, 1) by decide +kernel)
theorem ux_138_25 : pm_w d 138 25 ls st h Q ↔ pm_i st fun x s => pm_w d 138 26 (pm_s1 ls 1 (.inl x)) s h Q := pw_istore_n (show decode (pm_b 138) 25 = .ok (.istore_n 1, 1) by decide +kernel) (by decide)
theorem ux_138_26 : pm_w d 138 26 ls st h Q ↔ pm_li ls 2 fun x => pm_I32 (x + 1) ∧ pm_w d 138 29 (pm_s1 ls 2 (.inl (x + 1))) st h Q := pw_iinc (show decode (pm_b 138) 26 = .ok (.iinc 2 1, 3) by decide +kernel) (by decide)
theorem ux_138_29 : pm_w d 138 29 ls st h Q ↔ pm_w d 138 4 ls st h Q := pw_goto (show decode (pm_b 138) 29 = .ok (.goto (-25), 3) by decide +kernel) (by decide)
theorem ux_138_32 : pm_w d 138 32 ls st h Q ↔ pm_li ls 1 fun x => pm_w d 138 33 ls (.inl x :: st) h Q := pw_iload_n (show decode (pm_b 138) 32 = .ok (.iload_n 1, 1) by decide +kernel)
theorem ux_138_33 : pm_w d 138 33 ls st h Q ↔ pm_i st fun x s => s = [] ∧ Q (some (.inl x)) h := pw_ireturn (show decode (pm_b 138) 33 = .ok (.ireturn, 1) by decide +kernel) rfl
theorem ux_142_0 : pm_w d 142 0 ls st h Q ↔ pm_w d 142 1 ls (.inl 0 :: st) h Q := pw_iconst (show decode (pm_b 142) 0 = .ok (.iconst 0, 1) by decide +kernel) (by unfold pm_I32; decide)
theorem ux_142_1 : pm_w d 142 1 ls st h Q ↔ pm_i st fun x s => pm_w d 142 2 (pm_s1 ls 1 (.inl x)) s h Q := pw_istore_n (show decode (pm_b 142) 1 = .ok (.istore_n 1, 1) by decide +kernel) (by decide)
theorem ux_142_2 : pm_w d 142 2 ls st h Q ↔ pm_w d 142 3 ls (.inl (-1) :: st) h Q := pw_iconst (show decode (pm_b 142) 2 = .ok (.iconst (-1), 1) by decide +kernel) (by unfold pm_I32; decide)
theorem ux_142_3 : pm_w d 142 3 ls st h Q ↔ pm_i st fun x s => pm_w d 142 4 (pm_s1 ls 2 (.inl x)) s h Q := pw_istore_n (show decode (pm_b 142) 3 = .ok (.istore_n 2, 1) by decide +kernel) (by decide)
theorem ux_142_4 : pm_w d 142 4 ls st h Q ↔ pm_w d 142 5 ls (.inl 0 :: st) h Q := pw_iconst (show decode (pm_b 142) 4 = .ok (.iconst 0, 1) by decide +kernel) (by unfold pm_I32; decide)
theorem ux_142_5 : pm_w d 142 5 ls st h Q ↔ pm_i st fun x s => pm_w d 142 6 (pm_s1 ls 3 (.inl x)) s h Q := pw_istore_n (show decode (pm_b 142) 5 = .ok (.istore_n 3, 1) by decide +kernel) (by decide)
theorem ux_142_6 : pm_w d 142 6 ls st h Q ↔ pm_li ls 3 fun x => pm_w d 142 7 ls (.inl x :: st) h Q := pw_iload_n (show decode (pm_b 142) 6 = .ok (.iload_n 3, 1) by decide +kernel)
theorem ux_142_7 : pm_w d 142 7 ls st h Q ↔ pm_lq ls 0 fun x => pm_w d 142 8 ls (.inr (.inr x) :: st) h Q := pw_aload_n (show decode (pm_b 142) 7 = .ok (.aload_n 0, 1) by decide +kernel)
theorem ux_142_8 : pm_w d 142 8 ls st h Q ↔ pm_r st fun a s => pm_tgs h a [12] ∧ pm_w d 142 11 ls (.inr (.inr (h.2.1 a 0)) :: s) h Q := pw_get (show decode (pm_b 142) 8 = .ok (.getfield 7, 3) by decide +kernel) fx_12_7
theorem ux_142_11 : pm_w d 142 11 ls st h Q ↔ pm_w d 142 12 ls (.inl 2 :: st) h Q := pw_iconst (show decode (pm_b 142) 11 = .ok (.iconst 2, 1) by decide +kernel) (by unfold pm_I32; decide)
theorem ux_142_12 : pm_w d 142 12 ls st h Q ↔ pm_i st fun x s => pm_r s fun a s => pm_inb h a 20 x ∧ pm_w d 142 13 ls (.inl (h.1 a x.toNat) :: s) h Q := pw_iaload (show decode (pm_b 142) 12 = .ok (.iaload, 1) by decide +kernel)
theorem ux_142_13 : pm_w d 142 13 ls st h Q ↔ pm_i st fun y s => pm_i s fun x s => ((y ≤ x) → pm_w d 142 86 ls s h Q) ∧ (¬ (y ≤ x) → pm_w d 142 16 ls s h Q) := pw_ic_ge (show decode (pm_b 142) 13 = .ok (.if_icmp .ge 73, 3) by decide +kernel) (by decide)
theorem ux_142_16 : pm_w d 142 16 ls st h Q ↔ pm_lq ls 0 fun x => pm_w d 142 17 ls (.inr (.inr x) :: st) h Q := pw_aload_n (show decode (pm_b 142) 16 = .ok (.aload_n 0, 1) by decide +kernel)
theorem ux_142_17 : pm_w d 142 17 ls st h Q ↔ pm_r st fun a s => pm_tgs h a [12] ∧ pm_w d 142 20 ls (.inr (.inr (h.2.1 a 8)) :: s) h Q := pw_get (show decode (pm_b 142) 17 = .ok (.getfield 23, 3) by decide +kernel) fx_12_23
theorem ux_142_20 : pm_w d 142 20 ls st h Q ↔ pm_li ls 3 fun x => pm_w d 142 21 ls (.inl x :: st) h Q := pw_iload_n (show decode (pm_b 142) 20 = .ok (.iload_n 3, 1) by decide +kernel)
theorem ux_142_21 : pm_w d 142 21 ls st h Q ↔ pm_i st fun x s => pm_r s fun a s => pm_inb h a 21 x ∧ pm_w d 142 22 ls (.inr (.inl (h.1 a x.toNat)) :: s) h Q := pw_laload (show decode (pm_b 142) 21 = .ok (.laload, 1) by decide +kernel)
theorem ux_142_22 : pm_w d 142 22 ls st h Q ↔ pm_lq ls 0 fun x => pm_w d 142 23 ls (.inr (.inr x) :: st) h Q := pw_aload_n (show decode (pm_b 142) 22 = .ok (.aload_n 0, 1) by decide +kernel)
theorem ux_142_23 : pm_w d 142 23 ls st h Q ↔ pm_r st fun a s => pm_tgs h a [12] ∧ pm_w d 142 26 ls (.inr (.inr (h.2.1 a 0)) :: s) h Q := pw_get (show decode (pm_b 142) 23 = .ok (.getfield 7, 3) by decide +kernel) fx_12_7
theorem ux_142_26 : pm_w d 142 26 ls st h Q ↔ pm_w d 142 28 ls (.inl 15 :: st) h Q := pw_bipush (show decode (pm_b 142) 26 = .ok (.bipush 15, 2) by decide +kernel) (by decide)
theorem ux_142_28 : pm_w d 142 28 ls st h Q ↔ pm_li ls 3 fun x => pm_w d 142 29 ls (.inl x :: st) h Q := pw_iload_n (show decode (pm_b 142) 28 = .ok (.iload_n 3, 1) by decide +kernel)
theorem ux_142_29 : pm_w d 142 29 ls st h Q ↔ pm_i st fun y s => pm_i s fun x s => pm_I32 (x + y) ∧ pm_w d 142 30 ls (.inl (x + y) :: s) h Q := pw_iadd (show decode (pm_b 142) 29 = .ok (.iadd, 1) by decide +kernel)
theorem ux_142_30 : pm_w d 142 30 ls st h Q ↔ pm_i st fun x s => pm_r s fun a s => pm_inb h a 20 x ∧ pm_w d 142 31 ls (.inl (h.1 a x.toNat) :: s) h Q := pw_iaload (show decode (pm_b 142) 30 = .ok (.iaload, 1) by decide +kernel)
theorem ux_142_31 : pm_w d 142 31 ls st h Q ↔ pm_i st fun x s => pm_w d 142 32 ls (.inr (.inl x) :: s) h Q := pw_i2l (show decode (pm_b 142) 31 = .ok (.i2l, 1) by decide +kernel)
theorem ux_142_32 : pm_w d 142 32 ls st h Q ↔ pm_lq ls 0 fun x => pm_w d 142 33 ls (.inr (.inr x) :: st) h Q := pw_aload_n (show decode (pm_b 142) 32 = .ok (.aload_n 0, 1) by decide +kernel)
theorem ux_142_33 : pm_w d 142 33 ls st h Q ↔ pm_r st fun a s => pm_tgs h a [12] ∧ pm_w d 142 36 ls (.inr (.inl (h.1 a 10)) :: s) h Q := pw_get (show decode (pm_b 142) 33 = .ok (.getfield 121, 3) by decide +kernel) fx_12_121
theorem ux_142_36 : pm_w d 142 36 ls st h Q ↔ pm_l st fun y s => pm_l s fun x s => pm_I64 (x * y) ∧ pm_w d 142 37 ls (.inr (.inl (x * y)) :: s) h Q := pw_lmul (show decode (pm_b 142) 36 = .ok (.lmul, 1) by decide +kernel)
theorem ux_142_37 : pm_w d 142 37 ls st h Q ↔ pm_l st fun y s => pm_l s fun x s => pm_w d 142 38 ls (.inl (pm_lc x y) :: s) h Q := pw_lcmp (show decode (pm_b 142) 37 = .ok (.lcmp, 1) by decide +kernel)
theorem ux_142_38 : pm_w d 142 38 ls st h Q ↔ pm_i st fun x s => ((0 ≤ x) → pm_w d 142 45 ls s h Q) ∧ (¬ (0 ≤ x) → pm_w d 142 41 ls s h Q) := pw_if_ge (show decode (pm_b 142) 38 = .ok (.ifCond .ge 7, 3) by decide +kernel) (by decide)
theorem ux_142_41 : pm_w d 142 41 ls st h Q ↔ pm_w d 142 42 ls (.inl 1 :: st) h Q := pw_iconst (show decode (pm_b 142) 41 = .ok (.iconst 1, 1) by decide +kernel) (by unfold pm_I32; decide)
theorem ux_142_42 : pm_w d 142 42 ls st h Q ↔ pm_w d 142 46 ls st h Q := pw_goto (show decode (pm_b 142) 42 = .ok (.goto 4, 3) by decide +kernel) (by decide)
theorem ux_142_45 : pm_w d 142 45 ls st h Q ↔ pm_w d 142 46 ls (.inl 0 :: st) h Q := pw_iconst (show decode (pm_b 142) 45 = .ok (.iconst 0, 1) by decide +kernel) (by unfold pm_I32; decide)
theorem ux_142_46 : pm_w d 142 46 ls st h Q ↔ pm_i st fun x s => pm_w d 142 48 (pm_s1 ls 4 (.inl x)) s h Q := pw_istore (show decode (pm_b 142) 46 = .ok (.istore 4, 2) by decide +kernel) (by decide)
theorem ux_142_48 : pm_w d 142 48 ls st h Q ↔ pm_lq ls 0 fun x => pm_w d 142 49 ls (.inr (.inr x) :: st) h Q := pw_aload_n (show decode (pm_b 142) 48 = .ok (.aload_n 0, 1) by decide +kernel)
theorem ux_142_49 : pm_w d 142 49 ls st h Q ↔ pm_r st fun a s => pm_tgs h a [12] ∧ pm_w d 142 52 ls (.inr (.inr (h.2.1 a 12)) :: s) h Q := pw_get (show decode (pm_b 142) 49 = .ok (.getfield 29, 3) by decide +kernel) fx_12_29
theorem ux_142_52 : pm_w d 142 52 ls st h Q ↔ pm_li ls 3 fun x => pm_w d 142 53 ls (.inl x :: st) h Q := pw_iload_n (show decode (pm_b 142) 52 = .ok (.iload_n 3, 1) by decide +kernel)
theorem ux_142_53 : pm_w d 142 53 ls st h Q ↔ pm_li ls 4 fun x => pm_w d 142 55 ls (.inl x :: st) h Q := pw_iload (show decode (pm_b 142) 53 = .ok (.iload 4, 2) by decide +kernel)
theorem ux_142_55 : pm_w d 142 55 ls st h Q ↔ pm_i st fun x s => ((x = 0) → pm_w d 142 62 ls s h Q) ∧ (¬ (x = 0) → pm_w d 142 58 ls s h Q) := pw_if_eq (show decode (pm_b 142) 55 = .ok (.ifCond .eq 7, 3) by decide +kernel) (by decide)
theorem ux_142_58 : pm_w d 142 58 ls st h Q ↔ pm_w d 142 59 ls (.inl (-1) :: st) h Q := pw_iconst (show decode (pm_b 142) 58 = .ok (.iconst (-1), 1) by decide +kernel) (by unfold pm_I32; decide)
theorem ux_142_59 : pm_w d 142 59 ls st h Q ↔ pm_w d 142 64 ls st h Q := pw_goto (show decode (pm_b 142) 59 = .ok (.goto 5, 3) by decide +kernel) (by decide)
theorem ux_142_62 : pm_w d 142 62 ls st h Q ↔ pm_w d 142 64 ls (.inl (-2) :: st) h Q := pw_bipush (show decode (pm_b 142) 62 = .ok (.bipush (-2), 2) by decide +kernel) (by decide)
theorem ux_142_64 : pm_w d 142 64 ls st h Q ↔ pm_i st fun v s => pm_i s fun x s => pm_r s fun a s => pm_inb h a 20 x ∧ pm_w d 142 65 ls s (pm_wI h a x.toNat v) Q := pw_iastore (show decode (pm_b 142) 64 = .ok (.iastore, 1) by decide +kernel)
theorem ux_142_65 : pm_w d 142 65 ls st h Q ↔ pm_li ls 4 fun x => pm_w d 142 67 ls (.inl x :: st) h Q := pw_iload (show decode (pm_b 142) 65 = .ok (.iload 4, 2) by decide +kernel)
theorem ux_142_67 : pm_w d 142 67 ls st h Q ↔ pm_i st fun x s => ((x = 0) → pm_w d 142 80 ls s h Q) ∧ (¬ (x = 0) → pm_w d 142 70 ls s h Q) := pw_if_eq (show decode (pm_b 142) 67 = .ok (.ifCond .eq 13, 3) by decide +kernel) (by decide)
theorem ux_142_70 : pm_w d 142 70 ls st h Q ↔ pm_lq ls 0 fun x => pm_w d 142 71 ls (.inr (.inr x) :: st) h Q := pw_aload_n (show decode (pm_b 142) 70 = .ok (.aload_n 0, 1) by decide +kernel)
theorem ux_142_71 : pm_w d 142 71 ls st h Q ↔ pm_r st fun a s => pm_tgs h a [12] ∧ pm_w d 142 74 ls (.inr (.inr (h.2.1 a 14)) :: s) h Q := pw_get (show decode (pm_b 142) 71 = .ok (.getfield 35, 3) by decide +kernel) fx_12_35
theorem ux_142_74 : pm_w d 142 74 ls st h Q ↔ pm_li ls 1 fun x => pm_w d 142 75 ls (.inl x :: st) h Q := pw_iload_n (show decode (pm_b 142) 74 = .ok (.iload_n 1, 1) by decide +kernel)
theorem ux_142_75 : pm_w d 142 75 ls st h Q ↔ pm_li ls 3 fun x => pm_w d 142 76 ls (.inl x :: st) h Q := pw_iload_n (show decode (pm_b 142) 75 = .ok (.iload_n 3, 1) by decide +kernel)
theorem ux_142_76 : pm_w d 142 76 ls st h Q ↔ pm_i st fun v s => pm_i s fun x s => pm_r s fun a s => pm_inb h a 20 x ∧ pm_w d 142 77 ls s (pm_wI h a x.toNat v) Q := pw_iastore (show decode (pm_b 142) 76 = .ok (.iastore, 1) by decide +kernel)
theorem ux_142_77 : pm_w d 142 77 ls st h Q ↔ pm_li ls 1 fun x => pm_I32 (x + 1) ∧ pm_w d 142 80 (pm_s1 ls 1 (.inl (x + 1))) st h Q := pw_iinc (show decode (pm_b 142) 77 = .ok (.iinc 1 1, 3) by decide +kernel) (by decide)
theorem ux_142_80 : pm_w d 142 80 ls st h Q ↔ pm_li ls 3 fun x => pm_I32 (x + 1) ∧ pm_w d 142 83 (pm_s1 ls 3 (.inl (x + 1))) st h Q := pw_iinc (show decode (pm_b 142) 80 = .ok (.iinc 3 1, 3) by decide +kernel) (by decide)
theorem ux_142_83 : pm_w d 142 83 ls st h Q ↔ pm_w d 142 6 ls st h Q := pw_goto (show decode (pm_b 142) 83 = .ok (.goto (-77), 3) by decide +kernel) (by decide)
theorem ux_142_86 : pm_w d 142 86 ls st h Q ↔ pm_w d 142 87 ls (.inl 0 :: st) h Q := pw_iconst (show decode (pm_b 142) 86 = .ok (.iconst 0, 1) by decide +kernel) (by unfold pm_I32; decide)
theorem ux_142_87 : pm_w d 142 87 ls st h Q ↔ pm_i st fun x s => pm_w d 142 88 (pm_s1 ls 3 (.inl x)) s h Q := pw_istore_n (show decode (pm_b 142) 87 = .ok (.istore_n 3, 1) by decide +kernel) (by decide)
theorem ux_142_88 : pm_w d 142 88 ls st h Q ↔ pm_li ls 3 fun x => pm_w d 142 89 ls (.inl x :: st) h Q := pw_iload_n (show decode (pm_b 142) 88 = .ok (.iload_n 3, 1) by decide +kernel)
theorem ux_142_89 : pm_w d 142 89 ls st h Q ↔ pm_lq ls 0 fun x => pm_w d 142 90 ls (.inr (.inr x) :: st) h Q := pw_aload_n (show decode (pm_b 142) 89 = .ok (.aload_n 0, 1) by decide +kernel)
theorem ux_142_90 : pm_w d 142 90 ls st h Q ↔ pm_r (st.drop 0) fun a s => (0 ≤ st.length ∧ pm_wt s ≤ 8 ∧ pm_tg h a 12) ∧ pm_ok d 137 (.inr (.inr (some a)) :: (st.take 0).reverse) h fun r h1 => pm_w d 142 93 ls (pm_pu r s) h1 Q := pw_virt (show decode (pm_b 142) 90 = .ok (.invokevirtual 106, 3) by decide +kernel) mx_12_106
theorem ux_142_93 : pm_w d 142 93 ls st h Q ↔ pm_i st fun y s => pm_i s fun x s => ((y ≤ x) → pm_w d 142 110 ls s h Q) ∧ (¬ (y ≤ x) → pm_w d 142 96 ls s h Q) := pw_ic_ge (show decode (pm_b 142) 93 = .ok (.if_icmp .ge 17, 3) by decide +kernel) (by decide)
theorem ux_142_96 : pm_w d 142 96 ls st h Q ↔ pm_lq ls 0 fun x => pm_w d 142 97 ls (.inr (.inr x) :: st) h Q := pw_aload_n (show decode (pm_b 142) 96 = .ok (.aload_n 0, 1) by decide +kernel)
theorem ux_142_97 : pm_w d 142 97 ls st h Q ↔ pm_r st fun a s => pm_tgs h a [12] ∧ pm_w d 142 100 ls (.inr (.inr (h.2.1 a 13)) :: s) h Q := pw_get (show decode (pm_b 142) 97 = .ok (.getfield 32, 3) by decide +kernel) fx_12_32
theorem ux_142_100 : pm_w d 142 100 ls st h Q ↔ pm_li ls 3 fun x => pm_w d 142 101 ls (.inl x :: st) h Q := pw_iload_n (show decode (pm_b 142) 100 = .ok (.iload_n 3, 1) by decide +kernel)
theorem ux_142_101 : pm_w d 142 101 ls st h Q ↔ pm_w d 142 103 ls (.inl (-2) :: st) h Q := pw_bipush (show decode (pm_b 142) 101 = .ok (.bipush (-2), 2) by decide +kernel) (by decide)
theorem ux_142_103 : pm_w d 142 103 ls st h Q ↔ pm_i st fun v s => pm_i s fun x s => pm_r s fun a s => pm_inb h a 20 x ∧ pm_w d 142 104 ls s (pm_wI h a x.toNat v) Q := pw_iastore (show decode (pm_b 142) 103 = .ok (.iastore, 1) by decide +kernel)
theorem ux_142_104 : pm_w d 142 104 ls st h Q ↔ pm_li ls 3 fun x => pm_I32 (x + 1) ∧ pm_w d 142 107 (pm_s1 ls 3 (.inl (x + 1))) st h Q := pw_iinc (show decode (pm_b 142) 104 = .ok (.iinc 3 1, 3) by decide +kernel) (by decide)
theorem ux_142_107 : pm_w d 142 107 ls st h Q ↔ pm_w d 142 88 ls st h Q := pw_goto (show decode (pm_b 142) 107 = .ok (.goto (-19), 3) by decide +kernel) (by decide)
theorem ux_142_110 : pm_w d 142 110 ls st h Q ↔ pm_w d 142 111 ls (.inl 0 :: st) h Q := pw_iconst (show decode (pm_b 142) 110 = .ok (.iconst 0, 1) by decide +kernel) (by unfold pm_I32; decide)
theorem ux_142_111 : pm_w d 142 111 ls st h Q ↔ pm_i st fun x s => pm_w d 142 112 (pm_s1 ls 3 (.inl x)) s h Q := pw_istore_n (show decode (pm_b 142) 111 = .ok (.istore_n 3, 1) by decide +kernel) (by decide)
theorem ux_142_112 : pm_w d 142 112 ls st h Q ↔ pm_li ls 3 fun x => pm_w d 142 113 ls (.inl x :: st) h Q := pw_iload_n (show decode (pm_b 142) 112 = .ok (.iload_n 3, 1) by decide +kernel)
theorem ux_142_113 : pm_w d 142 113 ls st h Q ↔ pm_li ls 1 fun x => pm_w d 142 114 ls (.inl x :: st) h Q := pw_iload_n (show decode (pm_b 142) 113 = .ok (.iload_n 1, 1) by decide +kernel)
theorem ux_142_114 : pm_w d 142 114 ls st h Q ↔ pm_i st fun y s => pm_i s fun x s => ((y ≤ x) → pm_w d 142 305 ls s h Q) ∧ (¬ (y ≤ x) → pm_w d 142 117 ls s h Q) := pw_ic_ge (show decode (pm_b 142) 114 = .ok (.if_icmp .ge 191, 3) by decide +kernel) (by decide)
theorem ux_142_117 : pm_w d 142 117 ls st h Q ↔ pm_lq ls 0 fun x => pm_w d 142 118 ls (.inr (.inr x) :: st) h Q := pw_aload_n (show decode (pm_b 142) 117 = .ok (.aload_n 0, 1) by decide +kernel)
theorem ux_142_118 : pm_w d 142 118 ls st h Q ↔ pm_r st fun a s => pm_tgs h a [12] ∧ pm_w d 142 121 ls (.inr (.inr (h.2.1 a 14)) :: s) h Q := pw_get (show decode (pm_b 142) 118 = .ok (.getfield 35, 3) by decide +kernel) fx_12_35
theorem ux_142_121 : pm_w d 142 121 ls st h Q ↔ pm_li ls 3 fun x => pm_w d 142 122 ls (.inl x :: st) h Q := pw_iload_n (show decode (pm_b 142) 121 = .ok (.iload_n 3, 1) by decide +kernel)
theorem ux_142_122 : pm_w d 142 122 ls st h Q ↔ pm_i st fun x s => pm_r s fun a s => pm_inb h a 20 x ∧ pm_w d 142 123 ls (.inl (h.1 a x.toNat) :: s) h Q := pw_iaload (show decode (pm_b 142) 122 = .ok (.iaload, 1) by decide +kernel)
theorem ux_142_123 : pm_w d 142 123 ls st h Q ↔ pm_i st fun x s => pm_w d 142 125 (pm_s1 ls 4 (.inl x)) s h Q := pw_istore (show decode (pm_b 142) 123 = .ok (.istore 4, 2) by decide +kernel) (by decide)
theorem ux_142_125 : pm_w d 142 125 ls st h Q ↔ pm_li ls 4 fun x => pm_w d 142 127 ls (.inl x :: st) h Q := pw_iload (show decode (pm_b 142) 125 = .ok (.iload 4, 2) by decide +kernel)
theorem ux_142_127 : pm_w d 142 127 ls st h Q ↔ pm_w d 142 129 ls (.inl 12 :: st) h Q := pw_bipush (show decode (pm_b 142) 127 = .ok (.bipush 12, 2) by decide +kernel) (by decide)
theorem ux_142_129 : pm_w d 142 129 ls st h Q ↔ pm_i st fun y s => pm_i s fun x s => ((y ≤ x) → pm_w d 142 223 ls s h Q) ∧ (¬ (y ≤ x) → pm_w d 142 132 ls s h Q) := pw_ic_ge (show decode (pm_b 142) 129 = .ok (.if_icmp .ge 94, 3) by decide +kernel) (by decide)
theorem ux_142_132 : pm_w d 142 132 ls st h Q ↔ pm_w d 142 133 ls (.inl 0 :: st) h Q := pw_iconst (show decode (pm_b 142) 132 = .ok (.iconst 0, 1) by decide +kernel) (by unfold pm_I32; decide)
theorem ux_142_133 : pm_w d 142 133 ls st h Q ↔ pm_i st fun x s => pm_w d 142 135 (pm_s1 ls 5 (.inl x)) s h Q := pw_istore (show decode (pm_b 142) 133 = .ok (.istore 5, 2) by decide +kernel) (by decide)
theorem ux_142_135 : pm_w d 142 135 ls st h Q ↔ pm_li ls 5 fun x => pm_w d 142 137 ls (.inl x :: st) h Q := pw_iload (show decode (pm_b 142) 135 = .ok (.iload 5, 2) by decide +kernel)
theorem ux_142_137 : pm_w d 142 137 ls st h Q ↔ pm_lq ls 0 fun x => pm_w d 142 138 ls (.inr (.inr x) :: st) h Q := pw_aload_n (show decode (pm_b 142) 137 = .ok (.aload_n 0, 1) by decide +kernel)
theorem ux_142_138 : pm_w d 142 138 ls st h Q ↔ pm_r (st.drop 0) fun a s => (0 ≤ st.length ∧ pm_wt s ≤ 8 ∧ pm_tg h a 12) ∧ pm_ok d 137 (.inr (.inr (some a)) :: (st.take 0).reverse) h fun r h1 => pm_w d 142 141 ls (pm_pu r s) h1 Q := pw_virt (show decode (pm_b 142) 138 = .ok (.invokevirtual 106, 3) by decide +kernel) mx_12_106
theorem ux_142_141 : pm_w d 142 141 ls st h Q ↔ pm_i st fun y s => pm_i s fun x s => ((y ≤ x) → pm_w d 142 220 ls s h Q) ∧ (¬ (y ≤ x) → pm_w d 142 144 ls s h Q) := pw_ic_ge (show decode (pm_b 142) 141 = .ok (.if_icmp .ge 79, 3) by decide +kernel) (by decide)
theorem ux_142_144 : pm_w d 142 144 ls st h Q ↔ pm_lq ls 0 fun x => pm_w d 142 145 ls (.inr (.inr x) :: st) h Q := pw_aload_n (show decode (pm_b 142) 144 = .ok (.aload_n 0, 1) by decide +kernel)
theorem ux_142_145 : pm_w d 142 145 ls st h Q ↔ pm_r st fun a s => pm_tgs h a [12] ∧ pm_w d 142 148 ls (.inr (.inr (h.2.1 a 13)) :: s) h Q := pw_get (show decode (pm_b 142) 145 = .ok (.getfield 32, 3) by decide +kernel) fx_12_32
theorem ux_142_148 : pm_w d 142 148 ls st h Q ↔ pm_li ls 5 fun x => pm_w d 142 150 ls (.inl x :: st) h Q := pw_iload (show decode (pm_b 142) 148 = .ok (.iload 5, 2) by decide +kernel)
theorem ux_142_150 : pm_w d 142 150 ls st h Q ↔ pm_i st fun x s => pm_r s fun a s => pm_inb h a 20 x ∧ pm_w d 142 151 ls (.inl (h.1 a x.toNat) :: s) h Q := pw_iaload (show decode (pm_b 142) 150 = .ok (.iaload, 1) by decide +kernel)
theorem ux_142_151 : pm_w d 142 151 ls st h Q ↔ pm_w d 142 153 ls (.inl (-2) :: st) h Q := pw_bipush (show decode (pm_b 142) 151 = .ok (.bipush (-2), 2) by decide +kernel) (by decide)
theorem ux_142_153 : pm_w d 142 153 ls st h Q ↔ pm_i st fun y s => pm_i s fun x s => ((x ≠ y) → pm_w d 142 214 ls s h Q) ∧ (¬ (x ≠ y) → pm_w d 142 156 ls s h Q) := pw_ic_ne (show decode (pm_b 142) 153 = .ok (.if_icmp .ne 61, 3) by decide +kernel) (by decide)
theorem ux_142_156 : pm_w d 142 156 ls st h Q ↔ pm_lq ls 0 fun x => pm_w d 142 157 ls (.inr (.inr x) :: st) h Q := pw_aload_n (show decode (pm_b 142) 156 = .ok (.aload_n 0, 1) by decide +kernel)
theorem ux_142_157 : pm_w d 142 157 ls st h Q ↔ pm_li ls 4 fun x => pm_w d 142 159 ls (.inl x :: st) h Q := pw_iload (show decode (pm_b 142) 157 = .ok (.iload 4, 2) by decide +kernel)
theorem ux_142_159 : pm_w d 142 159 ls st h Q ↔ pm_li ls 5 fun x => pm_w d 142 161 ls (.inl x :: st) h Q := pw_iload (show decode (pm_b 142) 159 = .ok (.iload 5, 2) by decide +kernel)
theorem ux_142_161 : pm_w d 142 161 ls st h Q ↔ pm_r (st.drop 2) fun a s => (2 ≤ st.length ∧ pm_wt s ≤ 8 ∧ pm_tg h a 12) ∧ pm_ok d 143 (.inr (.inr (some a)) :: (st.take 2).reverse) h fun r h1 => pm_w d 142 164 ls (pm_pu r s) h1 Q := pw_virt (show decode (pm_b 142) 161 = .ok (.invokevirtual 124, 3) by decide +kernel) mx_12_124
theorem ux_142_164 : pm_w d 142 164 ls st h Q ↔ pm_w d 142 165 ls (.inr (.inl 0) :: st) h Q := pw_lconst (show decode (pm_b 142) 164 = .ok (.lconst 0, 1) by decide +kernel)
theorem ux_142_165 : pm_w d 142 165 ls st h Q ↔ pm_l st fun y s => pm_l s fun x s => pm_w d 142 166 ls (.inl (pm_lc x y) :: s) h Q := pw_lcmp (show decode (pm_b 142) 165 = .ok (.lcmp, 1) by decide +kernel)
theorem ux_142_166 : pm_w d 142 166 ls st h Q ↔ pm_i st fun x s => ((x ≤ 0) → pm_w d 142 214 ls s h Q) ∧ (¬ (x ≤ 0) → pm_w d 142 169 ls s h Q) := pw_if_le (show decode (pm_b 142) 166 = .ok (.ifCond .le 48, 3) by decide +kernel) (by decide)
theorem ux_142_169 : pm_w d 142 169 ls st h Q ↔ pm_lq ls 0 fun x => pm_w d 142 170 ls (.inr (.inr x) :: st) h Q := pw_aload_n (show decode (pm_b 142) 169 = .ok (.aload_n 0, 1) by decide +kernel)
theorem ux_142_170 : pm_w d 142 170 ls st h Q ↔ pm_r st fun a s => pm_tgs h a [12] ∧ pm_w d 142 173 ls (.inr (.inr (h.2.1 a 13)) :: s) h Q := pw_get (show decode (pm_b 142) 170 = .ok (.getfield 32, 3) by decide +kernel) fx_12_32
theorem ux_142_173 : pm_w d 142 173 ls st h Q ↔ pm_li ls 5 fun x => pm_w d 142 175 ls (.inl x :: st) h Q := pw_iload (show decode (pm_b 142) 173 = .ok (.iload 5, 2) by decide +kernel)
theorem ux_142_175 : pm_w d 142 175 ls st h Q ↔ pm_li ls 4 fun x => pm_w d 142 177 ls (.inl x :: st) h Q := pw_iload (show decode (pm_b 142) 175 = .ok (.iload 4, 2) by decide +kernel)
theorem ux_142_177 : pm_w d 142 177 ls st h Q ↔ pm_i st fun v s => pm_i s fun x s => pm_r s fun a s => pm_inb h a 20 x ∧ pm_w d 142 178 ls s (pm_wI h a x.toNat v) Q := pw_iastore (show decode (pm_b 142) 177 = .ok (.iastore, 1) by decide +kernel)
theorem ux_142_178 : pm_w d 142 178 ls st h Q ↔ pm_lq ls 0 fun x => pm_w d 142 179 ls (.inr (.inr x) :: st) h Q := pw_aload_n (show decode (pm_b 142) 178 = .ok (.aload_n 0, 1) by decide +kernel)
theorem ux_142_179 : pm_w d 142 179 ls st h Q ↔ pm_r st fun a s => pm_tgs h a [12] ∧ pm_w d 142 182 ls (.inr (.inr (h.2.1 a 14)) :: s) h Q := pw_get (show decode (pm_b 142) 179 = .ok (.getfield 35, 3) by decide +kernel) fx_12_35
theorem ux_142_182 : pm_w d 142 182 ls st h Q ↔ pm_li ls 1 fun x => pm_w d 142 183 ls (.inl x :: st) h Q := pw_iload_n (show decode (pm_b 142) 182 = .ok (.iload_n 1, 1) by decide +kernel)
theorem ux_142_183 : pm_w d 142 183 ls st h Q ↔ pm_w d 142 185 ls (.inl 12 :: st) h Q := pw_bipush (show decode (pm_b 142) 183 = .ok (.bipush 12, 2) by decide +kernel) (by decide)
theorem ux_142_185 : pm_w d 142 185 ls st h Q ↔ pm_li ls 5 fun x => pm_w d 142 187 ls (.inl x :: st) h Q := pw_iload (show decode (pm_b 142) 185 = .ok (.iload 5, 2) by decide +kernel)
theorem ux_142_187 : pm_w d 142 187 ls st h Q ↔ pm_i st fun y s => pm_i s fun x s => pm_I32 (x + y) ∧ pm_w d 142 188 ls (.inl (x + y) :: s) h Q := pw_iadd (show decode (pm_b 142) 187 = .ok (.iadd, 1) by decide +kernel)
theorem ux_142_188 : pm_w d 142 188 ls st h Q ↔ pm_i st fun v s => pm_i s fun x s => pm_r s fun a s => pm_inb h a 20 x ∧ pm_w d 142 189 ls s (pm_wI h a x.toNat v) Q := pw_iastore (show decode (pm_b 142) 188 = .ok (.iastore, 1) by decide +kernel)
theorem ux_142_189 : pm_w d 142 189 ls st h Q ↔ pm_li ls 1 fun x => pm_I32 (x + 1) ∧ pm_w d 142 192 (pm_s1 ls 1 (.inl (x + 1))) st h Q := pw_iinc (show decode (pm_b 142) 189 = .ok (.iinc 1 1, 3) by decide +kernel) (by decide)
theorem ux_142_192 : pm_w d 142 192 ls st h Q ↔ pm_li ls 2 fun x => pm_w d 142 193 ls (.inl x :: st) h Q := pw_iload_n (show decode (pm_b 142) 192 = .ok (.iload_n 2, 1) by decide +kernel)
theorem ux_142_193 : pm_w d 142 193 ls st h Q ↔ pm_i st fun x s => ((0 ≤ x) → pm_w d 142 212 ls s h Q) ∧ (¬ (0 ≤ x) → pm_w d 142 196 ls s h Q) := pw_if_ge (show decode (pm_b 142) 193 = .ok (.ifCond .ge 19, 3) by decide +kernel) (by decide)
theorem ux_142_196 : pm_w d 142 196 ls st h Q ↔ pm_lq ls 0 fun x => pm_w d 142 197 ls (.inr (.inr x) :: st) h Q := pw_aload_n (show decode (pm_b 142) 196 = .ok (.aload_n 0, 1) by decide +kernel)
theorem ux_142_197 : pm_w d 142 197 ls st h Q ↔ pm_li ls 5 fun x => pm_w d 142 199 ls (.inl x :: st) h Q := pw_iload (show decode (pm_b 142) 197 = .ok (.iload 5, 2) by decide +kernel)
theorem ux_142_199 : pm_w d 142 199 ls st h Q ↔ pm_r (st.drop 1) fun a s => (1 ≤ st.length ∧ pm_wt s ≤ 8 ∧ pm_tg h a 12) ∧ pm_ok d 147 (.inr (.inr (some a)) :: (st.take 1).reverse) h fun r h1 => pm_w d 142 202 ls (pm_pu r s) h1 Q := pw_virt (show decode (pm_b 142) 199 = .ok (.invokevirtual 128, 3) by decide +kernel) mx_12_128
theorem ux_142_202 : pm_w d 142 202 ls st h Q ↔ pm_w d 142 203 ls (.inr (.inl 0) :: st) h Q := pw_lconst (show decode (pm_b 142) 202 = .ok (.lconst 0, 1) by decide +kernel)
theorem ux_142_203 : pm_w d 142 203 ls st h Q ↔ pm_l st fun y s => pm_l s fun x s => pm_w d 142 204 ls (.inl (pm_lc x y) :: s) h Q := pw_lcmp (show decode (pm_b 142) 203 = .ok (.lcmp, 1) by decide +kernel)
theorem ux_142_204 : pm_w d 142 204 ls st h Q ↔ pm_i st fun x s => ((x ≤ 0) → pm_w d 142 212 ls s h Q) ∧ (¬ (x ≤ 0) → pm_w d 142 207 ls s h Q) := pw_if_le (show decode (pm_b 142) 204 = .ok (.ifCond .le 8, 3) by decide +kernel) (by decide)
theorem ux_142_207 : pm_w d 142 207 ls st h Q ↔ pm_li ls 5 fun x => pm_w d 142 209 ls (.inl x :: st) h Q := pw_iload (show decode (pm_b 142) 207 = .ok (.iload 5, 2) by decide +kernel)
theorem ux_142_209 : pm_w d 142 209 ls st h Q ↔ pm_w d 142 213 ls st h Q := pw_goto (show decode (pm_b 142) 209 = .ok (.goto 4, 3) by decide +kernel) (by decide)
theorem ux_142_212 : pm_w d 142 212 ls st h Q ↔ pm_li ls 2 fun x => pm_w d 142 213 ls (.inl x :: st) h Q := pw_iload_n (show decode (pm_b 142) 212 = .ok (.iload_n 2, 1) by decide +kernel)
theorem ux_142_213 : pm_w d 142 213 ls st h Q ↔ pm_i st fun x s => pm_w d 142 214 (pm_s1 ls 2 (.inl x)) s h Q := pw_istore_n (show decode (pm_b 142) 213 = .ok (.istore_n 2, 1) by decide +kernel) (by decide)
theorem ux_142_214 : pm_w d 142 214 ls st h Q ↔ pm_li ls 5 fun x => pm_I32 (x + 1) ∧ pm_w d 142 217 (pm_s1 ls 5 (.inl (x + 1))) st h Q := pw_iinc (show decode (pm_b 142) 214 = .ok (.iinc 5 1, 3) by decide +kernel) (by decide)
theorem ux_142_217 : pm_w d 142 217 ls st h Q ↔ pm_w d 142 135 ls st h Q := pw_goto (show decode (pm_b 142) 217 = .ok (.goto (-82), 3) by decide +kernel) (by decide)
theorem ux_142_220 : pm_w d 142 220 ls st h Q ↔ pm_w d 142 299 ls st h Q := pw_goto (show decode (pm_b 142) 220 = .ok (.goto 79, 3) by decide +kernel) (by decide)
theorem ux_142_223 : pm_w d 142 223 ls st h Q ↔ pm_w d 142 224 ls (.inl 0 :: st) h Q := pw_iconst (show decode (pm_b 142) 223 = .ok (.iconst 0, 1) by decide +kernel) (by unfold pm_I32; decide)
theorem ux_142_224 : pm_w d 142 224 ls st h Q ↔ pm_i st fun x s => pm_w d 142 226 (pm_s1 ls 5 (.inl x)) s h Q := pw_istore (show decode (pm_b 142) 224 = .ok (.istore 5, 2) by decide +kernel) (by decide)
theorem ux_142_226 : pm_w d 142 226 ls st h Q ↔ pm_li ls 5 fun x => pm_w d 142 228 ls (.inl x :: st) h Q := pw_iload (show decode (pm_b 142) 226 = .ok (.iload 5, 2) by decide +kernel)
theorem ux_142_228 : pm_w d 142 228 ls st h Q ↔ pm_lq ls 0 fun x => pm_w d 142 229 ls (.inr (.inr x) :: st) h Q := pw_aload_n (show decode (pm_b 142) 228 = .ok (.aload_n 0, 1) by decide +kernel)
theorem ux_142_229 : pm_w d 142 229 ls st h Q ↔ pm_r st fun a s => pm_tgs h a [12] ∧ pm_w d 142 232 ls (.inr (.inr (h.2.1 a 0)) :: s) h Q := pw_get (show decode (pm_b 142) 229 = .ok (.getfield 7, 3) by decide +kernel) fx_12_7
theorem ux_142_232 : pm_w d 142 232 ls st h Q ↔ pm_w d 142 233 ls (.inl 2 :: st) h Q := pw_iconst (show decode (pm_b 142) 232 = .ok (.iconst 2, 1) by decide +kernel) (by unfold pm_I32; decide)
theorem ux_142_233 : pm_w d 142 233 ls st h Q ↔ pm_i st fun x s => pm_r s fun a s => pm_inb h a 20 x ∧ pm_w d 142 234 ls (.inl (h.1 a x.toNat) :: s) h Q := pw_iaload (show decode (pm_b 142) 233 = .ok (.iaload, 1) by decide +kernel)
theorem ux_142_234 : pm_w d 142 234 ls st h Q ↔ pm_i st fun y s => pm_i s fun x s => ((y ≤ x) → pm_w d 142 299 ls s h Q) ∧ (¬ (y ≤ x) → pm_w d 142 237 ls s h Q) := pw_ic_ge (show decode (pm_b 142) 234 = .ok (.if_icmp .ge 65, 3) by decide +kernel) (by decide)
theorem ux_142_237 : pm_w d 142 237 ls st h Q ↔ pm_lq ls 0 fun x => pm_w d 142 238 ls (.inr (.inr x) :: st) h Q := pw_aload_n (show decode (pm_b 142) 237 = .ok (.aload_n 0, 1) by decide +kernel)
theorem ux_142_238 : pm_w d 142 238 ls st h Q ↔ pm_r st fun a s => pm_tgs h a [12] ∧ pm_w d 142 241 ls (.inr (.inr (h.2.1 a 12)) :: s) h Q := pw_get (show decode (pm_b 142) 238 = .ok (.getfield 29, 3) by decide +kernel) fx_12_29
theorem ux_142_241 : pm_w d 142 241 ls st h Q ↔ pm_li ls 5 fun x => pm_w d 142 243 ls (.inl x :: st) h Q := pw_iload (show decode (pm_b 142) 241 = .ok (.iload 5, 2) by decide +kernel)
theorem ux_142_243 : pm_w d 142 243 ls st h Q ↔ pm_i st fun x s => pm_r s fun a s => pm_inb h a 20 x ∧ pm_w d 142 244 ls (.inl (h.1 a x.toNat) :: s) h Q := pw_iaload (show decode (pm_b 142) 243 = .ok (.iaload, 1) by decide +kernel)
theorem ux_142_244 : pm_w d 142 244 ls st h Q ↔ pm_w d 142 246 ls (.inl (-2) :: st) h Q := pw_bipush (show decode (pm_b 142) 244 = .ok (.bipush (-2), 2) by decide +kernel) (by decide)
theorem ux_142_246 : pm_w d 142 246 ls st h Q ↔ pm_i st fun y s => pm_i s fun x s => ((x ≠ y) → pm_w d 142 293 ls s h Q) ∧ (¬ (x ≠ y) → pm_w d 142 249 ls s h Q) := pw_ic_ne (show decode (pm_b 142) 246 = .ok (.if_icmp .ne 47, 3) by decide +kernel) (by decide)
theorem ux_142_249 : pm_w d 142 249 ls st h Q ↔ pm_lq ls 0 fun x => pm_w d 142 250 ls (.inr (.inr x) :: st) h Q := pw_aload_n (show decode (pm_b 142) 249 = .ok (.aload_n 0, 1) by decide +kernel)
theorem ux_142_250 : pm_w d 142 250 ls st h Q ↔ pm_r st fun a s => pm_tgs h a [12] ∧ pm_w d 142 253 ls (.inr (.inr (h.2.1 a 7)) :: s) h Q := pw_get (show decode (pm_b 142) 250 = .ok (.getfield 19, 3) by decide +kernel) fx_12_19
theorem ux_142_253 : pm_w d 142 253 ls st h Q ↔ pm_w d 142 255 ls (.inl 64 :: st) h Q := pw_bipush (show decode (pm_b 142) 253 = .ok (.bipush 64, 2) by decide +kernel) (by decide)
theorem ux_142_255 : pm_w d 142 255 ls st h Q ↔ pm_li ls 5 fun x => pm_w d 142 257 ls (.inl x :: st) h Q := pw_iload (show decode (pm_b 142) 255 = .ok (.iload 5, 2) by decide +kernel)
theorem ux_142_257 : pm_w d 142 257 ls st h Q ↔ pm_i st fun y s => pm_i s fun x s => pm_I32 (x * y) ∧ pm_w d 142 258 ls (.inl (x * y) :: s) h Q := pw_imul (show decode (pm_b 142) 257 = .ok (.imul, 1) by decide +kernel)
theorem ux_142_258 : pm_w d 142 258 ls st h Q ↔ pm_li ls 4 fun x => pm_w d 142 260 ls (.inl x :: st) h Q := pw_iload (show decode (pm_b 142) 258 = .ok (.iload 4, 2) by decide +kernel)
theorem ux_142_260 : pm_w d 142 260 ls st h Q ↔ pm_i st fun y s => pm_i s fun x s => pm_I32 (x + y) ∧ pm_w d 142 261 ls (.inl (x + y) :: s) h Q := pw_iadd (show decode (pm_b 142) 260 = .ok (.iadd, 1) by decide +kernel)
theorem ux_142_261 : pm_w d 142 261 ls st h Q ↔ pm_w d 142 263 ls (.inl 12 :: st) h Q := pw_bipush (show decode (pm_b 142) 261 = .ok (.bipush 12, 2) by decide +kernel) (by decide)
theorem ux_142_263 : pm_w d 142 263 ls st h Q ↔ pm_i st fun y s => pm_i s fun x s => pm_I32 (x - y) ∧ pm_w d 142 264 ls (.inl (x - y) :: s) h Q := pw_isub (show decode (pm_b 142) 263 = .ok (.isub, 1) by decide +kernel)
theorem ux_142_264 : pm_w d 142 264 ls st h Q ↔ pm_i st fun x s => pm_r s fun a s => pm_inb h a 21 x ∧ pm_w d 142 265 ls (.inr (.inl (h.1 a x.toNat)) :: s) h Q := pw_laload (show decode (pm_b 142) 264 = .ok (.laload, 1) by decide +kernel)
theorem ux_142_265 : pm_w d 142 265 ls st h Q ↔ pm_w d 142 266 ls (.inr (.inl 0) :: st) h Q := pw_lconst (show decode (pm_b 142) 265 = .ok (.lconst 0, 1) by decide +kernel)
theorem ux_142_266 : pm_w d 142 266 ls st h Q ↔ pm_l st fun y s => pm_l s fun x s => pm_w d 142 267 ls (.inl (pm_lc x y) :: s) h Q := pw_lcmp (show decode (pm_b 142) 266 = .ok (.lcmp, 1) by decide +kernel)
theorem ux_142_267 : pm_w d 142 267 ls st h Q ↔ pm_i st fun x s => ((x ≤ 0) → pm_w d 142 293 ls s h Q) ∧ (¬ (x ≤ 0) → pm_w d 142 270 ls s h Q) := pw_if_le (show decode (pm_b 142) 267 = .ok (.ifCond .le 26, 3) by decide +kernel) (by decide)
theorem ux_142_270 : pm_w d 142 270 ls st h Q ↔ pm_lq ls 0 fun x => pm_w d 142 271 ls (.inr (.inr x) :: st) h Q := pw_aload_n (show decode (pm_b 142) 270 = .ok (.aload_n 0, 1) by decide +kernel)
theorem ux_142_271 : pm_w d 142 271 ls st h Q ↔ pm_r st fun a s => pm_tgs h a [12] ∧ pm_w d 142 274 ls (.inr (.inr (h.2.1 a 12)) :: s) h Q := pw_get (show decode (pm_b 142) 271 = .ok (.getfield 29, 3) by decide +kernel) fx_12_29
theorem ux_142_274 : pm_w d 142 274 ls st h Q ↔ pm_li ls 5 fun x => pm_w d 142 276 ls (.inl x :: st) h Q := pw_iload (show decode (pm_b 142) 274 = .ok (.iload 5, 2) by decide +kernel)
theorem ux_142_276 : pm_w d 142 276 ls st h Q ↔ pm_li ls 4 fun x => pm_w d 142 278 ls (.inl x :: st) h Q := pw_iload (show decode (pm_b 142) 276 = .ok (.iload 4, 2) by decide +kernel)
theorem ux_142_278 : pm_w d 142 278 ls st h Q ↔ pm_w d 142 280 ls (.inl 12 :: st) h Q := pw_bipush (show decode (pm_b 142) 278 = .ok (.bipush 12, 2) by decide +kernel) (by decide)
theorem ux_142_280 : pm_w d 142 280 ls st h Q ↔ pm_i st fun y s => pm_i s fun x s => pm_I32 (x - y) ∧ pm_w d 142 281 ls (.inl (x - y) :: s) h Q := pw_isub (show decode (pm_b 142) 280 = .ok (.isub, 1) by decide +kernel)
theorem ux_142_281 : pm_w d 142 281 ls st h Q ↔ pm_i st fun v s => pm_i s fun x s => pm_r s fun a s => pm_inb h a 20 x ∧ pm_w d 142 282 ls s (pm_wI h a x.toNat v) Q := pw_iastore (show decode (pm_b 142) 281 = .ok (.iastore, 1) by decide +kernel)
theorem ux_142_282 : pm_w d 142 282 ls st h Q ↔ pm_lq ls 0 fun x => pm_w d 142 283 ls (.inr (.inr x) :: st) h Q := pw_aload_n (show decode (pm_b 142) 282 = .ok (.aload_n 0, 1) by decide +kernel)
theorem ux_142_283 : pm_w d 142 283 ls st h Q ↔ pm_r st fun a s => pm_tgs h a [12] ∧ pm_w d 142 286 ls (.inr (.inr (h.2.1 a 14)) :: s) h Q := pw_get (show decode (pm_b 142) 283 = .ok (.getfield 35, 3) by decide +kernel) fx_12_35
theorem ux_142_286 : pm_w d 142 286 ls st h Q ↔ pm_li ls 1 fun x => pm_w d 142 287 ls (.inl x :: st) h Q := pw_iload_n (show decode (pm_b 142) 286 = .ok (.iload_n 1, 1) by decide +kernel)
theorem ux_142_287 : pm_w d 142 287 ls st h Q ↔ pm_li ls 5 fun x => pm_w d 142 289 ls (.inl x :: st) h Q := pw_iload (show decode (pm_b 142) 287 = .ok (.iload 5, 2) by decide +kernel)
theorem ux_142_289 : pm_w d 142 289 ls st h Q ↔ pm_i st fun v s => pm_i s fun x s => pm_r s fun a s => pm_inb h a 20 x ∧ pm_w d 142 290 ls s (pm_wI h a x.toNat v) Q := pw_iastore (show decode (pm_b 142) 289 = .ok (.iastore, 1) by decide +kernel)
theorem ux_142_290 : pm_w d 142 290 ls st h Q ↔ pm_li ls 1 fun x => pm_I32 (x + 1) ∧ pm_w d 142 293 (pm_s1 ls 1 (.inl (x + 1))) st h Q := pw_iinc (show decode (pm_b 142) 290 = .ok (.iinc 1 1, 3) by decide +kernel) (by decide)
theorem ux_142_293 : pm_w d 142 293 ls st h Q ↔ pm_li ls 5 fun x => pm_I32 (x + 1) ∧ pm_w d 142 296 (pm_s1 ls 5 (.inl (x + 1))) st h Q := pw_iinc (show decode (pm_b 142) 293 = .ok (.iinc 5 1, 3) by decide +kernel) (by decide)
theorem ux_142_296 : pm_w d 142 296 ls st h Q ↔ pm_w d 142 226 ls st h Q := pw_goto (show decode (pm_b 142) 296 = .ok (.goto (-70), 3) by decide +kernel) (by decide)
theorem ux_142_299 : pm_w d 142 299 ls st h Q ↔ pm_li ls 3 fun x => pm_I32 (x + 1) ∧ pm_w d 142 302 (pm_s1 ls 3 (.inl (x + 1))) st h Q := pw_iinc (show decode (pm_b 142) 299 = .ok (.iinc 3 1, 3) by decide +kernel) (by decide)
theorem ux_142_302 : pm_w d 142 302 ls st h Q ↔ pm_w d 142 112 ls st h Q := pw_goto (show decode (pm_b 142) 302 = .ok (.goto (-190), 3) by decide +kernel) (by decide)
theorem ux_142_305 : pm_w d 142 305 ls st h Q ↔ pm_li ls 2 fun x => pm_w d 142 306 ls (.inl x :: st) h Q := pw_iload_n (show decode (pm_b 142) 305 = .ok (.iload_n 2, 1) by decide +kernel)
theorem ux_142_306 : pm_w d 142 306 ls st h Q ↔ pm_i st fun x s => s = [] ∧ Q (some (.inl x)) h := pw_ireturn (show decode (pm_b 142) 306 = .ok (.ireturn, 1) by decide +kernel) rfl
end
