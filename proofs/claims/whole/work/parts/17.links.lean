theorem fx_0_9 : pm_FT.lookup (0, 9) = some (3, 0, [0], true, false, 1, 478, "LoomShed$Barred", 0) := by rfl
theorem fx_0_15 : pm_FT.lookup (0, 15) = some (4, 0, [0], true, false, 1, 479, "LoomShed$Barred", 0) := by rfl
theorem fx_1_9 : pm_FT.lookup (1, 9) = some (4, 3, [1], true, false, 1, 182, "LoomShed$Frame", 0) := by rfl
theorem fx_1_15 : pm_FT.lookup (1, 15) = some (5, 3, [1], true, false, 1, 184, "LoomShed$Frame", 0) := by rfl
theorem fx_1_18 : pm_FT.lookup (1, 18) = some (6, 3, [1], true, false, 1, 186, "LoomShed$Frame", 0) := by rfl
theorem fx_1_21 : pm_FT.lookup (1, 21) = some (7, 3, [1], true, false, 1, 187, "LoomShed$Frame", 0) := by rfl
theorem fx_1_25 : pm_FT.lookup (1, 25) = some (0, 0, [1], false, false, 0, 174, "LoomShed$Frame", 0) := by rfl
theorem fx_1_29 : pm_FT.lookup (1, 29) = some (2, 0, [8], false, true, 0, 133, "LoomShed$Shed", 0) := by rfl
theorem fx_1_34 : pm_FT.lookup (1, 34) = some (1, 0, [1], false, false, 0, 175, "LoomShed$Frame", 0) := by rfl
theorem fx_1_35 : pm_FT.lookup (1, 35) = some (2, 0, [1], false, false, 0, 177, "LoomShed$Frame", 0) := by rfl
theorem fx_1_42 : pm_FT.lookup (1, 42) = some (1, 0, [8], false, true, 0, 130, "LoomShed$Shed", 0) := by rfl
theorem fx_1_55 : pm_FT.lookup (1, 55) = some (3, 0, [1], false, false, 0, 179, "LoomShed$Frame", 0) := by rfl
theorem fx_1_75 : pm_FT.lookup (1, 75) = some (1, 0, [0, 2, 6, 9, 10], true, false, 2, 429, "LoomShed$Piece", 0) := by rfl
theorem fx_3_11 : pm_FT.lookup (3, 11) = some (0, 3, [3], true, false, 1, 157, "LoomShed$History", 0) := by rfl
theorem fx_3_18 : pm_FT.lookup (3, 18) = some (1, 0, [3], false, false, 0, 158, "LoomShed$History", 0) := by rfl
theorem fx_3_26 : pm_FT.lookup (3, 26) = some (2, 0, [3], false, false, 0, 159, "LoomShed$History", 0) := by rfl
theorem fx_4_9 : pm_FT.lookup (4, 9) = some (3, 3, [4], true, false, 1, 219, "LoomShed$Laying", 0) := by rfl
theorem fx_4_15 : pm_FT.lookup (4, 15) = some (4, 3, [4], true, false, 1, 220, "LoomShed$Laying", 0) := by rfl
theorem fx_4_20 : pm_FT.lookup (4, 20) = some (5, 3, [4], true, false, 1, 221, "LoomShed$Laying", 0) := by rfl
theorem fx_4_23 : pm_FT.lookup (4, 23) = some (6, 3, [4], true, false, 1, 223, "LoomShed$Laying", 0) := by rfl
theorem fx_4_26 : pm_FT.lookup (4, 26) = some (7, 3, [4], true, false, 1, 224, "LoomShed$Laying", 0) := by rfl
theorem fx_4_29 : pm_FT.lookup (4, 29) = some (8, 3, [4], true, false, 1, 225, "LoomShed$Laying", 0) := by rfl
theorem fx_4_32 : pm_FT.lookup (4, 32) = some (9, 3, [4], true, false, 1, 226, "LoomShed$Laying", 0) := by rfl
theorem fx_4_39 : pm_FT.lookup (4, 39) = some (0, 0, [4], false, false, 0, 215, "LoomShed$Laying", 0) := by rfl
theorem fx_4_55 : pm_FT.lookup (4, 55) = some (1, 0, [1], false, true, 0, 176, "LoomShed$Frame", 0) := by rfl
theorem fx_4_58 : pm_FT.lookup (4, 58) = some (3, 0, [1], false, true, 0, 180, "LoomShed$Frame", 0) := by rfl
theorem fx_4_61 : pm_FT.lookup (4, 61) = some (1, 0, [4], false, false, 0, 216, "LoomShed$Laying", 0) := by rfl
theorem fx_4_62 : pm_FT.lookup (4, 62) = some (2, 0, [4], false, false, 0, 217, "LoomShed$Laying", 0) := by rfl
theorem fx_4_69 : pm_FT.lookup (4, 69) = some (5, 3, [1], true, true, 2, 185, "LoomShed$Frame", 0) := by rfl
theorem fx_4_92 : pm_FT.lookup (4, 92) = some (10, 0, [4], false, false, 0, 227, "LoomShed$Laying", 0) := by rfl
theorem fx_5_9 : pm_FT.lookup (5, 9) = some (2, 3, [5], true, false, 1, 260, "LoomShed$Levelling", 0) := by rfl
theorem fx_5_15 : pm_FT.lookup (5, 15) = some (3, 3, [5], true, false, 1, 261, "LoomShed$Levelling", 0) := by rfl
theorem fx_5_18 : pm_FT.lookup (5, 18) = some (4, 3, [5], true, false, 1, 262, "LoomShed$Levelling", 0) := by rfl
theorem fx_5_21 : pm_FT.lookup (5, 21) = some (5, 3, [5], true, false, 1, 263, "LoomShed$Levelling", 0) := by rfl
theorem fx_5_24 : pm_FT.lookup (5, 24) = some (6, 3, [5], true, false, 1, 265, "LoomShed$Levelling", 0) := by rfl
theorem fx_5_27 : pm_FT.lookup (5, 27) = some (0, 1, [5], false, false, 0, 257, "LoomShed$Levelling", 0) := by rfl
theorem fx_5_35 : pm_FT.lookup (5, 35) = some (1, 0, [5], false, false, 0, 259, "LoomShed$Levelling", 0) := by rfl
theorem fx_5_48 : pm_FT.lookup (5, 48) = some (2, 0, [8], false, true, 0, 135, "LoomShed$Shed", 0) := by rfl
theorem fx_5_55 : pm_FT.lookup (5, 55) = some (0, 0, [0, 2, 6, 9, 10], true, false, 2, 421, "LoomShed$Piece", 0) := by rfl
theorem fx_5_60 : pm_FT.lookup (5, 60) = some (1, 0, [0, 2, 6, 9, 10], true, false, 2, 430, "LoomShed$Piece", 0) := by rfl
theorem fx_5_63 : pm_FT.lookup (5, 63) = some (1, 0, [8], false, true, 0, 132, "LoomShed$Shed", 0) := by rfl
theorem fx_5_70 : pm_FT.lookup (5, 70) = some (7, 0, [5], false, false, 0, 267, "LoomShed$Levelling", 0) := by rfl
theorem fx_5_73 : pm_FT.lookup (5, 73) = some (8, 0, [5], false, false, 0, 268, "LoomShed$Levelling", 0) := by rfl
theorem fx_5_76 : pm_FT.lookup (5, 76) = some (9, 0, [5], false, false, 0, 269, "LoomShed$Levelling", 0) := by rfl
theorem fx_6_9 : pm_FT.lookup (6, 9) = some (0, 0, [0, 2, 6, 9, 10], true, false, 1, 420, "LoomShed$Piece", 0) := by rfl
theorem fx_6_15 : pm_FT.lookup (6, 15) = some (1, 0, [0, 2, 6, 9, 10], true, false, 1, 428, "LoomShed$Piece", 0) := by rfl
theorem fx_6_18 : pm_FT.lookup (6, 18) = some (2, 0, [0, 2, 6, 9, 10], true, false, 1, 436, "LoomShed$Piece", 0) := by rfl
theorem fx_7_9 : pm_FT.lookup (7, 9) = some (4, 3, [7], true, false, 1, 302, "LoomShed$Sharing", 0) := by rfl
theorem fx_7_15 : pm_FT.lookup (7, 15) = some (5, 3, [7], true, false, 1, 303, "LoomShed$Sharing", 0) := by rfl
theorem fx_7_18 : pm_FT.lookup (7, 18) = some (6, 3, [7], true, false, 1, 304, "LoomShed$Sharing", 0) := by rfl
theorem fx_7_21 : pm_FT.lookup (7, 21) = some (7, 3, [7], true, false, 1, 305, "LoomShed$Sharing", 0) := by rfl
theorem fx_7_24 : pm_FT.lookup (7, 24) = some (8, 3, [7], true, false, 1, 306, "LoomShed$Sharing", 0) := by rfl
theorem fx_7_27 : pm_FT.lookup (7, 27) = some (0, 0, [7], false, false, 0, 297, "LoomShed$Sharing", 0) := by rfl
theorem fx_7_37 : pm_FT.lookup (7, 37) = some (1, 0, [7], false, false, 0, 299, "LoomShed$Sharing", 0) := by rfl
theorem fx_7_40 : pm_FT.lookup (7, 40) = some (0, 0, [8], false, true, 0, 128, "LoomShed$Shed", 0) := by rfl
theorem fx_7_45 : pm_FT.lookup (7, 45) = some (2, 0, [7], false, false, 0, 300, "LoomShed$Sharing", 0) := by rfl
theorem fx_7_46 : pm_FT.lookup (7, 46) = some (2, 0, [8], false, true, 0, 134, "LoomShed$Shed", 0) := by rfl
theorem fx_7_49 : pm_FT.lookup (7, 49) = some (3, 0, [7], false, false, 0, 301, "LoomShed$Sharing", 0) := by rfl
theorem fx_7_61 : pm_FT.lookup (7, 61) = some (9, 0, [7], false, false, 0, 308, "LoomShed$Sharing", 0) := by rfl
theorem fx_8_9 : pm_FT.lookup (8, 9) = some (0, 0, [8], false, false, 0, 126, "LoomShed$Shed", 0) := by rfl
theorem fx_8_15 : pm_FT.lookup (8, 15) = some (1, 0, [8], false, false, 0, 129, "LoomShed$Shed", 0) := by rfl
theorem fx_8_20 : pm_FT.lookup (8, 20) = some (3, 3, [8], true, false, 1, 138, "LoomShed$Shed", 0) := by rfl
theorem fx_8_28 : pm_FT.lookup (8, 28) = some (2, 0, [8], false, false, 0, 136, "LoomShed$Shed", 0) := by rfl
theorem fx_8_35 : pm_FT.lookup (8, 35) = some (0, 0, [0, 2, 6, 9, 10], true, false, 2, 426, "LoomShed$Piece", 0) := by rfl
theorem fx_9_9 : pm_FT.lookup (9, 9) = some (3, 0, [9], true, false, 1, 464, "LoomShed$Split", 0) := by rfl
theorem fx_11_12 : pm_FT.lookup (11, 12) = some (0, 3, [11], true, false, 1, 331, "LoomShed", 0) := by rfl
theorem fx_11_19 : pm_FT.lookup (11, 19) = some (1, 3, [11], true, false, 1, 332, "LoomShed", 0) := by rfl
theorem fx_11_26 : pm_FT.lookup (11, 26) = some (2, 3, [11], true, false, 1, 333, "LoomShed", 0) := by rfl
theorem fx_11_33 : pm_FT.lookup (11, 33) = some (3, 3, [11], true, false, 1, 334, "LoomShed", 0) := by rfl
theorem fx_11_37 : pm_FT.lookup (11, 37) = some (7, 3, [11], true, false, 1, 338, "LoomShed", 0) := by rfl
theorem fx_11_40 : pm_FT.lookup (11, 40) = some (8, 3, [11], true, false, 1, 339, "LoomShed", 0) := by rfl
theorem fx_11_46 : pm_FT.lookup (11, 46) = some (11, 3, [11], true, false, 1, 342, "LoomShed", 0) := by rfl
theorem fx_11_53 : pm_FT.lookup (11, 53) = some (12, 3, [11], true, false, 1, 343, "LoomShed", 0) := by rfl
theorem fx_11_57 : pm_FT.lookup (11, 57) = some (0, 0, [8], false, true, 0, 127, "LoomShed$Shed", 0) := by rfl
theorem fx_11_64 : pm_FT.lookup (11, 64) = some (1, 0, [8], false, true, 0, 131, "LoomShed$Shed", 0) := by rfl
theorem fx_11_71 : pm_FT.lookup (11, 71) = some (2, 0, [8], false, true, 0, 137, "LoomShed$Shed", 0) := by rfl
theorem fx_11_92 : pm_FT.lookup (11, 92) = some (0, 0, [9], true, false, 2, 422, "LoomShed$Split", 423) := by rfl
theorem fx_11_95 : pm_FT.lookup (11, 95) = some (1, 0, [9], true, false, 2, 431, "LoomShed$Split", 432) := by rfl
theorem fx_11_98 : pm_FT.lookup (11, 98) = some (2, 0, [9], true, false, 2, 437, "LoomShed$Split", 438) := by rfl
theorem fx_11_108 : pm_FT.lookup (11, 108) = some (3, 0, [9], true, false, 2, 465, "LoomShed$Split", 0) := by rfl
theorem fx_11_117 : pm_FT.lookup (11, 117) = some (0, 0, [0], true, false, 2, 424, "LoomShed$Barred", 425) := by rfl
theorem fx_11_118 : pm_FT.lookup (11, 118) = some (1, 0, [0], true, false, 2, 433, "LoomShed$Barred", 434) := by rfl
theorem fx_11_119 : pm_FT.lookup (11, 119) = some (2, 0, [0], true, false, 2, 439, "LoomShed$Barred", 440) := by rfl
theorem fx_11_133 : pm_FT.lookup (11, 133) = some (0, 0, [0, 2, 6, 9, 10], true, false, 2, 427, "LoomShed$Piece", 0) := by rfl
theorem fx_11_134 : pm_FT.lookup (11, 134) = some (1, 0, [0, 2, 6, 9, 10], true, false, 2, 435, "LoomShed$Piece", 0) := by rfl
theorem fx_11_148 : pm_FT.lookup (11, 148) = some (2, 0, [3], false, true, 0, 160, "LoomShed$History", 0) := by rfl
theorem fx_11_162 : pm_FT.lookup (11, 162) = some (3, 0, [1], false, true, 0, 181, "LoomShed$Frame", 0) := by rfl
theorem fx_11_168 : pm_FT.lookup (11, 168) = some (2, 0, [1], false, true, 0, 178, "LoomShed$Frame", 0) := by rfl
theorem fx_11_171 : pm_FT.lookup (11, 171) = some (4, 3, [1], true, true, 2, 183, "LoomShed$Frame", 0) := by rfl
theorem fx_11_179 : pm_FT.lookup (11, 179) = some (2, 0, [4], false, true, 0, 218, "LoomShed$Laying", 0) := by rfl
theorem fx_11_189 : pm_FT.lookup (11, 189) = some (5, 3, [4], true, true, 2, 222, "LoomShed$Laying", 0) := by rfl
theorem fx_11_217 : pm_FT.lookup (11, 217) = some (9, 0, [11], false, false, 0, 340, "LoomShed", 0) := by rfl
theorem fx_11_220 : pm_FT.lookup (11, 220) = some (10, 0, [11], false, false, 0, 341, "LoomShed", 0) := by rfl
theorem fx_11_229 : pm_FT.lookup (11, 229) = some (5, 3, [5], true, true, 2, 264, "LoomShed$Levelling", 0) := by rfl
theorem fx_11_232 : pm_FT.lookup (11, 232) = some (6, 3, [5], true, true, 2, 266, "LoomShed$Levelling", 0) := by rfl
theorem fx_11_238 : pm_FT.lookup (11, 238) = some (8, 3, [7], true, true, 2, 307, "LoomShed$Sharing", 0) := by rfl
theorem fx_11_241 : pm_FT.lookup (11, 241) = some (9, 0, [7], false, true, 0, 309, "LoomShed$Sharing", 0) := by rfl
theorem fx_11_251 : pm_FT.lookup (11, 251) = some (4, 1, [11], false, false, 0, 335, "LoomShed", 0) := by rfl
theorem fx_11_255 : pm_FT.lookup (11, 255) = some (5, 1, [11], false, false, 0, 336, "LoomShed", 0) := by rfl
theorem fx_11_258 : pm_FT.lookup (11, 258) = some (6, 1, [11], false, false, 0, 337, "LoomShed", 0) := by rfl
theorem fx_11_261 : pm_FT.lookup (11, 261) = some (0, 1, [5], false, true, 0, 258, "LoomShed$Levelling", 0) := by rfl
theorem fx_11_264 : pm_FT.lookup (11, 264) = some (0, 0, [7], false, true, 0, 298, "LoomShed$Sharing", 0) := by rfl
theorem fx_12_7 : pm_FT.lookup (12, 7) = some (0, 3, [12], true, false, 1, 924, "LoomShedModel", 0) := by rfl
theorem fx_12_13 : pm_FT.lookup (12, 13) = some (1, 3, [12], true, false, 1, 925, "LoomShedModel", 0) := by rfl
theorem fx_12_16 : pm_FT.lookup (12, 16) = some (5, 3, [12], true, false, 1, 929, "LoomShedModel", 0) := by rfl
theorem fx_12_19 : pm_FT.lookup (12, 19) = some (7, 3, [12], true, false, 1, 931, "LoomShedModel", 0) := by rfl
theorem fx_12_23 : pm_FT.lookup (12, 23) = some (8, 3, [12], true, false, 1, 932, "LoomShedModel", 0) := by rfl
theorem fx_12_26 : pm_FT.lookup (12, 26) = some (9, 3, [12], true, false, 1, 933, "LoomShedModel", 0) := by rfl
theorem fx_12_29 : pm_FT.lookup (12, 29) = some (12, 3, [12], true, false, 1, 936, "LoomShedModel", 0) := by rfl
theorem fx_12_32 : pm_FT.lookup (12, 32) = some (13, 3, [12], true, false, 1, 937, "LoomShedModel", 0) := by rfl
theorem fx_12_35 : pm_FT.lookup (12, 35) = some (14, 3, [12], true, false, 1, 938, "LoomShedModel", 0) := by rfl
theorem fx_12_38 : pm_FT.lookup (12, 38) = some (15, 3, [12], true, false, 1, 939, "LoomShedModel", 0) := by rfl
theorem fx_12_42 : pm_FT.lookup (12, 42) = some (19, 3, [12], true, false, 1, 943, "LoomShedModel", 0) := by rfl
theorem fx_12_45 : pm_FT.lookup (12, 45) = some (20, 3, [12], true, false, 1, 944, "LoomShedModel", 0) := by rfl
theorem fx_12_48 : pm_FT.lookup (12, 48) = some (21, 3, [12], true, false, 1, 945, "LoomShedModel", 0) := by rfl
theorem fx_12_51 : pm_FT.lookup (12, 51) = some (22, 3, [12], true, false, 1, 946, "LoomShedModel", 0) := by rfl
theorem fx_12_54 : pm_FT.lookup (12, 54) = some (23, 3, [12], true, false, 1, 947, "LoomShedModel", 0) := by rfl
theorem fx_12_57 : pm_FT.lookup (12, 57) = some (24, 3, [12], true, false, 1, 948, "LoomShedModel", 0) := by rfl
theorem fx_12_60 : pm_FT.lookup (12, 60) = some (2, 0, [12], false, false, 0, 926, "LoomShedModel", 0) := by rfl
theorem fx_12_75 : pm_FT.lookup (12, 75) = some (3, 0, [12], false, false, 0, 927, "LoomShedModel", 0) := by rfl
theorem fx_12_78 : pm_FT.lookup (12, 78) = some (6, 0, [12], false, false, 0, 930, "LoomShedModel", 0) := by rfl
theorem fx_12_89 : pm_FT.lookup (12, 89) = some (4, 0, [12], false, false, 0, 928, "LoomShedModel", 0) := by rfl
theorem fx_12_117 : pm_FT.lookup (12, 117) = some (11, 2, [12], false, false, 0, 935, "LoomShedModel", 0) := by rfl
theorem fx_12_121 : pm_FT.lookup (12, 121) = some (10, 2, [12], false, false, 0, 934, "LoomShedModel", 0) := by rfl
theorem fx_12_146 : pm_FT.lookup (12, 146) = some (16, 0, [12], false, false, 0, 940, "LoomShedModel", 0) := by rfl
theorem fx_12_167 : pm_FT.lookup (12, 167) = some (17, 2, [12], false, false, 0, 941, "LoomShedModel", 0) := by rfl
theorem fx_12_170 : pm_FT.lookup (12, 170) = some (18, 2, [12], false, false, 0, 942, "LoomShedModel", 0) := by rfl
theorem mx_0_3 : pm_MLT.lookup (0, 3) = some (1, 3, [(0, 18)], false, [477, 417, 104]) := by decide +kernel
theorem mx_1_3 : pm_MLT.lookup (1, 3) = some (9, 0, [], false, [173, 116, 117]) := by decide +kernel
theorem mx_1_38 : pm_MLT.lookup (1, 38) = some (2, 1, [(8, 25)], true, [614, 509, 6, 96]) := by decide +kernel
theorem mx_1_45 : pm_MLT.lookup (1, 45) = some (2, 3, [(1, 49)], false, [615, 617, 12, 98]) := by decide +kernel
theorem mx_1_49 : pm_MLT.lookup (1, 49) = some (10, 2, [], false, [627, 628, 103, 629]) := by decide +kernel
theorem mx_1_58 : pm_MLT.lookup (1, 58) = some (2, 1, [(8, 51)], true, [630, 632, 14, 96]) := by decide +kernel
theorem mx_1_62 : pm_MLT.lookup (1, 62) = some (3, 0, [(0, 39), (2, 39), (6, 39), (9, 38), (10, 39)], false, [634, 564, 562, 39, 565, 562, 104, 566, 562, 104, 563, 562, 104, 567, 568, 107, 570, 562, 104]) := by decide +kernel
theorem mx_1_68 : pm_MLT.lookup (1, 68) = some (11, 2, [], false, [635, 388, 103, 389]) := by decide +kernel
theorem mx_1_71 : pm_MLT.lookup (1, 71) = some (2, 3, [(1, 52)], false, [636, 638, 15, 98]) := by decide +kernel
theorem mx_1_78 : pm_MLT.lookup (1, 78) = some (2, 1, [(1, 50)], false, [619, 621, 13, 98]) := by decide +kernel
theorem mx_1_82 : pm_MLT.lookup (1, 82) = some (3, 1, [(0, 37), (2, 36), (6, 37), (9, 37), (10, 37)], false, [623, 553, 551, 37, 554, 551, 104, 555, 556, 106, 552, 551, 104, 558, 551, 104, 559, 551, 104]) := by decide +kernel
theorem mx_1_87 : pm_MLT.lookup (1, 87) = some (3, 0, [(0, 40), (2, 41), (6, 41), (9, 41), (10, 41)], false, [625, 575, 573, 41, 576, 577, 108, 579, 573, 104, 574, 573, 104, 580, 573, 104, 581, 573, 104]) := by decide +kernel
theorem mx_1_90 : pm_MLT.lookup (1, 90) = some (3, 0, [(0, 42), (2, 43), (6, 43), (9, 43), (10, 43)], false, [626, 586, 584, 43, 587, 588, 108, 590, 584, 104, 585, 584, 104, 591, 584, 104, 592, 584, 104]) := by decide +kernel
theorem mx_1_93 : pm_MLT.lookup (1, 93) = some (3, 2, [(0, 53), (2, 54), (6, 54), (9, 54), (10, 54)], false, [640, 643, 641, 54, 644, 645, 108, 647, 641, 104, 642, 641, 104, 648, 641, 104, 649, 641, 104]) := by decide +kernel
theorem mx_1_97 : pm_MLT.lookup (1, 97) = some (2, 1, [(1, 62)], false, [680, 682, 21, 98]) := by decide +kernel
theorem mx_1_100 : pm_MLT.lookup (1, 100) = some (2, 2, [(1, 63)], false, [839, 686, 22, 98]) := by decide +kernel
theorem mx_1_103 : pm_MLT.lookup (1, 103) = some (2, 1, [(1, 61)], false, [840, 678, 20, 98]) := by decide +kernel
theorem mx_2_3 : pm_MLT.lookup (2, 3) = some (1, 3, [(0, 18)], false, [453, 417, 104]) := by decide +kernel
theorem mx_3_3 : pm_MLT.lookup (3, 3) = some (9, 0, [], false, [153, 116, 117]) := by decide +kernel
theorem mx_3_17 : pm_MLT.lookup (3, 17) = some (1, 0, [(0, 1)], true, [156, 121, 96]) := by decide +kernel
theorem mx_3_22 : pm_MLT.lookup (3, 22) = some (2, 1, [(8, 10)], true, [383, 385, 2, 96]) := by decide +kernel
theorem mx_3_29 : pm_MLT.lookup (3, 29) = some (11, 2, [], false, [387, 388, 103, 389]) := by decide +kernel
theorem mx_4_3 : pm_MLT.lookup (4, 3) = some (9, 0, [], false, [212, 116, 117]) := by decide +kernel
theorem mx_4_35 : pm_MLT.lookup (4, 35) = some (2, 3, [(4, 60)], false, [672, 674, 19, 99]) := by decide +kernel
theorem mx_4_43 : pm_MLT.lookup (4, 43) = some (2, 1, [(4, 64)], false, [688, 690, 23, 99]) := by decide +kernel
theorem mx_4_47 : pm_MLT.lookup (4, 47) = some (2, 0, [(4, 66)], false, [697, 699, 25, 99]) := by decide +kernel
theorem mx_4_52 : pm_MLT.lookup (4, 52) = some (2, 1, [(4, 71)], false, [717, 719, 29, 99]) := by decide +kernel
theorem mx_4_65 : pm_MLT.lookup (4, 65) = some (2, 1, [(1, 61)], true, [676, 678, 20, 98]) := by decide +kernel
theorem mx_4_72 : pm_MLT.lookup (4, 72) = some (2, 2, [(1, 63)], true, [684, 686, 22, 98]) := by decide +kernel
theorem mx_4_76 : pm_MLT.lookup (4, 76) = some (11, 2, [], false, [692, 388, 103, 389]) := by decide +kernel
theorem mx_4_81 : pm_MLT.lookup (4, 81) = some (2, 3, [(4, 65)], false, [693, 695, 24, 99]) := by decide +kernel
theorem mx_4_85 : pm_MLT.lookup (4, 85) = some (2, 0, [(4, 67)], false, [701, 703, 26, 99]) := by decide +kernel
theorem mx_4_88 : pm_MLT.lookup (4, 88) = some (2, 2, [(4, 69)], false, [708, 710, 27, 99]) := by decide +kernel
theorem mx_4_95 : pm_MLT.lookup (4, 95) = some (2, 2, [(4, 70)], false, [712, 714, 28, 99]) := by decide +kernel
theorem mx_4_98 : pm_MLT.lookup (4, 98) = some (0, 2, [(0, 68)], false, [705, 706, 109]) := by decide +kernel
theorem mx_4_104 : pm_MLT.lookup (4, 104) = some (2, 1, [(4, 72)], false, [721, 723, 30, 99]) := by decide +kernel
theorem mx_4_107 : pm_MLT.lookup (4, 107) = some (2, 2, [(4, 73)], false, [725, 727, 31, 99]) := by decide +kernel
theorem mx_4_110 : pm_MLT.lookup (4, 110) = some (2, 2, [(4, 74)], false, [729, 731, 32, 99]) := by decide +kernel
theorem mx_4_113 : pm_MLT.lookup (4, 113) = some (2, 2, [(4, 80)], false, [753, 755, 36, 99]) := by decide +kernel
theorem mx_4_116 : pm_MLT.lookup (4, 116) = some (2, 2, [(4, 81)], false, [757, 759, 37, 99]) := by decide +kernel
theorem mx_4_119 : pm_MLT.lookup (4, 119) = some (2, 2, [(4, 82)], false, [761, 763, 38, 99]) := by decide +kernel
theorem mx_5_3 : pm_MLT.lookup (5, 3) = some (9, 0, [], false, [256, 116, 117]) := by decide +kernel
theorem mx_5_31 : pm_MLT.lookup (5, 31) = some (2, 1, [(5, 105)], false, [859, 861, 53, 100]) := by decide +kernel
theorem mx_5_39 : pm_MLT.lookup (5, 39) = some (2, 0, [(5, 106)], false, [865, 867, 54, 100]) := by decide +kernel
theorem mx_5_42 : pm_MLT.lookup (5, 42) = some (2, 0, [(5, 109)], false, [877, 879, 57, 100]) := by decide +kernel
theorem mx_5_45 : pm_MLT.lookup (5, 45) = some (2, 0, [(5, 110)], false, [882, 884, 58, 100]) := by decide +kernel
theorem mx_5_51 : pm_MLT.lookup (5, 51) = some (2, 1, [(8, 25)], true, [863, 509, 6, 96]) := by decide +kernel
theorem mx_5_66 : pm_MLT.lookup (5, 66) = some (3, 1, [(0, 37), (2, 36), (6, 37), (9, 37), (10, 37)], false, [864, 553, 551, 37, 554, 551, 104, 555, 556, 106, 552, 551, 104, 558, 551, 104, 559, 551, 104]) := by decide +kernel
theorem mx_5_79 : pm_MLT.lookup (5, 79) = some (2, 2, [(5, 107)], false, [869, 871, 55, 100]) := by decide +kernel
theorem mx_5_83 : pm_MLT.lookup (5, 83) = some (2, 3, [(5, 108)], false, [873, 875, 56, 100]) := by decide +kernel
theorem mx_5_87 : pm_MLT.lookup (5, 87) = some (0, 2, [(0, 101)], true, [881, 842, 95]) := by decide +kernel
theorem mx_5_91 : pm_MLT.lookup (5, 91) = some (2, 1, [(5, 111)], false, [886, 888, 59, 100]) := by decide +kernel
theorem mx_6_3 : pm_MLT.lookup (6, 3) = some (9, 0, [], false, [419, 116, 117]) := by decide +kernel
theorem mx_7_3 : pm_MLT.lookup (7, 3) = some (9, 0, [], false, [296, 116, 117]) := by decide +kernel
theorem mx_7_31 : pm_MLT.lookup (7, 31) = some (11, 2, [], false, [898, 388, 103, 389]) := by decide +kernel
theorem mx_7_50 : pm_MLT.lookup (7, 50) = some (2, 1, [(8, 51)], true, [899, 632, 14, 96]) := by decide +kernel
theorem mx_7_54 : pm_MLT.lookup (7, 54) = some (0, 2, [(0, 68)], false, [900, 706, 109]) := by decide +kernel
theorem mx_7_64 : pm_MLT.lookup (7, 64) = some (0, 3, [(0, 114)], false, [902, 903, 101]) := by decide +kernel
theorem mx_7_68 : pm_MLT.lookup (7, 68) = some (2, 0, [(7, 115)], false, [905, 907, 61, 101]) := by decide +kernel
theorem mx_7_72 : pm_MLT.lookup (7, 72) = some (2, 1, [(7, 116)], false, [910, 912, 62, 101]) := by decide +kernel
theorem mx_7_76 : pm_MLT.lookup (7, 76) = some (2, 2, [(7, 117)], false, [914, 916, 63, 101]) := by decide +kernel
theorem mx_7_80 : pm_MLT.lookup (7, 80) = some (10, 2, [], false, [909, 628, 103, 629]) := by decide +kernel
theorem mx_8_3 : pm_MLT.lookup (8, 3) = some (9, 0, [], false, [123, 116, 117]) := by decide +kernel
theorem mx_8_24 : pm_MLT.lookup (8, 24) = some (2, 1, [(8, 25)], false, [507, 509, 6, 96]) := by decide +kernel
theorem mx_8_31 : pm_MLT.lookup (8, 31) = some (2, 1, [(8, 24)], false, [516, 505, 5, 96]) := by decide +kernel
theorem mx_8_38 : pm_MLT.lookup (8, 38) = some (2, 1, [(8, 51)], false, [655, 632, 14, 96]) := by decide +kernel
theorem mx_9_3 : pm_MLT.lookup (9, 3) = some (1, 3, [(0, 18)], false, [463, 417, 104]) := by decide +kernel
theorem mx_10_3 : pm_MLT.lookup (10, 3) = some (1, 3, [(0, 18)], false, [416, 417, 104]) := by decide +kernel
theorem mx_11_3 : pm_MLT.lookup (11, 3) = some (9, 0, [], false, [115, 116, 117]) := by decide +kernel
theorem mx_11_11 : pm_MLT.lookup (11, 11) = some (1, 0, [(0, 1)], true, [120, 121, 96]) := by decide +kernel
theorem mx_11_18 : pm_MLT.lookup (11, 18) = some (1, 0, [(0, 2)], false, [150, 151, 97]) := by decide +kernel
theorem mx_11_25 : pm_MLT.lookup (11, 25) = some (1, 0, [(0, 3)], true, [170, 171, 98]) := by decide +kernel
theorem mx_11_32 : pm_MLT.lookup (11, 32) = some (1, 0, [(0, 4)], true, [209, 210, 99]) := by decide +kernel
theorem mx_11_45 : pm_MLT.lookup (11, 45) = some (1, 0, [(0, 5)], true, [253, 254, 100]) := by decide +kernel
theorem mx_11_52 : pm_MLT.lookup (11, 52) = some (1, 0, [(0, 6)], true, [293, 294, 101]) := by decide +kernel
theorem mx_11_61 : pm_MLT.lookup (11, 61) = some (2, 0, [(11, 8)], false, [375, 377, 0, 95]) := by decide +kernel
theorem mx_11_67 : pm_MLT.lookup (11, 67) = some (0, 4, [(0, 14)], false, [402, 403, 95]) := by decide +kernel
theorem mx_11_74 : pm_MLT.lookup (11, 74) = some (0, 4, [(0, 16)], false, [408, 409, 95]) := by decide +kernel
theorem mx_11_78 : pm_MLT.lookup (11, 78) = some (2, 1, [(8, 22)], true, [495, 497, 4, 96]) := by decide +kernel
theorem mx_11_82 : pm_MLT.lookup (11, 82) = some (2, 1, [(8, 24)], true, [503, 505, 5, 96]) := by decide +kernel
theorem mx_11_86 : pm_MLT.lookup (11, 86) = some (2, 1, [(8, 25)], true, [511, 509, 6, 96]) := by decide +kernel
theorem mx_11_101 : pm_MLT.lookup (11, 101) = some (1, 4, [(0, 20)], false, [460, 461, 107]) := by decide +kernel
theorem mx_11_104 : pm_MLT.lookup (11, 104) = some (2, 2, [(8, 26)], true, [512, 514, 7, 96]) := by decide +kernel
theorem mx_11_111 : pm_MLT.lookup (11, 111) = some (0, 2, [(0, 15)], false, [405, 406, 95]) := by decide +kernel
theorem mx_11_120 : pm_MLT.lookup (11, 120) = some (1, 5, [(0, 21)], false, [474, 475, 108]) := by decide +kernel
theorem mx_11_123 : pm_MLT.lookup (11, 123) = some (2, 1, [(8, 29)], true, [525, 527, 8, 96]) := by decide +kernel
theorem mx_11_127 : pm_MLT.lookup (11, 127) = some (3, 0, [(0, 31), (2, 32), (6, 35), (9, 33), (10, 34)], false, [533, 536, 534, 35, 537, 538, 108, 540, 541, 106, 535, 534, 104, 543, 544, 107, 546, 547, 105]) := by decide +kernel
theorem mx_11_135 : pm_MLT.lookup (11, 135) = some (3, 1, [(0, 37), (2, 36), (6, 37), (9, 37), (10, 37)], false, [550, 553, 551, 37, 554, 551, 104, 555, 556, 106, 552, 551, 104, 558, 551, 104, 559, 551, 104]) := by decide +kernel
theorem mx_11_139 : pm_MLT.lookup (11, 139) = some (3, 0, [(0, 39), (2, 39), (6, 39), (9, 38), (10, 39)], false, [561, 564, 562, 39, 565, 562, 104, 566, 562, 104, 563, 562, 104, 567, 568, 107, 570, 562, 104]) := by decide +kernel
theorem mx_11_142 : pm_MLT.lookup (11, 142) = some (3, 0, [(0, 40), (2, 41), (6, 41), (9, 41), (10, 41)], false, [572, 575, 573, 41, 576, 577, 108, 579, 573, 104, 574, 573, 104, 580, 573, 104, 581, 573, 104]) := by decide +kernel
theorem mx_11_145 : pm_MLT.lookup (11, 145) = some (3, 0, [(0, 42), (2, 43), (6, 43), (9, 43), (10, 43)], false, [583, 586, 584, 43, 587, 588, 108, 590, 584, 104, 585, 584, 104, 591, 584, 104, 592, 584, 104]) := by decide +kernel
theorem mx_11_151 : pm_MLT.lookup (11, 151) = some (2, 1, [(3, 45)], true, [598, 600, 9, 97]) := by decide +kernel
theorem mx_11_155 : pm_MLT.lookup (11, 155) = some (2, 0, [(11, 11)], false, [390, 392, 3, 95]) := by decide +kernel
theorem mx_11_158 : pm_MLT.lookup (11, 158) = some (2, 0, [(11, 47)], false, [606, 608, 10, 95]) := by decide +kernel
theorem mx_11_165 : pm_MLT.lookup (11, 165) = some (2, 0, [(8, 55)], true, [651, 653, 16, 96]) := by decide +kernel
theorem mx_11_175 : pm_MLT.lookup (11, 175) = some (2, 0, [(11, 58)], false, [664, 666, 17, 95]) := by decide +kernel
theorem mx_11_182 : pm_MLT.lookup (11, 182) = some (2, 0, [(11, 76)], false, [737, 739, 33, 95]) := by decide +kernel
theorem mx_11_186 : pm_MLT.lookup (11, 186) = some (2, 0, [(11, 78)], false, [745, 747, 34, 95]) := by decide +kernel
theorem mx_11_193 : pm_MLT.lookup (11, 193) = some (2, 3, [(11, 84)], false, [769, 771, 39, 95]) := by decide +kernel
theorem mx_11_197 : pm_MLT.lookup (11, 197) = some (2, 2, [(11, 88)], false, [786, 788, 42, 95]) := by decide +kernel
theorem mx_11_201 : pm_MLT.lookup (11, 201) = some (2, 0, [(4, 90)], true, [794, 796, 43, 99]) := by decide +kernel
theorem mx_11_204 : pm_MLT.lookup (11, 204) = some (2, 1, [(4, 91)], true, [798, 800, 44, 99]) := by decide +kernel
theorem mx_11_207 : pm_MLT.lookup (11, 207) = some (2, 3, [(11, 93)], false, [806, 808, 45, 95]) := by decide +kernel
theorem mx_11_211 : pm_MLT.lookup (11, 211) = some (2, 0, [(1, 97)], true, [823, 825, 47, 98]) := by decide +kernel
theorem mx_11_214 : pm_MLT.lookup (11, 214) = some (2, 0, [(11, 98)], false, [827, 829, 48, 95]) := by decide +kernel
theorem mx_11_223 : pm_MLT.lookup (11, 223) = some (2, 0, [(8, 103)], true, [849, 851, 51, 96]) := by decide +kernel
theorem mx_11_226 : pm_MLT.lookup (11, 226) = some (2, 1, [(5, 104)], true, [855, 857, 52, 100]) := by decide +kernel
theorem mx_11_235 : pm_MLT.lookup (11, 235) = some (2, 2, [(7, 113)], true, [894, 896, 60, 101]) := by decide +kernel
theorem mx_11_244 : pm_MLT.lookup (11, 244) = some (0, 2, [(0, 101)], false, [841, 842, 95]) := by decide +kernel
theorem mx_11_248 : pm_MLT.lookup (11, 248) = some (2, 1, [(3, 9)], true, [379, 381, 1, 97]) := by decide +kernel
theorem mx_11_269 : pm_MLT.lookup (11, 269) = some (1, 2, [(0, 17)], false, [413, 414, 105]) := by decide +kernel
theorem mx_11_274 : pm_MLT.lookup (11, 274) = some (1, 1, [(0, 19)], false, [450, 451, 106]) := by decide +kernel
theorem mx_11_276 : pm_MLT.lookup (11, 276) = some (1, 3, [(0, 18)], false, [490, 417, 104]) := by decide +kernel
theorem mx_11_279 : pm_MLT.lookup (11, 279) = some (2, 3, [(1, 48)], true, [610, 612, 11, 98]) := by decide +kernel
theorem mx_11_283 : pm_MLT.lookup (11, 283) = some (2, 3, [(4, 59)], true, [668, 670, 18, 99]) := by decide +kernel
theorem mx_11_287 : pm_MLT.lookup (11, 287) = some (2, 0, [(4, 79)], true, [749, 751, 35, 99]) := by decide +kernel
theorem mx_11_290 : pm_MLT.lookup (11, 290) = some (2, 1, [(1, 85)], true, [773, 775, 40, 98]) := by decide +kernel
theorem mx_11_293 : pm_MLT.lookup (11, 293) = some (2, 1, [(1, 62)], true, [777, 682, 21, 98]) := by decide +kernel
theorem mx_11_296 : pm_MLT.lookup (11, 296) = some (2, 2, [(4, 86)], true, [778, 780, 41, 99]) := by decide +kernel
theorem mx_11_299 : pm_MLT.lookup (11, 299) = some (2, 2, [(11, 94)], false, [810, 812, 46, 95]) := by decide +kernel
theorem mx_11_304 : pm_MLT.lookup (11, 304) = some (2, 1, [(1, 99)], true, [831, 833, 49, 98]) := by decide +kernel
theorem mx_11_307 : pm_MLT.lookup (11, 307) = some (2, 1, [(1, 100)], true, [835, 837, 50, 98]) := by decide +kernel
theorem mx_11_310 : pm_MLT.lookup (11, 310) = some (10, 2, [], false, [844, 628, 103, 629]) := by decide +kernel
theorem mx_12_1 : pm_MLT.lookup (12, 1) = some (9, 0, [], false, [923, 116, 117]) := by decide +kernel
theorem mx_12_64 : pm_MLT.lookup (12, 64) = some (0, 3, [(0, 121)], false, [1009, 1010, 102]) := by decide +kernel
theorem mx_12_68 : pm_MLT.lookup (12, 68) = some (2, 0, [(12, 122)], false, [1012, 1014, 64, 102]) := by decide +kernel
theorem mx_12_71 : pm_MLT.lookup (12, 71) = some (2, 1, [(12, 126)], false, [1028, 1030, 65, 102]) := by decide +kernel
theorem mx_12_81 : pm_MLT.lookup (12, 81) = some (2, 1, [(12, 134)], false, [1060, 1062, 69, 102]) := by decide +kernel
theorem mx_12_85 : pm_MLT.lookup (12, 85) = some (2, 1, [(12, 130)], false, [1044, 1046, 66, 102]) := by decide +kernel
theorem mx_12_92 : pm_MLT.lookup (12, 92) = some (2, 2, [(12, 143)], false, [1096, 1098, 76, 102]) := by decide +kernel
theorem mx_12_96 : pm_MLT.lookup (12, 96) = some (2, 1, [(12, 144)], false, [1100, 1102, 77, 102]) := by decide +kernel
theorem mx_12_99 : pm_MLT.lookup (12, 99) = some (2, 0, [(12, 133)], false, [1056, 1058, 68, 102]) := by decide +kernel
theorem mx_12_102 : pm_MLT.lookup (12, 102) = some (2, 2, [(12, 132)], false, [1052, 1054, 67, 102]) := by decide +kernel
theorem mx_12_106 : pm_MLT.lookup (12, 106) = some (2, 0, [(12, 135)], false, [1064, 1066, 70, 102]) := by decide +kernel
theorem mx_12_110 : pm_MLT.lookup (12, 110) = some (2, 0, [(12, 136)], false, [1068, 1070, 71, 102]) := by decide +kernel
theorem mx_12_113 : pm_MLT.lookup (12, 113) = some (2, 2, [(12, 142)], false, [1092, 1094, 75, 102]) := by decide +kernel
theorem mx_12_124 : pm_MLT.lookup (12, 124) = some (2, 2, [(12, 141)], false, [1088, 1090, 74, 102]) := by decide +kernel
theorem mx_12_128 : pm_MLT.lookup (12, 128) = some (2, 1, [(12, 145)], false, [1104, 1106, 78, 102]) := by decide +kernel
theorem mx_12_132 : pm_MLT.lookup (12, 132) = some (2, 0, [(12, 140)], false, [1084, 1086, 73, 102]) := by decide +kernel
theorem mx_12_135 : pm_MLT.lookup (12, 135) = some (2, 1, [(12, 146)], false, [1108, 1110, 79, 102]) := by decide +kernel
theorem mx_12_138 : pm_MLT.lookup (12, 138) = some (2, 2, [(12, 139)], false, [1080, 1082, 72, 102]) := by decide +kernel
theorem mx_12_142 : pm_MLT.lookup (12, 142) = some (2, 0, [(12, 148)], false, [1116, 1118, 80, 102]) := by decide +kernel
theorem mx_12_149 : pm_MLT.lookup (12, 149) = some (2, 2, [(12, 151)], false, [1128, 1130, 82, 102]) := by decide +kernel
theorem mx_12_152 : pm_MLT.lookup (12, 152) = some (2, 2, [(12, 152)], false, [1132, 1134, 83, 102]) := by decide +kernel
theorem mx_12_155 : pm_MLT.lookup (12, 155) = some (2, 0, [(12, 150)], false, [1124, 1126, 81, 102]) := by decide +kernel
theorem mx_12_158 : pm_MLT.lookup (12, 158) = some (2, 2, [(12, 154)], false, [1140, 1142, 84, 102]) := by decide +kernel
theorem mx_12_161 : pm_MLT.lookup (12, 161) = some (2, 2, [(12, 158)], false, [1156, 1158, 85, 102]) := by decide +kernel
theorem mx_12_164 : pm_MLT.lookup (12, 164) = some (0, 2, [(0, 163)], false, [1176, 1177, 102]) := by decide +kernel
theorem mx_12_173 : pm_MLT.lookup (12, 173) = some (2, 1, [(12, 161)], false, [1168, 1170, 86, 102]) := by decide +kernel
theorem mx_12_176 : pm_MLT.lookup (12, 176) = some (2, 2, [(12, 162)], false, [1172, 1174, 87, 102]) := by decide +kernel
theorem mx_12_180 : pm_MLT.lookup (12, 180) = some (2, 0, [(12, 164)], false, [1179, 1181, 88, 102]) := by decide +kernel
theorem mx_12_184 : pm_MLT.lookup (12, 184) = some (2, 0, [(12, 165)], false, [1183, 1185, 89, 102]) := by decide +kernel
theorem mx_12_187 : pm_MLT.lookup (12, 187) = some (2, 2, [(12, 168)], false, [1195, 1197, 91, 102]) := by decide +kernel
theorem mx_12_190 : pm_MLT.lookup (12, 190) = some (2, 2, [(12, 169)], false, [1199, 1201, 92, 102]) := by decide +kernel
theorem mx_12_193 : pm_MLT.lookup (12, 193) = some (2, 0, [(12, 167)], false, [1191, 1193, 90, 102]) := by decide +kernel
theorem mx_12_196 : pm_MLT.lookup (12, 196) = some (2, 1, [(12, 171)], false, [1207, 1209, 93, 102]) := by decide +kernel
theorem mx_13_9 : pm_MLT.lookup (13, 9) = some (1, 0, [(0, 0)], false, [112, 113, 95]) := by decide +kernel
theorem mx_13_12 : pm_MLT.lookup (13, 12) = some (1, 0, [(0, 118)], false, [920, 921, 102]) := by decide +kernel
theorem mx_13_13 : pm_MLT.lookup (13, 13) = some (2, 1, [(11, 7)], false, [371, 372, 373, 95]) := by decide +kernel
theorem mx_13_17 : pm_MLT.lookup (13, 17) = some (2, 1, [(12, 120)], false, [1005, 1006, 1007, 102]) := by decide +kernel
theorem mx_13_18 : pm_MLT.lookup (13, 18) = some (2, 1, [(11, 12)], false, [394, 395, 396, 95]) := by decide +kernel
theorem mx_13_21 : pm_MLT.lookup (13, 21) = some (2, 1, [(12, 123)], false, [1016, 1017, 1018, 102]) := by decide +kernel
theorem mx_13_22 : pm_MLT.lookup (13, 22) = some (2, 4, [(11, 13)], false, [398, 399, 400, 95]) := by decide +kernel
theorem mx_13_26 : pm_MLT.lookup (13, 26) = some (2, 4, [(12, 124)], false, [1020, 1021, 1022, 102]) := by decide +kernel
theorem mx_13_27 : pm_MLT.lookup (13, 27) = some (2, 2, [(11, 23)], false, [499, 500, 501, 95]) := by decide +kernel
theorem mx_13_31 : pm_MLT.lookup (13, 31) = some (2, 2, [(12, 125)], false, [1024, 1025, 1026, 102]) := by decide +kernel
theorem mx_13_32 : pm_MLT.lookup (13, 32) = some (2, 3, [(11, 27)], false, [517, 518, 519, 95]) := by decide +kernel
theorem mx_13_36 : pm_MLT.lookup (13, 36) = some (2, 3, [(12, 127)], false, [1032, 1033, 1034, 102]) := by decide +kernel
theorem mx_13_37 : pm_MLT.lookup (13, 37) = some (2, 1, [(11, 28)], false, [521, 522, 523, 95]) := by decide +kernel
theorem mx_13_40 : pm_MLT.lookup (13, 40) = some (2, 1, [(12, 128)], false, [1036, 1037, 1038, 102]) := by decide +kernel
theorem mx_13_41 : pm_MLT.lookup (13, 41) = some (2, 2, [(11, 30)], false, [529, 530, 531, 95]) := by decide +kernel
theorem mx_13_44 : pm_MLT.lookup (13, 44) = some (2, 2, [(12, 129)], false, [1040, 1041, 1042, 102]) := by decide +kernel
theorem mx_13_45 : pm_MLT.lookup (13, 45) = some (2, 0, [(11, 44)], false, [594, 595, 596, 95]) := by decide +kernel
theorem mx_13_49 : pm_MLT.lookup (13, 49) = some (2, 0, [(12, 119)], false, [1001, 1002, 1003, 102]) := by decide +kernel
theorem mx_13_50 : pm_MLT.lookup (13, 50) = some (2, 1, [(11, 46)], false, [602, 603, 604, 95]) := by decide +kernel
theorem mx_13_53 : pm_MLT.lookup (13, 53) = some (2, 1, [(12, 131)], false, [1048, 1049, 1050, 102]) := by decide +kernel
theorem mx_13_54 : pm_MLT.lookup (13, 54) = some (2, 1, [(11, 56)], false, [656, 657, 658, 95]) := by decide +kernel
theorem mx_13_57 : pm_MLT.lookup (13, 57) = some (2, 1, [(12, 137)], false, [1072, 1073, 1074, 102]) := by decide +kernel
theorem mx_13_58 : pm_MLT.lookup (13, 58) = some (2, 0, [(11, 57)], false, [660, 661, 662, 95]) := by decide +kernel
theorem mx_13_61 : pm_MLT.lookup (13, 61) = some (2, 0, [(12, 138)], false, [1076, 1077, 1078, 102]) := by decide +kernel
theorem mx_13_62 : pm_MLT.lookup (13, 62) = some (2, 0, [(11, 75)], false, [733, 734, 735, 95]) := by decide +kernel
theorem mx_13_65 : pm_MLT.lookup (13, 65) = some (2, 0, [(12, 147)], false, [1112, 1113, 1114, 102]) := by decide +kernel
theorem mx_13_66 : pm_MLT.lookup (13, 66) = some (2, 2, [(11, 77)], false, [741, 742, 743, 95]) := by decide +kernel
theorem mx_13_69 : pm_MLT.lookup (13, 69) = some (2, 2, [(12, 149)], false, [1120, 1121, 1122, 102]) := by decide +kernel
theorem mx_13_70 : pm_MLT.lookup (13, 70) = some (2, 2, [(11, 83)], false, [765, 766, 767, 95]) := by decide +kernel
theorem mx_13_73 : pm_MLT.lookup (13, 73) = some (2, 2, [(12, 153)], false, [1136, 1137, 1138, 102]) := by decide +kernel
theorem mx_13_74 : pm_MLT.lookup (13, 74) = some (2, 0, [(11, 87)], false, [782, 783, 784, 95]) := by decide +kernel
theorem mx_13_77 : pm_MLT.lookup (13, 77) = some (2, 0, [(12, 155)], false, [1144, 1145, 1146, 102]) := by decide +kernel
theorem mx_13_78 : pm_MLT.lookup (13, 78) = some (2, 1, [(11, 89)], false, [790, 791, 792, 95]) := by decide +kernel
theorem mx_13_81 : pm_MLT.lookup (13, 81) = some (2, 1, [(12, 156)], false, [1148, 1149, 1150, 102]) := by decide +kernel
theorem mx_13_82 : pm_MLT.lookup (13, 82) = some (2, 0, [(11, 92)], false, [802, 803, 804, 95]) := by decide +kernel
theorem mx_13_85 : pm_MLT.lookup (13, 85) = some (2, 0, [(12, 157)], false, [1152, 1153, 1154, 102]) := by decide +kernel
theorem mx_13_86 : pm_MLT.lookup (13, 86) = some (2, 0, [(11, 95)], false, [815, 816, 817, 95]) := by decide +kernel
theorem mx_13_89 : pm_MLT.lookup (13, 89) = some (2, 0, [(12, 159)], false, [1160, 1161, 1162, 102]) := by decide +kernel
theorem mx_13_90 : pm_MLT.lookup (13, 90) = some (2, 1, [(11, 96)], false, [819, 820, 821, 95]) := by decide +kernel
theorem mx_13_93 : pm_MLT.lookup (13, 93) = some (2, 1, [(12, 160)], false, [1164, 1165, 1166, 102]) := by decide +kernel
theorem mx_13_94 : pm_MLT.lookup (13, 94) = some (2, 2, [(11, 102)], false, [845, 846, 847, 95]) := by decide +kernel
theorem mx_13_97 : pm_MLT.lookup (13, 97) = some (2, 2, [(12, 166)], false, [1187, 1188, 1189, 102]) := by decide +kernel
theorem mx_13_98 : pm_MLT.lookup (13, 98) = some (2, 2, [(11, 112)], false, [890, 891, 892, 95]) := by decide +kernel
theorem mx_13_101 : pm_MLT.lookup (13, 101) = some (2, 2, [(12, 170)], false, [1203, 1204, 1205, 102]) := by decide +kernel
theorem cx_1_85 : pm_CT.lookup (1, 85) = some ("LoomShed$Barred", 624) := by decide +kernel
theorem cx_3_9 : pm_CT.lookup (3, 9) = some ("LoomShed$Shed", 154) := by decide +kernel
theorem cx_4_18 : pm_CT.lookup (4, 18) = some ("[[I", 213) := by decide +kernel
theorem cx_8_18 : pm_CT.lookup (8, 18) = some ("LoomShed$Piece", 124) := by decide +kernel
theorem cx_8_42 : pm_CT.lookup (8, 42) = some ("LoomShed$Split", 853) := by decide +kernel
theorem cx_8_44 : pm_CT.lookup (8, 44) = some ("LoomShed$Barred", 854) := by decide +kernel
theorem cx_11_9 : pm_CT.lookup (11, 9) = some ("LoomShed$Shed", 118) := by decide +kernel
theorem cx_11_16 : pm_CT.lookup (11, 16) = some ("LoomShed$History", 148) := by decide +kernel
theorem cx_11_23 : pm_CT.lookup (11, 23) = some ("LoomShed$Frame", 168) := by decide +kernel
theorem cx_11_30 : pm_CT.lookup (11, 30) = some ("LoomShed$Laying", 207) := by decide +kernel
theorem cx_11_43 : pm_CT.lookup (11, 43) = some ("LoomShed$Levelling", 251) := by decide +kernel
theorem cx_11_50 : pm_CT.lookup (11, 50) = some ("LoomShed$Sharing", 291) := by decide +kernel
theorem cx_11_90 : pm_CT.lookup (11, 90) = some ("LoomShed$Split", 458) := by decide +kernel
theorem cx_11_115 : pm_CT.lookup (11, 115) = some ("LoomShed$Barred", 472) := by decide +kernel
theorem cx_11_128 : pm_CT.lookup (11, 128) = some ("LoomShed$Piece", 488) := by decide +kernel
theorem cx_11_267 : pm_CT.lookup (11, 267) = some ("LoomShed$Tight", 411) := by decide +kernel
theorem cx_11_272 : pm_CT.lookup (11, 272) = some ("LoomShed$Free", 448) := by decide +kernel
theorem cx_13_7 : pm_CT.lookup (13, 7) = some ("LoomShed", 110) := by decide +kernel
theorem cx_13_10 : pm_CT.lookup (13, 10) = some ("LoomShedModel", 918) := by decide +kernel
theorem kx_4_51 : pm_KT.lookup (4, 51) = some (1000000, 716) := by decide +kernel
theorem kx_7_60 : pm_KT.lookup (7, 60) = some (1000000, 901) := by decide +kernel
theorem kx_11_303 : pm_KT.lookup (11, 303) = some (1000000, 814) := by decide +kernel
