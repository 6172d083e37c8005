set_option maxRecDepth 20000 in
theorem inT_2 : ∀ w ∈ wsL_law0_r2, w ∈ lw_tbl := inTbl [118, 119, 45, 147, 72, 73, 74, 82, 84, 75, 76, 42, 77, 86, 78, 79, 41, 80, 81, 98, 99, 100, 101, 109] (by decide +kernel)
set_option maxRecDepth 20000 in
theorem inT_3 : ∀ w ∈ wsL_law0_r3, w ∈ lw_tbl := inTbl [102, 110, 111, 112, 113, 103, 114, 115, 116, 117, 121, 122, 123, 124, 126, 127, 128, 129, 125, 954, 955, 956, 957, 959] (by decide +kernel)
set_option maxRecDepth 20000 in
theorem inT_4 : ∀ w ∈ wsL_law0_r4, w ∈ lw_tbl := inTbl [961, 962, 963, 964, 965, 966, 967, 968, 970, 972, 263, 264, 39, 265, 266, 268, 269, 270, 271, 275, 50, 343, 51, 218] (by decide +kernel)
set_option maxRecDepth 20000 in
theorem inT_5 : ∀ w ∈ wsL_law0_r5, w ∈ lw_tbl := inTbl [359, 52, 272, 273, 274, 163, 164, 165, 166, 85, 360, 361, 362, 363, 364, 390, 392, 386, 366, 389, 368, 53, 365, 370] (by decide +kernel)
set_option maxRecDepth 20000 in
theorem inT_6 : ∀ w ∈ wsL_law0_r6, w ∈ lw_tbl := inTbl [371, 372, 373, 375, 377, 378, 374, 403, 404, 405, 406, 87, 88, 407, 409, 4, 410, 411, 413, 5, 414, 415, 417, 6] (by decide +kernel)
set_option maxRecDepth 20000 in
theorem inT_7 : ∀ w ∈ wsL_law0_r7, w ∈ lw_tbl := inTbl [418, 457, 199, 55, 200, 458, 419, 420, 54, 421, 422, 423, 424, 425, 426, 427, 428, 56, 429, 430, 1250, 431, 444, 445] (by decide +kernel)
set_option maxRecDepth 20000 in
theorem inT_8 : ∀ w ∈ wsL_law0_r8, w ∈ lw_tbl := inTbl [446, 447, 448, 450, 451, 452, 453, 454, 456, 455, 57, 1008, 1009, 1010, 1011, 958, 960, 1012, 1013, 1014, 1015, 1017, 17, 1018] (by decide +kernel)
set_option maxRecDepth 20000 in
theorem inT_9 : ∀ w ∈ wsL_law0_r9, w ∈ lw_tbl := inTbl [1004, 1005, 1006, 1007, 459, 460, 461, 462, 463, 464, 465, 466, 471, 60, 467, 469, 7, 470, 218, 167, 168, 169, 170, 171] (by decide +kernel)
set_option maxRecDepth 20000 in
theorem inT_10 : ∀ w ∈ wsL_law0_r10, w ∈ lw_tbl := inTbl [172, 58, 173, 174, 175, 59, 176, 177, 178, 179, 180, 487, 238, 239, 240, 241, 229, 230, 231, 488, 489, 490, 491, 224] (by decide +kernel)
set_option maxRecDepth 20000 in
theorem inT_11 : ∀ w ∈ wsL_law0_r11, w ∈ lw_tbl := inTbl [225, 226, 227, 228, 1019, 1020, 1021, 1022, 1023, 1025, 18, 1026, 1027, 1029, 19, 1030, 492, 493, 494, 495, 496, 497, 498, 499] (by decide +kernel)
set_option maxRecDepth 20000 in
theorem inT_12 : ∀ w ∈ wsL_law0_r12, w ∈ lw_tbl := inTbl [500, 501, 502, 503, 504, 505, 507, 508, 509, 511, 512, 513, 514, 515, 516, 517, 518, 519, 520, 207, 208, 209, 210, 212] (by decide +kernel)
set_option maxRecDepth 20000 in
theorem inT_13 : ∀ w ∈ wsL_law0_r13, w ∈ lw_tbl := inTbl [2, 213, 236, 522, 523, 524, 525, 526, 527, 528, 529, 530, 531, 1031, 1032, 1033, 1034, 1035, 1037, 20, 1038, 1039, 1040, 1041] (by decide +kernel)
