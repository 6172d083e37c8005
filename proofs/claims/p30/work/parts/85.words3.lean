set_option maxRecDepth 20000 in
theorem inT_16 : ∀ w ∈ wsL_law0_r16, w ∈ lw_tbl := inTbl [356, 357, 361, 362, 363, 364, 365, 366, 367, 368, 369, 370, 371, 372, 373, 375, 376, 377, 378, 379, 380, 381, 382, 383] (by decide +kernel)
set_option maxRecDepth 20000 in
theorem inT_17 : ∀ w ∈ wsL_law0_r17, w ∈ lw_tbl := inTbl [389, 390, 440, 441, 442, 443, 444, 445, 446, 447, 449, 451, 8, 452, 453, 454, 455, 456, 457, 459, 9, 460, 461, 462] (by decide +kernel)
set_option maxRecDepth 20000 in
theorem inT_18 : ∀ w ∈ wsL_law0_r18, w ∈ lw_tbl := inTbl [463, 464, 465, 692, 493, 466, 467, 468, 469, 470, 471, 694, 472, 473, 474, 475, 476, 480, 478, 479, 483, 484, 485, 486] (by decide +kernel)
set_option maxRecDepth 20000 in
theorem inT_19 : ∀ w ∈ wsL_law0_r19, w ∈ lw_tbl := inTbl [487, 488, 489, 490, 491, 696, 698, 494, 495, 496, 497, 499, 500, 501, 502, 105, 503, 505, 10, 506, 507, 508, 510, 11] (by decide +kernel)
set_option maxRecDepth 20000 in
theorem inT_20 : ∀ w ∈ wsL_law0_r20, w ∈ lw_tbl := inTbl [511, 512, 513, 514, 515, 516, 517, 518, 519, 520, 521, 522, 523, 524, 525, 526, 527, 528, 529, 530, 531, 533, 534, 535] (by decide +kernel)
set_option maxRecDepth 20000 in
theorem inT_21 : ∀ w ∈ wsL_law0_r21, w ∈ lw_tbl := inTbl [536, 537, 391, 392, 393, 394, 396, 397, 398, 399, 400, 402, 4, 403, 404, 417, 418, 419, 420, 437] (by decide +kernel)
