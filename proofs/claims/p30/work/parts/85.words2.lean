set_option maxRecDepth 20000 in
theorem inT_9 : ∀ w ∈ wsL_law0_r9, w ∈ lw_tbl := inTbl [33, 152, 153, 154, 34, 155, 156, 157, 158, 159, 161, 162, 163, 164, 165, 166, 167, 385, 386, 387, 236, 237, 238, 239] (by decide +kernel)
set_option maxRecDepth 20000 in
theorem inT_10 : ∀ w ∈ wsL_law0_r10, w ∈ lw_tbl := inTbl [240, 241, 242, 243, 657, 658, 659, 660, 304, 305, 306, 307, 308, 257, 258, 259, 260, 262, 2, 263, 256, 662, 663, 664] (by decide +kernel)
set_option maxRecDepth 20000 in
theorem inT_11 : ∀ w ∈ wsL_law0_r11, w ∈ lw_tbl := inTbl [665, 666, 374, 358, 359, 360, 667, 668, 669, 670, 671, 415, 428, 36, 674, 675, 676, 677, 685, 687, 690, 678, 680, 681] (by decide +kernel)
set_option maxRecDepth 20000 in
theorem inT_12 : ∀ w ∈ wsL_law0_r12, w ∈ lw_tbl := inTbl [682, 684, 727, 728, 729, 730, 411, 413, 5, 414, 415, 421, 422, 423, 424, 425, 427, 6, 429, 430, 432, 7, 433, 435] (by decide +kernel)
set_option maxRecDepth 20000 in
theorem inT_13 : ∀ w ∈ wsL_law0_r13, w ∈ lw_tbl := inTbl [436, 407, 408, 409, 410, 732, 733, 734, 735, 323, 324, 325, 326, 329, 330, 331, 332, 333, 335, 336, 337, 338, 339, 340] (by decide +kernel)
set_option maxRecDepth 20000 in
theorem inT_14 : ∀ w ∈ wsL_law0_r14, w ∈ lw_tbl := inTbl [134, 135, 136, 137, 244, 245, 246, 247, 252, 253, 254, 255, 264, 265, 266, 267, 300, 301, 302, 303, 309, 311, 3, 313] (by decide +kernel)
set_option maxRecDepth 20000 in
theorem inT_15 : ∀ w ∈ wsL_law0_r15, w ∈ lw_tbl := inTbl [321, 322, 315, 316, 317, 318, 319, 30, 320, 341, 342, 343, 344, 345, 346, 347, 348, 349, 350, 351, 352, 353, 354, 355] (by decide +kernel)
