set_option maxRecDepth 20000 in
theorem inT_14 : ∀ w ∈ wsL_law0_r14, w ∈ lw_tbl := inTbl [1042, 1044, 21, 1045, 532, 533, 534, 535, 536, 537, 538, 540, 541, 542, 543, 544, 545, 546, 547, 1046, 1047, 1048, 1049, 1050] (by decide +kernel)
set_option maxRecDepth 20000 in
theorem inT_15 : ∀ w ∈ wsL_law0_r15, w ∈ lw_tbl := inTbl [1052, 22, 1053, 548, 549, 550, 551, 552, 553, 554, 1054, 1055, 1056, 1057, 555, 556, 557, 558, 559, 560, 561, 563, 233, 234] (by decide +kernel)
set_option maxRecDepth 20000 in
theorem inT_16 : ∀ w ∈ wsL_law0_r16, w ∈ lw_tbl := inTbl [235, 1058, 1059, 1060, 1061, 564, 565, 566, 567, 568, 569, 570, 573, 574, 575, 576, 577, 579, 8, 580, 588, 589, 582, 583] (by decide +kernel)
set_option maxRecDepth 20000 in
theorem inT_17 : ∀ w ∈ wsL_law0_r17, w ∈ lw_tbl := inTbl [584, 585, 586, 55, 587, 1062, 1063, 1064, 1065, 1066, 1068, 23, 1069, 1070, 1071, 1072, 1076, 1078, 1073, 1074, 1075, 1077, 590, 591] (by decide +kernel)
set_option maxRecDepth 20000 in
theorem inT_18 : ∀ w ∈ wsL_law0_r18, w ∈ lw_tbl := inTbl [592, 593, 594, 595, 596, 600, 601, 602, 603, 604, 605, 1079, 1080, 1081, 1082, 606, 607, 608, 609, 610, 611, 612, 614, 243] (by decide +kernel)
set_option maxRecDepth 20000 in
theorem inT_19 : ∀ w ∈ wsL_law0_r19, w ∈ lw_tbl := inTbl [244, 245, 246, 1083, 1084, 1085, 1086, 615, 616, 617, 618, 619, 620, 621, 622, 623, 624, 625, 626, 627, 628, 629, 630, 631] (by decide +kernel)
set_option maxRecDepth 20000 in
theorem inT_20 : ∀ w ∈ wsL_law0_r20, w ∈ lw_tbl := inTbl [632, 633, 634, 635, 636, 637, 638, 639, 640, 641, 642, 643, 644, 645, 1087, 1088, 1089, 1090, 1091, 1093, 24, 1094, 646, 647] (by decide +kernel)
set_option maxRecDepth 20000 in
theorem inT_21 : ∀ w ∈ wsL_law0_r21, w ∈ lw_tbl := inTbl [648, 649, 650, 651, 652, 654, 655, 656, 657, 658, 659, 660, 661, 663, 664, 668, 669, 670, 671, 672, 673, 674, 675, 1095] (by decide +kernel)
set_option maxRecDepth 20000 in
theorem inT_22 : ∀ w ∈ wsL_law0_r22, w ∈ lw_tbl := inTbl [1096, 1097, 1098, 677, 678, 679, 680, 681, 682, 683, 685, 686, 687, 688, 689, 691, 9, 692, 693, 694, 695, 696, 698, 10] (by decide +kernel)
set_option maxRecDepth 20000 in
theorem inT_23 : ∀ w ∈ wsL_law0_r23, w ∈ lw_tbl := inTbl [699, 700, 701, 702, 703, 1099, 1100, 1101, 1102, 1103, 704, 705, 706, 707, 708, 709, 710, 711, 712, 713, 206, 716, 1104, 1105] (by decide +kernel)
set_option maxRecDepth 20000 in
theorem inT_24 : ∀ w ∈ wsL_law0_r24, w ∈ lw_tbl := inTbl [1106, 1107, 717, 718, 719, 720, 721, 722, 723, 181, 189, 61, 726, 727, 728, 729, 737, 739, 743, 730, 732, 733, 734, 736] (by decide +kernel)
set_option maxRecDepth 20000 in
theorem inT_25 : ∀ w ∈ wsL_law0_r25, w ∈ lw_tbl := inTbl [1108, 1109, 1110, 1111, 969, 1112, 780, 781, 782, 783, 784, 785, 786, 788, 789, 790, 791, 792, 794, 11, 795, 796, 1113, 1114] (by decide +kernel)
set_option maxRecDepth 20000 in
theorem inT_26 : ∀ w ∈ wsL_law0_r26, w ∈ lw_tbl := inTbl [1115, 1116, 1117, 1119, 25, 1120, 797, 798, 799, 800, 801, 802, 803, 804, 806, 12, 807, 181, 182, 183, 184, 185, 186, 188] (by decide +kernel)
