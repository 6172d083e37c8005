set_option maxRecDepth 20000 in
theorem inT_27 : ∀ w ∈ wsL_law0_r27, w ∈ lw_tbl := inTbl [0, 190, 191, 193, 1, 194, 196, 197, 1121, 1122, 1123, 1124, 1125, 1127, 26, 1128, 1129, 1131, 27, 1132, 1133, 1135, 28, 1136] (by decide +kernel)
set_option maxRecDepth 20000 in
theorem inT_28 : ∀ w ∈ wsL_law0_r28, w ∈ lw_tbl := inTbl [1137, 1139, 29, 1140, 1141, 1143, 30, 1144, 809, 810, 811, 812, 813, 814, 815, 1145, 1146, 1147, 1148, 817, 818, 819, 820, 821] (by decide +kernel)
set_option maxRecDepth 20000 in
theorem inT_29 : ∀ w ∈ wsL_law0_r29, w ∈ lw_tbl := inTbl [822, 823, 1149, 1150, 1151, 1152, 825, 826, 827, 828, 829, 830, 831, 247, 248, 249, 250, 741, 745, 747, 749, 751, 251, 1153] (by decide +kernel)
set_option maxRecDepth 20000 in
theorem inT_30 : ∀ w ∈ wsL_law0_r30, w ∈ lw_tbl := inTbl [1154, 1155, 1156, 1157, 1159, 31, 1160, 833, 834, 835, 836, 837, 838, 839, 840, 841, 842, 843, 845, 846, 847, 848, 849, 850] (by decide +kernel)
set_option maxRecDepth 20000 in
theorem inT_31 : ∀ w ∈ wsL_law0_r31, w ∈ lw_tbl := inTbl [851, 852, 854, 855, 856, 857, 858, 859, 860, 861, 862, 1161, 1162, 1163, 1164, 1165, 1166, 1168, 32, 1169, 1170, 1172, 33, 1173] (by decide +kernel)
set_option maxRecDepth 20000 in
theorem inT_32 : ∀ w ∈ wsL_law0_r32, w ∈ lw_tbl := inTbl [1174, 1175, 1176, 1177, 1179, 34, 1180, 1181, 1183, 35, 1184, 1185, 159, 160, 161, 162, 198, 1186, 1187, 1188, 1189, 1190, 864, 865] (by decide +kernel)
set_option maxRecDepth 20000 in
theorem inT_33 : ∀ w ∈ wsL_law0_r33, w ∈ lw_tbl := inTbl [866, 867, 868, 869, 870, 871, 873, 13, 874, 875, 876, 878, 14, 879, 880, 881, 882, 883, 884, 891, 885, 886, 887, 888] (by decide +kernel)
set_option maxRecDepth 20000 in
theorem inT_34 : ∀ w ∈ wsL_law0_r34, w ∈ lw_tbl := inTbl [889, 890, 1191, 1192, 1193, 1194, 1195, 1197, 36, 1198, 1199, 892, 893, 894, 895, 896, 897, 898, 1200, 1201, 1202, 1203, 1204, 1205] (by decide +kernel)
set_option maxRecDepth 20000 in
theorem inT_35 : ∀ w ∈ wsL_law0_r35, w ∈ lw_tbl := inTbl [1206, 900, 901, 902, 903, 904, 905, 906, 1207, 1208, 1209, 1210, 907, 908, 909, 910, 911, 912, 913, 915, 916, 917, 918, 130] (by decide +kernel)
set_option maxRecDepth 20000 in
theorem inT_36 : ∀ w ∈ wsL_law0_r36, w ∈ lw_tbl := inTbl [919, 921, 15, 922, 923, 924, 926, 16, 927, 928, 929, 930, 931, 932, 933, 934, 935, 936, 937, 938, 1211, 1212, 1213, 1214] (by decide +kernel)
set_option maxRecDepth 20000 in
theorem inT_37 : ∀ w ∈ wsL_law0_r37, w ∈ lw_tbl := inTbl [971, 1215, 1217, 37, 1218, 939, 940, 941, 942, 943, 944, 945, 946, 947, 948, 949, 257, 951, 259, 260, 261, 262, 1219, 1220] (by decide +kernel)
set_option maxRecDepth 20000 in
theorem inT_38 : ∀ w ∈ wsL_law0_r38, w ∈ lw_tbl := inTbl [1221, 1222, 1223, 1225, 38, 1226, 201, 202, 203, 204, 205, 214, 215, 216, 217, 219, 220, 221, 222, 232, 237, 242, 252, 253] (by decide +kernel)
set_option maxRecDepth 20000 in
theorem inT_39 : ∀ w ∈ wsL_law0_r39, w ∈ lw_tbl := inTbl [254, 255, 258, 1227, 1228, 1229, 1230, 1231, 1232] (by decide +kernel)
