theorem dL_below_0 : decode cL_below 0 = .ok (.iload_n 0, 1) := by decide +kernel
theorem dL_below_1 : decode cL_below 1 = .ok (.ldc 7, 2) := by decide +kernel
theorem dL_below_3 : decode cL_below 3 = .ok (.iand, 1) := by decide +kernel
theorem dL_below_4 : decode cL_below 4 = .ok (.iload_n 1, 1) := by decide +kernel
theorem dL_below_5 : decode cL_below 5 = .ok (.irem, 1) := by decide +kernel
theorem dL_below_6 : decode cL_below 6 = .ok (.ireturn, 1) := by decide +kernel
theorem dL_cell_0 : decode cL_cell 0 = .ok (.iload_n 1, 1) := by decide +kernel
theorem dL_cell_1 : decode cL_cell 1 = .ok (.aload_n 0, 1) := by decide +kernel
theorem dL_cell_2 : decode cL_cell 2 = .ok (.arraylength, 1) := by decide +kernel
theorem dL_cell_3 : decode cL_cell 3 = .ok (.if_icmp .ge 9, 3) := by decide +kernel
theorem dL_cell_6 : decode cL_cell 6 = .ok (.aload_n 0, 1) := by decide +kernel
theorem dL_cell_7 : decode cL_cell 7 = .ok (.iload_n 1, 1) := by decide +kernel
theorem dL_cell_8 : decode cL_cell 8 = .ok (.iaload, 1) := by decide +kernel
theorem dL_cell_9 : decode cL_cell 9 = .ok (.goto 9, 3) := by decide +kernel
theorem dL_cell_12 : decode cL_cell 12 = .ok (.ldc 8, 2) := by decide +kernel
theorem dL_cell_14 : decode cL_cell 14 = .ok (.iload_n 1, 1) := by decide +kernel
theorem dL_cell_15 : decode cL_cell 15 = .ok (.iconst 3, 1) := by decide +kernel
theorem dL_cell_16 : decode cL_cell 16 = .ok (.iadd, 1) := by decide +kernel
theorem dL_cell_17 : decode cL_cell 17 = .ok (.imul, 1) := by decide +kernel
theorem dL_cell_18 : decode cL_cell 18 = .ok (.ireturn, 1) := by decide +kernel
theorem dL_put_0 : decode cL_put 0 = .ok (.iconst 0, 1) := by decide +kernel
theorem dL_put_1 : decode cL_put 1 = .ok (.istore 5, 2) := by decide +kernel
theorem dL_put_3 : decode cL_put 3 = .ok (.iload 5, 2) := by decide +kernel
theorem dL_put_5 : decode cL_put 5 = .ok (.iload_n 1, 1) := by decide +kernel
theorem dL_put_6 : decode cL_put 6 = .ok (.if_icmp .ge 19, 3) := by decide +kernel
theorem dL_put_9 : decode cL_put 9 = .ok (.aload_n 0, 1) := by decide +kernel
theorem dL_put_10 : decode cL_put 10 = .ok (.iconst 3, 1) := by decide +kernel
theorem dL_put_11 : decode cL_put 11 = .ok (.iload 5, 2) := by decide +kernel
theorem dL_put_13 : decode cL_put 13 = .ok (.imul, 1) := by decide +kernel
theorem dL_put_14 : decode cL_put 14 = .ok (.iaload, 1) := by decide +kernel
theorem dL_put_15 : decode cL_put 15 = .ok (.iload_n 2, 1) := by decide +kernel
theorem dL_put_16 : decode cL_put 16 = .ok (.if_icmp .ge 9, 3) := by decide +kernel
theorem dL_put_19 : decode cL_put 19 = .ok (.iinc 5 1, 3) := by decide +kernel
theorem dL_put_22 : decode cL_put 22 = .ok (.goto (-19), 3) := by decide +kernel
theorem dL_put_25 : decode cL_put 25 = .ok (.iload 5, 2) := by decide +kernel
theorem dL_put_27 : decode cL_put 27 = .ok (.iload_n 1, 1) := by decide +kernel
theorem dL_put_28 : decode cL_put 28 = .ok (.if_icmp .ge 17, 3) := by decide +kernel
theorem dL_put_31 : decode cL_put 31 = .ok (.aload_n 0, 1) := by decide +kernel
theorem dL_put_32 : decode cL_put 32 = .ok (.iconst 3, 1) := by decide +kernel
theorem dL_put_33 : decode cL_put 33 = .ok (.iload 5, 2) := by decide +kernel
theorem dL_put_35 : decode cL_put 35 = .ok (.imul, 1) := by decide +kernel
theorem dL_put_36 : decode cL_put 36 = .ok (.iaload, 1) := by decide +kernel
theorem dL_put_37 : decode cL_put 37 = .ok (.iload_n 2, 1) := by decide +kernel
theorem dL_put_38 : decode cL_put 38 = .ok (.if_icmp .ne 7, 3) := by decide +kernel
theorem dL_put_41 : decode cL_put 41 = .ok (.iconst 1, 1) := by decide +kernel
theorem dL_put_42 : decode cL_put 42 = .ok (.goto 4, 3) := by decide +kernel
theorem dL_put_45 : decode cL_put 45 = .ok (.iconst 0, 1) := by decide +kernel
theorem dL_put_46 : decode cL_put 46 = .ok (.istore 6, 2) := by decide +kernel
theorem dL_put_48 : decode cL_put 48 = .ok (.iconst 3, 1) := by decide +kernel
theorem dL_put_49 : decode cL_put 49 = .ok (.iload_n 1, 1) := by decide +kernel
theorem dL_put_50 : decode cL_put 50 = .ok (.imul, 1) := by decide +kernel
theorem dL_put_51 : decode cL_put 51 = .ok (.iconst 2, 1) := by decide +kernel
theorem dL_put_52 : decode cL_put 52 = .ok (.iadd, 1) := by decide +kernel
theorem dL_put_53 : decode cL_put 53 = .ok (.istore 7, 2) := by decide +kernel
theorem dL_put_55 : decode cL_put 55 = .ok (.iload 7, 2) := by decide +kernel
theorem dL_put_57 : decode cL_put 57 = .ok (.iconst 3, 1) := by decide +kernel
theorem dL_put_58 : decode cL_put 58 = .ok (.iload 5, 2) := by decide +kernel
theorem dL_put_60 : decode cL_put 60 = .ok (.imul, 1) := by decide +kernel
theorem dL_put_61 : decode cL_put 61 = .ok (.iconst 3, 1) := by decide +kernel
theorem dL_put_62 : decode cL_put 62 = .ok (.iadd, 1) := by decide +kernel
theorem dL_put_63 : decode cL_put 63 = .ok (.if_icmp .lt 24, 3) := by decide +kernel
theorem dL_put_66 : decode cL_put 66 = .ok (.iload 6, 2) := by decide +kernel
theorem dL_put_68 : decode cL_put 68 = .ok (.ifCond .ne 19, 3) := by decide +kernel
theorem dL_put_71 : decode cL_put 71 = .ok (.aload_n 0, 1) := by decide +kernel
theorem dL_put_72 : decode cL_put 72 = .ok (.iload 7, 2) := by decide +kernel
theorem dL_put_74 : decode cL_put 74 = .ok (.aload_n 0, 1) := by decide +kernel
theorem dL_put_75 : decode cL_put 75 = .ok (.iload 7, 2) := by decide +kernel
theorem dL_put_77 : decode cL_put 77 = .ok (.iconst 3, 1) := by decide +kernel
theorem dL_put_78 : decode cL_put 78 = .ok (.isub, 1) := by decide +kernel
theorem dL_put_79 : decode cL_put 79 = .ok (.iaload, 1) := by decide +kernel
theorem dL_put_80 : decode cL_put 80 = .ok (.iastore, 1) := by decide +kernel
theorem dL_put_81 : decode cL_put 81 = .ok (.iinc 7 (-1), 3) := by decide +kernel
theorem dL_put_84 : decode cL_put 84 = .ok (.goto (-29), 3) := by decide +kernel
theorem dL_put_87 : decode cL_put 87 = .ok (.aload_n 0, 1) := by decide +kernel
theorem dL_put_88 : decode cL_put 88 = .ok (.iconst 3, 1) := by decide +kernel
theorem dL_put_89 : decode cL_put 89 = .ok (.iload 5, 2) := by decide +kernel
theorem dL_put_91 : decode cL_put 91 = .ok (.imul, 1) := by decide +kernel
theorem dL_put_92 : decode cL_put 92 = .ok (.iload_n 2, 1) := by decide +kernel
theorem dL_put_93 : decode cL_put 93 = .ok (.iastore, 1) := by decide +kernel
theorem dL_put_94 : decode cL_put 94 = .ok (.aload_n 0, 1) := by decide +kernel
theorem dL_put_95 : decode cL_put 95 = .ok (.iconst 3, 1) := by decide +kernel
theorem dL_put_96 : decode cL_put 96 = .ok (.iload 5, 2) := by decide +kernel
theorem dL_put_98 : decode cL_put 98 = .ok (.imul, 1) := by decide +kernel
theorem dL_put_99 : decode cL_put 99 = .ok (.iconst 1, 1) := by decide +kernel
theorem dL_put_100 : decode cL_put 100 = .ok (.iadd, 1) := by decide +kernel
theorem dL_put_101 : decode cL_put 101 = .ok (.iload_n 3, 1) := by decide +kernel
theorem dL_put_102 : decode cL_put 102 = .ok (.iastore, 1) := by decide +kernel
theorem dL_put_103 : decode cL_put 103 = .ok (.aload_n 0, 1) := by decide +kernel
theorem dL_put_104 : decode cL_put 104 = .ok (.iconst 3, 1) := by decide +kernel
theorem dL_put_105 : decode cL_put 105 = .ok (.iload 5, 2) := by decide +kernel
theorem dL_put_107 : decode cL_put 107 = .ok (.imul, 1) := by decide +kernel
theorem dL_put_108 : decode cL_put 108 = .ok (.iconst 2, 1) := by decide +kernel
theorem dL_put_109 : decode cL_put 109 = .ok (.iadd, 1) := by decide +kernel
theorem dL_put_110 : decode cL_put 110 = .ok (.iload 4, 2) := by decide +kernel
theorem dL_put_112 : decode cL_put 112 = .ok (.iastore, 1) := by decide +kernel
theorem dL_put_113 : decode cL_put 113 = .ok (.iload 6, 2) := by decide +kernel
theorem dL_put_115 : decode cL_put 115 = .ok (.ifCond .eq 7, 3) := by decide +kernel
theorem dL_put_118 : decode cL_put 118 = .ok (.iload_n 1, 1) := by decide +kernel
theorem dL_put_119 : decode cL_put 119 = .ok (.goto 6, 3) := by decide +kernel
theorem dL_put_122 : decode cL_put 122 = .ok (.iload_n 1, 1) := by decide +kernel
theorem dL_put_123 : decode cL_put 123 = .ok (.iconst 1, 1) := by decide +kernel
theorem dL_put_124 : decode cL_put 124 = .ok (.iadd, 1) := by decide +kernel
theorem dL_put_125 : decode cL_put 125 = .ok (.ireturn, 1) := by decide +kernel
theorem dL_stage_0 : decode cL_stage 0 = .ok (.iconst 0, 1) := by decide +kernel
theorem dL_stage_1 : decode cL_stage 1 = .ok (.istore 6, 2) := by decide +kernel
theorem dL_stage_3 : decode cL_stage 3 = .ok (.iload 6, 2) := by decide +kernel
theorem dL_stage_5 : decode cL_stage 5 = .ok (.iconst 2, 1) := by decide +kernel
theorem dL_stage_6 : decode cL_stage 6 = .ok (.if_icmp .ge 200, 3) := by decide +kernel
theorem dL_stage_9 : decode cL_stage 9 = .ok (.aload_n 2, 1) := by decide +kernel
theorem dL_stage_10 : decode cL_stage 10 = .ok (.iload 6, 2) := by decide +kernel
theorem dL_stage_12 : decode cL_stage 12 = .ok (.iconst 1, 1) := by decide +kernel
theorem dL_stage_13 : decode cL_stage 13 = .ok (.aload_n 1, 1) := by decide +kernel
theorem dL_stage_14 : decode cL_stage 14 = .ok (.iload 6, 2) := by decide +kernel
theorem dL_stage_16 : decode cL_stage 16 = .ok (.invokestatic 9, 3) := by decide +kernel
theorem dL_stage_19 : decode cL_stage 19 = .ok (.bipush 50, 2) := by decide +kernel
theorem dL_stage_21 : decode cL_stage 21 = .ok (.invokestatic 15, 3) := by decide +kernel
theorem dL_stage_24 : decode cL_stage 24 = .ok (.iadd, 1) := by decide +kernel
theorem dL_stage_25 : decode cL_stage 25 = .ok (.iastore, 1) := by decide +kernel
theorem dL_stage_26 : decode cL_stage 26 = .ok (.aload_n 0, 1) := by decide +kernel
theorem dL_stage_27 : decode cL_stage 27 = .ok (.aload_n 2, 1) := by decide +kernel
theorem dL_stage_28 : decode cL_stage 28 = .ok (.iload 6, 2) := by decide +kernel
theorem dL_stage_30 : decode cL_stage 30 = .ok (.iaload, 1) := by decide +kernel
theorem dL_stage_31 : decode cL_stage 31 = .ok (.invokevirtual 19, 3) := by decide +kernel
theorem dL_stage_34 : decode cL_stage 34 = .ok (.iload 6, 2) := by decide +kernel
theorem dL_stage_36 : decode cL_stage 36 = .ok (.if_icmp .eq 5, 3) := by decide +kernel
theorem dL_stage_39 : decode cL_stage 39 = .ok (.iconst (-1), 1) := by decide +kernel
theorem dL_stage_40 : decode cL_stage 40 = .ok (.ireturn, 1) := by decide +kernel
theorem dL_stage_41 : decode cL_stage 41 = .ok (.iconst 0, 1) := by decide +kernel
theorem dL_stage_42 : decode cL_stage 42 = .ok (.istore 7, 2) := by decide +kernel
theorem dL_stage_44 : decode cL_stage 44 = .ok (.iload 7, 2) := by decide +kernel
theorem dL_stage_46 : decode cL_stage 46 = .ok (.iconst 3, 1) := by decide +kernel
theorem dL_stage_47 : decode cL_stage 47 = .ok (.if_icmp .ge 153, 3) := by decide +kernel
theorem dL_stage_50 : decode cL_stage 50 = .ok (.aload_n 1, 1) := by decide +kernel
theorem dL_stage_51 : decode cL_stage 51 = .ok (.iconst 2, 1) := by decide +kernel
theorem dL_stage_52 : decode cL_stage 52 = .ok (.iload 7, 2) := by decide +kernel
theorem dL_stage_54 : decode cL_stage 54 = .ok (.iadd, 1) := by decide +kernel
theorem dL_stage_55 : decode cL_stage 55 = .ok (.invokestatic 9, 3) := by decide +kernel
theorem dL_stage_58 : decode cL_stage 58 = .ok (.iconst 5, 1) := by decide +kernel
theorem dL_stage_59 : decode cL_stage 59 = .ok (.iload 6, 2) := by decide +kernel
theorem dL_stage_61 : decode cL_stage 61 = .ok (.imul, 1) := by decide +kernel
theorem dL_stage_62 : decode cL_stage 62 = .ok (.ishr, 1) := by decide +kernel
theorem dL_stage_63 : decode cL_stage 63 = .ok (.istore 8, 2) := by decide +kernel
theorem dL_stage_65 : decode cL_stage 65 = .ok (.iload 8, 2) := by decide +kernel
theorem dL_stage_67 : decode cL_stage 67 = .ok (.aload_n 2, 1) := by decide +kernel
theorem dL_stage_68 : decode cL_stage 68 = .ok (.iload 6, 2) := by decide +kernel
theorem dL_stage_70 : decode cL_stage 70 = .ok (.iaload, 1) := by decide +kernel
theorem dL_stage_71 : decode cL_stage 71 = .ok (.iconst 1, 1) := by decide +kernel
theorem dL_stage_72 : decode cL_stage 72 = .ok (.iadd, 1) := by decide +kernel
theorem dL_stage_73 : decode cL_stage 73 = .ok (.invokestatic 15, 3) := by decide +kernel
theorem dL_stage_76 : decode cL_stage 76 = .ok (.istore 9, 2) := by decide +kernel
theorem dL_stage_78 : decode cL_stage 78 = .ok (.bipush 60, 2) := by decide +kernel
theorem dL_stage_80 : decode cL_stage 80 = .ok (.newarray .int, 2) := by decide +kernel
theorem dL_stage_82 : decode cL_stage 82 = .ok (.astore 10, 2) := by decide +kernel
theorem dL_stage_84 : decode cL_stage 84 = .ok (.aload_n 3, 1) := by decide +kernel
theorem dL_stage_85 : decode cL_stage 85 = .ok (.bipush 60, 2) := by decide +kernel
theorem dL_stage_87 : decode cL_stage 87 = .ok (.iload 6, 2) := by decide +kernel
theorem dL_stage_89 : decode cL_stage 89 = .ok (.imul, 1) := by decide +kernel
theorem dL_stage_90 : decode cL_stage 90 = .ok (.aload 10, 2) := by decide +kernel
theorem dL_stage_92 : decode cL_stage 92 = .ok (.iconst 0, 1) := by decide +kernel
theorem dL_stage_93 : decode cL_stage 93 = .ok (.bipush 60, 2) := by decide +kernel
theorem dL_stage_95 : decode cL_stage 95 = .ok (.invokestatic 25, 3) := by decide +kernel
theorem dL_stage_98 : decode cL_stage 98 = .ok (.aload 4, 2) := by decide +kernel
theorem dL_stage_100 : decode cL_stage 100 = .ok (.iload 6, 2) := by decide +kernel
theorem dL_stage_102 : decode cL_stage 102 = .ok (.aload 10, 2) := by decide +kernel
theorem dL_stage_104 : decode cL_stage 104 = .ok (.aload 4, 2) := by decide +kernel
theorem dL_stage_106 : decode cL_stage 106 = .ok (.iload 6, 2) := by decide +kernel
theorem dL_stage_108 : decode cL_stage 108 = .ok (.iaload, 1) := by decide +kernel
theorem dL_stage_109 : decode cL_stage 109 = .ok (.iload 9, 2) := by decide +kernel
theorem dL_stage_111 : decode cL_stage 111 = .ok (.iload 8, 2) := by decide +kernel
theorem dL_stage_113 : decode cL_stage 113 = .ok (.iconst 3, 1) := by decide +kernel
theorem dL_stage_114 : decode cL_stage 114 = .ok (.ishr, 1) := by decide +kernel
theorem dL_stage_115 : decode cL_stage 115 = .ok (.sipush 401, 3) := by decide +kernel
theorem dL_stage_118 : decode cL_stage 118 = .ok (.invokestatic 15, 3) := by decide +kernel
theorem dL_stage_121 : decode cL_stage 121 = .ok (.sipush 200, 3) := by decide +kernel
theorem dL_stage_124 : decode cL_stage 124 = .ok (.isub, 1) := by decide +kernel
theorem dL_stage_125 : decode cL_stage 125 = .ok (.iload 8, 2) := by decide +kernel
theorem dL_stage_127 : decode cL_stage 127 = .ok (.bipush 7, 2) := by decide +kernel
theorem dL_stage_129 : decode cL_stage 129 = .ok (.ishr, 1) := by decide +kernel
theorem dL_stage_130 : decode cL_stage 130 = .ok (.iconst 5, 1) := by decide +kernel
theorem dL_stage_131 : decode cL_stage 131 = .ok (.invokestatic 15, 3) := by decide +kernel
theorem dL_stage_134 : decode cL_stage 134 = .ok (.invokestatic 31, 3) := by decide +kernel
theorem dL_stage_137 : decode cL_stage 137 = .ok (.iastore, 1) := by decide +kernel
theorem dL_stage_138 : decode cL_stage 138 = .ok (.aload 10, 2) := by decide +kernel
theorem dL_stage_140 : decode cL_stage 140 = .ok (.iconst 0, 1) := by decide +kernel
theorem dL_stage_141 : decode cL_stage 141 = .ok (.aload_n 3, 1) := by decide +kernel
theorem dL_stage_142 : decode cL_stage 142 = .ok (.bipush 60, 2) := by decide +kernel
theorem dL_stage_144 : decode cL_stage 144 = .ok (.iload 6, 2) := by decide +kernel
theorem dL_stage_146 : decode cL_stage 146 = .ok (.imul, 1) := by decide +kernel
theorem dL_stage_147 : decode cL_stage 147 = .ok (.bipush 60, 2) := by decide +kernel
theorem dL_stage_149 : decode cL_stage 149 = .ok (.invokestatic 25, 3) := by decide +kernel
theorem dL_stage_152 : decode cL_stage 152 = .ok (.aload_n 0, 1) := by decide +kernel
theorem dL_stage_153 : decode cL_stage 153 = .ok (.iload 6, 2) := by decide +kernel
theorem dL_stage_155 : decode cL_stage 155 = .ok (.iconst 1, 1) := by decide +kernel
theorem dL_stage_156 : decode cL_stage 156 = .ok (.iload 9, 2) := by decide +kernel
theorem dL_stage_158 : decode cL_stage 158 = .ok (.iload 8, 2) := by decide +kernel
theorem dL_stage_160 : decode cL_stage 160 = .ok (.iconst 3, 1) := by decide +kernel
theorem dL_stage_161 : decode cL_stage 161 = .ok (.ishr, 1) := by decide +kernel
theorem dL_stage_162 : decode cL_stage 162 = .ok (.sipush 401, 3) := by decide +kernel
theorem dL_stage_165 : decode cL_stage 165 = .ok (.invokestatic 15, 3) := by decide +kernel
theorem dL_stage_168 : decode cL_stage 168 = .ok (.sipush 200, 3) := by decide +kernel
theorem dL_stage_171 : decode cL_stage 171 = .ok (.isub, 1) := by decide +kernel
theorem dL_stage_172 : decode cL_stage 172 = .ok (.iload 8, 2) := by decide +kernel
theorem dL_stage_174 : decode cL_stage 174 = .ok (.bipush 7, 2) := by decide +kernel
theorem dL_stage_176 : decode cL_stage 176 = .ok (.ishr, 1) := by decide +kernel
theorem dL_stage_177 : decode cL_stage 177 = .ok (.iconst 5, 1) := by decide +kernel
theorem dL_stage_178 : decode cL_stage 178 = .ok (.invokestatic 15, 3) := by decide +kernel
theorem dL_stage_181 : decode cL_stage 181 = .ok (.invokevirtual 35, 3) := by decide +kernel
theorem dL_stage_184 : decode cL_stage 184 = .ok (.aload 4, 2) := by decide +kernel
theorem dL_stage_186 : decode cL_stage 186 = .ok (.iload 6, 2) := by decide +kernel
theorem dL_stage_188 : decode cL_stage 188 = .ok (.iaload, 1) := by decide +kernel
theorem dL_stage_189 : decode cL_stage 189 = .ok (.if_icmp .eq 5, 3) := by decide +kernel
theorem dL_stage_192 : decode cL_stage 192 = .ok (.iconst (-1), 1) := by decide +kernel
theorem dL_stage_193 : decode cL_stage 193 = .ok (.ireturn, 1) := by decide +kernel
theorem dL_stage_194 : decode cL_stage 194 = .ok (.iinc 7 1, 3) := by decide +kernel
theorem dL_stage_197 : decode cL_stage 197 = .ok (.goto (-153), 3) := by decide +kernel
theorem dL_stage_200 : decode cL_stage 200 = .ok (.iinc 6 1, 3) := by decide +kernel
theorem dL_stage_203 : decode cL_stage 203 = .ok (.goto (-200), 3) := by decide +kernel
theorem dL_stage_206 : decode cL_stage 206 = .ok (.iconst 1, 1) := by decide +kernel
theorem dL_stage_207 : decode cL_stage 207 = .ok (.aload_n 1, 1) := by decide +kernel
theorem dL_stage_208 : decode cL_stage 208 = .ok (.iconst 5, 1) := by decide +kernel
theorem dL_stage_209 : decode cL_stage 209 = .ok (.invokestatic 9, 3) := by decide +kernel
theorem dL_stage_212 : decode cL_stage 212 = .ok (.bipush 6, 2) := by decide +kernel
theorem dL_stage_214 : decode cL_stage 214 = .ok (.invokestatic 15, 3) := by decide +kernel
theorem dL_stage_217 : decode cL_stage 217 = .ok (.iadd, 1) := by decide +kernel
theorem dL_stage_218 : decode cL_stage 218 = .ok (.istore 6, 2) := by decide +kernel
theorem dL_stage_220 : decode cL_stage 220 = .ok (.iconst 0, 1) := by decide +kernel
theorem dL_stage_221 : decode cL_stage 221 = .ok (.istore 7, 2) := by decide +kernel
theorem dL_stage_223 : decode cL_stage 223 = .ok (.iload 7, 2) := by decide +kernel
theorem dL_stage_225 : decode cL_stage 225 = .ok (.iload 6, 2) := by decide +kernel
theorem dL_stage_227 : decode cL_stage 227 = .ok (.if_icmp .ge 400, 3) := by decide +kernel
theorem dL_stage_230 : decode cL_stage 230 = .ok (.aload_n 1, 1) := by decide +kernel
theorem dL_stage_231 : decode cL_stage 231 = .ok (.bipush 6, 2) := by decide +kernel
theorem dL_stage_233 : decode cL_stage 233 = .ok (.iload 7, 2) := by decide +kernel
theorem dL_stage_235 : decode cL_stage 235 = .ok (.iconst 4, 1) := by decide +kernel
theorem dL_stage_236 : decode cL_stage 236 = .ok (.irem, 1) := by decide +kernel
theorem dL_stage_237 : decode cL_stage 237 = .ok (.iadd, 1) := by decide +kernel
theorem dL_stage_238 : decode cL_stage 238 = .ok (.invokestatic 9, 3) := by decide +kernel
theorem dL_stage_241 : decode cL_stage 241 = .ok (.iload 7, 2) := by decide +kernel
theorem dL_stage_243 : decode cL_stage 243 = .ok (.sipush 911, 3) := by decide +kernel
theorem dL_stage_246 : decode cL_stage 246 = .ok (.imul, 1) := by decide +kernel
theorem dL_stage_247 : decode cL_stage 247 = .ok (.ixor, 1) := by decide +kernel
theorem dL_stage_248 : decode cL_stage 248 = .ok (.istore 8, 2) := by decide +kernel
theorem dL_stage_250 : decode cL_stage 250 = .ok (.aload_n 1, 1) := by decide +kernel
theorem dL_stage_251 : decode cL_stage 251 = .ok (.bipush 10, 2) := by decide +kernel
theorem dL_stage_253 : decode cL_stage 253 = .ok (.iload 7, 2) := by decide +kernel
theorem dL_stage_255 : decode cL_stage 255 = .ok (.iconst 3, 1) := by decide +kernel
theorem dL_stage_256 : decode cL_stage 256 = .ok (.irem, 1) := by decide +kernel
theorem dL_stage_257 : decode cL_stage 257 = .ok (.iadd, 1) := by decide +kernel
theorem dL_stage_258 : decode cL_stage 258 = .ok (.invokestatic 9, 3) := by decide +kernel
theorem dL_stage_261 : decode cL_stage 261 = .ok (.iload 7, 2) := by decide +kernel
theorem dL_stage_263 : decode cL_stage 263 = .ok (.sipush 3571, 3) := by decide +kernel
theorem dL_stage_266 : decode cL_stage 266 = .ok (.imul, 1) := by decide +kernel
theorem dL_stage_267 : decode cL_stage 267 = .ok (.ixor, 1) := by decide +kernel
theorem dL_stage_268 : decode cL_stage 268 = .ok (.istore 9, 2) := by decide +kernel
theorem dL_stage_270 : decode cL_stage 270 = .ok (.bipush 13, 2) := by decide +kernel
theorem dL_stage_272 : decode cL_stage 272 = .ok (.newarray .int, 2) := by decide +kernel
theorem dL_stage_274 : decode cL_stage 274 = .ok (.dup, 1) := by decide +kernel
theorem dL_stage_275 : decode cL_stage 275 = .ok (.iconst 0, 1) := by decide +kernel
theorem dL_stage_276 : decode cL_stage 276 = .ok (.iload 8, 2) := by decide +kernel
theorem dL_stage_278 : decode cL_stage 278 = .ok (.iconst 2, 1) := by decide +kernel
theorem dL_stage_279 : decode cL_stage 279 = .ok (.invokestatic 15, 3) := by decide +kernel
theorem dL_stage_282 : decode cL_stage 282 = .ok (.iastore, 1) := by decide +kernel
theorem dL_stage_283 : decode cL_stage 283 = .ok (.dup, 1) := by decide +kernel
theorem dL_stage_284 : decode cL_stage 284 = .ok (.iconst 1, 1) := by decide +kernel
theorem dL_stage_285 : decode cL_stage 285 = .ok (.iload 8, 2) := by decide +kernel
theorem dL_stage_287 : decode cL_stage 287 = .ok (.iconst 1, 1) := by decide +kernel
theorem dL_stage_288 : decode cL_stage 288 = .ok (.ishr, 1) := by decide +kernel
theorem dL_stage_289 : decode cL_stage 289 = .ok (.bipush 60, 2) := by decide +kernel
theorem dL_stage_291 : decode cL_stage 291 = .ok (.invokestatic 15, 3) := by decide +kernel
theorem dL_stage_294 : decode cL_stage 294 = .ok (.iastore, 1) := by decide +kernel
theorem dL_stage_295 : decode cL_stage 295 = .ok (.dup, 1) := by decide +kernel
theorem dL_stage_296 : decode cL_stage 296 = .ok (.iconst 2, 1) := by decide +kernel
theorem dL_stage_297 : decode cL_stage 297 = .ok (.iconst 0, 1) := by decide +kernel
theorem dL_stage_298 : decode cL_stage 298 = .ok (.iastore, 1) := by decide +kernel
theorem dL_stage_299 : decode cL_stage 299 = .ok (.dup, 1) := by decide +kernel
theorem dL_stage_300 : decode cL_stage 300 = .ok (.iconst 3, 1) := by decide +kernel
theorem dL_stage_301 : decode cL_stage 301 = .ok (.iconst 1, 1) := by decide +kernel
theorem dL_stage_302 : decode cL_stage 302 = .ok (.iload 8, 2) := by decide +kernel
theorem dL_stage_304 : decode cL_stage 304 = .ok (.bipush 7, 2) := by decide +kernel
theorem dL_stage_306 : decode cL_stage 306 = .ok (.ishr, 1) := by decide +kernel
theorem dL_stage_307 : decode cL_stage 307 = .ok (.iconst 4, 1) := by decide +kernel
theorem dL_stage_308 : decode cL_stage 308 = .ok (.invokestatic 15, 3) := by decide +kernel
theorem dL_stage_311 : decode cL_stage 311 = .ok (.iadd, 1) := by decide +kernel
theorem dL_stage_312 : decode cL_stage 312 = .ok (.iastore, 1) := by decide +kernel
theorem dL_stage_313 : decode cL_stage 313 = .ok (.dup, 1) := by decide +kernel
theorem dL_stage_314 : decode cL_stage 314 = .ok (.iconst 4, 1) := by decide +kernel
theorem dL_stage_315 : decode cL_stage 315 = .ok (.iload 8, 2) := by decide +kernel
theorem dL_stage_317 : decode cL_stage 317 = .ok (.bipush 10, 2) := by decide +kernel
theorem dL_stage_319 : decode cL_stage 319 = .ok (.ishr, 1) := by decide +kernel
theorem dL_stage_320 : decode cL_stage 320 = .ok (.iconst 3, 1) := by decide +kernel
theorem dL_stage_321 : decode cL_stage 321 = .ok (.invokestatic 15, 3) := by decide +kernel
theorem dL_stage_324 : decode cL_stage 324 = .ok (.iastore, 1) := by decide +kernel
theorem dL_stage_325 : decode cL_stage 325 = .ok (.dup, 1) := by decide +kernel
theorem dL_stage_326 : decode cL_stage 326 = .ok (.iconst 5, 1) := by decide +kernel
theorem dL_stage_327 : decode cL_stage 327 = .ok (.iconst 1, 1) := by decide +kernel
theorem dL_stage_328 : decode cL_stage 328 = .ok (.iload 8, 2) := by decide +kernel
theorem dL_stage_330 : decode cL_stage 330 = .ok (.bipush 12, 2) := by decide +kernel
theorem dL_stage_332 : decode cL_stage 332 = .ok (.ishr, 1) := by decide +kernel
theorem dL_stage_333 : decode cL_stage 333 = .ok (.bipush 9, 2) := by decide +kernel
theorem dL_stage_335 : decode cL_stage 335 = .ok (.invokestatic 15, 3) := by decide +kernel
theorem dL_stage_338 : decode cL_stage 338 = .ok (.iadd, 1) := by decide +kernel
theorem dL_stage_339 : decode cL_stage 339 = .ok (.iastore, 1) := by decide +kernel
theorem dL_stage_340 : decode cL_stage 340 = .ok (.dup, 1) := by decide +kernel
theorem dL_stage_341 : decode cL_stage 341 = .ok (.bipush 6, 2) := by decide +kernel
theorem dL_stage_343 : decode cL_stage 343 = .ok (.iconst 1, 1) := by decide +kernel
theorem dL_stage_344 : decode cL_stage 344 = .ok (.iload 8, 2) := by decide +kernel
theorem dL_stage_346 : decode cL_stage 346 = .ok (.bipush 15, 2) := by decide +kernel
theorem dL_stage_348 : decode cL_stage 348 = .ok (.ishr, 1) := by decide +kernel
theorem dL_stage_349 : decode cL_stage 349 = .ok (.bipush 9, 2) := by decide +kernel
theorem dL_stage_351 : decode cL_stage 351 = .ok (.invokestatic 15, 3) := by decide +kernel
theorem dL_stage_354 : decode cL_stage 354 = .ok (.iadd, 1) := by decide +kernel
theorem dL_stage_355 : decode cL_stage 355 = .ok (.iastore, 1) := by decide +kernel
theorem dL_stage_356 : decode cL_stage 356 = .ok (.dup, 1) := by decide +kernel
theorem dL_stage_357 : decode cL_stage 357 = .ok (.bipush 7, 2) := by decide +kernel
theorem dL_stage_359 : decode cL_stage 359 = .ok (.iload 9, 2) := by decide +kernel
theorem dL_stage_361 : decode cL_stage 361 = .ok (.iconst 3, 1) := by decide +kernel
theorem dL_stage_362 : decode cL_stage 362 = .ok (.invokestatic 15, 3) := by decide +kernel
theorem dL_stage_365 : decode cL_stage 365 = .ok (.iastore, 1) := by decide +kernel
theorem dL_stage_366 : decode cL_stage 366 = .ok (.dup, 1) := by decide +kernel
theorem dL_stage_367 : decode cL_stage 367 = .ok (.bipush 8, 2) := by decide +kernel
theorem dL_stage_369 : decode cL_stage 369 = .ok (.iload 9, 2) := by decide +kernel
theorem dL_stage_371 : decode cL_stage 371 = .ok (.iconst 2, 1) := by decide +kernel
theorem dL_stage_372 : decode cL_stage 372 = .ok (.ishr, 1) := by decide +kernel
theorem dL_stage_373 : decode cL_stage 373 = .ok (.bipush 101, 2) := by decide +kernel
theorem dL_stage_375 : decode cL_stage 375 = .ok (.invokestatic 15, 3) := by decide +kernel
theorem dL_stage_378 : decode cL_stage 378 = .ok (.iastore, 1) := by decide +kernel
theorem dL_stage_379 : decode cL_stage 379 = .ok (.dup, 1) := by decide +kernel
theorem dL_stage_380 : decode cL_stage 380 = .ok (.bipush 9, 2) := by decide +kernel
theorem dL_stage_382 : decode cL_stage 382 = .ok (.iload 9, 2) := by decide +kernel
theorem dL_stage_384 : decode cL_stage 384 = .ok (.bipush 9, 2) := by decide +kernel
theorem dL_stage_386 : decode cL_stage 386 = .ok (.ishr, 1) := by decide +kernel
theorem dL_stage_387 : decode cL_stage 387 = .ok (.iconst 2, 1) := by decide +kernel
theorem dL_stage_388 : decode cL_stage 388 = .ok (.invokestatic 15, 3) := by decide +kernel
theorem dL_stage_391 : decode cL_stage 391 = .ok (.iastore, 1) := by decide +kernel
theorem dL_stage_392 : decode cL_stage 392 = .ok (.dup, 1) := by decide +kernel
theorem dL_stage_393 : decode cL_stage 393 = .ok (.bipush 10, 2) := by decide +kernel
theorem dL_stage_395 : decode cL_stage 395 = .ok (.iload 9, 2) := by decide +kernel
theorem dL_stage_397 : decode cL_stage 397 = .ok (.bipush 10, 2) := by decide +kernel
theorem dL_stage_399 : decode cL_stage 399 = .ok (.ishr, 1) := by decide +kernel
theorem dL_stage_400 : decode cL_stage 400 = .ok (.iconst 4, 1) := by decide +kernel
theorem dL_stage_401 : decode cL_stage 401 = .ok (.invokestatic 15, 3) := by decide +kernel
theorem dL_stage_404 : decode cL_stage 404 = .ok (.iconst 3, 1) := by decide +kernel
theorem dL_stage_405 : decode cL_stage 405 = .ok (.idiv, 1) := by decide +kernel
theorem dL_stage_406 : decode cL_stage 406 = .ok (.iastore, 1) := by decide +kernel
theorem dL_stage_407 : decode cL_stage 407 = .ok (.dup, 1) := by decide +kernel
theorem dL_stage_408 : decode cL_stage 408 = .ok (.bipush 11, 2) := by decide +kernel
theorem dL_stage_410 : decode cL_stage 410 = .ok (.iload 9, 2) := by decide +kernel
theorem dL_stage_412 : decode cL_stage 412 = .ok (.bipush 12, 2) := by decide +kernel
theorem dL_stage_414 : decode cL_stage 414 = .ok (.ishr, 1) := by decide +kernel
theorem dL_stage_415 : decode cL_stage 415 = .ok (.iconst 3, 1) := by decide +kernel
theorem dL_stage_416 : decode cL_stage 416 = .ok (.invokestatic 15, 3) := by decide +kernel
theorem dL_stage_419 : decode cL_stage 419 = .ok (.bipush 20, 2) := by decide +kernel
theorem dL_stage_421 : decode cL_stage 421 = .ok (.imul, 1) := by decide +kernel
theorem dL_stage_422 : decode cL_stage 422 = .ok (.iastore, 1) := by decide +kernel
theorem dL_stage_423 : decode cL_stage 423 = .ok (.dup, 1) := by decide +kernel
theorem dL_stage_424 : decode cL_stage 424 = .ok (.bipush 12, 2) := by decide +kernel
theorem dL_stage_426 : decode cL_stage 426 = .ok (.iload 9, 2) := by decide +kernel
theorem dL_stage_428 : decode cL_stage 428 = .ok (.bipush 14, 2) := by decide +kernel
theorem dL_stage_430 : decode cL_stage 430 = .ok (.ishr, 1) := by decide +kernel
theorem dL_stage_431 : decode cL_stage 431 = .ok (.iconst 3, 1) := by decide +kernel
theorem dL_stage_432 : decode cL_stage 432 = .ok (.invokestatic 15, 3) := by decide +kernel
theorem dL_stage_435 : decode cL_stage 435 = .ok (.bipush 30, 2) := by decide +kernel
theorem dL_stage_437 : decode cL_stage 437 = .ok (.imul, 1) := by decide +kernel
theorem dL_stage_438 : decode cL_stage 438 = .ok (.iastore, 1) := by decide +kernel
theorem dL_stage_439 : decode cL_stage 439 = .ok (.astore 10, 2) := by decide +kernel
theorem dL_stage_441 : decode cL_stage 441 = .ok (.aload_n 0, 1) := by decide +kernel
theorem dL_stage_442 : decode cL_stage 442 = .ok (.aload 10, 2) := by decide +kernel
theorem dL_stage_444 : decode cL_stage 444 = .ok (.iconst 0, 1) := by decide +kernel
theorem dL_stage_445 : decode cL_stage 445 = .ok (.iaload, 1) := by decide +kernel
theorem dL_stage_446 : decode cL_stage 446 = .ok (.aload 10, 2) := by decide +kernel
theorem dL_stage_448 : decode cL_stage 448 = .ok (.iconst 1, 1) := by decide +kernel
theorem dL_stage_449 : decode cL_stage 449 = .ok (.iaload, 1) := by decide +kernel
theorem dL_stage_450 : decode cL_stage 450 = .ok (.aload 10, 2) := by decide +kernel
theorem dL_stage_452 : decode cL_stage 452 = .ok (.iconst 3, 1) := by decide +kernel
theorem dL_stage_453 : decode cL_stage 453 = .ok (.iaload, 1) := by decide +kernel
theorem dL_stage_454 : decode cL_stage 454 = .ok (.aload 10, 2) := by decide +kernel
theorem dL_stage_456 : decode cL_stage 456 = .ok (.iconst 4, 1) := by decide +kernel
theorem dL_stage_457 : decode cL_stage 457 = .ok (.iaload, 1) := by decide +kernel
theorem dL_stage_458 : decode cL_stage 458 = .ok (.invokevirtual 39, 3) := by decide +kernel
theorem dL_stage_461 : decode cL_stage 461 = .ok (.iload 7, 2) := by decide +kernel
theorem dL_stage_463 : decode cL_stage 463 = .ok (.if_icmp .eq 5, 3) := by decide +kernel
theorem dL_stage_466 : decode cL_stage 466 = .ok (.iconst (-1), 1) := by decide +kernel
theorem dL_stage_467 : decode cL_stage 467 = .ok (.ireturn, 1) := by decide +kernel
theorem dL_stage_468 : decode cL_stage 468 = .ok (.aload_n 0, 1) := by decide +kernel
theorem dL_stage_469 : decode cL_stage 469 = .ok (.iload 7, 2) := by decide +kernel
theorem dL_stage_471 : decode cL_stage 471 = .ok (.aload 10, 2) := by decide +kernel
theorem dL_stage_473 : decode cL_stage 473 = .ok (.iconst 5, 1) := by decide +kernel
theorem dL_stage_474 : decode cL_stage 474 = .ok (.iaload, 1) := by decide +kernel
theorem dL_stage_475 : decode cL_stage 475 = .ok (.aload 10, 2) := by decide +kernel
theorem dL_stage_477 : decode cL_stage 477 = .ok (.bipush 6, 2) := by decide +kernel
theorem dL_stage_479 : decode cL_stage 479 = .ok (.iaload, 1) := by decide +kernel
theorem dL_stage_480 : decode cL_stage 480 = .ok (.invokevirtual 43, 3) := by decide +kernel
theorem dL_stage_483 : decode cL_stage 483 = .ok (.pop, 1) := by decide +kernel
theorem dL_stage_484 : decode cL_stage 484 = .ok (.aload_n 0, 1) := by decide +kernel
theorem dL_stage_485 : decode cL_stage 485 = .ok (.iload 7, 2) := by decide +kernel
theorem dL_stage_487 : decode cL_stage 487 = .ok (.aload 10, 2) := by decide +kernel
theorem dL_stage_489 : decode cL_stage 489 = .ok (.bipush 7, 2) := by decide +kernel
theorem dL_stage_491 : decode cL_stage 491 = .ok (.iaload, 1) := by decide +kernel
theorem dL_stage_492 : decode cL_stage 492 = .ok (.aload 10, 2) := by decide +kernel
theorem dL_stage_494 : decode cL_stage 494 = .ok (.bipush 8, 2) := by decide +kernel
theorem dL_stage_496 : decode cL_stage 496 = .ok (.iaload, 1) := by decide +kernel
theorem dL_stage_497 : decode cL_stage 497 = .ok (.aload 10, 2) := by decide +kernel
theorem dL_stage_499 : decode cL_stage 499 = .ok (.bipush 9, 2) := by decide +kernel
theorem dL_stage_501 : decode cL_stage 501 = .ok (.iaload, 1) := by decide +kernel
theorem dL_stage_502 : decode cL_stage 502 = .ok (.iconst 1, 1) := by decide +kernel
theorem dL_stage_503 : decode cL_stage 503 = .ok (.if_icmp .ne 7, 3) := by decide +kernel
theorem dL_stage_506 : decode cL_stage 506 = .ok (.iconst 1, 1) := by decide +kernel
theorem dL_stage_507 : decode cL_stage 507 = .ok (.goto 4, 3) := by decide +kernel
theorem dL_stage_510 : decode cL_stage 510 = .ok (.iconst 0, 1) := by decide +kernel
theorem dL_stage_511 : decode cL_stage 511 = .ok (.aload 10, 2) := by decide +kernel
theorem dL_stage_513 : decode cL_stage 513 = .ok (.bipush 10, 2) := by decide +kernel
theorem dL_stage_515 : decode cL_stage 515 = .ok (.iaload, 1) := by decide +kernel
theorem dL_stage_516 : decode cL_stage 516 = .ok (.iconst 1, 1) := by decide +kernel
theorem dL_stage_517 : decode cL_stage 517 = .ok (.if_icmp .ne 7, 3) := by decide +kernel
theorem dL_stage_520 : decode cL_stage 520 = .ok (.iconst 1, 1) := by decide +kernel
theorem dL_stage_521 : decode cL_stage 521 = .ok (.goto 4, 3) := by decide +kernel
theorem dL_stage_524 : decode cL_stage 524 = .ok (.iconst 0, 1) := by decide +kernel
theorem dL_stage_525 : decode cL_stage 525 = .ok (.invokevirtual 47, 3) := by decide +kernel
theorem dL_stage_528 : decode cL_stage 528 = .ok (.ifCond .ne 22, 3) := by decide +kernel
theorem dL_stage_531 : decode cL_stage 531 = .ok (.aload_n 0, 1) := by decide +kernel
theorem dL_stage_532 : decode cL_stage 532 = .ok (.iload 7, 2) := by decide +kernel
theorem dL_stage_534 : decode cL_stage 534 = .ok (.aload 10, 2) := by decide +kernel
theorem dL_stage_536 : decode cL_stage 536 = .ok (.bipush 11, 2) := by decide +kernel
theorem dL_stage_538 : decode cL_stage 538 = .ok (.iaload, 1) := by decide +kernel
theorem dL_stage_539 : decode cL_stage 539 = .ok (.aload 10, 2) := by decide +kernel
theorem dL_stage_541 : decode cL_stage 541 = .ok (.bipush 12, 2) := by decide +kernel
theorem dL_stage_543 : decode cL_stage 543 = .ok (.iaload, 1) := by decide +kernel
theorem dL_stage_544 : decode cL_stage 544 = .ok (.invokevirtual 51, 3) := by decide +kernel
theorem dL_stage_547 : decode cL_stage 547 = .ok (.ifCond .eq 5, 3) := by decide +kernel
theorem dL_stage_550 : decode cL_stage 550 = .ok (.iconst (-1), 1) := by decide +kernel
theorem dL_stage_551 : decode cL_stage 551 = .ok (.ireturn, 1) := by decide +kernel
theorem dL_stage_552 : decode cL_stage 552 = .ok (.aload_n 2, 1) := by decide +kernel
theorem dL_stage_553 : decode cL_stage 553 = .ok (.aload 10, 2) := by decide +kernel
theorem dL_stage_555 : decode cL_stage 555 = .ok (.iconst 0, 1) := by decide +kernel
theorem dL_stage_556 : decode cL_stage 556 = .ok (.iaload, 1) := by decide +kernel
theorem dL_stage_557 : decode cL_stage 557 = .ok (.iaload, 1) := by decide +kernel
theorem dL_stage_558 : decode cL_stage 558 = .ok (.aload 10, 2) := by decide +kernel
theorem dL_stage_560 : decode cL_stage 560 = .ok (.iconst 3, 1) := by decide +kernel
theorem dL_stage_561 : decode cL_stage 561 = .ok (.iaload, 1) := by decide +kernel
theorem dL_stage_562 : decode cL_stage 562 = .ok (.imul, 1) := by decide +kernel
theorem dL_stage_563 : decode cL_stage 563 = .ok (.istore 11, 2) := by decide +kernel
theorem dL_stage_565 : decode cL_stage 565 = .ok (.aload 10, 2) := by decide +kernel
theorem dL_stage_567 : decode cL_stage 567 = .ok (.iconst 1, 1) := by decide +kernel
theorem dL_stage_568 : decode cL_stage 568 = .ok (.iaload, 1) := by decide +kernel
theorem dL_stage_569 : decode cL_stage 569 = .ok (.istore 12, 2) := by decide +kernel
theorem dL_stage_571 : decode cL_stage 571 = .ok (.iload 12, 2) := by decide +kernel
theorem dL_stage_573 : decode cL_stage 573 = .ok (.aload 10, 2) := by decide +kernel
theorem dL_stage_575 : decode cL_stage 575 = .ok (.iconst 1, 1) := by decide +kernel
theorem dL_stage_576 : decode cL_stage 576 = .ok (.iaload, 1) := by decide +kernel
theorem dL_stage_577 : decode cL_stage 577 = .ok (.isub, 1) := by decide +kernel
theorem dL_stage_578 : decode cL_stage 578 = .ok (.aload 10, 2) := by decide +kernel
theorem dL_stage_580 : decode cL_stage 580 = .ok (.iconst 5, 1) := by decide +kernel
theorem dL_stage_581 : decode cL_stage 581 = .ok (.iaload, 1) := by decide +kernel
theorem dL_stage_582 : decode cL_stage 582 = .ok (.imul, 1) := by decide +kernel
theorem dL_stage_583 : decode cL_stage 583 = .ok (.iload 11, 2) := by decide +kernel
theorem dL_stage_585 : decode cL_stage 585 = .ok (.aload 10, 2) := by decide +kernel
theorem dL_stage_587 : decode cL_stage 587 = .ok (.bipush 6, 2) := by decide +kernel
theorem dL_stage_589 : decode cL_stage 589 = .ok (.iaload, 1) := by decide +kernel
theorem dL_stage_590 : decode cL_stage 590 = .ok (.imul, 1) := by decide +kernel
theorem dL_stage_591 : decode cL_stage 591 = .ok (.if_icmp .ge 9, 3) := by decide +kernel
theorem dL_stage_594 : decode cL_stage 594 = .ok (.iinc 12 1, 3) := by decide +kernel
theorem dL_stage_597 : decode cL_stage 597 = .ok (.goto (-26), 3) := by decide +kernel
theorem dL_stage_600 : decode cL_stage 600 = .ok (.aload 10, 2) := by decide +kernel
theorem dL_stage_602 : decode cL_stage 602 = .ok (.iconst 2, 1) := by decide +kernel
theorem dL_stage_603 : decode cL_stage 603 = .ok (.iload 12, 2) := by decide +kernel
theorem dL_stage_605 : decode cL_stage 605 = .ok (.iastore, 1) := by decide +kernel
theorem dL_stage_606 : decode cL_stage 606 = .ok (.aload 10, 2) := by decide +kernel
theorem dL_stage_608 : decode cL_stage 608 = .ok (.iconst 0, 1) := by decide +kernel
theorem dL_stage_609 : decode cL_stage 609 = .ok (.aload 5, 2) := by decide +kernel
theorem dL_stage_611 : decode cL_stage 611 = .ok (.bipush 13, 2) := by decide +kernel
theorem dL_stage_613 : decode cL_stage 613 = .ok (.iload 7, 2) := by decide +kernel
theorem dL_stage_615 : decode cL_stage 615 = .ok (.imul, 1) := by decide +kernel
theorem dL_stage_616 : decode cL_stage 616 = .ok (.bipush 13, 2) := by decide +kernel
theorem dL_stage_618 : decode cL_stage 618 = .ok (.invokestatic 25, 3) := by decide +kernel
theorem dL_stage_621 : decode cL_stage 621 = .ok (.iinc 7 1, 3) := by decide +kernel
theorem dL_stage_624 : decode cL_stage 624 = .ok (.goto (-401), 3) := by decide +kernel
theorem dL_stage_627 : decode cL_stage 627 = .ok (.iload 6, 2) := by decide +kernel
theorem dL_stage_629 : decode cL_stage 629 = .ok (.ireturn, 1) := by decide +kernel
theorem dL_law_0 : decode cL_law 0 = .ok (.new 20, 3) := by decide +kernel
theorem dL_law_3 : decode cL_law 3 = .ok (.dup, 1) := by decide +kernel
theorem dL_law_4 : decode cL_law 4 = .ok (.invokespecial 54, 3) := by decide +kernel
theorem dL_law_7 : decode cL_law 7 = .ok (.astore_n 1, 1) := by decide +kernel
theorem dL_law_8 : decode cL_law 8 = .ok (.iconst 2, 1) := by decide +kernel
theorem dL_law_9 : decode cL_law 9 = .ok (.newarray .int, 2) := by decide +kernel
theorem dL_law_11 : decode cL_law 11 = .ok (.astore_n 2, 1) := by decide +kernel
theorem dL_law_12 : decode cL_law 12 = .ok (.sipush 130, 3) := by decide +kernel
theorem dL_law_15 : decode cL_law 15 = .ok (.newarray .int, 2) := by decide +kernel
theorem dL_law_17 : decode cL_law 17 = .ok (.astore_n 3, 1) := by decide +kernel
theorem dL_law_18 : decode cL_law 18 = .ok (.aload_n 1, 1) := by decide +kernel
theorem dL_law_19 : decode cL_law 19 = .ok (.aload_n 0, 1) := by decide +kernel
theorem dL_law_20 : decode cL_law 20 = .ok (.aload_n 2, 1) := by decide +kernel
theorem dL_law_21 : decode cL_law 21 = .ok (.bipush 120, 2) := by decide +kernel
theorem dL_law_23 : decode cL_law 23 = .ok (.newarray .int, 2) := by decide +kernel
theorem dL_law_25 : decode cL_law 25 = .ok (.iconst 2, 1) := by decide +kernel
theorem dL_law_26 : decode cL_law 26 = .ok (.newarray .int, 2) := by decide +kernel
theorem dL_law_28 : decode cL_law 28 = .ok (.aload_n 3, 1) := by decide +kernel
theorem dL_law_29 : decode cL_law 29 = .ok (.invokestatic 55, 3) := by decide +kernel
theorem dL_law_32 : decode cL_law 32 = .ok (.istore 4, 2) := by decide +kernel
theorem dL_law_34 : decode cL_law 34 = .ok (.iload 4, 2) := by decide +kernel
theorem dL_law_36 : decode cL_law 36 = .ok (.ifCond .ge 5, 3) := by decide +kernel
theorem dL_law_39 : decode cL_law 39 = .ok (.iconst 0, 1) := by decide +kernel
theorem dL_law_40 : decode cL_law 40 = .ok (.ireturn, 1) := by decide +kernel
theorem dL_law_41 : decode cL_law 41 = .ok (.iconst 0, 1) := by decide +kernel
theorem dL_law_42 : decode cL_law 42 = .ok (.istore 5, 2) := by decide +kernel
theorem dL_law_44 : decode cL_law 44 = .ok (.iload 5, 2) := by decide +kernel
theorem dL_law_46 : decode cL_law 46 = .ok (.iconst 5, 1) := by decide +kernel
theorem dL_law_47 : decode cL_law 47 = .ok (.if_icmp .ge 42, 3) := by decide +kernel
theorem dL_law_50 : decode cL_law 50 = .ok (.aload_n 1, 1) := by decide +kernel
theorem dL_law_51 : decode cL_law 51 = .ok (.iload 5, 2) := by decide +kernel
theorem dL_law_53 : decode cL_law 53 = .ok (.iconst 2, 1) := by decide +kernel
theorem dL_law_54 : decode cL_law 54 = .ok (.irem, 1) := by decide +kernel
theorem dL_law_55 : decode cL_law 55 = .ok (.aload_n 0, 1) := by decide +kernel
theorem dL_law_56 : decode cL_law 56 = .ok (.bipush 13, 2) := by decide +kernel
theorem dL_law_58 : decode cL_law 58 = .ok (.invokestatic 9, 3) := by decide +kernel
theorem dL_law_61 : decode cL_law 61 = .ok (.iconst 3, 1) := by decide +kernel
theorem dL_law_62 : decode cL_law 62 = .ok (.iload 5, 2) := by decide +kernel
theorem dL_law_64 : decode cL_law 64 = .ok (.imul, 1) := by decide +kernel
theorem dL_law_65 : decode cL_law 65 = .ok (.ishr, 1) := by decide +kernel
theorem dL_law_66 : decode cL_law 66 = .ok (.aload_n 2, 1) := by decide +kernel
theorem dL_law_67 : decode cL_law 67 = .ok (.iload 5, 2) := by decide +kernel
theorem dL_law_69 : decode cL_law 69 = .ok (.iconst 2, 1) := by decide +kernel
theorem dL_law_70 : decode cL_law 70 = .ok (.irem, 1) := by decide +kernel
theorem dL_law_71 : decode cL_law 71 = .ok (.iaload, 1) := by decide +kernel
theorem dL_law_72 : decode cL_law 72 = .ok (.iconst 1, 1) := by decide +kernel
theorem dL_law_73 : decode cL_law 73 = .ok (.iadd, 1) := by decide +kernel
theorem dL_law_74 : decode cL_law 74 = .ok (.invokestatic 15, 3) := by decide +kernel
theorem dL_law_77 : decode cL_law 77 = .ok (.iload 5, 2) := by decide +kernel
theorem dL_law_79 : decode cL_law 79 = .ok (.invokevirtual 59, 3) := by decide +kernel
theorem dL_law_82 : decode cL_law 82 = .ok (.pop, 1) := by decide +kernel
theorem dL_law_83 : decode cL_law 83 = .ok (.iinc 5 1, 3) := by decide +kernel
theorem dL_law_86 : decode cL_law 86 = .ok (.goto (-42), 3) := by decide +kernel
theorem dL_law_89 : decode cL_law 89 = .ok (.iconst 0, 1) := by decide +kernel
theorem dL_law_90 : decode cL_law 90 = .ok (.istore 5, 2) := by decide +kernel
theorem dL_law_92 : decode cL_law 92 = .ok (.iload 5, 2) := by decide +kernel
theorem dL_law_94 : decode cL_law 94 = .ok (.iconst 2, 1) := by decide +kernel
theorem dL_law_95 : decode cL_law 95 = .ok (.if_icmp .ge 277, 3) := by decide +kernel
theorem dL_law_98 : decode cL_law 98 = .ok (.aload_n 1, 1) := by decide +kernel
theorem dL_law_99 : decode cL_law 99 = .ok (.iload 5, 2) := by decide +kernel
theorem dL_law_101 : decode cL_law 101 = .ok (.iconst 1, 1) := by decide +kernel
theorem dL_law_102 : decode cL_law 102 = .ok (.invokevirtual 62, 3) := by decide +kernel
theorem dL_law_105 : decode cL_law 105 = .ok (.istore 6, 2) := by decide +kernel
theorem dL_law_107 : decode cL_law 107 = .ok (.ldc 65, 2) := by decide +kernel
theorem dL_law_109 : decode cL_law 109 = .ok (.istore 7, 2) := by decide +kernel
theorem dL_law_111 : decode cL_law 111 = .ok (.ldc 66, 2) := by decide +kernel
theorem dL_law_113 : decode cL_law 113 = .ok (.istore 8, 2) := by decide +kernel
theorem dL_law_115 : decode cL_law 115 = .ok (.iconst 3, 1) := by decide +kernel
theorem dL_law_116 : decode cL_law 116 = .ok (.iload 6, 2) := by decide +kernel
theorem dL_law_118 : decode cL_law 118 = .ok (.imul, 1) := by decide +kernel
theorem dL_law_119 : decode cL_law 119 = .ok (.newarray .int, 2) := by decide +kernel
theorem dL_law_121 : decode cL_law 121 = .ok (.astore 9, 2) := by decide +kernel
theorem dL_law_123 : decode cL_law 123 = .ok (.iconst 0, 1) := by decide +kernel
theorem dL_law_124 : decode cL_law 124 = .ok (.istore 10, 2) := by decide +kernel
theorem dL_law_126 : decode cL_law 126 = .ok (.iload 10, 2) := by decide +kernel
theorem dL_law_128 : decode cL_law 128 = .ok (.iconst 3, 1) := by decide +kernel
theorem dL_law_129 : decode cL_law 129 = .ok (.iload 6, 2) := by decide +kernel
theorem dL_law_131 : decode cL_law 131 = .ok (.imul, 1) := by decide +kernel
theorem dL_law_132 : decode cL_law 132 = .ok (.if_icmp .ge 69, 3) := by decide +kernel
theorem dL_law_135 : decode cL_law 135 = .ok (.aload 9, 2) := by decide +kernel
theorem dL_law_137 : decode cL_law 137 = .ok (.iload 10, 2) := by decide +kernel
theorem dL_law_139 : decode cL_law 139 = .ok (.aload_n 1, 1) := by decide +kernel
theorem dL_law_140 : decode cL_law 140 = .ok (.iload 5, 2) := by decide +kernel
theorem dL_law_142 : decode cL_law 142 = .ok (.iconst 1, 1) := by decide +kernel
theorem dL_law_143 : decode cL_law 143 = .ok (.iload 10, 2) := by decide +kernel
theorem dL_law_145 : decode cL_law 145 = .ok (.iconst 3, 1) := by decide +kernel
theorem dL_law_146 : decode cL_law 146 = .ok (.idiv, 1) := by decide +kernel
theorem dL_law_147 : decode cL_law 147 = .ok (.iload 10, 2) := by decide +kernel
theorem dL_law_149 : decode cL_law 149 = .ok (.iconst 3, 1) := by decide +kernel
theorem dL_law_150 : decode cL_law 150 = .ok (.irem, 1) := by decide +kernel
theorem dL_law_151 : decode cL_law 151 = .ok (.invokevirtual 67, 3) := by decide +kernel
theorem dL_law_154 : decode cL_law 154 = .ok (.iastore, 1) := by decide +kernel
theorem dL_law_155 : decode cL_law 155 = .ok (.iload 10, 2) := by decide +kernel
theorem dL_law_157 : decode cL_law 157 = .ok (.iconst 3, 1) := by decide +kernel
theorem dL_law_158 : decode cL_law 158 = .ok (.irem, 1) := by decide +kernel
theorem dL_law_159 : decode cL_law 159 = .ok (.iconst 1, 1) := by decide +kernel
theorem dL_law_160 : decode cL_law 160 = .ok (.if_icmp .ne 15, 3) := by decide +kernel
theorem dL_law_163 : decode cL_law 163 = .ok (.iload 7, 2) := by decide +kernel
theorem dL_law_165 : decode cL_law 165 = .ok (.aload 9, 2) := by decide +kernel
theorem dL_law_167 : decode cL_law 167 = .ok (.iload 10, 2) := by decide +kernel
theorem dL_law_169 : decode cL_law 169 = .ok (.iaload, 1) := by decide +kernel
theorem dL_law_170 : decode cL_law 170 = .ok (.invokestatic 70, 3) := by decide +kernel
theorem dL_law_173 : decode cL_law 173 = .ok (.istore 7, 2) := by decide +kernel
theorem dL_law_175 : decode cL_law 175 = .ok (.iload 10, 2) := by decide +kernel
theorem dL_law_177 : decode cL_law 177 = .ok (.iconst 3, 1) := by decide +kernel
theorem dL_law_178 : decode cL_law 178 = .ok (.irem, 1) := by decide +kernel
theorem dL_law_179 : decode cL_law 179 = .ok (.iconst 1, 1) := by decide +kernel
theorem dL_law_180 : decode cL_law 180 = .ok (.if_icmp .ne 15, 3) := by decide +kernel
theorem dL_law_183 : decode cL_law 183 = .ok (.iload 8, 2) := by decide +kernel
theorem dL_law_185 : decode cL_law 185 = .ok (.aload 9, 2) := by decide +kernel
theorem dL_law_187 : decode cL_law 187 = .ok (.iload 10, 2) := by decide +kernel
theorem dL_law_189 : decode cL_law 189 = .ok (.iaload, 1) := by decide +kernel
theorem dL_law_190 : decode cL_law 190 = .ok (.invokestatic 75, 3) := by decide +kernel
theorem dL_law_193 : decode cL_law 193 = .ok (.istore 8, 2) := by decide +kernel
theorem dL_law_195 : decode cL_law 195 = .ok (.iinc 10 1, 3) := by decide +kernel
theorem dL_law_198 : decode cL_law 198 = .ok (.goto (-72), 3) := by decide +kernel
theorem dL_law_201 : decode cL_law 201 = .ok (.iconst 0, 1) := by decide +kernel
theorem dL_law_202 : decode cL_law 202 = .ok (.istore 10, 2) := by decide +kernel
theorem dL_law_204 : decode cL_law 204 = .ok (.iload 10, 2) := by decide +kernel
theorem dL_law_206 : decode cL_law 206 = .ok (.aload_n 2, 1) := by decide +kernel
theorem dL_law_207 : decode cL_law 207 = .ok (.iload 5, 2) := by decide +kernel
theorem dL_law_209 : decode cL_law 209 = .ok (.iaload, 1) := by decide +kernel
theorem dL_law_210 : decode cL_law 210 = .ok (.if_icmp .gt 39, 3) := by decide +kernel
theorem dL_law_213 : decode cL_law 213 = .ok (.aload_n 1, 1) := by decide +kernel
theorem dL_law_214 : decode cL_law 214 = .ok (.iload 5, 2) := by decide +kernel
theorem dL_law_216 : decode cL_law 216 = .ok (.iconst 1, 1) := by decide +kernel
theorem dL_law_217 : decode cL_law 217 = .ok (.iload 10, 2) := by decide +kernel
theorem dL_law_219 : decode cL_law 219 = .ok (.invokevirtual 78, 3) := by decide +kernel
theorem dL_law_222 : decode cL_law 222 = .ok (.iload 7, 2) := by decide +kernel
theorem dL_law_224 : decode cL_law 224 = .ok (.if_icmp .lt 17, 3) := by decide +kernel
theorem dL_law_227 : decode cL_law 227 = .ok (.aload_n 1, 1) := by decide +kernel
theorem dL_law_228 : decode cL_law 228 = .ok (.iload 5, 2) := by decide +kernel
theorem dL_law_230 : decode cL_law 230 = .ok (.iconst 1, 1) := by decide +kernel
theorem dL_law_231 : decode cL_law 231 = .ok (.iload 10, 2) := by decide +kernel
theorem dL_law_233 : decode cL_law 233 = .ok (.invokevirtual 78, 3) := by decide +kernel
theorem dL_law_236 : decode cL_law 236 = .ok (.iload 8, 2) := by decide +kernel
theorem dL_law_238 : decode cL_law 238 = .ok (.if_icmp .le 5, 3) := by decide +kernel
theorem dL_law_241 : decode cL_law 241 = .ok (.iconst 0, 1) := by decide +kernel
theorem dL_law_242 : decode cL_law 242 = .ok (.ireturn, 1) := by decide +kernel
theorem dL_law_243 : decode cL_law 243 = .ok (.iinc 10 1, 3) := by decide +kernel
theorem dL_law_246 : decode cL_law 246 = .ok (.goto (-42), 3) := by decide +kernel
theorem dL_law_249 : decode cL_law 249 = .ok (.aload_n 1, 1) := by decide +kernel
theorem dL_law_250 : decode cL_law 250 = .ok (.iload 5, 2) := by decide +kernel
theorem dL_law_252 : decode cL_law 252 = .ok (.invokevirtual 81, 3) := by decide +kernel
theorem dL_law_255 : decode cL_law 255 = .ok (.pop, 1) := by decide +kernel
theorem dL_law_256 : decode cL_law 256 = .ok (.aload_n 1, 1) := by decide +kernel
theorem dL_law_257 : decode cL_law 257 = .ok (.iload 5, 2) := by decide +kernel
theorem dL_law_259 : decode cL_law 259 = .ok (.iconst 1, 1) := by decide +kernel
theorem dL_law_260 : decode cL_law 260 = .ok (.iconst 0, 1) := by decide +kernel
theorem dL_law_261 : decode cL_law 261 = .ok (.invokevirtual 78, 3) := by decide +kernel
theorem dL_law_264 : decode cL_law 264 = .ok (.aload 9, 2) := by decide +kernel
theorem dL_law_266 : decode cL_law 266 = .ok (.iconst 3, 1) := by decide +kernel
theorem dL_law_267 : decode cL_law 267 = .ok (.iload 6, 2) := by decide +kernel
theorem dL_law_269 : decode cL_law 269 = .ok (.imul, 1) := by decide +kernel
theorem dL_law_270 : decode cL_law 270 = .ok (.iconst 2, 1) := by decide +kernel
theorem dL_law_271 : decode cL_law 271 = .ok (.isub, 1) := by decide +kernel
theorem dL_law_272 : decode cL_law 272 = .ok (.iaload, 1) := by decide +kernel
theorem dL_law_273 : decode cL_law 273 = .ok (.if_icmp .ne 21, 3) := by decide +kernel
theorem dL_law_276 : decode cL_law 276 = .ok (.aload_n 1, 1) := by decide +kernel
theorem dL_law_277 : decode cL_law 277 = .ok (.iload 5, 2) := by decide +kernel
theorem dL_law_279 : decode cL_law 279 = .ok (.iconst 1, 1) := by decide +kernel
theorem dL_law_280 : decode cL_law 280 = .ok (.aload_n 2, 1) := by decide +kernel
theorem dL_law_281 : decode cL_law 281 = .ok (.iload 5, 2) := by decide +kernel
theorem dL_law_283 : decode cL_law 283 = .ok (.iaload, 1) := by decide +kernel
theorem dL_law_284 : decode cL_law 284 = .ok (.invokevirtual 78, 3) := by decide +kernel
theorem dL_law_287 : decode cL_law 287 = .ok (.aload 9, 2) := by decide +kernel
theorem dL_law_289 : decode cL_law 289 = .ok (.iconst 1, 1) := by decide +kernel
theorem dL_law_290 : decode cL_law 290 = .ok (.iaload, 1) := by decide +kernel
theorem dL_law_291 : decode cL_law 291 = .ok (.if_icmp .eq 5, 3) := by decide +kernel
theorem dL_law_294 : decode cL_law 294 = .ok (.iconst 0, 1) := by decide +kernel
theorem dL_law_295 : decode cL_law 295 = .ok (.ireturn, 1) := by decide +kernel
theorem dL_law_296 : decode cL_law 296 = .ok (.aload_n 1, 1) := by decide +kernel
theorem dL_law_297 : decode cL_law 297 = .ok (.iload 5, 2) := by decide +kernel
theorem dL_law_299 : decode cL_law 299 = .ok (.invokevirtual 81, 3) := by decide +kernel
theorem dL_law_302 : decode cL_law 302 = .ok (.pop, 1) := by decide +kernel
theorem dL_law_303 : decode cL_law 303 = .ok (.iconst 0, 1) := by decide +kernel
theorem dL_law_304 : decode cL_law 304 = .ok (.istore 10, 2) := by decide +kernel
theorem dL_law_306 : decode cL_law 306 = .ok (.iload 10, 2) := by decide +kernel
theorem dL_law_308 : decode cL_law 308 = .ok (.iconst 3, 1) := by decide +kernel
theorem dL_law_309 : decode cL_law 309 = .ok (.iload 6, 2) := by decide +kernel
theorem dL_law_311 : decode cL_law 311 = .ok (.imul, 1) := by decide +kernel
theorem dL_law_312 : decode cL_law 312 = .ok (.iconst 1, 1) := by decide +kernel
theorem dL_law_313 : decode cL_law 313 = .ok (.isub, 1) := by decide +kernel
theorem dL_law_314 : decode cL_law 314 = .ok (.if_icmp .ge 34, 3) := by decide +kernel
theorem dL_law_317 : decode cL_law 317 = .ok (.aload_n 1, 1) := by decide +kernel
theorem dL_law_318 : decode cL_law 318 = .ok (.iload 5, 2) := by decide +kernel
theorem dL_law_320 : decode cL_law 320 = .ok (.iconst 1, 1) := by decide +kernel
theorem dL_law_321 : decode cL_law 321 = .ok (.iload 10, 2) := by decide +kernel
theorem dL_law_323 : decode cL_law 323 = .ok (.iconst 3, 1) := by decide +kernel
theorem dL_law_324 : decode cL_law 324 = .ok (.idiv, 1) := by decide +kernel
theorem dL_law_325 : decode cL_law 325 = .ok (.iload 10, 2) := by decide +kernel
theorem dL_law_327 : decode cL_law 327 = .ok (.iconst 3, 1) := by decide +kernel
theorem dL_law_328 : decode cL_law 328 = .ok (.irem, 1) := by decide +kernel
theorem dL_law_329 : decode cL_law 329 = .ok (.invokevirtual 67, 3) := by decide +kernel
theorem dL_law_332 : decode cL_law 332 = .ok (.aload 9, 2) := by decide +kernel
theorem dL_law_334 : decode cL_law 334 = .ok (.iload 10, 2) := by decide +kernel
theorem dL_law_336 : decode cL_law 336 = .ok (.iaload, 1) := by decide +kernel
theorem dL_law_337 : decode cL_law 337 = .ok (.if_icmp .eq 5, 3) := by decide +kernel
theorem dL_law_340 : decode cL_law 340 = .ok (.iconst 0, 1) := by decide +kernel
theorem dL_law_341 : decode cL_law 341 = .ok (.ireturn, 1) := by decide +kernel
theorem dL_law_342 : decode cL_law 342 = .ok (.iinc 10 1, 3) := by decide +kernel
theorem dL_law_345 : decode cL_law 345 = .ok (.goto (-39), 3) := by decide +kernel
theorem dL_law_348 : decode cL_law 348 = .ok (.aload_n 1, 1) := by decide +kernel
theorem dL_law_349 : decode cL_law 349 = .ok (.iload 5, 2) := by decide +kernel
theorem dL_law_351 : decode cL_law 351 = .ok (.iconst 1, 1) := by decide +kernel
theorem dL_law_352 : decode cL_law 352 = .ok (.iload 6, 2) := by decide +kernel
theorem dL_law_354 : decode cL_law 354 = .ok (.iconst 1, 1) := by decide +kernel
theorem dL_law_355 : decode cL_law 355 = .ok (.isub, 1) := by decide +kernel
theorem dL_law_356 : decode cL_law 356 = .ok (.iconst 2, 1) := by decide +kernel
theorem dL_law_357 : decode cL_law 357 = .ok (.invokevirtual 67, 3) := by decide +kernel
theorem dL_law_360 : decode cL_law 360 = .ok (.iconst 1, 1) := by decide +kernel
theorem dL_law_361 : decode cL_law 361 = .ok (.if_icmp .eq 5, 3) := by decide +kernel
theorem dL_law_364 : decode cL_law 364 = .ok (.iconst 0, 1) := by decide +kernel
theorem dL_law_365 : decode cL_law 365 = .ok (.ireturn, 1) := by decide +kernel
theorem dL_law_366 : decode cL_law 366 = .ok (.iinc 5 1, 3) := by decide +kernel
theorem dL_law_369 : decode cL_law 369 = .ok (.goto (-277), 3) := by decide +kernel
theorem dL_law_372 : decode cL_law 372 = .ok (.aload_n 0, 1) := by decide +kernel
theorem dL_law_373 : decode cL_law 373 = .ok (.bipush 14, 2) := by decide +kernel
theorem dL_law_375 : decode cL_law 375 = .ok (.invokestatic 9, 3) := by decide +kernel
theorem dL_law_378 : decode cL_law 378 = .ok (.sipush 2001, 3) := by decide +kernel
theorem dL_law_381 : decode cL_law 381 = .ok (.invokestatic 15, 3) := by decide +kernel
theorem dL_law_384 : decode cL_law 384 = .ok (.sipush 1000, 3) := by decide +kernel
theorem dL_law_387 : decode cL_law 387 = .ok (.isub, 1) := by decide +kernel
theorem dL_law_388 : decode cL_law 388 = .ok (.istore 5, 2) := by decide +kernel
theorem dL_law_390 : decode cL_law 390 = .ok (.aload_n 1, 1) := by decide +kernel
theorem dL_law_391 : decode cL_law 391 = .ok (.iconst 1, 1) := by decide +kernel
theorem dL_law_392 : decode cL_law 392 = .ok (.iload 5, 2) := by decide +kernel
theorem dL_law_394 : decode cL_law 394 = .ok (.invokevirtual 84, 3) := by decide +kernel
theorem dL_law_397 : decode cL_law 397 = .ok (.pop, 1) := by decide +kernel
theorem dL_law_398 : decode cL_law 398 = .ok (.ldc 65, 2) := by decide +kernel
theorem dL_law_400 : decode cL_law 400 = .ok (.istore 6, 2) := by decide +kernel
theorem dL_law_402 : decode cL_law 402 = .ok (.iconst 0, 1) := by decide +kernel
theorem dL_law_403 : decode cL_law 403 = .ok (.istore 7, 2) := by decide +kernel
theorem dL_law_405 : decode cL_law 405 = .ok (.iload 7, 2) := by decide +kernel
theorem dL_law_407 : decode cL_law 407 = .ok (.iload 4, 2) := by decide +kernel
theorem dL_law_409 : decode cL_law 409 = .ok (.if_icmp .ge 25, 3) := by decide +kernel
theorem dL_law_412 : decode cL_law 412 = .ok (.iload 6, 2) := by decide +kernel
theorem dL_law_414 : decode cL_law 414 = .ok (.aload_n 3, 1) := by decide +kernel
theorem dL_law_415 : decode cL_law 415 = .ok (.bipush 13, 2) := by decide +kernel
theorem dL_law_417 : decode cL_law 417 = .ok (.iload 7, 2) := by decide +kernel
theorem dL_law_419 : decode cL_law 419 = .ok (.imul, 1) := by decide +kernel
theorem dL_law_420 : decode cL_law 420 = .ok (.iconst 1, 1) := by decide +kernel
theorem dL_law_421 : decode cL_law 421 = .ok (.iadd, 1) := by decide +kernel
theorem dL_law_422 : decode cL_law 422 = .ok (.iaload, 1) := by decide +kernel
theorem dL_law_423 : decode cL_law 423 = .ok (.invokestatic 70, 3) := by decide +kernel
theorem dL_law_426 : decode cL_law 426 = .ok (.istore 6, 2) := by decide +kernel
theorem dL_law_428 : decode cL_law 428 = .ok (.iinc 7 1, 3) := by decide +kernel
theorem dL_law_431 : decode cL_law 431 = .ok (.goto (-26), 3) := by decide +kernel
theorem dL_law_434 : decode cL_law 434 = .ok (.iconst 0, 1) := by decide +kernel
theorem dL_law_435 : decode cL_law 435 = .ok (.istore 7, 2) := by decide +kernel
theorem dL_law_437 : decode cL_law 437 = .ok (.iload 7, 2) := by decide +kernel
theorem dL_law_439 : decode cL_law 439 = .ok (.iload 6, 2) := by decide +kernel
theorem dL_law_441 : decode cL_law 441 = .ok (.if_icmp .ge 23, 3) := by decide +kernel
theorem dL_law_444 : decode cL_law 444 = .ok (.aload_n 1, 1) := by decide +kernel
theorem dL_law_445 : decode cL_law 445 = .ok (.iconst 1, 1) := by decide +kernel
theorem dL_law_446 : decode cL_law 446 = .ok (.iload 7, 2) := by decide +kernel
theorem dL_law_448 : decode cL_law 448 = .ok (.invokevirtual 87, 3) := by decide +kernel
theorem dL_law_451 : decode cL_law 451 = .ok (.iload 5, 2) := by decide +kernel
theorem dL_law_453 : decode cL_law 453 = .ok (.if_icmp .eq 5, 3) := by decide +kernel
theorem dL_law_456 : decode cL_law 456 = .ok (.iconst 0, 1) := by decide +kernel
theorem dL_law_457 : decode cL_law 457 = .ok (.ireturn, 1) := by decide +kernel
theorem dL_law_458 : decode cL_law 458 = .ok (.iinc 7 1, 3) := by decide +kernel
theorem dL_law_461 : decode cL_law 461 = .ok (.goto (-24), 3) := by decide +kernel
theorem dL_law_464 : decode cL_law 464 = .ok (.aload_n 0, 1) := by decide +kernel
theorem dL_law_465 : decode cL_law 465 = .ok (.bipush 15, 2) := by decide +kernel
theorem dL_law_467 : decode cL_law 467 = .ok (.invokestatic 9, 3) := by decide +kernel
theorem dL_law_470 : decode cL_law 470 = .ok (.bipush 120, 2) := by decide +kernel
theorem dL_law_472 : decode cL_law 472 = .ok (.invokestatic 15, 3) := by decide +kernel
theorem dL_law_475 : decode cL_law 475 = .ok (.istore 7, 2) := by decide +kernel
theorem dL_law_477 : decode cL_law 477 = .ok (.aload_n 1, 1) := by decide +kernel
theorem dL_law_478 : decode cL_law 478 = .ok (.iconst 0, 1) := by decide +kernel
theorem dL_law_479 : decode cL_law 479 = .ok (.ldc 90, 2) := by decide +kernel
theorem dL_law_481 : decode cL_law 481 = .ok (.invokevirtual 91, 3) := by decide +kernel
theorem dL_law_484 : decode cL_law 484 = .ok (.istore 8, 2) := by decide +kernel
theorem dL_law_486 : decode cL_law 486 = .ok (.bipush 100, 2) := by decide +kernel
theorem dL_law_488 : decode cL_law 488 = .ok (.iload 8, 2) := by decide +kernel
theorem dL_law_490 : decode cL_law 490 = .ok (.invokestatic 70, 3) := by decide +kernel
theorem dL_law_493 : decode cL_law 493 = .ok (.newarray .int, 2) := by decide +kernel
theorem dL_law_495 : decode cL_law 495 = .ok (.astore 9, 2) := by decide +kernel
theorem dL_law_497 : decode cL_law 497 = .ok (.iconst 0, 1) := by decide +kernel
theorem dL_law_498 : decode cL_law 498 = .ok (.istore 10, 2) := by decide +kernel
theorem dL_law_500 : decode cL_law 500 = .ok (.iload 10, 2) := by decide +kernel
theorem dL_law_502 : decode cL_law 502 = .ok (.aload 9, 2) := by decide +kernel
theorem dL_law_504 : decode cL_law 504 = .ok (.arraylength, 1) := by decide +kernel
theorem dL_law_505 : decode cL_law 505 = .ok (.if_icmp .ge 43, 3) := by decide +kernel
theorem dL_law_508 : decode cL_law 508 = .ok (.aload 9, 2) := by decide +kernel
theorem dL_law_510 : decode cL_law 510 = .ok (.iload 10, 2) := by decide +kernel
theorem dL_law_512 : decode cL_law 512 = .ok (.aload_n 1, 1) := by decide +kernel
theorem dL_law_513 : decode cL_law 513 = .ok (.iload 10, 2) := by decide +kernel
theorem dL_law_515 : decode cL_law 515 = .ok (.iconst 0, 1) := by decide +kernel
theorem dL_law_516 : decode cL_law 516 = .ok (.invokevirtual 94, 3) := by decide +kernel
theorem dL_law_519 : decode cL_law 519 = .ok (.iastore, 1) := by decide +kernel
theorem dL_law_520 : decode cL_law 520 = .ok (.iload 10, 2) := by decide +kernel
theorem dL_law_522 : decode cL_law 522 = .ok (.ifCond .le 20, 3) := by decide +kernel
theorem dL_law_525 : decode cL_law 525 = .ok (.aload 9, 2) := by decide +kernel
theorem dL_law_527 : decode cL_law 527 = .ok (.iload 10, 2) := by decide +kernel
theorem dL_law_529 : decode cL_law 529 = .ok (.iaload, 1) := by decide +kernel
theorem dL_law_530 : decode cL_law 530 = .ok (.aload 9, 2) := by decide +kernel
theorem dL_law_532 : decode cL_law 532 = .ok (.iload 10, 2) := by decide +kernel
theorem dL_law_534 : decode cL_law 534 = .ok (.iconst 1, 1) := by decide +kernel
theorem dL_law_535 : decode cL_law 535 = .ok (.isub, 1) := by decide +kernel
theorem dL_law_536 : decode cL_law 536 = .ok (.iaload, 1) := by decide +kernel
theorem dL_law_537 : decode cL_law 537 = .ok (.if_icmp .ge 5, 3) := by decide +kernel
theorem dL_law_540 : decode cL_law 540 = .ok (.iconst 0, 1) := by decide +kernel
theorem dL_law_541 : decode cL_law 541 = .ok (.ireturn, 1) := by decide +kernel
theorem dL_law_542 : decode cL_law 542 = .ok (.iinc 10 1, 3) := by decide +kernel
theorem dL_law_545 : decode cL_law 545 = .ok (.goto (-45), 3) := by decide +kernel
theorem dL_law_548 : decode cL_law 548 = .ok (.aload_n 1, 1) := by decide +kernel
theorem dL_law_549 : decode cL_law 549 = .ok (.iconst 0, 1) := by decide +kernel
theorem dL_law_550 : decode cL_law 550 = .ok (.iload 7, 2) := by decide +kernel
theorem dL_law_552 : decode cL_law 552 = .ok (.invokevirtual 91, 3) := by decide +kernel
theorem dL_law_555 : decode cL_law 555 = .ok (.istore 10, 2) := by decide +kernel
theorem dL_law_557 : decode cL_law 557 = .ok (.iload 10, 2) := by decide +kernel
theorem dL_law_559 : decode cL_law 559 = .ok (.ifCond .le 24, 3) := by decide +kernel
theorem dL_law_562 : decode cL_law 562 = .ok (.aload_n 1, 1) := by decide +kernel
theorem dL_law_563 : decode cL_law 563 = .ok (.iload 10, 2) := by decide +kernel
theorem dL_law_565 : decode cL_law 565 = .ok (.bipush 100, 2) := by decide +kernel
theorem dL_law_567 : decode cL_law 567 = .ok (.invokestatic 70, 3) := by decide +kernel
theorem dL_law_570 : decode cL_law 570 = .ok (.iconst 1, 1) := by decide +kernel
theorem dL_law_571 : decode cL_law 571 = .ok (.isub, 1) := by decide +kernel
theorem dL_law_572 : decode cL_law 572 = .ok (.iconst 0, 1) := by decide +kernel
theorem dL_law_573 : decode cL_law 573 = .ok (.invokevirtual 94, 3) := by decide +kernel
theorem dL_law_576 : decode cL_law 576 = .ok (.iload 7, 2) := by decide +kernel
theorem dL_law_578 : decode cL_law 578 = .ok (.if_icmp .le 5, 3) := by decide +kernel
theorem dL_law_581 : decode cL_law 581 = .ok (.iconst 0, 1) := by decide +kernel
theorem dL_law_582 : decode cL_law 582 = .ok (.ireturn, 1) := by decide +kernel
theorem dL_law_583 : decode cL_law 583 = .ok (.iload 10, 2) := by decide +kernel
theorem dL_law_585 : decode cL_law 585 = .ok (.aload_n 1, 1) := by decide +kernel
theorem dL_law_586 : decode cL_law 586 = .ok (.iload 7, 2) := by decide +kernel
theorem dL_law_588 : decode cL_law 588 = .ok (.iconst 1, 1) := by decide +kernel
theorem dL_law_589 : decode cL_law 589 = .ok (.iadd, 1) := by decide +kernel
theorem dL_law_590 : decode cL_law 590 = .ok (.ldc 90, 2) := by decide +kernel
theorem dL_law_592 : decode cL_law 592 = .ok (.invokevirtual 91, 3) := by decide +kernel
theorem dL_law_595 : decode cL_law 595 = .ok (.iadd, 1) := by decide +kernel
theorem dL_law_596 : decode cL_law 596 = .ok (.iload 8, 2) := by decide +kernel
theorem dL_law_598 : decode cL_law 598 = .ok (.if_icmp .eq 5, 3) := by decide +kernel
theorem dL_law_601 : decode cL_law 601 = .ok (.iconst 0, 1) := by decide +kernel
theorem dL_law_602 : decode cL_law 602 = .ok (.ireturn, 1) := by decide +kernel
theorem dL_law_603 : decode cL_law 603 = .ok (.iconst 0, 1) := by decide +kernel
theorem dL_law_604 : decode cL_law 604 = .ok (.istore 11, 2) := by decide +kernel
theorem dL_law_606 : decode cL_law 606 = .ok (.iload 11, 2) := by decide +kernel
theorem dL_law_608 : decode cL_law 608 = .ok (.iload 4, 2) := by decide +kernel
theorem dL_law_610 : decode cL_law 610 = .ok (.if_icmp .ge 31, 3) := by decide +kernel
theorem dL_law_613 : decode cL_law 613 = .ok (.aload_n 1, 1) := by decide +kernel
theorem dL_law_614 : decode cL_law 614 = .ok (.iload 11, 2) := by decide +kernel
theorem dL_law_616 : decode cL_law 616 = .ok (.iconst 0, 1) := by decide +kernel
theorem dL_law_617 : decode cL_law 617 = .ok (.iconst 0, 1) := by decide +kernel
theorem dL_law_618 : decode cL_law 618 = .ok (.iload 11, 2) := by decide +kernel
theorem dL_law_620 : decode cL_law 620 = .ok (.iconst 2, 1) := by decide +kernel
theorem dL_law_621 : decode cL_law 621 = .ok (.irem, 1) := by decide +kernel
theorem dL_law_622 : decode cL_law 622 = .ok (.ifCond .ne 7, 3) := by decide +kernel
theorem dL_law_625 : decode cL_law 625 = .ok (.iconst 1, 1) := by decide +kernel
theorem dL_law_626 : decode cL_law 626 = .ok (.goto 4, 3) := by decide +kernel
theorem dL_law_629 : decode cL_law 629 = .ok (.iconst 0, 1) := by decide +kernel
theorem dL_law_630 : decode cL_law 630 = .ok (.iconst 0, 1) := by decide +kernel
theorem dL_law_631 : decode cL_law 631 = .ok (.invokevirtual 47, 3) := by decide +kernel
theorem dL_law_634 : decode cL_law 634 = .ok (.pop, 1) := by decide +kernel
theorem dL_law_635 : decode cL_law 635 = .ok (.iinc 11 1, 3) := by decide +kernel
theorem dL_law_638 : decode cL_law 638 = .ok (.goto (-32), 3) := by decide +kernel
theorem dL_law_641 : decode cL_law 641 = .ok (.iconst 0, 1) := by decide +kernel
theorem dL_law_642 : decode cL_law 642 = .ok (.istore 11, 2) := by decide +kernel
theorem dL_law_644 : decode cL_law 644 = .ok (.iload 11, 2) := by decide +kernel
theorem dL_law_646 : decode cL_law 646 = .ok (.bipush 100, 2) := by decide +kernel
theorem dL_law_648 : decode cL_law 648 = .ok (.if_icmp .ge 23, 3) := by decide +kernel
theorem dL_law_651 : decode cL_law 651 = .ok (.aload_n 1, 1) := by decide +kernel
theorem dL_law_652 : decode cL_law 652 = .ok (.iconst 1, 1) := by decide +kernel
theorem dL_law_653 : decode cL_law 653 = .ok (.iload 11, 2) := by decide +kernel
theorem dL_law_655 : decode cL_law 655 = .ok (.invokevirtual 87, 3) := by decide +kernel
theorem dL_law_658 : decode cL_law 658 = .ok (.iload 5, 2) := by decide +kernel
theorem dL_law_660 : decode cL_law 660 = .ok (.if_icmp .eq 5, 3) := by decide +kernel
theorem dL_law_663 : decode cL_law 663 = .ok (.iconst 0, 1) := by decide +kernel
theorem dL_law_664 : decode cL_law 664 = .ok (.ireturn, 1) := by decide +kernel
theorem dL_law_665 : decode cL_law 665 = .ok (.iinc 11 7, 3) := by decide +kernel
theorem dL_law_668 : decode cL_law 668 = .ok (.goto (-24), 3) := by decide +kernel
theorem dL_law_671 : decode cL_law 671 = .ok (.iload 4, 2) := by decide +kernel
theorem dL_law_673 : decode cL_law 673 = .ok (.ifCond .le 18, 3) := by decide +kernel
theorem dL_law_676 : decode cL_law 676 = .ok (.iinc 4 (-1), 3) := by decide +kernel
theorem dL_law_679 : decode cL_law 679 = .ok (.aload_n 1, 1) := by decide +kernel
theorem dL_law_680 : decode cL_law 680 = .ok (.iconst 0, 1) := by decide +kernel
theorem dL_law_681 : decode cL_law 681 = .ok (.invokevirtual 97, 3) := by decide +kernel
theorem dL_law_684 : decode cL_law 684 = .ok (.iload 4, 2) := by decide +kernel
theorem dL_law_686 : decode cL_law 686 = .ok (.if_icmp .eq (-15), 3) := by decide +kernel
theorem dL_law_689 : decode cL_law 689 = .ok (.iconst 0, 1) := by decide +kernel
theorem dL_law_690 : decode cL_law 690 = .ok (.ireturn, 1) := by decide +kernel
theorem dL_law_691 : decode cL_law 691 = .ok (.aload_n 1, 1) := by decide +kernel
theorem dL_law_692 : decode cL_law 692 = .ok (.invokevirtual 100, 3) := by decide +kernel
theorem dL_law_695 : decode cL_law 695 = .ok (.ifCond .ne 30, 3) := by decide +kernel
theorem dL_law_698 : decode cL_law 698 = .ok (.aload_n 1, 1) := by decide +kernel
theorem dL_law_699 : decode cL_law 699 = .ok (.iconst 0, 1) := by decide +kernel
theorem dL_law_700 : decode cL_law 700 = .ok (.sipush 500, 3) := by decide +kernel
theorem dL_law_703 : decode cL_law 703 = .ok (.invokevirtual 91, 3) := by decide +kernel
theorem dL_law_706 : decode cL_law 706 = .ok (.ifCond .ne 19, 3) := by decide +kernel
theorem dL_law_709 : decode cL_law 709 = .ok (.aload_n 1, 1) := by decide +kernel
theorem dL_law_710 : decode cL_law 710 = .ok (.iconst 1, 1) := by decide +kernel
theorem dL_law_711 : decode cL_law 711 = .ok (.bipush 50, 2) := by decide +kernel
theorem dL_law_713 : decode cL_law 713 = .ok (.invokevirtual 87, 3) := by decide +kernel
theorem dL_law_716 : decode cL_law 716 = .ok (.iload 5, 2) := by decide +kernel
theorem dL_law_718 : decode cL_law 718 = .ok (.if_icmp .ne 7, 3) := by decide +kernel
theorem dL_law_721 : decode cL_law 721 = .ok (.iconst 1, 1) := by decide +kernel
theorem dL_law_722 : decode cL_law 722 = .ok (.goto 4, 3) := by decide +kernel
theorem dL_law_725 : decode cL_law 725 = .ok (.iconst 0, 1) := by decide +kernel
theorem dL_law_726 : decode cL_law 726 = .ok (.ireturn, 1) := by decide +kernel
