theorem dX6_init_0 : decode cX6_init 0 = .ok (.aload_n 0, 1) := by decide +kernel
theorem dX6_init_1 : decode cX6_init 1 = .ok (.invokespecial 1, 3) := by decide +kernel
theorem dX6_init_4 : decode cX6_init 4 = .ok (.aload_n 0, 1) := by decide +kernel
theorem dX6_init_5 : decode cX6_init 5 = .ok (.iconst 4, 1) := by decide +kernel
theorem dX6_init_6 : decode cX6_init 6 = .ok (.newarray .int, 2) := by decide +kernel
theorem dX6_init_8 : decode cX6_init 8 = .ok (.putfield 9, 3) := by decide +kernel
theorem dX6_init_11 : decode cX6_init 11 = .ok (.aload_n 0, 1) := by decide +kernel
theorem dX6_init_12 : decode cX6_init 12 = .ok (.bipush 6, 2) := by decide +kernel
theorem dX6_init_14 : decode cX6_init 14 = .ok (.newarray .int, 2) := by decide +kernel
theorem dX6_init_16 : decode cX6_init 16 = .ok (.putfield 13, 3) := by decide +kernel
theorem dX6_init_19 : decode cX6_init 19 = .ok (.aload_n 0, 1) := by decide +kernel
theorem dX6_init_20 : decode cX6_init 20 = .ok (.bipush 24, 2) := by decide +kernel
theorem dX6_init_22 : decode cX6_init 22 = .ok (.newarray .int, 2) := by decide +kernel
theorem dX6_init_24 : decode cX6_init 24 = .ok (.putfield 16, 3) := by decide +kernel
theorem dX6_init_27 : decode cX6_init 27 = .ok (.aload_n 0, 1) := by decide +kernel
theorem dX6_init_28 : decode cX6_init 28 = .ok (.sipush 384, 3) := by decide +kernel
theorem dX6_init_31 : decode cX6_init 31 = .ok (.newarray .int, 2) := by decide +kernel
theorem dX6_init_33 : decode cX6_init 33 = .ok (.putfield 19, 3) := by decide +kernel
theorem dX6_init_36 : decode cX6_init 36 = .ok (.aload_n 0, 1) := by decide +kernel
theorem dX6_init_37 : decode cX6_init 37 = .ok (.sipush 384, 3) := by decide +kernel
theorem dX6_init_40 : decode cX6_init 40 = .ok (.newarray .int, 2) := by decide +kernel
theorem dX6_init_42 : decode cX6_init 42 = .ok (.putfield 22, 3) := by decide +kernel
theorem dX6_init_45 : decode cX6_init 45 = .ok (.aload_n 0, 1) := by decide +kernel
theorem dX6_init_46 : decode cX6_init 46 = .ok (.sipush 384, 3) := by decide +kernel
theorem dX6_init_49 : decode cX6_init 49 = .ok (.newarray .int, 2) := by decide +kernel
theorem dX6_init_51 : decode cX6_init 51 = .ok (.putfield 25, 3) := by decide +kernel
theorem dX6_init_54 : decode cX6_init 54 = .ok (.aload_n 0, 1) := by decide +kernel
theorem dX6_init_55 : decode cX6_init 55 = .ok (.bipush 6, 2) := by decide +kernel
theorem dX6_init_57 : decode cX6_init 57 = .ok (.newarray .int, 2) := by decide +kernel
theorem dX6_init_59 : decode cX6_init 59 = .ok (.putfield 28, 3) := by decide +kernel
theorem dX6_init_62 : decode cX6_init 62 = .ok (.aload_n 0, 1) := by decide +kernel
theorem dX6_init_63 : decode cX6_init 63 = .ok (.bipush 48, 2) := by decide +kernel
theorem dX6_init_65 : decode cX6_init 65 = .ok (.newarray .int, 2) := by decide +kernel
theorem dX6_init_67 : decode cX6_init 67 = .ok (.putfield 31, 3) := by decide +kernel
theorem dX6_init_70 : decode cX6_init 70 = .ok (.aload_n 0, 1) := by decide +kernel
theorem dX6_init_71 : decode cX6_init 71 = .ok (.bipush 48, 2) := by decide +kernel
theorem dX6_init_73 : decode cX6_init 73 = .ok (.newarray .int, 2) := by decide +kernel
theorem dX6_init_75 : decode cX6_init 75 = .ok (.putfield 34, 3) := by decide +kernel
theorem dX6_init_78 : decode cX6_init 78 = .ok (.aload_n 0, 1) := by decide +kernel
theorem dX6_init_79 : decode cX6_init 79 = .ok (.sipush 130, 3) := by decide +kernel
theorem dX6_init_82 : decode cX6_init 82 = .ok (.newarray .int, 2) := by decide +kernel
theorem dX6_init_84 : decode cX6_init 84 = .ok (.putfield 37, 3) := by decide +kernel
theorem dX6_init_87 : decode cX6_init 87 = .ok (.aload_n 0, 1) := by decide +kernel
theorem dX6_init_88 : decode cX6_init 88 = .ok (.sipush 2880, 3) := by decide +kernel
theorem dX6_init_91 : decode cX6_init 91 = .ok (.newarray .int, 2) := by decide +kernel
theorem dX6_init_93 : decode cX6_init 93 = .ok (.putfield 40, 3) := by decide +kernel
theorem dX6_init_96 : decode cX6_init 96 = .ok (.return_, 1) := by decide +kernel
theorem dX6_thrown_0 : decode cX6_thrown 0 = .ok (.aload_n 0, 1) := by decide +kernel
theorem dX6_thrown_1 : decode cX6_thrown 1 = .ok (.getfield 43, 3) := by decide +kernel
theorem dX6_thrown_4 : decode cX6_thrown 4 = .ok (.ireturn, 1) := by decide +kernel
theorem dX6_no_0 : decode cX6_no 0 = .ok (.aload_n 0, 1) := by decide +kernel
theorem dX6_no_1 : decode cX6_no 1 = .ok (.iload_n 1, 1) := by decide +kernel
theorem dX6_no_2 : decode cX6_no 2 = .ok (.putfield 43, 3) := by decide +kernel
theorem dX6_no_5 : decode cX6_no 5 = .ok (.iconst 0, 1) := by decide +kernel
theorem dX6_no_6 : decode cX6_no 6 = .ok (.ireturn, 1) := by decide +kernel
theorem dX6_isIn_0 : decode cX6_isIn 0 = .ok (.iload_n 0, 1) := by decide +kernel
theorem dX6_isIn_1 : decode cX6_isIn 1 = .ok (.iload_n 1, 1) := by decide +kernel
theorem dX6_isIn_2 : decode cX6_isIn 2 = .ok (.if_icmp .lt 12, 3) := by decide +kernel
theorem dX6_isIn_5 : decode cX6_isIn 5 = .ok (.iload_n 0, 1) := by decide +kernel
theorem dX6_isIn_6 : decode cX6_isIn 6 = .ok (.iload_n 2, 1) := by decide +kernel
theorem dX6_isIn_7 : decode cX6_isIn 7 = .ok (.if_icmp .gt 7, 3) := by decide +kernel
theorem dX6_isIn_10 : decode cX6_isIn 10 = .ok (.iconst 1, 1) := by decide +kernel
theorem dX6_isIn_11 : decode cX6_isIn 11 = .ok (.goto 4, 3) := by decide +kernel
theorem dX6_isIn_14 : decode cX6_isIn 14 = .ok (.iconst 0, 1) := by decide +kernel
theorem dX6_isIn_15 : decode cX6_isIn 15 = .ok (.ireturn, 1) := by decide +kernel
theorem dX6_isClip_0 : decode cX6_isClip 0 = .ok (.iload_n 1, 1) := by decide +kernel
theorem dX6_isClip_1 : decode cX6_isClip 1 = .ok (.iconst 0, 1) := by decide +kernel
theorem dX6_isClip_2 : decode cX6_isClip 2 = .ok (.aload_n 0, 1) := by decide +kernel
theorem dX6_isClip_3 : decode cX6_isClip 3 = .ok (.getfield 47, 3) := by decide +kernel
theorem dX6_isClip_6 : decode cX6_isClip 6 = .ok (.iconst 1, 1) := by decide +kernel
theorem dX6_isClip_7 : decode cX6_isClip 7 = .ok (.isub, 1) := by decide +kernel
theorem dX6_isClip_8 : decode cX6_isClip 8 = .ok (.invokestatic 50, 3) := by decide +kernel
theorem dX6_isClip_11 : decode cX6_isClip 11 = .ok (.ireturn, 1) := by decide +kernel
theorem dX6_isTrack_0 : decode cX6_isTrack 0 = .ok (.aload_n 0, 1) := by decide +kernel
theorem dX6_isTrack_1 : decode cX6_isTrack 1 = .ok (.iload_n 1, 1) := by decide +kernel
theorem dX6_isTrack_2 : decode cX6_isTrack 2 = .ok (.invokevirtual 54, 3) := by decide +kernel
theorem dX6_isTrack_5 : decode cX6_isTrack 5 = .ok (.ifCond .eq 16, 3) := by decide +kernel
theorem dX6_isTrack_8 : decode cX6_isTrack 8 = .ok (.iload_n 2, 1) := by decide +kernel
theorem dX6_isTrack_9 : decode cX6_isTrack 9 = .ok (.iconst 0, 1) := by decide +kernel
theorem dX6_isTrack_10 : decode cX6_isTrack 10 = .ok (.iconst 3, 1) := by decide +kernel
theorem dX6_isTrack_11 : decode cX6_isTrack 11 = .ok (.invokestatic 50, 3) := by decide +kernel
theorem dX6_isTrack_14 : decode cX6_isTrack 14 = .ok (.ifCond .eq 7, 3) := by decide +kernel
theorem dX6_isTrack_17 : decode cX6_isTrack 17 = .ok (.iconst 1, 1) := by decide +kernel
theorem dX6_isTrack_18 : decode cX6_isTrack 18 = .ok (.goto 4, 3) := by decide +kernel
theorem dX6_isTrack_21 : decode cX6_isTrack 21 = .ok (.iconst 0, 1) := by decide +kernel
theorem dX6_isTrack_22 : decode cX6_isTrack 22 = .ok (.ireturn, 1) := by decide +kernel
theorem dX6_rounded_0 : decode cX6_rounded 0 = .ok (.ldc2_w 58, 3) := by decide +kernel
theorem dX6_rounded_3 : decode cX6_rounded 3 = .ok (.lload_n 0, 1) := by decide +kernel
theorem dX6_rounded_4 : decode cX6_rounded 4 = .ok (.lmul, 1) := by decide +kernel
theorem dX6_rounded_5 : decode cX6_rounded 5 = .ok (.lload_n 2, 1) := by decide +kernel
theorem dX6_rounded_6 : decode cX6_rounded 6 = .ok (.ladd, 1) := by decide +kernel
theorem dX6_rounded_7 : decode cX6_rounded 7 = .ok (.ldc2_w 58, 3) := by decide +kernel
theorem dX6_rounded_10 : decode cX6_rounded 10 = .ok (.lload_n 2, 1) := by decide +kernel
theorem dX6_rounded_11 : decode cX6_rounded 11 = .ok (.lmul, 1) := by decide +kernel
theorem dX6_rounded_12 : decode cX6_rounded 12 = .ok (.invokestatic 60, 3) := by decide +kernel
theorem dX6_rounded_15 : decode cX6_rounded 15 = .ok (.l2i, 1) := by decide +kernel
theorem dX6_rounded_16 : decode cX6_rounded 16 = .ok (.ireturn, 1) := by decide +kernel
theorem dX6_addClip_0 : decode cX6_addClip 0 = .ok (.aload_n 0, 1) := by decide +kernel
theorem dX6_addClip_1 : decode cX6_addClip 1 = .ok (.iconst 0, 1) := by decide +kernel
theorem dX6_addClip_2 : decode cX6_addClip 2 = .ok (.putfield 43, 3) := by decide +kernel
theorem dX6_addClip_5 : decode cX6_addClip 5 = .ok (.iload_n 1, 1) := by decide +kernel
theorem dX6_addClip_6 : decode cX6_addClip 6 = .ok (.iconst 1, 1) := by decide +kernel
theorem dX6_addClip_7 : decode cX6_addClip 7 = .ok (.sipush 2000, 3) := by decide +kernel
theorem dX6_addClip_10 : decode cX6_addClip 10 = .ok (.invokestatic 50, 3) := by decide +kernel
theorem dX6_addClip_13 : decode cX6_addClip 13 = .ok (.ifCond .ne 9, 3) := by decide +kernel
theorem dX6_addClip_16 : decode cX6_addClip 16 = .ok (.aload_n 0, 1) := by decide +kernel
theorem dX6_addClip_17 : decode cX6_addClip 17 = .ok (.iconst 1, 1) := by decide +kernel
theorem dX6_addClip_18 : decode cX6_addClip 18 = .ok (.invokevirtual 66, 3) := by decide +kernel
theorem dX6_addClip_21 : decode cX6_addClip 21 = .ok (.ireturn, 1) := by decide +kernel
theorem dX6_addClip_22 : decode cX6_addClip 22 = .ok (.aload_n 0, 1) := by decide +kernel
theorem dX6_addClip_23 : decode cX6_addClip 23 = .ok (.getfield 47, 3) := by decide +kernel
theorem dX6_addClip_26 : decode cX6_addClip 26 = .ok (.bipush 6, 2) := by decide +kernel
theorem dX6_addClip_28 : decode cX6_addClip 28 = .ok (.if_icmp .ne 9, 3) := by decide +kernel
theorem dX6_addClip_31 : decode cX6_addClip 31 = .ok (.aload_n 0, 1) := by decide +kernel
theorem dX6_addClip_32 : decode cX6_addClip 32 = .ok (.iconst 2, 1) := by decide +kernel
theorem dX6_addClip_33 : decode cX6_addClip 33 = .ok (.invokevirtual 66, 3) := by decide +kernel
theorem dX6_addClip_36 : decode cX6_addClip 36 = .ok (.ireturn, 1) := by decide +kernel
theorem dX6_addClip_37 : decode cX6_addClip 37 = .ok (.aload_n 0, 1) := by decide +kernel
theorem dX6_addClip_38 : decode cX6_addClip 38 = .ok (.getfield 13, 3) := by decide +kernel
theorem dX6_addClip_41 : decode cX6_addClip 41 = .ok (.aload_n 0, 1) := by decide +kernel
theorem dX6_addClip_42 : decode cX6_addClip 42 = .ok (.getfield 47, 3) := by decide +kernel
theorem dX6_addClip_45 : decode cX6_addClip 45 = .ok (.iload_n 1, 1) := by decide +kernel
theorem dX6_addClip_46 : decode cX6_addClip 46 = .ok (.iastore, 1) := by decide +kernel
theorem dX6_addClip_47 : decode cX6_addClip 47 = .ok (.aload_n 0, 1) := by decide +kernel
theorem dX6_addClip_48 : decode cX6_addClip 48 = .ok (.dup, 1) := by decide +kernel
theorem dX6_addClip_49 : decode cX6_addClip 49 = .ok (.getfield 47, 3) := by decide +kernel
theorem dX6_addClip_52 : decode cX6_addClip 52 = .ok (.iconst 1, 1) := by decide +kernel
theorem dX6_addClip_53 : decode cX6_addClip 53 = .ok (.iadd, 1) := by decide +kernel
theorem dX6_addClip_54 : decode cX6_addClip 54 = .ok (.putfield 47, 3) := by decide +kernel
theorem dX6_addClip_57 : decode cX6_addClip 57 = .ok (.aload_n 0, 1) := by decide +kernel
theorem dX6_addClip_58 : decode cX6_addClip 58 = .ok (.getfield 47, 3) := by decide +kernel
theorem dX6_addClip_61 : decode cX6_addClip 61 = .ok (.iconst 1, 1) := by decide +kernel
theorem dX6_addClip_62 : decode cX6_addClip 62 = .ok (.isub, 1) := by decide +kernel
theorem dX6_addClip_63 : decode cX6_addClip 63 = .ok (.ireturn, 1) := by decide +kernel
theorem dX6_clipTold_0 : decode cX6_clipTold 0 = .ok (.iconst 0, 1) := by decide +kernel
theorem dX6_clipTold_1 : decode cX6_clipTold 1 = .ok (.istore_n 3, 1) := by decide +kernel
theorem dX6_clipTold_2 : decode cX6_clipTold 2 = .ok (.iconst 0, 1) := by decide +kernel
theorem dX6_clipTold_3 : decode cX6_clipTold 3 = .ok (.istore 4, 2) := by decide +kernel
theorem dX6_clipTold_5 : decode cX6_clipTold 5 = .ok (.iload 4, 2) := by decide +kernel
theorem dX6_clipTold_7 : decode cX6_clipTold 7 = .ok (.iconst 4, 1) := by decide +kernel
theorem dX6_clipTold_8 : decode cX6_clipTold 8 = .ok (.if_icmp .ge 23, 3) := by decide +kernel
theorem dX6_clipTold_11 : decode cX6_clipTold 11 = .ok (.iload_n 3, 1) := by decide +kernel
theorem dX6_clipTold_12 : decode cX6_clipTold 12 = .ok (.aload_n 0, 1) := by decide +kernel
theorem dX6_clipTold_13 : decode cX6_clipTold 13 = .ok (.getfield 16, 3) := by decide +kernel
theorem dX6_clipTold_16 : decode cX6_clipTold 16 = .ok (.iconst 4, 1) := by decide +kernel
theorem dX6_clipTold_17 : decode cX6_clipTold 17 = .ok (.iload_n 1, 1) := by decide +kernel
theorem dX6_clipTold_18 : decode cX6_clipTold 18 = .ok (.imul, 1) := by decide +kernel
theorem dX6_clipTold_19 : decode cX6_clipTold 19 = .ok (.iload 4, 2) := by decide +kernel
theorem dX6_clipTold_21 : decode cX6_clipTold 21 = .ok (.iadd, 1) := by decide +kernel
theorem dX6_clipTold_22 : decode cX6_clipTold 22 = .ok (.iaload, 1) := by decide +kernel
theorem dX6_clipTold_23 : decode cX6_clipTold 23 = .ok (.iadd, 1) := by decide +kernel
theorem dX6_clipTold_24 : decode cX6_clipTold 24 = .ok (.istore_n 3, 1) := by decide +kernel
theorem dX6_clipTold_25 : decode cX6_clipTold 25 = .ok (.iinc 4 1, 3) := by decide +kernel
theorem dX6_clipTold_28 : decode cX6_clipTold 28 = .ok (.goto (-23), 3) := by decide +kernel
theorem dX6_clipTold_31 : decode cX6_clipTold 31 = .ok (.iload_n 2, 1) := by decide +kernel
theorem dX6_clipTold_32 : decode cX6_clipTold 32 = .ok (.ifCond .ne 12, 3) := by decide +kernel
theorem dX6_clipTold_35 : decode cX6_clipTold 35 = .ok (.aload_n 0, 1) := by decide +kernel
theorem dX6_clipTold_36 : decode cX6_clipTold 36 = .ok (.getfield 13, 3) := by decide +kernel
theorem dX6_clipTold_39 : decode cX6_clipTold 39 = .ok (.iload_n 1, 1) := by decide +kernel
theorem dX6_clipTold_40 : decode cX6_clipTold 40 = .ok (.iaload, 1) := by decide +kernel
theorem dX6_clipTold_41 : decode cX6_clipTold 41 = .ok (.goto 18, 3) := by decide +kernel
theorem dX6_clipTold_44 : decode cX6_clipTold 44 = .ok (.iload_n 2, 1) := by decide +kernel
theorem dX6_clipTold_45 : decode cX6_clipTold 45 = .ok (.iconst 1, 1) := by decide +kernel
theorem dX6_clipTold_46 : decode cX6_clipTold 46 = .ok (.if_icmp .ne 12, 3) := by decide +kernel
theorem dX6_clipTold_49 : decode cX6_clipTold 49 = .ok (.aload_n 0, 1) := by decide +kernel
theorem dX6_clipTold_50 : decode cX6_clipTold 50 = .ok (.getfield 28, 3) := by decide +kernel
theorem dX6_clipTold_53 : decode cX6_clipTold 53 = .ok (.iload_n 1, 1) := by decide +kernel
theorem dX6_clipTold_54 : decode cX6_clipTold 54 = .ok (.iaload, 1) := by decide +kernel
theorem dX6_clipTold_55 : decode cX6_clipTold 55 = .ok (.goto 4, 3) := by decide +kernel
theorem dX6_clipTold_58 : decode cX6_clipTold 58 = .ok (.iload_n 3, 1) := by decide +kernel
theorem dX6_clipTold_59 : decode cX6_clipTold 59 = .ok (.ireturn, 1) := by decide +kernel
theorem dX6_clip_0 : decode cX6_clip 0 = .ok (.aload_n 0, 1) := by decide +kernel
theorem dX6_clip_1 : decode cX6_clip 1 = .ok (.iconst 0, 1) := by decide +kernel
theorem dX6_clip_2 : decode cX6_clip 2 = .ok (.putfield 43, 3) := by decide +kernel
theorem dX6_clip_5 : decode cX6_clip 5 = .ok (.aload_n 0, 1) := by decide +kernel
theorem dX6_clip_6 : decode cX6_clip 6 = .ok (.iload_n 1, 1) := by decide +kernel
theorem dX6_clip_7 : decode cX6_clip 7 = .ok (.invokevirtual 54, 3) := by decide +kernel
theorem dX6_clip_10 : decode cX6_clip 10 = .ok (.ifCond .eq 21, 3) := by decide +kernel
theorem dX6_clip_13 : decode cX6_clip 13 = .ok (.iload_n 2, 1) := by decide +kernel
theorem dX6_clip_14 : decode cX6_clip 14 = .ok (.iconst 0, 1) := by decide +kernel
theorem dX6_clip_15 : decode cX6_clip 15 = .ok (.iconst 2, 1) := by decide +kernel
theorem dX6_clip_16 : decode cX6_clip 16 = .ok (.invokestatic 50, 3) := by decide +kernel
theorem dX6_clip_19 : decode cX6_clip 19 = .ok (.ifCond .eq 12, 3) := by decide +kernel
theorem dX6_clip_22 : decode cX6_clip 22 = .ok (.aload_n 0, 1) := by decide +kernel
theorem dX6_clip_23 : decode cX6_clip 23 = .ok (.iload_n 1, 1) := by decide +kernel
theorem dX6_clip_24 : decode cX6_clip 24 = .ok (.iload_n 2, 1) := by decide +kernel
theorem dX6_clip_25 : decode cX6_clip 25 = .ok (.invokevirtual 70, 3) := by decide +kernel
theorem dX6_clip_28 : decode cX6_clip 28 = .ok (.goto 8, 3) := by decide +kernel
theorem dX6_clip_31 : decode cX6_clip 31 = .ok (.aload_n 0, 1) := by decide +kernel
theorem dX6_clip_32 : decode cX6_clip 32 = .ok (.iconst 1, 1) := by decide +kernel
theorem dX6_clip_33 : decode cX6_clip 33 = .ok (.invokevirtual 66, 3) := by decide +kernel
theorem dX6_clip_36 : decode cX6_clip 36 = .ok (.ireturn, 1) := by decide +kernel
theorem dX6_row_0 : decode cX6_row 0 = .ok (.bipush 16, 2) := by decide +kernel
theorem dX6_row_2 : decode cX6_row 2 = .ok (.iload_n 0, 1) := by decide +kernel
theorem dX6_row_3 : decode cX6_row 3 = .ok (.imul, 1) := by decide +kernel
theorem dX6_row_4 : decode cX6_row 4 = .ok (.ireturn, 1) := by decide +kernel
theorem dX6_put_0 : decode cX6_put 0 = .ok (.aload_n 0, 1) := by decide +kernel
theorem dX6_put_1 : decode cX6_put 1 = .ok (.getfield 19, 3) := by decide +kernel
theorem dX6_put_4 : decode cX6_put 4 = .ok (.iload_n 1, 1) := by decide +kernel
theorem dX6_put_5 : decode cX6_put 5 = .ok (.iload_n 2, 1) := by decide +kernel
theorem dX6_put_6 : decode cX6_put 6 = .ok (.iastore, 1) := by decide +kernel
theorem dX6_put_7 : decode cX6_put 7 = .ok (.aload_n 0, 1) := by decide +kernel
theorem dX6_put_8 : decode cX6_put 8 = .ok (.getfield 22, 3) := by decide +kernel
theorem dX6_put_11 : decode cX6_put 11 = .ok (.iload_n 1, 1) := by decide +kernel
theorem dX6_put_12 : decode cX6_put 12 = .ok (.iload_n 3, 1) := by decide +kernel
theorem dX6_put_13 : decode cX6_put 13 = .ok (.iastore, 1) := by decide +kernel
theorem dX6_put_14 : decode cX6_put 14 = .ok (.aload_n 0, 1) := by decide +kernel
theorem dX6_put_15 : decode cX6_put 15 = .ok (.getfield 25, 3) := by decide +kernel
theorem dX6_put_18 : decode cX6_put 18 = .ok (.iload_n 1, 1) := by decide +kernel
theorem dX6_put_19 : decode cX6_put 19 = .ok (.iload 4, 2) := by decide +kernel
theorem dX6_put_21 : decode cX6_put 21 = .ok (.iastore, 1) := by decide +kernel
theorem dX6_put_22 : decode cX6_put 22 = .ok (.return_, 1) := by decide +kernel
theorem dX6_key_0 : decode cX6_key 0 = .ok (.aload_n 0, 1) := by decide +kernel
theorem dX6_key_1 : decode cX6_key 1 = .ok (.iconst 0, 1) := by decide +kernel
theorem dX6_key_2 : decode cX6_key 2 = .ok (.putfield 43, 3) := by decide +kernel
theorem dX6_key_5 : decode cX6_key 5 = .ok (.aload_n 0, 1) := by decide +kernel
theorem dX6_key_6 : decode cX6_key 6 = .ok (.iload_n 1, 1) := by decide +kernel
theorem dX6_key_7 : decode cX6_key 7 = .ok (.iload_n 2, 1) := by decide +kernel
theorem dX6_key_8 : decode cX6_key 8 = .ok (.invokevirtual 74, 3) := by decide +kernel
theorem dX6_key_11 : decode cX6_key 11 = .ok (.ifCond .ne 9, 3) := by decide +kernel
theorem dX6_key_14 : decode cX6_key 14 = .ok (.aload_n 0, 1) := by decide +kernel
theorem dX6_key_15 : decode cX6_key 15 = .ok (.iconst 1, 1) := by decide +kernel
theorem dX6_key_16 : decode cX6_key 16 = .ok (.invokevirtual 66, 3) := by decide +kernel
theorem dX6_key_19 : decode cX6_key 19 = .ok (.ireturn, 1) := by decide +kernel
theorem dX6_key_20 : decode cX6_key 20 = .ok (.iload_n 3, 1) := by decide +kernel
theorem dX6_key_21 : decode cX6_key 21 = .ok (.iconst 0, 1) := by decide +kernel
theorem dX6_key_22 : decode cX6_key 22 = .ok (.aload_n 0, 1) := by decide +kernel
theorem dX6_key_23 : decode cX6_key 23 = .ok (.getfield 13, 3) := by decide +kernel
theorem dX6_key_26 : decode cX6_key 26 = .ok (.iload_n 1, 1) := by decide +kernel
theorem dX6_key_27 : decode cX6_key 27 = .ok (.iaload, 1) := by decide +kernel
theorem dX6_key_28 : decode cX6_key 28 = .ok (.invokestatic 50, 3) := by decide +kernel
theorem dX6_key_31 : decode cX6_key 31 = .ok (.ifCond .eq 27, 3) := by decide +kernel
theorem dX6_key_34 : decode cX6_key 34 = .ok (.iload 4, 2) := by decide +kernel
theorem dX6_key_36 : decode cX6_key 36 = .ok (.sipush (-10000), 3) := by decide +kernel
theorem dX6_key_39 : decode cX6_key 39 = .ok (.sipush 10000, 3) := by decide +kernel
theorem dX6_key_42 : decode cX6_key 42 = .ok (.invokestatic 50, 3) := by decide +kernel
theorem dX6_key_45 : decode cX6_key 45 = .ok (.ifCond .eq 13, 3) := by decide +kernel
theorem dX6_key_48 : decode cX6_key 48 = .ok (.iload 5, 2) := by decide +kernel
theorem dX6_key_50 : decode cX6_key 50 = .ok (.iconst 0, 1) := by decide +kernel
theorem dX6_key_51 : decode cX6_key 51 = .ok (.iconst 4, 1) := by decide +kernel
theorem dX6_key_52 : decode cX6_key 52 = .ok (.invokestatic 50, 3) := by decide +kernel
theorem dX6_key_55 : decode cX6_key 55 = .ok (.ifCond .ne 9, 3) := by decide +kernel
theorem dX6_key_58 : decode cX6_key 58 = .ok (.aload_n 0, 1) := by decide +kernel
theorem dX6_key_59 : decode cX6_key 59 = .ok (.iconst 2, 1) := by decide +kernel
theorem dX6_key_60 : decode cX6_key 60 = .ok (.invokevirtual 66, 3) := by decide +kernel
theorem dX6_key_63 : decode cX6_key 63 = .ok (.ireturn, 1) := by decide +kernel
theorem dX6_key_64 : decode cX6_key 64 = .ok (.iconst 4, 1) := by decide +kernel
theorem dX6_key_65 : decode cX6_key 65 = .ok (.iload_n 1, 1) := by decide +kernel
theorem dX6_key_66 : decode cX6_key 66 = .ok (.imul, 1) := by decide +kernel
theorem dX6_key_67 : decode cX6_key 67 = .ok (.iload_n 2, 1) := by decide +kernel
theorem dX6_key_68 : decode cX6_key 68 = .ok (.iadd, 1) := by decide +kernel
theorem dX6_key_69 : decode cX6_key 69 = .ok (.istore 6, 2) := by decide +kernel
theorem dX6_key_71 : decode cX6_key 71 = .ok (.iconst 0, 1) := by decide +kernel
theorem dX6_key_72 : decode cX6_key 72 = .ok (.istore 7, 2) := by decide +kernel
theorem dX6_key_74 : decode cX6_key 74 = .ok (.iload 7, 2) := by decide +kernel
theorem dX6_key_76 : decode cX6_key 76 = .ok (.aload_n 0, 1) := by decide +kernel
theorem dX6_key_77 : decode cX6_key 77 = .ok (.getfield 16, 3) := by decide +kernel
theorem dX6_key_80 : decode cX6_key 80 = .ok (.iload 6, 2) := by decide +kernel
theorem dX6_key_82 : decode cX6_key 82 = .ok (.iaload, 1) := by decide +kernel
theorem dX6_key_83 : decode cX6_key 83 = .ok (.if_icmp .ge 26, 3) := by decide +kernel
theorem dX6_key_86 : decode cX6_key 86 = .ok (.aload_n 0, 1) := by decide +kernel
theorem dX6_key_87 : decode cX6_key 87 = .ok (.getfield 19, 3) := by decide +kernel
theorem dX6_key_90 : decode cX6_key 90 = .ok (.iload 6, 2) := by decide +kernel
theorem dX6_key_92 : decode cX6_key 92 = .ok (.invokestatic 78, 3) := by decide +kernel
theorem dX6_key_95 : decode cX6_key 95 = .ok (.iload 7, 2) := by decide +kernel
theorem dX6_key_97 : decode cX6_key 97 = .ok (.iadd, 1) := by decide +kernel
theorem dX6_key_98 : decode cX6_key 98 = .ok (.iaload, 1) := by decide +kernel
theorem dX6_key_99 : decode cX6_key 99 = .ok (.iload_n 3, 1) := by decide +kernel
theorem dX6_key_100 : decode cX6_key 100 = .ok (.if_icmp .ge 9, 3) := by decide +kernel
theorem dX6_key_103 : decode cX6_key 103 = .ok (.iinc 7 1, 3) := by decide +kernel
theorem dX6_key_106 : decode cX6_key 106 = .ok (.goto (-32), 3) := by decide +kernel
theorem dX6_key_109 : decode cX6_key 109 = .ok (.iload 7, 2) := by decide +kernel
theorem dX6_key_111 : decode cX6_key 111 = .ok (.aload_n 0, 1) := by decide +kernel
theorem dX6_key_112 : decode cX6_key 112 = .ok (.getfield 16, 3) := by decide +kernel
theorem dX6_key_115 : decode cX6_key 115 = .ok (.iload 6, 2) := by decide +kernel
theorem dX6_key_117 : decode cX6_key 117 = .ok (.iaload, 1) := by decide +kernel
theorem dX6_key_118 : decode cX6_key 118 = .ok (.if_icmp .ge 24, 3) := by decide +kernel
theorem dX6_key_121 : decode cX6_key 121 = .ok (.aload_n 0, 1) := by decide +kernel
theorem dX6_key_122 : decode cX6_key 122 = .ok (.getfield 19, 3) := by decide +kernel
theorem dX6_key_125 : decode cX6_key 125 = .ok (.iload 6, 2) := by decide +kernel
theorem dX6_key_127 : decode cX6_key 127 = .ok (.invokestatic 78, 3) := by decide +kernel
theorem dX6_key_130 : decode cX6_key 130 = .ok (.iload 7, 2) := by decide +kernel
theorem dX6_key_132 : decode cX6_key 132 = .ok (.iadd, 1) := by decide +kernel
theorem dX6_key_133 : decode cX6_key 133 = .ok (.iaload, 1) := by decide +kernel
theorem dX6_key_134 : decode cX6_key 134 = .ok (.iload_n 3, 1) := by decide +kernel
theorem dX6_key_135 : decode cX6_key 135 = .ok (.if_icmp .ne 7, 3) := by decide +kernel
theorem dX6_key_138 : decode cX6_key 138 = .ok (.iconst 1, 1) := by decide +kernel
theorem dX6_key_139 : decode cX6_key 139 = .ok (.goto 4, 3) := by decide +kernel
theorem dX6_key_142 : decode cX6_key 142 = .ok (.iconst 0, 1) := by decide +kernel
theorem dX6_key_143 : decode cX6_key 143 = .ok (.istore 8, 2) := by decide +kernel
theorem dX6_key_145 : decode cX6_key 145 = .ok (.iload 8, 2) := by decide +kernel
theorem dX6_key_147 : decode cX6_key 147 = .ok (.ifCond .ne 21, 3) := by decide +kernel
theorem dX6_key_150 : decode cX6_key 150 = .ok (.aload_n 0, 1) := by decide +kernel
theorem dX6_key_151 : decode cX6_key 151 = .ok (.getfield 16, 3) := by decide +kernel
theorem dX6_key_154 : decode cX6_key 154 = .ok (.iload 6, 2) := by decide +kernel
theorem dX6_key_156 : decode cX6_key 156 = .ok (.iaload, 1) := by decide +kernel
theorem dX6_key_157 : decode cX6_key 157 = .ok (.bipush 16, 2) := by decide +kernel
theorem dX6_key_159 : decode cX6_key 159 = .ok (.if_icmp .ne 9, 3) := by decide +kernel
theorem dX6_key_162 : decode cX6_key 162 = .ok (.aload_n 0, 1) := by decide +kernel
theorem dX6_key_163 : decode cX6_key 163 = .ok (.iconst 3, 1) := by decide +kernel
theorem dX6_key_164 : decode cX6_key 164 = .ok (.invokevirtual 66, 3) := by decide +kernel
theorem dX6_key_167 : decode cX6_key 167 = .ok (.ireturn, 1) := by decide +kernel
theorem dX6_key_168 : decode cX6_key 168 = .ok (.iload 8, 2) := by decide +kernel
theorem dX6_key_170 : decode cX6_key 170 = .ok (.ifCond .ne 81, 3) := by decide +kernel
theorem dX6_key_173 : decode cX6_key 173 = .ok (.iload 6, 2) := by decide +kernel
theorem dX6_key_175 : decode cX6_key 175 = .ok (.invokestatic 78, 3) := by decide +kernel
theorem dX6_key_178 : decode cX6_key 178 = .ok (.aload_n 0, 1) := by decide +kernel
theorem dX6_key_179 : decode cX6_key 179 = .ok (.getfield 16, 3) := by decide +kernel
theorem dX6_key_182 : decode cX6_key 182 = .ok (.iload 6, 2) := by decide +kernel
theorem dX6_key_184 : decode cX6_key 184 = .ok (.iaload, 1) := by decide +kernel
theorem dX6_key_185 : decode cX6_key 185 = .ok (.iadd, 1) := by decide +kernel
theorem dX6_key_186 : decode cX6_key 186 = .ok (.istore 9, 2) := by decide +kernel
theorem dX6_key_188 : decode cX6_key 188 = .ok (.iload 9, 2) := by decide +kernel
theorem dX6_key_190 : decode cX6_key 190 = .ok (.iload 6, 2) := by decide +kernel
theorem dX6_key_192 : decode cX6_key 192 = .ok (.invokestatic 78, 3) := by decide +kernel
theorem dX6_key_195 : decode cX6_key 195 = .ok (.iload 7, 2) := by decide +kernel
theorem dX6_key_197 : decode cX6_key 197 = .ok (.iadd, 1) := by decide +kernel
theorem dX6_key_198 : decode cX6_key 198 = .ok (.if_icmp .le 42, 3) := by decide +kernel
theorem dX6_key_201 : decode cX6_key 201 = .ok (.aload_n 0, 1) := by decide +kernel
theorem dX6_key_202 : decode cX6_key 202 = .ok (.iload 9, 2) := by decide +kernel
theorem dX6_key_204 : decode cX6_key 204 = .ok (.aload_n 0, 1) := by decide +kernel
theorem dX6_key_205 : decode cX6_key 205 = .ok (.getfield 19, 3) := by decide +kernel
theorem dX6_key_208 : decode cX6_key 208 = .ok (.iload 9, 2) := by decide +kernel
theorem dX6_key_210 : decode cX6_key 210 = .ok (.iconst 1, 1) := by decide +kernel
theorem dX6_key_211 : decode cX6_key 211 = .ok (.isub, 1) := by decide +kernel
theorem dX6_key_212 : decode cX6_key 212 = .ok (.iaload, 1) := by decide +kernel
theorem dX6_key_213 : decode cX6_key 213 = .ok (.aload_n 0, 1) := by decide +kernel
theorem dX6_key_214 : decode cX6_key 214 = .ok (.getfield 22, 3) := by decide +kernel
theorem dX6_key_217 : decode cX6_key 217 = .ok (.iload 9, 2) := by decide +kernel
theorem dX6_key_219 : decode cX6_key 219 = .ok (.iconst 1, 1) := by decide +kernel
theorem dX6_key_220 : decode cX6_key 220 = .ok (.isub, 1) := by decide +kernel
theorem dX6_key_221 : decode cX6_key 221 = .ok (.iaload, 1) := by decide +kernel
theorem dX6_key_222 : decode cX6_key 222 = .ok (.aload_n 0, 1) := by decide +kernel
theorem dX6_key_223 : decode cX6_key 223 = .ok (.getfield 25, 3) := by decide +kernel
theorem dX6_key_226 : decode cX6_key 226 = .ok (.iload 9, 2) := by decide +kernel
theorem dX6_key_228 : decode cX6_key 228 = .ok (.iconst 1, 1) := by decide +kernel
theorem dX6_key_229 : decode cX6_key 229 = .ok (.isub, 1) := by decide +kernel
theorem dX6_key_230 : decode cX6_key 230 = .ok (.iaload, 1) := by decide +kernel
theorem dX6_key_231 : decode cX6_key 231 = .ok (.invokevirtual 81, 3) := by decide +kernel
theorem dX6_key_234 : decode cX6_key 234 = .ok (.iinc 9 (-1), 3) := by decide +kernel
theorem dX6_key_237 : decode cX6_key 237 = .ok (.goto (-49), 3) := by decide +kernel
theorem dX6_key_240 : decode cX6_key 240 = .ok (.aload_n 0, 1) := by decide +kernel
theorem dX6_key_241 : decode cX6_key 241 = .ok (.getfield 16, 3) := by decide +kernel
theorem dX6_key_244 : decode cX6_key 244 = .ok (.iload 6, 2) := by decide +kernel
theorem dX6_key_246 : decode cX6_key 246 = .ok (.dup2, 1) := by decide +kernel
theorem dX6_key_247 : decode cX6_key 247 = .ok (.iaload, 1) := by decide +kernel
theorem dX6_key_248 : decode cX6_key 248 = .ok (.iconst 1, 1) := by decide +kernel
theorem dX6_key_249 : decode cX6_key 249 = .ok (.iadd, 1) := by decide +kernel
theorem dX6_key_250 : decode cX6_key 250 = .ok (.iastore, 1) := by decide +kernel
theorem dX6_key_251 : decode cX6_key 251 = .ok (.aload_n 0, 1) := by decide +kernel
theorem dX6_key_252 : decode cX6_key 252 = .ok (.iload 6, 2) := by decide +kernel
theorem dX6_key_254 : decode cX6_key 254 = .ok (.invokestatic 78, 3) := by decide +kernel
theorem dX6_key_257 : decode cX6_key 257 = .ok (.iload 7, 2) := by decide +kernel
theorem dX6_key_259 : decode cX6_key 259 = .ok (.iadd, 1) := by decide +kernel
theorem dX6_key_260 : decode cX6_key 260 = .ok (.iload_n 3, 1) := by decide +kernel
theorem dX6_key_261 : decode cX6_key 261 = .ok (.iload 4, 2) := by decide +kernel
theorem dX6_key_263 : decode cX6_key 263 = .ok (.iload 5, 2) := by decide +kernel
theorem dX6_key_265 : decode cX6_key 265 = .ok (.invokevirtual 81, 3) := by decide +kernel
theorem dX6_key_268 : decode cX6_key 268 = .ok (.aload_n 0, 1) := by decide +kernel
theorem dX6_key_269 : decode cX6_key 269 = .ok (.getfield 16, 3) := by decide +kernel
theorem dX6_key_272 : decode cX6_key 272 = .ok (.iload 6, 2) := by decide +kernel
theorem dX6_key_274 : decode cX6_key 274 = .ok (.iaload, 1) := by decide +kernel
theorem dX6_key_275 : decode cX6_key 275 = .ok (.ireturn, 1) := by decide +kernel
theorem dX6_drop_0 : decode cX6_drop 0 = .ok (.iload_n 1, 1) := by decide +kernel
theorem dX6_drop_1 : decode cX6_drop 1 = .ok (.invokestatic 78, 3) := by decide +kernel
theorem dX6_drop_4 : decode cX6_drop 4 = .ok (.iload_n 2, 1) := by decide +kernel
theorem dX6_drop_5 : decode cX6_drop 5 = .ok (.iadd, 1) := by decide +kernel
theorem dX6_drop_6 : decode cX6_drop 6 = .ok (.istore_n 3, 1) := by decide +kernel
theorem dX6_drop_7 : decode cX6_drop 7 = .ok (.iload_n 3, 1) := by decide +kernel
theorem dX6_drop_8 : decode cX6_drop 8 = .ok (.iconst 1, 1) := by decide +kernel
theorem dX6_drop_9 : decode cX6_drop 9 = .ok (.iadd, 1) := by decide +kernel
theorem dX6_drop_10 : decode cX6_drop 10 = .ok (.iload_n 1, 1) := by decide +kernel
theorem dX6_drop_11 : decode cX6_drop 11 = .ok (.invokestatic 78, 3) := by decide +kernel
theorem dX6_drop_14 : decode cX6_drop 14 = .ok (.aload_n 0, 1) := by decide +kernel
theorem dX6_drop_15 : decode cX6_drop 15 = .ok (.getfield 16, 3) := by decide +kernel
theorem dX6_drop_18 : decode cX6_drop 18 = .ok (.iload_n 1, 1) := by decide +kernel
theorem dX6_drop_19 : decode cX6_drop 19 = .ok (.iaload, 1) := by decide +kernel
theorem dX6_drop_20 : decode cX6_drop 20 = .ok (.iadd, 1) := by decide +kernel
theorem dX6_drop_21 : decode cX6_drop 21 = .ok (.if_icmp .ge 38, 3) := by decide +kernel
theorem dX6_drop_24 : decode cX6_drop 24 = .ok (.aload_n 0, 1) := by decide +kernel
theorem dX6_drop_25 : decode cX6_drop 25 = .ok (.iload_n 3, 1) := by decide +kernel
theorem dX6_drop_26 : decode cX6_drop 26 = .ok (.aload_n 0, 1) := by decide +kernel
theorem dX6_drop_27 : decode cX6_drop 27 = .ok (.getfield 19, 3) := by decide +kernel
theorem dX6_drop_30 : decode cX6_drop 30 = .ok (.iload_n 3, 1) := by decide +kernel
theorem dX6_drop_31 : decode cX6_drop 31 = .ok (.iconst 1, 1) := by decide +kernel
theorem dX6_drop_32 : decode cX6_drop 32 = .ok (.iadd, 1) := by decide +kernel
theorem dX6_drop_33 : decode cX6_drop 33 = .ok (.iaload, 1) := by decide +kernel
theorem dX6_drop_34 : decode cX6_drop 34 = .ok (.aload_n 0, 1) := by decide +kernel
theorem dX6_drop_35 : decode cX6_drop 35 = .ok (.getfield 22, 3) := by decide +kernel
theorem dX6_drop_38 : decode cX6_drop 38 = .ok (.iload_n 3, 1) := by decide +kernel
theorem dX6_drop_39 : decode cX6_drop 39 = .ok (.iconst 1, 1) := by decide +kernel
theorem dX6_drop_40 : decode cX6_drop 40 = .ok (.iadd, 1) := by decide +kernel
theorem dX6_drop_41 : decode cX6_drop 41 = .ok (.iaload, 1) := by decide +kernel
theorem dX6_drop_42 : decode cX6_drop 42 = .ok (.aload_n 0, 1) := by decide +kernel
theorem dX6_drop_43 : decode cX6_drop 43 = .ok (.getfield 25, 3) := by decide +kernel
theorem dX6_drop_46 : decode cX6_drop 46 = .ok (.iload_n 3, 1) := by decide +kernel
theorem dX6_drop_47 : decode cX6_drop 47 = .ok (.iconst 1, 1) := by decide +kernel
theorem dX6_drop_48 : decode cX6_drop 48 = .ok (.iadd, 1) := by decide +kernel
theorem dX6_drop_49 : decode cX6_drop 49 = .ok (.iaload, 1) := by decide +kernel
theorem dX6_drop_50 : decode cX6_drop 50 = .ok (.invokevirtual 81, 3) := by decide +kernel
theorem dX6_drop_53 : decode cX6_drop 53 = .ok (.iinc 3 1, 3) := by decide +kernel
theorem dX6_drop_56 : decode cX6_drop 56 = .ok (.goto (-49), 3) := by decide +kernel
theorem dX6_drop_59 : decode cX6_drop 59 = .ok (.aload_n 0, 1) := by decide +kernel
theorem dX6_drop_60 : decode cX6_drop 60 = .ok (.getfield 16, 3) := by decide +kernel
theorem dX6_drop_63 : decode cX6_drop 63 = .ok (.iload_n 1, 1) := by decide +kernel
theorem dX6_drop_64 : decode cX6_drop 64 = .ok (.dup2, 1) := by decide +kernel
theorem dX6_drop_65 : decode cX6_drop 65 = .ok (.iaload, 1) := by decide +kernel
theorem dX6_drop_66 : decode cX6_drop 66 = .ok (.iconst 1, 1) := by decide +kernel
theorem dX6_drop_67 : decode cX6_drop 67 = .ok (.isub, 1) := by decide +kernel
theorem dX6_drop_68 : decode cX6_drop 68 = .ok (.iastore, 1) := by decide +kernel
theorem dX6_drop_69 : decode cX6_drop 69 = .ok (.return_, 1) := by decide +kernel
theorem dX6_unkey_0 : decode cX6_unkey 0 = .ok (.aload_n 0, 1) := by decide +kernel
theorem dX6_unkey_1 : decode cX6_unkey 1 = .ok (.iconst 0, 1) := by decide +kernel
theorem dX6_unkey_2 : decode cX6_unkey 2 = .ok (.putfield 43, 3) := by decide +kernel
theorem dX6_unkey_5 : decode cX6_unkey 5 = .ok (.aload_n 0, 1) := by decide +kernel
theorem dX6_unkey_6 : decode cX6_unkey 6 = .ok (.iload_n 1, 1) := by decide +kernel
theorem dX6_unkey_7 : decode cX6_unkey 7 = .ok (.iload_n 2, 1) := by decide +kernel
theorem dX6_unkey_8 : decode cX6_unkey 8 = .ok (.invokevirtual 74, 3) := by decide +kernel
theorem dX6_unkey_11 : decode cX6_unkey 11 = .ok (.ifCond .eq 23, 3) := by decide +kernel
theorem dX6_unkey_14 : decode cX6_unkey 14 = .ok (.iload_n 3, 1) := by decide +kernel
theorem dX6_unkey_15 : decode cX6_unkey 15 = .ok (.iconst 0, 1) := by decide +kernel
theorem dX6_unkey_16 : decode cX6_unkey 16 = .ok (.aload_n 0, 1) := by decide +kernel
theorem dX6_unkey_17 : decode cX6_unkey 17 = .ok (.getfield 16, 3) := by decide +kernel
theorem dX6_unkey_20 : decode cX6_unkey 20 = .ok (.iconst 4, 1) := by decide +kernel
theorem dX6_unkey_21 : decode cX6_unkey 21 = .ok (.iload_n 1, 1) := by decide +kernel
theorem dX6_unkey_22 : decode cX6_unkey 22 = .ok (.imul, 1) := by decide +kernel
theorem dX6_unkey_23 : decode cX6_unkey 23 = .ok (.iload_n 2, 1) := by decide +kernel
theorem dX6_unkey_24 : decode cX6_unkey 24 = .ok (.iadd, 1) := by decide +kernel
theorem dX6_unkey_25 : decode cX6_unkey 25 = .ok (.iaload, 1) := by decide +kernel
theorem dX6_unkey_26 : decode cX6_unkey 26 = .ok (.iconst 1, 1) := by decide +kernel
theorem dX6_unkey_27 : decode cX6_unkey 27 = .ok (.isub, 1) := by decide +kernel
theorem dX6_unkey_28 : decode cX6_unkey 28 = .ok (.invokestatic 50, 3) := by decide +kernel
theorem dX6_unkey_31 : decode cX6_unkey 31 = .ok (.ifCond .ne 9, 3) := by decide +kernel
theorem dX6_unkey_34 : decode cX6_unkey 34 = .ok (.aload_n 0, 1) := by decide +kernel
theorem dX6_unkey_35 : decode cX6_unkey 35 = .ok (.iconst 1, 1) := by decide +kernel
theorem dX6_unkey_36 : decode cX6_unkey 36 = .ok (.invokevirtual 66, 3) := by decide +kernel
theorem dX6_unkey_39 : decode cX6_unkey 39 = .ok (.ireturn, 1) := by decide +kernel
theorem dX6_unkey_40 : decode cX6_unkey 40 = .ok (.aload_n 0, 1) := by decide +kernel
theorem dX6_unkey_41 : decode cX6_unkey 41 = .ok (.iconst 4, 1) := by decide +kernel
theorem dX6_unkey_42 : decode cX6_unkey 42 = .ok (.iload_n 1, 1) := by decide +kernel
theorem dX6_unkey_43 : decode cX6_unkey 43 = .ok (.imul, 1) := by decide +kernel
theorem dX6_unkey_44 : decode cX6_unkey 44 = .ok (.iload_n 2, 1) := by decide +kernel
theorem dX6_unkey_45 : decode cX6_unkey 45 = .ok (.iadd, 1) := by decide +kernel
theorem dX6_unkey_46 : decode cX6_unkey 46 = .ok (.iload_n 3, 1) := by decide +kernel
theorem dX6_unkey_47 : decode cX6_unkey 47 = .ok (.invokevirtual 85, 3) := by decide +kernel
theorem dX6_unkey_50 : decode cX6_unkey 50 = .ok (.aload_n 0, 1) := by decide +kernel
theorem dX6_unkey_51 : decode cX6_unkey 51 = .ok (.getfield 16, 3) := by decide +kernel
theorem dX6_unkey_54 : decode cX6_unkey 54 = .ok (.iconst 4, 1) := by decide +kernel
theorem dX6_unkey_55 : decode cX6_unkey 55 = .ok (.iload_n 1, 1) := by decide +kernel
theorem dX6_unkey_56 : decode cX6_unkey 56 = .ok (.imul, 1) := by decide +kernel
theorem dX6_unkey_57 : decode cX6_unkey 57 = .ok (.iload_n 2, 1) := by decide +kernel
theorem dX6_unkey_58 : decode cX6_unkey 58 = .ok (.iadd, 1) := by decide +kernel
theorem dX6_unkey_59 : decode cX6_unkey 59 = .ok (.iaload, 1) := by decide +kernel
theorem dX6_unkey_60 : decode cX6_unkey 60 = .ok (.ireturn, 1) := by decide +kernel
theorem dX6_keys_0 : decode cX6_keys 0 = .ok (.aload_n 0, 1) := by decide +kernel
theorem dX6_keys_1 : decode cX6_keys 1 = .ok (.iconst 0, 1) := by decide +kernel
theorem dX6_keys_2 : decode cX6_keys 2 = .ok (.putfield 43, 3) := by decide +kernel
theorem dX6_keys_5 : decode cX6_keys 5 = .ok (.aload_n 0, 1) := by decide +kernel
theorem dX6_keys_6 : decode cX6_keys 6 = .ok (.iload_n 1, 1) := by decide +kernel
theorem dX6_keys_7 : decode cX6_keys 7 = .ok (.iload_n 2, 1) := by decide +kernel
theorem dX6_keys_8 : decode cX6_keys 8 = .ok (.invokevirtual 74, 3) := by decide +kernel
theorem dX6_keys_11 : decode cX6_keys 11 = .ok (.ifCond .eq 16, 3) := by decide +kernel
theorem dX6_keys_14 : decode cX6_keys 14 = .ok (.aload_n 0, 1) := by decide +kernel
theorem dX6_keys_15 : decode cX6_keys 15 = .ok (.getfield 16, 3) := by decide +kernel
theorem dX6_keys_18 : decode cX6_keys 18 = .ok (.iconst 4, 1) := by decide +kernel
theorem dX6_keys_19 : decode cX6_keys 19 = .ok (.iload_n 1, 1) := by decide +kernel
theorem dX6_keys_20 : decode cX6_keys 20 = .ok (.imul, 1) := by decide +kernel
theorem dX6_keys_21 : decode cX6_keys 21 = .ok (.iload_n 2, 1) := by decide +kernel
theorem dX6_keys_22 : decode cX6_keys 22 = .ok (.iadd, 1) := by decide +kernel
theorem dX6_keys_23 : decode cX6_keys 23 = .ok (.iaload, 1) := by decide +kernel
theorem dX6_keys_24 : decode cX6_keys 24 = .ok (.goto 8, 3) := by decide +kernel
theorem dX6_keys_27 : decode cX6_keys 27 = .ok (.aload_n 0, 1) := by decide +kernel
theorem dX6_keys_28 : decode cX6_keys 28 = .ok (.iconst 1, 1) := by decide +kernel
theorem dX6_keys_29 : decode cX6_keys 29 = .ok (.invokevirtual 66, 3) := by decide +kernel
theorem dX6_keys_32 : decode cX6_keys 32 = .ok (.ireturn, 1) := by decide +kernel
theorem dX6_keyOf_0 : decode cX6_keyOf 0 = .ok (.aload_n 0, 1) := by decide +kernel
theorem dX6_keyOf_1 : decode cX6_keyOf 1 = .ok (.iconst 0, 1) := by decide +kernel
theorem dX6_keyOf_2 : decode cX6_keyOf 2 = .ok (.putfield 43, 3) := by decide +kernel
theorem dX6_keyOf_5 : decode cX6_keyOf 5 = .ok (.aload_n 0, 1) := by decide +kernel
theorem dX6_keyOf_6 : decode cX6_keyOf 6 = .ok (.iload_n 1, 1) := by decide +kernel
theorem dX6_keyOf_7 : decode cX6_keyOf 7 = .ok (.iload_n 2, 1) := by decide +kernel
theorem dX6_keyOf_8 : decode cX6_keyOf 8 = .ok (.invokevirtual 74, 3) := by decide +kernel
theorem dX6_keyOf_11 : decode cX6_keyOf 11 = .ok (.ifCond .eq 33, 3) := by decide +kernel
theorem dX6_keyOf_14 : decode cX6_keyOf 14 = .ok (.iload_n 3, 1) := by decide +kernel
theorem dX6_keyOf_15 : decode cX6_keyOf 15 = .ok (.iconst 0, 1) := by decide +kernel
theorem dX6_keyOf_16 : decode cX6_keyOf 16 = .ok (.aload_n 0, 1) := by decide +kernel
theorem dX6_keyOf_17 : decode cX6_keyOf 17 = .ok (.getfield 16, 3) := by decide +kernel
theorem dX6_keyOf_20 : decode cX6_keyOf 20 = .ok (.iconst 4, 1) := by decide +kernel
theorem dX6_keyOf_21 : decode cX6_keyOf 21 = .ok (.iload_n 1, 1) := by decide +kernel
theorem dX6_keyOf_22 : decode cX6_keyOf 22 = .ok (.imul, 1) := by decide +kernel
theorem dX6_keyOf_23 : decode cX6_keyOf 23 = .ok (.iload_n 2, 1) := by decide +kernel
theorem dX6_keyOf_24 : decode cX6_keyOf 24 = .ok (.iadd, 1) := by decide +kernel
theorem dX6_keyOf_25 : decode cX6_keyOf 25 = .ok (.iaload, 1) := by decide +kernel
theorem dX6_keyOf_26 : decode cX6_keyOf 26 = .ok (.iconst 1, 1) := by decide +kernel
theorem dX6_keyOf_27 : decode cX6_keyOf 27 = .ok (.isub, 1) := by decide +kernel
theorem dX6_keyOf_28 : decode cX6_keyOf 28 = .ok (.invokestatic 50, 3) := by decide +kernel
theorem dX6_keyOf_31 : decode cX6_keyOf 31 = .ok (.ifCond .eq 13, 3) := by decide +kernel
theorem dX6_keyOf_34 : decode cX6_keyOf 34 = .ok (.iload 4, 2) := by decide +kernel
theorem dX6_keyOf_36 : decode cX6_keyOf 36 = .ok (.iconst 0, 1) := by decide +kernel
theorem dX6_keyOf_37 : decode cX6_keyOf 37 = .ok (.iconst 2, 1) := by decide +kernel
theorem dX6_keyOf_38 : decode cX6_keyOf 38 = .ok (.invokestatic 50, 3) := by decide +kernel
theorem dX6_keyOf_41 : decode cX6_keyOf 41 = .ok (.ifCond .ne 9, 3) := by decide +kernel
theorem dX6_keyOf_44 : decode cX6_keyOf 44 = .ok (.aload_n 0, 1) := by decide +kernel
theorem dX6_keyOf_45 : decode cX6_keyOf 45 = .ok (.iconst 1, 1) := by decide +kernel
theorem dX6_keyOf_46 : decode cX6_keyOf 46 = .ok (.invokevirtual 66, 3) := by decide +kernel
theorem dX6_keyOf_49 : decode cX6_keyOf 49 = .ok (.ireturn, 1) := by decide +kernel
theorem dX6_keyOf_50 : decode cX6_keyOf 50 = .ok (.iconst 4, 1) := by decide +kernel
theorem dX6_keyOf_51 : decode cX6_keyOf 51 = .ok (.iload_n 1, 1) := by decide +kernel
theorem dX6_keyOf_52 : decode cX6_keyOf 52 = .ok (.imul, 1) := by decide +kernel
theorem dX6_keyOf_53 : decode cX6_keyOf 53 = .ok (.iload_n 2, 1) := by decide +kernel
theorem dX6_keyOf_54 : decode cX6_keyOf 54 = .ok (.iadd, 1) := by decide +kernel
theorem dX6_keyOf_55 : decode cX6_keyOf 55 = .ok (.invokestatic 78, 3) := by decide +kernel
theorem dX6_keyOf_58 : decode cX6_keyOf 58 = .ok (.iload_n 3, 1) := by decide +kernel
theorem dX6_keyOf_59 : decode cX6_keyOf 59 = .ok (.iadd, 1) := by decide +kernel
theorem dX6_keyOf_60 : decode cX6_keyOf 60 = .ok (.istore 5, 2) := by decide +kernel
theorem dX6_keyOf_62 : decode cX6_keyOf 62 = .ok (.iload 4, 2) := by decide +kernel
theorem dX6_keyOf_64 : decode cX6_keyOf 64 = .ok (.ifCond .ne 13, 3) := by decide +kernel
theorem dX6_keyOf_67 : decode cX6_keyOf 67 = .ok (.aload_n 0, 1) := by decide +kernel
theorem dX6_keyOf_68 : decode cX6_keyOf 68 = .ok (.getfield 19, 3) := by decide +kernel
theorem dX6_keyOf_71 : decode cX6_keyOf 71 = .ok (.iload 5, 2) := by decide +kernel
theorem dX6_keyOf_73 : decode cX6_keyOf 73 = .ok (.iaload, 1) := by decide +kernel
theorem dX6_keyOf_74 : decode cX6_keyOf 74 = .ok (.goto 26, 3) := by decide +kernel
theorem dX6_keyOf_77 : decode cX6_keyOf 77 = .ok (.iload 4, 2) := by decide +kernel
theorem dX6_keyOf_79 : decode cX6_keyOf 79 = .ok (.iconst 1, 1) := by decide +kernel
theorem dX6_keyOf_80 : decode cX6_keyOf 80 = .ok (.if_icmp .ne 13, 3) := by decide +kernel
theorem dX6_keyOf_83 : decode cX6_keyOf 83 = .ok (.aload_n 0, 1) := by decide +kernel
theorem dX6_keyOf_84 : decode cX6_keyOf 84 = .ok (.getfield 22, 3) := by decide +kernel
theorem dX6_keyOf_87 : decode cX6_keyOf 87 = .ok (.iload 5, 2) := by decide +kernel
theorem dX6_keyOf_89 : decode cX6_keyOf 89 = .ok (.iaload, 1) := by decide +kernel
theorem dX6_keyOf_90 : decode cX6_keyOf 90 = .ok (.goto 10, 3) := by decide +kernel
theorem dX6_keyOf_93 : decode cX6_keyOf 93 = .ok (.aload_n 0, 1) := by decide +kernel
theorem dX6_keyOf_94 : decode cX6_keyOf 94 = .ok (.getfield 25, 3) := by decide +kernel
theorem dX6_keyOf_97 : decode cX6_keyOf 97 = .ok (.iload 5, 2) := by decide +kernel
theorem dX6_keyOf_99 : decode cX6_keyOf 99 = .ok (.iaload, 1) := by decide +kernel
theorem dX6_keyOf_100 : decode cX6_keyOf 100 = .ok (.ireturn, 1) := by decide +kernel
theorem dX6_eased_0 : decode cX6_eased 0 = .ok (.iload_n 1, 1) := by decide +kernel
theorem dX6_eased_1 : decode cX6_eased 1 = .ok (.i2l, 1) := by decide +kernel
theorem dX6_eased_2 : decode cX6_eased 2 = .ok (.iload_n 0, 1) := by decide +kernel
theorem dX6_eased_3 : decode cX6_eased 3 = .ok (.i2l, 1) := by decide +kernel
theorem dX6_eased_4 : decode cX6_eased 4 = .ok (.lsub, 1) := by decide +kernel
theorem dX6_eased_5 : decode cX6_eased 5 = .ok (.lstore 7, 2) := by decide +kernel
theorem dX6_eased_7 : decode cX6_eased 7 = .ok (.iload_n 2, 1) := by decide +kernel
theorem dX6_eased_8 : decode cX6_eased 8 = .ok (.ifCond .ne 5, 3) := by decide +kernel
theorem dX6_eased_11 : decode cX6_eased 11 = .ok (.iload_n 0, 1) := by decide +kernel
theorem dX6_eased_12 : decode cX6_eased 12 = .ok (.ireturn, 1) := by decide +kernel
theorem dX6_eased_13 : decode cX6_eased 13 = .ok (.iload_n 2, 1) := by decide +kernel
theorem dX6_eased_14 : decode cX6_eased 14 = .ok (.iconst 1, 1) := by decide +kernel
theorem dX6_eased_15 : decode cX6_eased 15 = .ok (.if_icmp .ne 15, 3) := by decide +kernel
theorem dX6_eased_18 : decode cX6_eased 18 = .ok (.iload_n 0, 1) := by decide +kernel
theorem dX6_eased_19 : decode cX6_eased 19 = .ok (.lload 7, 2) := by decide +kernel
theorem dX6_eased_21 : decode cX6_eased 21 = .ok (.lload_n 3, 1) := by decide +kernel
theorem dX6_eased_22 : decode cX6_eased 22 = .ok (.lmul, 1) := by decide +kernel
theorem dX6_eased_23 : decode cX6_eased 23 = .ok (.lload 5, 2) := by decide +kernel
theorem dX6_eased_25 : decode cX6_eased 25 = .ok (.invokestatic 89, 3) := by decide +kernel
theorem dX6_eased_28 : decode cX6_eased 28 = .ok (.iadd, 1) := by decide +kernel
theorem dX6_eased_29 : decode cX6_eased 29 = .ok (.ireturn, 1) := by decide +kernel
theorem dX6_eased_30 : decode cX6_eased 30 = .ok (.iload_n 2, 1) := by decide +kernel
theorem dX6_eased_31 : decode cX6_eased 31 = .ok (.iconst 2, 1) := by decide +kernel
theorem dX6_eased_32 : decode cX6_eased 32 = .ok (.if_icmp .ne 20, 3) := by decide +kernel
theorem dX6_eased_35 : decode cX6_eased 35 = .ok (.iload_n 0, 1) := by decide +kernel
theorem dX6_eased_36 : decode cX6_eased 36 = .ok (.lload 7, 2) := by decide +kernel
theorem dX6_eased_38 : decode cX6_eased 38 = .ok (.lload_n 3, 1) := by decide +kernel
theorem dX6_eased_39 : decode cX6_eased 39 = .ok (.lmul, 1) := by decide +kernel
theorem dX6_eased_40 : decode cX6_eased 40 = .ok (.lload_n 3, 1) := by decide +kernel
theorem dX6_eased_41 : decode cX6_eased 41 = .ok (.lmul, 1) := by decide +kernel
theorem dX6_eased_42 : decode cX6_eased 42 = .ok (.lload 5, 2) := by decide +kernel
theorem dX6_eased_44 : decode cX6_eased 44 = .ok (.lload 5, 2) := by decide +kernel
theorem dX6_eased_46 : decode cX6_eased 46 = .ok (.lmul, 1) := by decide +kernel
theorem dX6_eased_47 : decode cX6_eased 47 = .ok (.invokestatic 89, 3) := by decide +kernel
theorem dX6_eased_50 : decode cX6_eased 50 = .ok (.iadd, 1) := by decide +kernel
theorem dX6_eased_51 : decode cX6_eased 51 = .ok (.ireturn, 1) := by decide +kernel
theorem dX6_eased_52 : decode cX6_eased 52 = .ok (.iload_n 2, 1) := by decide +kernel
theorem dX6_eased_53 : decode cX6_eased 53 = .ok (.iconst 3, 1) := by decide +kernel
theorem dX6_eased_54 : decode cX6_eased 54 = .ok (.if_icmp .ne 27, 3) := by decide +kernel
theorem dX6_eased_57 : decode cX6_eased 57 = .ok (.iload_n 0, 1) := by decide +kernel
theorem dX6_eased_58 : decode cX6_eased 58 = .ok (.lload 7, 2) := by decide +kernel
theorem dX6_eased_60 : decode cX6_eased 60 = .ok (.lload_n 3, 1) := by decide +kernel
theorem dX6_eased_61 : decode cX6_eased 61 = .ok (.lmul, 1) := by decide +kernel
theorem dX6_eased_62 : decode cX6_eased 62 = .ok (.ldc2_w 58, 3) := by decide +kernel
theorem dX6_eased_65 : decode cX6_eased 65 = .ok (.lload 5, 2) := by decide +kernel
theorem dX6_eased_67 : decode cX6_eased 67 = .ok (.lmul, 1) := by decide +kernel
theorem dX6_eased_68 : decode cX6_eased 68 = .ok (.lload_n 3, 1) := by decide +kernel
theorem dX6_eased_69 : decode cX6_eased 69 = .ok (.lsub, 1) := by decide +kernel
theorem dX6_eased_70 : decode cX6_eased 70 = .ok (.lmul, 1) := by decide +kernel
theorem dX6_eased_71 : decode cX6_eased 71 = .ok (.lload 5, 2) := by decide +kernel
theorem dX6_eased_73 : decode cX6_eased 73 = .ok (.lload 5, 2) := by decide +kernel
theorem dX6_eased_75 : decode cX6_eased 75 = .ok (.lmul, 1) := by decide +kernel
theorem dX6_eased_76 : decode cX6_eased 76 = .ok (.invokestatic 89, 3) := by decide +kernel
theorem dX6_eased_79 : decode cX6_eased 79 = .ok (.iadd, 1) := by decide +kernel
theorem dX6_eased_80 : decode cX6_eased 80 = .ok (.ireturn, 1) := by decide +kernel
theorem dX6_eased_81 : decode cX6_eased 81 = .ok (.iload_n 0, 1) := by decide +kernel
theorem dX6_eased_82 : decode cX6_eased 82 = .ok (.lload 7, 2) := by decide +kernel
theorem dX6_eased_84 : decode cX6_eased 84 = .ok (.lload_n 3, 1) := by decide +kernel
theorem dX6_eased_85 : decode cX6_eased 85 = .ok (.lmul, 1) := by decide +kernel
theorem dX6_eased_86 : decode cX6_eased 86 = .ok (.lload_n 3, 1) := by decide +kernel
theorem dX6_eased_87 : decode cX6_eased 87 = .ok (.lmul, 1) := by decide +kernel
theorem dX6_eased_88 : decode cX6_eased 88 = .ok (.ldc2_w 93, 3) := by decide +kernel
theorem dX6_eased_91 : decode cX6_eased 91 = .ok (.lload 5, 2) := by decide +kernel
theorem dX6_eased_93 : decode cX6_eased 93 = .ok (.lmul, 1) := by decide +kernel
theorem dX6_eased_94 : decode cX6_eased 94 = .ok (.ldc2_w 58, 3) := by decide +kernel
theorem dX6_eased_97 : decode cX6_eased 97 = .ok (.lload_n 3, 1) := by decide +kernel
theorem dX6_eased_98 : decode cX6_eased 98 = .ok (.lmul, 1) := by decide +kernel
theorem dX6_eased_99 : decode cX6_eased 99 = .ok (.lsub, 1) := by decide +kernel
theorem dX6_eased_100 : decode cX6_eased 100 = .ok (.lmul, 1) := by decide +kernel
theorem dX6_eased_101 : decode cX6_eased 101 = .ok (.lload 5, 2) := by decide +kernel
theorem dX6_eased_103 : decode cX6_eased 103 = .ok (.lload 5, 2) := by decide +kernel
theorem dX6_eased_105 : decode cX6_eased 105 = .ok (.lmul, 1) := by decide +kernel
theorem dX6_eased_106 : decode cX6_eased 106 = .ok (.lload 5, 2) := by decide +kernel
theorem dX6_eased_108 : decode cX6_eased 108 = .ok (.lmul, 1) := by decide +kernel
theorem dX6_eased_109 : decode cX6_eased 109 = .ok (.invokestatic 89, 3) := by decide +kernel
theorem dX6_eased_112 : decode cX6_eased 112 = .ok (.iadd, 1) := by decide +kernel
theorem dX6_eased_113 : decode cX6_eased 113 = .ok (.ireturn, 1) := by decide +kernel
theorem dX6_worth_0 : decode cX6_worth 0 = .ok (.iload_n 1, 1) := by decide +kernel
theorem dX6_worth_1 : decode cX6_worth 1 = .ok (.invokestatic 78, 3) := by decide +kernel
theorem dX6_worth_4 : decode cX6_worth 4 = .ok (.istore_n 3, 1) := by decide +kernel
theorem dX6_worth_5 : decode cX6_worth 5 = .ok (.iload_n 3, 1) := by decide +kernel
theorem dX6_worth_6 : decode cX6_worth 6 = .ok (.aload_n 0, 1) := by decide +kernel
theorem dX6_worth_7 : decode cX6_worth 7 = .ok (.getfield 16, 3) := by decide +kernel
theorem dX6_worth_10 : decode cX6_worth 10 = .ok (.iload_n 1, 1) := by decide +kernel
theorem dX6_worth_11 : decode cX6_worth 11 = .ok (.iaload, 1) := by decide +kernel
theorem dX6_worth_12 : decode cX6_worth 12 = .ok (.iadd, 1) := by decide +kernel
theorem dX6_worth_13 : decode cX6_worth 13 = .ok (.iconst 1, 1) := by decide +kernel
theorem dX6_worth_14 : decode cX6_worth 14 = .ok (.isub, 1) := by decide +kernel
theorem dX6_worth_15 : decode cX6_worth 15 = .ok (.istore 4, 2) := by decide +kernel
theorem dX6_worth_17 : decode cX6_worth 17 = .ok (.iload_n 2, 1) := by decide +kernel
theorem dX6_worth_18 : decode cX6_worth 18 = .ok (.aload_n 0, 1) := by decide +kernel
theorem dX6_worth_19 : decode cX6_worth 19 = .ok (.getfield 19, 3) := by decide +kernel
theorem dX6_worth_22 : decode cX6_worth 22 = .ok (.iload_n 3, 1) := by decide +kernel
theorem dX6_worth_23 : decode cX6_worth 23 = .ok (.iaload, 1) := by decide +kernel
theorem dX6_worth_24 : decode cX6_worth 24 = .ok (.if_icmp .gt 10, 3) := by decide +kernel
theorem dX6_worth_27 : decode cX6_worth 27 = .ok (.aload_n 0, 1) := by decide +kernel
theorem dX6_worth_28 : decode cX6_worth 28 = .ok (.getfield 22, 3) := by decide +kernel
theorem dX6_worth_31 : decode cX6_worth 31 = .ok (.iload_n 3, 1) := by decide +kernel
theorem dX6_worth_32 : decode cX6_worth 32 = .ok (.iaload, 1) := by decide +kernel
theorem dX6_worth_33 : decode cX6_worth 33 = .ok (.ireturn, 1) := by decide +kernel
theorem dX6_worth_34 : decode cX6_worth 34 = .ok (.iload_n 2, 1) := by decide +kernel
theorem dX6_worth_35 : decode cX6_worth 35 = .ok (.aload_n 0, 1) := by decide +kernel
theorem dX6_worth_36 : decode cX6_worth 36 = .ok (.getfield 19, 3) := by decide +kernel
theorem dX6_worth_39 : decode cX6_worth 39 = .ok (.iload 4, 2) := by decide +kernel
theorem dX6_worth_41 : decode cX6_worth 41 = .ok (.iaload, 1) := by decide +kernel
theorem dX6_worth_42 : decode cX6_worth 42 = .ok (.if_icmp .lt 11, 3) := by decide +kernel
theorem dX6_worth_45 : decode cX6_worth 45 = .ok (.aload_n 0, 1) := by decide +kernel
theorem dX6_worth_46 : decode cX6_worth 46 = .ok (.getfield 22, 3) := by decide +kernel
theorem dX6_worth_49 : decode cX6_worth 49 = .ok (.iload 4, 2) := by decide +kernel
theorem dX6_worth_51 : decode cX6_worth 51 = .ok (.iaload, 1) := by decide +kernel
theorem dX6_worth_52 : decode cX6_worth 52 = .ok (.ireturn, 1) := by decide +kernel
theorem dX6_worth_53 : decode cX6_worth 53 = .ok (.iload_n 3, 1) := by decide +kernel
theorem dX6_worth_54 : decode cX6_worth 54 = .ok (.istore 5, 2) := by decide +kernel
theorem dX6_worth_56 : decode cX6_worth 56 = .ok (.aload_n 0, 1) := by decide +kernel
theorem dX6_worth_57 : decode cX6_worth 57 = .ok (.getfield 19, 3) := by decide +kernel
theorem dX6_worth_60 : decode cX6_worth 60 = .ok (.iload 5, 2) := by decide +kernel
theorem dX6_worth_62 : decode cX6_worth 62 = .ok (.iconst 1, 1) := by decide +kernel
theorem dX6_worth_63 : decode cX6_worth 63 = .ok (.iadd, 1) := by decide +kernel
theorem dX6_worth_64 : decode cX6_worth 64 = .ok (.iaload, 1) := by decide +kernel
theorem dX6_worth_65 : decode cX6_worth 65 = .ok (.iload_n 2, 1) := by decide +kernel
theorem dX6_worth_66 : decode cX6_worth 66 = .ok (.if_icmp .gt 9, 3) := by decide +kernel
theorem dX6_worth_69 : decode cX6_worth 69 = .ok (.iinc 5 1, 3) := by decide +kernel
theorem dX6_worth_72 : decode cX6_worth 72 = .ok (.goto (-16), 3) := by decide +kernel
theorem dX6_worth_75 : decode cX6_worth 75 = .ok (.aload_n 0, 1) := by decide +kernel
theorem dX6_worth_76 : decode cX6_worth 76 = .ok (.getfield 22, 3) := by decide +kernel
theorem dX6_worth_79 : decode cX6_worth 79 = .ok (.iload 5, 2) := by decide +kernel
theorem dX6_worth_81 : decode cX6_worth 81 = .ok (.iaload, 1) := by decide +kernel
theorem dX6_worth_82 : decode cX6_worth 82 = .ok (.aload_n 0, 1) := by decide +kernel
theorem dX6_worth_83 : decode cX6_worth 83 = .ok (.getfield 22, 3) := by decide +kernel
theorem dX6_worth_86 : decode cX6_worth 86 = .ok (.iload 5, 2) := by decide +kernel
theorem dX6_worth_88 : decode cX6_worth 88 = .ok (.iconst 1, 1) := by decide +kernel
theorem dX6_worth_89 : decode cX6_worth 89 = .ok (.iadd, 1) := by decide +kernel
theorem dX6_worth_90 : decode cX6_worth 90 = .ok (.iaload, 1) := by decide +kernel
theorem dX6_worth_91 : decode cX6_worth 91 = .ok (.aload_n 0, 1) := by decide +kernel
theorem dX6_worth_92 : decode cX6_worth 92 = .ok (.getfield 25, 3) := by decide +kernel
theorem dX6_worth_95 : decode cX6_worth 95 = .ok (.iload 5, 2) := by decide +kernel
theorem dX6_worth_97 : decode cX6_worth 97 = .ok (.iaload, 1) := by decide +kernel
theorem dX6_worth_98 : decode cX6_worth 98 = .ok (.iload_n 2, 1) := by decide +kernel
theorem dX6_worth_99 : decode cX6_worth 99 = .ok (.aload_n 0, 1) := by decide +kernel
theorem dX6_worth_100 : decode cX6_worth 100 = .ok (.getfield 19, 3) := by decide +kernel
theorem dX6_worth_103 : decode cX6_worth 103 = .ok (.iload 5, 2) := by decide +kernel
theorem dX6_worth_105 : decode cX6_worth 105 = .ok (.iaload, 1) := by decide +kernel
theorem dX6_worth_106 : decode cX6_worth 106 = .ok (.isub, 1) := by decide +kernel
theorem dX6_worth_107 : decode cX6_worth 107 = .ok (.i2l, 1) := by decide +kernel
theorem dX6_worth_108 : decode cX6_worth 108 = .ok (.aload_n 0, 1) := by decide +kernel
theorem dX6_worth_109 : decode cX6_worth 109 = .ok (.getfield 19, 3) := by decide +kernel
theorem dX6_worth_112 : decode cX6_worth 112 = .ok (.iload 5, 2) := by decide +kernel
theorem dX6_worth_114 : decode cX6_worth 114 = .ok (.iconst 1, 1) := by decide +kernel
theorem dX6_worth_115 : decode cX6_worth 115 = .ok (.iadd, 1) := by decide +kernel
theorem dX6_worth_116 : decode cX6_worth 116 = .ok (.iaload, 1) := by decide +kernel
theorem dX6_worth_117 : decode cX6_worth 117 = .ok (.aload_n 0, 1) := by decide +kernel
theorem dX6_worth_118 : decode cX6_worth 118 = .ok (.getfield 19, 3) := by decide +kernel
theorem dX6_worth_121 : decode cX6_worth 121 = .ok (.iload 5, 2) := by decide +kernel
theorem dX6_worth_123 : decode cX6_worth 123 = .ok (.iaload, 1) := by decide +kernel
theorem dX6_worth_124 : decode cX6_worth 124 = .ok (.isub, 1) := by decide +kernel
theorem dX6_worth_125 : decode cX6_worth 125 = .ok (.i2l, 1) := by decide +kernel
theorem dX6_worth_126 : decode cX6_worth 126 = .ok (.invokestatic 95, 3) := by decide +kernel
theorem dX6_worth_129 : decode cX6_worth 129 = .ok (.ireturn, 1) := by decide +kernel
theorem dX6_trackAt_0 : decode cX6_trackAt 0 = .ok (.aload_n 0, 1) := by decide +kernel
theorem dX6_trackAt_1 : decode cX6_trackAt 1 = .ok (.iconst 0, 1) := by decide +kernel
theorem dX6_trackAt_2 : decode cX6_trackAt 2 = .ok (.putfield 43, 3) := by decide +kernel
theorem dX6_trackAt_5 : decode cX6_trackAt 5 = .ok (.aload_n 0, 1) := by decide +kernel
theorem dX6_trackAt_6 : decode cX6_trackAt 6 = .ok (.iload_n 1, 1) := by decide +kernel
theorem dX6_trackAt_7 : decode cX6_trackAt 7 = .ok (.iload_n 2, 1) := by decide +kernel
theorem dX6_trackAt_8 : decode cX6_trackAt 8 = .ok (.invokevirtual 74, 3) := by decide +kernel
theorem dX6_trackAt_11 : decode cX6_trackAt 11 = .ok (.ifCond .ne 9, 3) := by decide +kernel
theorem dX6_trackAt_14 : decode cX6_trackAt 14 = .ok (.aload_n 0, 1) := by decide +kernel
theorem dX6_trackAt_15 : decode cX6_trackAt 15 = .ok (.iconst 1, 1) := by decide +kernel
theorem dX6_trackAt_16 : decode cX6_trackAt 16 = .ok (.invokevirtual 66, 3) := by decide +kernel
theorem dX6_trackAt_19 : decode cX6_trackAt 19 = .ok (.ireturn, 1) := by decide +kernel
theorem dX6_trackAt_20 : decode cX6_trackAt 20 = .ok (.iload_n 3, 1) := by decide +kernel
theorem dX6_trackAt_21 : decode cX6_trackAt 21 = .ok (.iconst 0, 1) := by decide +kernel
theorem dX6_trackAt_22 : decode cX6_trackAt 22 = .ok (.aload_n 0, 1) := by decide +kernel
theorem dX6_trackAt_23 : decode cX6_trackAt 23 = .ok (.getfield 13, 3) := by decide +kernel
theorem dX6_trackAt_26 : decode cX6_trackAt 26 = .ok (.iload_n 1, 1) := by decide +kernel
theorem dX6_trackAt_27 : decode cX6_trackAt 27 = .ok (.iaload, 1) := by decide +kernel
theorem dX6_trackAt_28 : decode cX6_trackAt 28 = .ok (.invokestatic 50, 3) := by decide +kernel
theorem dX6_trackAt_31 : decode cX6_trackAt 31 = .ok (.ifCond .ne 9, 3) := by decide +kernel
theorem dX6_trackAt_34 : decode cX6_trackAt 34 = .ok (.aload_n 0, 1) := by decide +kernel
theorem dX6_trackAt_35 : decode cX6_trackAt 35 = .ok (.iconst 2, 1) := by decide +kernel
theorem dX6_trackAt_36 : decode cX6_trackAt 36 = .ok (.invokevirtual 66, 3) := by decide +kernel
theorem dX6_trackAt_39 : decode cX6_trackAt 39 = .ok (.ireturn, 1) := by decide +kernel
theorem dX6_trackAt_40 : decode cX6_trackAt 40 = .ok (.iconst 4, 1) := by decide +kernel
theorem dX6_trackAt_41 : decode cX6_trackAt 41 = .ok (.iload_n 1, 1) := by decide +kernel
theorem dX6_trackAt_42 : decode cX6_trackAt 42 = .ok (.imul, 1) := by decide +kernel
theorem dX6_trackAt_43 : decode cX6_trackAt 43 = .ok (.iload_n 2, 1) := by decide +kernel
theorem dX6_trackAt_44 : decode cX6_trackAt 44 = .ok (.iadd, 1) := by decide +kernel
theorem dX6_trackAt_45 : decode cX6_trackAt 45 = .ok (.istore 4, 2) := by decide +kernel
theorem dX6_trackAt_47 : decode cX6_trackAt 47 = .ok (.aload_n 0, 1) := by decide +kernel
theorem dX6_trackAt_48 : decode cX6_trackAt 48 = .ok (.getfield 16, 3) := by decide +kernel
theorem dX6_trackAt_51 : decode cX6_trackAt 51 = .ok (.iload 4, 2) := by decide +kernel
theorem dX6_trackAt_53 : decode cX6_trackAt 53 = .ok (.iaload, 1) := by decide +kernel
theorem dX6_trackAt_54 : decode cX6_trackAt 54 = .ok (.ifCond .ne 11, 3) := by decide +kernel
theorem dX6_trackAt_57 : decode cX6_trackAt 57 = .ok (.aload_n 0, 1) := by decide +kernel
theorem dX6_trackAt_58 : decode cX6_trackAt 58 = .ok (.iconst 3, 1) := by decide +kernel
theorem dX6_trackAt_59 : decode cX6_trackAt 59 = .ok (.invokevirtual 66, 3) := by decide +kernel
theorem dX6_trackAt_62 : decode cX6_trackAt 62 = .ok (.goto 10, 3) := by decide +kernel
theorem dX6_trackAt_65 : decode cX6_trackAt 65 = .ok (.aload_n 0, 1) := by decide +kernel
theorem dX6_trackAt_66 : decode cX6_trackAt 66 = .ok (.iload 4, 2) := by decide +kernel
theorem dX6_trackAt_68 : decode cX6_trackAt 68 = .ok (.iload_n 3, 1) := by decide +kernel
theorem dX6_trackAt_69 : decode cX6_trackAt 69 = .ok (.invokevirtual 99, 3) := by decide +kernel
theorem dX6_trackAt_72 : decode cX6_trackAt 72 = .ok (.ireturn, 1) := by decide +kernel
theorem dX6_cue_0 : decode cX6_cue 0 = .ok (.aload_n 0, 1) := by decide +kernel
theorem dX6_cue_1 : decode cX6_cue 1 = .ok (.iconst 0, 1) := by decide +kernel
theorem dX6_cue_2 : decode cX6_cue 2 = .ok (.putfield 43, 3) := by decide +kernel
theorem dX6_cue_5 : decode cX6_cue 5 = .ok (.aload_n 0, 1) := by decide +kernel
theorem dX6_cue_6 : decode cX6_cue 6 = .ok (.iload_n 1, 1) := by decide +kernel
theorem dX6_cue_7 : decode cX6_cue 7 = .ok (.invokevirtual 54, 3) := by decide +kernel
theorem dX6_cue_10 : decode cX6_cue 10 = .ok (.ifCond .ne 9, 3) := by decide +kernel
theorem dX6_cue_13 : decode cX6_cue 13 = .ok (.aload_n 0, 1) := by decide +kernel
theorem dX6_cue_14 : decode cX6_cue 14 = .ok (.iconst 1, 1) := by decide +kernel
theorem dX6_cue_15 : decode cX6_cue 15 = .ok (.invokevirtual 66, 3) := by decide +kernel
theorem dX6_cue_18 : decode cX6_cue 18 = .ok (.ireturn, 1) := by decide +kernel
theorem dX6_cue_19 : decode cX6_cue 19 = .ok (.iload_n 2, 1) := by decide +kernel
theorem dX6_cue_20 : decode cX6_cue 20 = .ok (.iconst 0, 1) := by decide +kernel
theorem dX6_cue_21 : decode cX6_cue 21 = .ok (.aload_n 0, 1) := by decide +kernel
theorem dX6_cue_22 : decode cX6_cue 22 = .ok (.getfield 13, 3) := by decide +kernel
theorem dX6_cue_25 : decode cX6_cue 25 = .ok (.iload_n 1, 1) := by decide +kernel
theorem dX6_cue_26 : decode cX6_cue 26 = .ok (.iaload, 1) := by decide +kernel
theorem dX6_cue_27 : decode cX6_cue 27 = .ok (.invokestatic 50, 3) := by decide +kernel
theorem dX6_cue_30 : decode cX6_cue 30 = .ok (.ifCond .eq 13, 3) := by decide +kernel
theorem dX6_cue_33 : decode cX6_cue 33 = .ok (.iload_n 3, 1) := by decide +kernel
theorem dX6_cue_34 : decode cX6_cue 34 = .ok (.iconst 0, 1) := by decide +kernel
theorem dX6_cue_35 : decode cX6_cue 35 = .ok (.bipush 99, 2) := by decide +kernel
theorem dX6_cue_37 : decode cX6_cue 37 = .ok (.invokestatic 50, 3) := by decide +kernel
theorem dX6_cue_40 : decode cX6_cue 40 = .ok (.ifCond .ne 9, 3) := by decide +kernel
theorem dX6_cue_43 : decode cX6_cue 43 = .ok (.aload_n 0, 1) := by decide +kernel
theorem dX6_cue_44 : decode cX6_cue 44 = .ok (.iconst 2, 1) := by decide +kernel
theorem dX6_cue_45 : decode cX6_cue 45 = .ok (.invokevirtual 66, 3) := by decide +kernel
theorem dX6_cue_48 : decode cX6_cue 48 = .ok (.ireturn, 1) := by decide +kernel
theorem dX6_cue_49 : decode cX6_cue 49 = .ok (.aload_n 0, 1) := by decide +kernel
theorem dX6_cue_50 : decode cX6_cue 50 = .ok (.getfield 28, 3) := by decide +kernel
theorem dX6_cue_53 : decode cX6_cue 53 = .ok (.iload_n 1, 1) := by decide +kernel
theorem dX6_cue_54 : decode cX6_cue 54 = .ok (.iaload, 1) := by decide +kernel
theorem dX6_cue_55 : decode cX6_cue 55 = .ok (.bipush 8, 2) := by decide +kernel
theorem dX6_cue_57 : decode cX6_cue 57 = .ok (.if_icmp .ne 9, 3) := by decide +kernel
theorem dX6_cue_60 : decode cX6_cue 60 = .ok (.aload_n 0, 1) := by decide +kernel
theorem dX6_cue_61 : decode cX6_cue 61 = .ok (.iconst 3, 1) := by decide +kernel
theorem dX6_cue_62 : decode cX6_cue 62 = .ok (.invokevirtual 66, 3) := by decide +kernel
theorem dX6_cue_65 : decode cX6_cue 65 = .ok (.ireturn, 1) := by decide +kernel
theorem dX6_cue_66 : decode cX6_cue 66 = .ok (.bipush 8, 2) := by decide +kernel
theorem dX6_cue_68 : decode cX6_cue 68 = .ok (.iload_n 1, 1) := by decide +kernel
theorem dX6_cue_69 : decode cX6_cue 69 = .ok (.imul, 1) := by decide +kernel
theorem dX6_cue_70 : decode cX6_cue 70 = .ok (.aload_n 0, 1) := by decide +kernel
theorem dX6_cue_71 : decode cX6_cue 71 = .ok (.getfield 28, 3) := by decide +kernel
theorem dX6_cue_74 : decode cX6_cue 74 = .ok (.iload_n 1, 1) := by decide +kernel
theorem dX6_cue_75 : decode cX6_cue 75 = .ok (.iaload, 1) := by decide +kernel
theorem dX6_cue_76 : decode cX6_cue 76 = .ok (.iadd, 1) := by decide +kernel
theorem dX6_cue_77 : decode cX6_cue 77 = .ok (.istore 4, 2) := by decide +kernel
theorem dX6_cue_79 : decode cX6_cue 79 = .ok (.iload 4, 2) := by decide +kernel
theorem dX6_cue_81 : decode cX6_cue 81 = .ok (.bipush 8, 2) := by decide +kernel
theorem dX6_cue_83 : decode cX6_cue 83 = .ok (.iload_n 1, 1) := by decide +kernel
theorem dX6_cue_84 : decode cX6_cue 84 = .ok (.imul, 1) := by decide +kernel
theorem dX6_cue_85 : decode cX6_cue 85 = .ok (.if_icmp .le 54, 3) := by decide +kernel
theorem dX6_cue_88 : decode cX6_cue 88 = .ok (.aload_n 0, 1) := by decide +kernel
theorem dX6_cue_89 : decode cX6_cue 89 = .ok (.getfield 31, 3) := by decide +kernel
theorem dX6_cue_92 : decode cX6_cue 92 = .ok (.iload 4, 2) := by decide +kernel
theorem dX6_cue_94 : decode cX6_cue 94 = .ok (.iconst 1, 1) := by decide +kernel
theorem dX6_cue_95 : decode cX6_cue 95 = .ok (.isub, 1) := by decide +kernel
theorem dX6_cue_96 : decode cX6_cue 96 = .ok (.iaload, 1) := by decide +kernel
theorem dX6_cue_97 : decode cX6_cue 97 = .ok (.iload_n 2, 1) := by decide +kernel
theorem dX6_cue_98 : decode cX6_cue 98 = .ok (.if_icmp .le 41, 3) := by decide +kernel
theorem dX6_cue_101 : decode cX6_cue 101 = .ok (.aload_n 0, 1) := by decide +kernel
theorem dX6_cue_102 : decode cX6_cue 102 = .ok (.getfield 31, 3) := by decide +kernel
theorem dX6_cue_105 : decode cX6_cue 105 = .ok (.iload 4, 2) := by decide +kernel
theorem dX6_cue_107 : decode cX6_cue 107 = .ok (.aload_n 0, 1) := by decide +kernel
theorem dX6_cue_108 : decode cX6_cue 108 = .ok (.getfield 31, 3) := by decide +kernel
theorem dX6_cue_111 : decode cX6_cue 111 = .ok (.iload 4, 2) := by decide +kernel
theorem dX6_cue_113 : decode cX6_cue 113 = .ok (.iconst 1, 1) := by decide +kernel
theorem dX6_cue_114 : decode cX6_cue 114 = .ok (.isub, 1) := by decide +kernel
theorem dX6_cue_115 : decode cX6_cue 115 = .ok (.iaload, 1) := by decide +kernel
theorem dX6_cue_116 : decode cX6_cue 116 = .ok (.iastore, 1) := by decide +kernel
theorem dX6_cue_117 : decode cX6_cue 117 = .ok (.aload_n 0, 1) := by decide +kernel
theorem dX6_cue_118 : decode cX6_cue 118 = .ok (.getfield 34, 3) := by decide +kernel
theorem dX6_cue_121 : decode cX6_cue 121 = .ok (.iload 4, 2) := by decide +kernel
theorem dX6_cue_123 : decode cX6_cue 123 = .ok (.aload_n 0, 1) := by decide +kernel
theorem dX6_cue_124 : decode cX6_cue 124 = .ok (.getfield 34, 3) := by decide +kernel
theorem dX6_cue_127 : decode cX6_cue 127 = .ok (.iload 4, 2) := by decide +kernel
theorem dX6_cue_129 : decode cX6_cue 129 = .ok (.iconst 1, 1) := by decide +kernel
theorem dX6_cue_130 : decode cX6_cue 130 = .ok (.isub, 1) := by decide +kernel
theorem dX6_cue_131 : decode cX6_cue 131 = .ok (.iaload, 1) := by decide +kernel
theorem dX6_cue_132 : decode cX6_cue 132 = .ok (.iastore, 1) := by decide +kernel
theorem dX6_cue_133 : decode cX6_cue 133 = .ok (.iinc 4 (-1), 3) := by decide +kernel
theorem dX6_cue_136 : decode cX6_cue 136 = .ok (.goto (-57), 3) := by decide +kernel
theorem dX6_cue_139 : decode cX6_cue 139 = .ok (.aload_n 0, 1) := by decide +kernel
theorem dX6_cue_140 : decode cX6_cue 140 = .ok (.getfield 31, 3) := by decide +kernel
theorem dX6_cue_143 : decode cX6_cue 143 = .ok (.iload 4, 2) := by decide +kernel
theorem dX6_cue_145 : decode cX6_cue 145 = .ok (.iload_n 2, 1) := by decide +kernel
theorem dX6_cue_146 : decode cX6_cue 146 = .ok (.iastore, 1) := by decide +kernel
theorem dX6_cue_147 : decode cX6_cue 147 = .ok (.aload_n 0, 1) := by decide +kernel
theorem dX6_cue_148 : decode cX6_cue 148 = .ok (.getfield 34, 3) := by decide +kernel
theorem dX6_cue_151 : decode cX6_cue 151 = .ok (.iload 4, 2) := by decide +kernel
theorem dX6_cue_153 : decode cX6_cue 153 = .ok (.iload_n 3, 1) := by decide +kernel
theorem dX6_cue_154 : decode cX6_cue 154 = .ok (.iastore, 1) := by decide +kernel
theorem dX6_cue_155 : decode cX6_cue 155 = .ok (.aload_n 0, 1) := by decide +kernel
theorem dX6_cue_156 : decode cX6_cue 156 = .ok (.getfield 28, 3) := by decide +kernel
theorem dX6_cue_159 : decode cX6_cue 159 = .ok (.iload_n 1, 1) := by decide +kernel
theorem dX6_cue_160 : decode cX6_cue 160 = .ok (.dup2, 1) := by decide +kernel
theorem dX6_cue_161 : decode cX6_cue 161 = .ok (.iaload, 1) := by decide +kernel
theorem dX6_cue_162 : decode cX6_cue 162 = .ok (.iconst 1, 1) := by decide +kernel
theorem dX6_cue_163 : decode cX6_cue 163 = .ok (.iadd, 1) := by decide +kernel
theorem dX6_cue_164 : decode cX6_cue 164 = .ok (.iastore, 1) := by decide +kernel
theorem dX6_cue_165 : decode cX6_cue 165 = .ok (.aload_n 0, 1) := by decide +kernel
theorem dX6_cue_166 : decode cX6_cue 166 = .ok (.getfield 28, 3) := by decide +kernel
theorem dX6_cue_169 : decode cX6_cue 169 = .ok (.iload_n 1, 1) := by decide +kernel
theorem dX6_cue_170 : decode cX6_cue 170 = .ok (.iaload, 1) := by decide +kernel
theorem dX6_cue_171 : decode cX6_cue 171 = .ok (.ireturn, 1) := by decide +kernel
theorem dX6_cueOf_0 : decode cX6_cueOf 0 = .ok (.aload_n 0, 1) := by decide +kernel
theorem dX6_cueOf_1 : decode cX6_cueOf 1 = .ok (.iconst 0, 1) := by decide +kernel
theorem dX6_cueOf_2 : decode cX6_cueOf 2 = .ok (.putfield 43, 3) := by decide +kernel
theorem dX6_cueOf_5 : decode cX6_cueOf 5 = .ok (.aload_n 0, 1) := by decide +kernel
theorem dX6_cueOf_6 : decode cX6_cueOf 6 = .ok (.iload_n 1, 1) := by decide +kernel
theorem dX6_cueOf_7 : decode cX6_cueOf 7 = .ok (.invokevirtual 54, 3) := by decide +kernel
theorem dX6_cueOf_10 : decode cX6_cueOf 10 = .ok (.ifCond .eq 28, 3) := by decide +kernel
theorem dX6_cueOf_13 : decode cX6_cueOf 13 = .ok (.iload_n 2, 1) := by decide +kernel
theorem dX6_cueOf_14 : decode cX6_cueOf 14 = .ok (.iconst 0, 1) := by decide +kernel
theorem dX6_cueOf_15 : decode cX6_cueOf 15 = .ok (.aload_n 0, 1) := by decide +kernel
theorem dX6_cueOf_16 : decode cX6_cueOf 16 = .ok (.getfield 28, 3) := by decide +kernel
theorem dX6_cueOf_19 : decode cX6_cueOf 19 = .ok (.iload_n 1, 1) := by decide +kernel
theorem dX6_cueOf_20 : decode cX6_cueOf 20 = .ok (.iaload, 1) := by decide +kernel
theorem dX6_cueOf_21 : decode cX6_cueOf 21 = .ok (.iconst 1, 1) := by decide +kernel
theorem dX6_cueOf_22 : decode cX6_cueOf 22 = .ok (.isub, 1) := by decide +kernel
theorem dX6_cueOf_23 : decode cX6_cueOf 23 = .ok (.invokestatic 50, 3) := by decide +kernel
theorem dX6_cueOf_26 : decode cX6_cueOf 26 = .ok (.ifCond .eq 12, 3) := by decide +kernel
theorem dX6_cueOf_29 : decode cX6_cueOf 29 = .ok (.iload_n 3, 1) := by decide +kernel
theorem dX6_cueOf_30 : decode cX6_cueOf 30 = .ok (.iconst 0, 1) := by decide +kernel
theorem dX6_cueOf_31 : decode cX6_cueOf 31 = .ok (.iconst 1, 1) := by decide +kernel
theorem dX6_cueOf_32 : decode cX6_cueOf 32 = .ok (.invokestatic 50, 3) := by decide +kernel
theorem dX6_cueOf_35 : decode cX6_cueOf 35 = .ok (.ifCond .ne 9, 3) := by decide +kernel
theorem dX6_cueOf_38 : decode cX6_cueOf 38 = .ok (.aload_n 0, 1) := by decide +kernel
theorem dX6_cueOf_39 : decode cX6_cueOf 39 = .ok (.iconst 1, 1) := by decide +kernel
theorem dX6_cueOf_40 : decode cX6_cueOf 40 = .ok (.invokevirtual 66, 3) := by decide +kernel
theorem dX6_cueOf_43 : decode cX6_cueOf 43 = .ok (.ireturn, 1) := by decide +kernel
theorem dX6_cueOf_44 : decode cX6_cueOf 44 = .ok (.iload_n 3, 1) := by decide +kernel
theorem dX6_cueOf_45 : decode cX6_cueOf 45 = .ok (.ifCond .ne 17, 3) := by decide +kernel
theorem dX6_cueOf_48 : decode cX6_cueOf 48 = .ok (.aload_n 0, 1) := by decide +kernel
theorem dX6_cueOf_49 : decode cX6_cueOf 49 = .ok (.getfield 31, 3) := by decide +kernel
theorem dX6_cueOf_52 : decode cX6_cueOf 52 = .ok (.bipush 8, 2) := by decide +kernel
theorem dX6_cueOf_54 : decode cX6_cueOf 54 = .ok (.iload_n 1, 1) := by decide +kernel
theorem dX6_cueOf_55 : decode cX6_cueOf 55 = .ok (.imul, 1) := by decide +kernel
theorem dX6_cueOf_56 : decode cX6_cueOf 56 = .ok (.iload_n 2, 1) := by decide +kernel
theorem dX6_cueOf_57 : decode cX6_cueOf 57 = .ok (.iadd, 1) := by decide +kernel
theorem dX6_cueOf_58 : decode cX6_cueOf 58 = .ok (.iaload, 1) := by decide +kernel
theorem dX6_cueOf_59 : decode cX6_cueOf 59 = .ok (.goto 14, 3) := by decide +kernel
theorem dX6_cueOf_62 : decode cX6_cueOf 62 = .ok (.aload_n 0, 1) := by decide +kernel
theorem dX6_cueOf_63 : decode cX6_cueOf 63 = .ok (.getfield 34, 3) := by decide +kernel
theorem dX6_cueOf_66 : decode cX6_cueOf 66 = .ok (.bipush 8, 2) := by decide +kernel
theorem dX6_cueOf_68 : decode cX6_cueOf 68 = .ok (.iload_n 1, 1) := by decide +kernel
theorem dX6_cueOf_69 : decode cX6_cueOf 69 = .ok (.imul, 1) := by decide +kernel
theorem dX6_cueOf_70 : decode cX6_cueOf 70 = .ok (.iload_n 2, 1) := by decide +kernel
theorem dX6_cueOf_71 : decode cX6_cueOf 71 = .ok (.iadd, 1) := by decide +kernel
theorem dX6_cueOf_72 : decode cX6_cueOf 72 = .ok (.iaload, 1) := by decide +kernel
theorem dX6_cueOf_73 : decode cX6_cueOf 73 = .ok (.ireturn, 1) := by decide +kernel
theorem dX6_mirrorTrack_0 : decode cX6_mirrorTrack 0 = .ok (.aload_n 0, 1) := by decide +kernel
theorem dX6_mirrorTrack_1 : decode cX6_mirrorTrack 1 = .ok (.getfield 16, 3) := by decide +kernel
theorem dX6_mirrorTrack_4 : decode cX6_mirrorTrack 4 = .ok (.iload_n 1, 1) := by decide +kernel
theorem dX6_mirrorTrack_5 : decode cX6_mirrorTrack 5 = .ok (.iaload, 1) := by decide +kernel
theorem dX6_mirrorTrack_6 : decode cX6_mirrorTrack 6 = .ok (.istore_n 3, 1) := by decide +kernel
theorem dX6_mirrorTrack_7 : decode cX6_mirrorTrack 7 = .ok (.bipush 48, 2) := by decide +kernel
theorem dX6_mirrorTrack_9 : decode cX6_mirrorTrack 9 = .ok (.newarray .int, 2) := by decide +kernel
theorem dX6_mirrorTrack_11 : decode cX6_mirrorTrack 11 = .ok (.astore 4, 2) := by decide +kernel
theorem dX6_mirrorTrack_13 : decode cX6_mirrorTrack 13 = .ok (.iconst 0, 1) := by decide +kernel
theorem dX6_mirrorTrack_14 : decode cX6_mirrorTrack 14 = .ok (.istore 5, 2) := by decide +kernel
theorem dX6_mirrorTrack_16 : decode cX6_mirrorTrack 16 = .ok (.iload 5, 2) := by decide +kernel
theorem dX6_mirrorTrack_18 : decode cX6_mirrorTrack 18 = .ok (.iload_n 3, 1) := by decide +kernel
theorem dX6_mirrorTrack_19 : decode cX6_mirrorTrack 19 = .ok (.if_icmp .ge 108, 3) := by decide +kernel
theorem dX6_mirrorTrack_22 : decode cX6_mirrorTrack 22 = .ok (.iload_n 1, 1) := by decide +kernel
theorem dX6_mirrorTrack_23 : decode cX6_mirrorTrack 23 = .ok (.invokestatic 78, 3) := by decide +kernel
theorem dX6_mirrorTrack_26 : decode cX6_mirrorTrack 26 = .ok (.iload_n 3, 1) := by decide +kernel
theorem dX6_mirrorTrack_27 : decode cX6_mirrorTrack 27 = .ok (.iadd, 1) := by decide +kernel
theorem dX6_mirrorTrack_28 : decode cX6_mirrorTrack 28 = .ok (.iconst 1, 1) := by decide +kernel
theorem dX6_mirrorTrack_29 : decode cX6_mirrorTrack 29 = .ok (.isub, 1) := by decide +kernel
theorem dX6_mirrorTrack_30 : decode cX6_mirrorTrack 30 = .ok (.iload 5, 2) := by decide +kernel
theorem dX6_mirrorTrack_32 : decode cX6_mirrorTrack 32 = .ok (.isub, 1) := by decide +kernel
theorem dX6_mirrorTrack_33 : decode cX6_mirrorTrack 33 = .ok (.istore 6, 2) := by decide +kernel
theorem dX6_mirrorTrack_35 : decode cX6_mirrorTrack 35 = .ok (.iload 5, 2) := by decide +kernel
theorem dX6_mirrorTrack_37 : decode cX6_mirrorTrack 37 = .ok (.iconst 1, 1) := by decide +kernel
theorem dX6_mirrorTrack_38 : decode cX6_mirrorTrack 38 = .ok (.iadd, 1) := by decide +kernel
theorem dX6_mirrorTrack_39 : decode cX6_mirrorTrack 39 = .ok (.iload_n 3, 1) := by decide +kernel
theorem dX6_mirrorTrack_40 : decode cX6_mirrorTrack 40 = .ok (.if_icmp .ne 7, 3) := by decide +kernel
theorem dX6_mirrorTrack_43 : decode cX6_mirrorTrack 43 = .ok (.iconst 1, 1) := by decide +kernel
theorem dX6_mirrorTrack_44 : decode cX6_mirrorTrack 44 = .ok (.goto 12, 3) := by decide +kernel
theorem dX6_mirrorTrack_47 : decode cX6_mirrorTrack 47 = .ok (.aload_n 0, 1) := by decide +kernel
theorem dX6_mirrorTrack_48 : decode cX6_mirrorTrack 48 = .ok (.getfield 25, 3) := by decide +kernel
theorem dX6_mirrorTrack_51 : decode cX6_mirrorTrack 51 = .ok (.iload 6, 2) := by decide +kernel
theorem dX6_mirrorTrack_53 : decode cX6_mirrorTrack 53 = .ok (.iconst 1, 1) := by decide +kernel
theorem dX6_mirrorTrack_54 : decode cX6_mirrorTrack 54 = .ok (.isub, 1) := by decide +kernel
theorem dX6_mirrorTrack_55 : decode cX6_mirrorTrack 55 = .ok (.iaload, 1) := by decide +kernel
theorem dX6_mirrorTrack_56 : decode cX6_mirrorTrack 56 = .ok (.istore 7, 2) := by decide +kernel
theorem dX6_mirrorTrack_58 : decode cX6_mirrorTrack 58 = .ok (.aload 4, 2) := by decide +kernel
theorem dX6_mirrorTrack_60 : decode cX6_mirrorTrack 60 = .ok (.iconst 3, 1) := by decide +kernel
theorem dX6_mirrorTrack_61 : decode cX6_mirrorTrack 61 = .ok (.iload 5, 2) := by decide +kernel
theorem dX6_mirrorTrack_63 : decode cX6_mirrorTrack 63 = .ok (.imul, 1) := by decide +kernel
theorem dX6_mirrorTrack_64 : decode cX6_mirrorTrack 64 = .ok (.iload_n 2, 1) := by decide +kernel
theorem dX6_mirrorTrack_65 : decode cX6_mirrorTrack 65 = .ok (.aload_n 0, 1) := by decide +kernel
theorem dX6_mirrorTrack_66 : decode cX6_mirrorTrack 66 = .ok (.getfield 19, 3) := by decide +kernel
theorem dX6_mirrorTrack_69 : decode cX6_mirrorTrack 69 = .ok (.iload 6, 2) := by decide +kernel
theorem dX6_mirrorTrack_71 : decode cX6_mirrorTrack 71 = .ok (.iaload, 1) := by decide +kernel
theorem dX6_mirrorTrack_72 : decode cX6_mirrorTrack 72 = .ok (.isub, 1) := by decide +kernel
theorem dX6_mirrorTrack_73 : decode cX6_mirrorTrack 73 = .ok (.iastore, 1) := by decide +kernel
theorem dX6_mirrorTrack_74 : decode cX6_mirrorTrack 74 = .ok (.aload 4, 2) := by decide +kernel
theorem dX6_mirrorTrack_76 : decode cX6_mirrorTrack 76 = .ok (.iconst 3, 1) := by decide +kernel
theorem dX6_mirrorTrack_77 : decode cX6_mirrorTrack 77 = .ok (.iload 5, 2) := by decide +kernel
theorem dX6_mirrorTrack_79 : decode cX6_mirrorTrack 79 = .ok (.imul, 1) := by decide +kernel
theorem dX6_mirrorTrack_80 : decode cX6_mirrorTrack 80 = .ok (.iconst 1, 1) := by decide +kernel
theorem dX6_mirrorTrack_81 : decode cX6_mirrorTrack 81 = .ok (.iadd, 1) := by decide +kernel
theorem dX6_mirrorTrack_82 : decode cX6_mirrorTrack 82 = .ok (.aload_n 0, 1) := by decide +kernel
theorem dX6_mirrorTrack_83 : decode cX6_mirrorTrack 83 = .ok (.getfield 22, 3) := by decide +kernel
theorem dX6_mirrorTrack_86 : decode cX6_mirrorTrack 86 = .ok (.iload 6, 2) := by decide +kernel
theorem dX6_mirrorTrack_88 : decode cX6_mirrorTrack 88 = .ok (.iaload, 1) := by decide +kernel
theorem dX6_mirrorTrack_89 : decode cX6_mirrorTrack 89 = .ok (.iastore, 1) := by decide +kernel
theorem dX6_mirrorTrack_90 : decode cX6_mirrorTrack 90 = .ok (.aload 4, 2) := by decide +kernel
theorem dX6_mirrorTrack_92 : decode cX6_mirrorTrack 92 = .ok (.iconst 3, 1) := by decide +kernel
theorem dX6_mirrorTrack_93 : decode cX6_mirrorTrack 93 = .ok (.iload 5, 2) := by decide +kernel
theorem dX6_mirrorTrack_95 : decode cX6_mirrorTrack 95 = .ok (.imul, 1) := by decide +kernel
theorem dX6_mirrorTrack_96 : decode cX6_mirrorTrack 96 = .ok (.iconst 2, 1) := by decide +kernel
theorem dX6_mirrorTrack_97 : decode cX6_mirrorTrack 97 = .ok (.iadd, 1) := by decide +kernel
theorem dX6_mirrorTrack_98 : decode cX6_mirrorTrack 98 = .ok (.iload 7, 2) := by decide +kernel
theorem dX6_mirrorTrack_100 : decode cX6_mirrorTrack 100 = .ok (.iconst 2, 1) := by decide +kernel
theorem dX6_mirrorTrack_101 : decode cX6_mirrorTrack 101 = .ok (.if_icmp .ne 7, 3) := by decide +kernel
theorem dX6_mirrorTrack_104 : decode cX6_mirrorTrack 104 = .ok (.iconst 3, 1) := by decide +kernel
theorem dX6_mirrorTrack_105 : decode cX6_mirrorTrack 105 = .ok (.goto 15, 3) := by decide +kernel
theorem dX6_mirrorTrack_108 : decode cX6_mirrorTrack 108 = .ok (.iload 7, 2) := by decide +kernel
theorem dX6_mirrorTrack_110 : decode cX6_mirrorTrack 110 = .ok (.iconst 3, 1) := by decide +kernel
theorem dX6_mirrorTrack_111 : decode cX6_mirrorTrack 111 = .ok (.if_icmp .ne 7, 3) := by decide +kernel
theorem dX6_mirrorTrack_114 : decode cX6_mirrorTrack 114 = .ok (.iconst 2, 1) := by decide +kernel
theorem dX6_mirrorTrack_115 : decode cX6_mirrorTrack 115 = .ok (.goto 5, 3) := by decide +kernel
theorem dX6_mirrorTrack_118 : decode cX6_mirrorTrack 118 = .ok (.iload 7, 2) := by decide +kernel
theorem dX6_mirrorTrack_120 : decode cX6_mirrorTrack 120 = .ok (.iastore, 1) := by decide +kernel
theorem dX6_mirrorTrack_121 : decode cX6_mirrorTrack 121 = .ok (.iinc 5 1, 3) := by decide +kernel
theorem dX6_mirrorTrack_124 : decode cX6_mirrorTrack 124 = .ok (.goto (-108), 3) := by decide +kernel
theorem dX6_mirrorTrack_127 : decode cX6_mirrorTrack 127 = .ok (.iconst 0, 1) := by decide +kernel
theorem dX6_mirrorTrack_128 : decode cX6_mirrorTrack 128 = .ok (.istore 5, 2) := by decide +kernel
theorem dX6_mirrorTrack_130 : decode cX6_mirrorTrack 130 = .ok (.iload 5, 2) := by decide +kernel
theorem dX6_mirrorTrack_132 : decode cX6_mirrorTrack 132 = .ok (.iload_n 3, 1) := by decide +kernel
theorem dX6_mirrorTrack_133 : decode cX6_mirrorTrack 133 = .ok (.if_icmp .ge 45, 3) := by decide +kernel
theorem dX6_mirrorTrack_136 : decode cX6_mirrorTrack 136 = .ok (.aload_n 0, 1) := by decide +kernel
theorem dX6_mirrorTrack_137 : decode cX6_mirrorTrack 137 = .ok (.iload_n 1, 1) := by decide +kernel
theorem dX6_mirrorTrack_138 : decode cX6_mirrorTrack 138 = .ok (.invokestatic 78, 3) := by decide +kernel
theorem dX6_mirrorTrack_141 : decode cX6_mirrorTrack 141 = .ok (.iload 5, 2) := by decide +kernel
theorem dX6_mirrorTrack_143 : decode cX6_mirrorTrack 143 = .ok (.iadd, 1) := by decide +kernel
theorem dX6_mirrorTrack_144 : decode cX6_mirrorTrack 144 = .ok (.aload 4, 2) := by decide +kernel
theorem dX6_mirrorTrack_146 : decode cX6_mirrorTrack 146 = .ok (.iconst 3, 1) := by decide +kernel
theorem dX6_mirrorTrack_147 : decode cX6_mirrorTrack 147 = .ok (.iload 5, 2) := by decide +kernel
theorem dX6_mirrorTrack_149 : decode cX6_mirrorTrack 149 = .ok (.imul, 1) := by decide +kernel
theorem dX6_mirrorTrack_150 : decode cX6_mirrorTrack 150 = .ok (.iaload, 1) := by decide +kernel
theorem dX6_mirrorTrack_151 : decode cX6_mirrorTrack 151 = .ok (.aload 4, 2) := by decide +kernel
theorem dX6_mirrorTrack_153 : decode cX6_mirrorTrack 153 = .ok (.iconst 3, 1) := by decide +kernel
theorem dX6_mirrorTrack_154 : decode cX6_mirrorTrack 154 = .ok (.iload 5, 2) := by decide +kernel
theorem dX6_mirrorTrack_156 : decode cX6_mirrorTrack 156 = .ok (.imul, 1) := by decide +kernel
theorem dX6_mirrorTrack_157 : decode cX6_mirrorTrack 157 = .ok (.iconst 1, 1) := by decide +kernel
theorem dX6_mirrorTrack_158 : decode cX6_mirrorTrack 158 = .ok (.iadd, 1) := by decide +kernel
theorem dX6_mirrorTrack_159 : decode cX6_mirrorTrack 159 = .ok (.iaload, 1) := by decide +kernel
theorem dX6_mirrorTrack_160 : decode cX6_mirrorTrack 160 = .ok (.aload 4, 2) := by decide +kernel
theorem dX6_mirrorTrack_162 : decode cX6_mirrorTrack 162 = .ok (.iconst 3, 1) := by decide +kernel
theorem dX6_mirrorTrack_163 : decode cX6_mirrorTrack 163 = .ok (.iload 5, 2) := by decide +kernel
theorem dX6_mirrorTrack_165 : decode cX6_mirrorTrack 165 = .ok (.imul, 1) := by decide +kernel
theorem dX6_mirrorTrack_166 : decode cX6_mirrorTrack 166 = .ok (.iconst 2, 1) := by decide +kernel
theorem dX6_mirrorTrack_167 : decode cX6_mirrorTrack 167 = .ok (.iadd, 1) := by decide +kernel
theorem dX6_mirrorTrack_168 : decode cX6_mirrorTrack 168 = .ok (.iaload, 1) := by decide +kernel
theorem dX6_mirrorTrack_169 : decode cX6_mirrorTrack 169 = .ok (.invokevirtual 81, 3) := by decide +kernel
theorem dX6_mirrorTrack_172 : decode cX6_mirrorTrack 172 = .ok (.iinc 5 1, 3) := by decide +kernel
theorem dX6_mirrorTrack_175 : decode cX6_mirrorTrack 175 = .ok (.goto (-45), 3) := by decide +kernel
theorem dX6_mirrorTrack_178 : decode cX6_mirrorTrack 178 = .ok (.return_, 1) := by decide +kernel
theorem dX6_mirror_0 : decode cX6_mirror 0 = .ok (.aload_n 0, 1) := by decide +kernel
theorem dX6_mirror_1 : decode cX6_mirror 1 = .ok (.iconst 0, 1) := by decide +kernel
theorem dX6_mirror_2 : decode cX6_mirror 2 = .ok (.putfield 43, 3) := by decide +kernel
theorem dX6_mirror_5 : decode cX6_mirror 5 = .ok (.aload_n 0, 1) := by decide +kernel
theorem dX6_mirror_6 : decode cX6_mirror 6 = .ok (.iload_n 1, 1) := by decide +kernel
theorem dX6_mirror_7 : decode cX6_mirror 7 = .ok (.invokevirtual 54, 3) := by decide +kernel
theorem dX6_mirror_10 : decode cX6_mirror 10 = .ok (.ifCond .ne 9, 3) := by decide +kernel
theorem dX6_mirror_13 : decode cX6_mirror 13 = .ok (.aload_n 0, 1) := by decide +kernel
theorem dX6_mirror_14 : decode cX6_mirror 14 = .ok (.iconst 1, 1) := by decide +kernel
theorem dX6_mirror_15 : decode cX6_mirror 15 = .ok (.invokevirtual 66, 3) := by decide +kernel
theorem dX6_mirror_18 : decode cX6_mirror 18 = .ok (.ireturn, 1) := by decide +kernel
theorem dX6_mirror_19 : decode cX6_mirror 19 = .ok (.iconst 0, 1) := by decide +kernel
theorem dX6_mirror_20 : decode cX6_mirror 20 = .ok (.istore_n 2, 1) := by decide +kernel
theorem dX6_mirror_21 : decode cX6_mirror 21 = .ok (.iload_n 2, 1) := by decide +kernel
theorem dX6_mirror_22 : decode cX6_mirror 22 = .ok (.iconst 4, 1) := by decide +kernel
theorem dX6_mirror_23 : decode cX6_mirror 23 = .ok (.if_icmp .ge 24, 3) := by decide +kernel
theorem dX6_mirror_26 : decode cX6_mirror 26 = .ok (.aload_n 0, 1) := by decide +kernel
theorem dX6_mirror_27 : decode cX6_mirror 27 = .ok (.iconst 4, 1) := by decide +kernel
theorem dX6_mirror_28 : decode cX6_mirror 28 = .ok (.iload_n 1, 1) := by decide +kernel
theorem dX6_mirror_29 : decode cX6_mirror 29 = .ok (.imul, 1) := by decide +kernel
theorem dX6_mirror_30 : decode cX6_mirror 30 = .ok (.iload_n 2, 1) := by decide +kernel
theorem dX6_mirror_31 : decode cX6_mirror 31 = .ok (.iadd, 1) := by decide +kernel
theorem dX6_mirror_32 : decode cX6_mirror 32 = .ok (.aload_n 0, 1) := by decide +kernel
theorem dX6_mirror_33 : decode cX6_mirror 33 = .ok (.getfield 13, 3) := by decide +kernel
theorem dX6_mirror_36 : decode cX6_mirror 36 = .ok (.iload_n 1, 1) := by decide +kernel
theorem dX6_mirror_37 : decode cX6_mirror 37 = .ok (.iaload, 1) := by decide +kernel
theorem dX6_mirror_38 : decode cX6_mirror 38 = .ok (.invokevirtual 102, 3) := by decide +kernel
theorem dX6_mirror_41 : decode cX6_mirror 41 = .ok (.iinc 2 1, 3) := by decide +kernel
theorem dX6_mirror_44 : decode cX6_mirror 44 = .ok (.goto (-23), 3) := by decide +kernel
theorem dX6_mirror_47 : decode cX6_mirror 47 = .ok (.aload_n 0, 1) := by decide +kernel
theorem dX6_mirror_48 : decode cX6_mirror 48 = .ok (.getfield 28, 3) := by decide +kernel
theorem dX6_mirror_51 : decode cX6_mirror 51 = .ok (.iload_n 1, 1) := by decide +kernel
theorem dX6_mirror_52 : decode cX6_mirror 52 = .ok (.iaload, 1) := by decide +kernel
theorem dX6_mirror_53 : decode cX6_mirror 53 = .ok (.istore_n 2, 1) := by decide +kernel
theorem dX6_mirror_54 : decode cX6_mirror 54 = .ok (.bipush 16, 2) := by decide +kernel
theorem dX6_mirror_56 : decode cX6_mirror 56 = .ok (.newarray .int, 2) := by decide +kernel
theorem dX6_mirror_58 : decode cX6_mirror 58 = .ok (.astore_n 3, 1) := by decide +kernel
theorem dX6_mirror_59 : decode cX6_mirror 59 = .ok (.iconst 0, 1) := by decide +kernel
theorem dX6_mirror_60 : decode cX6_mirror 60 = .ok (.istore 4, 2) := by decide +kernel
theorem dX6_mirror_62 : decode cX6_mirror 62 = .ok (.iload 4, 2) := by decide +kernel
theorem dX6_mirror_64 : decode cX6_mirror 64 = .ok (.iload_n 2, 1) := by decide +kernel
theorem dX6_mirror_65 : decode cX6_mirror 65 = .ok (.if_icmp .ge 62, 3) := by decide +kernel
theorem dX6_mirror_68 : decode cX6_mirror 68 = .ok (.aload_n 3, 1) := by decide +kernel
theorem dX6_mirror_69 : decode cX6_mirror 69 = .ok (.iconst 2, 1) := by decide +kernel
theorem dX6_mirror_70 : decode cX6_mirror 70 = .ok (.iload 4, 2) := by decide +kernel
theorem dX6_mirror_72 : decode cX6_mirror 72 = .ok (.imul, 1) := by decide +kernel
theorem dX6_mirror_73 : decode cX6_mirror 73 = .ok (.aload_n 0, 1) := by decide +kernel
theorem dX6_mirror_74 : decode cX6_mirror 74 = .ok (.getfield 13, 3) := by decide +kernel
theorem dX6_mirror_77 : decode cX6_mirror 77 = .ok (.iload_n 1, 1) := by decide +kernel
theorem dX6_mirror_78 : decode cX6_mirror 78 = .ok (.iaload, 1) := by decide +kernel
theorem dX6_mirror_79 : decode cX6_mirror 79 = .ok (.aload_n 0, 1) := by decide +kernel
theorem dX6_mirror_80 : decode cX6_mirror 80 = .ok (.getfield 31, 3) := by decide +kernel
theorem dX6_mirror_83 : decode cX6_mirror 83 = .ok (.bipush 8, 2) := by decide +kernel
theorem dX6_mirror_85 : decode cX6_mirror 85 = .ok (.iload_n 1, 1) := by decide +kernel
theorem dX6_mirror_86 : decode cX6_mirror 86 = .ok (.imul, 1) := by decide +kernel
theorem dX6_mirror_87 : decode cX6_mirror 87 = .ok (.iload_n 2, 1) := by decide +kernel
theorem dX6_mirror_88 : decode cX6_mirror 88 = .ok (.iadd, 1) := by decide +kernel
theorem dX6_mirror_89 : decode cX6_mirror 89 = .ok (.iconst 1, 1) := by decide +kernel
theorem dX6_mirror_90 : decode cX6_mirror 90 = .ok (.isub, 1) := by decide +kernel
theorem dX6_mirror_91 : decode cX6_mirror 91 = .ok (.iload 4, 2) := by decide +kernel
theorem dX6_mirror_93 : decode cX6_mirror 93 = .ok (.isub, 1) := by decide +kernel
theorem dX6_mirror_94 : decode cX6_mirror 94 = .ok (.iaload, 1) := by decide +kernel
theorem dX6_mirror_95 : decode cX6_mirror 95 = .ok (.isub, 1) := by decide +kernel
theorem dX6_mirror_96 : decode cX6_mirror 96 = .ok (.iastore, 1) := by decide +kernel
theorem dX6_mirror_97 : decode cX6_mirror 97 = .ok (.aload_n 3, 1) := by decide +kernel
theorem dX6_mirror_98 : decode cX6_mirror 98 = .ok (.iconst 2, 1) := by decide +kernel
theorem dX6_mirror_99 : decode cX6_mirror 99 = .ok (.iload 4, 2) := by decide +kernel
theorem dX6_mirror_101 : decode cX6_mirror 101 = .ok (.imul, 1) := by decide +kernel
theorem dX6_mirror_102 : decode cX6_mirror 102 = .ok (.iconst 1, 1) := by decide +kernel
theorem dX6_mirror_103 : decode cX6_mirror 103 = .ok (.iadd, 1) := by decide +kernel
theorem dX6_mirror_104 : decode cX6_mirror 104 = .ok (.aload_n 0, 1) := by decide +kernel
theorem dX6_mirror_105 : decode cX6_mirror 105 = .ok (.getfield 34, 3) := by decide +kernel
theorem dX6_mirror_108 : decode cX6_mirror 108 = .ok (.bipush 8, 2) := by decide +kernel
theorem dX6_mirror_110 : decode cX6_mirror 110 = .ok (.iload_n 1, 1) := by decide +kernel
theorem dX6_mirror_111 : decode cX6_mirror 111 = .ok (.imul, 1) := by decide +kernel
theorem dX6_mirror_112 : decode cX6_mirror 112 = .ok (.iload_n 2, 1) := by decide +kernel
theorem dX6_mirror_113 : decode cX6_mirror 113 = .ok (.iadd, 1) := by decide +kernel
theorem dX6_mirror_114 : decode cX6_mirror 114 = .ok (.iconst 1, 1) := by decide +kernel
theorem dX6_mirror_115 : decode cX6_mirror 115 = .ok (.isub, 1) := by decide +kernel
theorem dX6_mirror_116 : decode cX6_mirror 116 = .ok (.iload 4, 2) := by decide +kernel
theorem dX6_mirror_118 : decode cX6_mirror 118 = .ok (.isub, 1) := by decide +kernel
theorem dX6_mirror_119 : decode cX6_mirror 119 = .ok (.iaload, 1) := by decide +kernel
theorem dX6_mirror_120 : decode cX6_mirror 120 = .ok (.iastore, 1) := by decide +kernel
theorem dX6_mirror_121 : decode cX6_mirror 121 = .ok (.iinc 4 1, 3) := by decide +kernel
theorem dX6_mirror_124 : decode cX6_mirror 124 = .ok (.goto (-62), 3) := by decide +kernel
theorem dX6_mirror_127 : decode cX6_mirror 127 = .ok (.iconst 0, 1) := by decide +kernel
theorem dX6_mirror_128 : decode cX6_mirror 128 = .ok (.istore 4, 2) := by decide +kernel
theorem dX6_mirror_130 : decode cX6_mirror 130 = .ok (.iload 4, 2) := by decide +kernel
theorem dX6_mirror_132 : decode cX6_mirror 132 = .ok (.iload_n 2, 1) := by decide +kernel
theorem dX6_mirror_133 : decode cX6_mirror 133 = .ok (.if_icmp .ge 47, 3) := by decide +kernel
theorem dX6_mirror_136 : decode cX6_mirror 136 = .ok (.aload_n 0, 1) := by decide +kernel
theorem dX6_mirror_137 : decode cX6_mirror 137 = .ok (.getfield 31, 3) := by decide +kernel
theorem dX6_mirror_140 : decode cX6_mirror 140 = .ok (.bipush 8, 2) := by decide +kernel
theorem dX6_mirror_142 : decode cX6_mirror 142 = .ok (.iload_n 1, 1) := by decide +kernel
theorem dX6_mirror_143 : decode cX6_mirror 143 = .ok (.imul, 1) := by decide +kernel
theorem dX6_mirror_144 : decode cX6_mirror 144 = .ok (.iload 4, 2) := by decide +kernel
theorem dX6_mirror_146 : decode cX6_mirror 146 = .ok (.iadd, 1) := by decide +kernel
theorem dX6_mirror_147 : decode cX6_mirror 147 = .ok (.aload_n 3, 1) := by decide +kernel
theorem dX6_mirror_148 : decode cX6_mirror 148 = .ok (.iconst 2, 1) := by decide +kernel
theorem dX6_mirror_149 : decode cX6_mirror 149 = .ok (.iload 4, 2) := by decide +kernel
theorem dX6_mirror_151 : decode cX6_mirror 151 = .ok (.imul, 1) := by decide +kernel
theorem dX6_mirror_152 : decode cX6_mirror 152 = .ok (.iaload, 1) := by decide +kernel
theorem dX6_mirror_153 : decode cX6_mirror 153 = .ok (.iastore, 1) := by decide +kernel
theorem dX6_mirror_154 : decode cX6_mirror 154 = .ok (.aload_n 0, 1) := by decide +kernel
theorem dX6_mirror_155 : decode cX6_mirror 155 = .ok (.getfield 34, 3) := by decide +kernel
theorem dX6_mirror_158 : decode cX6_mirror 158 = .ok (.bipush 8, 2) := by decide +kernel
theorem dX6_mirror_160 : decode cX6_mirror 160 = .ok (.iload_n 1, 1) := by decide +kernel
theorem dX6_mirror_161 : decode cX6_mirror 161 = .ok (.imul, 1) := by decide +kernel
theorem dX6_mirror_162 : decode cX6_mirror 162 = .ok (.iload 4, 2) := by decide +kernel
theorem dX6_mirror_164 : decode cX6_mirror 164 = .ok (.iadd, 1) := by decide +kernel
theorem dX6_mirror_165 : decode cX6_mirror 165 = .ok (.aload_n 3, 1) := by decide +kernel
theorem dX6_mirror_166 : decode cX6_mirror 166 = .ok (.iconst 2, 1) := by decide +kernel
theorem dX6_mirror_167 : decode cX6_mirror 167 = .ok (.iload 4, 2) := by decide +kernel
theorem dX6_mirror_169 : decode cX6_mirror 169 = .ok (.imul, 1) := by decide +kernel
theorem dX6_mirror_170 : decode cX6_mirror 170 = .ok (.iconst 1, 1) := by decide +kernel
theorem dX6_mirror_171 : decode cX6_mirror 171 = .ok (.iadd, 1) := by decide +kernel
theorem dX6_mirror_172 : decode cX6_mirror 172 = .ok (.iaload, 1) := by decide +kernel
theorem dX6_mirror_173 : decode cX6_mirror 173 = .ok (.iastore, 1) := by decide +kernel
theorem dX6_mirror_174 : decode cX6_mirror 174 = .ok (.iinc 4 1, 3) := by decide +kernel
theorem dX6_mirror_177 : decode cX6_mirror 177 = .ok (.goto (-47), 3) := by decide +kernel
theorem dX6_mirror_180 : decode cX6_mirror 180 = .ok (.aload_n 0, 1) := by decide +kernel
theorem dX6_mirror_181 : decode cX6_mirror 181 = .ok (.getfield 13, 3) := by decide +kernel
theorem dX6_mirror_184 : decode cX6_mirror 184 = .ok (.iload_n 1, 1) := by decide +kernel
theorem dX6_mirror_185 : decode cX6_mirror 185 = .ok (.iaload, 1) := by decide +kernel
theorem dX6_mirror_186 : decode cX6_mirror 186 = .ok (.ireturn, 1) := by decide +kernel
theorem dX6_retime_0 : decode cX6_retime 0 = .ok (.aload_n 0, 1) := by decide +kernel
theorem dX6_retime_1 : decode cX6_retime 1 = .ok (.iconst 0, 1) := by decide +kernel
theorem dX6_retime_2 : decode cX6_retime 2 = .ok (.putfield 43, 3) := by decide +kernel
theorem dX6_retime_5 : decode cX6_retime 5 = .ok (.aload_n 0, 1) := by decide +kernel
theorem dX6_retime_6 : decode cX6_retime 6 = .ok (.iload_n 1, 1) := by decide +kernel
theorem dX6_retime_7 : decode cX6_retime 7 = .ok (.invokevirtual 54, 3) := by decide +kernel
theorem dX6_retime_10 : decode cX6_retime 10 = .ok (.ifCond .ne 9, 3) := by decide +kernel
theorem dX6_retime_13 : decode cX6_retime 13 = .ok (.aload_n 0, 1) := by decide +kernel
theorem dX6_retime_14 : decode cX6_retime 14 = .ok (.iconst 1, 1) := by decide +kernel
theorem dX6_retime_15 : decode cX6_retime 15 = .ok (.invokevirtual 66, 3) := by decide +kernel
theorem dX6_retime_18 : decode cX6_retime 18 = .ok (.ireturn, 1) := by decide +kernel
theorem dX6_retime_19 : decode cX6_retime 19 = .ok (.iload_n 2, 1) := by decide +kernel
theorem dX6_retime_20 : decode cX6_retime 20 = .ok (.iconst 1, 1) := by decide +kernel
theorem dX6_retime_21 : decode cX6_retime 21 = .ok (.bipush 20, 2) := by decide +kernel
theorem dX6_retime_23 : decode cX6_retime 23 = .ok (.invokestatic 50, 3) := by decide +kernel
theorem dX6_retime_26 : decode cX6_retime 26 = .ok (.ifCond .eq 13, 3) := by decide +kernel
theorem dX6_retime_29 : decode cX6_retime 29 = .ok (.iload_n 3, 1) := by decide +kernel
theorem dX6_retime_30 : decode cX6_retime 30 = .ok (.iconst 1, 1) := by decide +kernel
theorem dX6_retime_31 : decode cX6_retime 31 = .ok (.bipush 20, 2) := by decide +kernel
theorem dX6_retime_33 : decode cX6_retime 33 = .ok (.invokestatic 50, 3) := by decide +kernel
theorem dX6_retime_36 : decode cX6_retime 36 = .ok (.ifCond .ne 9, 3) := by decide +kernel
theorem dX6_retime_39 : decode cX6_retime 39 = .ok (.aload_n 0, 1) := by decide +kernel
theorem dX6_retime_40 : decode cX6_retime 40 = .ok (.iconst 2, 1) := by decide +kernel
theorem dX6_retime_41 : decode cX6_retime 41 = .ok (.invokevirtual 66, 3) := by decide +kernel
theorem dX6_retime_44 : decode cX6_retime 44 = .ok (.ireturn, 1) := by decide +kernel
theorem dX6_retime_45 : decode cX6_retime 45 = .ok (.aload_n 0, 1) := by decide +kernel
theorem dX6_retime_46 : decode cX6_retime 46 = .ok (.getfield 13, 3) := by decide +kernel
theorem dX6_retime_49 : decode cX6_retime 49 = .ok (.iload_n 1, 1) := by decide +kernel
theorem dX6_retime_50 : decode cX6_retime 50 = .ok (.iaload, 1) := by decide +kernel
theorem dX6_retime_51 : decode cX6_retime 51 = .ok (.iload_n 2, 1) := by decide +kernel
theorem dX6_retime_52 : decode cX6_retime 52 = .ok (.imul, 1) := by decide +kernel
theorem dX6_retime_53 : decode cX6_retime 53 = .ok (.iload_n 3, 1) := by decide +kernel
theorem dX6_retime_54 : decode cX6_retime 54 = .ok (.idiv, 1) := by decide +kernel
theorem dX6_retime_55 : decode cX6_retime 55 = .ok (.istore 4, 2) := by decide +kernel
theorem dX6_retime_57 : decode cX6_retime 57 = .ok (.iload 4, 2) := by decide +kernel
theorem dX6_retime_59 : decode cX6_retime 59 = .ok (.iconst 1, 1) := by decide +kernel
theorem dX6_retime_60 : decode cX6_retime 60 = .ok (.sipush 2000, 3) := by decide +kernel
theorem dX6_retime_63 : decode cX6_retime 63 = .ok (.invokestatic 50, 3) := by decide +kernel
theorem dX6_retime_66 : decode cX6_retime 66 = .ok (.istore 5, 2) := by decide +kernel
theorem dX6_retime_68 : decode cX6_retime 68 = .ok (.iconst 4, 1) := by decide +kernel
theorem dX6_retime_69 : decode cX6_retime 69 = .ok (.iload_n 1, 1) := by decide +kernel
theorem dX6_retime_70 : decode cX6_retime 70 = .ok (.imul, 1) := by decide +kernel
theorem dX6_retime_71 : decode cX6_retime 71 = .ok (.istore 6, 2) := by decide +kernel
theorem dX6_retime_73 : decode cX6_retime 73 = .ok (.iload 6, 2) := by decide +kernel
theorem dX6_retime_75 : decode cX6_retime 75 = .ok (.iconst 4, 1) := by decide +kernel
theorem dX6_retime_76 : decode cX6_retime 76 = .ok (.iload_n 1, 1) := by decide +kernel
theorem dX6_retime_77 : decode cX6_retime 77 = .ok (.imul, 1) := by decide +kernel
theorem dX6_retime_78 : decode cX6_retime 78 = .ok (.iconst 4, 1) := by decide +kernel
theorem dX6_retime_79 : decode cX6_retime 79 = .ok (.iadd, 1) := by decide +kernel
theorem dX6_retime_80 : decode cX6_retime 80 = .ok (.if_icmp .ge 81, 3) := by decide +kernel
theorem dX6_retime_83 : decode cX6_retime 83 = .ok (.iload 6, 2) := by decide +kernel
theorem dX6_retime_85 : decode cX6_retime 85 = .ok (.invokestatic 78, 3) := by decide +kernel
theorem dX6_retime_88 : decode cX6_retime 88 = .ok (.istore 7, 2) := by decide +kernel
theorem dX6_retime_90 : decode cX6_retime 90 = .ok (.iload 7, 2) := by decide +kernel
theorem dX6_retime_92 : decode cX6_retime 92 = .ok (.iconst 1, 1) := by decide +kernel
theorem dX6_retime_93 : decode cX6_retime 93 = .ok (.iadd, 1) := by decide +kernel
theorem dX6_retime_94 : decode cX6_retime 94 = .ok (.iload 6, 2) := by decide +kernel
theorem dX6_retime_96 : decode cX6_retime 96 = .ok (.invokestatic 78, 3) := by decide +kernel
theorem dX6_retime_99 : decode cX6_retime 99 = .ok (.aload_n 0, 1) := by decide +kernel
theorem dX6_retime_100 : decode cX6_retime 100 = .ok (.getfield 16, 3) := by decide +kernel
theorem dX6_retime_103 : decode cX6_retime 103 = .ok (.iload 6, 2) := by decide +kernel
theorem dX6_retime_105 : decode cX6_retime 105 = .ok (.iaload, 1) := by decide +kernel
theorem dX6_retime_106 : decode cX6_retime 106 = .ok (.iadd, 1) := by decide +kernel
theorem dX6_retime_107 : decode cX6_retime 107 = .ok (.if_icmp .ge 48, 3) := by decide +kernel
theorem dX6_retime_110 : decode cX6_retime 110 = .ok (.iload 5, 2) := by decide +kernel
theorem dX6_retime_112 : decode cX6_retime 112 = .ok (.ifCond .eq 34, 3) := by decide +kernel
theorem dX6_retime_115 : decode cX6_retime 115 = .ok (.aload_n 0, 1) := by decide +kernel
theorem dX6_retime_116 : decode cX6_retime 116 = .ok (.getfield 19, 3) := by decide +kernel
theorem dX6_retime_119 : decode cX6_retime 119 = .ok (.iload 7, 2) := by decide +kernel
theorem dX6_retime_121 : decode cX6_retime 121 = .ok (.iaload, 1) := by decide +kernel
theorem dX6_retime_122 : decode cX6_retime 122 = .ok (.iload_n 2, 1) := by decide +kernel
theorem dX6_retime_123 : decode cX6_retime 123 = .ok (.imul, 1) := by decide +kernel
theorem dX6_retime_124 : decode cX6_retime 124 = .ok (.iload_n 3, 1) := by decide +kernel
theorem dX6_retime_125 : decode cX6_retime 125 = .ok (.idiv, 1) := by decide +kernel
theorem dX6_retime_126 : decode cX6_retime 126 = .ok (.aload_n 0, 1) := by decide +kernel
theorem dX6_retime_127 : decode cX6_retime 127 = .ok (.getfield 19, 3) := by decide +kernel
theorem dX6_retime_130 : decode cX6_retime 130 = .ok (.iload 7, 2) := by decide +kernel
theorem dX6_retime_132 : decode cX6_retime 132 = .ok (.iconst 1, 1) := by decide +kernel
theorem dX6_retime_133 : decode cX6_retime 133 = .ok (.iadd, 1) := by decide +kernel
theorem dX6_retime_134 : decode cX6_retime 134 = .ok (.iaload, 1) := by decide +kernel
theorem dX6_retime_135 : decode cX6_retime 135 = .ok (.iload_n 2, 1) := by decide +kernel
theorem dX6_retime_136 : decode cX6_retime 136 = .ok (.imul, 1) := by decide +kernel
theorem dX6_retime_137 : decode cX6_retime 137 = .ok (.iload_n 3, 1) := by decide +kernel
theorem dX6_retime_138 : decode cX6_retime 138 = .ok (.idiv, 1) := by decide +kernel
theorem dX6_retime_139 : decode cX6_retime 139 = .ok (.if_icmp .ge 7, 3) := by decide +kernel
theorem dX6_retime_142 : decode cX6_retime 142 = .ok (.iconst 1, 1) := by decide +kernel
theorem dX6_retime_143 : decode cX6_retime 143 = .ok (.goto 4, 3) := by decide +kernel
theorem dX6_retime_146 : decode cX6_retime 146 = .ok (.iconst 0, 1) := by decide +kernel
theorem dX6_retime_147 : decode cX6_retime 147 = .ok (.istore 5, 2) := by decide +kernel
theorem dX6_retime_149 : decode cX6_retime 149 = .ok (.iinc 7 1, 3) := by decide +kernel
theorem dX6_retime_152 : decode cX6_retime 152 = .ok (.goto (-62), 3) := by decide +kernel
theorem dX6_retime_155 : decode cX6_retime 155 = .ok (.iinc 6 1, 3) := by decide +kernel
theorem dX6_retime_158 : decode cX6_retime 158 = .ok (.goto (-85), 3) := by decide +kernel
theorem dX6_retime_161 : decode cX6_retime 161 = .ok (.iload 5, 2) := by decide +kernel
theorem dX6_retime_163 : decode cX6_retime 163 = .ok (.ifCond .ne 9, 3) := by decide +kernel
theorem dX6_retime_166 : decode cX6_retime 166 = .ok (.aload_n 0, 1) := by decide +kernel
theorem dX6_retime_167 : decode cX6_retime 167 = .ok (.iconst 3, 1) := by decide +kernel
theorem dX6_retime_168 : decode cX6_retime 168 = .ok (.invokevirtual 66, 3) := by decide +kernel
theorem dX6_retime_171 : decode cX6_retime 171 = .ok (.ireturn, 1) := by decide +kernel
theorem dX6_retime_172 : decode cX6_retime 172 = .ok (.iconst 4, 1) := by decide +kernel
theorem dX6_retime_173 : decode cX6_retime 173 = .ok (.iload_n 1, 1) := by decide +kernel
theorem dX6_retime_174 : decode cX6_retime 174 = .ok (.imul, 1) := by decide +kernel
theorem dX6_retime_175 : decode cX6_retime 175 = .ok (.istore 6, 2) := by decide +kernel
theorem dX6_retime_177 : decode cX6_retime 177 = .ok (.iload 6, 2) := by decide +kernel
theorem dX6_retime_179 : decode cX6_retime 179 = .ok (.iconst 4, 1) := by decide +kernel
theorem dX6_retime_180 : decode cX6_retime 180 = .ok (.iload_n 1, 1) := by decide +kernel
theorem dX6_retime_181 : decode cX6_retime 181 = .ok (.imul, 1) := by decide +kernel
theorem dX6_retime_182 : decode cX6_retime 182 = .ok (.iconst 4, 1) := by decide +kernel
theorem dX6_retime_183 : decode cX6_retime 183 = .ok (.iadd, 1) := by decide +kernel
theorem dX6_retime_184 : decode cX6_retime 184 = .ok (.if_icmp .ge 58, 3) := by decide +kernel
theorem dX6_retime_187 : decode cX6_retime 187 = .ok (.iload 6, 2) := by decide +kernel
theorem dX6_retime_189 : decode cX6_retime 189 = .ok (.invokestatic 78, 3) := by decide +kernel
theorem dX6_retime_192 : decode cX6_retime 192 = .ok (.istore 7, 2) := by decide +kernel
theorem dX6_retime_194 : decode cX6_retime 194 = .ok (.iload 7, 2) := by decide +kernel
theorem dX6_retime_196 : decode cX6_retime 196 = .ok (.iload 6, 2) := by decide +kernel
theorem dX6_retime_198 : decode cX6_retime 198 = .ok (.invokestatic 78, 3) := by decide +kernel
theorem dX6_retime_201 : decode cX6_retime 201 = .ok (.aload_n 0, 1) := by decide +kernel
theorem dX6_retime_202 : decode cX6_retime 202 = .ok (.getfield 16, 3) := by decide +kernel
theorem dX6_retime_205 : decode cX6_retime 205 = .ok (.iload 6, 2) := by decide +kernel
theorem dX6_retime_207 : decode cX6_retime 207 = .ok (.iaload, 1) := by decide +kernel
theorem dX6_retime_208 : decode cX6_retime 208 = .ok (.iadd, 1) := by decide +kernel
theorem dX6_retime_209 : decode cX6_retime 209 = .ok (.if_icmp .ge 27, 3) := by decide +kernel
theorem dX6_retime_212 : decode cX6_retime 212 = .ok (.aload_n 0, 1) := by decide +kernel
theorem dX6_retime_213 : decode cX6_retime 213 = .ok (.getfield 19, 3) := by decide +kernel
theorem dX6_retime_216 : decode cX6_retime 216 = .ok (.iload 7, 2) := by decide +kernel
theorem dX6_retime_218 : decode cX6_retime 218 = .ok (.aload_n 0, 1) := by decide +kernel
theorem dX6_retime_219 : decode cX6_retime 219 = .ok (.getfield 19, 3) := by decide +kernel
theorem dX6_retime_222 : decode cX6_retime 222 = .ok (.iload 7, 2) := by decide +kernel
theorem dX6_retime_224 : decode cX6_retime 224 = .ok (.iaload, 1) := by decide +kernel
theorem dX6_retime_225 : decode cX6_retime 225 = .ok (.iload_n 2, 1) := by decide +kernel
theorem dX6_retime_226 : decode cX6_retime 226 = .ok (.imul, 1) := by decide +kernel
theorem dX6_retime_227 : decode cX6_retime 227 = .ok (.iload_n 3, 1) := by decide +kernel
theorem dX6_retime_228 : decode cX6_retime 228 = .ok (.idiv, 1) := by decide +kernel
theorem dX6_retime_229 : decode cX6_retime 229 = .ok (.iastore, 1) := by decide +kernel
theorem dX6_retime_230 : decode cX6_retime 230 = .ok (.iinc 7 1, 3) := by decide +kernel
theorem dX6_retime_233 : decode cX6_retime 233 = .ok (.goto (-39), 3) := by decide +kernel
theorem dX6_retime_236 : decode cX6_retime 236 = .ok (.iinc 6 1, 3) := by decide +kernel
theorem dX6_retime_239 : decode cX6_retime 239 = .ok (.goto (-62), 3) := by decide +kernel
theorem dX6_retime_242 : decode cX6_retime 242 = .ok (.bipush 8, 2) := by decide +kernel
theorem dX6_retime_244 : decode cX6_retime 244 = .ok (.iload_n 1, 1) := by decide +kernel
theorem dX6_retime_245 : decode cX6_retime 245 = .ok (.imul, 1) := by decide +kernel
theorem dX6_retime_246 : decode cX6_retime 246 = .ok (.istore 6, 2) := by decide +kernel
theorem dX6_retime_248 : decode cX6_retime 248 = .ok (.iload 6, 2) := by decide +kernel
theorem dX6_retime_250 : decode cX6_retime 250 = .ok (.bipush 8, 2) := by decide +kernel
theorem dX6_retime_252 : decode cX6_retime 252 = .ok (.iload_n 1, 1) := by decide +kernel
theorem dX6_retime_253 : decode cX6_retime 253 = .ok (.imul, 1) := by decide +kernel
theorem dX6_retime_254 : decode cX6_retime 254 = .ok (.aload_n 0, 1) := by decide +kernel
theorem dX6_retime_255 : decode cX6_retime 255 = .ok (.getfield 28, 3) := by decide +kernel
theorem dX6_retime_258 : decode cX6_retime 258 = .ok (.iload_n 1, 1) := by decide +kernel
theorem dX6_retime_259 : decode cX6_retime 259 = .ok (.iaload, 1) := by decide +kernel
theorem dX6_retime_260 : decode cX6_retime 260 = .ok (.iadd, 1) := by decide +kernel
theorem dX6_retime_261 : decode cX6_retime 261 = .ok (.if_icmp .ge 27, 3) := by decide +kernel
theorem dX6_retime_264 : decode cX6_retime 264 = .ok (.aload_n 0, 1) := by decide +kernel
theorem dX6_retime_265 : decode cX6_retime 265 = .ok (.getfield 31, 3) := by decide +kernel
theorem dX6_retime_268 : decode cX6_retime 268 = .ok (.iload 6, 2) := by decide +kernel
theorem dX6_retime_270 : decode cX6_retime 270 = .ok (.aload_n 0, 1) := by decide +kernel
theorem dX6_retime_271 : decode cX6_retime 271 = .ok (.getfield 31, 3) := by decide +kernel
theorem dX6_retime_274 : decode cX6_retime 274 = .ok (.iload 6, 2) := by decide +kernel
theorem dX6_retime_276 : decode cX6_retime 276 = .ok (.iaload, 1) := by decide +kernel
theorem dX6_retime_277 : decode cX6_retime 277 = .ok (.iload_n 2, 1) := by decide +kernel
theorem dX6_retime_278 : decode cX6_retime 278 = .ok (.imul, 1) := by decide +kernel
theorem dX6_retime_279 : decode cX6_retime 279 = .ok (.iload_n 3, 1) := by decide +kernel
theorem dX6_retime_280 : decode cX6_retime 280 = .ok (.idiv, 1) := by decide +kernel
theorem dX6_retime_281 : decode cX6_retime 281 = .ok (.iastore, 1) := by decide +kernel
theorem dX6_retime_282 : decode cX6_retime 282 = .ok (.iinc 6 1, 3) := by decide +kernel
theorem dX6_retime_285 : decode cX6_retime 285 = .ok (.goto (-37), 3) := by decide +kernel
theorem dX6_retime_288 : decode cX6_retime 288 = .ok (.aload_n 0, 1) := by decide +kernel
theorem dX6_retime_289 : decode cX6_retime 289 = .ok (.getfield 13, 3) := by decide +kernel
theorem dX6_retime_292 : decode cX6_retime 292 = .ok (.iload_n 1, 1) := by decide +kernel
theorem dX6_retime_293 : decode cX6_retime 293 = .ok (.iload 4, 2) := by decide +kernel
theorem dX6_retime_295 : decode cX6_retime 295 = .ok (.iastore, 1) := by decide +kernel
theorem dX6_retime_296 : decode cX6_retime 296 = .ok (.iload 4, 2) := by decide +kernel
theorem dX6_retime_298 : decode cX6_retime 298 = .ok (.ireturn, 1) := by decide +kernel
theorem dX6_reduce_0 : decode cX6_reduce 0 = .ok (.aload_n 0, 1) := by decide +kernel
theorem dX6_reduce_1 : decode cX6_reduce 1 = .ok (.iconst 0, 1) := by decide +kernel
theorem dX6_reduce_2 : decode cX6_reduce 2 = .ok (.putfield 43, 3) := by decide +kernel
theorem dX6_reduce_5 : decode cX6_reduce 5 = .ok (.aload_n 0, 1) := by decide +kernel
theorem dX6_reduce_6 : decode cX6_reduce 6 = .ok (.iload_n 1, 1) := by decide +kernel
theorem dX6_reduce_7 : decode cX6_reduce 7 = .ok (.iload_n 2, 1) := by decide +kernel
theorem dX6_reduce_8 : decode cX6_reduce 8 = .ok (.invokevirtual 74, 3) := by decide +kernel
theorem dX6_reduce_11 : decode cX6_reduce 11 = .ok (.ifCond .ne 9, 3) := by decide +kernel
theorem dX6_reduce_14 : decode cX6_reduce 14 = .ok (.aload_n 0, 1) := by decide +kernel
theorem dX6_reduce_15 : decode cX6_reduce 15 = .ok (.iconst 1, 1) := by decide +kernel
theorem dX6_reduce_16 : decode cX6_reduce 16 = .ok (.invokevirtual 66, 3) := by decide +kernel
theorem dX6_reduce_19 : decode cX6_reduce 19 = .ok (.ireturn, 1) := by decide +kernel
theorem dX6_reduce_20 : decode cX6_reduce 20 = .ok (.iload_n 3, 1) := by decide +kernel
theorem dX6_reduce_21 : decode cX6_reduce 21 = .ok (.iconst 0, 1) := by decide +kernel
theorem dX6_reduce_22 : decode cX6_reduce 22 = .ok (.sipush 1000, 3) := by decide +kernel
theorem dX6_reduce_25 : decode cX6_reduce 25 = .ok (.invokestatic 50, 3) := by decide +kernel
theorem dX6_reduce_28 : decode cX6_reduce 28 = .ok (.ifCond .ne 9, 3) := by decide +kernel
theorem dX6_reduce_31 : decode cX6_reduce 31 = .ok (.aload_n 0, 1) := by decide +kernel
theorem dX6_reduce_32 : decode cX6_reduce 32 = .ok (.iconst 2, 1) := by decide +kernel
theorem dX6_reduce_33 : decode cX6_reduce 33 = .ok (.invokevirtual 66, 3) := by decide +kernel
theorem dX6_reduce_36 : decode cX6_reduce 36 = .ok (.ireturn, 1) := by decide +kernel
theorem dX6_reduce_37 : decode cX6_reduce 37 = .ok (.iconst 4, 1) := by decide +kernel
theorem dX6_reduce_38 : decode cX6_reduce 38 = .ok (.iload_n 1, 1) := by decide +kernel
theorem dX6_reduce_39 : decode cX6_reduce 39 = .ok (.imul, 1) := by decide +kernel
theorem dX6_reduce_40 : decode cX6_reduce 40 = .ok (.iload_n 2, 1) := by decide +kernel
theorem dX6_reduce_41 : decode cX6_reduce 41 = .ok (.iadd, 1) := by decide +kernel
theorem dX6_reduce_42 : decode cX6_reduce 42 = .ok (.istore 4, 2) := by decide +kernel
theorem dX6_reduce_44 : decode cX6_reduce 44 = .ok (.aload_n 0, 1) := by decide +kernel
theorem dX6_reduce_45 : decode cX6_reduce 45 = .ok (.getfield 13, 3) := by decide +kernel
theorem dX6_reduce_48 : decode cX6_reduce 48 = .ok (.iload_n 1, 1) := by decide +kernel
theorem dX6_reduce_49 : decode cX6_reduce 49 = .ok (.iaload, 1) := by decide +kernel
theorem dX6_reduce_50 : decode cX6_reduce 50 = .ok (.iconst 1, 1) := by decide +kernel
theorem dX6_reduce_51 : decode cX6_reduce 51 = .ok (.iadd, 1) := by decide +kernel
theorem dX6_reduce_52 : decode cX6_reduce 52 = .ok (.newarray .int, 2) := by decide +kernel
theorem dX6_reduce_54 : decode cX6_reduce 54 = .ok (.astore 5, 2) := by decide +kernel
theorem dX6_reduce_56 : decode cX6_reduce 56 = .ok (.iconst 0, 1) := by decide +kernel
theorem dX6_reduce_57 : decode cX6_reduce 57 = .ok (.istore 6, 2) := by decide +kernel
theorem dX6_reduce_59 : decode cX6_reduce 59 = .ok (.iload 6, 2) := by decide +kernel
theorem dX6_reduce_61 : decode cX6_reduce 61 = .ok (.aload_n 0, 1) := by decide +kernel
theorem dX6_reduce_62 : decode cX6_reduce 62 = .ok (.getfield 13, 3) := by decide +kernel
theorem dX6_reduce_65 : decode cX6_reduce 65 = .ok (.iload_n 1, 1) := by decide +kernel
theorem dX6_reduce_66 : decode cX6_reduce 66 = .ok (.iaload, 1) := by decide +kernel
theorem dX6_reduce_67 : decode cX6_reduce 67 = .ok (.if_icmp .gt 32, 3) := by decide +kernel
theorem dX6_reduce_70 : decode cX6_reduce 70 = .ok (.aload_n 0, 1) := by decide +kernel
theorem dX6_reduce_71 : decode cX6_reduce 71 = .ok (.getfield 16, 3) := by decide +kernel
theorem dX6_reduce_74 : decode cX6_reduce 74 = .ok (.iload 4, 2) := by decide +kernel
theorem dX6_reduce_76 : decode cX6_reduce 76 = .ok (.iaload, 1) := by decide +kernel
theorem dX6_reduce_77 : decode cX6_reduce 77 = .ok (.ifCond .le 22, 3) := by decide +kernel
theorem dX6_reduce_80 : decode cX6_reduce 80 = .ok (.aload 5, 2) := by decide +kernel
theorem dX6_reduce_82 : decode cX6_reduce 82 = .ok (.iload 6, 2) := by decide +kernel
theorem dX6_reduce_84 : decode cX6_reduce 84 = .ok (.aload_n 0, 1) := by decide +kernel
theorem dX6_reduce_85 : decode cX6_reduce 85 = .ok (.iload 4, 2) := by decide +kernel
theorem dX6_reduce_87 : decode cX6_reduce 87 = .ok (.iload 6, 2) := by decide +kernel
theorem dX6_reduce_89 : decode cX6_reduce 89 = .ok (.invokevirtual 99, 3) := by decide +kernel
theorem dX6_reduce_92 : decode cX6_reduce 92 = .ok (.iastore, 1) := by decide +kernel
theorem dX6_reduce_93 : decode cX6_reduce 93 = .ok (.iinc 6 1, 3) := by decide +kernel
theorem dX6_reduce_96 : decode cX6_reduce 96 = .ok (.goto (-37), 3) := by decide +kernel
theorem dX6_reduce_99 : decode cX6_reduce 99 = .ok (.iconst 1, 1) := by decide +kernel
theorem dX6_reduce_100 : decode cX6_reduce 100 = .ok (.istore 6, 2) := by decide +kernel
theorem dX6_reduce_102 : decode cX6_reduce 102 = .ok (.iload 6, 2) := by decide +kernel
theorem dX6_reduce_104 : decode cX6_reduce 104 = .ok (.iconst 1, 1) := by decide +kernel
theorem dX6_reduce_105 : decode cX6_reduce 105 = .ok (.iadd, 1) := by decide +kernel
theorem dX6_reduce_106 : decode cX6_reduce 106 = .ok (.aload_n 0, 1) := by decide +kernel
theorem dX6_reduce_107 : decode cX6_reduce 107 = .ok (.getfield 16, 3) := by decide +kernel
theorem dX6_reduce_110 : decode cX6_reduce 110 = .ok (.iload 4, 2) := by decide +kernel
theorem dX6_reduce_112 : decode cX6_reduce 112 = .ok (.iaload, 1) := by decide +kernel
theorem dX6_reduce_113 : decode cX6_reduce 113 = .ok (.if_icmp .ge 149, 3) := by decide +kernel
theorem dX6_reduce_116 : decode cX6_reduce 116 = .ok (.iload 4, 2) := by decide +kernel
theorem dX6_reduce_118 : decode cX6_reduce 118 = .ok (.invokestatic 78, 3) := by decide +kernel
theorem dX6_reduce_121 : decode cX6_reduce 121 = .ok (.iload 6, 2) := by decide +kernel
theorem dX6_reduce_123 : decode cX6_reduce 123 = .ok (.iadd, 1) := by decide +kernel
theorem dX6_reduce_124 : decode cX6_reduce 124 = .ok (.iconst 1, 1) := by decide +kernel
theorem dX6_reduce_125 : decode cX6_reduce 125 = .ok (.isub, 1) := by decide +kernel
theorem dX6_reduce_126 : decode cX6_reduce 126 = .ok (.istore 7, 2) := by decide +kernel
theorem dX6_reduce_128 : decode cX6_reduce 128 = .ok (.iload 7, 2) := by decide +kernel
theorem dX6_reduce_130 : decode cX6_reduce 130 = .ok (.iconst 2, 1) := by decide +kernel
theorem dX6_reduce_131 : decode cX6_reduce 131 = .ok (.iadd, 1) := by decide +kernel
theorem dX6_reduce_132 : decode cX6_reduce 132 = .ok (.istore 8, 2) := by decide +kernel
theorem dX6_reduce_134 : decode cX6_reduce 134 = .ok (.iconst 1, 1) := by decide +kernel
theorem dX6_reduce_135 : decode cX6_reduce 135 = .ok (.istore 9, 2) := by decide +kernel
theorem dX6_reduce_137 : decode cX6_reduce 137 = .ok (.aload_n 0, 1) := by decide +kernel
theorem dX6_reduce_138 : decode cX6_reduce 138 = .ok (.getfield 19, 3) := by decide +kernel
theorem dX6_reduce_141 : decode cX6_reduce 141 = .ok (.iload 7, 2) := by decide +kernel
theorem dX6_reduce_143 : decode cX6_reduce 143 = .ok (.iaload, 1) := by decide +kernel
theorem dX6_reduce_144 : decode cX6_reduce 144 = .ok (.istore 10, 2) := by decide +kernel
theorem dX6_reduce_146 : decode cX6_reduce 146 = .ok (.iload 10, 2) := by decide +kernel
theorem dX6_reduce_148 : decode cX6_reduce 148 = .ok (.aload_n 0, 1) := by decide +kernel
theorem dX6_reduce_149 : decode cX6_reduce 149 = .ok (.getfield 19, 3) := by decide +kernel
theorem dX6_reduce_152 : decode cX6_reduce 152 = .ok (.iload 8, 2) := by decide +kernel
theorem dX6_reduce_154 : decode cX6_reduce 154 = .ok (.iaload, 1) := by decide +kernel
theorem dX6_reduce_155 : decode cX6_reduce 155 = .ok (.if_icmp .ge 85, 3) := by decide +kernel
theorem dX6_reduce_158 : decode cX6_reduce 158 = .ok (.iload 9, 2) := by decide +kernel
theorem dX6_reduce_160 : decode cX6_reduce 160 = .ok (.ifCond .eq 80, 3) := by decide +kernel
theorem dX6_reduce_163 : decode cX6_reduce 163 = .ok (.aload_n 0, 1) := by decide +kernel
theorem dX6_reduce_164 : decode cX6_reduce 164 = .ok (.getfield 22, 3) := by decide +kernel
theorem dX6_reduce_167 : decode cX6_reduce 167 = .ok (.iload 7, 2) := by decide +kernel
theorem dX6_reduce_169 : decode cX6_reduce 169 = .ok (.iaload, 1) := by decide +kernel
theorem dX6_reduce_170 : decode cX6_reduce 170 = .ok (.aload_n 0, 1) := by decide +kernel
theorem dX6_reduce_171 : decode cX6_reduce 171 = .ok (.getfield 22, 3) := by decide +kernel
theorem dX6_reduce_174 : decode cX6_reduce 174 = .ok (.iload 8, 2) := by decide +kernel
theorem dX6_reduce_176 : decode cX6_reduce 176 = .ok (.iaload, 1) := by decide +kernel
theorem dX6_reduce_177 : decode cX6_reduce 177 = .ok (.aload_n 0, 1) := by decide +kernel
theorem dX6_reduce_178 : decode cX6_reduce 178 = .ok (.getfield 25, 3) := by decide +kernel
theorem dX6_reduce_181 : decode cX6_reduce 181 = .ok (.iload 7, 2) := by decide +kernel
theorem dX6_reduce_183 : decode cX6_reduce 183 = .ok (.iaload, 1) := by decide +kernel
theorem dX6_reduce_184 : decode cX6_reduce 184 = .ok (.iload 10, 2) := by decide +kernel
theorem dX6_reduce_186 : decode cX6_reduce 186 = .ok (.aload_n 0, 1) := by decide +kernel
theorem dX6_reduce_187 : decode cX6_reduce 187 = .ok (.getfield 19, 3) := by decide +kernel
theorem dX6_reduce_190 : decode cX6_reduce 190 = .ok (.iload 7, 2) := by decide +kernel
theorem dX6_reduce_192 : decode cX6_reduce 192 = .ok (.iaload, 1) := by decide +kernel
theorem dX6_reduce_193 : decode cX6_reduce 193 = .ok (.isub, 1) := by decide +kernel
theorem dX6_reduce_194 : decode cX6_reduce 194 = .ok (.i2l, 1) := by decide +kernel
theorem dX6_reduce_195 : decode cX6_reduce 195 = .ok (.aload_n 0, 1) := by decide +kernel
theorem dX6_reduce_196 : decode cX6_reduce 196 = .ok (.getfield 19, 3) := by decide +kernel
theorem dX6_reduce_199 : decode cX6_reduce 199 = .ok (.iload 8, 2) := by decide +kernel
theorem dX6_reduce_201 : decode cX6_reduce 201 = .ok (.iaload, 1) := by decide +kernel
theorem dX6_reduce_202 : decode cX6_reduce 202 = .ok (.aload_n 0, 1) := by decide +kernel
theorem dX6_reduce_203 : decode cX6_reduce 203 = .ok (.getfield 19, 3) := by decide +kernel
theorem dX6_reduce_206 : decode cX6_reduce 206 = .ok (.iload 7, 2) := by decide +kernel
theorem dX6_reduce_208 : decode cX6_reduce 208 = .ok (.iaload, 1) := by decide +kernel
theorem dX6_reduce_209 : decode cX6_reduce 209 = .ok (.isub, 1) := by decide +kernel
theorem dX6_reduce_210 : decode cX6_reduce 210 = .ok (.i2l, 1) := by decide +kernel
theorem dX6_reduce_211 : decode cX6_reduce 211 = .ok (.invokestatic 95, 3) := by decide +kernel
theorem dX6_reduce_214 : decode cX6_reduce 214 = .ok (.aload 5, 2) := by decide +kernel
theorem dX6_reduce_216 : decode cX6_reduce 216 = .ok (.iload 10, 2) := by decide +kernel
theorem dX6_reduce_218 : decode cX6_reduce 218 = .ok (.iaload, 1) := by decide +kernel
theorem dX6_reduce_219 : decode cX6_reduce 219 = .ok (.isub, 1) := by decide +kernel
theorem dX6_reduce_220 : decode cX6_reduce 220 = .ok (.invokestatic 105, 3) := by decide +kernel
theorem dX6_reduce_223 : decode cX6_reduce 223 = .ok (.iload_n 3, 1) := by decide +kernel
theorem dX6_reduce_224 : decode cX6_reduce 224 = .ok (.if_icmp .gt 7, 3) := by decide +kernel
theorem dX6_reduce_227 : decode cX6_reduce 227 = .ok (.iconst 1, 1) := by decide +kernel
theorem dX6_reduce_228 : decode cX6_reduce 228 = .ok (.goto 4, 3) := by decide +kernel
theorem dX6_reduce_231 : decode cX6_reduce 231 = .ok (.iconst 0, 1) := by decide +kernel
theorem dX6_reduce_232 : decode cX6_reduce 232 = .ok (.istore 9, 2) := by decide +kernel
theorem dX6_reduce_234 : decode cX6_reduce 234 = .ok (.iinc 10 1, 3) := by decide +kernel
theorem dX6_reduce_237 : decode cX6_reduce 237 = .ok (.goto (-91), 3) := by decide +kernel
theorem dX6_reduce_240 : decode cX6_reduce 240 = .ok (.iload 9, 2) := by decide +kernel
theorem dX6_reduce_242 : decode cX6_reduce 242 = .ok (.ifCond .eq 14, 3) := by decide +kernel
theorem dX6_reduce_245 : decode cX6_reduce 245 = .ok (.aload_n 0, 1) := by decide +kernel
theorem dX6_reduce_246 : decode cX6_reduce 246 = .ok (.iload 4, 2) := by decide +kernel
theorem dX6_reduce_248 : decode cX6_reduce 248 = .ok (.iload 6, 2) := by decide +kernel
theorem dX6_reduce_250 : decode cX6_reduce 250 = .ok (.invokevirtual 85, 3) := by decide +kernel
theorem dX6_reduce_253 : decode cX6_reduce 253 = .ok (.goto 6, 3) := by decide +kernel
theorem dX6_reduce_256 : decode cX6_reduce 256 = .ok (.iinc 6 1, 3) := by decide +kernel
theorem dX6_reduce_259 : decode cX6_reduce 259 = .ok (.goto (-157), 3) := by decide +kernel
theorem dX6_reduce_262 : decode cX6_reduce 262 = .ok (.aload_n 0, 1) := by decide +kernel
theorem dX6_reduce_263 : decode cX6_reduce 263 = .ok (.getfield 16, 3) := by decide +kernel
theorem dX6_reduce_266 : decode cX6_reduce 266 = .ok (.iload 4, 2) := by decide +kernel
theorem dX6_reduce_268 : decode cX6_reduce 268 = .ok (.iaload, 1) := by decide +kernel
theorem dX6_reduce_269 : decode cX6_reduce 269 = .ok (.ireturn, 1) := by decide +kernel
theorem dX6_setBase_0 : decode cX6_setBase 0 = .ok (.aload_n 0, 1) := by decide +kernel
theorem dX6_setBase_1 : decode cX6_setBase 1 = .ok (.iconst 0, 1) := by decide +kernel
theorem dX6_setBase_2 : decode cX6_setBase 2 = .ok (.putfield 43, 3) := by decide +kernel
theorem dX6_setBase_5 : decode cX6_setBase 5 = .ok (.iload_n 1, 1) := by decide +kernel
theorem dX6_setBase_6 : decode cX6_setBase 6 = .ok (.iconst 0, 1) := by decide +kernel
theorem dX6_setBase_7 : decode cX6_setBase 7 = .ok (.iconst 3, 1) := by decide +kernel
theorem dX6_setBase_8 : decode cX6_setBase 8 = .ok (.invokestatic 50, 3) := by decide +kernel
theorem dX6_setBase_11 : decode cX6_setBase 11 = .ok (.ifCond .ne 9, 3) := by decide +kernel
theorem dX6_setBase_14 : decode cX6_setBase 14 = .ok (.aload_n 0, 1) := by decide +kernel
theorem dX6_setBase_15 : decode cX6_setBase 15 = .ok (.iconst 1, 1) := by decide +kernel
theorem dX6_setBase_16 : decode cX6_setBase 16 = .ok (.invokevirtual 66, 3) := by decide +kernel
theorem dX6_setBase_19 : decode cX6_setBase 19 = .ok (.ireturn, 1) := by decide +kernel
theorem dX6_setBase_20 : decode cX6_setBase 20 = .ok (.iload_n 2, 1) := by decide +kernel
theorem dX6_setBase_21 : decode cX6_setBase 21 = .ok (.sipush (-10000), 3) := by decide +kernel
theorem dX6_setBase_24 : decode cX6_setBase 24 = .ok (.sipush 10000, 3) := by decide +kernel
theorem dX6_setBase_27 : decode cX6_setBase 27 = .ok (.invokestatic 50, 3) := by decide +kernel
theorem dX6_setBase_30 : decode cX6_setBase 30 = .ok (.ifCond .ne 9, 3) := by decide +kernel
theorem dX6_setBase_33 : decode cX6_setBase 33 = .ok (.aload_n 0, 1) := by decide +kernel
theorem dX6_setBase_34 : decode cX6_setBase 34 = .ok (.iconst 2, 1) := by decide +kernel
theorem dX6_setBase_35 : decode cX6_setBase 35 = .ok (.invokevirtual 66, 3) := by decide +kernel
theorem dX6_setBase_38 : decode cX6_setBase 38 = .ok (.ireturn, 1) := by decide +kernel
theorem dX6_setBase_39 : decode cX6_setBase 39 = .ok (.aload_n 0, 1) := by decide +kernel
theorem dX6_setBase_40 : decode cX6_setBase 40 = .ok (.getfield 9, 3) := by decide +kernel
theorem dX6_setBase_43 : decode cX6_setBase 43 = .ok (.iload_n 1, 1) := by decide +kernel
theorem dX6_setBase_44 : decode cX6_setBase 44 = .ok (.iaload, 1) := by decide +kernel
theorem dX6_setBase_45 : decode cX6_setBase 45 = .ok (.istore_n 3, 1) := by decide +kernel
theorem dX6_setBase_46 : decode cX6_setBase 46 = .ok (.aload_n 0, 1) := by decide +kernel
theorem dX6_setBase_47 : decode cX6_setBase 47 = .ok (.getfield 9, 3) := by decide +kernel
theorem dX6_setBase_50 : decode cX6_setBase 50 = .ok (.iload_n 1, 1) := by decide +kernel
theorem dX6_setBase_51 : decode cX6_setBase 51 = .ok (.iload_n 2, 1) := by decide +kernel
theorem dX6_setBase_52 : decode cX6_setBase 52 = .ok (.iastore, 1) := by decide +kernel
theorem dX6_setBase_53 : decode cX6_setBase 53 = .ok (.iload_n 3, 1) := by decide +kernel
theorem dX6_setBase_54 : decode cX6_setBase 54 = .ok (.ireturn, 1) := by decide +kernel
theorem dX6_addStrip_0 : decode cX6_addStrip 0 = .ok (.aload_n 0, 1) := by decide +kernel
theorem dX6_addStrip_1 : decode cX6_addStrip 1 = .ok (.iconst 0, 1) := by decide +kernel
theorem dX6_addStrip_2 : decode cX6_addStrip 2 = .ok (.putfield 43, 3) := by decide +kernel
theorem dX6_addStrip_5 : decode cX6_addStrip 5 = .ok (.aload_n 0, 1) := by decide +kernel
theorem dX6_addStrip_6 : decode cX6_addStrip 6 = .ok (.iload_n 1, 1) := by decide +kernel
theorem dX6_addStrip_7 : decode cX6_addStrip 7 = .ok (.invokevirtual 54, 3) := by decide +kernel
theorem dX6_addStrip_10 : decode cX6_addStrip 10 = .ok (.ifCond .ne 9, 3) := by decide +kernel
theorem dX6_addStrip_13 : decode cX6_addStrip 13 = .ok (.aload_n 0, 1) := by decide +kernel
theorem dX6_addStrip_14 : decode cX6_addStrip 14 = .ok (.iconst 1, 1) := by decide +kernel
theorem dX6_addStrip_15 : decode cX6_addStrip 15 = .ok (.invokevirtual 66, 3) := by decide +kernel
theorem dX6_addStrip_18 : decode cX6_addStrip 18 = .ok (.ireturn, 1) := by decide +kernel
theorem dX6_addStrip_19 : decode cX6_addStrip 19 = .ok (.iload_n 2, 1) := by decide +kernel
theorem dX6_addStrip_20 : decode cX6_addStrip 20 = .ok (.iconst 0, 1) := by decide +kernel
theorem dX6_addStrip_21 : decode cX6_addStrip 21 = .ok (.sipush 5000, 3) := by decide +kernel
theorem dX6_addStrip_24 : decode cX6_addStrip 24 = .ok (.invokestatic 50, 3) := by decide +kernel
theorem dX6_addStrip_27 : decode cX6_addStrip 27 = .ok (.ifCond .eq 23, 3) := by decide +kernel
theorem dX6_addStrip_30 : decode cX6_addStrip 30 = .ok (.iload_n 3, 1) := by decide +kernel
theorem dX6_addStrip_31 : decode cX6_addStrip 31 = .ok (.iconst 1, 1) := by decide +kernel
theorem dX6_addStrip_32 : decode cX6_addStrip 32 = .ok (.bipush 9, 2) := by decide +kernel
theorem dX6_addStrip_34 : decode cX6_addStrip 34 = .ok (.invokestatic 50, 3) := by decide +kernel
theorem dX6_addStrip_37 : decode cX6_addStrip 37 = .ok (.ifCond .eq 13, 3) := by decide +kernel
theorem dX6_addStrip_40 : decode cX6_addStrip 40 = .ok (.iload 4, 2) := by decide +kernel
theorem dX6_addStrip_42 : decode cX6_addStrip 42 = .ok (.iconst 0, 1) := by decide +kernel
theorem dX6_addStrip_43 : decode cX6_addStrip 43 = .ok (.iconst 2, 1) := by decide +kernel
theorem dX6_addStrip_44 : decode cX6_addStrip 44 = .ok (.invokestatic 50, 3) := by decide +kernel
theorem dX6_addStrip_47 : decode cX6_addStrip 47 = .ok (.ifCond .ne 9, 3) := by decide +kernel
theorem dX6_addStrip_50 : decode cX6_addStrip 50 = .ok (.aload_n 0, 1) := by decide +kernel
theorem dX6_addStrip_51 : decode cX6_addStrip 51 = .ok (.iconst 2, 1) := by decide +kernel
theorem dX6_addStrip_52 : decode cX6_addStrip 52 = .ok (.invokevirtual 66, 3) := by decide +kernel
theorem dX6_addStrip_55 : decode cX6_addStrip 55 = .ok (.ireturn, 1) := by decide +kernel
theorem dX6_addStrip_56 : decode cX6_addStrip 56 = .ok (.aload_n 0, 1) := by decide +kernel
theorem dX6_addStrip_57 : decode cX6_addStrip 57 = .ok (.getfield 108, 3) := by decide +kernel
theorem dX6_addStrip_60 : decode cX6_addStrip 60 = .ok (.bipush 10, 2) := by decide +kernel
theorem dX6_addStrip_62 : decode cX6_addStrip 62 = .ok (.if_icmp .ne 9, 3) := by decide +kernel
theorem dX6_addStrip_65 : decode cX6_addStrip 65 = .ok (.aload_n 0, 1) := by decide +kernel
theorem dX6_addStrip_66 : decode cX6_addStrip 66 = .ok (.iconst 3, 1) := by decide +kernel
theorem dX6_addStrip_67 : decode cX6_addStrip 67 = .ok (.invokevirtual 66, 3) := by decide +kernel
theorem dX6_addStrip_70 : decode cX6_addStrip 70 = .ok (.ireturn, 1) := by decide +kernel
theorem dX6_addStrip_71 : decode cX6_addStrip 71 = .ok (.bipush 13, 2) := by decide +kernel
theorem dX6_addStrip_73 : decode cX6_addStrip 73 = .ok (.newarray .int, 2) := by decide +kernel
theorem dX6_addStrip_75 : decode cX6_addStrip 75 = .ok (.dup, 1) := by decide +kernel
theorem dX6_addStrip_76 : decode cX6_addStrip 76 = .ok (.iconst 0, 1) := by decide +kernel
theorem dX6_addStrip_77 : decode cX6_addStrip 77 = .ok (.iload_n 1, 1) := by decide +kernel
theorem dX6_addStrip_78 : decode cX6_addStrip 78 = .ok (.iastore, 1) := by decide +kernel
theorem dX6_addStrip_79 : decode cX6_addStrip 79 = .ok (.dup, 1) := by decide +kernel
theorem dX6_addStrip_80 : decode cX6_addStrip 80 = .ok (.iconst 1, 1) := by decide +kernel
theorem dX6_addStrip_81 : decode cX6_addStrip 81 = .ok (.iload_n 2, 1) := by decide +kernel
theorem dX6_addStrip_82 : decode cX6_addStrip 82 = .ok (.iastore, 1) := by decide +kernel
theorem dX6_addStrip_83 : decode cX6_addStrip 83 = .ok (.dup, 1) := by decide +kernel
theorem dX6_addStrip_84 : decode cX6_addStrip 84 = .ok (.iconst 2, 1) := by decide +kernel
theorem dX6_addStrip_85 : decode cX6_addStrip 85 = .ok (.iconst 0, 1) := by decide +kernel
theorem dX6_addStrip_86 : decode cX6_addStrip 86 = .ok (.iastore, 1) := by decide +kernel
theorem dX6_addStrip_87 : decode cX6_addStrip 87 = .ok (.dup, 1) := by decide +kernel
theorem dX6_addStrip_88 : decode cX6_addStrip 88 = .ok (.iconst 3, 1) := by decide +kernel
theorem dX6_addStrip_89 : decode cX6_addStrip 89 = .ok (.iload_n 3, 1) := by decide +kernel
theorem dX6_addStrip_90 : decode cX6_addStrip 90 = .ok (.iastore, 1) := by decide +kernel
theorem dX6_addStrip_91 : decode cX6_addStrip 91 = .ok (.dup, 1) := by decide +kernel
theorem dX6_addStrip_92 : decode cX6_addStrip 92 = .ok (.iconst 4, 1) := by decide +kernel
theorem dX6_addStrip_93 : decode cX6_addStrip 93 = .ok (.iload 4, 2) := by decide +kernel
theorem dX6_addStrip_95 : decode cX6_addStrip 95 = .ok (.iastore, 1) := by decide +kernel
theorem dX6_addStrip_96 : decode cX6_addStrip 96 = .ok (.dup, 1) := by decide +kernel
theorem dX6_addStrip_97 : decode cX6_addStrip 97 = .ok (.iconst 5, 1) := by decide +kernel
theorem dX6_addStrip_98 : decode cX6_addStrip 98 = .ok (.iconst 1, 1) := by decide +kernel
theorem dX6_addStrip_99 : decode cX6_addStrip 99 = .ok (.iastore, 1) := by decide +kernel
theorem dX6_addStrip_100 : decode cX6_addStrip 100 = .ok (.dup, 1) := by decide +kernel
theorem dX6_addStrip_101 : decode cX6_addStrip 101 = .ok (.bipush 6, 2) := by decide +kernel
theorem dX6_addStrip_103 : decode cX6_addStrip 103 = .ok (.iconst 1, 1) := by decide +kernel
theorem dX6_addStrip_104 : decode cX6_addStrip 104 = .ok (.iastore, 1) := by decide +kernel
theorem dX6_addStrip_105 : decode cX6_addStrip 105 = .ok (.dup, 1) := by decide +kernel
theorem dX6_addStrip_106 : decode cX6_addStrip 106 = .ok (.bipush 7, 2) := by decide +kernel
theorem dX6_addStrip_108 : decode cX6_addStrip 108 = .ok (.iconst 0, 1) := by decide +kernel
theorem dX6_addStrip_109 : decode cX6_addStrip 109 = .ok (.iastore, 1) := by decide +kernel
theorem dX6_addStrip_110 : decode cX6_addStrip 110 = .ok (.dup, 1) := by decide +kernel
theorem dX6_addStrip_111 : decode cX6_addStrip 111 = .ok (.bipush 8, 2) := by decide +kernel
theorem dX6_addStrip_113 : decode cX6_addStrip 113 = .ok (.bipush 100, 2) := by decide +kernel
theorem dX6_addStrip_115 : decode cX6_addStrip 115 = .ok (.iastore, 1) := by decide +kernel
theorem dX6_addStrip_116 : decode cX6_addStrip 116 = .ok (.dup, 1) := by decide +kernel
theorem dX6_addStrip_117 : decode cX6_addStrip 117 = .ok (.bipush 9, 2) := by decide +kernel
theorem dX6_addStrip_119 : decode cX6_addStrip 119 = .ok (.iconst 0, 1) := by decide +kernel
theorem dX6_addStrip_120 : decode cX6_addStrip 120 = .ok (.iastore, 1) := by decide +kernel
theorem dX6_addStrip_121 : decode cX6_addStrip 121 = .ok (.dup, 1) := by decide +kernel
theorem dX6_addStrip_122 : decode cX6_addStrip 122 = .ok (.bipush 10, 2) := by decide +kernel
theorem dX6_addStrip_124 : decode cX6_addStrip 124 = .ok (.iconst 0, 1) := by decide +kernel
theorem dX6_addStrip_125 : decode cX6_addStrip 125 = .ok (.iastore, 1) := by decide +kernel
theorem dX6_addStrip_126 : decode cX6_addStrip 126 = .ok (.dup, 1) := by decide +kernel
theorem dX6_addStrip_127 : decode cX6_addStrip 127 = .ok (.bipush 11, 2) := by decide +kernel
theorem dX6_addStrip_129 : decode cX6_addStrip 129 = .ok (.iconst 0, 1) := by decide +kernel
theorem dX6_addStrip_130 : decode cX6_addStrip 130 = .ok (.iastore, 1) := by decide +kernel
theorem dX6_addStrip_131 : decode cX6_addStrip 131 = .ok (.dup, 1) := by decide +kernel
theorem dX6_addStrip_132 : decode cX6_addStrip 132 = .ok (.bipush 12, 2) := by decide +kernel
theorem dX6_addStrip_134 : decode cX6_addStrip 134 = .ok (.iconst 0, 1) := by decide +kernel
theorem dX6_addStrip_135 : decode cX6_addStrip 135 = .ok (.iastore, 1) := by decide +kernel
theorem dX6_addStrip_136 : decode cX6_addStrip 136 = .ok (.astore 5, 2) := by decide +kernel
theorem dX6_addStrip_138 : decode cX6_addStrip 138 = .ok (.aload 5, 2) := by decide +kernel
theorem dX6_addStrip_140 : decode cX6_addStrip 140 = .ok (.iconst 0, 1) := by decide +kernel
theorem dX6_addStrip_141 : decode cX6_addStrip 141 = .ok (.aload_n 0, 1) := by decide +kernel
theorem dX6_addStrip_142 : decode cX6_addStrip 142 = .ok (.getfield 37, 3) := by decide +kernel
theorem dX6_addStrip_145 : decode cX6_addStrip 145 = .ok (.bipush 13, 2) := by decide +kernel
theorem dX6_addStrip_147 : decode cX6_addStrip 147 = .ok (.aload_n 0, 1) := by decide +kernel
theorem dX6_addStrip_148 : decode cX6_addStrip 148 = .ok (.getfield 108, 3) := by decide +kernel
theorem dX6_addStrip_151 : decode cX6_addStrip 151 = .ok (.imul, 1) := by decide +kernel
theorem dX6_addStrip_152 : decode cX6_addStrip 152 = .ok (.bipush 13, 2) := by decide +kernel
theorem dX6_addStrip_154 : decode cX6_addStrip 154 = .ok (.invokestatic 111, 3) := by decide +kernel
theorem dX6_addStrip_157 : decode cX6_addStrip 157 = .ok (.aload_n 0, 1) := by decide +kernel
theorem dX6_addStrip_158 : decode cX6_addStrip 158 = .ok (.dup, 1) := by decide +kernel
theorem dX6_addStrip_159 : decode cX6_addStrip 159 = .ok (.getfield 108, 3) := by decide +kernel
theorem dX6_addStrip_162 : decode cX6_addStrip 162 = .ok (.iconst 1, 1) := by decide +kernel
theorem dX6_addStrip_163 : decode cX6_addStrip 163 = .ok (.iadd, 1) := by decide +kernel
theorem dX6_addStrip_164 : decode cX6_addStrip 164 = .ok (.putfield 108, 3) := by decide +kernel
theorem dX6_addStrip_167 : decode cX6_addStrip 167 = .ok (.aload_n 0, 1) := by decide +kernel
theorem dX6_addStrip_168 : decode cX6_addStrip 168 = .ok (.getfield 108, 3) := by decide +kernel
theorem dX6_addStrip_171 : decode cX6_addStrip 171 = .ok (.iconst 1, 1) := by decide +kernel
theorem dX6_addStrip_172 : decode cX6_addStrip 172 = .ok (.isub, 1) := by decide +kernel
theorem dX6_addStrip_173 : decode cX6_addStrip 173 = .ok (.ireturn, 1) := by decide +kernel
theorem dX6_isStrip_0 : decode cX6_isStrip 0 = .ok (.iload_n 1, 1) := by decide +kernel
theorem dX6_isStrip_1 : decode cX6_isStrip 1 = .ok (.iconst 0, 1) := by decide +kernel
theorem dX6_isStrip_2 : decode cX6_isStrip 2 = .ok (.aload_n 0, 1) := by decide +kernel
theorem dX6_isStrip_3 : decode cX6_isStrip 3 = .ok (.getfield 108, 3) := by decide +kernel
theorem dX6_isStrip_6 : decode cX6_isStrip 6 = .ok (.iconst 1, 1) := by decide +kernel
theorem dX6_isStrip_7 : decode cX6_isStrip 7 = .ok (.isub, 1) := by decide +kernel
theorem dX6_isStrip_8 : decode cX6_isStrip 8 = .ok (.invokestatic 50, 3) := by decide +kernel
theorem dX6_isStrip_11 : decode cX6_isStrip 11 = .ok (.ireturn, 1) := by decide +kernel
theorem dX6_removeStrip_0 : decode cX6_removeStrip 0 = .ok (.aload_n 0, 1) := by decide +kernel
theorem dX6_removeStrip_1 : decode cX6_removeStrip 1 = .ok (.iconst 0, 1) := by decide +kernel
theorem dX6_removeStrip_2 : decode cX6_removeStrip 2 = .ok (.putfield 43, 3) := by decide +kernel
theorem dX6_removeStrip_5 : decode cX6_removeStrip 5 = .ok (.aload_n 0, 1) := by decide +kernel
theorem dX6_removeStrip_6 : decode cX6_removeStrip 6 = .ok (.iload_n 1, 1) := by decide +kernel
theorem dX6_removeStrip_7 : decode cX6_removeStrip 7 = .ok (.invokevirtual 117, 3) := by decide +kernel
theorem dX6_removeStrip_10 : decode cX6_removeStrip 10 = .ok (.ifCond .ne 9, 3) := by decide +kernel
theorem dX6_removeStrip_13 : decode cX6_removeStrip 13 = .ok (.aload_n 0, 1) := by decide +kernel
theorem dX6_removeStrip_14 : decode cX6_removeStrip 14 = .ok (.iconst 1, 1) := by decide +kernel
theorem dX6_removeStrip_15 : decode cX6_removeStrip 15 = .ok (.invokevirtual 66, 3) := by decide +kernel
theorem dX6_removeStrip_18 : decode cX6_removeStrip 18 = .ok (.ireturn, 1) := by decide +kernel
theorem dX6_removeStrip_19 : decode cX6_removeStrip 19 = .ok (.bipush 13, 2) := by decide +kernel
theorem dX6_removeStrip_21 : decode cX6_removeStrip 21 = .ok (.iload_n 1, 1) := by decide +kernel
theorem dX6_removeStrip_22 : decode cX6_removeStrip 22 = .ok (.imul, 1) := by decide +kernel
theorem dX6_removeStrip_23 : decode cX6_removeStrip 23 = .ok (.istore_n 2, 1) := by decide +kernel
theorem dX6_removeStrip_24 : decode cX6_removeStrip 24 = .ok (.iload_n 2, 1) := by decide +kernel
theorem dX6_removeStrip_25 : decode cX6_removeStrip 25 = .ok (.bipush 13, 2) := by decide +kernel
theorem dX6_removeStrip_27 : decode cX6_removeStrip 27 = .ok (.aload_n 0, 1) := by decide +kernel
theorem dX6_removeStrip_28 : decode cX6_removeStrip 28 = .ok (.getfield 108, 3) := by decide +kernel
theorem dX6_removeStrip_31 : decode cX6_removeStrip 31 = .ok (.iconst 1, 1) := by decide +kernel
theorem dX6_removeStrip_32 : decode cX6_removeStrip 32 = .ok (.isub, 1) := by decide +kernel
theorem dX6_removeStrip_33 : decode cX6_removeStrip 33 = .ok (.imul, 1) := by decide +kernel
theorem dX6_removeStrip_34 : decode cX6_removeStrip 34 = .ok (.if_icmp .ge 24, 3) := by decide +kernel
theorem dX6_removeStrip_37 : decode cX6_removeStrip 37 = .ok (.aload_n 0, 1) := by decide +kernel
theorem dX6_removeStrip_38 : decode cX6_removeStrip 38 = .ok (.getfield 37, 3) := by decide +kernel
theorem dX6_removeStrip_41 : decode cX6_removeStrip 41 = .ok (.iload_n 2, 1) := by decide +kernel
theorem dX6_removeStrip_42 : decode cX6_removeStrip 42 = .ok (.aload_n 0, 1) := by decide +kernel
theorem dX6_removeStrip_43 : decode cX6_removeStrip 43 = .ok (.getfield 37, 3) := by decide +kernel
theorem dX6_removeStrip_46 : decode cX6_removeStrip 46 = .ok (.iload_n 2, 1) := by decide +kernel
theorem dX6_removeStrip_47 : decode cX6_removeStrip 47 = .ok (.bipush 13, 2) := by decide +kernel
theorem dX6_removeStrip_49 : decode cX6_removeStrip 49 = .ok (.iadd, 1) := by decide +kernel
theorem dX6_removeStrip_50 : decode cX6_removeStrip 50 = .ok (.iaload, 1) := by decide +kernel
theorem dX6_removeStrip_51 : decode cX6_removeStrip 51 = .ok (.iastore, 1) := by decide +kernel
theorem dX6_removeStrip_52 : decode cX6_removeStrip 52 = .ok (.iinc 2 1, 3) := by decide +kernel
theorem dX6_removeStrip_55 : decode cX6_removeStrip 55 = .ok (.goto (-31), 3) := by decide +kernel
theorem dX6_removeStrip_58 : decode cX6_removeStrip 58 = .ok (.aload_n 0, 1) := by decide +kernel
theorem dX6_removeStrip_59 : decode cX6_removeStrip 59 = .ok (.dup, 1) := by decide +kernel
theorem dX6_removeStrip_60 : decode cX6_removeStrip 60 = .ok (.getfield 108, 3) := by decide +kernel
theorem dX6_removeStrip_63 : decode cX6_removeStrip 63 = .ok (.iconst 1, 1) := by decide +kernel
theorem dX6_removeStrip_64 : decode cX6_removeStrip 64 = .ok (.isub, 1) := by decide +kernel
theorem dX6_removeStrip_65 : decode cX6_removeStrip 65 = .ok (.putfield 108, 3) := by decide +kernel
theorem dX6_removeStrip_68 : decode cX6_removeStrip 68 = .ok (.aload_n 0, 1) := by decide +kernel
theorem dX6_removeStrip_69 : decode cX6_removeStrip 69 = .ok (.getfield 108, 3) := by decide +kernel
theorem dX6_removeStrip_72 : decode cX6_removeStrip 72 = .ok (.ireturn, 1) := by decide +kernel
theorem dX6_part_0 : decode cX6_part 0 = .ok (.aload_n 0, 1) := by decide +kernel
theorem dX6_part_1 : decode cX6_part 1 = .ok (.getfield 37, 3) := by decide +kernel
theorem dX6_part_4 : decode cX6_part 4 = .ok (.bipush 13, 2) := by decide +kernel
theorem dX6_part_6 : decode cX6_part 6 = .ok (.iload_n 1, 1) := by decide +kernel
theorem dX6_part_7 : decode cX6_part 7 = .ok (.imul, 1) := by decide +kernel
theorem dX6_part_8 : decode cX6_part 8 = .ok (.iload_n 2, 1) := by decide +kernel
theorem dX6_part_9 : decode cX6_part 9 = .ok (.iadd, 1) := by decide +kernel
theorem dX6_part_10 : decode cX6_part 10 = .ok (.iaload, 1) := by decide +kernel
theorem dX6_part_11 : decode cX6_part 11 = .ok (.ireturn, 1) := by decide +kernel
theorem dX6_length_0 : decode cX6_length 0 = .ok (.aload_n 0, 1) := by decide +kernel
theorem dX6_length_1 : decode cX6_length 1 = .ok (.getfield 13, 3) := by decide +kernel
theorem dX6_length_4 : decode cX6_length 4 = .ok (.aload_n 0, 1) := by decide +kernel
theorem dX6_length_5 : decode cX6_length 5 = .ok (.iload_n 1, 1) := by decide +kernel
theorem dX6_length_6 : decode cX6_length 6 = .ok (.iconst 0, 1) := by decide +kernel
theorem dX6_length_7 : decode cX6_length 7 = .ok (.invokevirtual 120, 3) := by decide +kernel
theorem dX6_length_10 : decode cX6_length 10 = .ok (.iaload, 1) := by decide +kernel
theorem dX6_length_11 : decode cX6_length 11 = .ok (.ireturn, 1) := by decide +kernel
theorem dX6_ticks_0 : decode cX6_ticks 0 = .ok (.aload_n 0, 1) := by decide +kernel
theorem dX6_ticks_1 : decode cX6_ticks 1 = .ok (.iload_n 1, 1) := by decide +kernel
theorem dX6_ticks_2 : decode cX6_ticks 2 = .ok (.invokevirtual 123, 3) := by decide +kernel
theorem dX6_ticks_5 : decode cX6_ticks 5 = .ok (.aload_n 0, 1) := by decide +kernel
theorem dX6_ticks_6 : decode cX6_ticks 6 = .ok (.iload_n 1, 1) := by decide +kernel
theorem dX6_ticks_7 : decode cX6_ticks 7 = .ok (.iconst 3, 1) := by decide +kernel
theorem dX6_ticks_8 : decode cX6_ticks 8 = .ok (.invokevirtual 120, 3) := by decide +kernel
theorem dX6_ticks_11 : decode cX6_ticks 11 = .ok (.imul, 1) := by decide +kernel
theorem dX6_ticks_12 : decode cX6_ticks 12 = .ok (.ireturn, 1) := by decide +kernel
theorem dX6_timeOf_0 : decode cX6_timeOf 0 = .ok (.aload_n 0, 1) := by decide +kernel
theorem dX6_timeOf_1 : decode cX6_timeOf 1 = .ok (.iload_n 1, 1) := by decide +kernel
theorem dX6_timeOf_2 : decode cX6_timeOf 2 = .ok (.iconst 1, 1) := by decide +kernel
theorem dX6_timeOf_3 : decode cX6_timeOf 3 = .ok (.invokevirtual 120, 3) := by decide +kernel
theorem dX6_timeOf_6 : decode cX6_timeOf 6 = .ok (.iload_n 2, 1) := by decide +kernel
theorem dX6_timeOf_7 : decode cX6_timeOf 7 = .ok (.aload_n 0, 1) := by decide +kernel
theorem dX6_timeOf_8 : decode cX6_timeOf 8 = .ok (.iload_n 1, 1) := by decide +kernel
theorem dX6_timeOf_9 : decode cX6_timeOf 9 = .ok (.bipush 6, 2) := by decide +kernel
theorem dX6_timeOf_11 : decode cX6_timeOf 11 = .ok (.invokevirtual 120, 3) := by decide +kernel
theorem dX6_timeOf_14 : decode cX6_timeOf 14 = .ok (.imul, 1) := by decide +kernel
theorem dX6_timeOf_15 : decode cX6_timeOf 15 = .ok (.aload_n 0, 1) := by decide +kernel
theorem dX6_timeOf_16 : decode cX6_timeOf 16 = .ok (.iload_n 1, 1) := by decide +kernel
theorem dX6_timeOf_17 : decode cX6_timeOf 17 = .ok (.iconst 5, 1) := by decide +kernel
theorem dX6_timeOf_18 : decode cX6_timeOf 18 = .ok (.invokevirtual 120, 3) := by decide +kernel
theorem dX6_timeOf_21 : decode cX6_timeOf 21 = .ok (.iadd, 1) := by decide +kernel
theorem dX6_timeOf_22 : decode cX6_timeOf 22 = .ok (.iconst 1, 1) := by decide +kernel
theorem dX6_timeOf_23 : decode cX6_timeOf 23 = .ok (.isub, 1) := by decide +kernel
theorem dX6_timeOf_24 : decode cX6_timeOf 24 = .ok (.aload_n 0, 1) := by decide +kernel
theorem dX6_timeOf_25 : decode cX6_timeOf 25 = .ok (.iload_n 1, 1) := by decide +kernel
theorem dX6_timeOf_26 : decode cX6_timeOf 26 = .ok (.iconst 5, 1) := by decide +kernel
theorem dX6_timeOf_27 : decode cX6_timeOf 27 = .ok (.invokevirtual 120, 3) := by decide +kernel
theorem dX6_timeOf_30 : decode cX6_timeOf 30 = .ok (.idiv, 1) := by decide +kernel
theorem dX6_timeOf_31 : decode cX6_timeOf 31 = .ok (.iadd, 1) := by decide +kernel
theorem dX6_timeOf_32 : decode cX6_timeOf 32 = .ok (.ireturn, 1) := by decide +kernel
theorem dX6_endOf_0 : decode cX6_endOf 0 = .ok (.aload_n 0, 1) := by decide +kernel
theorem dX6_endOf_1 : decode cX6_endOf 1 = .ok (.iload_n 1, 1) := by decide +kernel
theorem dX6_endOf_2 : decode cX6_endOf 2 = .ok (.aload_n 0, 1) := by decide +kernel
theorem dX6_endOf_3 : decode cX6_endOf 3 = .ok (.iload_n 1, 1) := by decide +kernel
theorem dX6_endOf_4 : decode cX6_endOf 4 = .ok (.invokevirtual 126, 3) := by decide +kernel
theorem dX6_endOf_7 : decode cX6_endOf 7 = .ok (.invokevirtual 129, 3) := by decide +kernel
theorem dX6_endOf_10 : decode cX6_endOf 10 = .ok (.ireturn, 1) := by decide +kernel
theorem dX6_setSpeed_0 : decode cX6_setSpeed 0 = .ok (.aload_n 0, 1) := by decide +kernel
theorem dX6_setSpeed_1 : decode cX6_setSpeed 1 = .ok (.iconst 0, 1) := by decide +kernel
theorem dX6_setSpeed_2 : decode cX6_setSpeed 2 = .ok (.putfield 43, 3) := by decide +kernel
theorem dX6_setSpeed_5 : decode cX6_setSpeed 5 = .ok (.aload_n 0, 1) := by decide +kernel
theorem dX6_setSpeed_6 : decode cX6_setSpeed 6 = .ok (.iload_n 1, 1) := by decide +kernel
theorem dX6_setSpeed_7 : decode cX6_setSpeed 7 = .ok (.invokevirtual 117, 3) := by decide +kernel
theorem dX6_setSpeed_10 : decode cX6_setSpeed 10 = .ok (.ifCond .ne 9, 3) := by decide +kernel
theorem dX6_setSpeed_13 : decode cX6_setSpeed 13 = .ok (.aload_n 0, 1) := by decide +kernel
theorem dX6_setSpeed_14 : decode cX6_setSpeed 14 = .ok (.iconst 1, 1) := by decide +kernel
theorem dX6_setSpeed_15 : decode cX6_setSpeed 15 = .ok (.invokevirtual 66, 3) := by decide +kernel
theorem dX6_setSpeed_18 : decode cX6_setSpeed 18 = .ok (.ireturn, 1) := by decide +kernel
theorem dX6_setSpeed_19 : decode cX6_setSpeed 19 = .ok (.iload_n 2, 1) := by decide +kernel
theorem dX6_setSpeed_20 : decode cX6_setSpeed 20 = .ok (.iconst 1, 1) := by decide +kernel
theorem dX6_setSpeed_21 : decode cX6_setSpeed 21 = .ok (.bipush 9, 2) := by decide +kernel
theorem dX6_setSpeed_23 : decode cX6_setSpeed 23 = .ok (.invokestatic 50, 3) := by decide +kernel
theorem dX6_setSpeed_26 : decode cX6_setSpeed 26 = .ok (.ifCond .eq 13, 3) := by decide +kernel
theorem dX6_setSpeed_29 : decode cX6_setSpeed 29 = .ok (.iload_n 3, 1) := by decide +kernel
theorem dX6_setSpeed_30 : decode cX6_setSpeed 30 = .ok (.iconst 1, 1) := by decide +kernel
theorem dX6_setSpeed_31 : decode cX6_setSpeed 31 = .ok (.bipush 9, 2) := by decide +kernel
theorem dX6_setSpeed_33 : decode cX6_setSpeed 33 = .ok (.invokestatic 50, 3) := by decide +kernel
theorem dX6_setSpeed_36 : decode cX6_setSpeed 36 = .ok (.ifCond .ne 9, 3) := by decide +kernel
theorem dX6_setSpeed_39 : decode cX6_setSpeed 39 = .ok (.aload_n 0, 1) := by decide +kernel
theorem dX6_setSpeed_40 : decode cX6_setSpeed 40 = .ok (.iconst 2, 1) := by decide +kernel
theorem dX6_setSpeed_41 : decode cX6_setSpeed 41 = .ok (.invokevirtual 66, 3) := by decide +kernel
theorem dX6_setSpeed_44 : decode cX6_setSpeed 44 = .ok (.ireturn, 1) := by decide +kernel
theorem dX6_setSpeed_45 : decode cX6_setSpeed 45 = .ok (.aload_n 0, 1) := by decide +kernel
theorem dX6_setSpeed_46 : decode cX6_setSpeed 46 = .ok (.getfield 37, 3) := by decide +kernel
theorem dX6_setSpeed_49 : decode cX6_setSpeed 49 = .ok (.bipush 13, 2) := by decide +kernel
theorem dX6_setSpeed_51 : decode cX6_setSpeed 51 = .ok (.iload_n 1, 1) := by decide +kernel
theorem dX6_setSpeed_52 : decode cX6_setSpeed 52 = .ok (.imul, 1) := by decide +kernel
theorem dX6_setSpeed_53 : decode cX6_setSpeed 53 = .ok (.iconst 5, 1) := by decide +kernel
theorem dX6_setSpeed_54 : decode cX6_setSpeed 54 = .ok (.iadd, 1) := by decide +kernel
theorem dX6_setSpeed_55 : decode cX6_setSpeed 55 = .ok (.iload_n 2, 1) := by decide +kernel
theorem dX6_setSpeed_56 : decode cX6_setSpeed 56 = .ok (.iastore, 1) := by decide +kernel
theorem dX6_setSpeed_57 : decode cX6_setSpeed 57 = .ok (.aload_n 0, 1) := by decide +kernel
theorem dX6_setSpeed_58 : decode cX6_setSpeed 58 = .ok (.getfield 37, 3) := by decide +kernel
theorem dX6_setSpeed_61 : decode cX6_setSpeed 61 = .ok (.bipush 13, 2) := by decide +kernel
theorem dX6_setSpeed_63 : decode cX6_setSpeed 63 = .ok (.iload_n 1, 1) := by decide +kernel
theorem dX6_setSpeed_64 : decode cX6_setSpeed 64 = .ok (.imul, 1) := by decide +kernel
theorem dX6_setSpeed_65 : decode cX6_setSpeed 65 = .ok (.bipush 6, 2) := by decide +kernel
theorem dX6_setSpeed_67 : decode cX6_setSpeed 67 = .ok (.iadd, 1) := by decide +kernel
theorem dX6_setSpeed_68 : decode cX6_setSpeed 68 = .ok (.iload_n 3, 1) := by decide +kernel
theorem dX6_setSpeed_69 : decode cX6_setSpeed 69 = .ok (.iastore, 1) := by decide +kernel
theorem dX6_setSpeed_70 : decode cX6_setSpeed 70 = .ok (.aload_n 0, 1) := by decide +kernel
theorem dX6_setSpeed_71 : decode cX6_setSpeed 71 = .ok (.iload_n 1, 1) := by decide +kernel
theorem dX6_setSpeed_72 : decode cX6_setSpeed 72 = .ok (.invokevirtual 132, 3) := by decide +kernel
theorem dX6_setSpeed_75 : decode cX6_setSpeed 75 = .ok (.ireturn, 1) := by decide +kernel
theorem dX6_setBlend_0 : decode cX6_setBlend 0 = .ok (.aload_n 0, 1) := by decide +kernel
theorem dX6_setBlend_1 : decode cX6_setBlend 1 = .ok (.iconst 0, 1) := by decide +kernel
theorem dX6_setBlend_2 : decode cX6_setBlend 2 = .ok (.putfield 43, 3) := by decide +kernel
theorem dX6_setBlend_5 : decode cX6_setBlend 5 = .ok (.aload_n 0, 1) := by decide +kernel
theorem dX6_setBlend_6 : decode cX6_setBlend 6 = .ok (.iload_n 1, 1) := by decide +kernel
theorem dX6_setBlend_7 : decode cX6_setBlend 7 = .ok (.invokevirtual 117, 3) := by decide +kernel
theorem dX6_setBlend_10 : decode cX6_setBlend 10 = .ok (.ifCond .ne 9, 3) := by decide +kernel
theorem dX6_setBlend_13 : decode cX6_setBlend 13 = .ok (.aload_n 0, 1) := by decide +kernel
theorem dX6_setBlend_14 : decode cX6_setBlend 14 = .ok (.iconst 1, 1) := by decide +kernel
theorem dX6_setBlend_15 : decode cX6_setBlend 15 = .ok (.invokevirtual 66, 3) := by decide +kernel
theorem dX6_setBlend_18 : decode cX6_setBlend 18 = .ok (.ireturn, 1) := by decide +kernel
theorem dX6_setBlend_19 : decode cX6_setBlend 19 = .ok (.iload_n 2, 1) := by decide +kernel
theorem dX6_setBlend_20 : decode cX6_setBlend 20 = .ok (.iconst 0, 1) := by decide +kernel
theorem dX6_setBlend_21 : decode cX6_setBlend 21 = .ok (.bipush 9, 2) := by decide +kernel
theorem dX6_setBlend_23 : decode cX6_setBlend 23 = .ok (.invokestatic 50, 3) := by decide +kernel
theorem dX6_setBlend_26 : decode cX6_setBlend 26 = .ok (.ifCond .eq 13, 3) := by decide +kernel
theorem dX6_setBlend_29 : decode cX6_setBlend 29 = .ok (.iload_n 3, 1) := by decide +kernel
theorem dX6_setBlend_30 : decode cX6_setBlend 30 = .ok (.iconst 0, 1) := by decide +kernel
theorem dX6_setBlend_31 : decode cX6_setBlend 31 = .ok (.bipush 100, 2) := by decide +kernel
theorem dX6_setBlend_33 : decode cX6_setBlend 33 = .ok (.invokestatic 50, 3) := by decide +kernel
theorem dX6_setBlend_36 : decode cX6_setBlend 36 = .ok (.ifCond .ne 9, 3) := by decide +kernel
theorem dX6_setBlend_39 : decode cX6_setBlend 39 = .ok (.aload_n 0, 1) := by decide +kernel
theorem dX6_setBlend_40 : decode cX6_setBlend 40 = .ok (.iconst 2, 1) := by decide +kernel
theorem dX6_setBlend_41 : decode cX6_setBlend 41 = .ok (.invokevirtual 66, 3) := by decide +kernel
theorem dX6_setBlend_44 : decode cX6_setBlend 44 = .ok (.ireturn, 1) := by decide +kernel
theorem dX6_setBlend_45 : decode cX6_setBlend 45 = .ok (.aload_n 0, 1) := by decide +kernel
theorem dX6_setBlend_46 : decode cX6_setBlend 46 = .ok (.iload_n 1, 1) := by decide +kernel
theorem dX6_setBlend_47 : decode cX6_setBlend 47 = .ok (.bipush 7, 2) := by decide +kernel
theorem dX6_setBlend_49 : decode cX6_setBlend 49 = .ok (.invokevirtual 120, 3) := by decide +kernel
theorem dX6_setBlend_52 : decode cX6_setBlend 52 = .ok (.istore 6, 2) := by decide +kernel
theorem dX6_setBlend_54 : decode cX6_setBlend 54 = .ok (.aload_n 0, 1) := by decide +kernel
theorem dX6_setBlend_55 : decode cX6_setBlend 55 = .ok (.getfield 37, 3) := by decide +kernel
theorem dX6_setBlend_58 : decode cX6_setBlend 58 = .ok (.bipush 13, 2) := by decide +kernel
theorem dX6_setBlend_60 : decode cX6_setBlend 60 = .ok (.iload_n 1, 1) := by decide +kernel
theorem dX6_setBlend_61 : decode cX6_setBlend 61 = .ok (.imul, 1) := by decide +kernel
theorem dX6_setBlend_62 : decode cX6_setBlend 62 = .ok (.bipush 7, 2) := by decide +kernel
theorem dX6_setBlend_64 : decode cX6_setBlend 64 = .ok (.iadd, 1) := by decide +kernel
theorem dX6_setBlend_65 : decode cX6_setBlend 65 = .ok (.iload_n 2, 1) := by decide +kernel
theorem dX6_setBlend_66 : decode cX6_setBlend 66 = .ok (.iastore, 1) := by decide +kernel
theorem dX6_setBlend_67 : decode cX6_setBlend 67 = .ok (.aload_n 0, 1) := by decide +kernel
theorem dX6_setBlend_68 : decode cX6_setBlend 68 = .ok (.getfield 37, 3) := by decide +kernel
theorem dX6_setBlend_71 : decode cX6_setBlend 71 = .ok (.bipush 13, 2) := by decide +kernel
theorem dX6_setBlend_73 : decode cX6_setBlend 73 = .ok (.iload_n 1, 1) := by decide +kernel
theorem dX6_setBlend_74 : decode cX6_setBlend 74 = .ok (.imul, 1) := by decide +kernel
theorem dX6_setBlend_75 : decode cX6_setBlend 75 = .ok (.bipush 8, 2) := by decide +kernel
theorem dX6_setBlend_77 : decode cX6_setBlend 77 = .ok (.iadd, 1) := by decide +kernel
theorem dX6_setBlend_78 : decode cX6_setBlend 78 = .ok (.iload_n 3, 1) := by decide +kernel
theorem dX6_setBlend_79 : decode cX6_setBlend 79 = .ok (.iastore, 1) := by decide +kernel
theorem dX6_setBlend_80 : decode cX6_setBlend 80 = .ok (.aload_n 0, 1) := by decide +kernel
theorem dX6_setBlend_81 : decode cX6_setBlend 81 = .ok (.getfield 37, 3) := by decide +kernel
theorem dX6_setBlend_84 : decode cX6_setBlend 84 = .ok (.bipush 13, 2) := by decide +kernel
theorem dX6_setBlend_86 : decode cX6_setBlend 86 = .ok (.iload_n 1, 1) := by decide +kernel
theorem dX6_setBlend_87 : decode cX6_setBlend 87 = .ok (.imul, 1) := by decide +kernel
theorem dX6_setBlend_88 : decode cX6_setBlend 88 = .ok (.bipush 9, 2) := by decide +kernel
theorem dX6_setBlend_90 : decode cX6_setBlend 90 = .ok (.iadd, 1) := by decide +kernel
theorem dX6_setBlend_91 : decode cX6_setBlend 91 = .ok (.iload 4, 2) := by decide +kernel
theorem dX6_setBlend_93 : decode cX6_setBlend 93 = .ok (.ifCond .eq 7, 3) := by decide +kernel
theorem dX6_setBlend_96 : decode cX6_setBlend 96 = .ok (.iconst 1, 1) := by decide +kernel
theorem dX6_setBlend_97 : decode cX6_setBlend 97 = .ok (.goto 4, 3) := by decide +kernel
theorem dX6_setBlend_100 : decode cX6_setBlend 100 = .ok (.iconst 0, 1) := by decide +kernel
theorem dX6_setBlend_101 : decode cX6_setBlend 101 = .ok (.iastore, 1) := by decide +kernel
theorem dX6_setBlend_102 : decode cX6_setBlend 102 = .ok (.aload_n 0, 1) := by decide +kernel
theorem dX6_setBlend_103 : decode cX6_setBlend 103 = .ok (.getfield 37, 3) := by decide +kernel
theorem dX6_setBlend_106 : decode cX6_setBlend 106 = .ok (.bipush 13, 2) := by decide +kernel
theorem dX6_setBlend_108 : decode cX6_setBlend 108 = .ok (.iload_n 1, 1) := by decide +kernel
theorem dX6_setBlend_109 : decode cX6_setBlend 109 = .ok (.imul, 1) := by decide +kernel
theorem dX6_setBlend_110 : decode cX6_setBlend 110 = .ok (.bipush 10, 2) := by decide +kernel
theorem dX6_setBlend_112 : decode cX6_setBlend 112 = .ok (.iadd, 1) := by decide +kernel
theorem dX6_setBlend_113 : decode cX6_setBlend 113 = .ok (.iload 5, 2) := by decide +kernel
theorem dX6_setBlend_115 : decode cX6_setBlend 115 = .ok (.ifCond .eq 7, 3) := by decide +kernel
theorem dX6_setBlend_118 : decode cX6_setBlend 118 = .ok (.iconst 1, 1) := by decide +kernel
theorem dX6_setBlend_119 : decode cX6_setBlend 119 = .ok (.goto 4, 3) := by decide +kernel
theorem dX6_setBlend_122 : decode cX6_setBlend 122 = .ok (.iconst 0, 1) := by decide +kernel
theorem dX6_setBlend_123 : decode cX6_setBlend 123 = .ok (.iastore, 1) := by decide +kernel
theorem dX6_setBlend_124 : decode cX6_setBlend 124 = .ok (.iload 6, 2) := by decide +kernel
theorem dX6_setBlend_126 : decode cX6_setBlend 126 = .ok (.ireturn, 1) := by decide +kernel
theorem dX6_setFade_0 : decode cX6_setFade 0 = .ok (.aload_n 0, 1) := by decide +kernel
theorem dX6_setFade_1 : decode cX6_setFade 1 = .ok (.iconst 0, 1) := by decide +kernel
theorem dX6_setFade_2 : decode cX6_setFade 2 = .ok (.putfield 43, 3) := by decide +kernel
theorem dX6_setFade_5 : decode cX6_setFade 5 = .ok (.aload_n 0, 1) := by decide +kernel
theorem dX6_setFade_6 : decode cX6_setFade 6 = .ok (.iload_n 1, 1) := by decide +kernel
theorem dX6_setFade_7 : decode cX6_setFade 7 = .ok (.invokevirtual 117, 3) := by decide +kernel
theorem dX6_setFade_10 : decode cX6_setFade 10 = .ok (.ifCond .ne 9, 3) := by decide +kernel
theorem dX6_setFade_13 : decode cX6_setFade 13 = .ok (.aload_n 0, 1) := by decide +kernel
theorem dX6_setFade_14 : decode cX6_setFade 14 = .ok (.iconst 1, 1) := by decide +kernel
theorem dX6_setFade_15 : decode cX6_setFade 15 = .ok (.invokevirtual 66, 3) := by decide +kernel
theorem dX6_setFade_18 : decode cX6_setFade 18 = .ok (.ireturn, 1) := by decide +kernel
theorem dX6_setFade_19 : decode cX6_setFade 19 = .ok (.iload_n 2, 1) := by decide +kernel
theorem dX6_setFade_20 : decode cX6_setFade 20 = .ok (.iconst 0, 1) := by decide +kernel
theorem dX6_setFade_21 : decode cX6_setFade 21 = .ok (.sipush 2000, 3) := by decide +kernel
theorem dX6_setFade_24 : decode cX6_setFade 24 = .ok (.invokestatic 50, 3) := by decide +kernel
theorem dX6_setFade_27 : decode cX6_setFade 27 = .ok (.ifCond .eq 14, 3) := by decide +kernel
theorem dX6_setFade_30 : decode cX6_setFade 30 = .ok (.iload_n 3, 1) := by decide +kernel
theorem dX6_setFade_31 : decode cX6_setFade 31 = .ok (.iconst 0, 1) := by decide +kernel
theorem dX6_setFade_32 : decode cX6_setFade 32 = .ok (.sipush 2000, 3) := by decide +kernel
theorem dX6_setFade_35 : decode cX6_setFade 35 = .ok (.invokestatic 50, 3) := by decide +kernel
theorem dX6_setFade_38 : decode cX6_setFade 38 = .ok (.ifCond .ne 9, 3) := by decide +kernel
theorem dX6_setFade_41 : decode cX6_setFade 41 = .ok (.aload_n 0, 1) := by decide +kernel
theorem dX6_setFade_42 : decode cX6_setFade 42 = .ok (.iconst 2, 1) := by decide +kernel
theorem dX6_setFade_43 : decode cX6_setFade 43 = .ok (.invokevirtual 66, 3) := by decide +kernel
theorem dX6_setFade_46 : decode cX6_setFade 46 = .ok (.ireturn, 1) := by decide +kernel
theorem dX6_setFade_47 : decode cX6_setFade 47 = .ok (.aload_n 0, 1) := by decide +kernel
theorem dX6_setFade_48 : decode cX6_setFade 48 = .ok (.iload_n 1, 1) := by decide +kernel
theorem dX6_setFade_49 : decode cX6_setFade 49 = .ok (.bipush 11, 2) := by decide +kernel
theorem dX6_setFade_51 : decode cX6_setFade 51 = .ok (.invokevirtual 120, 3) := by decide +kernel
theorem dX6_setFade_54 : decode cX6_setFade 54 = .ok (.istore 4, 2) := by decide +kernel
theorem dX6_setFade_56 : decode cX6_setFade 56 = .ok (.aload_n 0, 1) := by decide +kernel
theorem dX6_setFade_57 : decode cX6_setFade 57 = .ok (.getfield 37, 3) := by decide +kernel
theorem dX6_setFade_60 : decode cX6_setFade 60 = .ok (.bipush 13, 2) := by decide +kernel
theorem dX6_setFade_62 : decode cX6_setFade 62 = .ok (.iload_n 1, 1) := by decide +kernel
theorem dX6_setFade_63 : decode cX6_setFade 63 = .ok (.imul, 1) := by decide +kernel
theorem dX6_setFade_64 : decode cX6_setFade 64 = .ok (.bipush 11, 2) := by decide +kernel
theorem dX6_setFade_66 : decode cX6_setFade 66 = .ok (.iadd, 1) := by decide +kernel
theorem dX6_setFade_67 : decode cX6_setFade 67 = .ok (.iload_n 2, 1) := by decide +kernel
theorem dX6_setFade_68 : decode cX6_setFade 68 = .ok (.iastore, 1) := by decide +kernel
theorem dX6_setFade_69 : decode cX6_setFade 69 = .ok (.aload_n 0, 1) := by decide +kernel
theorem dX6_setFade_70 : decode cX6_setFade 70 = .ok (.getfield 37, 3) := by decide +kernel
theorem dX6_setFade_73 : decode cX6_setFade 73 = .ok (.bipush 13, 2) := by decide +kernel
theorem dX6_setFade_75 : decode cX6_setFade 75 = .ok (.iload_n 1, 1) := by decide +kernel
theorem dX6_setFade_76 : decode cX6_setFade 76 = .ok (.imul, 1) := by decide +kernel
theorem dX6_setFade_77 : decode cX6_setFade 77 = .ok (.bipush 12, 2) := by decide +kernel
theorem dX6_setFade_79 : decode cX6_setFade 79 = .ok (.iadd, 1) := by decide +kernel
theorem dX6_setFade_80 : decode cX6_setFade 80 = .ok (.iload_n 3, 1) := by decide +kernel
theorem dX6_setFade_81 : decode cX6_setFade 81 = .ok (.iastore, 1) := by decide +kernel
theorem dX6_setFade_82 : decode cX6_setFade 82 = .ok (.iload 4, 2) := by decide +kernel
theorem dX6_setFade_84 : decode cX6_setFade 84 = .ok (.ireturn, 1) := by decide +kernel
theorem dX6_stripTold_0 : decode cX6_stripTold 0 = .ok (.iload_n 2, 1) := by decide +kernel
theorem dX6_stripTold_1 : decode cX6_stripTold 1 = .ok (.iconst 2, 1) := by decide +kernel
theorem dX6_stripTold_2 : decode cX6_stripTold 2 = .ok (.if_icmp .ne 11, 3) := by decide +kernel
theorem dX6_stripTold_5 : decode cX6_stripTold 5 = .ok (.aload_n 0, 1) := by decide +kernel
theorem dX6_stripTold_6 : decode cX6_stripTold 6 = .ok (.iload_n 1, 1) := by decide +kernel
theorem dX6_stripTold_7 : decode cX6_stripTold 7 = .ok (.invokevirtual 132, 3) := by decide +kernel
theorem dX6_stripTold_10 : decode cX6_stripTold 10 = .ok (.goto 9, 3) := by decide +kernel
theorem dX6_stripTold_13 : decode cX6_stripTold 13 = .ok (.aload_n 0, 1) := by decide +kernel
theorem dX6_stripTold_14 : decode cX6_stripTold 14 = .ok (.iload_n 1, 1) := by decide +kernel
theorem dX6_stripTold_15 : decode cX6_stripTold 15 = .ok (.iload_n 2, 1) := by decide +kernel
theorem dX6_stripTold_16 : decode cX6_stripTold 16 = .ok (.invokevirtual 120, 3) := by decide +kernel
theorem dX6_stripTold_19 : decode cX6_stripTold 19 = .ok (.ireturn, 1) := by decide +kernel
theorem dX6_strip_0 : decode cX6_strip 0 = .ok (.aload_n 0, 1) := by decide +kernel
theorem dX6_strip_1 : decode cX6_strip 1 = .ok (.iconst 0, 1) := by decide +kernel
theorem dX6_strip_2 : decode cX6_strip 2 = .ok (.putfield 43, 3) := by decide +kernel
theorem dX6_strip_5 : decode cX6_strip 5 = .ok (.aload_n 0, 1) := by decide +kernel
theorem dX6_strip_6 : decode cX6_strip 6 = .ok (.iload_n 1, 1) := by decide +kernel
theorem dX6_strip_7 : decode cX6_strip 7 = .ok (.invokevirtual 117, 3) := by decide +kernel
theorem dX6_strip_10 : decode cX6_strip 10 = .ok (.ifCond .eq 22, 3) := by decide +kernel
theorem dX6_strip_13 : decode cX6_strip 13 = .ok (.iload_n 2, 1) := by decide +kernel
theorem dX6_strip_14 : decode cX6_strip 14 = .ok (.iconst 0, 1) := by decide +kernel
theorem dX6_strip_15 : decode cX6_strip 15 = .ok (.bipush 12, 2) := by decide +kernel
theorem dX6_strip_17 : decode cX6_strip 17 = .ok (.invokestatic 50, 3) := by decide +kernel
theorem dX6_strip_20 : decode cX6_strip 20 = .ok (.ifCond .eq 12, 3) := by decide +kernel
theorem dX6_strip_23 : decode cX6_strip 23 = .ok (.aload_n 0, 1) := by decide +kernel
theorem dX6_strip_24 : decode cX6_strip 24 = .ok (.iload_n 1, 1) := by decide +kernel
theorem dX6_strip_25 : decode cX6_strip 25 = .ok (.iload_n 2, 1) := by decide +kernel
theorem dX6_strip_26 : decode cX6_strip 26 = .ok (.invokevirtual 135, 3) := by decide +kernel
theorem dX6_strip_29 : decode cX6_strip 29 = .ok (.goto 8, 3) := by decide +kernel
theorem dX6_strip_32 : decode cX6_strip 32 = .ok (.aload_n 0, 1) := by decide +kernel
theorem dX6_strip_33 : decode cX6_strip 33 = .ok (.iconst 1, 1) := by decide +kernel
theorem dX6_strip_34 : decode cX6_strip 34 = .ok (.invokevirtual 66, 3) := by decide +kernel
theorem dX6_strip_37 : decode cX6_strip 37 = .ok (.ireturn, 1) := by decide +kernel
theorem dX6_isOn_0 : decode cX6_isOn 0 = .ok (.iload_n 2, 1) := by decide +kernel
theorem dX6_isOn_1 : decode cX6_isOn 1 = .ok (.aload_n 0, 1) := by decide +kernel
theorem dX6_isOn_2 : decode cX6_isOn 2 = .ok (.iload_n 1, 1) := by decide +kernel
theorem dX6_isOn_3 : decode cX6_isOn 3 = .ok (.iconst 1, 1) := by decide +kernel
theorem dX6_isOn_4 : decode cX6_isOn 4 = .ok (.invokevirtual 120, 3) := by decide +kernel
theorem dX6_isOn_7 : decode cX6_isOn 7 = .ok (.if_icmp .lt 27, 3) := by decide +kernel
theorem dX6_isOn_10 : decode cX6_isOn 10 = .ok (.aload_n 0, 1) := by decide +kernel
theorem dX6_isOn_11 : decode cX6_isOn 11 = .ok (.iload_n 1, 1) := by decide +kernel
theorem dX6_isOn_12 : decode cX6_isOn 12 = .ok (.bipush 10, 2) := by decide +kernel
theorem dX6_isOn_14 : decode cX6_isOn 14 = .ok (.invokevirtual 120, 3) := by decide +kernel
theorem dX6_isOn_17 : decode cX6_isOn 17 = .ok (.iconst 1, 1) := by decide +kernel
theorem dX6_isOn_18 : decode cX6_isOn 18 = .ok (.if_icmp .eq 12, 3) := by decide +kernel
theorem dX6_isOn_21 : decode cX6_isOn 21 = .ok (.iload_n 2, 1) := by decide +kernel
theorem dX6_isOn_22 : decode cX6_isOn 22 = .ok (.aload_n 0, 1) := by decide +kernel
theorem dX6_isOn_23 : decode cX6_isOn 23 = .ok (.iload_n 1, 1) := by decide +kernel
theorem dX6_isOn_24 : decode cX6_isOn 24 = .ok (.invokevirtual 132, 3) := by decide +kernel
theorem dX6_isOn_27 : decode cX6_isOn 27 = .ok (.if_icmp .ge 7, 3) := by decide +kernel
theorem dX6_isOn_30 : decode cX6_isOn 30 = .ok (.iconst 1, 1) := by decide +kernel
theorem dX6_isOn_31 : decode cX6_isOn 31 = .ok (.goto 4, 3) := by decide +kernel
theorem dX6_isOn_34 : decode cX6_isOn 34 = .ok (.iconst 0, 1) := by decide +kernel
theorem dX6_isOn_35 : decode cX6_isOn 35 = .ok (.ireturn, 1) := by decide +kernel
theorem dX6_isBack_0 : decode cX6_isBack 0 = .ok (.aload_n 0, 1) := by decide +kernel
theorem dX6_isBack_1 : decode cX6_isBack 1 = .ok (.iload_n 1, 1) := by decide +kernel
theorem dX6_isBack_2 : decode cX6_isBack 2 = .ok (.iconst 4, 1) := by decide +kernel
theorem dX6_isBack_3 : decode cX6_isBack 3 = .ok (.invokevirtual 120, 3) := by decide +kernel
theorem dX6_isBack_6 : decode cX6_isBack 6 = .ok (.iconst 1, 1) := by decide +kernel
theorem dX6_isBack_7 : decode cX6_isBack 7 = .ok (.if_icmp .eq 20, 3) := by decide +kernel
theorem dX6_isBack_10 : decode cX6_isBack 10 = .ok (.aload_n 0, 1) := by decide +kernel
theorem dX6_isBack_11 : decode cX6_isBack 11 = .ok (.iload_n 1, 1) := by decide +kernel
theorem dX6_isBack_12 : decode cX6_isBack 12 = .ok (.iconst 4, 1) := by decide +kernel
theorem dX6_isBack_13 : decode cX6_isBack 13 = .ok (.invokevirtual 120, 3) := by decide +kernel
theorem dX6_isBack_16 : decode cX6_isBack 16 = .ok (.iconst 2, 1) := by decide +kernel
theorem dX6_isBack_17 : decode cX6_isBack 17 = .ok (.if_icmp .ne 14, 3) := by decide +kernel
theorem dX6_isBack_20 : decode cX6_isBack 20 = .ok (.iload_n 2, 1) := by decide +kernel
theorem dX6_isBack_21 : decode cX6_isBack 21 = .ok (.iconst 2, 1) := by decide +kernel
theorem dX6_isBack_22 : decode cX6_isBack 22 = .ok (.irem, 1) := by decide +kernel
theorem dX6_isBack_23 : decode cX6_isBack 23 = .ok (.iconst 1, 1) := by decide +kernel
theorem dX6_isBack_24 : decode cX6_isBack 24 = .ok (.if_icmp .ne 7, 3) := by decide +kernel
theorem dX6_isBack_27 : decode cX6_isBack 27 = .ok (.iconst 1, 1) := by decide +kernel
theorem dX6_isBack_28 : decode cX6_isBack 28 = .ok (.goto 4, 3) := by decide +kernel
theorem dX6_isBack_31 : decode cX6_isBack 31 = .ok (.iconst 0, 1) := by decide +kernel
theorem dX6_isBack_32 : decode cX6_isBack 32 = .ok (.ireturn, 1) := by decide +kernel
theorem dX6_local_0 : decode cX6_local 0 = .ok (.aload_n 0, 1) := by decide +kernel
theorem dX6_local_1 : decode cX6_local 1 = .ok (.iload_n 1, 1) := by decide +kernel
theorem dX6_local_2 : decode cX6_local 2 = .ok (.invokevirtual 126, 3) := by decide +kernel
theorem dX6_local_5 : decode cX6_local 5 = .ok (.i2l, 1) := by decide +kernel
theorem dX6_local_6 : decode cX6_local 6 = .ok (.iload_n 2, 1) := by decide +kernel
theorem dX6_local_7 : decode cX6_local 7 = .ok (.aload_n 0, 1) := by decide +kernel
theorem dX6_local_8 : decode cX6_local 8 = .ok (.iload_n 1, 1) := by decide +kernel
theorem dX6_local_9 : decode cX6_local 9 = .ok (.iconst 1, 1) := by decide +kernel
theorem dX6_local_10 : decode cX6_local 10 = .ok (.invokevirtual 120, 3) := by decide +kernel
theorem dX6_local_13 : decode cX6_local 13 = .ok (.isub, 1) := by decide +kernel
theorem dX6_local_14 : decode cX6_local 14 = .ok (.i2l, 1) := by decide +kernel
theorem dX6_local_15 : decode cX6_local 15 = .ok (.aload_n 0, 1) := by decide +kernel
theorem dX6_local_16 : decode cX6_local 16 = .ok (.iload_n 1, 1) := by decide +kernel
theorem dX6_local_17 : decode cX6_local 17 = .ok (.iconst 5, 1) := by decide +kernel
theorem dX6_local_18 : decode cX6_local 18 = .ok (.invokevirtual 120, 3) := by decide +kernel
theorem dX6_local_21 : decode cX6_local 21 = .ok (.i2l, 1) := by decide +kernel
theorem dX6_local_22 : decode cX6_local 22 = .ok (.lmul, 1) := by decide +kernel
theorem dX6_local_23 : decode cX6_local 23 = .ok (.aload_n 0, 1) := by decide +kernel
theorem dX6_local_24 : decode cX6_local 24 = .ok (.iload_n 1, 1) := by decide +kernel
theorem dX6_local_25 : decode cX6_local 25 = .ok (.bipush 6, 2) := by decide +kernel
theorem dX6_local_27 : decode cX6_local 27 = .ok (.invokevirtual 120, 3) := by decide +kernel
theorem dX6_local_30 : decode cX6_local 30 = .ok (.i2l, 1) := by decide +kernel
theorem dX6_local_31 : decode cX6_local 31 = .ok (.ldiv, 1) := by decide +kernel
theorem dX6_local_32 : decode cX6_local 32 = .ok (.invokestatic 138, 3) := by decide +kernel
theorem dX6_local_35 : decode cX6_local 35 = .ok (.lstore_n 3, 1) := by decide +kernel
theorem dX6_local_36 : decode cX6_local 36 = .ok (.aload_n 0, 1) := by decide +kernel
theorem dX6_local_37 : decode cX6_local 37 = .ok (.iload_n 1, 1) := by decide +kernel
theorem dX6_local_38 : decode cX6_local 38 = .ok (.iconst 3, 1) := by decide +kernel
theorem dX6_local_39 : decode cX6_local 39 = .ok (.invokevirtual 120, 3) := by decide +kernel
theorem dX6_local_42 : decode cX6_local 42 = .ok (.iconst 1, 1) := by decide +kernel
theorem dX6_local_43 : decode cX6_local 43 = .ok (.isub, 1) := by decide +kernel
theorem dX6_local_44 : decode cX6_local 44 = .ok (.i2l, 1) := by decide +kernel
theorem dX6_local_45 : decode cX6_local 45 = .ok (.lload_n 3, 1) := by decide +kernel
theorem dX6_local_46 : decode cX6_local 46 = .ok (.aload_n 0, 1) := by decide +kernel
theorem dX6_local_47 : decode cX6_local 47 = .ok (.iload_n 1, 1) := by decide +kernel
theorem dX6_local_48 : decode cX6_local 48 = .ok (.invokevirtual 123, 3) := by decide +kernel
theorem dX6_local_51 : decode cX6_local 51 = .ok (.i2l, 1) := by decide +kernel
theorem dX6_local_52 : decode cX6_local 52 = .ok (.ldiv, 1) := by decide +kernel
theorem dX6_local_53 : decode cX6_local 53 = .ok (.invokestatic 138, 3) := by decide +kernel
theorem dX6_local_56 : decode cX6_local 56 = .ok (.l2i, 1) := by decide +kernel
theorem dX6_local_57 : decode cX6_local 57 = .ok (.istore 5, 2) := by decide +kernel
theorem dX6_local_59 : decode cX6_local 59 = .ok (.lload_n 3, 1) := by decide +kernel
theorem dX6_local_60 : decode cX6_local 60 = .ok (.l2i, 1) := by decide +kernel
theorem dX6_local_61 : decode cX6_local 61 = .ok (.iload 5, 2) := by decide +kernel
theorem dX6_local_63 : decode cX6_local 63 = .ok (.aload_n 0, 1) := by decide +kernel
theorem dX6_local_64 : decode cX6_local 64 = .ok (.iload_n 1, 1) := by decide +kernel
theorem dX6_local_65 : decode cX6_local 65 = .ok (.invokevirtual 123, 3) := by decide +kernel
theorem dX6_local_68 : decode cX6_local 68 = .ok (.imul, 1) := by decide +kernel
theorem dX6_local_69 : decode cX6_local 69 = .ok (.isub, 1) := by decide +kernel
theorem dX6_local_70 : decode cX6_local 70 = .ok (.istore 6, 2) := by decide +kernel
theorem dX6_local_72 : decode cX6_local 72 = .ok (.aload_n 0, 1) := by decide +kernel
theorem dX6_local_73 : decode cX6_local 73 = .ok (.iload_n 1, 1) := by decide +kernel
theorem dX6_local_74 : decode cX6_local 74 = .ok (.iload 5, 2) := by decide +kernel
theorem dX6_local_76 : decode cX6_local 76 = .ok (.invokevirtual 141, 3) := by decide +kernel
theorem dX6_local_79 : decode cX6_local 79 = .ok (.ifCond .eq 14, 3) := by decide +kernel
theorem dX6_local_82 : decode cX6_local 82 = .ok (.aload_n 0, 1) := by decide +kernel
theorem dX6_local_83 : decode cX6_local 83 = .ok (.iload_n 1, 1) := by decide +kernel
theorem dX6_local_84 : decode cX6_local 84 = .ok (.invokevirtual 123, 3) := by decide +kernel
theorem dX6_local_87 : decode cX6_local 87 = .ok (.iload 6, 2) := by decide +kernel
theorem dX6_local_89 : decode cX6_local 89 = .ok (.isub, 1) := by decide +kernel
theorem dX6_local_90 : decode cX6_local 90 = .ok (.goto 5, 3) := by decide +kernel
theorem dX6_local_93 : decode cX6_local 93 = .ok (.iload 6, 2) := by decide +kernel
theorem dX6_local_95 : decode cX6_local 95 = .ok (.ireturn, 1) := by decide +kernel
theorem dX6_strength_0 : decode cX6_strength 0 = .ok (.aload_n 0, 1) := by decide +kernel
theorem dX6_strength_1 : decode cX6_strength 1 = .ok (.iload_n 1, 1) := by decide +kernel
theorem dX6_strength_2 : decode cX6_strength 2 = .ok (.bipush 8, 2) := by decide +kernel
theorem dX6_strength_4 : decode cX6_strength 4 = .ok (.invokevirtual 120, 3) := by decide +kernel
theorem dX6_strength_7 : decode cX6_strength 7 = .ok (.istore_n 3, 1) := by decide +kernel
theorem dX6_strength_8 : decode cX6_strength 8 = .ok (.iload_n 2, 1) := by decide +kernel
theorem dX6_strength_9 : decode cX6_strength 9 = .ok (.aload_n 0, 1) := by decide +kernel
theorem dX6_strength_10 : decode cX6_strength 10 = .ok (.iload_n 1, 1) := by decide +kernel
theorem dX6_strength_11 : decode cX6_strength 11 = .ok (.iconst 1, 1) := by decide +kernel
theorem dX6_strength_12 : decode cX6_strength 12 = .ok (.invokevirtual 120, 3) := by decide +kernel
theorem dX6_strength_15 : decode cX6_strength 15 = .ok (.isub, 1) := by decide +kernel
theorem dX6_strength_16 : decode cX6_strength 16 = .ok (.istore 4, 2) := by decide +kernel
theorem dX6_strength_18 : decode cX6_strength 18 = .ok (.aload_n 0, 1) := by decide +kernel
theorem dX6_strength_19 : decode cX6_strength 19 = .ok (.iload_n 1, 1) := by decide +kernel
theorem dX6_strength_20 : decode cX6_strength 20 = .ok (.invokevirtual 132, 3) := by decide +kernel
theorem dX6_strength_23 : decode cX6_strength 23 = .ok (.iload_n 2, 1) := by decide +kernel
theorem dX6_strength_24 : decode cX6_strength 24 = .ok (.isub, 1) := by decide +kernel
theorem dX6_strength_25 : decode cX6_strength 25 = .ok (.istore 5, 2) := by decide +kernel
theorem dX6_strength_27 : decode cX6_strength 27 = .ok (.iload_n 3, 1) := by decide +kernel
theorem dX6_strength_28 : decode cX6_strength 28 = .ok (.istore 6, 2) := by decide +kernel
theorem dX6_strength_30 : decode cX6_strength 30 = .ok (.iload 4, 2) := by decide +kernel
theorem dX6_strength_32 : decode cX6_strength 32 = .ok (.aload_n 0, 1) := by decide +kernel
theorem dX6_strength_33 : decode cX6_strength 33 = .ok (.iload_n 1, 1) := by decide +kernel
theorem dX6_strength_34 : decode cX6_strength 34 = .ok (.bipush 11, 2) := by decide +kernel
theorem dX6_strength_36 : decode cX6_strength 36 = .ok (.invokevirtual 120, 3) := by decide +kernel
theorem dX6_strength_39 : decode cX6_strength 39 = .ok (.if_icmp .ge 27, 3) := by decide +kernel
theorem dX6_strength_42 : decode cX6_strength 42 = .ok (.iload 6, 2) := by decide +kernel
theorem dX6_strength_44 : decode cX6_strength 44 = .ok (.iload_n 3, 1) := by decide +kernel
theorem dX6_strength_45 : decode cX6_strength 45 = .ok (.i2l, 1) := by decide +kernel
theorem dX6_strength_46 : decode cX6_strength 46 = .ok (.iload 4, 2) := by decide +kernel
theorem dX6_strength_48 : decode cX6_strength 48 = .ok (.i2l, 1) := by decide +kernel
theorem dX6_strength_49 : decode cX6_strength 49 = .ok (.lmul, 1) := by decide +kernel
theorem dX6_strength_50 : decode cX6_strength 50 = .ok (.aload_n 0, 1) := by decide +kernel
theorem dX6_strength_51 : decode cX6_strength 51 = .ok (.iload_n 1, 1) := by decide +kernel
theorem dX6_strength_52 : decode cX6_strength 52 = .ok (.bipush 11, 2) := by decide +kernel
theorem dX6_strength_54 : decode cX6_strength 54 = .ok (.invokevirtual 120, 3) := by decide +kernel
theorem dX6_strength_57 : decode cX6_strength 57 = .ok (.i2l, 1) := by decide +kernel
theorem dX6_strength_58 : decode cX6_strength 58 = .ok (.invokestatic 89, 3) := by decide +kernel
theorem dX6_strength_61 : decode cX6_strength 61 = .ok (.invokestatic 144, 3) := by decide +kernel
theorem dX6_strength_64 : decode cX6_strength 64 = .ok (.istore 6, 2) := by decide +kernel
theorem dX6_strength_66 : decode cX6_strength 66 = .ok (.aload_n 0, 1) := by decide +kernel
theorem dX6_strength_67 : decode cX6_strength 67 = .ok (.iload_n 1, 1) := by decide +kernel
theorem dX6_strength_68 : decode cX6_strength 68 = .ok (.bipush 10, 2) := by decide +kernel
theorem dX6_strength_70 : decode cX6_strength 70 = .ok (.invokevirtual 120, 3) := by decide +kernel
theorem dX6_strength_73 : decode cX6_strength 73 = .ok (.ifCond .ne 39, 3) := by decide +kernel
theorem dX6_strength_76 : decode cX6_strength 76 = .ok (.iload 5, 2) := by decide +kernel
theorem dX6_strength_78 : decode cX6_strength 78 = .ok (.aload_n 0, 1) := by decide +kernel
theorem dX6_strength_79 : decode cX6_strength 79 = .ok (.iload_n 1, 1) := by decide +kernel
theorem dX6_strength_80 : decode cX6_strength 80 = .ok (.bipush 12, 2) := by decide +kernel
theorem dX6_strength_82 : decode cX6_strength 82 = .ok (.invokevirtual 120, 3) := by decide +kernel
theorem dX6_strength_85 : decode cX6_strength 85 = .ok (.if_icmp .ge 27, 3) := by decide +kernel
theorem dX6_strength_88 : decode cX6_strength 88 = .ok (.iload 6, 2) := by decide +kernel
theorem dX6_strength_90 : decode cX6_strength 90 = .ok (.iload_n 3, 1) := by decide +kernel
theorem dX6_strength_91 : decode cX6_strength 91 = .ok (.i2l, 1) := by decide +kernel
theorem dX6_strength_92 : decode cX6_strength 92 = .ok (.iload 5, 2) := by decide +kernel
theorem dX6_strength_94 : decode cX6_strength 94 = .ok (.i2l, 1) := by decide +kernel
theorem dX6_strength_95 : decode cX6_strength 95 = .ok (.lmul, 1) := by decide +kernel
theorem dX6_strength_96 : decode cX6_strength 96 = .ok (.aload_n 0, 1) := by decide +kernel
theorem dX6_strength_97 : decode cX6_strength 97 = .ok (.iload_n 1, 1) := by decide +kernel
theorem dX6_strength_98 : decode cX6_strength 98 = .ok (.bipush 12, 2) := by decide +kernel
theorem dX6_strength_100 : decode cX6_strength 100 = .ok (.invokevirtual 120, 3) := by decide +kernel
theorem dX6_strength_103 : decode cX6_strength 103 = .ok (.i2l, 1) := by decide +kernel
theorem dX6_strength_104 : decode cX6_strength 104 = .ok (.invokestatic 89, 3) := by decide +kernel
theorem dX6_strength_107 : decode cX6_strength 107 = .ok (.invokestatic 144, 3) := by decide +kernel
theorem dX6_strength_110 : decode cX6_strength 110 = .ok (.istore 6, 2) := by decide +kernel
theorem dX6_strength_112 : decode cX6_strength 112 = .ok (.iload 6, 2) := by decide +kernel
theorem dX6_strength_114 : decode cX6_strength 114 = .ok (.ireturn, 1) := by decide +kernel
theorem dX6_stripAt_0 : decode cX6_stripAt 0 = .ok (.aload_n 0, 1) := by decide +kernel
theorem dX6_stripAt_1 : decode cX6_stripAt 1 = .ok (.iconst 0, 1) := by decide +kernel
theorem dX6_stripAt_2 : decode cX6_stripAt 2 = .ok (.putfield 43, 3) := by decide +kernel
theorem dX6_stripAt_5 : decode cX6_stripAt 5 = .ok (.aload_n 0, 1) := by decide +kernel
theorem dX6_stripAt_6 : decode cX6_stripAt 6 = .ok (.iload_n 1, 1) := by decide +kernel
theorem dX6_stripAt_7 : decode cX6_stripAt 7 = .ok (.invokevirtual 117, 3) := by decide +kernel
theorem dX6_stripAt_10 : decode cX6_stripAt 10 = .ok (.ifCond .ne 9, 3) := by decide +kernel
theorem dX6_stripAt_13 : decode cX6_stripAt 13 = .ok (.aload_n 0, 1) := by decide +kernel
theorem dX6_stripAt_14 : decode cX6_stripAt 14 = .ok (.iconst 1, 1) := by decide +kernel
theorem dX6_stripAt_15 : decode cX6_stripAt 15 = .ok (.invokevirtual 66, 3) := by decide +kernel
theorem dX6_stripAt_18 : decode cX6_stripAt 18 = .ok (.ireturn, 1) := by decide +kernel
theorem dX6_stripAt_19 : decode cX6_stripAt 19 = .ok (.iload_n 2, 1) := by decide +kernel
theorem dX6_stripAt_20 : decode cX6_stripAt 20 = .ok (.iconst 0, 1) := by decide +kernel
theorem dX6_stripAt_21 : decode cX6_stripAt 21 = .ok (.ldc 146, 2) := by decide +kernel
theorem dX6_stripAt_23 : decode cX6_stripAt 23 = .ok (.invokestatic 50, 3) := by decide +kernel
theorem dX6_stripAt_26 : decode cX6_stripAt 26 = .ok (.ifCond .ne 9, 3) := by decide +kernel
theorem dX6_stripAt_29 : decode cX6_stripAt 29 = .ok (.aload_n 0, 1) := by decide +kernel
theorem dX6_stripAt_30 : decode cX6_stripAt 30 = .ok (.iconst 2, 1) := by decide +kernel
theorem dX6_stripAt_31 : decode cX6_stripAt 31 = .ok (.invokevirtual 66, 3) := by decide +kernel
theorem dX6_stripAt_34 : decode cX6_stripAt 34 = .ok (.ireturn, 1) := by decide +kernel
theorem dX6_stripAt_35 : decode cX6_stripAt 35 = .ok (.aload_n 0, 1) := by decide +kernel
theorem dX6_stripAt_36 : decode cX6_stripAt 36 = .ok (.iload_n 1, 1) := by decide +kernel
theorem dX6_stripAt_37 : decode cX6_stripAt 37 = .ok (.iload_n 2, 1) := by decide +kernel
theorem dX6_stripAt_38 : decode cX6_stripAt 38 = .ok (.invokevirtual 147, 3) := by decide +kernel
theorem dX6_stripAt_41 : decode cX6_stripAt 41 = .ok (.ifCond .ne 5, 3) := by decide +kernel
theorem dX6_stripAt_44 : decode cX6_stripAt 44 = .ok (.iconst (-1), 1) := by decide +kernel
theorem dX6_stripAt_45 : decode cX6_stripAt 45 = .ok (.ireturn, 1) := by decide +kernel
theorem dX6_stripAt_46 : decode cX6_stripAt 46 = .ok (.iload_n 3, 1) := by decide +kernel
theorem dX6_stripAt_47 : decode cX6_stripAt 47 = .ok (.ifCond .eq 12, 3) := by decide +kernel
theorem dX6_stripAt_50 : decode cX6_stripAt 50 = .ok (.aload_n 0, 1) := by decide +kernel
theorem dX6_stripAt_51 : decode cX6_stripAt 51 = .ok (.iload_n 1, 1) := by decide +kernel
theorem dX6_stripAt_52 : decode cX6_stripAt 52 = .ok (.iload_n 2, 1) := by decide +kernel
theorem dX6_stripAt_53 : decode cX6_stripAt 53 = .ok (.invokevirtual 150, 3) := by decide +kernel
theorem dX6_stripAt_56 : decode cX6_stripAt 56 = .ok (.goto 9, 3) := by decide +kernel
theorem dX6_stripAt_59 : decode cX6_stripAt 59 = .ok (.aload_n 0, 1) := by decide +kernel
theorem dX6_stripAt_60 : decode cX6_stripAt 60 = .ok (.iload_n 1, 1) := by decide +kernel
theorem dX6_stripAt_61 : decode cX6_stripAt 61 = .ok (.iload_n 2, 1) := by decide +kernel
theorem dX6_stripAt_62 : decode cX6_stripAt 62 = .ok (.invokevirtual 153, 3) := by decide +kernel
theorem dX6_stripAt_65 : decode cX6_stripAt 65 = .ok (.ireturn, 1) := by decide +kernel
theorem dX6_end_0 : decode cX6_end 0 = .ok (.aload_n 0, 1) := by decide +kernel
theorem dX6_end_1 : decode cX6_end 1 = .ok (.iconst 0, 1) := by decide +kernel
theorem dX6_end_2 : decode cX6_end 2 = .ok (.putfield 43, 3) := by decide +kernel
theorem dX6_end_5 : decode cX6_end 5 = .ok (.iconst 0, 1) := by decide +kernel
theorem dX6_end_6 : decode cX6_end 6 = .ok (.istore_n 1, 1) := by decide +kernel
theorem dX6_end_7 : decode cX6_end 7 = .ok (.iconst 0, 1) := by decide +kernel
theorem dX6_end_8 : decode cX6_end 8 = .ok (.istore_n 2, 1) := by decide +kernel
theorem dX6_end_9 : decode cX6_end 9 = .ok (.iload_n 2, 1) := by decide +kernel
theorem dX6_end_10 : decode cX6_end 10 = .ok (.aload_n 0, 1) := by decide +kernel
theorem dX6_end_11 : decode cX6_end 11 = .ok (.getfield 108, 3) := by decide +kernel
theorem dX6_end_14 : decode cX6_end 14 = .ok (.if_icmp .ge 19, 3) := by decide +kernel
theorem dX6_end_17 : decode cX6_end 17 = .ok (.iload_n 1, 1) := by decide +kernel
theorem dX6_end_18 : decode cX6_end 18 = .ok (.aload_n 0, 1) := by decide +kernel
theorem dX6_end_19 : decode cX6_end 19 = .ok (.iload_n 2, 1) := by decide +kernel
theorem dX6_end_20 : decode cX6_end 20 = .ok (.invokevirtual 132, 3) := by decide +kernel
theorem dX6_end_23 : decode cX6_end 23 = .ok (.invokestatic 156, 3) := by decide +kernel
theorem dX6_end_26 : decode cX6_end 26 = .ok (.istore_n 1, 1) := by decide +kernel
theorem dX6_end_27 : decode cX6_end 27 = .ok (.iinc 2 1, 3) := by decide +kernel
theorem dX6_end_30 : decode cX6_end 30 = .ok (.goto (-21), 3) := by decide +kernel
theorem dX6_end_33 : decode cX6_end 33 = .ok (.iload_n 1, 1) := by decide +kernel
theorem dX6_end_34 : decode cX6_end 34 = .ok (.ireturn, 1) := by decide +kernel
theorem dX6_played_0 : decode cX6_played 0 = .ok (.aload_n 0, 1) := by decide +kernel
theorem dX6_played_1 : decode cX6_played 1 = .ok (.getfield 9, 3) := by decide +kernel
theorem dX6_played_4 : decode cX6_played 4 = .ok (.iload_n 1, 1) := by decide +kernel
theorem dX6_played_5 : decode cX6_played 5 = .ok (.iaload, 1) := by decide +kernel
theorem dX6_played_6 : decode cX6_played 6 = .ok (.istore_n 3, 1) := by decide +kernel
theorem dX6_played_7 : decode cX6_played 7 = .ok (.iconst 0, 1) := by decide +kernel
theorem dX6_played_8 : decode cX6_played 8 = .ok (.istore 4, 2) := by decide +kernel
theorem dX6_played_10 : decode cX6_played 10 = .ok (.iload 4, 2) := by decide +kernel
theorem dX6_played_12 : decode cX6_played 12 = .ok (.bipush 10, 2) := by decide +kernel
theorem dX6_played_14 : decode cX6_played 14 = .ok (.if_icmp .ge 136, 3) := by decide +kernel
theorem dX6_played_17 : decode cX6_played 17 = .ok (.iconst 0, 1) := by decide +kernel
theorem dX6_played_18 : decode cX6_played 18 = .ok (.istore 5, 2) := by decide +kernel
theorem dX6_played_20 : decode cX6_played 20 = .ok (.iload 5, 2) := by decide +kernel
theorem dX6_played_22 : decode cX6_played 22 = .ok (.aload_n 0, 1) := by decide +kernel
theorem dX6_played_23 : decode cX6_played 23 = .ok (.getfield 108, 3) := by decide +kernel
theorem dX6_played_26 : decode cX6_played 26 = .ok (.if_icmp .ge 118, 3) := by decide +kernel
theorem dX6_played_29 : decode cX6_played 29 = .ok (.iconst 4, 1) := by decide +kernel
theorem dX6_played_30 : decode cX6_played 30 = .ok (.aload_n 0, 1) := by decide +kernel
theorem dX6_played_31 : decode cX6_played 31 = .ok (.iload 5, 2) := by decide +kernel
theorem dX6_played_33 : decode cX6_played 33 = .ok (.iconst 0, 1) := by decide +kernel
theorem dX6_played_34 : decode cX6_played 34 = .ok (.invokevirtual 120, 3) := by decide +kernel
theorem dX6_played_37 : decode cX6_played 37 = .ok (.imul, 1) := by decide +kernel
theorem dX6_played_38 : decode cX6_played 38 = .ok (.iload_n 1, 1) := by decide +kernel
theorem dX6_played_39 : decode cX6_played 39 = .ok (.iadd, 1) := by decide +kernel
theorem dX6_played_40 : decode cX6_played 40 = .ok (.istore 6, 2) := by decide +kernel
theorem dX6_played_42 : decode cX6_played 42 = .ok (.aload_n 0, 1) := by decide +kernel
theorem dX6_played_43 : decode cX6_played 43 = .ok (.iload 5, 2) := by decide +kernel
theorem dX6_played_45 : decode cX6_played 45 = .ok (.bipush 7, 2) := by decide +kernel
theorem dX6_played_47 : decode cX6_played 47 = .ok (.invokevirtual 120, 3) := by decide +kernel
theorem dX6_played_50 : decode cX6_played 50 = .ok (.iload 4, 2) := by decide +kernel
theorem dX6_played_52 : decode cX6_played 52 = .ok (.if_icmp .ne 86, 3) := by decide +kernel
theorem dX6_played_55 : decode cX6_played 55 = .ok (.aload_n 0, 1) := by decide +kernel
theorem dX6_played_56 : decode cX6_played 56 = .ok (.getfield 16, 3) := by decide +kernel
theorem dX6_played_59 : decode cX6_played 59 = .ok (.iload 6, 2) := by decide +kernel
theorem dX6_played_61 : decode cX6_played 61 = .ok (.iaload, 1) := by decide +kernel
theorem dX6_played_62 : decode cX6_played 62 = .ok (.ifCond .eq 76, 3) := by decide +kernel
theorem dX6_played_65 : decode cX6_played 65 = .ok (.aload_n 0, 1) := by decide +kernel
theorem dX6_played_66 : decode cX6_played 66 = .ok (.iload 5, 2) := by decide +kernel
theorem dX6_played_68 : decode cX6_played 68 = .ok (.iload_n 2, 1) := by decide +kernel
theorem dX6_played_69 : decode cX6_played 69 = .ok (.invokevirtual 147, 3) := by decide +kernel
theorem dX6_played_72 : decode cX6_played 72 = .ok (.ifCond .ne 6, 3) := by decide +kernel
theorem dX6_played_75 : decode cX6_played 75 = .ok (.goto 63, 3) := by decide +kernel
theorem dX6_played_78 : decode cX6_played 78 = .ok (.aload_n 0, 1) := by decide +kernel
theorem dX6_played_79 : decode cX6_played 79 = .ok (.iload 6, 2) := by decide +kernel
theorem dX6_played_81 : decode cX6_played 81 = .ok (.aload_n 0, 1) := by decide +kernel
theorem dX6_played_82 : decode cX6_played 82 = .ok (.iload 5, 2) := by decide +kernel
theorem dX6_played_84 : decode cX6_played 84 = .ok (.iload_n 2, 1) := by decide +kernel
theorem dX6_played_85 : decode cX6_played 85 = .ok (.invokevirtual 150, 3) := by decide +kernel
theorem dX6_played_88 : decode cX6_played 88 = .ok (.invokevirtual 99, 3) := by decide +kernel
theorem dX6_played_91 : decode cX6_played 91 = .ok (.i2l, 1) := by decide +kernel
theorem dX6_played_92 : decode cX6_played 92 = .ok (.lstore 7, 2) := by decide +kernel
theorem dX6_played_94 : decode cX6_played 94 = .ok (.aload_n 0, 1) := by decide +kernel
theorem dX6_played_95 : decode cX6_played 95 = .ok (.iload 5, 2) := by decide +kernel
theorem dX6_played_97 : decode cX6_played 97 = .ok (.bipush 9, 2) := by decide +kernel
theorem dX6_played_99 : decode cX6_played 99 = .ok (.invokevirtual 120, 3) := by decide +kernel
theorem dX6_played_102 : decode cX6_played 102 = .ok (.iconst 1, 1) := by decide +kernel
theorem dX6_played_103 : decode cX6_played 103 = .ok (.if_icmp .ne 8, 3) := by decide +kernel
theorem dX6_played_106 : decode cX6_played 106 = .ok (.lload 7, 2) := by decide +kernel
theorem dX6_played_108 : decode cX6_played 108 = .ok (.goto 8, 3) := by decide +kernel
theorem dX6_played_111 : decode cX6_played 111 = .ok (.lload 7, 2) := by decide +kernel
theorem dX6_played_113 : decode cX6_played 113 = .ok (.iload_n 3, 1) := by decide +kernel
theorem dX6_played_114 : decode cX6_played 114 = .ok (.i2l, 1) := by decide +kernel
theorem dX6_played_115 : decode cX6_played 115 = .ok (.lsub, 1) := by decide +kernel
theorem dX6_played_116 : decode cX6_played 116 = .ok (.lstore 9, 2) := by decide +kernel
theorem dX6_played_118 : decode cX6_played 118 = .ok (.iload_n 3, 1) := by decide +kernel
theorem dX6_played_119 : decode cX6_played 119 = .ok (.lload 9, 2) := by decide +kernel
theorem dX6_played_121 : decode cX6_played 121 = .ok (.aload_n 0, 1) := by decide +kernel
theorem dX6_played_122 : decode cX6_played 122 = .ok (.iload 5, 2) := by decide +kernel
theorem dX6_played_124 : decode cX6_played 124 = .ok (.iload_n 2, 1) := by decide +kernel
theorem dX6_played_125 : decode cX6_played 125 = .ok (.invokevirtual 153, 3) := by decide +kernel
theorem dX6_played_128 : decode cX6_played 128 = .ok (.i2l, 1) := by decide +kernel
theorem dX6_played_129 : decode cX6_played 129 = .ok (.lmul, 1) := by decide +kernel
theorem dX6_played_130 : decode cX6_played 130 = .ok (.ldc2_w 159, 3) := by decide +kernel
theorem dX6_played_133 : decode cX6_played 133 = .ok (.invokestatic 89, 3) := by decide +kernel
theorem dX6_played_136 : decode cX6_played 136 = .ok (.iadd, 1) := by decide +kernel
theorem dX6_played_137 : decode cX6_played 137 = .ok (.istore_n 3, 1) := by decide +kernel
theorem dX6_played_138 : decode cX6_played 138 = .ok (.iinc 5 1, 3) := by decide +kernel
theorem dX6_played_141 : decode cX6_played 141 = .ok (.goto (-121), 3) := by decide +kernel
theorem dX6_played_144 : decode cX6_played 144 = .ok (.iinc 4 1, 3) := by decide +kernel
theorem dX6_played_147 : decode cX6_played 147 = .ok (.goto (-137), 3) := by decide +kernel
theorem dX6_played_150 : decode cX6_played 150 = .ok (.iload_n 3, 1) := by decide +kernel
theorem dX6_played_151 : decode cX6_played 151 = .ok (.ireturn, 1) := by decide +kernel
theorem dX6_at_0 : decode cX6_at 0 = .ok (.aload_n 0, 1) := by decide +kernel
theorem dX6_at_1 : decode cX6_at 1 = .ok (.iconst 0, 1) := by decide +kernel
theorem dX6_at_2 : decode cX6_at 2 = .ok (.putfield 43, 3) := by decide +kernel
theorem dX6_at_5 : decode cX6_at 5 = .ok (.iload_n 1, 1) := by decide +kernel
theorem dX6_at_6 : decode cX6_at 6 = .ok (.iconst 0, 1) := by decide +kernel
theorem dX6_at_7 : decode cX6_at 7 = .ok (.iconst 3, 1) := by decide +kernel
theorem dX6_at_8 : decode cX6_at 8 = .ok (.invokestatic 50, 3) := by decide +kernel
theorem dX6_at_11 : decode cX6_at 11 = .ok (.ifCond .ne 9, 3) := by decide +kernel
theorem dX6_at_14 : decode cX6_at 14 = .ok (.aload_n 0, 1) := by decide +kernel
theorem dX6_at_15 : decode cX6_at 15 = .ok (.iconst 1, 1) := by decide +kernel
theorem dX6_at_16 : decode cX6_at 16 = .ok (.invokevirtual 66, 3) := by decide +kernel
theorem dX6_at_19 : decode cX6_at 19 = .ok (.ireturn, 1) := by decide +kernel
theorem dX6_at_20 : decode cX6_at 20 = .ok (.iload_n 2, 1) := by decide +kernel
theorem dX6_at_21 : decode cX6_at 21 = .ok (.iconst 0, 1) := by decide +kernel
theorem dX6_at_22 : decode cX6_at 22 = .ok (.ldc 146, 2) := by decide +kernel
theorem dX6_at_24 : decode cX6_at 24 = .ok (.invokestatic 50, 3) := by decide +kernel
theorem dX6_at_27 : decode cX6_at 27 = .ok (.ifCond .eq 12, 3) := by decide +kernel
theorem dX6_at_30 : decode cX6_at 30 = .ok (.aload_n 0, 1) := by decide +kernel
theorem dX6_at_31 : decode cX6_at 31 = .ok (.iload_n 1, 1) := by decide +kernel
theorem dX6_at_32 : decode cX6_at 32 = .ok (.iload_n 2, 1) := by decide +kernel
theorem dX6_at_33 : decode cX6_at 33 = .ok (.invokevirtual 161, 3) := by decide +kernel
theorem dX6_at_36 : decode cX6_at 36 = .ok (.goto 8, 3) := by decide +kernel
theorem dX6_at_39 : decode cX6_at 39 = .ok (.aload_n 0, 1) := by decide +kernel
theorem dX6_at_40 : decode cX6_at 40 = .ok (.iconst 2, 1) := by decide +kernel
theorem dX6_at_41 : decode cX6_at 41 = .ok (.invokevirtual 66, 3) := by decide +kernel
theorem dX6_at_44 : decode cX6_at 44 = .ok (.ireturn, 1) := by decide +kernel
theorem dX6_spanError_0 : decode cX6_spanError 0 = .ok (.iload_n 0, 1) := by decide +kernel
theorem dX6_spanError_1 : decode cX6_spanError 1 = .ok (.iconst 0, 1) := by decide +kernel
theorem dX6_spanError_2 : decode cX6_spanError 2 = .ok (.iconst 3, 1) := by decide +kernel
theorem dX6_spanError_3 : decode cX6_spanError 3 = .ok (.invokestatic 50, 3) := by decide +kernel
theorem dX6_spanError_6 : decode cX6_spanError 6 = .ok (.ifCond .ne 5, 3) := by decide +kernel
theorem dX6_spanError_9 : decode cX6_spanError 9 = .ok (.iconst 1, 1) := by decide +kernel
theorem dX6_spanError_10 : decode cX6_spanError 10 = .ok (.ireturn, 1) := by decide +kernel
theorem dX6_spanError_11 : decode cX6_spanError 11 = .ok (.iload_n 1, 1) := by decide +kernel
theorem dX6_spanError_12 : decode cX6_spanError 12 = .ok (.iconst 0, 1) := by decide +kernel
theorem dX6_spanError_13 : decode cX6_spanError 13 = .ok (.ldc 146, 2) := by decide +kernel
theorem dX6_spanError_15 : decode cX6_spanError 15 = .ok (.invokestatic 50, 3) := by decide +kernel
theorem dX6_spanError_18 : decode cX6_spanError 18 = .ok (.ifCond .eq 20, 3) := by decide +kernel
theorem dX6_spanError_21 : decode cX6_spanError 21 = .ok (.iload_n 2, 1) := by decide +kernel
theorem dX6_spanError_22 : decode cX6_spanError 22 = .ok (.iload_n 1, 1) := by decide +kernel
theorem dX6_spanError_23 : decode cX6_spanError 23 = .ok (.iload_n 1, 1) := by decide +kernel
theorem dX6_spanError_24 : decode cX6_spanError 24 = .ok (.sipush 300, 3) := by decide +kernel
theorem dX6_spanError_27 : decode cX6_spanError 27 = .ok (.iadd, 1) := by decide +kernel
theorem dX6_spanError_28 : decode cX6_spanError 28 = .ok (.invokestatic 50, 3) := by decide +kernel
theorem dX6_spanError_31 : decode cX6_spanError 31 = .ok (.ifCond .eq 7, 3) := by decide +kernel
theorem dX6_spanError_34 : decode cX6_spanError 34 = .ok (.iconst 0, 1) := by decide +kernel
theorem dX6_spanError_35 : decode cX6_spanError 35 = .ok (.goto 4, 3) := by decide +kernel
theorem dX6_spanError_38 : decode cX6_spanError 38 = .ok (.iconst 2, 1) := by decide +kernel
theorem dX6_spanError_39 : decode cX6_spanError 39 = .ok (.ireturn, 1) := by decide +kernel
theorem dX6_reaches_0 : decode cX6_reaches 0 = .ok (.aload_n 0, 1) := by decide +kernel
theorem dX6_reaches_1 : decode cX6_reaches 1 = .ok (.iload_n 1, 1) := by decide +kernel
theorem dX6_reaches_2 : decode cX6_reaches 2 = .ok (.iload_n 2, 1) := by decide +kernel
theorem dX6_reaches_3 : decode cX6_reaches 3 = .ok (.iload_n 3, 1) := by decide +kernel
theorem dX6_reaches_4 : decode cX6_reaches 4 = .ok (.invokestatic 164, 3) := by decide +kernel
theorem dX6_reaches_7 : decode cX6_reaches 7 = .ok (.putfield 43, 3) := by decide +kernel
theorem dX6_reaches_10 : decode cX6_reaches 10 = .ok (.aload_n 0, 1) := by decide +kernel
theorem dX6_reaches_11 : decode cX6_reaches 11 = .ok (.getfield 43, 3) := by decide +kernel
theorem dX6_reaches_14 : decode cX6_reaches 14 = .ok (.ifCond .eq 5, 3) := by decide +kernel
theorem dX6_reaches_17 : decode cX6_reaches 17 = .ok (.iconst 0, 1) := by decide +kernel
theorem dX6_reaches_18 : decode cX6_reaches 18 = .ok (.ireturn, 1) := by decide +kernel
theorem dX6_reaches_19 : decode cX6_reaches 19 = .ok (.iload_n 2, 1) := by decide +kernel
theorem dX6_reaches_20 : decode cX6_reaches 20 = .ok (.istore 5, 2) := by decide +kernel
theorem dX6_reaches_22 : decode cX6_reaches 22 = .ok (.iload 5, 2) := by decide +kernel
theorem dX6_reaches_24 : decode cX6_reaches 24 = .ok (.iload_n 3, 1) := by decide +kernel
theorem dX6_reaches_25 : decode cX6_reaches 25 = .ok (.if_icmp .gt 24, 3) := by decide +kernel
theorem dX6_reaches_28 : decode cX6_reaches 28 = .ok (.aload_n 0, 1) := by decide +kernel
theorem dX6_reaches_29 : decode cX6_reaches 29 = .ok (.iload_n 1, 1) := by decide +kernel
theorem dX6_reaches_30 : decode cX6_reaches 30 = .ok (.iload 5, 2) := by decide +kernel
theorem dX6_reaches_32 : decode cX6_reaches 32 = .ok (.invokevirtual 161, 3) := by decide +kernel
theorem dX6_reaches_35 : decode cX6_reaches 35 = .ok (.iload 4, 2) := by decide +kernel
theorem dX6_reaches_37 : decode cX6_reaches 37 = .ok (.if_icmp .lt 6, 3) := by decide +kernel
theorem dX6_reaches_40 : decode cX6_reaches 40 = .ok (.iload 5, 2) := by decide +kernel
theorem dX6_reaches_42 : decode cX6_reaches 42 = .ok (.ireturn, 1) := by decide +kernel
theorem dX6_reaches_43 : decode cX6_reaches 43 = .ok (.iinc 5 1, 3) := by decide +kernel
theorem dX6_reaches_46 : decode cX6_reaches 46 = .ok (.goto (-24), 3) := by decide +kernel
theorem dX6_reaches_49 : decode cX6_reaches 49 = .ok (.iconst (-1), 1) := by decide +kernel
theorem dX6_reaches_50 : decode cX6_reaches 50 = .ok (.ireturn, 1) := by decide +kernel
theorem dX6_mean_0 : decode cX6_mean 0 = .ok (.aload_n 0, 1) := by decide +kernel
theorem dX6_mean_1 : decode cX6_mean 1 = .ok (.iload_n 1, 1) := by decide +kernel
theorem dX6_mean_2 : decode cX6_mean 2 = .ok (.iload_n 2, 1) := by decide +kernel
theorem dX6_mean_3 : decode cX6_mean 3 = .ok (.iload_n 3, 1) := by decide +kernel
theorem dX6_mean_4 : decode cX6_mean 4 = .ok (.invokestatic 164, 3) := by decide +kernel
theorem dX6_mean_7 : decode cX6_mean 7 = .ok (.putfield 43, 3) := by decide +kernel
theorem dX6_mean_10 : decode cX6_mean 10 = .ok (.aload_n 0, 1) := by decide +kernel
theorem dX6_mean_11 : decode cX6_mean 11 = .ok (.getfield 43, 3) := by decide +kernel
theorem dX6_mean_14 : decode cX6_mean 14 = .ok (.ifCond .eq 5, 3) := by decide +kernel
theorem dX6_mean_17 : decode cX6_mean 17 = .ok (.dconst 0, 1) := by decide +kernel
theorem dX6_mean_18 : decode cX6_mean 18 = .ok (.dreturn, 1) := by decide +kernel
theorem dX6_mean_19 : decode cX6_mean 19 = .ok (.lconst 0, 1) := by decide +kernel
theorem dX6_mean_20 : decode cX6_mean 20 = .ok (.lstore 4, 2) := by decide +kernel
theorem dX6_mean_22 : decode cX6_mean 22 = .ok (.iload_n 2, 1) := by decide +kernel
theorem dX6_mean_23 : decode cX6_mean 23 = .ok (.istore 6, 2) := by decide +kernel
theorem dX6_mean_25 : decode cX6_mean 25 = .ok (.iload 6, 2) := by decide +kernel
theorem dX6_mean_27 : decode cX6_mean 27 = .ok (.iload_n 3, 1) := by decide +kernel
theorem dX6_mean_28 : decode cX6_mean 28 = .ok (.if_icmp .gt 22, 3) := by decide +kernel
theorem dX6_mean_31 : decode cX6_mean 31 = .ok (.lload 4, 2) := by decide +kernel
theorem dX6_mean_33 : decode cX6_mean 33 = .ok (.aload_n 0, 1) := by decide +kernel
theorem dX6_mean_34 : decode cX6_mean 34 = .ok (.iload_n 1, 1) := by decide +kernel
theorem dX6_mean_35 : decode cX6_mean 35 = .ok (.iload 6, 2) := by decide +kernel
theorem dX6_mean_37 : decode cX6_mean 37 = .ok (.invokevirtual 161, 3) := by decide +kernel
theorem dX6_mean_40 : decode cX6_mean 40 = .ok (.i2l, 1) := by decide +kernel
theorem dX6_mean_41 : decode cX6_mean 41 = .ok (.ladd, 1) := by decide +kernel
theorem dX6_mean_42 : decode cX6_mean 42 = .ok (.lstore 4, 2) := by decide +kernel
theorem dX6_mean_44 : decode cX6_mean 44 = .ok (.iinc 6 1, 3) := by decide +kernel
theorem dX6_mean_47 : decode cX6_mean 47 = .ok (.goto (-22), 3) := by decide +kernel
theorem dX6_mean_50 : decode cX6_mean 50 = .ok (.lload 4, 2) := by decide +kernel
theorem dX6_mean_52 : decode cX6_mean 52 = .ok (.l2d, 1) := by decide +kernel
theorem dX6_mean_53 : decode cX6_mean 53 = .ok (.iload_n 3, 1) := by decide +kernel
theorem dX6_mean_54 : decode cX6_mean 54 = .ok (.iload_n 2, 1) := by decide +kernel
theorem dX6_mean_55 : decode cX6_mean 55 = .ok (.isub, 1) := by decide +kernel
theorem dX6_mean_56 : decode cX6_mean 56 = .ok (.iconst 1, 1) := by decide +kernel
theorem dX6_mean_57 : decode cX6_mean 57 = .ok (.iadd, 1) := by decide +kernel
theorem dX6_mean_58 : decode cX6_mean 58 = .ok (.i2d, 1) := by decide +kernel
theorem dX6_mean_59 : decode cX6_mean 59 = .ok (.ddiv, 1) := by decide +kernel
theorem dX6_mean_60 : decode cX6_mean 60 = .ok (.dreturn, 1) := by decide +kernel
theorem dX6_note_0 : decode cX6_note 0 = .ok (.iconst 4, 1) := by decide +kernel
theorem dX6_note_1 : decode cX6_note 1 = .ok (.newarray .int, 2) := by decide +kernel
theorem dX6_note_3 : decode cX6_note 3 = .ok (.dup, 1) := by decide +kernel
theorem dX6_note_4 : decode cX6_note 4 = .ok (.iconst 0, 1) := by decide +kernel
theorem dX6_note_5 : decode cX6_note 5 = .ok (.iload_n 1, 1) := by decide +kernel
theorem dX6_note_6 : decode cX6_note 6 = .ok (.iastore, 1) := by decide +kernel
theorem dX6_note_7 : decode cX6_note 7 = .ok (.dup, 1) := by decide +kernel
theorem dX6_note_8 : decode cX6_note 8 = .ok (.iconst 1, 1) := by decide +kernel
theorem dX6_note_9 : decode cX6_note 9 = .ok (.iload_n 2, 1) := by decide +kernel
theorem dX6_note_10 : decode cX6_note 10 = .ok (.iastore, 1) := by decide +kernel
theorem dX6_note_11 : decode cX6_note 11 = .ok (.dup, 1) := by decide +kernel
theorem dX6_note_12 : decode cX6_note 12 = .ok (.iconst 2, 1) := by decide +kernel
theorem dX6_note_13 : decode cX6_note 13 = .ok (.iload_n 3, 1) := by decide +kernel
theorem dX6_note_14 : decode cX6_note 14 = .ok (.iastore, 1) := by decide +kernel
theorem dX6_note_15 : decode cX6_note 15 = .ok (.dup, 1) := by decide +kernel
theorem dX6_note_16 : decode cX6_note 16 = .ok (.iconst 3, 1) := by decide +kernel
theorem dX6_note_17 : decode cX6_note 17 = .ok (.iload 4, 2) := by decide +kernel
theorem dX6_note_19 : decode cX6_note 19 = .ok (.iastore, 1) := by decide +kernel
theorem dX6_note_20 : decode cX6_note 20 = .ok (.astore 5, 2) := by decide +kernel
theorem dX6_note_22 : decode cX6_note 22 = .ok (.aload_n 0, 1) := by decide +kernel
theorem dX6_note_23 : decode cX6_note 23 = .ok (.getfield 168, 3) := by decide +kernel
theorem dX6_note_26 : decode cX6_note 26 = .ok (.istore 6, 2) := by decide +kernel
theorem dX6_note_28 : decode cX6_note 28 = .ok (.iload 6, 2) := by decide +kernel
theorem dX6_note_30 : decode cX6_note 30 = .ok (.ifCond .le 46, 3) := by decide +kernel
theorem dX6_note_33 : decode cX6_note 33 = .ok (.aload_n 0, 1) := by decide +kernel
theorem dX6_note_34 : decode cX6_note 34 = .ok (.getfield 40, 3) := by decide +kernel
theorem dX6_note_37 : decode cX6_note 37 = .ok (.iconst 4, 1) := by decide +kernel
theorem dX6_note_38 : decode cX6_note 38 = .ok (.iload 6, 2) := by decide +kernel
theorem dX6_note_40 : decode cX6_note 40 = .ok (.imul, 1) := by decide +kernel
theorem dX6_note_41 : decode cX6_note 41 = .ok (.iconst 4, 1) := by decide +kernel
theorem dX6_note_42 : decode cX6_note 42 = .ok (.isub, 1) := by decide +kernel
theorem dX6_note_43 : decode cX6_note 43 = .ok (.iaload, 1) := by decide +kernel
theorem dX6_note_44 : decode cX6_note 44 = .ok (.iload_n 1, 1) := by decide +kernel
theorem dX6_note_45 : decode cX6_note 45 = .ok (.if_icmp .le 31, 3) := by decide +kernel
theorem dX6_note_48 : decode cX6_note 48 = .ok (.aload_n 0, 1) := by decide +kernel
theorem dX6_note_49 : decode cX6_note 49 = .ok (.getfield 40, 3) := by decide +kernel
theorem dX6_note_52 : decode cX6_note 52 = .ok (.iconst 4, 1) := by decide +kernel
theorem dX6_note_53 : decode cX6_note 53 = .ok (.iload 6, 2) := by decide +kernel
theorem dX6_note_55 : decode cX6_note 55 = .ok (.imul, 1) := by decide +kernel
theorem dX6_note_56 : decode cX6_note 56 = .ok (.iconst 4, 1) := by decide +kernel
theorem dX6_note_57 : decode cX6_note 57 = .ok (.isub, 1) := by decide +kernel
theorem dX6_note_58 : decode cX6_note 58 = .ok (.aload_n 0, 1) := by decide +kernel
theorem dX6_note_59 : decode cX6_note 59 = .ok (.getfield 40, 3) := by decide +kernel
theorem dX6_note_62 : decode cX6_note 62 = .ok (.iconst 4, 1) := by decide +kernel
theorem dX6_note_63 : decode cX6_note 63 = .ok (.iload 6, 2) := by decide +kernel
theorem dX6_note_65 : decode cX6_note 65 = .ok (.imul, 1) := by decide +kernel
theorem dX6_note_66 : decode cX6_note 66 = .ok (.iconst 4, 1) := by decide +kernel
theorem dX6_note_67 : decode cX6_note 67 = .ok (.invokestatic 111, 3) := by decide +kernel
theorem dX6_note_70 : decode cX6_note 70 = .ok (.iinc 6 (-1), 3) := by decide +kernel
theorem dX6_note_73 : decode cX6_note 73 = .ok (.goto (-45), 3) := by decide +kernel
theorem dX6_note_76 : decode cX6_note 76 = .ok (.aload 5, 2) := by decide +kernel
theorem dX6_note_78 : decode cX6_note 78 = .ok (.iconst 0, 1) := by decide +kernel
theorem dX6_note_79 : decode cX6_note 79 = .ok (.aload_n 0, 1) := by decide +kernel
theorem dX6_note_80 : decode cX6_note 80 = .ok (.getfield 40, 3) := by decide +kernel
theorem dX6_note_83 : decode cX6_note 83 = .ok (.iconst 4, 1) := by decide +kernel
theorem dX6_note_84 : decode cX6_note 84 = .ok (.iload 6, 2) := by decide +kernel
theorem dX6_note_86 : decode cX6_note 86 = .ok (.imul, 1) := by decide +kernel
theorem dX6_note_87 : decode cX6_note 87 = .ok (.iconst 4, 1) := by decide +kernel
theorem dX6_note_88 : decode cX6_note 88 = .ok (.invokestatic 111, 3) := by decide +kernel
theorem dX6_note_91 : decode cX6_note 91 = .ok (.aload_n 0, 1) := by decide +kernel
theorem dX6_note_92 : decode cX6_note 92 = .ok (.dup, 1) := by decide +kernel
theorem dX6_note_93 : decode cX6_note 93 = .ok (.getfield 168, 3) := by decide +kernel
theorem dX6_note_96 : decode cX6_note 96 = .ok (.iconst 1, 1) := by decide +kernel
theorem dX6_note_97 : decode cX6_note 97 = .ok (.iadd, 1) := by decide +kernel
theorem dX6_note_98 : decode cX6_note 98 = .ok (.putfield 168, 3) := by decide +kernel
theorem dX6_note_101 : decode cX6_note 101 = .ok (.return_, 1) := by decide +kernel
theorem dX6_play_0 : decode cX6_play 0 = .ok (.aload_n 0, 1) := by decide +kernel
theorem dX6_play_1 : decode cX6_play 1 = .ok (.iconst 0, 1) := by decide +kernel
theorem dX6_play_2 : decode cX6_play 2 = .ok (.putfield 43, 3) := by decide +kernel
theorem dX6_play_5 : decode cX6_play 5 = .ok (.iload_n 1, 1) := by decide +kernel
theorem dX6_play_6 : decode cX6_play 6 = .ok (.iconst 0, 1) := by decide +kernel
theorem dX6_play_7 : decode cX6_play 7 = .ok (.ldc 146, 2) := by decide +kernel
theorem dX6_play_9 : decode cX6_play 9 = .ok (.invokestatic 50, 3) := by decide +kernel
theorem dX6_play_12 : decode cX6_play 12 = .ok (.ifCond .eq 13, 3) := by decide +kernel
theorem dX6_play_15 : decode cX6_play 15 = .ok (.iload_n 2, 1) := by decide +kernel
theorem dX6_play_16 : decode cX6_play 16 = .ok (.iload_n 1, 1) := by decide +kernel
theorem dX6_play_17 : decode cX6_play 17 = .ok (.ldc 146, 2) := by decide +kernel
theorem dX6_play_19 : decode cX6_play 19 = .ok (.invokestatic 50, 3) := by decide +kernel
theorem dX6_play_22 : decode cX6_play 22 = .ok (.ifCond .ne 9, 3) := by decide +kernel
theorem dX6_play_25 : decode cX6_play 25 = .ok (.aload_n 0, 1) := by decide +kernel
theorem dX6_play_26 : decode cX6_play 26 = .ok (.iconst 1, 1) := by decide +kernel
theorem dX6_play_27 : decode cX6_play 27 = .ok (.invokevirtual 66, 3) := by decide +kernel
theorem dX6_play_30 : decode cX6_play 30 = .ok (.ireturn, 1) := by decide +kernel
theorem dX6_play_31 : decode cX6_play 31 = .ok (.aload_n 0, 1) := by decide +kernel
theorem dX6_play_32 : decode cX6_play 32 = .ok (.iconst 0, 1) := by decide +kernel
theorem dX6_play_33 : decode cX6_play 33 = .ok (.putfield 168, 3) := by decide +kernel
theorem dX6_play_36 : decode cX6_play 36 = .ok (.iconst 0, 1) := by decide +kernel
theorem dX6_play_37 : decode cX6_play 37 = .ok (.istore_n 3, 1) := by decide +kernel
theorem dX6_play_38 : decode cX6_play 38 = .ok (.iload_n 3, 1) := by decide +kernel
theorem dX6_play_39 : decode cX6_play 39 = .ok (.aload_n 0, 1) := by decide +kernel
theorem dX6_play_40 : decode cX6_play 40 = .ok (.getfield 108, 3) := by decide +kernel
theorem dX6_play_43 : decode cX6_play 43 = .ok (.if_icmp .ge 178, 3) := by decide +kernel
theorem dX6_play_46 : decode cX6_play 46 = .ok (.bipush 8, 2) := by decide +kernel
theorem dX6_play_48 : decode cX6_play 48 = .ok (.aload_n 0, 1) := by decide +kernel
theorem dX6_play_49 : decode cX6_play 49 = .ok (.iload_n 3, 1) := by decide +kernel
theorem dX6_play_50 : decode cX6_play 50 = .ok (.iconst 0, 1) := by decide +kernel
theorem dX6_play_51 : decode cX6_play 51 = .ok (.invokevirtual 120, 3) := by decide +kernel
theorem dX6_play_54 : decode cX6_play 54 = .ok (.imul, 1) := by decide +kernel
theorem dX6_play_55 : decode cX6_play 55 = .ok (.istore 4, 2) := by decide +kernel
theorem dX6_play_57 : decode cX6_play 57 = .ok (.aload_n 0, 1) := by decide +kernel
theorem dX6_play_58 : decode cX6_play 58 = .ok (.getfield 28, 3) := by decide +kernel
theorem dX6_play_61 : decode cX6_play 61 = .ok (.aload_n 0, 1) := by decide +kernel
theorem dX6_play_62 : decode cX6_play 62 = .ok (.iload_n 3, 1) := by decide +kernel
theorem dX6_play_63 : decode cX6_play 63 = .ok (.iconst 0, 1) := by decide +kernel
theorem dX6_play_64 : decode cX6_play 64 = .ok (.invokevirtual 120, 3) := by decide +kernel
theorem dX6_play_67 : decode cX6_play 67 = .ok (.iaload, 1) := by decide +kernel
theorem dX6_play_68 : decode cX6_play 68 = .ok (.istore 5, 2) := by decide +kernel
theorem dX6_play_70 : decode cX6_play 70 = .ok (.iconst 0, 1) := by decide +kernel
theorem dX6_play_71 : decode cX6_play 71 = .ok (.istore 6, 2) := by decide +kernel
theorem dX6_play_73 : decode cX6_play 73 = .ok (.iload 6, 2) := by decide +kernel
theorem dX6_play_75 : decode cX6_play 75 = .ok (.aload_n 0, 1) := by decide +kernel
theorem dX6_play_76 : decode cX6_play 76 = .ok (.iload_n 3, 1) := by decide +kernel
theorem dX6_play_77 : decode cX6_play 77 = .ok (.iconst 3, 1) := by decide +kernel
theorem dX6_play_78 : decode cX6_play 78 = .ok (.invokevirtual 120, 3) := by decide +kernel
theorem dX6_play_81 : decode cX6_play 81 = .ok (.if_icmp .ge 134, 3) := by decide +kernel
theorem dX6_play_84 : decode cX6_play 84 = .ok (.iconst 0, 1) := by decide +kernel
theorem dX6_play_85 : decode cX6_play 85 = .ok (.istore 7, 2) := by decide +kernel
theorem dX6_play_87 : decode cX6_play 87 = .ok (.iload 7, 2) := by decide +kernel
theorem dX6_play_89 : decode cX6_play 89 = .ok (.iload 5, 2) := by decide +kernel
theorem dX6_play_91 : decode cX6_play 91 = .ok (.if_icmp .ge 118, 3) := by decide +kernel
theorem dX6_play_94 : decode cX6_play 94 = .ok (.aload_n 0, 1) := by decide +kernel
theorem dX6_play_95 : decode cX6_play 95 = .ok (.iload_n 3, 1) := by decide +kernel
theorem dX6_play_96 : decode cX6_play 96 = .ok (.iload 6, 2) := by decide +kernel
theorem dX6_play_98 : decode cX6_play 98 = .ok (.invokevirtual 141, 3) := by decide +kernel
theorem dX6_play_101 : decode cX6_play 101 = .ok (.ifCond .eq 16, 3) := by decide +kernel
theorem dX6_play_104 : decode cX6_play 104 = .ok (.iload 4, 2) := by decide +kernel
theorem dX6_play_106 : decode cX6_play 106 = .ok (.iload 5, 2) := by decide +kernel
theorem dX6_play_108 : decode cX6_play 108 = .ok (.iadd, 1) := by decide +kernel
theorem dX6_play_109 : decode cX6_play 109 = .ok (.iconst 1, 1) := by decide +kernel
theorem dX6_play_110 : decode cX6_play 110 = .ok (.isub, 1) := by decide +kernel
theorem dX6_play_111 : decode cX6_play 111 = .ok (.iload 7, 2) := by decide +kernel
theorem dX6_play_113 : decode cX6_play 113 = .ok (.isub, 1) := by decide +kernel
theorem dX6_play_114 : decode cX6_play 114 = .ok (.goto 8, 3) := by decide +kernel
theorem dX6_play_117 : decode cX6_play 117 = .ok (.iload 4, 2) := by decide +kernel
theorem dX6_play_119 : decode cX6_play 119 = .ok (.iload 7, 2) := by decide +kernel
theorem dX6_play_121 : decode cX6_play 121 = .ok (.iadd, 1) := by decide +kernel
theorem dX6_play_122 : decode cX6_play 122 = .ok (.istore 8, 2) := by decide +kernel
theorem dX6_play_124 : decode cX6_play 124 = .ok (.aload_n 0, 1) := by decide +kernel
theorem dX6_play_125 : decode cX6_play 125 = .ok (.iload_n 3, 1) := by decide +kernel
theorem dX6_play_126 : decode cX6_play 126 = .ok (.iload 6, 2) := by decide +kernel
theorem dX6_play_128 : decode cX6_play 128 = .ok (.invokevirtual 141, 3) := by decide +kernel
theorem dX6_play_131 : decode cX6_play 131 = .ok (.ifCond .eq 19, 3) := by decide +kernel
theorem dX6_play_134 : decode cX6_play 134 = .ok (.aload_n 0, 1) := by decide +kernel
theorem dX6_play_135 : decode cX6_play 135 = .ok (.iload_n 3, 1) := by decide +kernel
theorem dX6_play_136 : decode cX6_play 136 = .ok (.invokevirtual 123, 3) := by decide +kernel
theorem dX6_play_139 : decode cX6_play 139 = .ok (.aload_n 0, 1) := by decide +kernel
theorem dX6_play_140 : decode cX6_play 140 = .ok (.getfield 31, 3) := by decide +kernel
theorem dX6_play_143 : decode cX6_play 143 = .ok (.iload 8, 2) := by decide +kernel
theorem dX6_play_145 : decode cX6_play 145 = .ok (.iaload, 1) := by decide +kernel
theorem dX6_play_146 : decode cX6_play 146 = .ok (.isub, 1) := by decide +kernel
theorem dX6_play_147 : decode cX6_play 147 = .ok (.goto 10, 3) := by decide +kernel
theorem dX6_play_150 : decode cX6_play 150 = .ok (.aload_n 0, 1) := by decide +kernel
theorem dX6_play_151 : decode cX6_play 151 = .ok (.getfield 31, 3) := by decide +kernel
theorem dX6_play_154 : decode cX6_play 154 = .ok (.iload 8, 2) := by decide +kernel
theorem dX6_play_156 : decode cX6_play 156 = .ok (.iaload, 1) := by decide +kernel
theorem dX6_play_157 : decode cX6_play 157 = .ok (.istore 9, 2) := by decide +kernel
theorem dX6_play_159 : decode cX6_play 159 = .ok (.aload_n 0, 1) := by decide +kernel
theorem dX6_play_160 : decode cX6_play 160 = .ok (.iload_n 3, 1) := by decide +kernel
theorem dX6_play_161 : decode cX6_play 161 = .ok (.iload 6, 2) := by decide +kernel
theorem dX6_play_163 : decode cX6_play 163 = .ok (.aload_n 0, 1) := by decide +kernel
theorem dX6_play_164 : decode cX6_play 164 = .ok (.iload_n 3, 1) := by decide +kernel
theorem dX6_play_165 : decode cX6_play 165 = .ok (.invokevirtual 123, 3) := by decide +kernel
theorem dX6_play_168 : decode cX6_play 168 = .ok (.imul, 1) := by decide +kernel
theorem dX6_play_169 : decode cX6_play 169 = .ok (.iload 9, 2) := by decide +kernel
theorem dX6_play_171 : decode cX6_play 171 = .ok (.iadd, 1) := by decide +kernel
theorem dX6_play_172 : decode cX6_play 172 = .ok (.invokevirtual 129, 3) := by decide +kernel
theorem dX6_play_175 : decode cX6_play 175 = .ok (.istore 10, 2) := by decide +kernel
theorem dX6_play_177 : decode cX6_play 177 = .ok (.iload 10, 2) := by decide +kernel
theorem dX6_play_179 : decode cX6_play 179 = .ok (.iload_n 1, 1) := by decide +kernel
theorem dX6_play_180 : decode cX6_play 180 = .ok (.iload_n 2, 1) := by decide +kernel
theorem dX6_play_181 : decode cX6_play 181 = .ok (.invokestatic 50, 3) := by decide +kernel
theorem dX6_play_184 : decode cX6_play 184 = .ok (.ifCond .eq 19, 3) := by decide +kernel
theorem dX6_play_187 : decode cX6_play 187 = .ok (.aload_n 0, 1) := by decide +kernel
theorem dX6_play_188 : decode cX6_play 188 = .ok (.iload 10, 2) := by decide +kernel
theorem dX6_play_190 : decode cX6_play 190 = .ok (.iload_n 3, 1) := by decide +kernel
theorem dX6_play_191 : decode cX6_play 191 = .ok (.iload 6, 2) := by decide +kernel
theorem dX6_play_193 : decode cX6_play 193 = .ok (.aload_n 0, 1) := by decide +kernel
theorem dX6_play_194 : decode cX6_play 194 = .ok (.getfield 34, 3) := by decide +kernel
theorem dX6_play_197 : decode cX6_play 197 = .ok (.iload 8, 2) := by decide +kernel
theorem dX6_play_199 : decode cX6_play 199 = .ok (.iaload, 1) := by decide +kernel
theorem dX6_play_200 : decode cX6_play 200 = .ok (.invokevirtual 171, 3) := by decide +kernel
theorem dX6_play_203 : decode cX6_play 203 = .ok (.iinc 7 1, 3) := by decide +kernel
theorem dX6_play_206 : decode cX6_play 206 = .ok (.goto (-119), 3) := by decide +kernel
theorem dX6_play_209 : decode cX6_play 209 = .ok (.iinc 6 1, 3) := by decide +kernel
theorem dX6_play_212 : decode cX6_play 212 = .ok (.goto (-139), 3) := by decide +kernel
theorem dX6_play_215 : decode cX6_play 215 = .ok (.iinc 3 1, 3) := by decide +kernel
theorem dX6_play_218 : decode cX6_play 218 = .ok (.goto (-180), 3) := by decide +kernel
theorem dX6_play_221 : decode cX6_play 221 = .ok (.aload_n 0, 1) := by decide +kernel
theorem dX6_play_222 : decode cX6_play 222 = .ok (.getfield 168, 3) := by decide +kernel
theorem dX6_play_225 : decode cX6_play 225 = .ok (.ireturn, 1) := by decide +kernel
theorem dX6_metTold_0 : decode cX6_metTold 0 = .ok (.aload_n 0, 1) := by decide +kernel
theorem dX6_metTold_1 : decode cX6_metTold 1 = .ok (.getfield 40, 3) := by decide +kernel
theorem dX6_metTold_4 : decode cX6_metTold 4 = .ok (.iconst 4, 1) := by decide +kernel
theorem dX6_metTold_5 : decode cX6_metTold 5 = .ok (.iload_n 1, 1) := by decide +kernel
theorem dX6_metTold_6 : decode cX6_metTold 6 = .ok (.imul, 1) := by decide +kernel
theorem dX6_metTold_7 : decode cX6_metTold 7 = .ok (.iload_n 2, 1) := by decide +kernel
theorem dX6_metTold_8 : decode cX6_metTold 8 = .ok (.iadd, 1) := by decide +kernel
theorem dX6_metTold_9 : decode cX6_metTold 9 = .ok (.iaload, 1) := by decide +kernel
theorem dX6_metTold_10 : decode cX6_metTold 10 = .ok (.ireturn, 1) := by decide +kernel
theorem dX6_met_0 : decode cX6_met 0 = .ok (.aload_n 0, 1) := by decide +kernel
theorem dX6_met_1 : decode cX6_met 1 = .ok (.iconst 0, 1) := by decide +kernel
theorem dX6_met_2 : decode cX6_met 2 = .ok (.putfield 43, 3) := by decide +kernel
theorem dX6_met_5 : decode cX6_met 5 = .ok (.iload_n 1, 1) := by decide +kernel
theorem dX6_met_6 : decode cX6_met 6 = .ok (.iconst 0, 1) := by decide +kernel
theorem dX6_met_7 : decode cX6_met 7 = .ok (.aload_n 0, 1) := by decide +kernel
theorem dX6_met_8 : decode cX6_met 8 = .ok (.getfield 168, 3) := by decide +kernel
theorem dX6_met_11 : decode cX6_met 11 = .ok (.bipush 100, 2) := by decide +kernel
theorem dX6_met_13 : decode cX6_met 13 = .ok (.invokestatic 144, 3) := by decide +kernel
theorem dX6_met_16 : decode cX6_met 16 = .ok (.iconst 1, 1) := by decide +kernel
theorem dX6_met_17 : decode cX6_met 17 = .ok (.isub, 1) := by decide +kernel
theorem dX6_met_18 : decode cX6_met 18 = .ok (.invokestatic 50, 3) := by decide +kernel
theorem dX6_met_21 : decode cX6_met 21 = .ok (.ifCond .eq 21, 3) := by decide +kernel
theorem dX6_met_24 : decode cX6_met 24 = .ok (.iload_n 2, 1) := by decide +kernel
theorem dX6_met_25 : decode cX6_met 25 = .ok (.iconst 0, 1) := by decide +kernel
theorem dX6_met_26 : decode cX6_met 26 = .ok (.iconst 3, 1) := by decide +kernel
theorem dX6_met_27 : decode cX6_met 27 = .ok (.invokestatic 50, 3) := by decide +kernel
theorem dX6_met_30 : decode cX6_met 30 = .ok (.ifCond .eq 12, 3) := by decide +kernel
theorem dX6_met_33 : decode cX6_met 33 = .ok (.aload_n 0, 1) := by decide +kernel
theorem dX6_met_34 : decode cX6_met 34 = .ok (.iload_n 1, 1) := by decide +kernel
theorem dX6_met_35 : decode cX6_met 35 = .ok (.iload_n 2, 1) := by decide +kernel
theorem dX6_met_36 : decode cX6_met 36 = .ok (.invokevirtual 174, 3) := by decide +kernel
theorem dX6_met_39 : decode cX6_met 39 = .ok (.goto 8, 3) := by decide +kernel
theorem dX6_met_42 : decode cX6_met 42 = .ok (.aload_n 0, 1) := by decide +kernel
theorem dX6_met_43 : decode cX6_met 43 = .ok (.iconst 1, 1) := by decide +kernel
theorem dX6_met_44 : decode cX6_met 44 = .ok (.invokevirtual 66, 3) := by decide +kernel
theorem dX6_met_47 : decode cX6_met 47 = .ok (.ireturn, 1) := by decide +kernel
theorem dX6_digest_0 : decode cX6_digest 0 = .ok (.aload_n 0, 1) := by decide +kernel
theorem dX6_digest_1 : decode cX6_digest 1 = .ok (.iconst 0, 1) := by decide +kernel
theorem dX6_digest_2 : decode cX6_digest 2 = .ok (.putfield 43, 3) := by decide +kernel
theorem dX6_digest_5 : decode cX6_digest 5 = .ok (.ldc2_w 177, 3) := by decide +kernel
theorem dX6_digest_8 : decode cX6_digest 8 = .ok (.lstore_n 1, 1) := by decide +kernel
theorem dX6_digest_9 : decode cX6_digest 9 = .ok (.aload_n 0, 1) := by decide +kernel
theorem dX6_digest_10 : decode cX6_digest 10 = .ok (.getfield 9, 3) := by decide +kernel
theorem dX6_digest_13 : decode cX6_digest 13 = .ok (.astore_n 3, 1) := by decide +kernel
theorem dX6_digest_14 : decode cX6_digest 14 = .ok (.aload_n 3, 1) := by decide +kernel
theorem dX6_digest_15 : decode cX6_digest 15 = .ok (.arraylength, 1) := by decide +kernel
theorem dX6_digest_16 : decode cX6_digest 16 = .ok (.istore 4, 2) := by decide +kernel
theorem dX6_digest_18 : decode cX6_digest 18 = .ok (.iconst 0, 1) := by decide +kernel
theorem dX6_digest_19 : decode cX6_digest 19 = .ok (.istore 5, 2) := by decide +kernel
theorem dX6_digest_21 : decode cX6_digest 21 = .ok (.iload 5, 2) := by decide +kernel
theorem dX6_digest_23 : decode cX6_digest 23 = .ok (.iload 4, 2) := by decide +kernel
theorem dX6_digest_25 : decode cX6_digest 25 = .ok (.if_icmp .ge 25, 3) := by decide +kernel
theorem dX6_digest_28 : decode cX6_digest 28 = .ok (.aload_n 3, 1) := by decide +kernel
theorem dX6_digest_29 : decode cX6_digest 29 = .ok (.iload 5, 2) := by decide +kernel
theorem dX6_digest_31 : decode cX6_digest 31 = .ok (.iaload, 1) := by decide +kernel
theorem dX6_digest_32 : decode cX6_digest 32 = .ok (.istore 6, 2) := by decide +kernel
theorem dX6_digest_34 : decode cX6_digest 34 = .ok (.lload_n 1, 1) := by decide +kernel
theorem dX6_digest_35 : decode cX6_digest 35 = .ok (.ldc2_w 179, 3) := by decide +kernel
theorem dX6_digest_38 : decode cX6_digest 38 = .ok (.lmul, 1) := by decide +kernel
theorem dX6_digest_39 : decode cX6_digest 39 = .ok (.iload 6, 2) := by decide +kernel
theorem dX6_digest_41 : decode cX6_digest 41 = .ok (.i2l, 1) := by decide +kernel
theorem dX6_digest_42 : decode cX6_digest 42 = .ok (.ladd, 1) := by decide +kernel
theorem dX6_digest_43 : decode cX6_digest 43 = .ok (.lstore_n 1, 1) := by decide +kernel
theorem dX6_digest_44 : decode cX6_digest 44 = .ok (.iinc 5 1, 3) := by decide +kernel
theorem dX6_digest_47 : decode cX6_digest 47 = .ok (.goto (-26), 3) := by decide +kernel
theorem dX6_digest_50 : decode cX6_digest 50 = .ok (.lload_n 1, 1) := by decide +kernel
theorem dX6_digest_51 : decode cX6_digest 51 = .ok (.ldc2_w 179, 3) := by decide +kernel
theorem dX6_digest_54 : decode cX6_digest 54 = .ok (.lmul, 1) := by decide +kernel
theorem dX6_digest_55 : decode cX6_digest 55 = .ok (.aload_n 0, 1) := by decide +kernel
theorem dX6_digest_56 : decode cX6_digest 56 = .ok (.getfield 47, 3) := by decide +kernel
theorem dX6_digest_59 : decode cX6_digest 59 = .ok (.i2l, 1) := by decide +kernel
theorem dX6_digest_60 : decode cX6_digest 60 = .ok (.ladd, 1) := by decide +kernel
theorem dX6_digest_61 : decode cX6_digest 61 = .ok (.lstore_n 1, 1) := by decide +kernel
theorem dX6_digest_62 : decode cX6_digest 62 = .ok (.iconst 0, 1) := by decide +kernel
theorem dX6_digest_63 : decode cX6_digest 63 = .ok (.istore_n 3, 1) := by decide +kernel
theorem dX6_digest_64 : decode cX6_digest 64 = .ok (.iload_n 3, 1) := by decide +kernel
theorem dX6_digest_65 : decode cX6_digest 65 = .ok (.aload_n 0, 1) := by decide +kernel
theorem dX6_digest_66 : decode cX6_digest 66 = .ok (.getfield 47, 3) := by decide +kernel
theorem dX6_digest_69 : decode cX6_digest 69 = .ok (.if_icmp .ge 201, 3) := by decide +kernel
theorem dX6_digest_72 : decode cX6_digest 72 = .ok (.lload_n 1, 1) := by decide +kernel
theorem dX6_digest_73 : decode cX6_digest 73 = .ok (.ldc2_w 179, 3) := by decide +kernel
theorem dX6_digest_76 : decode cX6_digest 76 = .ok (.lmul, 1) := by decide +kernel
theorem dX6_digest_77 : decode cX6_digest 77 = .ok (.aload_n 0, 1) := by decide +kernel
theorem dX6_digest_78 : decode cX6_digest 78 = .ok (.getfield 13, 3) := by decide +kernel
theorem dX6_digest_81 : decode cX6_digest 81 = .ok (.iload_n 3, 1) := by decide +kernel
theorem dX6_digest_82 : decode cX6_digest 82 = .ok (.iaload, 1) := by decide +kernel
theorem dX6_digest_83 : decode cX6_digest 83 = .ok (.i2l, 1) := by decide +kernel
theorem dX6_digest_84 : decode cX6_digest 84 = .ok (.ladd, 1) := by decide +kernel
theorem dX6_digest_85 : decode cX6_digest 85 = .ok (.lstore_n 1, 1) := by decide +kernel
theorem dX6_digest_86 : decode cX6_digest 86 = .ok (.iconst 4, 1) := by decide +kernel
theorem dX6_digest_87 : decode cX6_digest 87 = .ok (.iload_n 3, 1) := by decide +kernel
theorem dX6_digest_88 : decode cX6_digest 88 = .ok (.imul, 1) := by decide +kernel
theorem dX6_digest_89 : decode cX6_digest 89 = .ok (.istore 4, 2) := by decide +kernel
theorem dX6_digest_91 : decode cX6_digest 91 = .ok (.iload 4, 2) := by decide +kernel
theorem dX6_digest_93 : decode cX6_digest 93 = .ok (.iconst 4, 1) := by decide +kernel
theorem dX6_digest_94 : decode cX6_digest 94 = .ok (.iload_n 3, 1) := by decide +kernel
theorem dX6_digest_95 : decode cX6_digest 95 = .ok (.imul, 1) := by decide +kernel
theorem dX6_digest_96 : decode cX6_digest 96 = .ok (.iconst 4, 1) := by decide +kernel
theorem dX6_digest_97 : decode cX6_digest 97 = .ok (.iadd, 1) := by decide +kernel
theorem dX6_digest_98 : decode cX6_digest 98 = .ok (.if_icmp .ge 96, 3) := by decide +kernel
theorem dX6_digest_101 : decode cX6_digest 101 = .ok (.lload_n 1, 1) := by decide +kernel
theorem dX6_digest_102 : decode cX6_digest 102 = .ok (.ldc2_w 179, 3) := by decide +kernel
theorem dX6_digest_105 : decode cX6_digest 105 = .ok (.lmul, 1) := by decide +kernel
theorem dX6_digest_106 : decode cX6_digest 106 = .ok (.aload_n 0, 1) := by decide +kernel
theorem dX6_digest_107 : decode cX6_digest 107 = .ok (.getfield 16, 3) := by decide +kernel
theorem dX6_digest_110 : decode cX6_digest 110 = .ok (.iload 4, 2) := by decide +kernel
theorem dX6_digest_112 : decode cX6_digest 112 = .ok (.iaload, 1) := by decide +kernel
theorem dX6_digest_113 : decode cX6_digest 113 = .ok (.i2l, 1) := by decide +kernel
theorem dX6_digest_114 : decode cX6_digest 114 = .ok (.ladd, 1) := by decide +kernel
theorem dX6_digest_115 : decode cX6_digest 115 = .ok (.lstore_n 1, 1) := by decide +kernel
theorem dX6_digest_116 : decode cX6_digest 116 = .ok (.iload 4, 2) := by decide +kernel
theorem dX6_digest_118 : decode cX6_digest 118 = .ok (.invokestatic 78, 3) := by decide +kernel
theorem dX6_digest_121 : decode cX6_digest 121 = .ok (.istore 5, 2) := by decide +kernel
theorem dX6_digest_123 : decode cX6_digest 123 = .ok (.iload 5, 2) := by decide +kernel
theorem dX6_digest_125 : decode cX6_digest 125 = .ok (.iload 4, 2) := by decide +kernel
theorem dX6_digest_127 : decode cX6_digest 127 = .ok (.invokestatic 78, 3) := by decide +kernel
theorem dX6_digest_130 : decode cX6_digest 130 = .ok (.aload_n 0, 1) := by decide +kernel
theorem dX6_digest_131 : decode cX6_digest 131 = .ok (.getfield 16, 3) := by decide +kernel
theorem dX6_digest_134 : decode cX6_digest 134 = .ok (.iload 4, 2) := by decide +kernel
theorem dX6_digest_136 : decode cX6_digest 136 = .ok (.iaload, 1) := by decide +kernel
theorem dX6_digest_137 : decode cX6_digest 137 = .ok (.iadd, 1) := by decide +kernel
theorem dX6_digest_138 : decode cX6_digest 138 = .ok (.if_icmp .ge 50, 3) := by decide +kernel
theorem dX6_digest_141 : decode cX6_digest 141 = .ok (.lload_n 1, 1) := by decide +kernel
theorem dX6_digest_142 : decode cX6_digest 142 = .ok (.ldc2_w 179, 3) := by decide +kernel
theorem dX6_digest_145 : decode cX6_digest 145 = .ok (.lmul, 1) := by decide +kernel
theorem dX6_digest_146 : decode cX6_digest 146 = .ok (.aload_n 0, 1) := by decide +kernel
theorem dX6_digest_147 : decode cX6_digest 147 = .ok (.getfield 19, 3) := by decide +kernel
theorem dX6_digest_150 : decode cX6_digest 150 = .ok (.iload 5, 2) := by decide +kernel
theorem dX6_digest_152 : decode cX6_digest 152 = .ok (.iaload, 1) := by decide +kernel
theorem dX6_digest_153 : decode cX6_digest 153 = .ok (.i2l, 1) := by decide +kernel
theorem dX6_digest_154 : decode cX6_digest 154 = .ok (.ladd, 1) := by decide +kernel
theorem dX6_digest_155 : decode cX6_digest 155 = .ok (.ldc2_w 179, 3) := by decide +kernel
theorem dX6_digest_158 : decode cX6_digest 158 = .ok (.lmul, 1) := by decide +kernel
theorem dX6_digest_159 : decode cX6_digest 159 = .ok (.aload_n 0, 1) := by decide +kernel
theorem dX6_digest_160 : decode cX6_digest 160 = .ok (.getfield 22, 3) := by decide +kernel
theorem dX6_digest_163 : decode cX6_digest 163 = .ok (.iload 5, 2) := by decide +kernel
theorem dX6_digest_165 : decode cX6_digest 165 = .ok (.iaload, 1) := by decide +kernel
theorem dX6_digest_166 : decode cX6_digest 166 = .ok (.i2l, 1) := by decide +kernel
theorem dX6_digest_167 : decode cX6_digest 167 = .ok (.ladd, 1) := by decide +kernel
theorem dX6_digest_168 : decode cX6_digest 168 = .ok (.ldc2_w 179, 3) := by decide +kernel
theorem dX6_digest_171 : decode cX6_digest 171 = .ok (.lmul, 1) := by decide +kernel
theorem dX6_digest_172 : decode cX6_digest 172 = .ok (.aload_n 0, 1) := by decide +kernel
theorem dX6_digest_173 : decode cX6_digest 173 = .ok (.getfield 25, 3) := by decide +kernel
theorem dX6_digest_176 : decode cX6_digest 176 = .ok (.iload 5, 2) := by decide +kernel
theorem dX6_digest_178 : decode cX6_digest 178 = .ok (.iaload, 1) := by decide +kernel
theorem dX6_digest_179 : decode cX6_digest 179 = .ok (.i2l, 1) := by decide +kernel
theorem dX6_digest_180 : decode cX6_digest 180 = .ok (.ladd, 1) := by decide +kernel
theorem dX6_digest_181 : decode cX6_digest 181 = .ok (.lstore_n 1, 1) := by decide +kernel
theorem dX6_digest_182 : decode cX6_digest 182 = .ok (.iinc 5 1, 3) := by decide +kernel
theorem dX6_digest_185 : decode cX6_digest 185 = .ok (.goto (-62), 3) := by decide +kernel
theorem dX6_digest_188 : decode cX6_digest 188 = .ok (.iinc 4 1, 3) := by decide +kernel
theorem dX6_digest_191 : decode cX6_digest 191 = .ok (.goto (-100), 3) := by decide +kernel
theorem dX6_digest_194 : decode cX6_digest 194 = .ok (.lload_n 1, 1) := by decide +kernel
theorem dX6_digest_195 : decode cX6_digest 195 = .ok (.ldc2_w 179, 3) := by decide +kernel
theorem dX6_digest_198 : decode cX6_digest 198 = .ok (.lmul, 1) := by decide +kernel
theorem dX6_digest_199 : decode cX6_digest 199 = .ok (.aload_n 0, 1) := by decide +kernel
theorem dX6_digest_200 : decode cX6_digest 200 = .ok (.getfield 28, 3) := by decide +kernel
theorem dX6_digest_203 : decode cX6_digest 203 = .ok (.iload_n 3, 1) := by decide +kernel
theorem dX6_digest_204 : decode cX6_digest 204 = .ok (.iaload, 1) := by decide +kernel
theorem dX6_digest_205 : decode cX6_digest 205 = .ok (.i2l, 1) := by decide +kernel
theorem dX6_digest_206 : decode cX6_digest 206 = .ok (.ladd, 1) := by decide +kernel
theorem dX6_digest_207 : decode cX6_digest 207 = .ok (.lstore_n 1, 1) := by decide +kernel
theorem dX6_digest_208 : decode cX6_digest 208 = .ok (.bipush 8, 2) := by decide +kernel
theorem dX6_digest_210 : decode cX6_digest 210 = .ok (.iload_n 3, 1) := by decide +kernel
theorem dX6_digest_211 : decode cX6_digest 211 = .ok (.imul, 1) := by decide +kernel
theorem dX6_digest_212 : decode cX6_digest 212 = .ok (.istore 4, 2) := by decide +kernel
theorem dX6_digest_214 : decode cX6_digest 214 = .ok (.iload 4, 2) := by decide +kernel
theorem dX6_digest_216 : decode cX6_digest 216 = .ok (.bipush 8, 2) := by decide +kernel
theorem dX6_digest_218 : decode cX6_digest 218 = .ok (.iload_n 3, 1) := by decide +kernel
theorem dX6_digest_219 : decode cX6_digest 219 = .ok (.imul, 1) := by decide +kernel
theorem dX6_digest_220 : decode cX6_digest 220 = .ok (.aload_n 0, 1) := by decide +kernel
theorem dX6_digest_221 : decode cX6_digest 221 = .ok (.getfield 28, 3) := by decide +kernel
theorem dX6_digest_224 : decode cX6_digest 224 = .ok (.iload_n 3, 1) := by decide +kernel
theorem dX6_digest_225 : decode cX6_digest 225 = .ok (.iaload, 1) := by decide +kernel
theorem dX6_digest_226 : decode cX6_digest 226 = .ok (.iadd, 1) := by decide +kernel
theorem dX6_digest_227 : decode cX6_digest 227 = .ok (.if_icmp .ge 37, 3) := by decide +kernel
theorem dX6_digest_230 : decode cX6_digest 230 = .ok (.lload_n 1, 1) := by decide +kernel
theorem dX6_digest_231 : decode cX6_digest 231 = .ok (.ldc2_w 179, 3) := by decide +kernel
theorem dX6_digest_234 : decode cX6_digest 234 = .ok (.lmul, 1) := by decide +kernel
theorem dX6_digest_235 : decode cX6_digest 235 = .ok (.aload_n 0, 1) := by decide +kernel
theorem dX6_digest_236 : decode cX6_digest 236 = .ok (.getfield 31, 3) := by decide +kernel
theorem dX6_digest_239 : decode cX6_digest 239 = .ok (.iload 4, 2) := by decide +kernel
theorem dX6_digest_241 : decode cX6_digest 241 = .ok (.iaload, 1) := by decide +kernel
theorem dX6_digest_242 : decode cX6_digest 242 = .ok (.i2l, 1) := by decide +kernel
theorem dX6_digest_243 : decode cX6_digest 243 = .ok (.ladd, 1) := by decide +kernel
theorem dX6_digest_244 : decode cX6_digest 244 = .ok (.ldc2_w 179, 3) := by decide +kernel
theorem dX6_digest_247 : decode cX6_digest 247 = .ok (.lmul, 1) := by decide +kernel
theorem dX6_digest_248 : decode cX6_digest 248 = .ok (.aload_n 0, 1) := by decide +kernel
theorem dX6_digest_249 : decode cX6_digest 249 = .ok (.getfield 34, 3) := by decide +kernel
theorem dX6_digest_252 : decode cX6_digest 252 = .ok (.iload 4, 2) := by decide +kernel
theorem dX6_digest_254 : decode cX6_digest 254 = .ok (.iaload, 1) := by decide +kernel
theorem dX6_digest_255 : decode cX6_digest 255 = .ok (.i2l, 1) := by decide +kernel
theorem dX6_digest_256 : decode cX6_digest 256 = .ok (.ladd, 1) := by decide +kernel
theorem dX6_digest_257 : decode cX6_digest 257 = .ok (.lstore_n 1, 1) := by decide +kernel
theorem dX6_digest_258 : decode cX6_digest 258 = .ok (.iinc 4 1, 3) := by decide +kernel
theorem dX6_digest_261 : decode cX6_digest 261 = .ok (.goto (-47), 3) := by decide +kernel
theorem dX6_digest_264 : decode cX6_digest 264 = .ok (.iinc 3 1, 3) := by decide +kernel
theorem dX6_digest_267 : decode cX6_digest 267 = .ok (.goto (-203), 3) := by decide +kernel
theorem dX6_digest_270 : decode cX6_digest 270 = .ok (.lload_n 1, 1) := by decide +kernel
theorem dX6_digest_271 : decode cX6_digest 271 = .ok (.ldc2_w 179, 3) := by decide +kernel
theorem dX6_digest_274 : decode cX6_digest 274 = .ok (.lmul, 1) := by decide +kernel
theorem dX6_digest_275 : decode cX6_digest 275 = .ok (.aload_n 0, 1) := by decide +kernel
theorem dX6_digest_276 : decode cX6_digest 276 = .ok (.getfield 108, 3) := by decide +kernel
theorem dX6_digest_279 : decode cX6_digest 279 = .ok (.i2l, 1) := by decide +kernel
theorem dX6_digest_280 : decode cX6_digest 280 = .ok (.ladd, 1) := by decide +kernel
theorem dX6_digest_281 : decode cX6_digest 281 = .ok (.lstore_n 1, 1) := by decide +kernel
theorem dX6_digest_282 : decode cX6_digest 282 = .ok (.iconst 0, 1) := by decide +kernel
theorem dX6_digest_283 : decode cX6_digest 283 = .ok (.istore_n 3, 1) := by decide +kernel
theorem dX6_digest_284 : decode cX6_digest 284 = .ok (.iload_n 3, 1) := by decide +kernel
theorem dX6_digest_285 : decode cX6_digest 285 = .ok (.aload_n 0, 1) := by decide +kernel
theorem dX6_digest_286 : decode cX6_digest 286 = .ok (.getfield 108, 3) := by decide +kernel
theorem dX6_digest_289 : decode cX6_digest 289 = .ok (.if_icmp .ge 40, 3) := by decide +kernel
theorem dX6_digest_292 : decode cX6_digest 292 = .ok (.iconst 0, 1) := by decide +kernel
theorem dX6_digest_293 : decode cX6_digest 293 = .ok (.istore 4, 2) := by decide +kernel
theorem dX6_digest_295 : decode cX6_digest 295 = .ok (.iload 4, 2) := by decide +kernel
theorem dX6_digest_297 : decode cX6_digest 297 = .ok (.bipush 13, 2) := by decide +kernel
theorem dX6_digest_299 : decode cX6_digest 299 = .ok (.if_icmp .ge 24, 3) := by decide +kernel
theorem dX6_digest_302 : decode cX6_digest 302 = .ok (.lload_n 1, 1) := by decide +kernel
theorem dX6_digest_303 : decode cX6_digest 303 = .ok (.ldc2_w 179, 3) := by decide +kernel
theorem dX6_digest_306 : decode cX6_digest 306 = .ok (.lmul, 1) := by decide +kernel
theorem dX6_digest_307 : decode cX6_digest 307 = .ok (.aload_n 0, 1) := by decide +kernel
theorem dX6_digest_308 : decode cX6_digest 308 = .ok (.iload_n 3, 1) := by decide +kernel
theorem dX6_digest_309 : decode cX6_digest 309 = .ok (.iload 4, 2) := by decide +kernel
theorem dX6_digest_311 : decode cX6_digest 311 = .ok (.invokevirtual 135, 3) := by decide +kernel
theorem dX6_digest_314 : decode cX6_digest 314 = .ok (.i2l, 1) := by decide +kernel
theorem dX6_digest_315 : decode cX6_digest 315 = .ok (.ladd, 1) := by decide +kernel
theorem dX6_digest_316 : decode cX6_digest 316 = .ok (.lstore_n 1, 1) := by decide +kernel
theorem dX6_digest_317 : decode cX6_digest 317 = .ok (.iinc 4 1, 3) := by decide +kernel
theorem dX6_digest_320 : decode cX6_digest 320 = .ok (.goto (-25), 3) := by decide +kernel
theorem dX6_digest_323 : decode cX6_digest 323 = .ok (.iinc 3 1, 3) := by decide +kernel
theorem dX6_digest_326 : decode cX6_digest 326 = .ok (.goto (-42), 3) := by decide +kernel
theorem dX6_digest_329 : decode cX6_digest 329 = .ok (.lload_n 1, 1) := by decide +kernel
theorem dX6_digest_330 : decode cX6_digest 330 = .ok (.ldc2_w 179, 3) := by decide +kernel
theorem dX6_digest_333 : decode cX6_digest 333 = .ok (.lmul, 1) := by decide +kernel
theorem dX6_digest_334 : decode cX6_digest 334 = .ok (.aload_n 0, 1) := by decide +kernel
theorem dX6_digest_335 : decode cX6_digest 335 = .ok (.getfield 168, 3) := by decide +kernel
theorem dX6_digest_338 : decode cX6_digest 338 = .ok (.i2l, 1) := by decide +kernel
theorem dX6_digest_339 : decode cX6_digest 339 = .ok (.ladd, 1) := by decide +kernel
theorem dX6_digest_340 : decode cX6_digest 340 = .ok (.lstore_n 1, 1) := by decide +kernel
theorem dX6_digest_341 : decode cX6_digest 341 = .ok (.iconst 0, 1) := by decide +kernel
theorem dX6_digest_342 : decode cX6_digest 342 = .ok (.istore_n 3, 1) := by decide +kernel
theorem dX6_digest_343 : decode cX6_digest 343 = .ok (.iload_n 3, 1) := by decide +kernel
theorem dX6_digest_344 : decode cX6_digest 344 = .ok (.aload_n 0, 1) := by decide +kernel
theorem dX6_digest_345 : decode cX6_digest 345 = .ok (.getfield 168, 3) := by decide +kernel
theorem dX6_digest_348 : decode cX6_digest 348 = .ok (.bipush 100, 2) := by decide +kernel
theorem dX6_digest_350 : decode cX6_digest 350 = .ok (.invokestatic 144, 3) := by decide +kernel
theorem dX6_digest_353 : decode cX6_digest 353 = .ok (.if_icmp .ge 39, 3) := by decide +kernel
theorem dX6_digest_356 : decode cX6_digest 356 = .ok (.iconst 0, 1) := by decide +kernel
theorem dX6_digest_357 : decode cX6_digest 357 = .ok (.istore 4, 2) := by decide +kernel
theorem dX6_digest_359 : decode cX6_digest 359 = .ok (.iload 4, 2) := by decide +kernel
theorem dX6_digest_361 : decode cX6_digest 361 = .ok (.iconst 4, 1) := by decide +kernel
theorem dX6_digest_362 : decode cX6_digest 362 = .ok (.if_icmp .ge 24, 3) := by decide +kernel
theorem dX6_digest_365 : decode cX6_digest 365 = .ok (.lload_n 1, 1) := by decide +kernel
theorem dX6_digest_366 : decode cX6_digest 366 = .ok (.ldc2_w 179, 3) := by decide +kernel
theorem dX6_digest_369 : decode cX6_digest 369 = .ok (.lmul, 1) := by decide +kernel
theorem dX6_digest_370 : decode cX6_digest 370 = .ok (.aload_n 0, 1) := by decide +kernel
theorem dX6_digest_371 : decode cX6_digest 371 = .ok (.iload_n 3, 1) := by decide +kernel
theorem dX6_digest_372 : decode cX6_digest 372 = .ok (.iload 4, 2) := by decide +kernel
theorem dX6_digest_374 : decode cX6_digest 374 = .ok (.invokevirtual 174, 3) := by decide +kernel
theorem dX6_digest_377 : decode cX6_digest 377 = .ok (.i2l, 1) := by decide +kernel
theorem dX6_digest_378 : decode cX6_digest 378 = .ok (.ladd, 1) := by decide +kernel
theorem dX6_digest_379 : decode cX6_digest 379 = .ok (.lstore_n 1, 1) := by decide +kernel
theorem dX6_digest_380 : decode cX6_digest 380 = .ok (.iinc 4 1, 3) := by decide +kernel
theorem dX6_digest_383 : decode cX6_digest 383 = .ok (.goto (-24), 3) := by decide +kernel
theorem dX6_digest_386 : decode cX6_digest 386 = .ok (.iinc 3 1, 3) := by decide +kernel
theorem dX6_digest_389 : decode cX6_digest 389 = .ok (.goto (-46), 3) := by decide +kernel
theorem dX6_digest_392 : decode cX6_digest 392 = .ok (.lload_n 1, 1) := by decide +kernel
theorem dX6_digest_393 : decode cX6_digest 393 = .ok (.lreturn, 1) := by decide +kernel
