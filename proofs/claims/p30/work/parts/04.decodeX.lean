theorem dX0_init_0 : decode cX0_init 0 = .ok (.aload_n 0, 1) := by decide +kernel
theorem dX0_init_1 : decode cX0_init 1 = .ok (.invokespecial 3, 3) := by decide +kernel
theorem dX0_init_4 : decode cX0_init 4 = .ok (.aload_n 0, 1) := by decide +kernel
theorem dX0_init_5 : decode cX0_init 5 = .ok (.new 9, 3) := by decide +kernel
theorem dX0_init_8 : decode cX0_init 8 = .ok (.dup, 1) := by decide +kernel
theorem dX0_init_9 : decode cX0_init 9 = .ok (.bipush 8, 2) := by decide +kernel
theorem dX0_init_11 : decode cX0_init 11 = .ok (.invokespecial 11, 3) := by decide +kernel
theorem dX0_init_14 : decode cX0_init 14 = .ok (.putfield 14, 3) := by decide +kernel
theorem dX0_init_17 : decode cX0_init 17 = .ok (.aload_n 0, 1) := by decide +kernel
theorem dX0_init_18 : decode cX0_init 18 = .ok (.new 9, 3) := by decide +kernel
theorem dX0_init_21 : decode cX0_init 21 = .ok (.dup, 1) := by decide +kernel
theorem dX0_init_22 : decode cX0_init 22 = .ok (.bipush 8, 2) := by decide +kernel
theorem dX0_init_24 : decode cX0_init 24 = .ok (.invokespecial 11, 3) := by decide +kernel
theorem dX0_init_27 : decode cX0_init 27 = .ok (.putfield 20, 3) := by decide +kernel
theorem dX0_init_30 : decode cX0_init 30 = .ok (.aload_n 0, 1) := by decide +kernel
theorem dX0_init_31 : decode cX0_init 31 = .ok (.iload_n 1, 1) := by decide +kernel
theorem dX0_init_32 : decode cX0_init 32 = .ok (.putfield 23, 3) := by decide +kernel
theorem dX0_init_35 : decode cX0_init 35 = .ok (.aload_n 0, 1) := by decide +kernel
theorem dX0_init_36 : decode cX0_init 36 = .ok (.iconst 4, 1) := by decide +kernel
theorem dX0_init_37 : decode cX0_init 37 = .ok (.anewarray 27, 3) := by decide +kernel
theorem dX0_init_40 : decode cX0_init 40 = .ok (.putfield 29, 3) := by decide +kernel
theorem dX0_init_43 : decode cX0_init 43 = .ok (.iconst 0, 1) := by decide +kernel
theorem dX0_init_44 : decode cX0_init 44 = .ok (.istore_n 2, 1) := by decide +kernel
theorem dX0_init_45 : decode cX0_init 45 = .ok (.iload_n 2, 1) := by decide +kernel
theorem dX0_init_46 : decode cX0_init 46 = .ok (.aload_n 0, 1) := by decide +kernel
theorem dX0_init_47 : decode cX0_init 47 = .ok (.getfield 29, 3) := by decide +kernel
theorem dX0_init_50 : decode cX0_init 50 = .ok (.arraylength, 1) := by decide +kernel
theorem dX0_init_51 : decode cX0_init 51 = .ok (.if_icmp .ge 22, 3) := by decide +kernel
theorem dX0_init_54 : decode cX0_init 54 = .ok (.aload_n 0, 1) := by decide +kernel
theorem dX0_init_55 : decode cX0_init 55 = .ok (.getfield 29, 3) := by decide +kernel
theorem dX0_init_58 : decode cX0_init 58 = .ok (.iload_n 2, 1) := by decide +kernel
theorem dX0_init_59 : decode cX0_init 59 = .ok (.new 27, 3) := by decide +kernel
theorem dX0_init_62 : decode cX0_init 62 = .ok (.dup, 1) := by decide +kernel
theorem dX0_init_63 : decode cX0_init 63 = .ok (.invokespecial 33, 3) := by decide +kernel
theorem dX0_init_66 : decode cX0_init 66 = .ok (.aastore, 1) := by decide +kernel
theorem dX0_init_67 : decode cX0_init 67 = .ok (.iinc 2 1, 3) := by decide +kernel
theorem dX0_init_70 : decode cX0_init 70 = .ok (.goto (-25), 3) := by decide +kernel
theorem dX0_init_73 : decode cX0_init 73 = .ok (.return_, 1) := by decide +kernel
theorem dX0_trackOrNull_0 : decode cX0_trackOrNull 0 = .ok (.iload_n 1, 1) := by decide +kernel
theorem dX0_trackOrNull_1 : decode cX0_trackOrNull 1 = .ok (.ifCond .lt 21, 3) := by decide +kernel
theorem dX0_trackOrNull_4 : decode cX0_trackOrNull 4 = .ok (.iload_n 1, 1) := by decide +kernel
theorem dX0_trackOrNull_5 : decode cX0_trackOrNull 5 = .ok (.aload_n 0, 1) := by decide +kernel
theorem dX0_trackOrNull_6 : decode cX0_trackOrNull 6 = .ok (.getfield 29, 3) := by decide +kernel
theorem dX0_trackOrNull_9 : decode cX0_trackOrNull 9 = .ok (.arraylength, 1) := by decide +kernel
theorem dX0_trackOrNull_10 : decode cX0_trackOrNull 10 = .ok (.if_icmp .ge 12, 3) := by decide +kernel
theorem dX0_trackOrNull_13 : decode cX0_trackOrNull 13 = .ok (.aload_n 0, 1) := by decide +kernel
theorem dX0_trackOrNull_14 : decode cX0_trackOrNull 14 = .ok (.getfield 29, 3) := by decide +kernel
theorem dX0_trackOrNull_17 : decode cX0_trackOrNull 17 = .ok (.iload_n 1, 1) := by decide +kernel
theorem dX0_trackOrNull_18 : decode cX0_trackOrNull 18 = .ok (.aaload, 1) := by decide +kernel
theorem dX0_trackOrNull_19 : decode cX0_trackOrNull 19 = .ok (.goto 4, 3) := by decide +kernel
theorem dX0_trackOrNull_22 : decode cX0_trackOrNull 22 = .ok (.aconst_null, 1) := by decide +kernel
theorem dX0_trackOrNull_23 : decode cX0_trackOrNull 23 = .ok (.areturn, 1) := by decide +kernel
theorem dX0_cueCount_0 : decode cX0_cueCount 0 = .ok (.aload_n 0, 1) := by decide +kernel
theorem dX0_cueCount_1 : decode cX0_cueCount 1 = .ok (.getfield 14, 3) := by decide +kernel
theorem dX0_cueCount_4 : decode cX0_cueCount 4 = .ok (.invokevirtual 38, 3) := by decide +kernel
theorem dX0_cueCount_7 : decode cX0_cueCount 7 = .ok (.ireturn, 1) := by decide +kernel
theorem dX0_layCue_0 : decode cX0_layCue 0 = .ok (.aload_n 0, 1) := by decide +kernel
theorem dX0_layCue_1 : decode cX0_layCue 1 = .ok (.getfield 14, 3) := by decide +kernel
theorem dX0_layCue_4 : decode cX0_layCue 4 = .ok (.iload_n 1, 1) := by decide +kernel
theorem dX0_layCue_5 : decode cX0_layCue 5 = .ok (.invokevirtual 45, 3) := by decide +kernel
theorem dX0_layCue_8 : decode cX0_layCue 8 = .ok (.istore_n 3, 1) := by decide +kernel
theorem dX0_layCue_9 : decode cX0_layCue 9 = .ok (.aload_n 0, 1) := by decide +kernel
theorem dX0_layCue_10 : decode cX0_layCue 10 = .ok (.getfield 14, 3) := by decide +kernel
theorem dX0_layCue_13 : decode cX0_layCue 13 = .ok (.iload_n 3, 1) := by decide +kernel
theorem dX0_layCue_14 : decode cX0_layCue 14 = .ok (.iload_n 1, 1) := by decide +kernel
theorem dX0_layCue_15 : decode cX0_layCue 15 = .ok (.invokevirtual 48, 3) := by decide +kernel
theorem dX0_layCue_18 : decode cX0_layCue 18 = .ok (.aload_n 0, 1) := by decide +kernel
theorem dX0_layCue_19 : decode cX0_layCue 19 = .ok (.getfield 20, 3) := by decide +kernel
theorem dX0_layCue_22 : decode cX0_layCue 22 = .ok (.iload_n 3, 1) := by decide +kernel
theorem dX0_layCue_23 : decode cX0_layCue 23 = .ok (.iload_n 2, 1) := by decide +kernel
theorem dX0_layCue_24 : decode cX0_layCue 24 = .ok (.invokevirtual 48, 3) := by decide +kernel
theorem dX0_layCue_27 : decode cX0_layCue 27 = .ok (.return_, 1) := by decide +kernel
theorem dX0_turnAround_0 : decode cX0_turnAround 0 = .ok (.aload_n 0, 1) := by decide +kernel
theorem dX0_turnAround_1 : decode cX0_turnAround 1 = .ok (.getfield 29, 3) := by decide +kernel
theorem dX0_turnAround_4 : decode cX0_turnAround 4 = .ok (.astore_n 1, 1) := by decide +kernel
theorem dX0_turnAround_5 : decode cX0_turnAround 5 = .ok (.aload_n 1, 1) := by decide +kernel
theorem dX0_turnAround_6 : decode cX0_turnAround 6 = .ok (.arraylength, 1) := by decide +kernel
theorem dX0_turnAround_7 : decode cX0_turnAround 7 = .ok (.istore_n 2, 1) := by decide +kernel
theorem dX0_turnAround_8 : decode cX0_turnAround 8 = .ok (.iconst 0, 1) := by decide +kernel
theorem dX0_turnAround_9 : decode cX0_turnAround 9 = .ok (.istore_n 3, 1) := by decide +kernel
theorem dX0_turnAround_10 : decode cX0_turnAround 10 = .ok (.iload_n 3, 1) := by decide +kernel
theorem dX0_turnAround_11 : decode cX0_turnAround 11 = .ok (.iload_n 2, 1) := by decide +kernel
theorem dX0_turnAround_12 : decode cX0_turnAround 12 = .ok (.if_icmp .ge 23, 3) := by decide +kernel
theorem dX0_turnAround_15 : decode cX0_turnAround 15 = .ok (.aload_n 1, 1) := by decide +kernel
theorem dX0_turnAround_16 : decode cX0_turnAround 16 = .ok (.iload_n 3, 1) := by decide +kernel
theorem dX0_turnAround_17 : decode cX0_turnAround 17 = .ok (.aaload, 1) := by decide +kernel
theorem dX0_turnAround_18 : decode cX0_turnAround 18 = .ok (.astore 4, 2) := by decide +kernel
theorem dX0_turnAround_20 : decode cX0_turnAround 20 = .ok (.aload 4, 2) := by decide +kernel
theorem dX0_turnAround_22 : decode cX0_turnAround 22 = .ok (.aload_n 0, 1) := by decide +kernel
theorem dX0_turnAround_23 : decode cX0_turnAround 23 = .ok (.getfield 23, 3) := by decide +kernel
theorem dX0_turnAround_26 : decode cX0_turnAround 26 = .ok (.invokevirtual 52, 3) := by decide +kernel
theorem dX0_turnAround_29 : decode cX0_turnAround 29 = .ok (.iinc 3 1, 3) := by decide +kernel
theorem dX0_turnAround_32 : decode cX0_turnAround 32 = .ok (.goto (-22), 3) := by decide +kernel
theorem dX0_turnAround_35 : decode cX0_turnAround 35 = .ok (.aload_n 0, 1) := by decide +kernel
theorem dX0_turnAround_36 : decode cX0_turnAround 36 = .ok (.getfield 14, 3) := by decide +kernel
theorem dX0_turnAround_39 : decode cX0_turnAround 39 = .ok (.aload_n 0, 1) := by decide +kernel
theorem dX0_turnAround_40 : decode cX0_turnAround 40 = .ok (.getfield 23, 3) := by decide +kernel
theorem dX0_turnAround_43 : decode cX0_turnAround 43 = .ok (.invokevirtual 55, 3) := by decide +kernel
theorem dX0_turnAround_46 : decode cX0_turnAround 46 = .ok (.aload_n 0, 1) := by decide +kernel
theorem dX0_turnAround_47 : decode cX0_turnAround 47 = .ok (.getfield 20, 3) := by decide +kernel
theorem dX0_turnAround_50 : decode cX0_turnAround 50 = .ok (.invokevirtual 58, 3) := by decide +kernel
theorem dX0_turnAround_53 : decode cX0_turnAround 53 = .ok (.return_, 1) := by decide +kernel
theorem dX1_init_0 : decode cX1_init 0 = .ok (.aload_n 0, 1) := by decide +kernel
theorem dX1_init_1 : decode cX1_init 1 = .ok (.invokespecial 3, 3) := by decide +kernel
theorem dX1_init_4 : decode cX1_init 4 = .ok (.aload_n 0, 1) := by decide +kernel
theorem dX1_init_5 : decode cX1_init 5 = .ok (.new 9, 3) := by decide +kernel
theorem dX1_init_8 : decode cX1_init 8 = .ok (.dup, 1) := by decide +kernel
theorem dX1_init_9 : decode cX1_init 9 = .ok (.bipush 100, 2) := by decide +kernel
theorem dX1_init_11 : decode cX1_init 11 = .ok (.invokespecial 11, 3) := by decide +kernel
theorem dX1_init_14 : decode cX1_init 14 = .ok (.putfield 14, 3) := by decide +kernel
theorem dX1_init_17 : decode cX1_init 17 = .ok (.aload_n 0, 1) := by decide +kernel
theorem dX1_init_18 : decode cX1_init 18 = .ok (.new 9, 3) := by decide +kernel
theorem dX1_init_21 : decode cX1_init 21 = .ok (.dup, 1) := by decide +kernel
theorem dX1_init_22 : decode cX1_init 22 = .ok (.bipush 100, 2) := by decide +kernel
theorem dX1_init_24 : decode cX1_init 24 = .ok (.invokespecial 11, 3) := by decide +kernel
theorem dX1_init_27 : decode cX1_init 27 = .ok (.putfield 20, 3) := by decide +kernel
theorem dX1_init_30 : decode cX1_init 30 = .ok (.aload_n 0, 1) := by decide +kernel
theorem dX1_init_31 : decode cX1_init 31 = .ok (.new 9, 3) := by decide +kernel
theorem dX1_init_34 : decode cX1_init 34 = .ok (.dup, 1) := by decide +kernel
theorem dX1_init_35 : decode cX1_init 35 = .ok (.bipush 100, 2) := by decide +kernel
theorem dX1_init_37 : decode cX1_init 37 = .ok (.invokespecial 11, 3) := by decide +kernel
theorem dX1_init_40 : decode cX1_init 40 = .ok (.putfield 23, 3) := by decide +kernel
theorem dX1_init_43 : decode cX1_init 43 = .ok (.aload_n 0, 1) := by decide +kernel
theorem dX1_init_44 : decode cX1_init 44 = .ok (.new 9, 3) := by decide +kernel
theorem dX1_init_47 : decode cX1_init 47 = .ok (.dup, 1) := by decide +kernel
theorem dX1_init_48 : decode cX1_init 48 = .ok (.bipush 100, 2) := by decide +kernel
theorem dX1_init_50 : decode cX1_init 50 = .ok (.invokespecial 11, 3) := by decide +kernel
theorem dX1_init_53 : decode cX1_init 53 = .ok (.putfield 26, 3) := by decide +kernel
theorem dX1_init_56 : decode cX1_init 56 = .ok (.return_, 1) := by decide +kernel
theorem dX1_keptCount_0 : decode cX1_keptCount 0 = .ok (.aload_n 0, 1) := by decide +kernel
theorem dX1_keptCount_1 : decode cX1_keptCount 1 = .ok (.getfield 14, 3) := by decide +kernel
theorem dX1_keptCount_4 : decode cX1_keptCount 4 = .ok (.invokevirtual 29, 3) := by decide +kernel
theorem dX1_keptCount_7 : decode cX1_keptCount 7 = .ok (.ireturn, 1) := by decide +kernel
theorem dX1_clear_0 : decode cX1_clear 0 = .ok (.aload_n 0, 1) := by decide +kernel
theorem dX1_clear_1 : decode cX1_clear 1 = .ok (.iconst 0, 1) := by decide +kernel
theorem dX1_clear_2 : decode cX1_clear 2 = .ok (.invokevirtual 33, 3) := by decide +kernel
theorem dX1_clear_5 : decode cX1_clear 5 = .ok (.aload_n 0, 1) := by decide +kernel
theorem dX1_clear_6 : decode cX1_clear 6 = .ok (.iconst 0, 1) := by decide +kernel
theorem dX1_clear_7 : decode cX1_clear 7 = .ok (.putfield 36, 3) := by decide +kernel
theorem dX1_clear_10 : decode cX1_clear 10 = .ok (.return_, 1) := by decide +kernel
theorem dX1_shorten_0 : decode cX1_shorten 0 = .ok (.aload_n 0, 1) := by decide +kernel
theorem dX1_shorten_1 : decode cX1_shorten 1 = .ok (.getfield 14, 3) := by decide +kernel
theorem dX1_shorten_4 : decode cX1_shorten 4 = .ok (.iload_n 1, 1) := by decide +kernel
theorem dX1_shorten_5 : decode cX1_shorten 5 = .ok (.invokevirtual 40, 3) := by decide +kernel
theorem dX1_shorten_8 : decode cX1_shorten 8 = .ok (.aload_n 0, 1) := by decide +kernel
theorem dX1_shorten_9 : decode cX1_shorten 9 = .ok (.getfield 20, 3) := by decide +kernel
theorem dX1_shorten_12 : decode cX1_shorten 12 = .ok (.iload_n 1, 1) := by decide +kernel
theorem dX1_shorten_13 : decode cX1_shorten 13 = .ok (.invokevirtual 40, 3) := by decide +kernel
theorem dX1_shorten_16 : decode cX1_shorten 16 = .ok (.aload_n 0, 1) := by decide +kernel
theorem dX1_shorten_17 : decode cX1_shorten 17 = .ok (.getfield 23, 3) := by decide +kernel
theorem dX1_shorten_20 : decode cX1_shorten 20 = .ok (.iload_n 1, 1) := by decide +kernel
theorem dX1_shorten_21 : decode cX1_shorten 21 = .ok (.invokevirtual 40, 3) := by decide +kernel
theorem dX1_shorten_24 : decode cX1_shorten 24 = .ok (.aload_n 0, 1) := by decide +kernel
theorem dX1_shorten_25 : decode cX1_shorten 25 = .ok (.getfield 26, 3) := by decide +kernel
theorem dX1_shorten_28 : decode cX1_shorten 28 = .ok (.iload_n 1, 1) := by decide +kernel
theorem dX1_shorten_29 : decode cX1_shorten 29 = .ok (.invokevirtual 40, 3) := by decide +kernel
theorem dX1_shorten_32 : decode cX1_shorten 32 = .ok (.return_, 1) := by decide +kernel
theorem dX1_note_0 : decode cX1_note 0 = .ok (.aload_n 0, 1) := by decide +kernel
theorem dX1_note_1 : decode cX1_note 1 = .ok (.dup, 1) := by decide +kernel
theorem dX1_note_2 : decode cX1_note 2 = .ok (.getfield 36, 3) := by decide +kernel
theorem dX1_note_5 : decode cX1_note 5 = .ok (.iconst 1, 1) := by decide +kernel
theorem dX1_note_6 : decode cX1_note 6 = .ok (.iadd, 1) := by decide +kernel
theorem dX1_note_7 : decode cX1_note 7 = .ok (.putfield 36, 3) := by decide +kernel
theorem dX1_note_10 : decode cX1_note 10 = .ok (.aload_n 0, 1) := by decide +kernel
theorem dX1_note_11 : decode cX1_note 11 = .ok (.getfield 14, 3) := by decide +kernel
theorem dX1_note_14 : decode cX1_note 14 = .ok (.iload_n 1, 1) := by decide +kernel
theorem dX1_note_15 : decode cX1_note 15 = .ok (.invokevirtual 41, 3) := by decide +kernel
theorem dX1_note_18 : decode cX1_note 18 = .ok (.istore 5, 2) := by decide +kernel
theorem dX1_note_20 : decode cX1_note 20 = .ok (.iload 5, 2) := by decide +kernel
theorem dX1_note_22 : decode cX1_note 22 = .ok (.bipush 100, 2) := by decide +kernel
theorem dX1_note_24 : decode cX1_note 24 = .ok (.if_icmp .lt 4, 3) := by decide +kernel
theorem dX1_note_27 : decode cX1_note 27 = .ok (.return_, 1) := by decide +kernel
theorem dX1_note_28 : decode cX1_note 28 = .ok (.aload_n 0, 1) := by decide +kernel
theorem dX1_note_29 : decode cX1_note 29 = .ok (.bipush 99, 2) := by decide +kernel
theorem dX1_note_31 : decode cX1_note 31 = .ok (.invokevirtual 33, 3) := by decide +kernel
theorem dX1_note_34 : decode cX1_note 34 = .ok (.aload_n 0, 1) := by decide +kernel
theorem dX1_note_35 : decode cX1_note 35 = .ok (.getfield 14, 3) := by decide +kernel
theorem dX1_note_38 : decode cX1_note 38 = .ok (.iload 5, 2) := by decide +kernel
theorem dX1_note_40 : decode cX1_note 40 = .ok (.iload_n 1, 1) := by decide +kernel
theorem dX1_note_41 : decode cX1_note 41 = .ok (.invokevirtual 45, 3) := by decide +kernel
theorem dX1_note_44 : decode cX1_note 44 = .ok (.aload_n 0, 1) := by decide +kernel
theorem dX1_note_45 : decode cX1_note 45 = .ok (.getfield 20, 3) := by decide +kernel
theorem dX1_note_48 : decode cX1_note 48 = .ok (.iload 5, 2) := by decide +kernel
theorem dX1_note_50 : decode cX1_note 50 = .ok (.iload_n 2, 1) := by decide +kernel
theorem dX1_note_51 : decode cX1_note 51 = .ok (.invokevirtual 45, 3) := by decide +kernel
theorem dX1_note_54 : decode cX1_note 54 = .ok (.aload_n 0, 1) := by decide +kernel
theorem dX1_note_55 : decode cX1_note 55 = .ok (.getfield 23, 3) := by decide +kernel
theorem dX1_note_58 : decode cX1_note 58 = .ok (.iload 5, 2) := by decide +kernel
theorem dX1_note_60 : decode cX1_note 60 = .ok (.iload_n 3, 1) := by decide +kernel
theorem dX1_note_61 : decode cX1_note 61 = .ok (.invokevirtual 45, 3) := by decide +kernel
theorem dX1_note_64 : decode cX1_note 64 = .ok (.aload_n 0, 1) := by decide +kernel
theorem dX1_note_65 : decode cX1_note 65 = .ok (.getfield 26, 3) := by decide +kernel
theorem dX1_note_68 : decode cX1_note 68 = .ok (.iload 5, 2) := by decide +kernel
theorem dX1_note_70 : decode cX1_note 70 = .ok (.iload 4, 2) := by decide +kernel
theorem dX1_note_72 : decode cX1_note 72 = .ok (.invokevirtual 45, 3) := by decide +kernel
theorem dX1_note_75 : decode cX1_note 75 = .ok (.return_, 1) := by decide +kernel
theorem dX1_fact_0 : decode cX1_fact 0 = .ok (.iload_n 2, 1) := by decide +kernel
theorem dX1_fact_1 : decode cX1_fact 1 = .ok (.tableswitch 54 0 2 #[27, 36, 45], 27) := by decide +kernel
theorem dX1_fact_28 : decode cX1_fact 28 = .ok (.aload_n 0, 1) := by decide +kernel
theorem dX1_fact_29 : decode cX1_fact 29 = .ok (.getfield 14, 3) := by decide +kernel
theorem dX1_fact_32 : decode cX1_fact 32 = .ok (.iload_n 1, 1) := by decide +kernel
theorem dX1_fact_33 : decode cX1_fact 33 = .ok (.invokevirtual 49, 3) := by decide +kernel
theorem dX1_fact_36 : decode cX1_fact 36 = .ok (.ireturn, 1) := by decide +kernel
theorem dX1_fact_37 : decode cX1_fact 37 = .ok (.aload_n 0, 1) := by decide +kernel
theorem dX1_fact_38 : decode cX1_fact 38 = .ok (.getfield 20, 3) := by decide +kernel
theorem dX1_fact_41 : decode cX1_fact 41 = .ok (.iload_n 1, 1) := by decide +kernel
theorem dX1_fact_42 : decode cX1_fact 42 = .ok (.invokevirtual 49, 3) := by decide +kernel
theorem dX1_fact_45 : decode cX1_fact 45 = .ok (.ireturn, 1) := by decide +kernel
theorem dX1_fact_46 : decode cX1_fact 46 = .ok (.aload_n 0, 1) := by decide +kernel
theorem dX1_fact_47 : decode cX1_fact 47 = .ok (.getfield 23, 3) := by decide +kernel
theorem dX1_fact_50 : decode cX1_fact 50 = .ok (.iload_n 1, 1) := by decide +kernel
theorem dX1_fact_51 : decode cX1_fact 51 = .ok (.invokevirtual 49, 3) := by decide +kernel
theorem dX1_fact_54 : decode cX1_fact 54 = .ok (.ireturn, 1) := by decide +kernel
theorem dX1_fact_55 : decode cX1_fact 55 = .ok (.aload_n 0, 1) := by decide +kernel
theorem dX1_fact_56 : decode cX1_fact 56 = .ok (.getfield 26, 3) := by decide +kernel
theorem dX1_fact_59 : decode cX1_fact 59 = .ok (.iload_n 1, 1) := by decide +kernel
theorem dX1_fact_60 : decode cX1_fact 60 = .ok (.invokevirtual 49, 3) := by decide +kernel
theorem dX1_fact_63 : decode cX1_fact 63 = .ok (.ireturn, 1) := by decide +kernel
theorem dX2_init_0 : decode cX2_init 0 = .ok (.aload_n 0, 1) := by decide +kernel
theorem dX2_init_1 : decode cX2_init 1 = .ok (.invokespecial 1, 3) := by decide +kernel
theorem dX2_init_4 : decode cX2_init 4 = .ok (.aload_n 0, 1) := by decide +kernel
theorem dX2_init_5 : decode cX2_init 5 = .ok (.iload_n 1, 1) := by decide +kernel
theorem dX2_init_6 : decode cX2_init 6 = .ok (.ifCond .le 7, 3) := by decide +kernel
theorem dX2_init_9 : decode cX2_init 9 = .ok (.iload_n 1, 1) := by decide +kernel
theorem dX2_init_10 : decode cX2_init 10 = .ok (.goto 4, 3) := by decide +kernel
theorem dX2_init_13 : decode cX2_init 13 = .ok (.iconst 0, 1) := by decide +kernel
theorem dX2_init_14 : decode cX2_init 14 = .ok (.newarray .int, 2) := by decide +kernel
theorem dX2_init_16 : decode cX2_init 16 = .ok (.putfield 7, 3) := by decide +kernel
theorem dX2_init_19 : decode cX2_init 19 = .ok (.return_, 1) := by decide +kernel
theorem dX2_size_0 : decode cX2_size 0 = .ok (.aload_n 0, 1) := by decide +kernel
theorem dX2_size_1 : decode cX2_size 1 = .ok (.getfield 13, 3) := by decide +kernel
theorem dX2_size_4 : decode cX2_size 4 = .ok (.ireturn, 1) := by decide +kernel
theorem dX2_isCell_0 : decode cX2_isCell 0 = .ok (.iload_n 1, 1) := by decide +kernel
theorem dX2_isCell_1 : decode cX2_isCell 1 = .ok (.ifCond .lt 24, 3) := by decide +kernel
theorem dX2_isCell_4 : decode cX2_isCell 4 = .ok (.iload_n 1, 1) := by decide +kernel
theorem dX2_isCell_5 : decode cX2_isCell 5 = .ok (.aload_n 0, 1) := by decide +kernel
theorem dX2_isCell_6 : decode cX2_isCell 6 = .ok (.getfield 13, 3) := by decide +kernel
theorem dX2_isCell_9 : decode cX2_isCell 9 = .ok (.if_icmp .ge 16, 3) := by decide +kernel
theorem dX2_isCell_12 : decode cX2_isCell 12 = .ok (.iload_n 1, 1) := by decide +kernel
theorem dX2_isCell_13 : decode cX2_isCell 13 = .ok (.aload_n 0, 1) := by decide +kernel
theorem dX2_isCell_14 : decode cX2_isCell 14 = .ok (.getfield 7, 3) := by decide +kernel
theorem dX2_isCell_17 : decode cX2_isCell 17 = .ok (.arraylength, 1) := by decide +kernel
theorem dX2_isCell_18 : decode cX2_isCell 18 = .ok (.if_icmp .ge 7, 3) := by decide +kernel
theorem dX2_isCell_21 : decode cX2_isCell 21 = .ok (.iconst 1, 1) := by decide +kernel
theorem dX2_isCell_22 : decode cX2_isCell 22 = .ok (.goto 4, 3) := by decide +kernel
theorem dX2_isCell_25 : decode cX2_isCell 25 = .ok (.iconst 0, 1) := by decide +kernel
theorem dX2_isCell_26 : decode cX2_isCell 26 = .ok (.ireturn, 1) := by decide +kernel
theorem dX2_get_0 : decode cX2_get 0 = .ok (.aload_n 0, 1) := by decide +kernel
theorem dX2_get_1 : decode cX2_get 1 = .ok (.iload_n 1, 1) := by decide +kernel
theorem dX2_get_2 : decode cX2_get 2 = .ok (.invokevirtual 17, 3) := by decide +kernel
theorem dX2_get_5 : decode cX2_get 5 = .ok (.ifCond .eq 12, 3) := by decide +kernel
theorem dX2_get_8 : decode cX2_get 8 = .ok (.aload_n 0, 1) := by decide +kernel
theorem dX2_get_9 : decode cX2_get 9 = .ok (.getfield 7, 3) := by decide +kernel
theorem dX2_get_12 : decode cX2_get 12 = .ok (.iload_n 1, 1) := by decide +kernel
theorem dX2_get_13 : decode cX2_get 13 = .ok (.iaload, 1) := by decide +kernel
theorem dX2_get_14 : decode cX2_get 14 = .ok (.goto 4, 3) := by decide +kernel
theorem dX2_get_17 : decode cX2_get 17 = .ok (.iconst 0, 1) := by decide +kernel
theorem dX2_get_18 : decode cX2_get 18 = .ok (.ireturn, 1) := by decide +kernel
theorem dX2_set_0 : decode cX2_set 0 = .ok (.aload_n 0, 1) := by decide +kernel
theorem dX2_set_1 : decode cX2_set 1 = .ok (.iload_n 1, 1) := by decide +kernel
theorem dX2_set_2 : decode cX2_set 2 = .ok (.invokevirtual 17, 3) := by decide +kernel
theorem dX2_set_5 : decode cX2_set 5 = .ok (.ifCond .eq 10, 3) := by decide +kernel
theorem dX2_set_8 : decode cX2_set 8 = .ok (.aload_n 0, 1) := by decide +kernel
theorem dX2_set_9 : decode cX2_set 9 = .ok (.getfield 7, 3) := by decide +kernel
theorem dX2_set_12 : decode cX2_set 12 = .ok (.iload_n 1, 1) := by decide +kernel
theorem dX2_set_13 : decode cX2_set 13 = .ok (.iload_n 2, 1) := by decide +kernel
theorem dX2_set_14 : decode cX2_set 14 = .ok (.iastore, 1) := by decide +kernel
theorem dX2_set_15 : decode cX2_set 15 = .ok (.return_, 1) := by decide +kernel
theorem dX2_append_0 : decode cX2_append 0 = .ok (.aload_n 0, 1) := by decide +kernel
theorem dX2_append_1 : decode cX2_append 1 = .ok (.aload_n 0, 1) := by decide +kernel
theorem dX2_append_2 : decode cX2_append 2 = .ok (.getfield 13, 3) := by decide +kernel
theorem dX2_append_5 : decode cX2_append 5 = .ok (.iload_n 1, 1) := by decide +kernel
theorem dX2_append_6 : decode cX2_append 6 = .ok (.invokevirtual 21, 3) := by decide +kernel
theorem dX2_append_9 : decode cX2_append 9 = .ok (.return_, 1) := by decide +kernel
theorem dX2_insert_0 : decode cX2_insert 0 = .ok (.iload_n 1, 1) := by decide +kernel
theorem dX2_insert_1 : decode cX2_insert 1 = .ok (.ifCond .lt 23, 3) := by decide +kernel
theorem dX2_insert_4 : decode cX2_insert 4 = .ok (.iload_n 1, 1) := by decide +kernel
theorem dX2_insert_5 : decode cX2_insert 5 = .ok (.aload_n 0, 1) := by decide +kernel
theorem dX2_insert_6 : decode cX2_insert 6 = .ok (.getfield 13, 3) := by decide +kernel
theorem dX2_insert_9 : decode cX2_insert 9 = .ok (.if_icmp .gt 15, 3) := by decide +kernel
theorem dX2_insert_12 : decode cX2_insert 12 = .ok (.aload_n 0, 1) := by decide +kernel
theorem dX2_insert_13 : decode cX2_insert 13 = .ok (.getfield 13, 3) := by decide +kernel
theorem dX2_insert_16 : decode cX2_insert 16 = .ok (.aload_n 0, 1) := by decide +kernel
theorem dX2_insert_17 : decode cX2_insert 17 = .ok (.getfield 7, 3) := by decide +kernel
theorem dX2_insert_20 : decode cX2_insert 20 = .ok (.arraylength, 1) := by decide +kernel
theorem dX2_insert_21 : decode cX2_insert 21 = .ok (.if_icmp .lt 4, 3) := by decide +kernel
theorem dX2_insert_24 : decode cX2_insert 24 = .ok (.return_, 1) := by decide +kernel
theorem dX2_insert_25 : decode cX2_insert 25 = .ok (.aload_n 0, 1) := by decide +kernel
theorem dX2_insert_26 : decode cX2_insert 26 = .ok (.getfield 13, 3) := by decide +kernel
theorem dX2_insert_29 : decode cX2_insert 29 = .ok (.istore_n 3, 1) := by decide +kernel
theorem dX2_insert_30 : decode cX2_insert 30 = .ok (.iload_n 3, 1) := by decide +kernel
theorem dX2_insert_31 : decode cX2_insert 31 = .ok (.iload_n 1, 1) := by decide +kernel
theorem dX2_insert_32 : decode cX2_insert 32 = .ok (.if_icmp .le 23, 3) := by decide +kernel
theorem dX2_insert_35 : decode cX2_insert 35 = .ok (.aload_n 0, 1) := by decide +kernel
theorem dX2_insert_36 : decode cX2_insert 36 = .ok (.getfield 7, 3) := by decide +kernel
theorem dX2_insert_39 : decode cX2_insert 39 = .ok (.iload_n 3, 1) := by decide +kernel
theorem dX2_insert_40 : decode cX2_insert 40 = .ok (.aload_n 0, 1) := by decide +kernel
theorem dX2_insert_41 : decode cX2_insert 41 = .ok (.getfield 7, 3) := by decide +kernel
theorem dX2_insert_44 : decode cX2_insert 44 = .ok (.iload_n 3, 1) := by decide +kernel
theorem dX2_insert_45 : decode cX2_insert 45 = .ok (.iconst 1, 1) := by decide +kernel
theorem dX2_insert_46 : decode cX2_insert 46 = .ok (.isub, 1) := by decide +kernel
theorem dX2_insert_47 : decode cX2_insert 47 = .ok (.iaload, 1) := by decide +kernel
theorem dX2_insert_48 : decode cX2_insert 48 = .ok (.iastore, 1) := by decide +kernel
theorem dX2_insert_49 : decode cX2_insert 49 = .ok (.iinc 3 (-1), 3) := by decide +kernel
theorem dX2_insert_52 : decode cX2_insert 52 = .ok (.goto (-22), 3) := by decide +kernel
theorem dX2_insert_55 : decode cX2_insert 55 = .ok (.aload_n 0, 1) := by decide +kernel
theorem dX2_insert_56 : decode cX2_insert 56 = .ok (.getfield 7, 3) := by decide +kernel
theorem dX2_insert_59 : decode cX2_insert 59 = .ok (.iload_n 1, 1) := by decide +kernel
theorem dX2_insert_60 : decode cX2_insert 60 = .ok (.iload_n 2, 1) := by decide +kernel
theorem dX2_insert_61 : decode cX2_insert 61 = .ok (.iastore, 1) := by decide +kernel
theorem dX2_insert_62 : decode cX2_insert 62 = .ok (.aload_n 0, 1) := by decide +kernel
theorem dX2_insert_63 : decode cX2_insert 63 = .ok (.dup, 1) := by decide +kernel
theorem dX2_insert_64 : decode cX2_insert 64 = .ok (.getfield 13, 3) := by decide +kernel
theorem dX2_insert_67 : decode cX2_insert 67 = .ok (.iconst 1, 1) := by decide +kernel
theorem dX2_insert_68 : decode cX2_insert 68 = .ok (.iadd, 1) := by decide +kernel
theorem dX2_insert_69 : decode cX2_insert 69 = .ok (.putfield 13, 3) := by decide +kernel
theorem dX2_insert_72 : decode cX2_insert 72 = .ok (.return_, 1) := by decide +kernel
theorem dX2_delete_0 : decode cX2_delete 0 = .ok (.aload_n 0, 1) := by decide +kernel
theorem dX2_delete_1 : decode cX2_delete 1 = .ok (.iload_n 1, 1) := by decide +kernel
theorem dX2_delete_2 : decode cX2_delete 2 = .ok (.invokevirtual 17, 3) := by decide +kernel
theorem dX2_delete_5 : decode cX2_delete 5 = .ok (.ifCond .ne 4, 3) := by decide +kernel
theorem dX2_delete_8 : decode cX2_delete 8 = .ok (.return_, 1) := by decide +kernel
theorem dX2_delete_9 : decode cX2_delete 9 = .ok (.iload_n 1, 1) := by decide +kernel
theorem dX2_delete_10 : decode cX2_delete 10 = .ok (.iconst 1, 1) := by decide +kernel
theorem dX2_delete_11 : decode cX2_delete 11 = .ok (.iadd, 1) := by decide +kernel
theorem dX2_delete_12 : decode cX2_delete 12 = .ok (.istore_n 2, 1) := by decide +kernel
theorem dX2_delete_13 : decode cX2_delete 13 = .ok (.iload_n 2, 1) := by decide +kernel
theorem dX2_delete_14 : decode cX2_delete 14 = .ok (.aload_n 0, 1) := by decide +kernel
theorem dX2_delete_15 : decode cX2_delete 15 = .ok (.getfield 13, 3) := by decide +kernel
theorem dX2_delete_18 : decode cX2_delete 18 = .ok (.if_icmp .ge 32, 3) := by decide +kernel
theorem dX2_delete_21 : decode cX2_delete 21 = .ok (.iload_n 2, 1) := by decide +kernel
theorem dX2_delete_22 : decode cX2_delete 22 = .ok (.aload_n 0, 1) := by decide +kernel
theorem dX2_delete_23 : decode cX2_delete 23 = .ok (.getfield 7, 3) := by decide +kernel
theorem dX2_delete_26 : decode cX2_delete 26 = .ok (.arraylength, 1) := by decide +kernel
theorem dX2_delete_27 : decode cX2_delete 27 = .ok (.if_icmp .ge 23, 3) := by decide +kernel
theorem dX2_delete_30 : decode cX2_delete 30 = .ok (.aload_n 0, 1) := by decide +kernel
theorem dX2_delete_31 : decode cX2_delete 31 = .ok (.getfield 7, 3) := by decide +kernel
theorem dX2_delete_34 : decode cX2_delete 34 = .ok (.iload_n 2, 1) := by decide +kernel
theorem dX2_delete_35 : decode cX2_delete 35 = .ok (.iconst 1, 1) := by decide +kernel
theorem dX2_delete_36 : decode cX2_delete 36 = .ok (.isub, 1) := by decide +kernel
theorem dX2_delete_37 : decode cX2_delete 37 = .ok (.aload_n 0, 1) := by decide +kernel
theorem dX2_delete_38 : decode cX2_delete 38 = .ok (.getfield 7, 3) := by decide +kernel
theorem dX2_delete_41 : decode cX2_delete 41 = .ok (.iload_n 2, 1) := by decide +kernel
theorem dX2_delete_42 : decode cX2_delete 42 = .ok (.iaload, 1) := by decide +kernel
theorem dX2_delete_43 : decode cX2_delete 43 = .ok (.iastore, 1) := by decide +kernel
theorem dX2_delete_44 : decode cX2_delete 44 = .ok (.iinc 2 1, 3) := by decide +kernel
theorem dX2_delete_47 : decode cX2_delete 47 = .ok (.goto (-34), 3) := by decide +kernel
theorem dX2_delete_50 : decode cX2_delete 50 = .ok (.aload_n 0, 1) := by decide +kernel
theorem dX2_delete_51 : decode cX2_delete 51 = .ok (.dup, 1) := by decide +kernel
theorem dX2_delete_52 : decode cX2_delete 52 = .ok (.getfield 13, 3) := by decide +kernel
theorem dX2_delete_55 : decode cX2_delete 55 = .ok (.iconst 1, 1) := by decide +kernel
theorem dX2_delete_56 : decode cX2_delete 56 = .ok (.isub, 1) := by decide +kernel
theorem dX2_delete_57 : decode cX2_delete 57 = .ok (.putfield 13, 3) := by decide +kernel
theorem dX2_delete_60 : decode cX2_delete 60 = .ok (.return_, 1) := by decide +kernel
theorem dX2_shorten_0 : decode cX2_shorten 0 = .ok (.iload_n 1, 1) := by decide +kernel
theorem dX2_shorten_1 : decode cX2_shorten 1 = .ok (.ifCond .lt 16, 3) := by decide +kernel
theorem dX2_shorten_4 : decode cX2_shorten 4 = .ok (.iload_n 1, 1) := by decide +kernel
theorem dX2_shorten_5 : decode cX2_shorten 5 = .ok (.aload_n 0, 1) := by decide +kernel
theorem dX2_shorten_6 : decode cX2_shorten 6 = .ok (.getfield 13, 3) := by decide +kernel
theorem dX2_shorten_9 : decode cX2_shorten 9 = .ok (.if_icmp .ge 8, 3) := by decide +kernel
theorem dX2_shorten_12 : decode cX2_shorten 12 = .ok (.aload_n 0, 1) := by decide +kernel
theorem dX2_shorten_13 : decode cX2_shorten 13 = .ok (.iload_n 1, 1) := by decide +kernel
theorem dX2_shorten_14 : decode cX2_shorten 14 = .ok (.putfield 13, 3) := by decide +kernel
theorem dX2_shorten_17 : decode cX2_shorten 17 = .ok (.return_, 1) := by decide +kernel
theorem dX2_reverse_0 : decode cX2_reverse 0 = .ok (.iconst 0, 1) := by decide +kernel
theorem dX2_reverse_1 : decode cX2_reverse 1 = .ok (.istore_n 1, 1) := by decide +kernel
theorem dX2_reverse_2 : decode cX2_reverse 2 = .ok (.iload_n 1, 1) := by decide +kernel
theorem dX2_reverse_3 : decode cX2_reverse 3 = .ok (.aload_n 0, 1) := by decide +kernel
theorem dX2_reverse_4 : decode cX2_reverse 4 = .ok (.getfield 13, 3) := by decide +kernel
theorem dX2_reverse_7 : decode cX2_reverse 7 = .ok (.iconst 2, 1) := by decide +kernel
theorem dX2_reverse_8 : decode cX2_reverse 8 = .ok (.idiv, 1) := by decide +kernel
theorem dX2_reverse_9 : decode cX2_reverse 9 = .ok (.if_icmp .ge 45, 3) := by decide +kernel
theorem dX2_reverse_12 : decode cX2_reverse 12 = .ok (.aload_n 0, 1) := by decide +kernel
theorem dX2_reverse_13 : decode cX2_reverse 13 = .ok (.iload_n 1, 1) := by decide +kernel
theorem dX2_reverse_14 : decode cX2_reverse 14 = .ok (.invokevirtual 25, 3) := by decide +kernel
theorem dX2_reverse_17 : decode cX2_reverse 17 = .ok (.istore_n 2, 1) := by decide +kernel
theorem dX2_reverse_18 : decode cX2_reverse 18 = .ok (.aload_n 0, 1) := by decide +kernel
theorem dX2_reverse_19 : decode cX2_reverse 19 = .ok (.iload_n 1, 1) := by decide +kernel
theorem dX2_reverse_20 : decode cX2_reverse 20 = .ok (.aload_n 0, 1) := by decide +kernel
theorem dX2_reverse_21 : decode cX2_reverse 21 = .ok (.aload_n 0, 1) := by decide +kernel
theorem dX2_reverse_22 : decode cX2_reverse 22 = .ok (.getfield 13, 3) := by decide +kernel
theorem dX2_reverse_25 : decode cX2_reverse 25 = .ok (.iconst 1, 1) := by decide +kernel
theorem dX2_reverse_26 : decode cX2_reverse 26 = .ok (.isub, 1) := by decide +kernel
theorem dX2_reverse_27 : decode cX2_reverse 27 = .ok (.iload_n 1, 1) := by decide +kernel
theorem dX2_reverse_28 : decode cX2_reverse 28 = .ok (.isub, 1) := by decide +kernel
theorem dX2_reverse_29 : decode cX2_reverse 29 = .ok (.invokevirtual 25, 3) := by decide +kernel
theorem dX2_reverse_32 : decode cX2_reverse 32 = .ok (.invokevirtual 29, 3) := by decide +kernel
theorem dX2_reverse_35 : decode cX2_reverse 35 = .ok (.aload_n 0, 1) := by decide +kernel
theorem dX2_reverse_36 : decode cX2_reverse 36 = .ok (.aload_n 0, 1) := by decide +kernel
theorem dX2_reverse_37 : decode cX2_reverse 37 = .ok (.getfield 13, 3) := by decide +kernel
theorem dX2_reverse_40 : decode cX2_reverse 40 = .ok (.iconst 1, 1) := by decide +kernel
theorem dX2_reverse_41 : decode cX2_reverse 41 = .ok (.isub, 1) := by decide +kernel
theorem dX2_reverse_42 : decode cX2_reverse 42 = .ok (.iload_n 1, 1) := by decide +kernel
theorem dX2_reverse_43 : decode cX2_reverse 43 = .ok (.isub, 1) := by decide +kernel
theorem dX2_reverse_44 : decode cX2_reverse 44 = .ok (.iload_n 2, 1) := by decide +kernel
theorem dX2_reverse_45 : decode cX2_reverse 45 = .ok (.invokevirtual 29, 3) := by decide +kernel
theorem dX2_reverse_48 : decode cX2_reverse 48 = .ok (.iinc 1 1, 3) := by decide +kernel
theorem dX2_reverse_51 : decode cX2_reverse 51 = .ok (.goto (-49), 3) := by decide +kernel
theorem dX2_reverse_54 : decode cX2_reverse 54 = .ok (.return_, 1) := by decide +kernel
theorem dX2_countUpTo_0 : decode cX2_countUpTo 0 = .ok (.aload_n 0, 1) := by decide +kernel
theorem dX2_countUpTo_1 : decode cX2_countUpTo 1 = .ok (.getfield 13, 3) := by decide +kernel
theorem dX2_countUpTo_4 : decode cX2_countUpTo 4 = .ok (.istore_n 2, 1) := by decide +kernel
theorem dX2_countUpTo_5 : decode cX2_countUpTo 5 = .ok (.iload_n 2, 1) := by decide +kernel
theorem dX2_countUpTo_6 : decode cX2_countUpTo 6 = .ok (.ifCond .le 20, 3) := by decide +kernel
theorem dX2_countUpTo_9 : decode cX2_countUpTo 9 = .ok (.aload_n 0, 1) := by decide +kernel
theorem dX2_countUpTo_10 : decode cX2_countUpTo 10 = .ok (.iload_n 2, 1) := by decide +kernel
theorem dX2_countUpTo_11 : decode cX2_countUpTo 11 = .ok (.iconst 1, 1) := by decide +kernel
theorem dX2_countUpTo_12 : decode cX2_countUpTo 12 = .ok (.isub, 1) := by decide +kernel
theorem dX2_countUpTo_13 : decode cX2_countUpTo 13 = .ok (.invokevirtual 25, 3) := by decide +kernel
theorem dX2_countUpTo_16 : decode cX2_countUpTo 16 = .ok (.iload_n 1, 1) := by decide +kernel
theorem dX2_countUpTo_17 : decode cX2_countUpTo 17 = .ok (.if_icmp .le 9, 3) := by decide +kernel
theorem dX2_countUpTo_20 : decode cX2_countUpTo 20 = .ok (.iinc 2 (-1), 3) := by decide +kernel
theorem dX2_countUpTo_23 : decode cX2_countUpTo 23 = .ok (.goto (-18), 3) := by decide +kernel
theorem dX2_countUpTo_26 : decode cX2_countUpTo 26 = .ok (.iload_n 2, 1) := by decide +kernel
theorem dX2_countUpTo_27 : decode cX2_countUpTo 27 = .ok (.ireturn, 1) := by decide +kernel
theorem dX2_mirrorTimes_0 : decode cX2_mirrorTimes 0 = .ok (.iconst 0, 1) := by decide +kernel
theorem dX2_mirrorTimes_1 : decode cX2_mirrorTimes 1 = .ok (.istore_n 2, 1) := by decide +kernel
theorem dX2_mirrorTimes_2 : decode cX2_mirrorTimes 2 = .ok (.iload_n 2, 1) := by decide +kernel
theorem dX2_mirrorTimes_3 : decode cX2_mirrorTimes 3 = .ok (.aload_n 0, 1) := by decide +kernel
theorem dX2_mirrorTimes_4 : decode cX2_mirrorTimes 4 = .ok (.getfield 13, 3) := by decide +kernel
theorem dX2_mirrorTimes_7 : decode cX2_mirrorTimes 7 = .ok (.if_icmp .ge 21, 3) := by decide +kernel
theorem dX2_mirrorTimes_10 : decode cX2_mirrorTimes 10 = .ok (.aload_n 0, 1) := by decide +kernel
theorem dX2_mirrorTimes_11 : decode cX2_mirrorTimes 11 = .ok (.iload_n 2, 1) := by decide +kernel
theorem dX2_mirrorTimes_12 : decode cX2_mirrorTimes 12 = .ok (.iload_n 1, 1) := by decide +kernel
theorem dX2_mirrorTimes_13 : decode cX2_mirrorTimes 13 = .ok (.aload_n 0, 1) := by decide +kernel
theorem dX2_mirrorTimes_14 : decode cX2_mirrorTimes 14 = .ok (.iload_n 2, 1) := by decide +kernel
theorem dX2_mirrorTimes_15 : decode cX2_mirrorTimes 15 = .ok (.invokevirtual 25, 3) := by decide +kernel
theorem dX2_mirrorTimes_18 : decode cX2_mirrorTimes 18 = .ok (.isub, 1) := by decide +kernel
theorem dX2_mirrorTimes_19 : decode cX2_mirrorTimes 19 = .ok (.invokevirtual 29, 3) := by decide +kernel
theorem dX2_mirrorTimes_22 : decode cX2_mirrorTimes 22 = .ok (.iinc 2 1, 3) := by decide +kernel
theorem dX2_mirrorTimes_25 : decode cX2_mirrorTimes 25 = .ok (.goto (-23), 3) := by decide +kernel
theorem dX2_mirrorTimes_28 : decode cX2_mirrorTimes 28 = .ok (.aload_n 0, 1) := by decide +kernel
theorem dX2_mirrorTimes_29 : decode cX2_mirrorTimes 29 = .ok (.invokevirtual 32, 3) := by decide +kernel
theorem dX2_mirrorTimes_32 : decode cX2_mirrorTimes 32 = .ok (.return_, 1) := by decide +kernel
theorem dX3_init_0 : decode cX3_init 0 = .ok (.aload_n 0, 1) := by decide +kernel
theorem dX3_init_1 : decode cX3_init 1 = .ok (.invokespecial 3, 3) := by decide +kernel
theorem dX3_init_4 : decode cX3_init 4 = .ok (.aload_n 0, 1) := by decide +kernel
theorem dX3_init_5 : decode cX3_init 5 = .ok (.iconst 1, 1) := by decide +kernel
theorem dX3_init_6 : decode cX3_init 6 = .ok (.putfield 9, 3) := by decide +kernel
theorem dX3_init_9 : decode cX3_init 9 = .ok (.aload_n 0, 1) := by decide +kernel
theorem dX3_init_10 : decode cX3_init 10 = .ok (.iconst 1, 1) := by decide +kernel
theorem dX3_init_11 : decode cX3_init 11 = .ok (.putfield 15, 3) := by decide +kernel
theorem dX3_init_14 : decode cX3_init 14 = .ok (.aload_n 0, 1) := by decide +kernel
theorem dX3_init_15 : decode cX3_init 15 = .ok (.bipush 100, 2) := by decide +kernel
theorem dX3_init_17 : decode cX3_init 17 = .ok (.putfield 18, 3) := by decide +kernel
theorem dX3_init_20 : decode cX3_init 20 = .ok (.aload_n 0, 1) := by decide +kernel
theorem dX3_init_21 : decode cX3_init 21 = .ok (.aload_n 1, 1) := by decide +kernel
theorem dX3_init_22 : decode cX3_init 22 = .ok (.putfield 21, 3) := by decide +kernel
theorem dX3_init_25 : decode cX3_init 25 = .ok (.aload_n 0, 1) := by decide +kernel
theorem dX3_init_26 : decode cX3_init 26 = .ok (.iload_n 2, 1) := by decide +kernel
theorem dX3_init_27 : decode cX3_init 27 = .ok (.putfield 25, 3) := by decide +kernel
theorem dX3_init_30 : decode cX3_init 30 = .ok (.aload_n 0, 1) := by decide +kernel
theorem dX3_init_31 : decode cX3_init 31 = .ok (.iload_n 3, 1) := by decide +kernel
theorem dX3_init_32 : decode cX3_init 32 = .ok (.putfield 28, 3) := by decide +kernel
theorem dX3_init_35 : decode cX3_init 35 = .ok (.aload_n 0, 1) := by decide +kernel
theorem dX3_init_36 : decode cX3_init 36 = .ok (.iload 4, 2) := by decide +kernel
theorem dX3_init_38 : decode cX3_init 38 = .ok (.putfield 31, 3) := by decide +kernel
theorem dX3_init_41 : decode cX3_init 41 = .ok (.aload_n 0, 1) := by decide +kernel
theorem dX3_init_42 : decode cX3_init 42 = .ok (.iload 5, 2) := by decide +kernel
theorem dX3_init_44 : decode cX3_init 44 = .ok (.putfield 34, 3) := by decide +kernel
theorem dX3_init_47 : decode cX3_init 47 = .ok (.return_, 1) := by decide +kernel
theorem dX3_ticks_0 : decode cX3_ticks 0 = .ok (.aload_n 0, 1) := by decide +kernel
theorem dX3_ticks_1 : decode cX3_ticks 1 = .ok (.getfield 21, 3) := by decide +kernel
theorem dX3_ticks_4 : decode cX3_ticks 4 = .ok (.getfield 57, 3) := by decide +kernel
theorem dX3_ticks_7 : decode cX3_ticks 7 = .ok (.aload_n 0, 1) := by decide +kernel
theorem dX3_ticks_8 : decode cX3_ticks 8 = .ok (.getfield 31, 3) := by decide +kernel
theorem dX3_ticks_11 : decode cX3_ticks 11 = .ok (.imul, 1) := by decide +kernel
theorem dX3_ticks_12 : decode cX3_ticks 12 = .ok (.ireturn, 1) := by decide +kernel
theorem dX3_timeOfTick_0 : decode cX3_timeOfTick 0 = .ok (.aload_n 0, 1) := by decide +kernel
theorem dX3_timeOfTick_1 : decode cX3_timeOfTick 1 = .ok (.getfield 28, 3) := by decide +kernel
theorem dX3_timeOfTick_4 : decode cX3_timeOfTick 4 = .ok (.iload_n 1, 1) := by decide +kernel
theorem dX3_timeOfTick_5 : decode cX3_timeOfTick 5 = .ok (.aload_n 0, 1) := by decide +kernel
theorem dX3_timeOfTick_6 : decode cX3_timeOfTick 6 = .ok (.getfield 15, 3) := by decide +kernel
theorem dX3_timeOfTick_9 : decode cX3_timeOfTick 9 = .ok (.imul, 1) := by decide +kernel
theorem dX3_timeOfTick_10 : decode cX3_timeOfTick 10 = .ok (.aload_n 0, 1) := by decide +kernel
theorem dX3_timeOfTick_11 : decode cX3_timeOfTick 11 = .ok (.getfield 9, 3) := by decide +kernel
theorem dX3_timeOfTick_14 : decode cX3_timeOfTick 14 = .ok (.invokestatic 62, 3) := by decide +kernel
theorem dX3_timeOfTick_17 : decode cX3_timeOfTick 17 = .ok (.iadd, 1) := by decide +kernel
theorem dX3_timeOfTick_18 : decode cX3_timeOfTick 18 = .ok (.ireturn, 1) := by decide +kernel
theorem dX3_endTime_0 : decode cX3_endTime 0 = .ok (.aload_n 0, 1) := by decide +kernel
theorem dX3_endTime_1 : decode cX3_endTime 1 = .ok (.aload_n 0, 1) := by decide +kernel
theorem dX3_endTime_2 : decode cX3_endTime 2 = .ok (.invokevirtual 66, 3) := by decide +kernel
theorem dX3_endTime_5 : decode cX3_endTime 5 = .ok (.invokevirtual 69, 3) := by decide +kernel
theorem dX3_endTime_8 : decode cX3_endTime 8 = .ok (.ireturn, 1) := by decide +kernel
theorem dX3_isOn_0 : decode cX3_isOn 0 = .ok (.iload_n 1, 1) := by decide +kernel
theorem dX3_isOn_1 : decode cX3_isOn 1 = .ok (.aload_n 0, 1) := by decide +kernel
theorem dX3_isOn_2 : decode cX3_isOn 2 = .ok (.getfield 28, 3) := by decide +kernel
theorem dX3_isOn_5 : decode cX3_isOn 5 = .ok (.if_icmp .lt 22, 3) := by decide +kernel
theorem dX3_isOn_8 : decode cX3_isOn 8 = .ok (.aload_n 0, 1) := by decide +kernel
theorem dX3_isOn_9 : decode cX3_isOn 9 = .ok (.getfield 48, 3) := by decide +kernel
theorem dX3_isOn_12 : decode cX3_isOn 12 = .ok (.ifCond .ne 11, 3) := by decide +kernel
theorem dX3_isOn_15 : decode cX3_isOn 15 = .ok (.iload_n 1, 1) := by decide +kernel
theorem dX3_isOn_16 : decode cX3_isOn 16 = .ok (.aload_n 0, 1) := by decide +kernel
theorem dX3_isOn_17 : decode cX3_isOn 17 = .ok (.invokevirtual 37, 3) := by decide +kernel
theorem dX3_isOn_20 : decode cX3_isOn 20 = .ok (.if_icmp .ge 7, 3) := by decide +kernel
theorem dX3_isOn_23 : decode cX3_isOn 23 = .ok (.iconst 1, 1) := by decide +kernel
theorem dX3_isOn_24 : decode cX3_isOn 24 = .ok (.goto 4, 3) := by decide +kernel
theorem dX3_isOn_27 : decode cX3_isOn 27 = .ok (.iconst 0, 1) := by decide +kernel
theorem dX3_isOn_28 : decode cX3_isOn 28 = .ok (.ireturn, 1) := by decide +kernel
theorem dX3_isBackwards_0 : decode cX3_isBackwards 0 = .ok (.aload_n 0, 1) := by decide +kernel
theorem dX3_isBackwards_1 : decode cX3_isBackwards 1 = .ok (.getfield 34, 3) := by decide +kernel
theorem dX3_isBackwards_4 : decode cX3_isBackwards 4 = .ok (.iconst 1, 1) := by decide +kernel
theorem dX3_isBackwards_5 : decode cX3_isBackwards 5 = .ok (.if_icmp .eq 18, 3) := by decide +kernel
theorem dX3_isBackwards_8 : decode cX3_isBackwards 8 = .ok (.aload_n 0, 1) := by decide +kernel
theorem dX3_isBackwards_9 : decode cX3_isBackwards 9 = .ok (.getfield 34, 3) := by decide +kernel
theorem dX3_isBackwards_12 : decode cX3_isBackwards 12 = .ok (.iconst 2, 1) := by decide +kernel
theorem dX3_isBackwards_13 : decode cX3_isBackwards 13 = .ok (.if_icmp .ne 14, 3) := by decide +kernel
theorem dX3_isBackwards_16 : decode cX3_isBackwards 16 = .ok (.iload_n 1, 1) := by decide +kernel
theorem dX3_isBackwards_17 : decode cX3_isBackwards 17 = .ok (.iconst 2, 1) := by decide +kernel
theorem dX3_isBackwards_18 : decode cX3_isBackwards 18 = .ok (.irem, 1) := by decide +kernel
theorem dX3_isBackwards_19 : decode cX3_isBackwards 19 = .ok (.iconst 1, 1) := by decide +kernel
theorem dX3_isBackwards_20 : decode cX3_isBackwards 20 = .ok (.if_icmp .ne 7, 3) := by decide +kernel
theorem dX3_isBackwards_23 : decode cX3_isBackwards 23 = .ok (.iconst 1, 1) := by decide +kernel
theorem dX3_isBackwards_24 : decode cX3_isBackwards 24 = .ok (.goto 4, 3) := by decide +kernel
theorem dX3_isBackwards_27 : decode cX3_isBackwards 27 = .ok (.iconst 0, 1) := by decide +kernel
theorem dX3_isBackwards_28 : decode cX3_isBackwards 28 = .ok (.ireturn, 1) := by decide +kernel
theorem dX3_localTime_0 : decode cX3_localTime 0 = .ok (.iload_n 1, 1) := by decide +kernel
theorem dX3_localTime_1 : decode cX3_localTime 1 = .ok (.aload_n 0, 1) := by decide +kernel
theorem dX3_localTime_2 : decode cX3_localTime 2 = .ok (.getfield 28, 3) := by decide +kernel
theorem dX3_localTime_5 : decode cX3_localTime 5 = .ok (.isub, 1) := by decide +kernel
theorem dX3_localTime_6 : decode cX3_localTime 6 = .ok (.aload_n 0, 1) := by decide +kernel
theorem dX3_localTime_7 : decode cX3_localTime 7 = .ok (.getfield 9, 3) := by decide +kernel
theorem dX3_localTime_10 : decode cX3_localTime 10 = .ok (.imul, 1) := by decide +kernel
theorem dX3_localTime_11 : decode cX3_localTime 11 = .ok (.aload_n 0, 1) := by decide +kernel
theorem dX3_localTime_12 : decode cX3_localTime 12 = .ok (.getfield 15, 3) := by decide +kernel
theorem dX3_localTime_15 : decode cX3_localTime 15 = .ok (.invokestatic 73, 3) := by decide +kernel
theorem dX3_localTime_18 : decode cX3_localTime 18 = .ok (.aload_n 0, 1) := by decide +kernel
theorem dX3_localTime_19 : decode cX3_localTime 19 = .ok (.invokevirtual 66, 3) := by decide +kernel
theorem dX3_localTime_22 : decode cX3_localTime 22 = .ok (.invokestatic 76, 3) := by decide +kernel
theorem dX3_localTime_25 : decode cX3_localTime 25 = .ok (.istore_n 2, 1) := by decide +kernel
theorem dX3_localTime_26 : decode cX3_localTime 26 = .ok (.iload_n 2, 1) := by decide +kernel
theorem dX3_localTime_27 : decode cX3_localTime 27 = .ok (.aload_n 0, 1) := by decide +kernel
theorem dX3_localTime_28 : decode cX3_localTime 28 = .ok (.getfield 21, 3) := by decide +kernel
theorem dX3_localTime_31 : decode cX3_localTime 31 = .ok (.getfield 57, 3) := by decide +kernel
theorem dX3_localTime_34 : decode cX3_localTime 34 = .ok (.invokestatic 73, 3) := by decide +kernel
theorem dX3_localTime_37 : decode cX3_localTime 37 = .ok (.aload_n 0, 1) := by decide +kernel
theorem dX3_localTime_38 : decode cX3_localTime 38 = .ok (.getfield 31, 3) := by decide +kernel
theorem dX3_localTime_41 : decode cX3_localTime 41 = .ok (.iconst 1, 1) := by decide +kernel
theorem dX3_localTime_42 : decode cX3_localTime 42 = .ok (.isub, 1) := by decide +kernel
theorem dX3_localTime_43 : decode cX3_localTime 43 = .ok (.invokestatic 76, 3) := by decide +kernel
theorem dX3_localTime_46 : decode cX3_localTime 46 = .ok (.istore_n 3, 1) := by decide +kernel
theorem dX3_localTime_47 : decode cX3_localTime 47 = .ok (.iload_n 2, 1) := by decide +kernel
theorem dX3_localTime_48 : decode cX3_localTime 48 = .ok (.iload_n 3, 1) := by decide +kernel
theorem dX3_localTime_49 : decode cX3_localTime 49 = .ok (.aload_n 0, 1) := by decide +kernel
theorem dX3_localTime_50 : decode cX3_localTime 50 = .ok (.getfield 21, 3) := by decide +kernel
theorem dX3_localTime_53 : decode cX3_localTime 53 = .ok (.getfield 57, 3) := by decide +kernel
theorem dX3_localTime_56 : decode cX3_localTime 56 = .ok (.imul, 1) := by decide +kernel
theorem dX3_localTime_57 : decode cX3_localTime 57 = .ok (.isub, 1) := by decide +kernel
theorem dX3_localTime_58 : decode cX3_localTime 58 = .ok (.istore 4, 2) := by decide +kernel
theorem dX3_localTime_60 : decode cX3_localTime 60 = .ok (.aload_n 0, 1) := by decide +kernel
theorem dX3_localTime_61 : decode cX3_localTime 61 = .ok (.iload_n 3, 1) := by decide +kernel
theorem dX3_localTime_62 : decode cX3_localTime 62 = .ok (.invokevirtual 81, 3) := by decide +kernel
theorem dX3_localTime_65 : decode cX3_localTime 65 = .ok (.ifCond .eq 16, 3) := by decide +kernel
theorem dX3_localTime_68 : decode cX3_localTime 68 = .ok (.aload_n 0, 1) := by decide +kernel
theorem dX3_localTime_69 : decode cX3_localTime 69 = .ok (.getfield 21, 3) := by decide +kernel
theorem dX3_localTime_72 : decode cX3_localTime 72 = .ok (.getfield 57, 3) := by decide +kernel
theorem dX3_localTime_75 : decode cX3_localTime 75 = .ok (.iload 4, 2) := by decide +kernel
theorem dX3_localTime_77 : decode cX3_localTime 77 = .ok (.isub, 1) := by decide +kernel
theorem dX3_localTime_78 : decode cX3_localTime 78 = .ok (.goto 5, 3) := by decide +kernel
theorem dX3_localTime_81 : decode cX3_localTime 81 = .ok (.iload 4, 2) := by decide +kernel
theorem dX3_localTime_83 : decode cX3_localTime 83 = .ok (.ireturn, 1) := by decide +kernel
theorem dX3_strength_0 : decode cX3_strength 0 = .ok (.aload_n 0, 1) := by decide +kernel
theorem dX3_strength_1 : decode cX3_strength 1 = .ok (.getfield 18, 3) := by decide +kernel
theorem dX3_strength_4 : decode cX3_strength 4 = .ok (.istore_n 2, 1) := by decide +kernel
theorem dX3_strength_5 : decode cX3_strength 5 = .ok (.iload_n 1, 1) := by decide +kernel
theorem dX3_strength_6 : decode cX3_strength 6 = .ok (.aload_n 0, 1) := by decide +kernel
theorem dX3_strength_7 : decode cX3_strength 7 = .ok (.getfield 28, 3) := by decide +kernel
theorem dX3_strength_10 : decode cX3_strength 10 = .ok (.isub, 1) := by decide +kernel
theorem dX3_strength_11 : decode cX3_strength 11 = .ok (.istore_n 3, 1) := by decide +kernel
theorem dX3_strength_12 : decode cX3_strength 12 = .ok (.iload_n 3, 1) := by decide +kernel
theorem dX3_strength_13 : decode cX3_strength 13 = .ok (.aload_n 0, 1) := by decide +kernel
theorem dX3_strength_14 : decode cX3_strength 14 = .ok (.getfield 51, 3) := by decide +kernel
theorem dX3_strength_17 : decode cX3_strength 17 = .ok (.if_icmp .ge 23, 3) := by decide +kernel
theorem dX3_strength_20 : decode cX3_strength 20 = .ok (.iload_n 2, 1) := by decide +kernel
theorem dX3_strength_21 : decode cX3_strength 21 = .ok (.aload_n 0, 1) := by decide +kernel
theorem dX3_strength_22 : decode cX3_strength 22 = .ok (.getfield 18, 3) := by decide +kernel
theorem dX3_strength_25 : decode cX3_strength 25 = .ok (.iload_n 3, 1) := by decide +kernel
theorem dX3_strength_26 : decode cX3_strength 26 = .ok (.imul, 1) := by decide +kernel
theorem dX3_strength_27 : decode cX3_strength 27 = .ok (.i2l, 1) := by decide +kernel
theorem dX3_strength_28 : decode cX3_strength 28 = .ok (.aload_n 0, 1) := by decide +kernel
theorem dX3_strength_29 : decode cX3_strength 29 = .ok (.getfield 51, 3) := by decide +kernel
theorem dX3_strength_32 : decode cX3_strength 32 = .ok (.i2l, 1) := by decide +kernel
theorem dX3_strength_33 : decode cX3_strength 33 = .ok (.invokestatic 85, 3) := by decide +kernel
theorem dX3_strength_36 : decode cX3_strength 36 = .ok (.invokestatic 76, 3) := by decide +kernel
theorem dX3_strength_39 : decode cX3_strength 39 = .ok (.istore_n 2, 1) := by decide +kernel
theorem dX3_strength_40 : decode cX3_strength 40 = .ok (.aload_n 0, 1) := by decide +kernel
theorem dX3_strength_41 : decode cX3_strength 41 = .ok (.invokevirtual 37, 3) := by decide +kernel
theorem dX3_strength_44 : decode cX3_strength 44 = .ok (.iload_n 1, 1) := by decide +kernel
theorem dX3_strength_45 : decode cX3_strength 45 = .ok (.isub, 1) := by decide +kernel
theorem dX3_strength_46 : decode cX3_strength 46 = .ok (.istore 4, 2) := by decide +kernel
theorem dX3_strength_48 : decode cX3_strength 48 = .ok (.aload_n 0, 1) := by decide +kernel
theorem dX3_strength_49 : decode cX3_strength 49 = .ok (.getfield 48, 3) := by decide +kernel
theorem dX3_strength_52 : decode cX3_strength 52 = .ok (.ifCond .ne 33, 3) := by decide +kernel
theorem dX3_strength_55 : decode cX3_strength 55 = .ok (.iload 4, 2) := by decide +kernel
theorem dX3_strength_57 : decode cX3_strength 57 = .ok (.aload_n 0, 1) := by decide +kernel
theorem dX3_strength_58 : decode cX3_strength 58 = .ok (.getfield 54, 3) := by decide +kernel
theorem dX3_strength_61 : decode cX3_strength 61 = .ok (.if_icmp .ge 24, 3) := by decide +kernel
theorem dX3_strength_64 : decode cX3_strength 64 = .ok (.iload_n 2, 1) := by decide +kernel
theorem dX3_strength_65 : decode cX3_strength 65 = .ok (.aload_n 0, 1) := by decide +kernel
theorem dX3_strength_66 : decode cX3_strength 66 = .ok (.getfield 18, 3) := by decide +kernel
theorem dX3_strength_69 : decode cX3_strength 69 = .ok (.iload 4, 2) := by decide +kernel
theorem dX3_strength_71 : decode cX3_strength 71 = .ok (.imul, 1) := by decide +kernel
theorem dX3_strength_72 : decode cX3_strength 72 = .ok (.i2l, 1) := by decide +kernel
theorem dX3_strength_73 : decode cX3_strength 73 = .ok (.aload_n 0, 1) := by decide +kernel
theorem dX3_strength_74 : decode cX3_strength 74 = .ok (.getfield 54, 3) := by decide +kernel
theorem dX3_strength_77 : decode cX3_strength 77 = .ok (.i2l, 1) := by decide +kernel
theorem dX3_strength_78 : decode cX3_strength 78 = .ok (.invokestatic 85, 3) := by decide +kernel
theorem dX3_strength_81 : decode cX3_strength 81 = .ok (.invokestatic 76, 3) := by decide +kernel
theorem dX3_strength_84 : decode cX3_strength 84 = .ok (.istore_n 2, 1) := by decide +kernel
theorem dX3_strength_85 : decode cX3_strength 85 = .ok (.iload_n 2, 1) := by decide +kernel
theorem dX3_strength_86 : decode cX3_strength 86 = .ok (.ireturn, 1) := by decide +kernel
theorem dX3_blended_0 : decode cX3_blended 0 = .ok (.aload_n 0, 1) := by decide +kernel
theorem dX3_blended_1 : decode cX3_blended 1 = .ok (.getfield 21, 3) := by decide +kernel
theorem dX3_blended_4 : decode cX3_blended 4 = .ok (.iload_n 2, 1) := by decide +kernel
theorem dX3_blended_5 : decode cX3_blended 5 = .ok (.invokevirtual 89, 3) := by decide +kernel
theorem dX3_blended_8 : decode cX3_blended 8 = .ok (.astore 4, 2) := by decide +kernel
theorem dX3_blended_10 : decode cX3_blended 10 = .ok (.aload 4, 2) := by decide +kernel
theorem dX3_blended_12 : decode cX3_blended 12 = .ok (.ifnull 19, 3) := by decide +kernel
theorem dX3_blended_15 : decode cX3_blended 15 = .ok (.aload 4, 2) := by decide +kernel
theorem dX3_blended_17 : decode cX3_blended 17 = .ok (.invokevirtual 93, 3) := by decide +kernel
theorem dX3_blended_20 : decode cX3_blended 20 = .ok (.ifCond .eq 11, 3) := by decide +kernel
theorem dX3_blended_23 : decode cX3_blended 23 = .ok (.aload_n 0, 1) := by decide +kernel
theorem dX3_blended_24 : decode cX3_blended 24 = .ok (.iload_n 3, 1) := by decide +kernel
theorem dX3_blended_25 : decode cX3_blended 25 = .ok (.invokevirtual 98, 3) := by decide +kernel
theorem dX3_blended_28 : decode cX3_blended 28 = .ok (.ifCond .ne 5, 3) := by decide +kernel
theorem dX3_blended_31 : decode cX3_blended 31 = .ok (.iload_n 1, 1) := by decide +kernel
theorem dX3_blended_32 : decode cX3_blended 32 = .ok (.ireturn, 1) := by decide +kernel
theorem dX3_blended_33 : decode cX3_blended 33 = .ok (.aload 4, 2) := by decide +kernel
theorem dX3_blended_35 : decode cX3_blended 35 = .ok (.aload_n 0, 1) := by decide +kernel
theorem dX3_blended_36 : decode cX3_blended 36 = .ok (.iload_n 3, 1) := by decide +kernel
theorem dX3_blended_37 : decode cX3_blended 37 = .ok (.invokevirtual 101, 3) := by decide +kernel
theorem dX3_blended_40 : decode cX3_blended 40 = .ok (.invokevirtual 104, 3) := by decide +kernel
theorem dX3_blended_43 : decode cX3_blended 43 = .ok (.istore 5, 2) := by decide +kernel
theorem dX3_blended_45 : decode cX3_blended 45 = .ok (.aload_n 0, 1) := by decide +kernel
theorem dX3_blended_46 : decode cX3_blended 46 = .ok (.getfield 44, 3) := by decide +kernel
theorem dX3_blended_49 : decode cX3_blended 49 = .ok (.ifCond .eq 8, 3) := by decide +kernel
theorem dX3_blended_52 : decode cX3_blended 52 = .ok (.iload 5, 2) := by decide +kernel
theorem dX3_blended_54 : decode cX3_blended 54 = .ok (.goto 7, 3) := by decide +kernel
theorem dX3_blended_57 : decode cX3_blended 57 = .ok (.iload 5, 2) := by decide +kernel
theorem dX3_blended_59 : decode cX3_blended 59 = .ok (.iload_n 1, 1) := by decide +kernel
theorem dX3_blended_60 : decode cX3_blended 60 = .ok (.isub, 1) := by decide +kernel
theorem dX3_blended_61 : decode cX3_blended 61 = .ok (.istore 6, 2) := by decide +kernel
theorem dX3_blended_63 : decode cX3_blended 63 = .ok (.iload_n 1, 1) := by decide +kernel
theorem dX3_blended_64 : decode cX3_blended 64 = .ok (.iload 6, 2) := by decide +kernel
theorem dX3_blended_66 : decode cX3_blended 66 = .ok (.i2l, 1) := by decide +kernel
theorem dX3_blended_67 : decode cX3_blended 67 = .ok (.aload_n 0, 1) := by decide +kernel
theorem dX3_blended_68 : decode cX3_blended 68 = .ok (.iload_n 3, 1) := by decide +kernel
theorem dX3_blended_69 : decode cX3_blended 69 = .ok (.invokevirtual 107, 3) := by decide +kernel
theorem dX3_blended_72 : decode cX3_blended 72 = .ok (.i2l, 1) := by decide +kernel
theorem dX3_blended_73 : decode cX3_blended 73 = .ok (.lmul, 1) := by decide +kernel
theorem dX3_blended_74 : decode cX3_blended 74 = .ok (.ldc2_w 110, 3) := by decide +kernel
theorem dX3_blended_77 : decode cX3_blended 77 = .ok (.invokestatic 85, 3) := by decide +kernel
theorem dX3_blended_80 : decode cX3_blended 80 = .ok (.iadd, 1) := by decide +kernel
theorem dX3_blended_81 : decode cX3_blended 81 = .ok (.ireturn, 1) := by decide +kernel
theorem dX3_meetingTime_0 : decode cX3_meetingTime 0 = .ok (.aload_n 0, 1) := by decide +kernel
theorem dX3_meetingTime_1 : decode cX3_meetingTime 1 = .ok (.iload_n 1, 1) := by decide +kernel
theorem dX3_meetingTime_2 : decode cX3_meetingTime 2 = .ok (.invokevirtual 81, 3) := by decide +kernel
theorem dX3_meetingTime_5 : decode cX3_meetingTime 5 = .ok (.ifCond .eq 15, 3) := by decide +kernel
theorem dX3_meetingTime_8 : decode cX3_meetingTime 8 = .ok (.aload_n 0, 1) := by decide +kernel
theorem dX3_meetingTime_9 : decode cX3_meetingTime 9 = .ok (.getfield 21, 3) := by decide +kernel
theorem dX3_meetingTime_12 : decode cX3_meetingTime 12 = .ok (.getfield 57, 3) := by decide +kernel
theorem dX3_meetingTime_15 : decode cX3_meetingTime 15 = .ok (.iload_n 2, 1) := by decide +kernel
theorem dX3_meetingTime_16 : decode cX3_meetingTime 16 = .ok (.isub, 1) := by decide +kernel
theorem dX3_meetingTime_17 : decode cX3_meetingTime 17 = .ok (.goto 4, 3) := by decide +kernel
theorem dX3_meetingTime_20 : decode cX3_meetingTime 20 = .ok (.iload_n 2, 1) := by decide +kernel
theorem dX3_meetingTime_21 : decode cX3_meetingTime 21 = .ok (.istore_n 3, 1) := by decide +kernel
theorem dX3_meetingTime_22 : decode cX3_meetingTime 22 = .ok (.aload_n 0, 1) := by decide +kernel
theorem dX3_meetingTime_23 : decode cX3_meetingTime 23 = .ok (.iload_n 1, 1) := by decide +kernel
theorem dX3_meetingTime_24 : decode cX3_meetingTime 24 = .ok (.aload_n 0, 1) := by decide +kernel
theorem dX3_meetingTime_25 : decode cX3_meetingTime 25 = .ok (.getfield 21, 3) := by decide +kernel
theorem dX3_meetingTime_28 : decode cX3_meetingTime 28 = .ok (.getfield 57, 3) := by decide +kernel
theorem dX3_meetingTime_31 : decode cX3_meetingTime 31 = .ok (.imul, 1) := by decide +kernel
theorem dX3_meetingTime_32 : decode cX3_meetingTime 32 = .ok (.iload_n 3, 1) := by decide +kernel
theorem dX3_meetingTime_33 : decode cX3_meetingTime 33 = .ok (.iadd, 1) := by decide +kernel
theorem dX3_meetingTime_34 : decode cX3_meetingTime 34 = .ok (.invokevirtual 69, 3) := by decide +kernel
theorem dX3_meetingTime_37 : decode cX3_meetingTime 37 = .ok (.ireturn, 1) := by decide +kernel
theorem dX4_init_0 : decode cX4_init 0 = .ok (.aload_n 0, 1) := by decide +kernel
theorem dX4_init_1 : decode cX4_init 1 = .ok (.invokespecial 3, 3) := by decide +kernel
theorem dX4_init_4 : decode cX4_init 4 = .ok (.aload_n 0, 1) := by decide +kernel
theorem dX4_init_5 : decode cX4_init 5 = .ok (.new 9, 3) := by decide +kernel
theorem dX4_init_8 : decode cX4_init 8 = .ok (.dup, 1) := by decide +kernel
theorem dX4_init_9 : decode cX4_init 9 = .ok (.bipush 16, 2) := by decide +kernel
theorem dX4_init_11 : decode cX4_init 11 = .ok (.invokespecial 11, 3) := by decide +kernel
theorem dX4_init_14 : decode cX4_init 14 = .ok (.putfield 14, 3) := by decide +kernel
theorem dX4_init_17 : decode cX4_init 17 = .ok (.aload_n 0, 1) := by decide +kernel
theorem dX4_init_18 : decode cX4_init 18 = .ok (.new 9, 3) := by decide +kernel
theorem dX4_init_21 : decode cX4_init 21 = .ok (.dup, 1) := by decide +kernel
theorem dX4_init_22 : decode cX4_init 22 = .ok (.bipush 16, 2) := by decide +kernel
theorem dX4_init_24 : decode cX4_init 24 = .ok (.invokespecial 11, 3) := by decide +kernel
theorem dX4_init_27 : decode cX4_init 27 = .ok (.putfield 20, 3) := by decide +kernel
theorem dX4_init_30 : decode cX4_init 30 = .ok (.aload_n 0, 1) := by decide +kernel
theorem dX4_init_31 : decode cX4_init 31 = .ok (.new 9, 3) := by decide +kernel
theorem dX4_init_34 : decode cX4_init 34 = .ok (.dup, 1) := by decide +kernel
theorem dX4_init_35 : decode cX4_init 35 = .ok (.bipush 16, 2) := by decide +kernel
theorem dX4_init_37 : decode cX4_init 37 = .ok (.invokespecial 11, 3) := by decide +kernel
theorem dX4_init_40 : decode cX4_init 40 = .ok (.putfield 23, 3) := by decide +kernel
theorem dX4_init_43 : decode cX4_init 43 = .ok (.return_, 1) := by decide +kernel
theorem dX4_count_0 : decode cX4_count 0 = .ok (.aload_n 0, 1) := by decide +kernel
theorem dX4_count_1 : decode cX4_count 1 = .ok (.getfield 14, 3) := by decide +kernel
theorem dX4_count_4 : decode cX4_count 4 = .ok (.invokevirtual 26, 3) := by decide +kernel
theorem dX4_count_7 : decode cX4_count 7 = .ok (.ireturn, 1) := by decide +kernel
theorem dX4_fact_0 : decode cX4_fact 0 = .ok (.iload_n 2, 1) := by decide +kernel
theorem dX4_fact_1 : decode cX4_fact 1 = .ok (.lookupswitch 45 #[(0, 27), (1, 36)], 27) := by decide +kernel
theorem dX4_fact_28 : decode cX4_fact 28 = .ok (.aload_n 0, 1) := by decide +kernel
theorem dX4_fact_29 : decode cX4_fact 29 = .ok (.getfield 14, 3) := by decide +kernel
theorem dX4_fact_32 : decode cX4_fact 32 = .ok (.iload_n 1, 1) := by decide +kernel
theorem dX4_fact_33 : decode cX4_fact 33 = .ok (.invokevirtual 30, 3) := by decide +kernel
theorem dX4_fact_36 : decode cX4_fact 36 = .ok (.ireturn, 1) := by decide +kernel
theorem dX4_fact_37 : decode cX4_fact 37 = .ok (.aload_n 0, 1) := by decide +kernel
theorem dX4_fact_38 : decode cX4_fact 38 = .ok (.getfield 20, 3) := by decide +kernel
theorem dX4_fact_41 : decode cX4_fact 41 = .ok (.iload_n 1, 1) := by decide +kernel
theorem dX4_fact_42 : decode cX4_fact 42 = .ok (.invokevirtual 30, 3) := by decide +kernel
theorem dX4_fact_45 : decode cX4_fact 45 = .ok (.ireturn, 1) := by decide +kernel
theorem dX4_fact_46 : decode cX4_fact 46 = .ok (.aload_n 0, 1) := by decide +kernel
theorem dX4_fact_47 : decode cX4_fact 47 = .ok (.getfield 23, 3) := by decide +kernel
theorem dX4_fact_50 : decode cX4_fact 50 = .ok (.iload_n 1, 1) := by decide +kernel
theorem dX4_fact_51 : decode cX4_fact 51 = .ok (.invokevirtual 30, 3) := by decide +kernel
theorem dX4_fact_54 : decode cX4_fact 54 = .ok (.ireturn, 1) := by decide +kernel
theorem dX4_hasKeyAt_0 : decode cX4_hasKeyAt 0 = .ok (.aload_n 0, 1) := by decide +kernel
theorem dX4_hasKeyAt_1 : decode cX4_hasKeyAt 1 = .ok (.getfield 14, 3) := by decide +kernel
theorem dX4_hasKeyAt_4 : decode cX4_hasKeyAt 4 = .ok (.iload_n 1, 1) := by decide +kernel
theorem dX4_hasKeyAt_5 : decode cX4_hasKeyAt 5 = .ok (.invokevirtual 34, 3) := by decide +kernel
theorem dX4_hasKeyAt_8 : decode cX4_hasKeyAt 8 = .ok (.istore_n 2, 1) := by decide +kernel
theorem dX4_hasKeyAt_9 : decode cX4_hasKeyAt 9 = .ok (.iload_n 2, 1) := by decide +kernel
theorem dX4_hasKeyAt_10 : decode cX4_hasKeyAt 10 = .ok (.ifCond .le 21, 3) := by decide +kernel
theorem dX4_hasKeyAt_13 : decode cX4_hasKeyAt 13 = .ok (.aload_n 0, 1) := by decide +kernel
theorem dX4_hasKeyAt_14 : decode cX4_hasKeyAt 14 = .ok (.getfield 14, 3) := by decide +kernel
theorem dX4_hasKeyAt_17 : decode cX4_hasKeyAt 17 = .ok (.iload_n 2, 1) := by decide +kernel
theorem dX4_hasKeyAt_18 : decode cX4_hasKeyAt 18 = .ok (.iconst 1, 1) := by decide +kernel
theorem dX4_hasKeyAt_19 : decode cX4_hasKeyAt 19 = .ok (.isub, 1) := by decide +kernel
theorem dX4_hasKeyAt_20 : decode cX4_hasKeyAt 20 = .ok (.invokevirtual 30, 3) := by decide +kernel
theorem dX4_hasKeyAt_23 : decode cX4_hasKeyAt 23 = .ok (.iload_n 1, 1) := by decide +kernel
theorem dX4_hasKeyAt_24 : decode cX4_hasKeyAt 24 = .ok (.if_icmp .ne 7, 3) := by decide +kernel
theorem dX4_hasKeyAt_27 : decode cX4_hasKeyAt 27 = .ok (.iconst 1, 1) := by decide +kernel
theorem dX4_hasKeyAt_28 : decode cX4_hasKeyAt 28 = .ok (.goto 4, 3) := by decide +kernel
theorem dX4_hasKeyAt_31 : decode cX4_hasKeyAt 31 = .ok (.iconst 0, 1) := by decide +kernel
theorem dX4_hasKeyAt_32 : decode cX4_hasKeyAt 32 = .ok (.ireturn, 1) := by decide +kernel
theorem dX4_lay_0 : decode cX4_lay 0 = .ok (.aload_n 0, 1) := by decide +kernel
theorem dX4_lay_1 : decode cX4_lay 1 = .ok (.getfield 14, 3) := by decide +kernel
theorem dX4_lay_4 : decode cX4_lay 4 = .ok (.iload_n 1, 1) := by decide +kernel
theorem dX4_lay_5 : decode cX4_lay 5 = .ok (.invokevirtual 34, 3) := by decide +kernel
theorem dX4_lay_8 : decode cX4_lay 8 = .ok (.istore 4, 2) := by decide +kernel
theorem dX4_lay_10 : decode cX4_lay 10 = .ok (.aload_n 0, 1) := by decide +kernel
theorem dX4_lay_11 : decode cX4_lay 11 = .ok (.iload_n 1, 1) := by decide +kernel
theorem dX4_lay_12 : decode cX4_lay 12 = .ok (.invokevirtual 37, 3) := by decide +kernel
theorem dX4_lay_15 : decode cX4_lay 15 = .ok (.ifCond .eq 28, 3) := by decide +kernel
theorem dX4_lay_18 : decode cX4_lay 18 = .ok (.aload_n 0, 1) := by decide +kernel
theorem dX4_lay_19 : decode cX4_lay 19 = .ok (.getfield 20, 3) := by decide +kernel
theorem dX4_lay_22 : decode cX4_lay 22 = .ok (.iload 4, 2) := by decide +kernel
theorem dX4_lay_24 : decode cX4_lay 24 = .ok (.iconst 1, 1) := by decide +kernel
theorem dX4_lay_25 : decode cX4_lay 25 = .ok (.isub, 1) := by decide +kernel
theorem dX4_lay_26 : decode cX4_lay 26 = .ok (.iload_n 2, 1) := by decide +kernel
theorem dX4_lay_27 : decode cX4_lay 27 = .ok (.invokevirtual 41, 3) := by decide +kernel
theorem dX4_lay_30 : decode cX4_lay 30 = .ok (.aload_n 0, 1) := by decide +kernel
theorem dX4_lay_31 : decode cX4_lay 31 = .ok (.getfield 23, 3) := by decide +kernel
theorem dX4_lay_34 : decode cX4_lay 34 = .ok (.iload 4, 2) := by decide +kernel
theorem dX4_lay_36 : decode cX4_lay 36 = .ok (.iconst 1, 1) := by decide +kernel
theorem dX4_lay_37 : decode cX4_lay 37 = .ok (.isub, 1) := by decide +kernel
theorem dX4_lay_38 : decode cX4_lay 38 = .ok (.iload_n 3, 1) := by decide +kernel
theorem dX4_lay_39 : decode cX4_lay 39 = .ok (.invokevirtual 41, 3) := by decide +kernel
theorem dX4_lay_42 : decode cX4_lay 42 = .ok (.return_, 1) := by decide +kernel
theorem dX4_lay_43 : decode cX4_lay 43 = .ok (.aload_n 0, 1) := by decide +kernel
theorem dX4_lay_44 : decode cX4_lay 44 = .ok (.getfield 14, 3) := by decide +kernel
theorem dX4_lay_47 : decode cX4_lay 47 = .ok (.iload 4, 2) := by decide +kernel
theorem dX4_lay_49 : decode cX4_lay 49 = .ok (.iload_n 1, 1) := by decide +kernel
theorem dX4_lay_50 : decode cX4_lay 50 = .ok (.invokevirtual 45, 3) := by decide +kernel
theorem dX4_lay_53 : decode cX4_lay 53 = .ok (.aload_n 0, 1) := by decide +kernel
theorem dX4_lay_54 : decode cX4_lay 54 = .ok (.getfield 20, 3) := by decide +kernel
theorem dX4_lay_57 : decode cX4_lay 57 = .ok (.iload 4, 2) := by decide +kernel
theorem dX4_lay_59 : decode cX4_lay 59 = .ok (.iload_n 2, 1) := by decide +kernel
theorem dX4_lay_60 : decode cX4_lay 60 = .ok (.invokevirtual 45, 3) := by decide +kernel
theorem dX4_lay_63 : decode cX4_lay 63 = .ok (.aload_n 0, 1) := by decide +kernel
theorem dX4_lay_64 : decode cX4_lay 64 = .ok (.getfield 23, 3) := by decide +kernel
theorem dX4_lay_67 : decode cX4_lay 67 = .ok (.iload 4, 2) := by decide +kernel
theorem dX4_lay_69 : decode cX4_lay 69 = .ok (.iload_n 3, 1) := by decide +kernel
theorem dX4_lay_70 : decode cX4_lay 70 = .ok (.invokevirtual 45, 3) := by decide +kernel
theorem dX4_lay_73 : decode cX4_lay 73 = .ok (.return_, 1) := by decide +kernel
theorem dX4_valueAt_0 : decode cX4_valueAt 0 = .ok (.aload_n 0, 1) := by decide +kernel
theorem dX4_valueAt_1 : decode cX4_valueAt 1 = .ok (.getfield 14, 3) := by decide +kernel
theorem dX4_valueAt_4 : decode cX4_valueAt 4 = .ok (.invokevirtual 26, 3) := by decide +kernel
theorem dX4_valueAt_7 : decode cX4_valueAt 7 = .ok (.istore_n 2, 1) := by decide +kernel
theorem dX4_valueAt_8 : decode cX4_valueAt 8 = .ok (.aload_n 0, 1) := by decide +kernel
theorem dX4_valueAt_9 : decode cX4_valueAt 9 = .ok (.getfield 14, 3) := by decide +kernel
theorem dX4_valueAt_12 : decode cX4_valueAt 12 = .ok (.iload_n 1, 1) := by decide +kernel
theorem dX4_valueAt_13 : decode cX4_valueAt 13 = .ok (.invokevirtual 34, 3) := by decide +kernel
theorem dX4_valueAt_16 : decode cX4_valueAt 16 = .ok (.istore_n 3, 1) := by decide +kernel
theorem dX4_valueAt_17 : decode cX4_valueAt 17 = .ok (.iload_n 3, 1) := by decide +kernel
theorem dX4_valueAt_18 : decode cX4_valueAt 18 = .ok (.ifCond .ne 12, 3) := by decide +kernel
theorem dX4_valueAt_21 : decode cX4_valueAt 21 = .ok (.aload_n 0, 1) := by decide +kernel
theorem dX4_valueAt_22 : decode cX4_valueAt 22 = .ok (.getfield 20, 3) := by decide +kernel
theorem dX4_valueAt_25 : decode cX4_valueAt 25 = .ok (.iconst 0, 1) := by decide +kernel
theorem dX4_valueAt_26 : decode cX4_valueAt 26 = .ok (.invokevirtual 30, 3) := by decide +kernel
theorem dX4_valueAt_29 : decode cX4_valueAt 29 = .ok (.ireturn, 1) := by decide +kernel
theorem dX4_valueAt_30 : decode cX4_valueAt 30 = .ok (.iload_n 3, 1) := by decide +kernel
theorem dX4_valueAt_31 : decode cX4_valueAt 31 = .ok (.iload_n 2, 1) := by decide +kernel
theorem dX4_valueAt_32 : decode cX4_valueAt 32 = .ok (.if_icmp .ne 14, 3) := by decide +kernel
theorem dX4_valueAt_35 : decode cX4_valueAt 35 = .ok (.aload_n 0, 1) := by decide +kernel
theorem dX4_valueAt_36 : decode cX4_valueAt 36 = .ok (.getfield 20, 3) := by decide +kernel
theorem dX4_valueAt_39 : decode cX4_valueAt 39 = .ok (.iload_n 2, 1) := by decide +kernel
theorem dX4_valueAt_40 : decode cX4_valueAt 40 = .ok (.iconst 1, 1) := by decide +kernel
theorem dX4_valueAt_41 : decode cX4_valueAt 41 = .ok (.isub, 1) := by decide +kernel
theorem dX4_valueAt_42 : decode cX4_valueAt 42 = .ok (.invokevirtual 30, 3) := by decide +kernel
theorem dX4_valueAt_45 : decode cX4_valueAt 45 = .ok (.ireturn, 1) := by decide +kernel
theorem dX4_valueAt_46 : decode cX4_valueAt 46 = .ok (.aload_n 0, 1) := by decide +kernel
theorem dX4_valueAt_47 : decode cX4_valueAt 47 = .ok (.iload_n 3, 1) := by decide +kernel
theorem dX4_valueAt_48 : decode cX4_valueAt 48 = .ok (.iconst 1, 1) := by decide +kernel
theorem dX4_valueAt_49 : decode cX4_valueAt 49 = .ok (.isub, 1) := by decide +kernel
theorem dX4_valueAt_50 : decode cX4_valueAt 50 = .ok (.iload_n 3, 1) := by decide +kernel
theorem dX4_valueAt_51 : decode cX4_valueAt 51 = .ok (.iload_n 1, 1) := by decide +kernel
theorem dX4_valueAt_52 : decode cX4_valueAt 52 = .ok (.invokevirtual 51, 3) := by decide +kernel
theorem dX4_valueAt_55 : decode cX4_valueAt 55 = .ok (.ireturn, 1) := by decide +kernel
theorem dX4_valueBetween_0 : decode cX4_valueBetween 0 = .ok (.iload_n 3, 1) := by decide +kernel
theorem dX4_valueBetween_1 : decode cX4_valueBetween 1 = .ok (.aload_n 0, 1) := by decide +kernel
theorem dX4_valueBetween_2 : decode cX4_valueBetween 2 = .ok (.getfield 14, 3) := by decide +kernel
theorem dX4_valueBetween_5 : decode cX4_valueBetween 5 = .ok (.iload_n 1, 1) := by decide +kernel
theorem dX4_valueBetween_6 : decode cX4_valueBetween 6 = .ok (.invokevirtual 30, 3) := by decide +kernel
theorem dX4_valueBetween_9 : decode cX4_valueBetween 9 = .ok (.isub, 1) := by decide +kernel
theorem dX4_valueBetween_10 : decode cX4_valueBetween 10 = .ok (.i2l, 1) := by decide +kernel
theorem dX4_valueBetween_11 : decode cX4_valueBetween 11 = .ok (.lstore 4, 2) := by decide +kernel
theorem dX4_valueBetween_13 : decode cX4_valueBetween 13 = .ok (.aload_n 0, 1) := by decide +kernel
theorem dX4_valueBetween_14 : decode cX4_valueBetween 14 = .ok (.getfield 14, 3) := by decide +kernel
theorem dX4_valueBetween_17 : decode cX4_valueBetween 17 = .ok (.iload_n 2, 1) := by decide +kernel
theorem dX4_valueBetween_18 : decode cX4_valueBetween 18 = .ok (.invokevirtual 30, 3) := by decide +kernel
theorem dX4_valueBetween_21 : decode cX4_valueBetween 21 = .ok (.aload_n 0, 1) := by decide +kernel
theorem dX4_valueBetween_22 : decode cX4_valueBetween 22 = .ok (.getfield 14, 3) := by decide +kernel
theorem dX4_valueBetween_25 : decode cX4_valueBetween 25 = .ok (.iload_n 1, 1) := by decide +kernel
theorem dX4_valueBetween_26 : decode cX4_valueBetween 26 = .ok (.invokevirtual 30, 3) := by decide +kernel
theorem dX4_valueBetween_29 : decode cX4_valueBetween 29 = .ok (.isub, 1) := by decide +kernel
theorem dX4_valueBetween_30 : decode cX4_valueBetween 30 = .ok (.i2l, 1) := by decide +kernel
theorem dX4_valueBetween_31 : decode cX4_valueBetween 31 = .ok (.lstore 6, 2) := by decide +kernel
theorem dX4_valueBetween_33 : decode cX4_valueBetween 33 = .ok (.aload_n 0, 1) := by decide +kernel
theorem dX4_valueBetween_34 : decode cX4_valueBetween 34 = .ok (.getfield 20, 3) := by decide +kernel
theorem dX4_valueBetween_37 : decode cX4_valueBetween 37 = .ok (.iload_n 1, 1) := by decide +kernel
theorem dX4_valueBetween_38 : decode cX4_valueBetween 38 = .ok (.invokevirtual 30, 3) := by decide +kernel
theorem dX4_valueBetween_41 : decode cX4_valueBetween 41 = .ok (.istore 8, 2) := by decide +kernel
theorem dX4_valueBetween_43 : decode cX4_valueBetween 43 = .ok (.aload_n 0, 1) := by decide +kernel
theorem dX4_valueBetween_44 : decode cX4_valueBetween 44 = .ok (.getfield 20, 3) := by decide +kernel
theorem dX4_valueBetween_47 : decode cX4_valueBetween 47 = .ok (.iload_n 2, 1) := by decide +kernel
theorem dX4_valueBetween_48 : decode cX4_valueBetween 48 = .ok (.invokevirtual 30, 3) := by decide +kernel
theorem dX4_valueBetween_51 : decode cX4_valueBetween 51 = .ok (.iload 8, 2) := by decide +kernel
theorem dX4_valueBetween_53 : decode cX4_valueBetween 53 = .ok (.isub, 1) := by decide +kernel
theorem dX4_valueBetween_54 : decode cX4_valueBetween 54 = .ok (.i2l, 1) := by decide +kernel
theorem dX4_valueBetween_55 : decode cX4_valueBetween 55 = .ok (.lstore 9, 2) := by decide +kernel
theorem dX4_valueBetween_57 : decode cX4_valueBetween 57 = .ok (.aload_n 0, 1) := by decide +kernel
theorem dX4_valueBetween_58 : decode cX4_valueBetween 58 = .ok (.getfield 23, 3) := by decide +kernel
theorem dX4_valueBetween_61 : decode cX4_valueBetween 61 = .ok (.iload_n 1, 1) := by decide +kernel
theorem dX4_valueBetween_62 : decode cX4_valueBetween 62 = .ok (.invokevirtual 30, 3) := by decide +kernel
theorem dX4_valueBetween_65 : decode cX4_valueBetween 65 = .ok (.tableswitch 95 0 3 #[31, 34, 48, 68], 31) := by decide +kernel
theorem dX4_valueBetween_96 : decode cX4_valueBetween 96 = .ok (.iload 8, 2) := by decide +kernel
theorem dX4_valueBetween_98 : decode cX4_valueBetween 98 = .ok (.ireturn, 1) := by decide +kernel
theorem dX4_valueBetween_99 : decode cX4_valueBetween 99 = .ok (.iload 8, 2) := by decide +kernel
theorem dX4_valueBetween_101 : decode cX4_valueBetween 101 = .ok (.lload 9, 2) := by decide +kernel
theorem dX4_valueBetween_103 : decode cX4_valueBetween 103 = .ok (.lload 4, 2) := by decide +kernel
theorem dX4_valueBetween_105 : decode cX4_valueBetween 105 = .ok (.lmul, 1) := by decide +kernel
theorem dX4_valueBetween_106 : decode cX4_valueBetween 106 = .ok (.lload 6, 2) := by decide +kernel
theorem dX4_valueBetween_108 : decode cX4_valueBetween 108 = .ok (.invokestatic 55, 3) := by decide +kernel
theorem dX4_valueBetween_111 : decode cX4_valueBetween 111 = .ok (.iadd, 1) := by decide +kernel
theorem dX4_valueBetween_112 : decode cX4_valueBetween 112 = .ok (.ireturn, 1) := by decide +kernel
theorem dX4_valueBetween_113 : decode cX4_valueBetween 113 = .ok (.iload 8, 2) := by decide +kernel
theorem dX4_valueBetween_115 : decode cX4_valueBetween 115 = .ok (.lload 9, 2) := by decide +kernel
theorem dX4_valueBetween_117 : decode cX4_valueBetween 117 = .ok (.lload 4, 2) := by decide +kernel
theorem dX4_valueBetween_119 : decode cX4_valueBetween 119 = .ok (.lmul, 1) := by decide +kernel
theorem dX4_valueBetween_120 : decode cX4_valueBetween 120 = .ok (.lload 4, 2) := by decide +kernel
theorem dX4_valueBetween_122 : decode cX4_valueBetween 122 = .ok (.lmul, 1) := by decide +kernel
theorem dX4_valueBetween_123 : decode cX4_valueBetween 123 = .ok (.lload 6, 2) := by decide +kernel
theorem dX4_valueBetween_125 : decode cX4_valueBetween 125 = .ok (.lload 6, 2) := by decide +kernel
theorem dX4_valueBetween_127 : decode cX4_valueBetween 127 = .ok (.lmul, 1) := by decide +kernel
theorem dX4_valueBetween_128 : decode cX4_valueBetween 128 = .ok (.invokestatic 55, 3) := by decide +kernel
theorem dX4_valueBetween_131 : decode cX4_valueBetween 131 = .ok (.iadd, 1) := by decide +kernel
theorem dX4_valueBetween_132 : decode cX4_valueBetween 132 = .ok (.ireturn, 1) := by decide +kernel
theorem dX4_valueBetween_133 : decode cX4_valueBetween 133 = .ok (.iload 8, 2) := by decide +kernel
theorem dX4_valueBetween_135 : decode cX4_valueBetween 135 = .ok (.lload 9, 2) := by decide +kernel
theorem dX4_valueBetween_137 : decode cX4_valueBetween 137 = .ok (.lload 4, 2) := by decide +kernel
theorem dX4_valueBetween_139 : decode cX4_valueBetween 139 = .ok (.lmul, 1) := by decide +kernel
theorem dX4_valueBetween_140 : decode cX4_valueBetween 140 = .ok (.ldc2_w 59, 3) := by decide +kernel
theorem dX4_valueBetween_143 : decode cX4_valueBetween 143 = .ok (.lload 6, 2) := by decide +kernel
theorem dX4_valueBetween_145 : decode cX4_valueBetween 145 = .ok (.lmul, 1) := by decide +kernel
theorem dX4_valueBetween_146 : decode cX4_valueBetween 146 = .ok (.lload 4, 2) := by decide +kernel
theorem dX4_valueBetween_148 : decode cX4_valueBetween 148 = .ok (.lsub, 1) := by decide +kernel
theorem dX4_valueBetween_149 : decode cX4_valueBetween 149 = .ok (.lmul, 1) := by decide +kernel
theorem dX4_valueBetween_150 : decode cX4_valueBetween 150 = .ok (.lload 6, 2) := by decide +kernel
theorem dX4_valueBetween_152 : decode cX4_valueBetween 152 = .ok (.lload 6, 2) := by decide +kernel
theorem dX4_valueBetween_154 : decode cX4_valueBetween 154 = .ok (.lmul, 1) := by decide +kernel
theorem dX4_valueBetween_155 : decode cX4_valueBetween 155 = .ok (.invokestatic 55, 3) := by decide +kernel
theorem dX4_valueBetween_158 : decode cX4_valueBetween 158 = .ok (.iadd, 1) := by decide +kernel
theorem dX4_valueBetween_159 : decode cX4_valueBetween 159 = .ok (.ireturn, 1) := by decide +kernel
theorem dX4_valueBetween_160 : decode cX4_valueBetween 160 = .ok (.iload 8, 2) := by decide +kernel
theorem dX4_valueBetween_162 : decode cX4_valueBetween 162 = .ok (.lload 9, 2) := by decide +kernel
theorem dX4_valueBetween_164 : decode cX4_valueBetween 164 = .ok (.lload 4, 2) := by decide +kernel
theorem dX4_valueBetween_166 : decode cX4_valueBetween 166 = .ok (.lmul, 1) := by decide +kernel
theorem dX4_valueBetween_167 : decode cX4_valueBetween 167 = .ok (.lload 4, 2) := by decide +kernel
theorem dX4_valueBetween_169 : decode cX4_valueBetween 169 = .ok (.lmul, 1) := by decide +kernel
theorem dX4_valueBetween_170 : decode cX4_valueBetween 170 = .ok (.ldc2_w 61, 3) := by decide +kernel
theorem dX4_valueBetween_173 : decode cX4_valueBetween 173 = .ok (.lload 6, 2) := by decide +kernel
theorem dX4_valueBetween_175 : decode cX4_valueBetween 175 = .ok (.lmul, 1) := by decide +kernel
theorem dX4_valueBetween_176 : decode cX4_valueBetween 176 = .ok (.ldc2_w 59, 3) := by decide +kernel
theorem dX4_valueBetween_179 : decode cX4_valueBetween 179 = .ok (.lload 4, 2) := by decide +kernel
theorem dX4_valueBetween_181 : decode cX4_valueBetween 181 = .ok (.lmul, 1) := by decide +kernel
theorem dX4_valueBetween_182 : decode cX4_valueBetween 182 = .ok (.lsub, 1) := by decide +kernel
theorem dX4_valueBetween_183 : decode cX4_valueBetween 183 = .ok (.lmul, 1) := by decide +kernel
theorem dX4_valueBetween_184 : decode cX4_valueBetween 184 = .ok (.lload 6, 2) := by decide +kernel
theorem dX4_valueBetween_186 : decode cX4_valueBetween 186 = .ok (.lload 6, 2) := by decide +kernel
theorem dX4_valueBetween_188 : decode cX4_valueBetween 188 = .ok (.lmul, 1) := by decide +kernel
theorem dX4_valueBetween_189 : decode cX4_valueBetween 189 = .ok (.lload 6, 2) := by decide +kernel
theorem dX4_valueBetween_191 : decode cX4_valueBetween 191 = .ok (.lmul, 1) := by decide +kernel
theorem dX4_valueBetween_192 : decode cX4_valueBetween 192 = .ok (.invokestatic 55, 3) := by decide +kernel
theorem dX4_valueBetween_195 : decode cX4_valueBetween 195 = .ok (.iadd, 1) := by decide +kernel
theorem dX4_valueBetween_196 : decode cX4_valueBetween 196 = .ok (.ireturn, 1) := by decide +kernel
theorem dX4_turnAround_0 : decode cX4_turnAround 0 = .ok (.aload_n 0, 1) := by decide +kernel
theorem dX4_turnAround_1 : decode cX4_turnAround 1 = .ok (.getfield 14, 3) := by decide +kernel
theorem dX4_turnAround_4 : decode cX4_turnAround 4 = .ok (.invokevirtual 26, 3) := by decide +kernel
theorem dX4_turnAround_7 : decode cX4_turnAround 7 = .ok (.istore_n 2, 1) := by decide +kernel
theorem dX4_turnAround_8 : decode cX4_turnAround 8 = .ok (.iload_n 2, 1) := by decide +kernel
theorem dX4_turnAround_9 : decode cX4_turnAround 9 = .ok (.ifCond .ne 4, 3) := by decide +kernel
theorem dX4_turnAround_12 : decode cX4_turnAround 12 = .ok (.return_, 1) := by decide +kernel
theorem dX4_turnAround_13 : decode cX4_turnAround 13 = .ok (.aload_n 0, 1) := by decide +kernel
theorem dX4_turnAround_14 : decode cX4_turnAround 14 = .ok (.getfield 14, 3) := by decide +kernel
theorem dX4_turnAround_17 : decode cX4_turnAround 17 = .ok (.iload_n 1, 1) := by decide +kernel
theorem dX4_turnAround_18 : decode cX4_turnAround 18 = .ok (.invokevirtual 63, 3) := by decide +kernel
theorem dX4_turnAround_21 : decode cX4_turnAround 21 = .ok (.aload_n 0, 1) := by decide +kernel
theorem dX4_turnAround_22 : decode cX4_turnAround 22 = .ok (.getfield 20, 3) := by decide +kernel
theorem dX4_turnAround_25 : decode cX4_turnAround 25 = .ok (.invokevirtual 66, 3) := by decide +kernel
theorem dX4_turnAround_28 : decode cX4_turnAround 28 = .ok (.aload_n 0, 1) := by decide +kernel
theorem dX4_turnAround_29 : decode cX4_turnAround 29 = .ok (.getfield 23, 3) := by decide +kernel
theorem dX4_turnAround_32 : decode cX4_turnAround 32 = .ok (.invokevirtual 66, 3) := by decide +kernel
theorem dX4_turnAround_35 : decode cX4_turnAround 35 = .ok (.aload_n 0, 1) := by decide +kernel
theorem dX4_turnAround_36 : decode cX4_turnAround 36 = .ok (.getfield 23, 3) := by decide +kernel
theorem dX4_turnAround_39 : decode cX4_turnAround 39 = .ok (.iconst 0, 1) := by decide +kernel
theorem dX4_turnAround_40 : decode cX4_turnAround 40 = .ok (.invokevirtual 48, 3) := by decide +kernel
theorem dX4_turnAround_43 : decode cX4_turnAround 43 = .ok (.aload_n 0, 1) := by decide +kernel
theorem dX4_turnAround_44 : decode cX4_turnAround 44 = .ok (.getfield 23, 3) := by decide +kernel
theorem dX4_turnAround_47 : decode cX4_turnAround 47 = .ok (.iconst 1, 1) := by decide +kernel
theorem dX4_turnAround_48 : decode cX4_turnAround 48 = .ok (.invokevirtual 69, 3) := by decide +kernel
theorem dX4_turnAround_51 : decode cX4_turnAround 51 = .ok (.iconst 0, 1) := by decide +kernel
theorem dX4_turnAround_52 : decode cX4_turnAround 52 = .ok (.istore_n 3, 1) := by decide +kernel
theorem dX4_turnAround_53 : decode cX4_turnAround 53 = .ok (.iload_n 3, 1) := by decide +kernel
theorem dX4_turnAround_54 : decode cX4_turnAround 54 = .ok (.iload_n 2, 1) := by decide +kernel
theorem dX4_turnAround_55 : decode cX4_turnAround 55 = .ok (.if_icmp .ge 28, 3) := by decide +kernel
theorem dX4_turnAround_58 : decode cX4_turnAround 58 = .ok (.aload_n 0, 1) := by decide +kernel
theorem dX4_turnAround_59 : decode cX4_turnAround 59 = .ok (.getfield 23, 3) := by decide +kernel
theorem dX4_turnAround_62 : decode cX4_turnAround 62 = .ok (.iload_n 3, 1) := by decide +kernel
theorem dX4_turnAround_63 : decode cX4_turnAround 63 = .ok (.aload_n 0, 1) := by decide +kernel
theorem dX4_turnAround_64 : decode cX4_turnAround 64 = .ok (.getfield 23, 3) := by decide +kernel
theorem dX4_turnAround_67 : decode cX4_turnAround 67 = .ok (.iload_n 3, 1) := by decide +kernel
theorem dX4_turnAround_68 : decode cX4_turnAround 68 = .ok (.invokevirtual 30, 3) := by decide +kernel
theorem dX4_turnAround_71 : decode cX4_turnAround 71 = .ok (.invokestatic 72, 3) := by decide +kernel
theorem dX4_turnAround_74 : decode cX4_turnAround 74 = .ok (.invokevirtual 41, 3) := by decide +kernel
theorem dX4_turnAround_77 : decode cX4_turnAround 77 = .ok (.iinc 3 1, 3) := by decide +kernel
theorem dX4_turnAround_80 : decode cX4_turnAround 80 = .ok (.goto (-27), 3) := by decide +kernel
theorem dX4_turnAround_83 : decode cX4_turnAround 83 = .ok (.return_, 1) := by decide +kernel
theorem dX4_mirroredEase_0 : decode cX4_mirroredEase 0 = .ok (.iload_n 0, 1) := by decide +kernel
theorem dX4_mirroredEase_1 : decode cX4_mirroredEase 1 = .ok (.iconst 2, 1) := by decide +kernel
theorem dX4_mirroredEase_2 : decode cX4_mirroredEase 2 = .ok (.if_icmp .ne 5, 3) := by decide +kernel
theorem dX4_mirroredEase_5 : decode cX4_mirroredEase 5 = .ok (.iconst 3, 1) := by decide +kernel
theorem dX4_mirroredEase_6 : decode cX4_mirroredEase 6 = .ok (.ireturn, 1) := by decide +kernel
theorem dX4_mirroredEase_7 : decode cX4_mirroredEase 7 = .ok (.iload_n 0, 1) := by decide +kernel
theorem dX4_mirroredEase_8 : decode cX4_mirroredEase 8 = .ok (.iconst 3, 1) := by decide +kernel
theorem dX4_mirroredEase_9 : decode cX4_mirroredEase 9 = .ok (.if_icmp .ne 7, 3) := by decide +kernel
theorem dX4_mirroredEase_12 : decode cX4_mirroredEase 12 = .ok (.iconst 2, 1) := by decide +kernel
theorem dX4_mirroredEase_13 : decode cX4_mirroredEase 13 = .ok (.goto 4, 3) := by decide +kernel
theorem dX4_mirroredEase_16 : decode cX4_mirroredEase 16 = .ok (.iload_n 0, 1) := by decide +kernel
theorem dX4_mirroredEase_17 : decode cX4_mirroredEase 17 = .ok (.ireturn, 1) := by decide +kernel
theorem dX5_init_0 : decode cX5_init 0 = .ok (.aload_n 0, 1) := by decide +kernel
theorem dX5_init_1 : decode cX5_init 1 = .ok (.invokespecial 1, 3) := by decide +kernel
theorem dX5_init_4 : decode cX5_init 4 = .ok (.aload_n 0, 1) := by decide +kernel
theorem dX5_init_5 : decode cX5_init 5 = .ok (.new 7, 3) := by decide +kernel
theorem dX5_init_8 : decode cX5_init 8 = .ok (.dup, 1) := by decide +kernel
theorem dX5_init_9 : decode cX5_init 9 = .ok (.invokespecial 9, 3) := by decide +kernel
theorem dX5_init_12 : decode cX5_init 12 = .ok (.putfield 10, 3) := by decide +kernel
theorem dX5_init_15 : decode cX5_init 15 = .ok (.aload_n 0, 1) := by decide +kernel
theorem dX5_init_16 : decode cX5_init 16 = .ok (.new 7, 3) := by decide +kernel
theorem dX5_init_19 : decode cX5_init 19 = .ok (.dup, 1) := by decide +kernel
theorem dX5_init_20 : decode cX5_init 20 = .ok (.invokespecial 9, 3) := by decide +kernel
theorem dX5_init_23 : decode cX5_init 23 = .ok (.putfield 16, 3) := by decide +kernel
theorem dX5_init_26 : decode cX5_init 26 = .ok (.aload_n 0, 1) := by decide +kernel
theorem dX5_init_27 : decode cX5_init 27 = .ok (.new 19, 3) := by decide +kernel
theorem dX5_init_30 : decode cX5_init 30 = .ok (.dup, 1) := by decide +kernel
theorem dX5_init_31 : decode cX5_init 31 = .ok (.iconst 4, 1) := by decide +kernel
theorem dX5_init_32 : decode cX5_init 32 = .ok (.invokespecial 21, 3) := by decide +kernel
theorem dX5_init_35 : decode cX5_init 35 = .ok (.putfield 24, 3) := by decide +kernel
theorem dX5_init_38 : decode cX5_init 38 = .ok (.iconst 0, 1) := by decide +kernel
theorem dX5_init_39 : decode cX5_init 39 = .ok (.istore_n 1, 1) := by decide +kernel
theorem dX5_init_40 : decode cX5_init 40 = .ok (.iload_n 1, 1) := by decide +kernel
theorem dX5_init_41 : decode cX5_init 41 = .ok (.iconst 4, 1) := by decide +kernel
theorem dX5_init_42 : decode cX5_init 42 = .ok (.if_icmp .ge 17, 3) := by decide +kernel
theorem dX5_init_45 : decode cX5_init 45 = .ok (.aload_n 0, 1) := by decide +kernel
theorem dX5_init_46 : decode cX5_init 46 = .ok (.getfield 24, 3) := by decide +kernel
theorem dX5_init_49 : decode cX5_init 49 = .ok (.iconst 0, 1) := by decide +kernel
theorem dX5_init_50 : decode cX5_init 50 = .ok (.invokevirtual 28, 3) := by decide +kernel
theorem dX5_init_53 : decode cX5_init 53 = .ok (.iinc 1 1, 3) := by decide +kernel
theorem dX5_init_56 : decode cX5_init 56 = .ok (.goto (-16), 3) := by decide +kernel
theorem dX5_init_59 : decode cX5_init 59 = .ok (.aload_n 0, 1) := by decide +kernel
theorem dX5_init_60 : decode cX5_init 60 = .ok (.new 19, 3) := by decide +kernel
theorem dX5_init_63 : decode cX5_init 63 = .ok (.dup, 1) := by decide +kernel
theorem dX5_init_64 : decode cX5_init 64 = .ok (.bipush 10, 2) := by decide +kernel
theorem dX5_init_66 : decode cX5_init 66 = .ok (.invokespecial 21, 3) := by decide +kernel
theorem dX5_init_69 : decode cX5_init 69 = .ok (.putfield 31, 3) := by decide +kernel
theorem dX5_init_72 : decode cX5_init 72 = .ok (.aload_n 0, 1) := by decide +kernel
theorem dX5_init_73 : decode cX5_init 73 = .ok (.new 34, 3) := by decide +kernel
theorem dX5_init_76 : decode cX5_init 76 = .ok (.dup, 1) := by decide +kernel
theorem dX5_init_77 : decode cX5_init 77 = .ok (.invokespecial 36, 3) := by decide +kernel
theorem dX5_init_80 : decode cX5_init 80 = .ok (.putfield 37, 3) := by decide +kernel
theorem dX5_init_83 : decode cX5_init 83 = .ok (.return_, 1) := by decide +kernel
theorem dX5_addClip_0 : decode cX5_addClip 0 = .ok (.iload_n 1, 1) := by decide +kernel
theorem dX5_addClip_1 : decode cX5_addClip 1 = .ok (.iconst 1, 1) := by decide +kernel
theorem dX5_addClip_2 : decode cX5_addClip 2 = .ok (.sipush 2000, 3) := by decide +kernel
theorem dX5_addClip_5 : decode cX5_addClip 5 = .ok (.invokestatic 41, 3) := by decide +kernel
theorem dX5_addClip_8 : decode cX5_addClip 8 = .ok (.ifCond .ne 13, 3) := by decide +kernel
theorem dX5_addClip_11 : decode cX5_addClip 11 = .ok (.new 45, 3) := by decide +kernel
theorem dX5_addClip_14 : decode cX5_addClip 14 = .ok (.dup, 1) := by decide +kernel
theorem dX5_addClip_15 : decode cX5_addClip 15 = .ok (.ldc 47, 2) := by decide +kernel
theorem dX5_addClip_17 : decode cX5_addClip 17 = .ok (.invokespecial 49, 3) := by decide +kernel
theorem dX5_addClip_20 : decode cX5_addClip 20 = .ok (.athrow, 1) := by decide +kernel
theorem dX5_addClip_21 : decode cX5_addClip 21 = .ok (.aload_n 0, 1) := by decide +kernel
theorem dX5_addClip_22 : decode cX5_addClip 22 = .ok (.getfield 10, 3) := by decide +kernel
theorem dX5_addClip_25 : decode cX5_addClip 25 = .ok (.invokevirtual 52, 3) := by decide +kernel
theorem dX5_addClip_28 : decode cX5_addClip 28 = .ok (.bipush 6, 2) := by decide +kernel
theorem dX5_addClip_30 : decode cX5_addClip 30 = .ok (.if_icmp .lt 13, 3) := by decide +kernel
theorem dX5_addClip_33 : decode cX5_addClip 33 = .ok (.new 56, 3) := by decide +kernel
theorem dX5_addClip_36 : decode cX5_addClip 36 = .ok (.dup, 1) := by decide +kernel
theorem dX5_addClip_37 : decode cX5_addClip 37 = .ok (.ldc 58, 2) := by decide +kernel
theorem dX5_addClip_39 : decode cX5_addClip 39 = .ok (.invokespecial 60, 3) := by decide +kernel
theorem dX5_addClip_42 : decode cX5_addClip 42 = .ok (.athrow, 1) := by decide +kernel
theorem dX5_addClip_43 : decode cX5_addClip 43 = .ok (.aload_n 0, 1) := by decide +kernel
theorem dX5_addClip_44 : decode cX5_addClip 44 = .ok (.getfield 10, 3) := by decide +kernel
theorem dX5_addClip_47 : decode cX5_addClip 47 = .ok (.new 61, 3) := by decide +kernel
theorem dX5_addClip_50 : decode cX5_addClip 50 = .ok (.dup, 1) := by decide +kernel
theorem dX5_addClip_51 : decode cX5_addClip 51 = .ok (.iload_n 1, 1) := by decide +kernel
theorem dX5_addClip_52 : decode cX5_addClip 52 = .ok (.invokespecial 63, 3) := by decide +kernel
theorem dX5_addClip_55 : decode cX5_addClip 55 = .ok (.invokevirtual 64, 3) := by decide +kernel
theorem dX5_addClip_58 : decode cX5_addClip 58 = .ok (.pop, 1) := by decide +kernel
theorem dX5_addClip_59 : decode cX5_addClip 59 = .ok (.aload_n 0, 1) := by decide +kernel
theorem dX5_addClip_60 : decode cX5_addClip 60 = .ok (.getfield 10, 3) := by decide +kernel
theorem dX5_addClip_63 : decode cX5_addClip 63 = .ok (.invokevirtual 52, 3) := by decide +kernel
theorem dX5_addClip_66 : decode cX5_addClip 66 = .ok (.iconst 1, 1) := by decide +kernel
theorem dX5_addClip_67 : decode cX5_addClip 67 = .ok (.isub, 1) := by decide +kernel
theorem dX5_addClip_68 : decode cX5_addClip 68 = .ok (.ireturn, 1) := by decide +kernel
theorem dX5_key_0 : decode cX5_key 0 = .ok (.aload_n 0, 1) := by decide +kernel
theorem dX5_key_1 : decode cX5_key 1 = .ok (.iload_n 1, 1) := by decide +kernel
theorem dX5_key_2 : decode cX5_key 2 = .ok (.invokevirtual 68, 3) := by decide +kernel
theorem dX5_key_5 : decode cX5_key 5 = .ok (.astore 6, 2) := by decide +kernel
theorem dX5_key_7 : decode cX5_key 7 = .ok (.aload 6, 2) := by decide +kernel
theorem dX5_key_9 : decode cX5_key 9 = .ok (.iload_n 2, 1) := by decide +kernel
theorem dX5_key_10 : decode cX5_key 10 = .ok (.invokestatic 87, 3) := by decide +kernel
theorem dX5_key_13 : decode cX5_key 13 = .ok (.astore 7, 2) := by decide +kernel
theorem dX5_key_15 : decode cX5_key 15 = .ok (.aload 6, 2) := by decide +kernel
theorem dX5_key_17 : decode cX5_key 17 = .ok (.ifnull 8, 3) := by decide +kernel
theorem dX5_key_20 : decode cX5_key 20 = .ok (.aload 7, 2) := by decide +kernel
theorem dX5_key_22 : decode cX5_key 22 = .ok (.ifnonnull 13, 3) := by decide +kernel
theorem dX5_key_25 : decode cX5_key 25 = .ok (.new 72, 3) := by decide +kernel
theorem dX5_key_28 : decode cX5_key 28 = .ok (.dup, 1) := by decide +kernel
theorem dX5_key_29 : decode cX5_key 29 = .ok (.ldc 91, 2) := by decide +kernel
theorem dX5_key_31 : decode cX5_key 31 = .ok (.invokespecial 76, 3) := by decide +kernel
theorem dX5_key_34 : decode cX5_key 34 = .ok (.athrow, 1) := by decide +kernel
theorem dX5_key_35 : decode cX5_key 35 = .ok (.iload_n 3, 1) := by decide +kernel
theorem dX5_key_36 : decode cX5_key 36 = .ok (.iconst 0, 1) := by decide +kernel
theorem dX5_key_37 : decode cX5_key 37 = .ok (.aload 6, 2) := by decide +kernel
theorem dX5_key_39 : decode cX5_key 39 = .ok (.getfield 77, 3) := by decide +kernel
theorem dX5_key_42 : decode cX5_key 42 = .ok (.invokestatic 41, 3) := by decide +kernel
theorem dX5_key_45 : decode cX5_key 45 = .ok (.ifCond .eq 21, 3) := by decide +kernel
theorem dX5_key_48 : decode cX5_key 48 = .ok (.iload 4, 2) := by decide +kernel
theorem dX5_key_50 : decode cX5_key 50 = .ok (.invokestatic 93, 3) := by decide +kernel
theorem dX5_key_53 : decode cX5_key 53 = .ok (.ifCond .eq 13, 3) := by decide +kernel
theorem dX5_key_56 : decode cX5_key 56 = .ok (.iload 5, 2) := by decide +kernel
theorem dX5_key_58 : decode cX5_key 58 = .ok (.iconst 0, 1) := by decide +kernel
theorem dX5_key_59 : decode cX5_key 59 = .ok (.iconst 4, 1) := by decide +kernel
theorem dX5_key_60 : decode cX5_key 60 = .ok (.invokestatic 41, 3) := by decide +kernel
theorem dX5_key_63 : decode cX5_key 63 = .ok (.ifCond .ne 13, 3) := by decide +kernel
theorem dX5_key_66 : decode cX5_key 66 = .ok (.new 45, 3) := by decide +kernel
theorem dX5_key_69 : decode cX5_key 69 = .ok (.dup, 1) := by decide +kernel
theorem dX5_key_70 : decode cX5_key 70 = .ok (.ldc 97, 2) := by decide +kernel
theorem dX5_key_72 : decode cX5_key 72 = .ok (.invokespecial 49, 3) := by decide +kernel
theorem dX5_key_75 : decode cX5_key 75 = .ok (.athrow, 1) := by decide +kernel
theorem dX5_key_76 : decode cX5_key 76 = .ok (.aload 7, 2) := by decide +kernel
theorem dX5_key_78 : decode cX5_key 78 = .ok (.invokevirtual 99, 3) := by decide +kernel
theorem dX5_key_81 : decode cX5_key 81 = .ok (.bipush 16, 2) := by decide +kernel
theorem dX5_key_83 : decode cX5_key 83 = .ok (.if_icmp .lt 22, 3) := by decide +kernel
theorem dX5_key_86 : decode cX5_key 86 = .ok (.aload 7, 2) := by decide +kernel
theorem dX5_key_88 : decode cX5_key 88 = .ok (.iload_n 3, 1) := by decide +kernel
theorem dX5_key_89 : decode cX5_key 89 = .ok (.invokevirtual 104, 3) := by decide +kernel
theorem dX5_key_92 : decode cX5_key 92 = .ok (.ifCond .ne 13, 3) := by decide +kernel
theorem dX5_key_95 : decode cX5_key 95 = .ok (.new 56, 3) := by decide +kernel
theorem dX5_key_98 : decode cX5_key 98 = .ok (.dup, 1) := by decide +kernel
theorem dX5_key_99 : decode cX5_key 99 = .ok (.ldc 107, 2) := by decide +kernel
theorem dX5_key_101 : decode cX5_key 101 = .ok (.invokespecial 60, 3) := by decide +kernel
theorem dX5_key_104 : decode cX5_key 104 = .ok (.athrow, 1) := by decide +kernel
theorem dX5_key_105 : decode cX5_key 105 = .ok (.aload 7, 2) := by decide +kernel
theorem dX5_key_107 : decode cX5_key 107 = .ok (.iload_n 3, 1) := by decide +kernel
theorem dX5_key_108 : decode cX5_key 108 = .ok (.iload 4, 2) := by decide +kernel
theorem dX5_key_110 : decode cX5_key 110 = .ok (.iload 5, 2) := by decide +kernel
theorem dX5_key_112 : decode cX5_key 112 = .ok (.invokevirtual 109, 3) := by decide +kernel
theorem dX5_key_115 : decode cX5_key 115 = .ok (.aload 7, 2) := by decide +kernel
theorem dX5_key_117 : decode cX5_key 117 = .ok (.invokevirtual 99, 3) := by decide +kernel
theorem dX5_key_120 : decode cX5_key 120 = .ok (.ireturn, 1) := by decide +kernel
theorem dX5_keys_0 : decode cX5_keys 0 = .ok (.aload_n 0, 1) := by decide +kernel
theorem dX5_keys_1 : decode cX5_keys 1 = .ok (.iload_n 1, 1) := by decide +kernel
theorem dX5_keys_2 : decode cX5_keys 2 = .ok (.invokevirtual 68, 3) := by decide +kernel
theorem dX5_keys_5 : decode cX5_keys 5 = .ok (.iload_n 2, 1) := by decide +kernel
theorem dX5_keys_6 : decode cX5_keys 6 = .ok (.invokestatic 87, 3) := by decide +kernel
theorem dX5_keys_9 : decode cX5_keys 9 = .ok (.astore_n 3, 1) := by decide +kernel
theorem dX5_keys_10 : decode cX5_keys 10 = .ok (.aload_n 3, 1) := by decide +kernel
theorem dX5_keys_11 : decode cX5_keys 11 = .ok (.ifnonnull 13, 3) := by decide +kernel
theorem dX5_keys_14 : decode cX5_keys 14 = .ok (.new 72, 3) := by decide +kernel
theorem dX5_keys_17 : decode cX5_keys 17 = .ok (.dup, 1) := by decide +kernel
theorem dX5_keys_18 : decode cX5_keys 18 = .ok (.ldc 91, 2) := by decide +kernel
theorem dX5_keys_20 : decode cX5_keys 20 = .ok (.invokespecial 76, 3) := by decide +kernel
theorem dX5_keys_23 : decode cX5_keys 23 = .ok (.athrow, 1) := by decide +kernel
theorem dX5_keys_24 : decode cX5_keys 24 = .ok (.aload_n 3, 1) := by decide +kernel
theorem dX5_keys_25 : decode cX5_keys 25 = .ok (.invokevirtual 99, 3) := by decide +kernel
theorem dX5_keys_28 : decode cX5_keys 28 = .ok (.ireturn, 1) := by decide +kernel
theorem dX5_keyOf_0 : decode cX5_keyOf 0 = .ok (.aload_n 0, 1) := by decide +kernel
theorem dX5_keyOf_1 : decode cX5_keyOf 1 = .ok (.iload_n 1, 1) := by decide +kernel
theorem dX5_keyOf_2 : decode cX5_keyOf 2 = .ok (.invokevirtual 68, 3) := by decide +kernel
theorem dX5_keyOf_5 : decode cX5_keyOf 5 = .ok (.iload_n 2, 1) := by decide +kernel
theorem dX5_keyOf_6 : decode cX5_keyOf 6 = .ok (.invokestatic 87, 3) := by decide +kernel
theorem dX5_keyOf_9 : decode cX5_keyOf 9 = .ok (.astore 5, 2) := by decide +kernel
theorem dX5_keyOf_11 : decode cX5_keyOf 11 = .ok (.aload 5, 2) := by decide +kernel
theorem dX5_keyOf_13 : decode cX5_keyOf 13 = .ok (.ifnull 28, 3) := by decide +kernel
theorem dX5_keyOf_16 : decode cX5_keyOf 16 = .ok (.iload_n 3, 1) := by decide +kernel
theorem dX5_keyOf_17 : decode cX5_keyOf 17 = .ok (.iconst 0, 1) := by decide +kernel
theorem dX5_keyOf_18 : decode cX5_keyOf 18 = .ok (.aload 5, 2) := by decide +kernel
theorem dX5_keyOf_20 : decode cX5_keyOf 20 = .ok (.invokevirtual 99, 3) := by decide +kernel
theorem dX5_keyOf_23 : decode cX5_keyOf 23 = .ok (.iconst 1, 1) := by decide +kernel
theorem dX5_keyOf_24 : decode cX5_keyOf 24 = .ok (.isub, 1) := by decide +kernel
theorem dX5_keyOf_25 : decode cX5_keyOf 25 = .ok (.invokestatic 41, 3) := by decide +kernel
theorem dX5_keyOf_28 : decode cX5_keyOf 28 = .ok (.ifCond .eq 13, 3) := by decide +kernel
theorem dX5_keyOf_31 : decode cX5_keyOf 31 = .ok (.iload 4, 2) := by decide +kernel
theorem dX5_keyOf_33 : decode cX5_keyOf 33 = .ok (.iconst 0, 1) := by decide +kernel
theorem dX5_keyOf_34 : decode cX5_keyOf 34 = .ok (.iconst 2, 1) := by decide +kernel
theorem dX5_keyOf_35 : decode cX5_keyOf 35 = .ok (.invokestatic 41, 3) := by decide +kernel
theorem dX5_keyOf_38 : decode cX5_keyOf 38 = .ok (.ifCond .ne 13, 3) := by decide +kernel
theorem dX5_keyOf_41 : decode cX5_keyOf 41 = .ok (.new 72, 3) := by decide +kernel
theorem dX5_keyOf_44 : decode cX5_keyOf 44 = .ok (.dup, 1) := by decide +kernel
theorem dX5_keyOf_45 : decode cX5_keyOf 45 = .ok (.ldc 118, 2) := by decide +kernel
theorem dX5_keyOf_47 : decode cX5_keyOf 47 = .ok (.invokespecial 76, 3) := by decide +kernel
theorem dX5_keyOf_50 : decode cX5_keyOf 50 = .ok (.athrow, 1) := by decide +kernel
theorem dX5_keyOf_51 : decode cX5_keyOf 51 = .ok (.aload 5, 2) := by decide +kernel
theorem dX5_keyOf_53 : decode cX5_keyOf 53 = .ok (.iload_n 3, 1) := by decide +kernel
theorem dX5_keyOf_54 : decode cX5_keyOf 54 = .ok (.iload 4, 2) := by decide +kernel
theorem dX5_keyOf_56 : decode cX5_keyOf 56 = .ok (.invokevirtual 120, 3) := by decide +kernel
theorem dX5_keyOf_59 : decode cX5_keyOf 59 = .ok (.ireturn, 1) := by decide +kernel
theorem dX5_trackAt_0 : decode cX5_trackAt 0 = .ok (.aload_n 0, 1) := by decide +kernel
theorem dX5_trackAt_1 : decode cX5_trackAt 1 = .ok (.iload_n 1, 1) := by decide +kernel
theorem dX5_trackAt_2 : decode cX5_trackAt 2 = .ok (.invokevirtual 68, 3) := by decide +kernel
theorem dX5_trackAt_5 : decode cX5_trackAt 5 = .ok (.astore 4, 2) := by decide +kernel
theorem dX5_trackAt_7 : decode cX5_trackAt 7 = .ok (.aload 4, 2) := by decide +kernel
theorem dX5_trackAt_9 : decode cX5_trackAt 9 = .ok (.iload_n 2, 1) := by decide +kernel
theorem dX5_trackAt_10 : decode cX5_trackAt 10 = .ok (.invokestatic 87, 3) := by decide +kernel
theorem dX5_trackAt_13 : decode cX5_trackAt 13 = .ok (.astore 5, 2) := by decide +kernel
theorem dX5_trackAt_15 : decode cX5_trackAt 15 = .ok (.aload 4, 2) := by decide +kernel
theorem dX5_trackAt_17 : decode cX5_trackAt 17 = .ok (.ifnull 8, 3) := by decide +kernel
theorem dX5_trackAt_20 : decode cX5_trackAt 20 = .ok (.aload 5, 2) := by decide +kernel
theorem dX5_trackAt_22 : decode cX5_trackAt 22 = .ok (.ifnonnull 13, 3) := by decide +kernel
theorem dX5_trackAt_25 : decode cX5_trackAt 25 = .ok (.new 72, 3) := by decide +kernel
theorem dX5_trackAt_28 : decode cX5_trackAt 28 = .ok (.dup, 1) := by decide +kernel
theorem dX5_trackAt_29 : decode cX5_trackAt 29 = .ok (.ldc 91, 2) := by decide +kernel
theorem dX5_trackAt_31 : decode cX5_trackAt 31 = .ok (.invokespecial 76, 3) := by decide +kernel
theorem dX5_trackAt_34 : decode cX5_trackAt 34 = .ok (.athrow, 1) := by decide +kernel
theorem dX5_trackAt_35 : decode cX5_trackAt 35 = .ok (.iload_n 3, 1) := by decide +kernel
theorem dX5_trackAt_36 : decode cX5_trackAt 36 = .ok (.iconst 0, 1) := by decide +kernel
theorem dX5_trackAt_37 : decode cX5_trackAt 37 = .ok (.aload 4, 2) := by decide +kernel
theorem dX5_trackAt_39 : decode cX5_trackAt 39 = .ok (.getfield 77, 3) := by decide +kernel
theorem dX5_trackAt_42 : decode cX5_trackAt 42 = .ok (.invokestatic 41, 3) := by decide +kernel
theorem dX5_trackAt_45 : decode cX5_trackAt 45 = .ok (.ifCond .ne 13, 3) := by decide +kernel
theorem dX5_trackAt_48 : decode cX5_trackAt 48 = .ok (.new 45, 3) := by decide +kernel
theorem dX5_trackAt_51 : decode cX5_trackAt 51 = .ok (.dup, 1) := by decide +kernel
theorem dX5_trackAt_52 : decode cX5_trackAt 52 = .ok (.ldc 124, 2) := by decide +kernel
theorem dX5_trackAt_54 : decode cX5_trackAt 54 = .ok (.invokespecial 49, 3) := by decide +kernel
theorem dX5_trackAt_57 : decode cX5_trackAt 57 = .ok (.athrow, 1) := by decide +kernel
theorem dX5_trackAt_58 : decode cX5_trackAt 58 = .ok (.aload 5, 2) := by decide +kernel
theorem dX5_trackAt_60 : decode cX5_trackAt 60 = .ok (.invokevirtual 99, 3) := by decide +kernel
theorem dX5_trackAt_63 : decode cX5_trackAt 63 = .ok (.ifCond .ne 13, 3) := by decide +kernel
theorem dX5_trackAt_66 : decode cX5_trackAt 66 = .ok (.new 56, 3) := by decide +kernel
theorem dX5_trackAt_69 : decode cX5_trackAt 69 = .ok (.dup, 1) := by decide +kernel
theorem dX5_trackAt_70 : decode cX5_trackAt 70 = .ok (.ldc 126, 2) := by decide +kernel
theorem dX5_trackAt_72 : decode cX5_trackAt 72 = .ok (.invokespecial 60, 3) := by decide +kernel
theorem dX5_trackAt_75 : decode cX5_trackAt 75 = .ok (.athrow, 1) := by decide +kernel
theorem dX5_trackAt_76 : decode cX5_trackAt 76 = .ok (.aload 5, 2) := by decide +kernel
theorem dX5_trackAt_78 : decode cX5_trackAt 78 = .ok (.iload_n 3, 1) := by decide +kernel
theorem dX5_trackAt_79 : decode cX5_trackAt 79 = .ok (.invokevirtual 128, 3) := by decide +kernel
theorem dX5_trackAt_82 : decode cX5_trackAt 82 = .ok (.ireturn, 1) := by decide +kernel
theorem dX5_cue_0 : decode cX5_cue 0 = .ok (.aload_n 0, 1) := by decide +kernel
theorem dX5_cue_1 : decode cX5_cue 1 = .ok (.iload_n 1, 1) := by decide +kernel
theorem dX5_cue_2 : decode cX5_cue 2 = .ok (.invokevirtual 68, 3) := by decide +kernel
theorem dX5_cue_5 : decode cX5_cue 5 = .ok (.astore 4, 2) := by decide +kernel
theorem dX5_cue_7 : decode cX5_cue 7 = .ok (.aload 4, 2) := by decide +kernel
theorem dX5_cue_9 : decode cX5_cue 9 = .ok (.ifnonnull 13, 3) := by decide +kernel
theorem dX5_cue_12 : decode cX5_cue 12 = .ok (.new 72, 3) := by decide +kernel
theorem dX5_cue_15 : decode cX5_cue 15 = .ok (.dup, 1) := by decide +kernel
theorem dX5_cue_16 : decode cX5_cue 16 = .ok (.ldc 132, 2) := by decide +kernel
theorem dX5_cue_18 : decode cX5_cue 18 = .ok (.invokespecial 76, 3) := by decide +kernel
theorem dX5_cue_21 : decode cX5_cue 21 = .ok (.athrow, 1) := by decide +kernel
theorem dX5_cue_22 : decode cX5_cue 22 = .ok (.iload_n 2, 1) := by decide +kernel
theorem dX5_cue_23 : decode cX5_cue 23 = .ok (.iconst 0, 1) := by decide +kernel
theorem dX5_cue_24 : decode cX5_cue 24 = .ok (.aload 4, 2) := by decide +kernel
theorem dX5_cue_26 : decode cX5_cue 26 = .ok (.getfield 77, 3) := by decide +kernel
theorem dX5_cue_29 : decode cX5_cue 29 = .ok (.invokestatic 41, 3) := by decide +kernel
theorem dX5_cue_32 : decode cX5_cue 32 = .ok (.ifCond .eq 13, 3) := by decide +kernel
theorem dX5_cue_35 : decode cX5_cue 35 = .ok (.iload_n 3, 1) := by decide +kernel
theorem dX5_cue_36 : decode cX5_cue 36 = .ok (.iconst 0, 1) := by decide +kernel
theorem dX5_cue_37 : decode cX5_cue 37 = .ok (.bipush 99, 2) := by decide +kernel
theorem dX5_cue_39 : decode cX5_cue 39 = .ok (.invokestatic 41, 3) := by decide +kernel
theorem dX5_cue_42 : decode cX5_cue 42 = .ok (.ifCond .ne 13, 3) := by decide +kernel
theorem dX5_cue_45 : decode cX5_cue 45 = .ok (.new 45, 3) := by decide +kernel
theorem dX5_cue_48 : decode cX5_cue 48 = .ok (.dup, 1) := by decide +kernel
theorem dX5_cue_49 : decode cX5_cue 49 = .ok (.ldc 134, 2) := by decide +kernel
theorem dX5_cue_51 : decode cX5_cue 51 = .ok (.invokespecial 49, 3) := by decide +kernel
theorem dX5_cue_54 : decode cX5_cue 54 = .ok (.athrow, 1) := by decide +kernel
theorem dX5_cue_55 : decode cX5_cue 55 = .ok (.aload 4, 2) := by decide +kernel
theorem dX5_cue_57 : decode cX5_cue 57 = .ok (.invokevirtual 81, 3) := by decide +kernel
theorem dX5_cue_60 : decode cX5_cue 60 = .ok (.bipush 8, 2) := by decide +kernel
theorem dX5_cue_62 : decode cX5_cue 62 = .ok (.if_icmp .lt 13, 3) := by decide +kernel
theorem dX5_cue_65 : decode cX5_cue 65 = .ok (.new 56, 3) := by decide +kernel
theorem dX5_cue_68 : decode cX5_cue 68 = .ok (.dup, 1) := by decide +kernel
theorem dX5_cue_69 : decode cX5_cue 69 = .ok (.ldc 136, 2) := by decide +kernel
theorem dX5_cue_71 : decode cX5_cue 71 = .ok (.invokespecial 60, 3) := by decide +kernel
theorem dX5_cue_74 : decode cX5_cue 74 = .ok (.athrow, 1) := by decide +kernel
theorem dX5_cue_75 : decode cX5_cue 75 = .ok (.aload 4, 2) := by decide +kernel
theorem dX5_cue_77 : decode cX5_cue 77 = .ok (.iload_n 2, 1) := by decide +kernel
theorem dX5_cue_78 : decode cX5_cue 78 = .ok (.iload_n 3, 1) := by decide +kernel
theorem dX5_cue_79 : decode cX5_cue 79 = .ok (.invokevirtual 138, 3) := by decide +kernel
theorem dX5_cue_82 : decode cX5_cue 82 = .ok (.aload 4, 2) := by decide +kernel
theorem dX5_cue_84 : decode cX5_cue 84 = .ok (.invokevirtual 81, 3) := by decide +kernel
theorem dX5_cue_87 : decode cX5_cue 87 = .ok (.ireturn, 1) := by decide +kernel
theorem dX5_mirror_0 : decode cX5_mirror 0 = .ok (.aload_n 0, 1) := by decide +kernel
theorem dX5_mirror_1 : decode cX5_mirror 1 = .ok (.iload_n 1, 1) := by decide +kernel
theorem dX5_mirror_2 : decode cX5_mirror 2 = .ok (.invokevirtual 68, 3) := by decide +kernel
theorem dX5_mirror_5 : decode cX5_mirror 5 = .ok (.astore_n 2, 1) := by decide +kernel
theorem dX5_mirror_6 : decode cX5_mirror 6 = .ok (.aload_n 2, 1) := by decide +kernel
theorem dX5_mirror_7 : decode cX5_mirror 7 = .ok (.ifnonnull 13, 3) := by decide +kernel
theorem dX5_mirror_10 : decode cX5_mirror 10 = .ok (.new 72, 3) := by decide +kernel
theorem dX5_mirror_13 : decode cX5_mirror 13 = .ok (.dup, 1) := by decide +kernel
theorem dX5_mirror_14 : decode cX5_mirror 14 = .ok (.ldc 132, 2) := by decide +kernel
theorem dX5_mirror_16 : decode cX5_mirror 16 = .ok (.invokespecial 76, 3) := by decide +kernel
theorem dX5_mirror_19 : decode cX5_mirror 19 = .ok (.athrow, 1) := by decide +kernel
theorem dX5_mirror_20 : decode cX5_mirror 20 = .ok (.aload_n 2, 1) := by decide +kernel
theorem dX5_mirror_21 : decode cX5_mirror 21 = .ok (.invokevirtual 147, 3) := by decide +kernel
theorem dX5_mirror_24 : decode cX5_mirror 24 = .ok (.aload_n 2, 1) := by decide +kernel
theorem dX5_mirror_25 : decode cX5_mirror 25 = .ok (.getfield 77, 3) := by decide +kernel
theorem dX5_mirror_28 : decode cX5_mirror 28 = .ok (.ireturn, 1) := by decide +kernel
theorem dX5_setBase_0 : decode cX5_setBase 0 = .ok (.iload_n 1, 1) := by decide +kernel
theorem dX5_setBase_1 : decode cX5_setBase 1 = .ok (.invokestatic 166, 3) := by decide +kernel
theorem dX5_setBase_4 : decode cX5_setBase 4 = .ok (.ifCond .ne 13, 3) := by decide +kernel
theorem dX5_setBase_7 : decode cX5_setBase 7 = .ok (.new 72, 3) := by decide +kernel
theorem dX5_setBase_10 : decode cX5_setBase 10 = .ok (.dup, 1) := by decide +kernel
theorem dX5_setBase_11 : decode cX5_setBase 11 = .ok (.ldc 169, 2) := by decide +kernel
theorem dX5_setBase_13 : decode cX5_setBase 13 = .ok (.invokespecial 76, 3) := by decide +kernel
theorem dX5_setBase_16 : decode cX5_setBase 16 = .ok (.athrow, 1) := by decide +kernel
theorem dX5_setBase_17 : decode cX5_setBase 17 = .ok (.iload_n 2, 1) := by decide +kernel
theorem dX5_setBase_18 : decode cX5_setBase 18 = .ok (.invokestatic 93, 3) := by decide +kernel
theorem dX5_setBase_21 : decode cX5_setBase 21 = .ok (.ifCond .ne 13, 3) := by decide +kernel
theorem dX5_setBase_24 : decode cX5_setBase 24 = .ok (.new 45, 3) := by decide +kernel
theorem dX5_setBase_27 : decode cX5_setBase 27 = .ok (.dup, 1) := by decide +kernel
theorem dX5_setBase_28 : decode cX5_setBase 28 = .ok (.ldc 171, 2) := by decide +kernel
theorem dX5_setBase_30 : decode cX5_setBase 30 = .ok (.invokespecial 49, 3) := by decide +kernel
theorem dX5_setBase_33 : decode cX5_setBase 33 = .ok (.athrow, 1) := by decide +kernel
theorem dX5_setBase_34 : decode cX5_setBase 34 = .ok (.aload_n 0, 1) := by decide +kernel
theorem dX5_setBase_35 : decode cX5_setBase 35 = .ok (.getfield 24, 3) := by decide +kernel
theorem dX5_setBase_38 : decode cX5_setBase 38 = .ok (.iload_n 1, 1) := by decide +kernel
theorem dX5_setBase_39 : decode cX5_setBase 39 = .ok (.invokevirtual 173, 3) := by decide +kernel
theorem dX5_setBase_42 : decode cX5_setBase 42 = .ok (.istore_n 3, 1) := by decide +kernel
theorem dX5_setBase_43 : decode cX5_setBase 43 = .ok (.aload_n 0, 1) := by decide +kernel
theorem dX5_setBase_44 : decode cX5_setBase 44 = .ok (.getfield 24, 3) := by decide +kernel
theorem dX5_setBase_47 : decode cX5_setBase 47 = .ok (.iload_n 1, 1) := by decide +kernel
theorem dX5_setBase_48 : decode cX5_setBase 48 = .ok (.iload_n 2, 1) := by decide +kernel
theorem dX5_setBase_49 : decode cX5_setBase 49 = .ok (.invokevirtual 176, 3) := by decide +kernel
theorem dX5_setBase_52 : decode cX5_setBase 52 = .ok (.iload_n 3, 1) := by decide +kernel
theorem dX5_setBase_53 : decode cX5_setBase 53 = .ok (.ireturn, 1) := by decide +kernel
theorem dX5_addStrip_0 : decode cX5_addStrip 0 = .ok (.aload_n 0, 1) := by decide +kernel
theorem dX5_addStrip_1 : decode cX5_addStrip 1 = .ok (.iload_n 1, 1) := by decide +kernel
theorem dX5_addStrip_2 : decode cX5_addStrip 2 = .ok (.invokevirtual 68, 3) := by decide +kernel
theorem dX5_addStrip_5 : decode cX5_addStrip 5 = .ok (.astore 5, 2) := by decide +kernel
theorem dX5_addStrip_7 : decode cX5_addStrip 7 = .ok (.aload 5, 2) := by decide +kernel
theorem dX5_addStrip_9 : decode cX5_addStrip 9 = .ok (.ifnonnull 13, 3) := by decide +kernel
theorem dX5_addStrip_12 : decode cX5_addStrip 12 = .ok (.new 72, 3) := by decide +kernel
theorem dX5_addStrip_15 : decode cX5_addStrip 15 = .ok (.dup, 1) := by decide +kernel
theorem dX5_addStrip_16 : decode cX5_addStrip 16 = .ok (.ldc 132, 2) := by decide +kernel
theorem dX5_addStrip_18 : decode cX5_addStrip 18 = .ok (.invokespecial 76, 3) := by decide +kernel
theorem dX5_addStrip_21 : decode cX5_addStrip 21 = .ok (.athrow, 1) := by decide +kernel
theorem dX5_addStrip_22 : decode cX5_addStrip 22 = .ok (.iload_n 2, 1) := by decide +kernel
theorem dX5_addStrip_23 : decode cX5_addStrip 23 = .ok (.iconst 0, 1) := by decide +kernel
theorem dX5_addStrip_24 : decode cX5_addStrip 24 = .ok (.sipush 5000, 3) := by decide +kernel
theorem dX5_addStrip_27 : decode cX5_addStrip 27 = .ok (.invokestatic 41, 3) := by decide +kernel
theorem dX5_addStrip_30 : decode cX5_addStrip 30 = .ok (.ifCond .eq 23, 3) := by decide +kernel
theorem dX5_addStrip_33 : decode cX5_addStrip 33 = .ok (.iload_n 3, 1) := by decide +kernel
theorem dX5_addStrip_34 : decode cX5_addStrip 34 = .ok (.iconst 1, 1) := by decide +kernel
theorem dX5_addStrip_35 : decode cX5_addStrip 35 = .ok (.bipush 9, 2) := by decide +kernel
theorem dX5_addStrip_37 : decode cX5_addStrip 37 = .ok (.invokestatic 41, 3) := by decide +kernel
theorem dX5_addStrip_40 : decode cX5_addStrip 40 = .ok (.ifCond .eq 13, 3) := by decide +kernel
theorem dX5_addStrip_43 : decode cX5_addStrip 43 = .ok (.iload 4, 2) := by decide +kernel
theorem dX5_addStrip_45 : decode cX5_addStrip 45 = .ok (.iconst 0, 1) := by decide +kernel
theorem dX5_addStrip_46 : decode cX5_addStrip 46 = .ok (.iconst 2, 1) := by decide +kernel
theorem dX5_addStrip_47 : decode cX5_addStrip 47 = .ok (.invokestatic 41, 3) := by decide +kernel
theorem dX5_addStrip_50 : decode cX5_addStrip 50 = .ok (.ifCond .ne 13, 3) := by decide +kernel
theorem dX5_addStrip_53 : decode cX5_addStrip 53 = .ok (.new 45, 3) := by decide +kernel
theorem dX5_addStrip_56 : decode cX5_addStrip 56 = .ok (.dup, 1) := by decide +kernel
theorem dX5_addStrip_57 : decode cX5_addStrip 57 = .ok (.ldc 179, 2) := by decide +kernel
theorem dX5_addStrip_59 : decode cX5_addStrip 59 = .ok (.invokespecial 49, 3) := by decide +kernel
theorem dX5_addStrip_62 : decode cX5_addStrip 62 = .ok (.athrow, 1) := by decide +kernel
theorem dX5_addStrip_63 : decode cX5_addStrip 63 = .ok (.aload_n 0, 1) := by decide +kernel
theorem dX5_addStrip_64 : decode cX5_addStrip 64 = .ok (.getfield 16, 3) := by decide +kernel
theorem dX5_addStrip_67 : decode cX5_addStrip 67 = .ok (.invokevirtual 52, 3) := by decide +kernel
theorem dX5_addStrip_70 : decode cX5_addStrip 70 = .ok (.bipush 10, 2) := by decide +kernel
theorem dX5_addStrip_72 : decode cX5_addStrip 72 = .ok (.if_icmp .lt 13, 3) := by decide +kernel
theorem dX5_addStrip_75 : decode cX5_addStrip 75 = .ok (.new 56, 3) := by decide +kernel
theorem dX5_addStrip_78 : decode cX5_addStrip 78 = .ok (.dup, 1) := by decide +kernel
theorem dX5_addStrip_79 : decode cX5_addStrip 79 = .ok (.ldc 181, 2) := by decide +kernel
theorem dX5_addStrip_81 : decode cX5_addStrip 81 = .ok (.invokespecial 60, 3) := by decide +kernel
theorem dX5_addStrip_84 : decode cX5_addStrip 84 = .ok (.athrow, 1) := by decide +kernel
theorem dX5_addStrip_85 : decode cX5_addStrip 85 = .ok (.aload_n 0, 1) := by decide +kernel
theorem dX5_addStrip_86 : decode cX5_addStrip 86 = .ok (.getfield 16, 3) := by decide +kernel
theorem dX5_addStrip_89 : decode cX5_addStrip 89 = .ok (.new 183, 3) := by decide +kernel
theorem dX5_addStrip_92 : decode cX5_addStrip 92 = .ok (.dup, 1) := by decide +kernel
theorem dX5_addStrip_93 : decode cX5_addStrip 93 = .ok (.aload 5, 2) := by decide +kernel
theorem dX5_addStrip_95 : decode cX5_addStrip 95 = .ok (.iload_n 1, 1) := by decide +kernel
theorem dX5_addStrip_96 : decode cX5_addStrip 96 = .ok (.iload_n 2, 1) := by decide +kernel
theorem dX5_addStrip_97 : decode cX5_addStrip 97 = .ok (.iload_n 3, 1) := by decide +kernel
theorem dX5_addStrip_98 : decode cX5_addStrip 98 = .ok (.iload 4, 2) := by decide +kernel
theorem dX5_addStrip_100 : decode cX5_addStrip 100 = .ok (.invokespecial 185, 3) := by decide +kernel
theorem dX5_addStrip_103 : decode cX5_addStrip 103 = .ok (.invokevirtual 64, 3) := by decide +kernel
theorem dX5_addStrip_106 : decode cX5_addStrip 106 = .ok (.pop, 1) := by decide +kernel
theorem dX5_addStrip_107 : decode cX5_addStrip 107 = .ok (.aload_n 0, 1) := by decide +kernel
theorem dX5_addStrip_108 : decode cX5_addStrip 108 = .ok (.getfield 16, 3) := by decide +kernel
theorem dX5_addStrip_111 : decode cX5_addStrip 111 = .ok (.invokevirtual 52, 3) := by decide +kernel
theorem dX5_addStrip_114 : decode cX5_addStrip 114 = .ok (.iconst 1, 1) := by decide +kernel
theorem dX5_addStrip_115 : decode cX5_addStrip 115 = .ok (.isub, 1) := by decide +kernel
theorem dX5_addStrip_116 : decode cX5_addStrip 116 = .ok (.ireturn, 1) := by decide +kernel
theorem dX5_removeStrip_0 : decode cX5_removeStrip 0 = .ok (.iload_n 1, 1) := by decide +kernel
theorem dX5_removeStrip_1 : decode cX5_removeStrip 1 = .ok (.iconst 0, 1) := by decide +kernel
theorem dX5_removeStrip_2 : decode cX5_removeStrip 2 = .ok (.aload_n 0, 1) := by decide +kernel
theorem dX5_removeStrip_3 : decode cX5_removeStrip 3 = .ok (.getfield 16, 3) := by decide +kernel
theorem dX5_removeStrip_6 : decode cX5_removeStrip 6 = .ok (.invokevirtual 52, 3) := by decide +kernel
theorem dX5_removeStrip_9 : decode cX5_removeStrip 9 = .ok (.iconst 1, 1) := by decide +kernel
theorem dX5_removeStrip_10 : decode cX5_removeStrip 10 = .ok (.isub, 1) := by decide +kernel
theorem dX5_removeStrip_11 : decode cX5_removeStrip 11 = .ok (.invokestatic 41, 3) := by decide +kernel
theorem dX5_removeStrip_14 : decode cX5_removeStrip 14 = .ok (.ifCond .ne 13, 3) := by decide +kernel
theorem dX5_removeStrip_17 : decode cX5_removeStrip 17 = .ok (.new 72, 3) := by decide +kernel
theorem dX5_removeStrip_20 : decode cX5_removeStrip 20 = .ok (.dup, 1) := by decide +kernel
theorem dX5_removeStrip_21 : decode cX5_removeStrip 21 = .ok (.ldc 188, 2) := by decide +kernel
theorem dX5_removeStrip_23 : decode cX5_removeStrip 23 = .ok (.invokespecial 76, 3) := by decide +kernel
theorem dX5_removeStrip_26 : decode cX5_removeStrip 26 = .ok (.athrow, 1) := by decide +kernel
theorem dX5_removeStrip_27 : decode cX5_removeStrip 27 = .ok (.aload_n 0, 1) := by decide +kernel
theorem dX5_removeStrip_28 : decode cX5_removeStrip 28 = .ok (.getfield 16, 3) := by decide +kernel
theorem dX5_removeStrip_31 : decode cX5_removeStrip 31 = .ok (.iload_n 1, 1) := by decide +kernel
theorem dX5_removeStrip_32 : decode cX5_removeStrip 32 = .ok (.invokevirtual 190, 3) := by decide +kernel
theorem dX5_removeStrip_35 : decode cX5_removeStrip 35 = .ok (.pop, 1) := by decide +kernel
theorem dX5_removeStrip_36 : decode cX5_removeStrip 36 = .ok (.aload_n 0, 1) := by decide +kernel
theorem dX5_removeStrip_37 : decode cX5_removeStrip 37 = .ok (.getfield 16, 3) := by decide +kernel
theorem dX5_removeStrip_40 : decode cX5_removeStrip 40 = .ok (.invokevirtual 52, 3) := by decide +kernel
theorem dX5_removeStrip_43 : decode cX5_removeStrip 43 = .ok (.ireturn, 1) := by decide +kernel
theorem dX5_setSpeed_0 : decode cX5_setSpeed 0 = .ok (.aload_n 0, 1) := by decide +kernel
theorem dX5_setSpeed_1 : decode cX5_setSpeed 1 = .ok (.iload_n 1, 1) := by decide +kernel
theorem dX5_setSpeed_2 : decode cX5_setSpeed 2 = .ok (.invokevirtual 194, 3) := by decide +kernel
theorem dX5_setSpeed_5 : decode cX5_setSpeed 5 = .ok (.astore 4, 2) := by decide +kernel
theorem dX5_setSpeed_7 : decode cX5_setSpeed 7 = .ok (.aload 4, 2) := by decide +kernel
theorem dX5_setSpeed_9 : decode cX5_setSpeed 9 = .ok (.ifnonnull 13, 3) := by decide +kernel
theorem dX5_setSpeed_12 : decode cX5_setSpeed 12 = .ok (.new 72, 3) := by decide +kernel
theorem dX5_setSpeed_15 : decode cX5_setSpeed 15 = .ok (.dup, 1) := by decide +kernel
theorem dX5_setSpeed_16 : decode cX5_setSpeed 16 = .ok (.ldc 188, 2) := by decide +kernel
theorem dX5_setSpeed_18 : decode cX5_setSpeed 18 = .ok (.invokespecial 76, 3) := by decide +kernel
theorem dX5_setSpeed_21 : decode cX5_setSpeed 21 = .ok (.athrow, 1) := by decide +kernel
theorem dX5_setSpeed_22 : decode cX5_setSpeed 22 = .ok (.iload_n 2, 1) := by decide +kernel
theorem dX5_setSpeed_23 : decode cX5_setSpeed 23 = .ok (.iconst 1, 1) := by decide +kernel
theorem dX5_setSpeed_24 : decode cX5_setSpeed 24 = .ok (.bipush 9, 2) := by decide +kernel
theorem dX5_setSpeed_26 : decode cX5_setSpeed 26 = .ok (.invokestatic 41, 3) := by decide +kernel
theorem dX5_setSpeed_29 : decode cX5_setSpeed 29 = .ok (.ifCond .eq 13, 3) := by decide +kernel
theorem dX5_setSpeed_32 : decode cX5_setSpeed 32 = .ok (.iload_n 3, 1) := by decide +kernel
theorem dX5_setSpeed_33 : decode cX5_setSpeed 33 = .ok (.iconst 1, 1) := by decide +kernel
theorem dX5_setSpeed_34 : decode cX5_setSpeed 34 = .ok (.bipush 9, 2) := by decide +kernel
theorem dX5_setSpeed_36 : decode cX5_setSpeed 36 = .ok (.invokestatic 41, 3) := by decide +kernel
theorem dX5_setSpeed_39 : decode cX5_setSpeed 39 = .ok (.ifCond .ne 13, 3) := by decide +kernel
theorem dX5_setSpeed_42 : decode cX5_setSpeed 42 = .ok (.new 45, 3) := by decide +kernel
theorem dX5_setSpeed_45 : decode cX5_setSpeed 45 = .ok (.dup, 1) := by decide +kernel
theorem dX5_setSpeed_46 : decode cX5_setSpeed 46 = .ok (.ldc 198, 2) := by decide +kernel
theorem dX5_setSpeed_48 : decode cX5_setSpeed 48 = .ok (.invokespecial 49, 3) := by decide +kernel
theorem dX5_setSpeed_51 : decode cX5_setSpeed 51 = .ok (.athrow, 1) := by decide +kernel
theorem dX5_setSpeed_52 : decode cX5_setSpeed 52 = .ok (.aload 4, 2) := by decide +kernel
theorem dX5_setSpeed_54 : decode cX5_setSpeed 54 = .ok (.iload_n 2, 1) := by decide +kernel
theorem dX5_setSpeed_55 : decode cX5_setSpeed 55 = .ok (.putfield 200, 3) := by decide +kernel
theorem dX5_setSpeed_58 : decode cX5_setSpeed 58 = .ok (.aload 4, 2) := by decide +kernel
theorem dX5_setSpeed_60 : decode cX5_setSpeed 60 = .ok (.iload_n 3, 1) := by decide +kernel
theorem dX5_setSpeed_61 : decode cX5_setSpeed 61 = .ok (.putfield 203, 3) := by decide +kernel
theorem dX5_setSpeed_64 : decode cX5_setSpeed 64 = .ok (.aload 4, 2) := by decide +kernel
theorem dX5_setSpeed_66 : decode cX5_setSpeed 66 = .ok (.invokevirtual 206, 3) := by decide +kernel
theorem dX5_setSpeed_69 : decode cX5_setSpeed 69 = .ok (.ireturn, 1) := by decide +kernel
theorem dX5_setBlend_0 : decode cX5_setBlend 0 = .ok (.aload_n 0, 1) := by decide +kernel
theorem dX5_setBlend_1 : decode cX5_setBlend 1 = .ok (.iload_n 1, 1) := by decide +kernel
theorem dX5_setBlend_2 : decode cX5_setBlend 2 = .ok (.invokevirtual 194, 3) := by decide +kernel
theorem dX5_setBlend_5 : decode cX5_setBlend 5 = .ok (.astore 6, 2) := by decide +kernel
theorem dX5_setBlend_7 : decode cX5_setBlend 7 = .ok (.aload 6, 2) := by decide +kernel
theorem dX5_setBlend_9 : decode cX5_setBlend 9 = .ok (.ifnonnull 13, 3) := by decide +kernel
theorem dX5_setBlend_12 : decode cX5_setBlend 12 = .ok (.new 72, 3) := by decide +kernel
theorem dX5_setBlend_15 : decode cX5_setBlend 15 = .ok (.dup, 1) := by decide +kernel
theorem dX5_setBlend_16 : decode cX5_setBlend 16 = .ok (.ldc 188, 2) := by decide +kernel
theorem dX5_setBlend_18 : decode cX5_setBlend 18 = .ok (.invokespecial 76, 3) := by decide +kernel
theorem dX5_setBlend_21 : decode cX5_setBlend 21 = .ok (.athrow, 1) := by decide +kernel
theorem dX5_setBlend_22 : decode cX5_setBlend 22 = .ok (.iload_n 2, 1) := by decide +kernel
theorem dX5_setBlend_23 : decode cX5_setBlend 23 = .ok (.iconst 0, 1) := by decide +kernel
theorem dX5_setBlend_24 : decode cX5_setBlend 24 = .ok (.bipush 9, 2) := by decide +kernel
theorem dX5_setBlend_26 : decode cX5_setBlend 26 = .ok (.invokestatic 41, 3) := by decide +kernel
theorem dX5_setBlend_29 : decode cX5_setBlend 29 = .ok (.ifCond .eq 13, 3) := by decide +kernel
theorem dX5_setBlend_32 : decode cX5_setBlend 32 = .ok (.iload_n 3, 1) := by decide +kernel
theorem dX5_setBlend_33 : decode cX5_setBlend 33 = .ok (.iconst 0, 1) := by decide +kernel
theorem dX5_setBlend_34 : decode cX5_setBlend 34 = .ok (.bipush 100, 2) := by decide +kernel
theorem dX5_setBlend_36 : decode cX5_setBlend 36 = .ok (.invokestatic 41, 3) := by decide +kernel
theorem dX5_setBlend_39 : decode cX5_setBlend 39 = .ok (.ifCond .ne 13, 3) := by decide +kernel
theorem dX5_setBlend_42 : decode cX5_setBlend 42 = .ok (.new 45, 3) := by decide +kernel
theorem dX5_setBlend_45 : decode cX5_setBlend 45 = .ok (.dup, 1) := by decide +kernel
theorem dX5_setBlend_46 : decode cX5_setBlend 46 = .ok (.ldc 209, 2) := by decide +kernel
theorem dX5_setBlend_48 : decode cX5_setBlend 48 = .ok (.invokespecial 49, 3) := by decide +kernel
theorem dX5_setBlend_51 : decode cX5_setBlend 51 = .ok (.athrow, 1) := by decide +kernel
theorem dX5_setBlend_52 : decode cX5_setBlend 52 = .ok (.aload 6, 2) := by decide +kernel
theorem dX5_setBlend_54 : decode cX5_setBlend 54 = .ok (.getfield 211, 3) := by decide +kernel
theorem dX5_setBlend_57 : decode cX5_setBlend 57 = .ok (.istore 7, 2) := by decide +kernel
theorem dX5_setBlend_59 : decode cX5_setBlend 59 = .ok (.aload 6, 2) := by decide +kernel
theorem dX5_setBlend_61 : decode cX5_setBlend 61 = .ok (.iload_n 2, 1) := by decide +kernel
theorem dX5_setBlend_62 : decode cX5_setBlend 62 = .ok (.putfield 211, 3) := by decide +kernel
theorem dX5_setBlend_65 : decode cX5_setBlend 65 = .ok (.aload 6, 2) := by decide +kernel
theorem dX5_setBlend_67 : decode cX5_setBlend 67 = .ok (.iload_n 3, 1) := by decide +kernel
theorem dX5_setBlend_68 : decode cX5_setBlend 68 = .ok (.putfield 214, 3) := by decide +kernel
theorem dX5_setBlend_71 : decode cX5_setBlend 71 = .ok (.aload 6, 2) := by decide +kernel
theorem dX5_setBlend_73 : decode cX5_setBlend 73 = .ok (.iload 4, 2) := by decide +kernel
theorem dX5_setBlend_75 : decode cX5_setBlend 75 = .ok (.putfield 217, 3) := by decide +kernel
theorem dX5_setBlend_78 : decode cX5_setBlend 78 = .ok (.aload 6, 2) := by decide +kernel
theorem dX5_setBlend_80 : decode cX5_setBlend 80 = .ok (.iload 5, 2) := by decide +kernel
theorem dX5_setBlend_82 : decode cX5_setBlend 82 = .ok (.putfield 221, 3) := by decide +kernel
theorem dX5_setBlend_85 : decode cX5_setBlend 85 = .ok (.iload 7, 2) := by decide +kernel
theorem dX5_setBlend_87 : decode cX5_setBlend 87 = .ok (.ireturn, 1) := by decide +kernel
theorem dX5_setFade_0 : decode cX5_setFade 0 = .ok (.aload_n 0, 1) := by decide +kernel
theorem dX5_setFade_1 : decode cX5_setFade 1 = .ok (.iload_n 1, 1) := by decide +kernel
theorem dX5_setFade_2 : decode cX5_setFade 2 = .ok (.invokevirtual 194, 3) := by decide +kernel
theorem dX5_setFade_5 : decode cX5_setFade 5 = .ok (.astore 4, 2) := by decide +kernel
theorem dX5_setFade_7 : decode cX5_setFade 7 = .ok (.aload 4, 2) := by decide +kernel
theorem dX5_setFade_9 : decode cX5_setFade 9 = .ok (.ifnonnull 13, 3) := by decide +kernel
theorem dX5_setFade_12 : decode cX5_setFade 12 = .ok (.new 72, 3) := by decide +kernel
theorem dX5_setFade_15 : decode cX5_setFade 15 = .ok (.dup, 1) := by decide +kernel
theorem dX5_setFade_16 : decode cX5_setFade 16 = .ok (.ldc 188, 2) := by decide +kernel
theorem dX5_setFade_18 : decode cX5_setFade 18 = .ok (.invokespecial 76, 3) := by decide +kernel
theorem dX5_setFade_21 : decode cX5_setFade 21 = .ok (.athrow, 1) := by decide +kernel
theorem dX5_setFade_22 : decode cX5_setFade 22 = .ok (.iload_n 2, 1) := by decide +kernel
theorem dX5_setFade_23 : decode cX5_setFade 23 = .ok (.iconst 0, 1) := by decide +kernel
theorem dX5_setFade_24 : decode cX5_setFade 24 = .ok (.sipush 2000, 3) := by decide +kernel
theorem dX5_setFade_27 : decode cX5_setFade 27 = .ok (.invokestatic 41, 3) := by decide +kernel
theorem dX5_setFade_30 : decode cX5_setFade 30 = .ok (.ifCond .eq 14, 3) := by decide +kernel
theorem dX5_setFade_33 : decode cX5_setFade 33 = .ok (.iload_n 3, 1) := by decide +kernel
theorem dX5_setFade_34 : decode cX5_setFade 34 = .ok (.iconst 0, 1) := by decide +kernel
theorem dX5_setFade_35 : decode cX5_setFade 35 = .ok (.sipush 2000, 3) := by decide +kernel
theorem dX5_setFade_38 : decode cX5_setFade 38 = .ok (.invokestatic 41, 3) := by decide +kernel
theorem dX5_setFade_41 : decode cX5_setFade 41 = .ok (.ifCond .ne 13, 3) := by decide +kernel
theorem dX5_setFade_44 : decode cX5_setFade 44 = .ok (.new 45, 3) := by decide +kernel
theorem dX5_setFade_47 : decode cX5_setFade 47 = .ok (.dup, 1) := by decide +kernel
theorem dX5_setFade_48 : decode cX5_setFade 48 = .ok (.ldc 224, 2) := by decide +kernel
theorem dX5_setFade_50 : decode cX5_setFade 50 = .ok (.invokespecial 49, 3) := by decide +kernel
theorem dX5_setFade_53 : decode cX5_setFade 53 = .ok (.athrow, 1) := by decide +kernel
theorem dX5_setFade_54 : decode cX5_setFade 54 = .ok (.aload 4, 2) := by decide +kernel
theorem dX5_setFade_56 : decode cX5_setFade 56 = .ok (.getfield 226, 3) := by decide +kernel
theorem dX5_setFade_59 : decode cX5_setFade 59 = .ok (.istore 5, 2) := by decide +kernel
theorem dX5_setFade_61 : decode cX5_setFade 61 = .ok (.aload 4, 2) := by decide +kernel
theorem dX5_setFade_63 : decode cX5_setFade 63 = .ok (.iload_n 2, 1) := by decide +kernel
theorem dX5_setFade_64 : decode cX5_setFade 64 = .ok (.putfield 226, 3) := by decide +kernel
theorem dX5_setFade_67 : decode cX5_setFade 67 = .ok (.aload 4, 2) := by decide +kernel
theorem dX5_setFade_69 : decode cX5_setFade 69 = .ok (.iload_n 3, 1) := by decide +kernel
theorem dX5_setFade_70 : decode cX5_setFade 70 = .ok (.putfield 229, 3) := by decide +kernel
theorem dX5_setFade_73 : decode cX5_setFade 73 = .ok (.iload 5, 2) := by decide +kernel
theorem dX5_setFade_75 : decode cX5_setFade 75 = .ok (.ireturn, 1) := by decide +kernel
theorem dX5_end_0 : decode cX5_end 0 = .ok (.iconst 0, 1) := by decide +kernel
theorem dX5_end_1 : decode cX5_end 1 = .ok (.istore_n 1, 1) := by decide +kernel
theorem dX5_end_2 : decode cX5_end 2 = .ok (.iconst 0, 1) := by decide +kernel
theorem dX5_end_3 : decode cX5_end 3 = .ok (.istore_n 2, 1) := by decide +kernel
theorem dX5_end_4 : decode cX5_end 4 = .ok (.iload_n 2, 1) := by decide +kernel
theorem dX5_end_5 : decode cX5_end 5 = .ok (.aload_n 0, 1) := by decide +kernel
theorem dX5_end_6 : decode cX5_end 6 = .ok (.getfield 16, 3) := by decide +kernel
theorem dX5_end_9 : decode cX5_end 9 = .ok (.invokevirtual 52, 3) := by decide +kernel
theorem dX5_end_12 : decode cX5_end 12 = .ok (.if_icmp .ge 28, 3) := by decide +kernel
theorem dX5_end_15 : decode cX5_end 15 = .ok (.iload_n 1, 1) := by decide +kernel
theorem dX5_end_16 : decode cX5_end 16 = .ok (.aload_n 0, 1) := by decide +kernel
theorem dX5_end_17 : decode cX5_end 17 = .ok (.getfield 16, 3) := by decide +kernel
theorem dX5_end_20 : decode cX5_end 20 = .ok (.iload_n 2, 1) := by decide +kernel
theorem dX5_end_21 : decode cX5_end 21 = .ok (.invokevirtual 250, 3) := by decide +kernel
theorem dX5_end_24 : decode cX5_end 24 = .ok (.checkcast 183, 3) := by decide +kernel
theorem dX5_end_27 : decode cX5_end 27 = .ok (.invokevirtual 206, 3) := by decide +kernel
theorem dX5_end_30 : decode cX5_end 30 = .ok (.invokestatic 252, 3) := by decide +kernel
theorem dX5_end_33 : decode cX5_end 33 = .ok (.istore_n 1, 1) := by decide +kernel
theorem dX5_end_34 : decode cX5_end 34 = .ok (.iinc 2 1, 3) := by decide +kernel
theorem dX5_end_37 : decode cX5_end 37 = .ok (.goto (-33), 3) := by decide +kernel
theorem dX5_end_40 : decode cX5_end 40 = .ok (.iload_n 1, 1) := by decide +kernel
theorem dX5_end_41 : decode cX5_end 41 = .ok (.ireturn, 1) := by decide +kernel
theorem dX5_at_0 : decode cX5_at 0 = .ok (.iload_n 1, 1) := by decide +kernel
theorem dX5_at_1 : decode cX5_at 1 = .ok (.invokestatic 166, 3) := by decide +kernel
theorem dX5_at_4 : decode cX5_at 4 = .ok (.ifCond .ne 13, 3) := by decide +kernel
theorem dX5_at_7 : decode cX5_at 7 = .ok (.new 72, 3) := by decide +kernel
theorem dX5_at_10 : decode cX5_at 10 = .ok (.dup, 1) := by decide +kernel
theorem dX5_at_11 : decode cX5_at 11 = .ok (.ldc 169, 2) := by decide +kernel
theorem dX5_at_13 : decode cX5_at 13 = .ok (.invokespecial 76, 3) := by decide +kernel
theorem dX5_at_16 : decode cX5_at 16 = .ok (.athrow, 1) := by decide +kernel
theorem dX5_at_17 : decode cX5_at 17 = .ok (.iload_n 2, 1) := by decide +kernel
theorem dX5_at_18 : decode cX5_at 18 = .ok (.invokestatic 236, 3) := by decide +kernel
theorem dX5_at_21 : decode cX5_at 21 = .ok (.ifCond .ne 13, 3) := by decide +kernel
theorem dX5_at_24 : decode cX5_at 24 = .ok (.new 45, 3) := by decide +kernel
theorem dX5_at_27 : decode cX5_at 27 = .ok (.dup, 1) := by decide +kernel
theorem dX5_at_28 : decode cX5_at 28 = .ok (.ldc 239, 2) := by decide +kernel
theorem dX5_at_30 : decode cX5_at 30 = .ok (.invokespecial 49, 3) := by decide +kernel
theorem dX5_at_33 : decode cX5_at 33 = .ok (.athrow, 1) := by decide +kernel
theorem dX5_at_34 : decode cX5_at 34 = .ok (.aload_n 0, 1) := by decide +kernel
theorem dX5_at_35 : decode cX5_at 35 = .ok (.invokevirtual 257, 3) := by decide +kernel
theorem dX5_at_38 : decode cX5_at 38 = .ok (.aload_n 0, 1) := by decide +kernel
theorem dX5_at_39 : decode cX5_at 39 = .ok (.iload_n 1, 1) := by decide +kernel
theorem dX5_at_40 : decode cX5_at 40 = .ok (.iload_n 2, 1) := by decide +kernel
theorem dX5_at_41 : decode cX5_at 41 = .ok (.invokevirtual 260, 3) := by decide +kernel
theorem dX5_at_44 : decode cX5_at 44 = .ok (.ireturn, 1) := by decide +kernel
theorem dX5_play_0 : decode cX5_play 0 = .ok (.iload_n 1, 1) := by decide +kernel
theorem dX5_play_1 : decode cX5_play 1 = .ok (.invokestatic 236, 3) := by decide +kernel
theorem dX5_play_4 : decode cX5_play 4 = .ok (.ifCond .eq 14, 3) := by decide +kernel
theorem dX5_play_7 : decode cX5_play 7 = .ok (.iload_n 2, 1) := by decide +kernel
theorem dX5_play_8 : decode cX5_play 8 = .ok (.iload_n 1, 1) := by decide +kernel
theorem dX5_play_9 : decode cX5_play 9 = .ok (.ldc_w 264, 3) := by decide +kernel
theorem dX5_play_12 : decode cX5_play 12 = .ok (.invokestatic 41, 3) := by decide +kernel
theorem dX5_play_15 : decode cX5_play 15 = .ok (.ifCond .ne 14, 3) := by decide +kernel
theorem dX5_play_18 : decode cX5_play 18 = .ok (.new 45, 3) := by decide +kernel
theorem dX5_play_21 : decode cX5_play 21 = .ok (.dup, 1) := by decide +kernel
theorem dX5_play_22 : decode cX5_play 22 = .ok (.ldc_w 265, 3) := by decide +kernel
theorem dX5_play_25 : decode cX5_play 25 = .ok (.invokespecial 49, 3) := by decide +kernel
theorem dX5_play_28 : decode cX5_play 28 = .ok (.athrow, 1) := by decide +kernel
theorem dX5_play_29 : decode cX5_play 29 = .ok (.aload_n 0, 1) := by decide +kernel
theorem dX5_play_30 : decode cX5_play 30 = .ok (.getfield 37, 3) := by decide +kernel
theorem dX5_play_33 : decode cX5_play 33 = .ok (.invokevirtual 267, 3) := by decide +kernel
theorem dX5_play_36 : decode cX5_play 36 = .ok (.iconst 0, 1) := by decide +kernel
theorem dX5_play_37 : decode cX5_play 37 = .ok (.istore_n 3, 1) := by decide +kernel
theorem dX5_play_38 : decode cX5_play 38 = .ok (.iload_n 3, 1) := by decide +kernel
theorem dX5_play_39 : decode cX5_play 39 = .ok (.aload_n 0, 1) := by decide +kernel
theorem dX5_play_40 : decode cX5_play 40 = .ok (.getfield 16, 3) := by decide +kernel
theorem dX5_play_43 : decode cX5_play 43 = .ok (.invokevirtual 52, 3) := by decide +kernel
theorem dX5_play_46 : decode cX5_play 46 = .ok (.if_icmp .ge 27, 3) := by decide +kernel
theorem dX5_play_49 : decode cX5_play 49 = .ok (.aload_n 0, 1) := by decide +kernel
theorem dX5_play_50 : decode cX5_play 50 = .ok (.aload_n 0, 1) := by decide +kernel
theorem dX5_play_51 : decode cX5_play 51 = .ok (.getfield 16, 3) := by decide +kernel
theorem dX5_play_54 : decode cX5_play 54 = .ok (.iload_n 3, 1) := by decide +kernel
theorem dX5_play_55 : decode cX5_play 55 = .ok (.invokevirtual 250, 3) := by decide +kernel
theorem dX5_play_58 : decode cX5_play 58 = .ok (.checkcast 183, 3) := by decide +kernel
theorem dX5_play_61 : decode cX5_play 61 = .ok (.iload_n 3, 1) := by decide +kernel
theorem dX5_play_62 : decode cX5_play 62 = .ok (.iload_n 1, 1) := by decide +kernel
theorem dX5_play_63 : decode cX5_play 63 = .ok (.iload_n 2, 1) := by decide +kernel
theorem dX5_play_64 : decode cX5_play 64 = .ok (.invokevirtual 270, 3) := by decide +kernel
theorem dX5_play_67 : decode cX5_play 67 = .ok (.iinc 3 1, 3) := by decide +kernel
theorem dX5_play_70 : decode cX5_play 70 = .ok (.goto (-32), 3) := by decide +kernel
theorem dX5_play_73 : decode cX5_play 73 = .ok (.aload_n 0, 1) := by decide +kernel
theorem dX5_play_74 : decode cX5_play 74 = .ok (.getfield 37, 3) := by decide +kernel
theorem dX5_play_77 : decode cX5_play 77 = .ok (.getfield 274, 3) := by decide +kernel
theorem dX5_play_80 : decode cX5_play 80 = .ok (.ireturn, 1) := by decide +kernel
theorem dX5_met_0 : decode cX5_met 0 = .ok (.iload_n 1, 1) := by decide +kernel
theorem dX5_met_1 : decode cX5_met 1 = .ok (.iconst 0, 1) := by decide +kernel
theorem dX5_met_2 : decode cX5_met 2 = .ok (.aload_n 0, 1) := by decide +kernel
theorem dX5_met_3 : decode cX5_met 3 = .ok (.getfield 37, 3) := by decide +kernel
theorem dX5_met_6 : decode cX5_met 6 = .ok (.invokevirtual 276, 3) := by decide +kernel
theorem dX5_met_9 : decode cX5_met 9 = .ok (.iconst 1, 1) := by decide +kernel
theorem dX5_met_10 : decode cX5_met 10 = .ok (.isub, 1) := by decide +kernel
theorem dX5_met_11 : decode cX5_met 11 = .ok (.invokestatic 41, 3) := by decide +kernel
theorem dX5_met_14 : decode cX5_met 14 = .ok (.ifCond .eq 12, 3) := by decide +kernel
theorem dX5_met_17 : decode cX5_met 17 = .ok (.iload_n 2, 1) := by decide +kernel
theorem dX5_met_18 : decode cX5_met 18 = .ok (.iconst 0, 1) := by decide +kernel
theorem dX5_met_19 : decode cX5_met 19 = .ok (.iconst 3, 1) := by decide +kernel
theorem dX5_met_20 : decode cX5_met 20 = .ok (.invokestatic 41, 3) := by decide +kernel
theorem dX5_met_23 : decode cX5_met 23 = .ok (.ifCond .ne 14, 3) := by decide +kernel
theorem dX5_met_26 : decode cX5_met 26 = .ok (.new 72, 3) := by decide +kernel
theorem dX5_met_29 : decode cX5_met 29 = .ok (.dup, 1) := by decide +kernel
theorem dX5_met_30 : decode cX5_met 30 = .ok (.ldc_w 279, 3) := by decide +kernel
theorem dX5_met_33 : decode cX5_met 33 = .ok (.invokespecial 76, 3) := by decide +kernel
theorem dX5_met_36 : decode cX5_met 36 = .ok (.athrow, 1) := by decide +kernel
theorem dX5_met_37 : decode cX5_met 37 = .ok (.aload_n 0, 1) := by decide +kernel
theorem dX5_met_38 : decode cX5_met 38 = .ok (.getfield 37, 3) := by decide +kernel
theorem dX5_met_41 : decode cX5_met 41 = .ok (.iload_n 1, 1) := by decide +kernel
theorem dX5_met_42 : decode cX5_met 42 = .ok (.iload_n 2, 1) := by decide +kernel
theorem dX5_met_43 : decode cX5_met 43 = .ok (.invokevirtual 281, 3) := by decide +kernel
theorem dX5_met_46 : decode cX5_met 46 = .ok (.ireturn, 1) := by decide +kernel
theorem dX5_clipOrNull_0 : decode cX5_clipOrNull 0 = .ok (.iload_n 1, 1) := by decide +kernel
theorem dX5_clipOrNull_1 : decode cX5_clipOrNull 1 = .ok (.ifCond .lt 28, 3) := by decide +kernel
theorem dX5_clipOrNull_4 : decode cX5_clipOrNull 4 = .ok (.iload_n 1, 1) := by decide +kernel
theorem dX5_clipOrNull_5 : decode cX5_clipOrNull 5 = .ok (.aload_n 0, 1) := by decide +kernel
theorem dX5_clipOrNull_6 : decode cX5_clipOrNull 6 = .ok (.getfield 10, 3) := by decide +kernel
theorem dX5_clipOrNull_9 : decode cX5_clipOrNull 9 = .ok (.invokevirtual 52, 3) := by decide +kernel
theorem dX5_clipOrNull_12 : decode cX5_clipOrNull 12 = .ok (.if_icmp .ge 17, 3) := by decide +kernel
theorem dX5_clipOrNull_15 : decode cX5_clipOrNull 15 = .ok (.aload_n 0, 1) := by decide +kernel
theorem dX5_clipOrNull_16 : decode cX5_clipOrNull 16 = .ok (.getfield 10, 3) := by decide +kernel
theorem dX5_clipOrNull_19 : decode cX5_clipOrNull 19 = .ok (.iload_n 1, 1) := by decide +kernel
theorem dX5_clipOrNull_20 : decode cX5_clipOrNull 20 = .ok (.invokevirtual 250, 3) := by decide +kernel
theorem dX5_clipOrNull_23 : decode cX5_clipOrNull 23 = .ok (.checkcast 61, 3) := by decide +kernel
theorem dX5_clipOrNull_26 : decode cX5_clipOrNull 26 = .ok (.goto 4, 3) := by decide +kernel
theorem dX5_clipOrNull_29 : decode cX5_clipOrNull 29 = .ok (.aconst_null, 1) := by decide +kernel
theorem dX5_clipOrNull_30 : decode cX5_clipOrNull 30 = .ok (.areturn, 1) := by decide +kernel
theorem dX5_stripOrNull_0 : decode cX5_stripOrNull 0 = .ok (.iload_n 1, 1) := by decide +kernel
theorem dX5_stripOrNull_1 : decode cX5_stripOrNull 1 = .ok (.ifCond .lt 28, 3) := by decide +kernel
theorem dX5_stripOrNull_4 : decode cX5_stripOrNull 4 = .ok (.iload_n 1, 1) := by decide +kernel
theorem dX5_stripOrNull_5 : decode cX5_stripOrNull 5 = .ok (.aload_n 0, 1) := by decide +kernel
theorem dX5_stripOrNull_6 : decode cX5_stripOrNull 6 = .ok (.getfield 16, 3) := by decide +kernel
theorem dX5_stripOrNull_9 : decode cX5_stripOrNull 9 = .ok (.invokevirtual 52, 3) := by decide +kernel
theorem dX5_stripOrNull_12 : decode cX5_stripOrNull 12 = .ok (.if_icmp .ge 17, 3) := by decide +kernel
theorem dX5_stripOrNull_15 : decode cX5_stripOrNull 15 = .ok (.aload_n 0, 1) := by decide +kernel
theorem dX5_stripOrNull_16 : decode cX5_stripOrNull 16 = .ok (.getfield 16, 3) := by decide +kernel
theorem dX5_stripOrNull_19 : decode cX5_stripOrNull 19 = .ok (.iload_n 1, 1) := by decide +kernel
theorem dX5_stripOrNull_20 : decode cX5_stripOrNull 20 = .ok (.invokevirtual 250, 3) := by decide +kernel
theorem dX5_stripOrNull_23 : decode cX5_stripOrNull 23 = .ok (.checkcast 183, 3) := by decide +kernel
theorem dX5_stripOrNull_26 : decode cX5_stripOrNull 26 = .ok (.goto 4, 3) := by decide +kernel
theorem dX5_stripOrNull_29 : decode cX5_stripOrNull 29 = .ok (.aconst_null, 1) := by decide +kernel
theorem dX5_stripOrNull_30 : decode cX5_stripOrNull 30 = .ok (.areturn, 1) := by decide +kernel
theorem dX5_trackOrNull_0 : decode cX5_trackOrNull 0 = .ok (.aload_n 0, 1) := by decide +kernel
theorem dX5_trackOrNull_1 : decode cX5_trackOrNull 1 = .ok (.ifnonnull 7, 3) := by decide +kernel
theorem dX5_trackOrNull_4 : decode cX5_trackOrNull 4 = .ok (.aconst_null, 1) := by decide +kernel
theorem dX5_trackOrNull_5 : decode cX5_trackOrNull 5 = .ok (.goto 8, 3) := by decide +kernel
theorem dX5_trackOrNull_8 : decode cX5_trackOrNull 8 = .ok (.aload_n 0, 1) := by decide +kernel
theorem dX5_trackOrNull_9 : decode cX5_trackOrNull 9 = .ok (.iload_n 1, 1) := by decide +kernel
theorem dX5_trackOrNull_10 : decode cX5_trackOrNull 10 = .ok (.invokevirtual 293, 3) := by decide +kernel
theorem dX5_trackOrNull_13 : decode cX5_trackOrNull 13 = .ok (.areturn, 1) := by decide +kernel
theorem dX5_isIn_0 : decode cX5_isIn 0 = .ok (.iload_n 0, 1) := by decide +kernel
theorem dX5_isIn_1 : decode cX5_isIn 1 = .ok (.iload_n 1, 1) := by decide +kernel
theorem dX5_isIn_2 : decode cX5_isIn 2 = .ok (.if_icmp .lt 12, 3) := by decide +kernel
theorem dX5_isIn_5 : decode cX5_isIn 5 = .ok (.iload_n 0, 1) := by decide +kernel
theorem dX5_isIn_6 : decode cX5_isIn 6 = .ok (.iload_n 2, 1) := by decide +kernel
theorem dX5_isIn_7 : decode cX5_isIn 7 = .ok (.if_icmp .gt 7, 3) := by decide +kernel
theorem dX5_isIn_10 : decode cX5_isIn 10 = .ok (.iconst 1, 1) := by decide +kernel
theorem dX5_isIn_11 : decode cX5_isIn 11 = .ok (.goto 4, 3) := by decide +kernel
theorem dX5_isIn_14 : decode cX5_isIn 14 = .ok (.iconst 0, 1) := by decide +kernel
theorem dX5_isIn_15 : decode cX5_isIn 15 = .ok (.ireturn, 1) := by decide +kernel
theorem dX5_isProperty_0 : decode cX5_isProperty 0 = .ok (.iload_n 0, 1) := by decide +kernel
theorem dX5_isProperty_1 : decode cX5_isProperty 1 = .ok (.iconst 0, 1) := by decide +kernel
theorem dX5_isProperty_2 : decode cX5_isProperty 2 = .ok (.iconst 3, 1) := by decide +kernel
theorem dX5_isProperty_3 : decode cX5_isProperty 3 = .ok (.invokestatic 41, 3) := by decide +kernel
theorem dX5_isProperty_6 : decode cX5_isProperty 6 = .ok (.ireturn, 1) := by decide +kernel
theorem dX5_isValue_0 : decode cX5_isValue 0 = .ok (.iload_n 0, 1) := by decide +kernel
theorem dX5_isValue_1 : decode cX5_isValue 1 = .ok (.sipush (-10000), 3) := by decide +kernel
theorem dX5_isValue_4 : decode cX5_isValue 4 = .ok (.sipush 10000, 3) := by decide +kernel
theorem dX5_isValue_7 : decode cX5_isValue 7 = .ok (.invokestatic 41, 3) := by decide +kernel
theorem dX5_isValue_10 : decode cX5_isValue 10 = .ok (.ireturn, 1) := by decide +kernel
theorem dX5_isTime_0 : decode cX5_isTime 0 = .ok (.iload_n 0, 1) := by decide +kernel
theorem dX5_isTime_1 : decode cX5_isTime 1 = .ok (.iconst 0, 1) := by decide +kernel
theorem dX5_isTime_2 : decode cX5_isTime 2 = .ok (.ldc_w 264, 3) := by decide +kernel
theorem dX5_isTime_5 : decode cX5_isTime 5 = .ok (.invokestatic 41, 3) := by decide +kernel
theorem dX5_isTime_8 : decode cX5_isTime 8 = .ok (.ireturn, 1) := by decide +kernel
theorem dX5_sortByLayers_0 : decode cX5_sortByLayers 0 = .ok (.aload_n 0, 1) := by decide +kernel
theorem dX5_sortByLayers_1 : decode cX5_sortByLayers 1 = .ok (.getfield 31, 3) := by decide +kernel
theorem dX5_sortByLayers_4 : decode cX5_sortByLayers 4 = .ok (.iconst 0, 1) := by decide +kernel
theorem dX5_sortByLayers_5 : decode cX5_sortByLayers 5 = .ok (.invokevirtual 296, 3) := by decide +kernel
theorem dX5_sortByLayers_8 : decode cX5_sortByLayers 8 = .ok (.iconst 0, 1) := by decide +kernel
theorem dX5_sortByLayers_9 : decode cX5_sortByLayers 9 = .ok (.istore_n 1, 1) := by decide +kernel
theorem dX5_sortByLayers_10 : decode cX5_sortByLayers 10 = .ok (.iload_n 1, 1) := by decide +kernel
theorem dX5_sortByLayers_11 : decode cX5_sortByLayers 11 = .ok (.bipush 9, 2) := by decide +kernel
theorem dX5_sortByLayers_13 : decode cX5_sortByLayers 13 = .ok (.if_icmp .gt 54, 3) := by decide +kernel
theorem dX5_sortByLayers_16 : decode cX5_sortByLayers 16 = .ok (.iconst 0, 1) := by decide +kernel
theorem dX5_sortByLayers_17 : decode cX5_sortByLayers 17 = .ok (.istore_n 2, 1) := by decide +kernel
theorem dX5_sortByLayers_18 : decode cX5_sortByLayers 18 = .ok (.iload_n 2, 1) := by decide +kernel
theorem dX5_sortByLayers_19 : decode cX5_sortByLayers 19 = .ok (.aload_n 0, 1) := by decide +kernel
theorem dX5_sortByLayers_20 : decode cX5_sortByLayers 20 = .ok (.getfield 16, 3) := by decide +kernel
theorem dX5_sortByLayers_23 : decode cX5_sortByLayers 23 = .ok (.invokevirtual 52, 3) := by decide +kernel
theorem dX5_sortByLayers_26 : decode cX5_sortByLayers 26 = .ok (.if_icmp .ge 35, 3) := by decide +kernel
theorem dX5_sortByLayers_29 : decode cX5_sortByLayers 29 = .ok (.aload_n 0, 1) := by decide +kernel
theorem dX5_sortByLayers_30 : decode cX5_sortByLayers 30 = .ok (.getfield 16, 3) := by decide +kernel
theorem dX5_sortByLayers_33 : decode cX5_sortByLayers 33 = .ok (.iload_n 2, 1) := by decide +kernel
theorem dX5_sortByLayers_34 : decode cX5_sortByLayers 34 = .ok (.invokevirtual 250, 3) := by decide +kernel
theorem dX5_sortByLayers_37 : decode cX5_sortByLayers 37 = .ok (.checkcast 183, 3) := by decide +kernel
theorem dX5_sortByLayers_40 : decode cX5_sortByLayers 40 = .ok (.getfield 211, 3) := by decide +kernel
theorem dX5_sortByLayers_43 : decode cX5_sortByLayers 43 = .ok (.iload_n 1, 1) := by decide +kernel
theorem dX5_sortByLayers_44 : decode cX5_sortByLayers 44 = .ok (.if_icmp .ne 11, 3) := by decide +kernel
theorem dX5_sortByLayers_47 : decode cX5_sortByLayers 47 = .ok (.aload_n 0, 1) := by decide +kernel
theorem dX5_sortByLayers_48 : decode cX5_sortByLayers 48 = .ok (.getfield 31, 3) := by decide +kernel
theorem dX5_sortByLayers_51 : decode cX5_sortByLayers 51 = .ok (.iload_n 2, 1) := by decide +kernel
theorem dX5_sortByLayers_52 : decode cX5_sortByLayers 52 = .ok (.invokevirtual 28, 3) := by decide +kernel
theorem dX5_sortByLayers_55 : decode cX5_sortByLayers 55 = .ok (.iinc 2 1, 3) := by decide +kernel
theorem dX5_sortByLayers_58 : decode cX5_sortByLayers 58 = .ok (.goto (-40), 3) := by decide +kernel
theorem dX5_sortByLayers_61 : decode cX5_sortByLayers 61 = .ok (.iinc 1 1, 3) := by decide +kernel
theorem dX5_sortByLayers_64 : decode cX5_sortByLayers 64 = .ok (.goto (-54), 3) := by decide +kernel
theorem dX5_sortByLayers_67 : decode cX5_sortByLayers 67 = .ok (.return_, 1) := by decide +kernel
theorem dX5_valueAt_0 : decode cX5_valueAt 0 = .ok (.aload_n 0, 1) := by decide +kernel
theorem dX5_valueAt_1 : decode cX5_valueAt 1 = .ok (.getfield 24, 3) := by decide +kernel
theorem dX5_valueAt_4 : decode cX5_valueAt 4 = .ok (.iload_n 1, 1) := by decide +kernel
theorem dX5_valueAt_5 : decode cX5_valueAt 5 = .ok (.invokevirtual 173, 3) := by decide +kernel
theorem dX5_valueAt_8 : decode cX5_valueAt 8 = .ok (.istore_n 3, 1) := by decide +kernel
theorem dX5_valueAt_9 : decode cX5_valueAt 9 = .ok (.iconst 0, 1) := by decide +kernel
theorem dX5_valueAt_10 : decode cX5_valueAt 10 = .ok (.istore 4, 2) := by decide +kernel
theorem dX5_valueAt_12 : decode cX5_valueAt 12 = .ok (.iload 4, 2) := by decide +kernel
theorem dX5_valueAt_14 : decode cX5_valueAt 14 = .ok (.aload_n 0, 1) := by decide +kernel
theorem dX5_valueAt_15 : decode cX5_valueAt 15 = .ok (.getfield 31, 3) := by decide +kernel
theorem dX5_valueAt_18 : decode cX5_valueAt 18 = .ok (.invokevirtual 299, 3) := by decide +kernel
theorem dX5_valueAt_21 : decode cX5_valueAt 21 = .ok (.if_icmp .ge 38, 3) := by decide +kernel
theorem dX5_valueAt_24 : decode cX5_valueAt 24 = .ok (.aload_n 0, 1) := by decide +kernel
theorem dX5_valueAt_25 : decode cX5_valueAt 25 = .ok (.aload_n 0, 1) := by decide +kernel
theorem dX5_valueAt_26 : decode cX5_valueAt 26 = .ok (.getfield 31, 3) := by decide +kernel
theorem dX5_valueAt_29 : decode cX5_valueAt 29 = .ok (.iload 4, 2) := by decide +kernel
theorem dX5_valueAt_31 : decode cX5_valueAt 31 = .ok (.invokevirtual 173, 3) := by decide +kernel
theorem dX5_valueAt_34 : decode cX5_valueAt 34 = .ok (.invokevirtual 194, 3) := by decide +kernel
theorem dX5_valueAt_37 : decode cX5_valueAt 37 = .ok (.astore 5, 2) := by decide +kernel
theorem dX5_valueAt_39 : decode cX5_valueAt 39 = .ok (.aload 5, 2) := by decide +kernel
theorem dX5_valueAt_41 : decode cX5_valueAt 41 = .ok (.ifnull 12, 3) := by decide +kernel
theorem dX5_valueAt_44 : decode cX5_valueAt 44 = .ok (.aload 5, 2) := by decide +kernel
theorem dX5_valueAt_46 : decode cX5_valueAt 46 = .ok (.iload_n 3, 1) := by decide +kernel
theorem dX5_valueAt_47 : decode cX5_valueAt 47 = .ok (.iload_n 1, 1) := by decide +kernel
theorem dX5_valueAt_48 : decode cX5_valueAt 48 = .ok (.iload_n 2, 1) := by decide +kernel
theorem dX5_valueAt_49 : decode cX5_valueAt 49 = .ok (.invokevirtual 300, 3) := by decide +kernel
theorem dX5_valueAt_52 : decode cX5_valueAt 52 = .ok (.istore_n 3, 1) := by decide +kernel
theorem dX5_valueAt_53 : decode cX5_valueAt 53 = .ok (.iinc 4 1, 3) := by decide +kernel
theorem dX5_valueAt_56 : decode cX5_valueAt 56 = .ok (.goto (-44), 3) := by decide +kernel
theorem dX5_valueAt_59 : decode cX5_valueAt 59 = .ok (.iload_n 3, 1) := by decide +kernel
theorem dX5_valueAt_60 : decode cX5_valueAt 60 = .ok (.ireturn, 1) := by decide +kernel
theorem dX5_noteCues_0 : decode cX5_noteCues 0 = .ok (.aload_n 1, 1) := by decide +kernel
theorem dX5_noteCues_1 : decode cX5_noteCues 1 = .ok (.getfield 304, 3) := by decide +kernel
theorem dX5_noteCues_4 : decode cX5_noteCues 4 = .ok (.astore 5, 2) := by decide +kernel
theorem dX5_noteCues_6 : decode cX5_noteCues 6 = .ok (.aload 5, 2) := by decide +kernel
theorem dX5_noteCues_8 : decode cX5_noteCues 8 = .ok (.invokevirtual 81, 3) := by decide +kernel
theorem dX5_noteCues_11 : decode cX5_noteCues 11 = .ok (.istore 6, 2) := by decide +kernel
theorem dX5_noteCues_13 : decode cX5_noteCues 13 = .ok (.iconst 0, 1) := by decide +kernel
theorem dX5_noteCues_14 : decode cX5_noteCues 14 = .ok (.istore 7, 2) := by decide +kernel
theorem dX5_noteCues_16 : decode cX5_noteCues 16 = .ok (.iload 7, 2) := by decide +kernel
theorem dX5_noteCues_18 : decode cX5_noteCues 18 = .ok (.aload_n 1, 1) := by decide +kernel
theorem dX5_noteCues_19 : decode cX5_noteCues 19 = .ok (.getfield 308, 3) := by decide +kernel
theorem dX5_noteCues_22 : decode cX5_noteCues 22 = .ok (.if_icmp .ge 99, 3) := by decide +kernel
theorem dX5_noteCues_25 : decode cX5_noteCues 25 = .ok (.iconst 0, 1) := by decide +kernel
theorem dX5_noteCues_26 : decode cX5_noteCues 26 = .ok (.istore 8, 2) := by decide +kernel
theorem dX5_noteCues_28 : decode cX5_noteCues 28 = .ok (.iload 8, 2) := by decide +kernel
theorem dX5_noteCues_30 : decode cX5_noteCues 30 = .ok (.iload 6, 2) := by decide +kernel
theorem dX5_noteCues_32 : decode cX5_noteCues 32 = .ok (.if_icmp .ge 83, 3) := by decide +kernel
theorem dX5_noteCues_35 : decode cX5_noteCues 35 = .ok (.aload_n 1, 1) := by decide +kernel
theorem dX5_noteCues_36 : decode cX5_noteCues 36 = .ok (.iload 7, 2) := by decide +kernel
theorem dX5_noteCues_38 : decode cX5_noteCues 38 = .ok (.invokevirtual 311, 3) := by decide +kernel
theorem dX5_noteCues_41 : decode cX5_noteCues 41 = .ok (.ifCond .eq 13, 3) := by decide +kernel
theorem dX5_noteCues_44 : decode cX5_noteCues 44 = .ok (.iload 6, 2) := by decide +kernel
theorem dX5_noteCues_46 : decode cX5_noteCues 46 = .ok (.iconst 1, 1) := by decide +kernel
theorem dX5_noteCues_47 : decode cX5_noteCues 47 = .ok (.isub, 1) := by decide +kernel
theorem dX5_noteCues_48 : decode cX5_noteCues 48 = .ok (.iload 8, 2) := by decide +kernel
theorem dX5_noteCues_50 : decode cX5_noteCues 50 = .ok (.isub, 1) := by decide +kernel
theorem dX5_noteCues_51 : decode cX5_noteCues 51 = .ok (.goto 5, 3) := by decide +kernel
theorem dX5_noteCues_54 : decode cX5_noteCues 54 = .ok (.iload 8, 2) := by decide +kernel
theorem dX5_noteCues_56 : decode cX5_noteCues 56 = .ok (.istore 9, 2) := by decide +kernel
theorem dX5_noteCues_58 : decode cX5_noteCues 58 = .ok (.aload_n 1, 1) := by decide +kernel
theorem dX5_noteCues_59 : decode cX5_noteCues 59 = .ok (.iload 7, 2) := by decide +kernel
theorem dX5_noteCues_61 : decode cX5_noteCues 61 = .ok (.aload 5, 2) := by decide +kernel
theorem dX5_noteCues_63 : decode cX5_noteCues 63 = .ok (.getfield 314, 3) := by decide +kernel
theorem dX5_noteCues_66 : decode cX5_noteCues 66 = .ok (.iload 9, 2) := by decide +kernel
theorem dX5_noteCues_68 : decode cX5_noteCues 68 = .ok (.invokevirtual 173, 3) := by decide +kernel
theorem dX5_noteCues_71 : decode cX5_noteCues 71 = .ok (.invokevirtual 317, 3) := by decide +kernel
theorem dX5_noteCues_74 : decode cX5_noteCues 74 = .ok (.istore 10, 2) := by decide +kernel
theorem dX5_noteCues_76 : decode cX5_noteCues 76 = .ok (.iload 10, 2) := by decide +kernel
theorem dX5_noteCues_78 : decode cX5_noteCues 78 = .ok (.iload_n 3, 1) := by decide +kernel
theorem dX5_noteCues_79 : decode cX5_noteCues 79 = .ok (.iload 4, 2) := by decide +kernel
theorem dX5_noteCues_81 : decode cX5_noteCues 81 = .ok (.invokestatic 41, 3) := by decide +kernel
theorem dX5_noteCues_84 : decode cX5_noteCues 84 = .ok (.ifCond .eq 25, 3) := by decide +kernel
theorem dX5_noteCues_87 : decode cX5_noteCues 87 = .ok (.aload_n 0, 1) := by decide +kernel
theorem dX5_noteCues_88 : decode cX5_noteCues 88 = .ok (.getfield 37, 3) := by decide +kernel
theorem dX5_noteCues_91 : decode cX5_noteCues 91 = .ok (.iload 10, 2) := by decide +kernel
theorem dX5_noteCues_93 : decode cX5_noteCues 93 = .ok (.iload_n 2, 1) := by decide +kernel
theorem dX5_noteCues_94 : decode cX5_noteCues 94 = .ok (.iload 7, 2) := by decide +kernel
theorem dX5_noteCues_96 : decode cX5_noteCues 96 = .ok (.aload 5, 2) := by decide +kernel
theorem dX5_noteCues_98 : decode cX5_noteCues 98 = .ok (.getfield 320, 3) := by decide +kernel
theorem dX5_noteCues_101 : decode cX5_noteCues 101 = .ok (.iload 9, 2) := by decide +kernel
theorem dX5_noteCues_103 : decode cX5_noteCues 103 = .ok (.invokevirtual 173, 3) := by decide +kernel
theorem dX5_noteCues_106 : decode cX5_noteCues 106 = .ok (.invokevirtual 323, 3) := by decide +kernel
theorem dX5_noteCues_109 : decode cX5_noteCues 109 = .ok (.iinc 8 1, 3) := by decide +kernel
theorem dX5_noteCues_112 : decode cX5_noteCues 112 = .ok (.goto (-84), 3) := by decide +kernel
theorem dX5_noteCues_115 : decode cX5_noteCues 115 = .ok (.iinc 7 1, 3) := by decide +kernel
theorem dX5_noteCues_118 : decode cX5_noteCues 118 = .ok (.goto (-102), 3) := by decide +kernel
theorem dX5_noteCues_121 : decode cX5_noteCues 121 = .ok (.return_, 1) := by decide +kernel
theorem dX5_cut_0 : decode cX5_cut 0 = .ok (.iload_n 1, 1) := by decide +kernel
theorem dX5_cut_1 : decode cX5_cut 1 = .ok (.ifCond .le 9, 3) := by decide +kernel
theorem dX5_cut_4 : decode cX5_cut 4 = .ok (.iload_n 0, 1) := by decide +kernel
theorem dX5_cut_5 : decode cX5_cut 5 = .ok (.iload_n 1, 1) := by decide +kernel
theorem dX5_cut_6 : decode cX5_cut 6 = .ok (.idiv, 1) := by decide +kernel
theorem dX5_cut_7 : decode cX5_cut 7 = .ok (.goto 4, 3) := by decide +kernel
theorem dX5_cut_10 : decode cX5_cut 10 = .ok (.iconst 0, 1) := by decide +kernel
theorem dX5_cut_11 : decode cX5_cut 11 = .ok (.ireturn, 1) := by decide +kernel
theorem dX5_roundedUp_0 : decode cX5_roundedUp 0 = .ok (.iload_n 1, 1) := by decide +kernel
theorem dX5_roundedUp_1 : decode cX5_roundedUp 1 = .ok (.ifCond .le 13, 3) := by decide +kernel
theorem dX5_roundedUp_4 : decode cX5_roundedUp 4 = .ok (.iload_n 0, 1) := by decide +kernel
theorem dX5_roundedUp_5 : decode cX5_roundedUp 5 = .ok (.iload_n 1, 1) := by decide +kernel
theorem dX5_roundedUp_6 : decode cX5_roundedUp 6 = .ok (.iadd, 1) := by decide +kernel
theorem dX5_roundedUp_7 : decode cX5_roundedUp 7 = .ok (.iconst 1, 1) := by decide +kernel
theorem dX5_roundedUp_8 : decode cX5_roundedUp 8 = .ok (.isub, 1) := by decide +kernel
theorem dX5_roundedUp_9 : decode cX5_roundedUp 9 = .ok (.iload_n 1, 1) := by decide +kernel
theorem dX5_roundedUp_10 : decode cX5_roundedUp 10 = .ok (.idiv, 1) := by decide +kernel
theorem dX5_roundedUp_11 : decode cX5_roundedUp 11 = .ok (.goto 4, 3) := by decide +kernel
theorem dX5_roundedUp_14 : decode cX5_roundedUp 14 = .ok (.iconst 0, 1) := by decide +kernel
theorem dX5_roundedUp_15 : decode cX5_roundedUp 15 = .ok (.ireturn, 1) := by decide +kernel
theorem dX5_rounded_0 : decode cX5_rounded 0 = .ok (.lload_n 2, 1) := by decide +kernel
theorem dX5_rounded_1 : decode cX5_rounded 1 = .ok (.lconst 0, 1) := by decide +kernel
theorem dX5_rounded_2 : decode cX5_rounded 2 = .ok (.lcmp, 1) := by decide +kernel
theorem dX5_rounded_3 : decode cX5_rounded 3 = .ok (.ifCond .le 22, 3) := by decide +kernel
theorem dX5_rounded_6 : decode cX5_rounded 6 = .ok (.ldc2_w 329, 3) := by decide +kernel
theorem dX5_rounded_9 : decode cX5_rounded 9 = .ok (.lload_n 0, 1) := by decide +kernel
theorem dX5_rounded_10 : decode cX5_rounded 10 = .ok (.lmul, 1) := by decide +kernel
theorem dX5_rounded_11 : decode cX5_rounded 11 = .ok (.lload_n 2, 1) := by decide +kernel
theorem dX5_rounded_12 : decode cX5_rounded 12 = .ok (.ladd, 1) := by decide +kernel
theorem dX5_rounded_13 : decode cX5_rounded 13 = .ok (.ldc2_w 329, 3) := by decide +kernel
theorem dX5_rounded_16 : decode cX5_rounded 16 = .ok (.lload_n 2, 1) := by decide +kernel
theorem dX5_rounded_17 : decode cX5_rounded 17 = .ok (.lmul, 1) := by decide +kernel
theorem dX5_rounded_18 : decode cX5_rounded 18 = .ok (.invokestatic 331, 3) := by decide +kernel
theorem dX5_rounded_21 : decode cX5_rounded 21 = .ok (.l2i, 1) := by decide +kernel
theorem dX5_rounded_22 : decode cX5_rounded 22 = .ok (.goto 4, 3) := by decide +kernel
theorem dX5_rounded_25 : decode cX5_rounded 25 = .ok (.iconst 0, 1) := by decide +kernel
theorem dX5_rounded_26 : decode cX5_rounded 26 = .ok (.ireturn, 1) := by decide +kernel
