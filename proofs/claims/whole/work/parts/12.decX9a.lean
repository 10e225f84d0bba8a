theorem dX9_init_0 : decode cX9_init 0 = .ok (.aload_n 0, 1) := by decide +kernel
theorem dX9_init_1 : decode cX9_init 1 = .ok (.invokespecial 1, 3) := by decide +kernel
theorem dX9_init_4 : decode cX9_init 4 = .ok (.aload_n 0, 1) := by decide +kernel
theorem dX9_init_5 : decode cX9_init 5 = .ok (.bipush 100, 2) := by decide +kernel
theorem dX9_init_7 : decode cX9_init 7 = .ok (.newarray .int, 2) := by decide +kernel
theorem dX9_init_9 : decode cX9_init 9 = .ok (.putfield 7, 3) := by decide +kernel
theorem dX9_init_12 : decode cX9_init 12 = .ok (.aload_n 0, 1) := by decide +kernel
theorem dX9_init_13 : decode cX9_init 13 = .ok (.sipush 690, 3) := by decide +kernel
theorem dX9_init_16 : decode cX9_init 16 = .ok (.newarray .int, 2) := by decide +kernel
theorem dX9_init_18 : decode cX9_init 18 = .ok (.putfield 13, 3) := by decide +kernel
theorem dX9_init_21 : decode cX9_init 21 = .ok (.aload_n 0, 1) := by decide +kernel
theorem dX9_init_22 : decode cX9_init 22 = .ok (.sipush 690, 3) := by decide +kernel
theorem dX9_init_25 : decode cX9_init 25 = .ok (.newarray .int, 2) := by decide +kernel
theorem dX9_init_27 : decode cX9_init 27 = .ok (.putfield 16, 3) := by decide +kernel
theorem dX9_init_30 : decode cX9_init 30 = .ok (.aload_n 0, 1) := by decide +kernel
theorem dX9_init_31 : decode cX9_init 31 = .ok (.sipush 690, 3) := by decide +kernel
theorem dX9_init_34 : decode cX9_init 34 = .ok (.newarray .int, 2) := by decide +kernel
theorem dX9_init_36 : decode cX9_init 36 = .ok (.putfield 19, 3) := by decide +kernel
theorem dX9_init_39 : decode cX9_init 39 = .ok (.aload_n 0, 1) := by decide +kernel
theorem dX9_init_40 : decode cX9_init 40 = .ok (.sipush 9660, 3) := by decide +kernel
theorem dX9_init_43 : decode cX9_init 43 = .ok (.newarray .int, 2) := by decide +kernel
theorem dX9_init_45 : decode cX9_init 45 = .ok (.putfield 22, 3) := by decide +kernel
theorem dX9_init_48 : decode cX9_init 48 = .ok (.aload_n 0, 1) := by decide +kernel
theorem dX9_init_49 : decode cX9_init 49 = .ok (.sipush 1380, 3) := by decide +kernel
theorem dX9_init_52 : decode cX9_init 52 = .ok (.newarray .int, 2) := by decide +kernel
theorem dX9_init_54 : decode cX9_init 54 = .ok (.putfield 25, 3) := by decide +kernel
theorem dX9_init_57 : decode cX9_init 57 = .ok (.aload_n 0, 1) := by decide +kernel
theorem dX9_init_58 : decode cX9_init 58 = .ok (.iconst 2, 1) := by decide +kernel
theorem dX9_init_59 : decode cX9_init 59 = .ok (.newarray .boolean, 2) := by decide +kernel
theorem dX9_init_61 : decode cX9_init 61 = .ok (.putfield 28, 3) := by decide +kernel
theorem dX9_init_64 : decode cX9_init 64 = .ok (.aload_n 0, 1) := by decide +kernel
theorem dX9_init_65 : decode cX9_init 65 = .ok (.getfield 16, 3) := by decide +kernel
theorem dX9_init_68 : decode cX9_init 68 = .ok (.bipush 16, 2) := by decide +kernel
theorem dX9_init_70 : decode cX9_init 70 = .ok (.bipush 32, 2) := by decide +kernel
theorem dX9_init_72 : decode cX9_init 72 = .ok (.invokestatic 32, 3) := by decide +kernel
theorem dX9_init_75 : decode cX9_init 75 = .ok (.return_, 1) := by decide +kernel
theorem dX9_clean_0 : decode cX9_clean 0 = .ok (.iconst 0, 1) := by decide +kernel
theorem dX9_clean_1 : decode cX9_clean 1 = .ok (.istore_n 3, 1) := by decide +kernel
theorem dX9_clean_2 : decode cX9_clean 2 = .ok (.iload_n 3, 1) := by decide +kernel
theorem dX9_clean_3 : decode cX9_clean 3 = .ok (.sipush 690, 3) := by decide +kernel
theorem dX9_clean_6 : decode cX9_clean 6 = .ok (.if_icmp .ge 13, 3) := by decide +kernel
theorem dX9_clean_9 : decode cX9_clean 9 = .ok (.aload_n 0, 1) := by decide +kernel
theorem dX9_clean_10 : decode cX9_clean 10 = .ok (.iload_n 3, 1) := by decide +kernel
theorem dX9_clean_11 : decode cX9_clean 11 = .ok (.iconst 0, 1) := by decide +kernel
theorem dX9_clean_12 : decode cX9_clean 12 = .ok (.iastore, 1) := by decide +kernel
theorem dX9_clean_13 : decode cX9_clean 13 = .ok (.iinc 3 1, 3) := by decide +kernel
theorem dX9_clean_16 : decode cX9_clean 16 = .ok (.goto (-14), 3) := by decide +kernel
theorem dX9_clean_19 : decode cX9_clean 19 = .ok (.aload_n 0, 1) := by decide +kernel
theorem dX9_clean_20 : decode cX9_clean 20 = .ok (.bipush 7, 2) := by decide +kernel
theorem dX9_clean_22 : decode cX9_clean 22 = .ok (.iload_n 1, 1) := by decide +kernel
theorem dX9_clean_23 : decode cX9_clean 23 = .ok (.iastore, 1) := by decide +kernel
theorem dX9_clean_24 : decode cX9_clean 24 = .ok (.aload_n 0, 1) := by decide +kernel
theorem dX9_clean_25 : decode cX9_clean 25 = .ok (.bipush 8, 2) := by decide +kernel
theorem dX9_clean_27 : decode cX9_clean 27 = .ok (.iload_n 2, 1) := by decide +kernel
theorem dX9_clean_28 : decode cX9_clean 28 = .ok (.iastore, 1) := by decide +kernel
theorem dX9_clean_29 : decode cX9_clean 29 = .ok (.aload_n 0, 1) := by decide +kernel
theorem dX9_clean_30 : decode cX9_clean 30 = .ok (.bipush 9, 2) := by decide +kernel
theorem dX9_clean_32 : decode cX9_clean 32 = .ok (.iconst 1, 1) := by decide +kernel
theorem dX9_clean_33 : decode cX9_clean 33 = .ok (.iastore, 1) := by decide +kernel
theorem dX9_clean_34 : decode cX9_clean 34 = .ok (.return_, 1) := by decide +kernel
theorem dX9_thrown_0 : decode cX9_thrown 0 = .ok (.aload_n 0, 1) := by decide +kernel
theorem dX9_thrown_1 : decode cX9_thrown 1 = .ok (.getfield 36, 3) := by decide +kernel
theorem dX9_thrown_4 : decode cX9_thrown 4 = .ok (.ireturn, 1) := by decide +kernel
theorem dX9_append_0 : decode cX9_append 0 = .ok (.aload_n 0, 1) := by decide +kernel
theorem dX9_append_1 : decode cX9_append 1 = .ok (.iload_n 1, 1) := by decide +kernel
theorem dX9_append_2 : decode cX9_append 2 = .ok (.i2l, 1) := by decide +kernel
theorem dX9_append_3 : decode cX9_append 3 = .ok (.lconst 0, 1) := by decide +kernel
theorem dX9_append_4 : decode cX9_append 4 = .ok (.ldc2_w 119, 3) := by decide +kernel
theorem dX9_append_7 : decode cX9_append 7 = .ok (.invokestatic 121, 3) := by decide +kernel
theorem dX9_append_10 : decode cX9_append 10 = .ok (.ifCond .ne 7, 3) := by decide +kernel
theorem dX9_append_13 : decode cX9_append 13 = .ok (.iconst 1, 1) := by decide +kernel
theorem dX9_append_14 : decode cX9_append 14 = .ok (.goto 17, 3) := by decide +kernel
theorem dX9_append_17 : decode cX9_append 17 = .ok (.aload_n 0, 1) := by decide +kernel
theorem dX9_append_18 : decode cX9_append 18 = .ok (.getfield 125, 3) := by decide +kernel
theorem dX9_append_21 : decode cX9_append 21 = .ok (.bipush 100, 2) := by decide +kernel
theorem dX9_append_23 : decode cX9_append 23 = .ok (.if_icmp .ne 7, 3) := by decide +kernel
theorem dX9_append_26 : decode cX9_append 26 = .ok (.iconst 2, 1) := by decide +kernel
theorem dX9_append_27 : decode cX9_append 27 = .ok (.goto 4, 3) := by decide +kernel
theorem dX9_append_30 : decode cX9_append 30 = .ok (.iconst 0, 1) := by decide +kernel
theorem dX9_append_31 : decode cX9_append 31 = .ok (.invokevirtual 128, 3) := by decide +kernel
theorem dX9_append_34 : decode cX9_append 34 = .ok (.ifCond .eq 5, 3) := by decide +kernel
theorem dX9_append_37 : decode cX9_append 37 = .ok (.iconst 0, 1) := by decide +kernel
theorem dX9_append_38 : decode cX9_append 38 = .ok (.ireturn, 1) := by decide +kernel
theorem dX9_append_39 : decode cX9_append 39 = .ok (.aload_n 0, 1) := by decide +kernel
theorem dX9_append_40 : decode cX9_append 40 = .ok (.getfield 7, 3) := by decide +kernel
theorem dX9_append_43 : decode cX9_append 43 = .ok (.aload_n 0, 1) := by decide +kernel
theorem dX9_append_44 : decode cX9_append 44 = .ok (.getfield 125, 3) := by decide +kernel
theorem dX9_append_47 : decode cX9_append 47 = .ok (.iload_n 1, 1) := by decide +kernel
theorem dX9_append_48 : decode cX9_append 48 = .ok (.iastore, 1) := by decide +kernel
theorem dX9_append_49 : decode cX9_append 49 = .ok (.aload_n 0, 1) := by decide +kernel
theorem dX9_append_50 : decode cX9_append 50 = .ok (.dup, 1) := by decide +kernel
theorem dX9_append_51 : decode cX9_append 51 = .ok (.getfield 125, 3) := by decide +kernel
theorem dX9_append_54 : decode cX9_append 54 = .ok (.iconst 1, 1) := by decide +kernel
theorem dX9_append_55 : decode cX9_append 55 = .ok (.iadd, 1) := by decide +kernel
theorem dX9_append_56 : decode cX9_append 56 = .ok (.putfield 125, 3) := by decide +kernel
theorem dX9_append_59 : decode cX9_append 59 = .ok (.aload_n 0, 1) := by decide +kernel
theorem dX9_append_60 : decode cX9_append 60 = .ok (.getfield 125, 3) := by decide +kernel
theorem dX9_append_63 : decode cX9_append 63 = .ok (.ireturn, 1) := by decide +kernel
theorem dX9_in_0 : decode cX9_in 0 = .ok (.lload_n 0, 1) := by decide +kernel
theorem dX9_in_1 : decode cX9_in 1 = .ok (.lload_n 2, 1) := by decide +kernel
theorem dX9_in_2 : decode cX9_in 2 = .ok (.lcmp, 1) := by decide +kernel
theorem dX9_in_3 : decode cX9_in 3 = .ok (.ifCond .lt 14, 3) := by decide +kernel
theorem dX9_in_6 : decode cX9_in 6 = .ok (.lload_n 0, 1) := by decide +kernel
theorem dX9_in_7 : decode cX9_in 7 = .ok (.lload 4, 2) := by decide +kernel
theorem dX9_in_9 : decode cX9_in 9 = .ok (.lcmp, 1) := by decide +kernel
theorem dX9_in_10 : decode cX9_in 10 = .ok (.ifCond .gt 7, 3) := by decide +kernel
theorem dX9_in_13 : decode cX9_in 13 = .ok (.iconst 1, 1) := by decide +kernel
theorem dX9_in_14 : decode cX9_in 14 = .ok (.goto 4, 3) := by decide +kernel
theorem dX9_in_17 : decode cX9_in 17 = .ok (.iconst 0, 1) := by decide +kernel
theorem dX9_in_18 : decode cX9_in 18 = .ok (.ireturn, 1) := by decide +kernel
theorem dX9_refused_0 : decode cX9_refused 0 = .ok (.aload_n 0, 1) := by decide +kernel
theorem dX9_refused_1 : decode cX9_refused 1 = .ok (.iload_n 1, 1) := by decide +kernel
theorem dX9_refused_2 : decode cX9_refused 2 = .ok (.putfield 36, 3) := by decide +kernel
theorem dX9_refused_5 : decode cX9_refused 5 = .ok (.iload_n 1, 1) := by decide +kernel
theorem dX9_refused_6 : decode cX9_refused 6 = .ok (.ifCond .le 7, 3) := by decide +kernel
theorem dX9_refused_9 : decode cX9_refused 9 = .ok (.iconst 1, 1) := by decide +kernel
theorem dX9_refused_10 : decode cX9_refused 10 = .ok (.goto 4, 3) := by decide +kernel
theorem dX9_refused_13 : decode cX9_refused 13 = .ok (.iconst 0, 1) := by decide +kernel
theorem dX9_refused_14 : decode cX9_refused 14 = .ok (.ireturn, 1) := by decide +kernel
theorem dX9_clearText_0 : decode cX9_clearText 0 = .ok (.aload_n 0, 1) := by decide +kernel
theorem dX9_clearText_1 : decode cX9_clearText 1 = .ok (.iconst 0, 1) := by decide +kernel
theorem dX9_clearText_2 : decode cX9_clearText 2 = .ok (.putfield 36, 3) := by decide +kernel
theorem dX9_clearText_5 : decode cX9_clearText 5 = .ok (.aload_n 0, 1) := by decide +kernel
theorem dX9_clearText_6 : decode cX9_clearText 6 = .ok (.getfield 125, 3) := by decide +kernel
theorem dX9_clearText_9 : decode cX9_clearText 9 = .ok (.istore_n 1, 1) := by decide +kernel
theorem dX9_clearText_10 : decode cX9_clearText 10 = .ok (.aload_n 0, 1) := by decide +kernel
theorem dX9_clearText_11 : decode cX9_clearText 11 = .ok (.iconst 0, 1) := by decide +kernel
theorem dX9_clearText_12 : decode cX9_clearText 12 = .ok (.putfield 125, 3) := by decide +kernel
theorem dX9_clearText_15 : decode cX9_clearText 15 = .ok (.iload_n 1, 1) := by decide +kernel
theorem dX9_clearText_16 : decode cX9_clearText 16 = .ok (.ireturn, 1) := by decide +kernel
theorem dX9_errorPosition_0 : decode cX9_errorPosition 0 = .ok (.aload_n 0, 1) := by decide +kernel
theorem dX9_errorPosition_1 : decode cX9_errorPosition 1 = .ok (.iconst 0, 1) := by decide +kernel
theorem dX9_errorPosition_2 : decode cX9_errorPosition 2 = .ok (.putfield 36, 3) := by decide +kernel
theorem dX9_errorPosition_5 : decode cX9_errorPosition 5 = .ok (.aload_n 0, 1) := by decide +kernel
theorem dX9_errorPosition_6 : decode cX9_errorPosition 6 = .ok (.invokevirtual 196, 3) := by decide +kernel
theorem dX9_errorPosition_9 : decode cX9_errorPosition 9 = .ok (.ireturn, 1) := by decide +kernel
theorem dX9_readText_0 : decode cX9_readText 0 = .ok (.aload_n 0, 1) := by decide +kernel
theorem dX9_readText_1 : decode cX9_readText 1 = .ok (.iconst 0, 1) := by decide +kernel
theorem dX9_readText_2 : decode cX9_readText 2 = .ok (.putfield 132, 3) := by decide +kernel
theorem dX9_readText_5 : decode cX9_readText 5 = .ok (.aload_n 0, 1) := by decide +kernel
theorem dX9_readText_6 : decode cX9_readText 6 = .ok (.iconst 1, 1) := by decide +kernel
theorem dX9_readText_7 : decode cX9_readText 7 = .ok (.putfield 135, 3) := by decide +kernel
theorem dX9_readText_10 : decode cX9_readText 10 = .ok (.aload_n 0, 1) := by decide +kernel
theorem dX9_readText_11 : decode cX9_readText 11 = .ok (.iconst 0, 1) := by decide +kernel
theorem dX9_readText_12 : decode cX9_readText 12 = .ok (.putfield 162, 3) := by decide +kernel
theorem dX9_readText_15 : decode cX9_readText 15 = .ok (.aload_n 0, 1) := by decide +kernel
theorem dX9_readText_16 : decode cX9_readText 16 = .ok (.aload_n 0, 1) := by decide +kernel
theorem dX9_readText_17 : decode cX9_readText 17 = .ok (.bipush 84, 2) := by decide +kernel
theorem dX9_readText_19 : decode cX9_readText 19 = .ok (.invokevirtual 180, 3) := by decide +kernel
theorem dX9_readText_22 : decode cX9_readText 22 = .ok (.invokevirtual 141, 3) := by decide +kernel
theorem dX9_readText_25 : decode cX9_readText 25 = .ok (.aload_n 0, 1) := by decide +kernel
theorem dX9_readText_26 : decode cX9_readText 26 = .ok (.bipush 8, 2) := by decide +kernel
theorem dX9_readText_28 : decode cX9_readText 28 = .ok (.bipush 64, 2) := by decide +kernel
theorem dX9_readText_30 : decode cX9_readText 30 = .ok (.invokevirtual 151, 3) := by decide +kernel
theorem dX9_readText_33 : decode cX9_readText 33 = .ok (.istore_n 1, 1) := by decide +kernel
theorem dX9_readText_34 : decode cX9_readText 34 = .ok (.aload_n 0, 1) := by decide +kernel
theorem dX9_readText_35 : decode cX9_readText 35 = .ok (.iconst 0, 1) := by decide +kernel
theorem dX9_readText_36 : decode cX9_readText 36 = .ok (.iconst 1, 1) := by decide +kernel
theorem dX9_readText_37 : decode cX9_readText 37 = .ok (.invokevirtual 145, 3) := by decide +kernel
theorem dX9_readText_40 : decode cX9_readText 40 = .ok (.istore_n 2, 1) := by decide +kernel
theorem dX9_readText_41 : decode cX9_readText 41 = .ok (.bipush 100, 2) := by decide +kernel
theorem dX9_readText_43 : decode cX9_readText 43 = .ok (.iload_n 2, 1) := by decide +kernel
theorem dX9_readText_44 : decode cX9_readText 44 = .ok (.imul, 1) := by decide +kernel
theorem dX9_readText_45 : decode cX9_readText 45 = .ok (.aload_n 0, 1) := by decide +kernel
theorem dX9_readText_46 : decode cX9_readText 46 = .ok (.iconst 0, 1) := by decide +kernel
theorem dX9_readText_47 : decode cX9_readText 47 = .ok (.iload_n 2, 1) := by decide +kernel
theorem dX9_readText_48 : decode cX9_readText 48 = .ok (.iconst 1, 1) := by decide +kernel
theorem dX9_readText_49 : decode cX9_readText 49 = .ok (.if_icmp .ne 8, 3) := by decide +kernel
theorem dX9_readText_52 : decode cX9_readText 52 = .ok (.bipush 28, 2) := by decide +kernel
theorem dX9_readText_54 : decode cX9_readText 54 = .ok (.goto 5, 3) := by decide +kernel
theorem dX9_readText_57 : decode cX9_readText 57 = .ok (.bipush 99, 2) := by decide +kernel
theorem dX9_readText_59 : decode cX9_readText 59 = .ok (.invokevirtual 151, 3) := by decide +kernel
theorem dX9_readText_62 : decode cX9_readText 62 = .ok (.iadd, 1) := by decide +kernel
theorem dX9_readText_63 : decode cX9_readText 63 = .ok (.istore_n 3, 1) := by decide +kernel
theorem dX9_readText_64 : decode cX9_readText 64 = .ok (.aload_n 0, 1) := by decide +kernel
theorem dX9_readText_65 : decode cX9_readText 65 = .ok (.getfield 13, 3) := by decide +kernel
theorem dX9_readText_68 : decode cX9_readText 68 = .ok (.iload_n 1, 1) := by decide +kernel
theorem dX9_readText_69 : decode cX9_readText 69 = .ok (.iload_n 3, 1) := by decide +kernel
theorem dX9_readText_70 : decode cX9_readText 70 = .ok (.invokestatic 32, 3) := by decide +kernel
theorem dX9_readText_73 : decode cX9_readText 73 = .ok (.aload_n 0, 1) := by decide +kernel
theorem dX9_readText_74 : decode cX9_readText 74 = .ok (.getfield 135, 3) := by decide +kernel
theorem dX9_readText_77 : decode cX9_readText 77 = .ok (.ifCond .eq 21, 3) := by decide +kernel
theorem dX9_readText_80 : decode cX9_readText 80 = .ok (.aload_n 0, 1) := by decide +kernel
theorem dX9_readText_81 : decode cX9_readText 81 = .ok (.getfield 132, 3) := by decide +kernel
theorem dX9_readText_84 : decode cX9_readText 84 = .ok (.aload_n 0, 1) := by decide +kernel
theorem dX9_readText_85 : decode cX9_readText 85 = .ok (.getfield 125, 3) := by decide +kernel
theorem dX9_readText_88 : decode cX9_readText 88 = .ok (.if_icmp .ge 10, 3) := by decide +kernel
theorem dX9_readText_91 : decode cX9_readText 91 = .ok (.aload_n 0, 1) := by decide +kernel
theorem dX9_readText_92 : decode cX9_readText 92 = .ok (.invokevirtual 193, 3) := by decide +kernel
theorem dX9_readText_95 : decode cX9_readText 95 = .ok (.goto (-22), 3) := by decide +kernel
theorem dX9_readText_98 : decode cX9_readText 98 = .ok (.aload_n 0, 1) := by decide +kernel
theorem dX9_readText_99 : decode cX9_readText 99 = .ok (.getfield 135, 3) := by decide +kernel
theorem dX9_readText_102 : decode cX9_readText 102 = .ok (.ifCond .eq 7, 3) := by decide +kernel
theorem dX9_readText_105 : decode cX9_readText 105 = .ok (.iconst (-1), 1) := by decide +kernel
theorem dX9_readText_106 : decode cX9_readText 106 = .ok (.goto 7, 3) := by decide +kernel
theorem dX9_readText_109 : decode cX9_readText 109 = .ok (.aload_n 0, 1) := by decide +kernel
theorem dX9_readText_110 : decode cX9_readText 110 = .ok (.getfield 132, 3) := by decide +kernel
theorem dX9_readText_113 : decode cX9_readText 113 = .ok (.ireturn, 1) := by decide +kernel
theorem dX9_isNext_0 : decode cX9_isNext 0 = .ok (.aload_n 0, 1) := by decide +kernel
theorem dX9_isNext_1 : decode cX9_isNext 1 = .ok (.getfield 132, 3) := by decide +kernel
theorem dX9_isNext_4 : decode cX9_isNext 4 = .ok (.aload_n 0, 1) := by decide +kernel
theorem dX9_isNext_5 : decode cX9_isNext 5 = .ok (.getfield 125, 3) := by decide +kernel
theorem dX9_isNext_8 : decode cX9_isNext 8 = .ok (.if_icmp .ge 20, 3) := by decide +kernel
theorem dX9_isNext_11 : decode cX9_isNext 11 = .ok (.aload_n 0, 1) := by decide +kernel
theorem dX9_isNext_12 : decode cX9_isNext 12 = .ok (.getfield 7, 3) := by decide +kernel
theorem dX9_isNext_15 : decode cX9_isNext 15 = .ok (.aload_n 0, 1) := by decide +kernel
theorem dX9_isNext_16 : decode cX9_isNext 16 = .ok (.getfield 132, 3) := by decide +kernel
theorem dX9_isNext_19 : decode cX9_isNext 19 = .ok (.iaload, 1) := by decide +kernel
theorem dX9_isNext_20 : decode cX9_isNext 20 = .ok (.iload_n 1, 1) := by decide +kernel
theorem dX9_isNext_21 : decode cX9_isNext 21 = .ok (.if_icmp .ne 7, 3) := by decide +kernel
theorem dX9_isNext_24 : decode cX9_isNext 24 = .ok (.iconst 1, 1) := by decide +kernel
theorem dX9_isNext_25 : decode cX9_isNext 25 = .ok (.goto 4, 3) := by decide +kernel
theorem dX9_isNext_28 : decode cX9_isNext 28 = .ok (.iconst 0, 1) := by decide +kernel
theorem dX9_isNext_29 : decode cX9_isNext 29 = .ok (.ireturn, 1) := by decide +kernel
theorem dX9_accept_0 : decode cX9_accept 0 = .ok (.aload_n 0, 1) := by decide +kernel
theorem dX9_accept_1 : decode cX9_accept 1 = .ok (.aload_n 0, 1) := by decide +kernel
theorem dX9_accept_2 : decode cX9_accept 2 = .ok (.getfield 135, 3) := by decide +kernel
theorem dX9_accept_5 : decode cX9_accept 5 = .ok (.ifCond .eq 11, 3) := by decide +kernel
theorem dX9_accept_8 : decode cX9_accept 8 = .ok (.iload_n 1, 1) := by decide +kernel
theorem dX9_accept_9 : decode cX9_accept 9 = .ok (.ifCond .eq 7, 3) := by decide +kernel
theorem dX9_accept_12 : decode cX9_accept 12 = .ok (.iconst 1, 1) := by decide +kernel
theorem dX9_accept_13 : decode cX9_accept 13 = .ok (.goto 4, 3) := by decide +kernel
theorem dX9_accept_16 : decode cX9_accept 16 = .ok (.iconst 0, 1) := by decide +kernel
theorem dX9_accept_17 : decode cX9_accept 17 = .ok (.putfield 135, 3) := by decide +kernel
theorem dX9_accept_20 : decode cX9_accept 20 = .ok (.aload_n 0, 1) := by decide +kernel
theorem dX9_accept_21 : decode cX9_accept 21 = .ok (.dup, 1) := by decide +kernel
theorem dX9_accept_22 : decode cX9_accept 22 = .ok (.getfield 132, 3) := by decide +kernel
theorem dX9_accept_25 : decode cX9_accept 25 = .ok (.aload_n 0, 1) := by decide +kernel
theorem dX9_accept_26 : decode cX9_accept 26 = .ok (.getfield 135, 3) := by decide +kernel
theorem dX9_accept_29 : decode cX9_accept 29 = .ok (.ifCond .eq 7, 3) := by decide +kernel
theorem dX9_accept_32 : decode cX9_accept 32 = .ok (.iconst 1, 1) := by decide +kernel
theorem dX9_accept_33 : decode cX9_accept 33 = .ok (.goto 4, 3) := by decide +kernel
theorem dX9_accept_36 : decode cX9_accept 36 = .ok (.iconst 0, 1) := by decide +kernel
theorem dX9_accept_37 : decode cX9_accept 37 = .ok (.iadd, 1) := by decide +kernel
theorem dX9_accept_38 : decode cX9_accept 38 = .ok (.putfield 132, 3) := by decide +kernel
theorem dX9_accept_41 : decode cX9_accept 41 = .ok (.return_, 1) := by decide +kernel
theorem dX9_two_0 : decode cX9_two 0 = .ok (.aload_n 0, 1) := by decide +kernel
theorem dX9_two_1 : decode cX9_two 1 = .ok (.iload_n 1, 1) := by decide +kernel
theorem dX9_two_2 : decode cX9_two 2 = .ok (.bipush 10, 2) := by decide +kernel
theorem dX9_two_4 : decode cX9_two 4 = .ok (.idiv, 1) := by decide +kernel
theorem dX9_two_5 : decode cX9_two 5 = .ok (.iload_n 2, 1) := by decide +kernel
theorem dX9_two_6 : decode cX9_two 6 = .ok (.bipush 10, 2) := by decide +kernel
theorem dX9_two_8 : decode cX9_two 8 = .ok (.idiv, 1) := by decide +kernel
theorem dX9_two_9 : decode cX9_two 9 = .ok (.invokevirtual 145, 3) := by decide +kernel
theorem dX9_two_12 : decode cX9_two 12 = .ok (.istore_n 3, 1) := by decide +kernel
theorem dX9_two_13 : decode cX9_two 13 = .ok (.iload_n 1, 1) := by decide +kernel
theorem dX9_two_14 : decode cX9_two 14 = .ok (.bipush 10, 2) := by decide +kernel
theorem dX9_two_16 : decode cX9_two 16 = .ok (.iload_n 3, 1) := by decide +kernel
theorem dX9_two_17 : decode cX9_two 17 = .ok (.imul, 1) := by decide +kernel
theorem dX9_two_18 : decode cX9_two 18 = .ok (.isub, 1) := by decide +kernel
theorem dX9_two_19 : decode cX9_two 19 = .ok (.istore 4, 2) := by decide +kernel
theorem dX9_two_21 : decode cX9_two 21 = .ok (.iload_n 2, 1) := by decide +kernel
theorem dX9_two_22 : decode cX9_two 22 = .ok (.bipush 10, 2) := by decide +kernel
theorem dX9_two_24 : decode cX9_two 24 = .ok (.iload_n 3, 1) := by decide +kernel
theorem dX9_two_25 : decode cX9_two 25 = .ok (.imul, 1) := by decide +kernel
theorem dX9_two_26 : decode cX9_two 26 = .ok (.isub, 1) := by decide +kernel
theorem dX9_two_27 : decode cX9_two 27 = .ok (.istore 5, 2) := by decide +kernel
theorem dX9_two_29 : decode cX9_two 29 = .ok (.bipush 10, 2) := by decide +kernel
theorem dX9_two_31 : decode cX9_two 31 = .ok (.iload_n 3, 1) := by decide +kernel
theorem dX9_two_32 : decode cX9_two 32 = .ok (.imul, 1) := by decide +kernel
theorem dX9_two_33 : decode cX9_two 33 = .ok (.aload_n 0, 1) := by decide +kernel
theorem dX9_two_34 : decode cX9_two 34 = .ok (.iload 4, 2) := by decide +kernel
theorem dX9_two_36 : decode cX9_two 36 = .ok (.ifCond .ge 7, 3) := by decide +kernel
theorem dX9_two_39 : decode cX9_two 39 = .ok (.iconst 0, 1) := by decide +kernel
theorem dX9_two_40 : decode cX9_two 40 = .ok (.goto 5, 3) := by decide +kernel
theorem dX9_two_43 : decode cX9_two 43 = .ok (.iload 4, 2) := by decide +kernel
theorem dX9_two_45 : decode cX9_two 45 = .ok (.iload 5, 2) := by decide +kernel
theorem dX9_two_47 : decode cX9_two 47 = .ok (.bipush 9, 2) := by decide +kernel
theorem dX9_two_49 : decode cX9_two 49 = .ok (.if_icmp .le 8, 3) := by decide +kernel
theorem dX9_two_52 : decode cX9_two 52 = .ok (.bipush 9, 2) := by decide +kernel
theorem dX9_two_54 : decode cX9_two 54 = .ok (.goto 5, 3) := by decide +kernel
theorem dX9_two_57 : decode cX9_two 57 = .ok (.iload 5, 2) := by decide +kernel
theorem dX9_two_59 : decode cX9_two 59 = .ok (.invokevirtual 145, 3) := by decide +kernel
theorem dX9_two_62 : decode cX9_two 62 = .ok (.iadd, 1) := by decide +kernel
theorem dX9_two_63 : decode cX9_two 63 = .ok (.ireturn, 1) := by decide +kernel
theorem dX9_digit_0 : decode cX9_digit 0 = .ok (.aload_n 0, 1) := by decide +kernel
theorem dX9_digit_1 : decode cX9_digit 1 = .ok (.getfield 132, 3) := by decide +kernel
theorem dX9_digit_4 : decode cX9_digit 4 = .ok (.aload_n 0, 1) := by decide +kernel
theorem dX9_digit_5 : decode cX9_digit 5 = .ok (.getfield 125, 3) := by decide +kernel
theorem dX9_digit_8 : decode cX9_digit 8 = .ok (.if_icmp .ge 18, 3) := by decide +kernel
theorem dX9_digit_11 : decode cX9_digit 11 = .ok (.aload_n 0, 1) := by decide +kernel
theorem dX9_digit_12 : decode cX9_digit 12 = .ok (.getfield 7, 3) := by decide +kernel
theorem dX9_digit_15 : decode cX9_digit 15 = .ok (.aload_n 0, 1) := by decide +kernel
theorem dX9_digit_16 : decode cX9_digit 16 = .ok (.getfield 132, 3) := by decide +kernel
theorem dX9_digit_19 : decode cX9_digit 19 = .ok (.iaload, 1) := by decide +kernel
theorem dX9_digit_20 : decode cX9_digit 20 = .ok (.bipush 48, 2) := by decide +kernel
theorem dX9_digit_22 : decode cX9_digit 22 = .ok (.isub, 1) := by decide +kernel
theorem dX9_digit_23 : decode cX9_digit 23 = .ok (.goto 4, 3) := by decide +kernel
theorem dX9_digit_26 : decode cX9_digit 26 = .ok (.iconst (-1), 1) := by decide +kernel
theorem dX9_digit_27 : decode cX9_digit 27 = .ok (.istore_n 3, 1) := by decide +kernel
theorem dX9_digit_28 : decode cX9_digit 28 = .ok (.aload_n 0, 1) := by decide +kernel
theorem dX9_digit_29 : decode cX9_digit 29 = .ok (.iload_n 3, 1) := by decide +kernel
theorem dX9_digit_30 : decode cX9_digit 30 = .ok (.i2l, 1) := by decide +kernel
theorem dX9_digit_31 : decode cX9_digit 31 = .ok (.lconst 0, 1) := by decide +kernel
theorem dX9_digit_32 : decode cX9_digit 32 = .ok (.ldc2_w 139, 3) := by decide +kernel
theorem dX9_digit_35 : decode cX9_digit 35 = .ok (.invokestatic 121, 3) := by decide +kernel
theorem dX9_digit_38 : decode cX9_digit 38 = .ok (.ifCond .eq 19, 3) := by decide +kernel
theorem dX9_digit_41 : decode cX9_digit 41 = .ok (.iload_n 3, 1) := by decide +kernel
theorem dX9_digit_42 : decode cX9_digit 42 = .ok (.i2l, 1) := by decide +kernel
theorem dX9_digit_43 : decode cX9_digit 43 = .ok (.iload_n 1, 1) := by decide +kernel
theorem dX9_digit_44 : decode cX9_digit 44 = .ok (.i2l, 1) := by decide +kernel
theorem dX9_digit_45 : decode cX9_digit 45 = .ok (.iload_n 2, 1) := by decide +kernel
theorem dX9_digit_46 : decode cX9_digit 46 = .ok (.i2l, 1) := by decide +kernel
theorem dX9_digit_47 : decode cX9_digit 47 = .ok (.invokestatic 121, 3) := by decide +kernel
theorem dX9_digit_50 : decode cX9_digit 50 = .ok (.ifCond .eq 7, 3) := by decide +kernel
theorem dX9_digit_53 : decode cX9_digit 53 = .ok (.iconst 1, 1) := by decide +kernel
theorem dX9_digit_54 : decode cX9_digit 54 = .ok (.goto 4, 3) := by decide +kernel
theorem dX9_digit_57 : decode cX9_digit 57 = .ok (.iconst 0, 1) := by decide +kernel
theorem dX9_digit_58 : decode cX9_digit 58 = .ok (.invokevirtual 141, 3) := by decide +kernel
theorem dX9_digit_61 : decode cX9_digit 61 = .ok (.aload_n 0, 1) := by decide +kernel
theorem dX9_digit_62 : decode cX9_digit 62 = .ok (.getfield 135, 3) := by decide +kernel
theorem dX9_digit_65 : decode cX9_digit 65 = .ok (.ifCond .eq 7, 3) := by decide +kernel
theorem dX9_digit_68 : decode cX9_digit 68 = .ok (.iload_n 3, 1) := by decide +kernel
theorem dX9_digit_69 : decode cX9_digit 69 = .ok (.goto 4, 3) := by decide +kernel
theorem dX9_digit_72 : decode cX9_digit 72 = .ok (.iload_n 1, 1) := by decide +kernel
theorem dX9_digit_73 : decode cX9_digit 73 = .ok (.ireturn, 1) := by decide +kernel
theorem dX9_readCommand_0 : decode cX9_readCommand 0 = .ok (.aload_n 0, 1) := by decide +kernel
theorem dX9_readCommand_1 : decode cX9_readCommand 1 = .ok (.bipush 112, 2) := by decide +kernel
theorem dX9_readCommand_3 : decode cX9_readCommand 3 = .ok (.invokevirtual 180, 3) := by decide +kernel
theorem dX9_readCommand_6 : decode cX9_readCommand 6 = .ok (.ifCond .eq 10, 3) := by decide +kernel
theorem dX9_readCommand_9 : decode cX9_readCommand 9 = .ok (.aload_n 0, 1) := by decide +kernel
theorem dX9_readCommand_10 : decode cX9_readCommand 10 = .ok (.invokevirtual 183, 3) := by decide +kernel
theorem dX9_readCommand_13 : decode cX9_readCommand 13 = .ok (.goto 108, 3) := by decide +kernel
theorem dX9_readCommand_16 : decode cX9_readCommand 16 = .ok (.aload_n 0, 1) := by decide +kernel
theorem dX9_readCommand_17 : decode cX9_readCommand 17 = .ok (.bipush 102, 2) := by decide +kernel
theorem dX9_readCommand_19 : decode cX9_readCommand 19 = .ok (.invokevirtual 180, 3) := by decide +kernel
theorem dX9_readCommand_22 : decode cX9_readCommand 22 = .ok (.ifCond .eq 10, 3) := by decide +kernel
theorem dX9_readCommand_25 : decode cX9_readCommand 25 = .ok (.aload_n 0, 1) := by decide +kernel
theorem dX9_readCommand_26 : decode cX9_readCommand 26 = .ok (.invokevirtual 186, 3) := by decide +kernel
theorem dX9_readCommand_29 : decode cX9_readCommand 29 = .ok (.goto 92, 3) := by decide +kernel
theorem dX9_readCommand_32 : decode cX9_readCommand 32 = .ok (.aload_n 0, 1) := by decide +kernel
theorem dX9_readCommand_33 : decode cX9_readCommand 33 = .ok (.bipush 101, 2) := by decide +kernel
theorem dX9_readCommand_35 : decode cX9_readCommand 35 = .ok (.invokevirtual 180, 3) := by decide +kernel
theorem dX9_readCommand_38 : decode cX9_readCommand 38 = .ok (.ifCond .ne 21, 3) := by decide +kernel
theorem dX9_readCommand_41 : decode cX9_readCommand 41 = .ok (.aload_n 0, 1) := by decide +kernel
theorem dX9_readCommand_42 : decode cX9_readCommand 42 = .ok (.bipush 108, 2) := by decide +kernel
theorem dX9_readCommand_44 : decode cX9_readCommand 44 = .ok (.invokevirtual 180, 3) := by decide +kernel
theorem dX9_readCommand_47 : decode cX9_readCommand 47 = .ok (.ifCond .ne 12, 3) := by decide +kernel
theorem dX9_readCommand_50 : decode cX9_readCommand 50 = .ok (.aload_n 0, 1) := by decide +kernel
theorem dX9_readCommand_51 : decode cX9_readCommand 51 = .ok (.bipush 106, 2) := by decide +kernel
theorem dX9_readCommand_53 : decode cX9_readCommand 53 = .ok (.invokevirtual 180, 3) := by decide +kernel
theorem dX9_readCommand_56 : decode cX9_readCommand 56 = .ok (.ifCond .eq 22, 3) := by decide +kernel
theorem dX9_readCommand_59 : decode cX9_readCommand 59 = .ok (.aload_n 0, 1) := by decide +kernel
theorem dX9_readCommand_60 : decode cX9_readCommand 60 = .ok (.aload_n 0, 1) := by decide +kernel
theorem dX9_readCommand_61 : decode cX9_readCommand 61 = .ok (.bipush 101, 2) := by decide +kernel
theorem dX9_readCommand_63 : decode cX9_readCommand 63 = .ok (.invokevirtual 180, 3) := by decide +kernel
theorem dX9_readCommand_66 : decode cX9_readCommand 66 = .ok (.aload_n 0, 1) := by decide +kernel
theorem dX9_readCommand_67 : decode cX9_readCommand 67 = .ok (.bipush 106, 2) := by decide +kernel
theorem dX9_readCommand_69 : decode cX9_readCommand 69 = .ok (.invokevirtual 180, 3) := by decide +kernel
theorem dX9_readCommand_72 : decode cX9_readCommand 72 = .ok (.invokevirtual 189, 3) := by decide +kernel
theorem dX9_readCommand_75 : decode cX9_readCommand 75 = .ok (.goto 46, 3) := by decide +kernel
theorem dX9_readCommand_78 : decode cX9_readCommand 78 = .ok (.aload_n 0, 1) := by decide +kernel
theorem dX9_readCommand_79 : decode cX9_readCommand 79 = .ok (.aload_n 0, 1) := by decide +kernel
theorem dX9_readCommand_80 : decode cX9_readCommand 80 = .ok (.bipush 120, 2) := by decide +kernel
theorem dX9_readCommand_82 : decode cX9_readCommand 82 = .ok (.invokevirtual 180, 3) := by decide +kernel
theorem dX9_readCommand_85 : decode cX9_readCommand 85 = .ok (.invokevirtual 141, 3) := by decide +kernel
theorem dX9_readCommand_88 : decode cX9_readCommand 88 = .ok (.aload_n 0, 1) := by decide +kernel
theorem dX9_readCommand_89 : decode cX9_readCommand 89 = .ok (.getfield 13, 3) := by decide +kernel
theorem dX9_readCommand_92 : decode cX9_readCommand 92 = .ok (.bipush 9, 2) := by decide +kernel
theorem dX9_readCommand_94 : decode cX9_readCommand 94 = .ok (.aload_n 0, 1) := by decide +kernel
theorem dX9_readCommand_95 : decode cX9_readCommand 95 = .ok (.getfield 135, 3) := by decide +kernel
theorem dX9_readCommand_98 : decode cX9_readCommand 98 = .ok (.ifCond .eq 15, 3) := by decide +kernel
theorem dX9_readCommand_101 : decode cX9_readCommand 101 = .ok (.iconst 1, 1) := by decide +kernel
theorem dX9_readCommand_102 : decode cX9_readCommand 102 = .ok (.aload_n 0, 1) := by decide +kernel
theorem dX9_readCommand_103 : decode cX9_readCommand 103 = .ok (.getfield 13, 3) := by decide +kernel
theorem dX9_readCommand_106 : decode cX9_readCommand 106 = .ok (.bipush 9, 2) := by decide +kernel
theorem dX9_readCommand_108 : decode cX9_readCommand 108 = .ok (.iaload, 1) := by decide +kernel
theorem dX9_readCommand_109 : decode cX9_readCommand 109 = .ok (.isub, 1) := by decide +kernel
theorem dX9_readCommand_110 : decode cX9_readCommand 110 = .ok (.goto 10, 3) := by decide +kernel
theorem dX9_readCommand_113 : decode cX9_readCommand 113 = .ok (.aload_n 0, 1) := by decide +kernel
theorem dX9_readCommand_114 : decode cX9_readCommand 114 = .ok (.getfield 13, 3) := by decide +kernel
theorem dX9_readCommand_117 : decode cX9_readCommand 117 = .ok (.bipush 9, 2) := by decide +kernel
theorem dX9_readCommand_119 : decode cX9_readCommand 119 = .ok (.iaload, 1) := by decide +kernel
theorem dX9_readCommand_120 : decode cX9_readCommand 120 = .ok (.iastore, 1) := by decide +kernel
theorem dX9_readCommand_121 : decode cX9_readCommand 121 = .ok (.return_, 1) := by decide +kernel
theorem dX9_readPitch_0 : decode cX9_readPitch 0 = .ok (.aload_n 0, 1) := by decide +kernel
theorem dX9_readPitch_1 : decode cX9_readPitch 1 = .ok (.iconst 1, 1) := by decide +kernel
theorem dX9_readPitch_2 : decode cX9_readPitch 2 = .ok (.invokevirtual 141, 3) := by decide +kernel
theorem dX9_readPitch_5 : decode cX9_readPitch 5 = .ok (.aload_n 0, 1) := by decide +kernel
theorem dX9_readPitch_6 : decode cX9_readPitch 6 = .ok (.iconst 1, 1) := by decide +kernel
theorem dX9_readPitch_7 : decode cX9_readPitch 7 = .ok (.bipush 40, 2) := by decide +kernel
theorem dX9_readPitch_9 : decode cX9_readPitch 9 = .ok (.invokevirtual 151, 3) := by decide +kernel
theorem dX9_readPitch_12 : decode cX9_readPitch 12 = .ok (.istore_n 1, 1) := by decide +kernel
theorem dX9_readPitch_13 : decode cX9_readPitch 13 = .ok (.aload_n 0, 1) := by decide +kernel
theorem dX9_readPitch_14 : decode cX9_readPitch 14 = .ok (.invokevirtual 154, 3) := by decide +kernel
theorem dX9_readPitch_17 : decode cX9_readPitch 17 = .ok (.istore_n 2, 1) := by decide +kernel
theorem dX9_readPitch_18 : decode cX9_readPitch 18 = .ok (.aload_n 0, 1) := by decide +kernel
theorem dX9_readPitch_19 : decode cX9_readPitch 19 = .ok (.getfield 135, 3) := by decide +kernel
theorem dX9_readPitch_22 : decode cX9_readPitch 22 = .ok (.ifCond .eq 45, 3) := by decide +kernel
theorem dX9_readPitch_25 : decode cX9_readPitch 25 = .ok (.aload_n 0, 1) := by decide +kernel
theorem dX9_readPitch_26 : decode cX9_readPitch 26 = .ok (.getfield 13, 3) := by decide +kernel
theorem dX9_readPitch_29 : decode cX9_readPitch 29 = .ok (.iload_n 1, 1) := by decide +kernel
theorem dX9_readPitch_30 : decode cX9_readPitch 30 = .ok (.iload_n 2, 1) := by decide +kernel
theorem dX9_readPitch_31 : decode cX9_readPitch 31 = .ok (.invokestatic 158, 3) := by decide +kernel
theorem dX9_readPitch_34 : decode cX9_readPitch 34 = .ok (.istore_n 3, 1) := by decide +kernel
theorem dX9_readPitch_35 : decode cX9_readPitch 35 = .ok (.aload_n 0, 1) := by decide +kernel
theorem dX9_readPitch_36 : decode cX9_readPitch 36 = .ok (.dup, 1) := by decide +kernel
theorem dX9_readPitch_37 : decode cX9_readPitch 37 = .ok (.getfield 162, 3) := by decide +kernel
theorem dX9_readPitch_40 : decode cX9_readPitch 40 = .ok (.iload_n 3, 1) := by decide +kernel
theorem dX9_readPitch_41 : decode cX9_readPitch 41 = .ok (.ifCond .eq 7, 3) := by decide +kernel
theorem dX9_readPitch_44 : decode cX9_readPitch 44 = .ok (.iconst 0, 1) := by decide +kernel
theorem dX9_readPitch_45 : decode cX9_readPitch 45 = .ok (.goto 4, 3) := by decide +kernel
theorem dX9_readPitch_48 : decode cX9_readPitch 48 = .ok (.iconst 1, 1) := by decide +kernel
theorem dX9_readPitch_49 : decode cX9_readPitch 49 = .ok (.iadd, 1) := by decide +kernel
theorem dX9_readPitch_50 : decode cX9_readPitch 50 = .ok (.putfield 162, 3) := by decide +kernel
theorem dX9_readPitch_53 : decode cX9_readPitch 53 = .ok (.iload_n 3, 1) := by decide +kernel
theorem dX9_readPitch_54 : decode cX9_readPitch 54 = .ok (.ifCond .eq 13, 3) := by decide +kernel
theorem dX9_readPitch_57 : decode cX9_readPitch 57 = .ok (.aload_n 0, 1) := by decide +kernel
theorem dX9_readPitch_58 : decode cX9_readPitch 58 = .ok (.getfield 13, 3) := by decide +kernel
theorem dX9_readPitch_61 : decode cX9_readPitch 61 = .ok (.iload_n 1, 1) := by decide +kernel
theorem dX9_readPitch_62 : decode cX9_readPitch 62 = .ok (.iload_n 2, 1) := by decide +kernel
theorem dX9_readPitch_63 : decode cX9_readPitch 63 = .ok (.invokestatic 165, 3) := by decide +kernel
theorem dX9_readPitch_66 : decode cX9_readPitch 66 = .ok (.pop, 1) := by decide +kernel
theorem dX9_readPitch_67 : decode cX9_readPitch 67 = .ok (.return_, 1) := by decide +kernel
theorem dX9_stepRead_0 : decode cX9_stepRead 0 = .ok (.aload_n 0, 1) := by decide +kernel
theorem dX9_stepRead_1 : decode cX9_stepRead 1 = .ok (.getfield 132, 3) := by decide +kernel
theorem dX9_stepRead_4 : decode cX9_stepRead 4 = .ok (.aload_n 0, 1) := by decide +kernel
theorem dX9_stepRead_5 : decode cX9_stepRead 5 = .ok (.getfield 125, 3) := by decide +kernel
theorem dX9_stepRead_8 : decode cX9_stepRead 8 = .ok (.if_icmp .ge 18, 3) := by decide +kernel
theorem dX9_stepRead_11 : decode cX9_stepRead 11 = .ok (.aload_n 0, 1) := by decide +kernel
theorem dX9_stepRead_12 : decode cX9_stepRead 12 = .ok (.getfield 7, 3) := by decide +kernel
theorem dX9_stepRead_15 : decode cX9_stepRead 15 = .ok (.aload_n 0, 1) := by decide +kernel
theorem dX9_stepRead_16 : decode cX9_stepRead 16 = .ok (.getfield 132, 3) := by decide +kernel
theorem dX9_stepRead_19 : decode cX9_stepRead 19 = .ok (.iaload, 1) := by decide +kernel
theorem dX9_stepRead_20 : decode cX9_stepRead 20 = .ok (.bipush 48, 2) := by decide +kernel
theorem dX9_stepRead_22 : decode cX9_stepRead 22 = .ok (.isub, 1) := by decide +kernel
theorem dX9_stepRead_23 : decode cX9_stepRead 23 = .ok (.goto 4, 3) := by decide +kernel
theorem dX9_stepRead_26 : decode cX9_stepRead 26 = .ok (.iconst (-1), 1) := by decide +kernel
theorem dX9_stepRead_27 : decode cX9_stepRead 27 = .ok (.istore_n 1, 1) := by decide +kernel
theorem dX9_stepRead_28 : decode cX9_stepRead 28 = .ok (.aload_n 0, 1) := by decide +kernel
theorem dX9_stepRead_29 : decode cX9_stepRead 29 = .ok (.iload_n 1, 1) := by decide +kernel
theorem dX9_stepRead_30 : decode cX9_stepRead 30 = .ok (.invokestatic 148, 3) := by decide +kernel
theorem dX9_stepRead_33 : decode cX9_stepRead 33 = .ok (.invokevirtual 141, 3) := by decide +kernel
theorem dX9_stepRead_36 : decode cX9_stepRead 36 = .ok (.aload_n 0, 1) := by decide +kernel
theorem dX9_stepRead_37 : decode cX9_stepRead 37 = .ok (.getfield 135, 3) := by decide +kernel
theorem dX9_stepRead_40 : decode cX9_stepRead 40 = .ok (.ifCond .eq 7, 3) := by decide +kernel
theorem dX9_stepRead_43 : decode cX9_stepRead 43 = .ok (.iload_n 1, 1) := by decide +kernel
theorem dX9_stepRead_44 : decode cX9_stepRead 44 = .ok (.goto 4, 3) := by decide +kernel
theorem dX9_stepRead_47 : decode cX9_stepRead 47 = .ok (.iconst 1, 1) := by decide +kernel
theorem dX9_stepRead_48 : decode cX9_stepRead 48 = .ok (.ireturn, 1) := by decide +kernel
theorem dX9_isStep_0 : decode cX9_isStep 0 = .ok (.iload_n 0, 1) := by decide +kernel
theorem dX9_isStep_1 : decode cX9_isStep 1 = .ok (.iconst 1, 1) := by decide +kernel
theorem dX9_isStep_2 : decode cX9_isStep 2 = .ok (.if_icmp .eq 19, 3) := by decide +kernel
theorem dX9_isStep_5 : decode cX9_isStep 5 = .ok (.iload_n 0, 1) := by decide +kernel
theorem dX9_isStep_6 : decode cX9_isStep 6 = .ok (.iconst 2, 1) := by decide +kernel
theorem dX9_isStep_7 : decode cX9_isStep 7 = .ok (.if_icmp .eq 14, 3) := by decide +kernel
theorem dX9_isStep_10 : decode cX9_isStep 10 = .ok (.iload_n 0, 1) := by decide +kernel
theorem dX9_isStep_11 : decode cX9_isStep 11 = .ok (.iconst 4, 1) := by decide +kernel
theorem dX9_isStep_12 : decode cX9_isStep 12 = .ok (.if_icmp .eq 9, 3) := by decide +kernel
theorem dX9_isStep_15 : decode cX9_isStep 15 = .ok (.iload_n 0, 1) := by decide +kernel
theorem dX9_isStep_16 : decode cX9_isStep 16 = .ok (.bipush 8, 2) := by decide +kernel
theorem dX9_isStep_18 : decode cX9_isStep 18 = .ok (.if_icmp .ne 7, 3) := by decide +kernel
theorem dX9_isStep_21 : decode cX9_isStep 21 = .ok (.iconst 1, 1) := by decide +kernel
theorem dX9_isStep_22 : decode cX9_isStep 22 = .ok (.goto 4, 3) := by decide +kernel
theorem dX9_isStep_25 : decode cX9_isStep 25 = .ok (.iconst 0, 1) := by decide +kernel
theorem dX9_isStep_26 : decode cX9_isStep 26 = .ok (.ireturn, 1) := by decide +kernel
theorem dX9_canPitch_0 : decode cX9_canPitch 0 = .ok (.aload_n 0, 1) := by decide +kernel
theorem dX9_canPitch_1 : decode cX9_canPitch 1 = .ok (.iconst 0, 1) := by decide +kernel
theorem dX9_canPitch_2 : decode cX9_canPitch 2 = .ok (.iaload, 1) := by decide +kernel
theorem dX9_canPitch_3 : decode cX9_canPitch 3 = .ok (.bipush 24, 2) := by decide +kernel
theorem dX9_canPitch_5 : decode cX9_canPitch 5 = .ok (.if_icmp .ge 17, 3) := by decide +kernel
theorem dX9_canPitch_8 : decode cX9_canPitch 8 = .ok (.aload_n 0, 1) := by decide +kernel
theorem dX9_canPitch_9 : decode cX9_canPitch 9 = .ok (.iload_n 1, 1) := by decide +kernel
theorem dX9_canPitch_10 : decode cX9_canPitch 10 = .ok (.iload_n 2, 1) := by decide +kernel
theorem dX9_canPitch_11 : decode cX9_canPitch 11 = .ok (.invokestatic 84, 3) := by decide +kernel
theorem dX9_canPitch_14 : decode cX9_canPitch 14 = .ok (.iconst 3, 1) := by decide +kernel
theorem dX9_canPitch_15 : decode cX9_canPitch 15 = .ok (.if_icmp .ge 7, 3) := by decide +kernel
theorem dX9_canPitch_18 : decode cX9_canPitch 18 = .ok (.iconst 1, 1) := by decide +kernel
theorem dX9_canPitch_19 : decode cX9_canPitch 19 = .ok (.goto 4, 3) := by decide +kernel
theorem dX9_canPitch_22 : decode cX9_canPitch 22 = .ok (.iconst 0, 1) := by decide +kernel
theorem dX9_canPitch_23 : decode cX9_canPitch 23 = .ok (.ireturn, 1) := by decide +kernel
theorem dX9_whereIn_0 : decode cX9_whereIn 0 = .ok (.aload_n 0, 1) := by decide +kernel
theorem dX9_whereIn_1 : decode cX9_whereIn 1 = .ok (.iload_n 1, 1) := by decide +kernel
theorem dX9_whereIn_2 : decode cX9_whereIn 2 = .ok (.iload_n 2, 1) := by decide +kernel
theorem dX9_whereIn_3 : decode cX9_whereIn 3 = .ok (.invokestatic 69, 3) := by decide +kernel
theorem dX9_whereIn_6 : decode cX9_whereIn 6 = .ok (.iconst (-1), 1) := by decide +kernel
theorem dX9_whereIn_7 : decode cX9_whereIn 7 = .ok (.if_icmp .eq 5, 3) := by decide +kernel
theorem dX9_whereIn_10 : decode cX9_whereIn 10 = .ok (.iconst 0, 1) := by decide +kernel
theorem dX9_whereIn_11 : decode cX9_whereIn 11 = .ok (.ireturn, 1) := by decide +kernel
theorem dX9_whereIn_12 : decode cX9_whereIn 12 = .ok (.aload_n 0, 1) := by decide +kernel
theorem dX9_whereIn_13 : decode cX9_whereIn 13 = .ok (.iload_n 1, 1) := by decide +kernel
theorem dX9_whereIn_14 : decode cX9_whereIn 14 = .ok (.invokestatic 73, 3) := by decide +kernel
theorem dX9_whereIn_17 : decode cX9_whereIn 17 = .ok (.iconst (-1), 1) := by decide +kernel
theorem dX9_whereIn_18 : decode cX9_whereIn 18 = .ok (.if_icmp .eq 5, 3) := by decide +kernel
theorem dX9_whereIn_21 : decode cX9_whereIn 21 = .ok (.iconst 1, 1) := by decide +kernel
theorem dX9_whereIn_22 : decode cX9_whereIn 22 = .ok (.ireturn, 1) := by decide +kernel
theorem dX9_whereIn_23 : decode cX9_whereIn 23 = .ok (.aload_n 0, 1) := by decide +kernel
theorem dX9_whereIn_24 : decode cX9_whereIn 24 = .ok (.iload_n 1, 1) := by decide +kernel
theorem dX9_whereIn_25 : decode cX9_whereIn 25 = .ok (.invokestatic 77, 3) := by decide +kernel
theorem dX9_whereIn_28 : decode cX9_whereIn 28 = .ok (.ifCond .eq 7, 3) := by decide +kernel
theorem dX9_whereIn_31 : decode cX9_whereIn 31 = .ok (.iload_n 1, 1) := by decide +kernel
theorem dX9_whereIn_32 : decode cX9_whereIn 32 = .ok (.goto 7, 3) := by decide +kernel
theorem dX9_whereIn_35 : decode cX9_whereIn 35 = .ok (.aload_n 0, 1) := by decide +kernel
theorem dX9_whereIn_36 : decode cX9_whereIn 36 = .ok (.bipush 7, 2) := by decide +kernel
theorem dX9_whereIn_38 : decode cX9_whereIn 38 = .ok (.iaload, 1) := by decide +kernel
theorem dX9_whereIn_39 : decode cX9_whereIn 39 = .ok (.istore_n 3, 1) := by decide +kernel
theorem dX9_whereIn_40 : decode cX9_whereIn 40 = .ok (.aload_n 0, 1) := by decide +kernel
theorem dX9_whereIn_41 : decode cX9_whereIn 41 = .ok (.invokestatic 81, 3) := by decide +kernel
theorem dX9_whereIn_44 : decode cX9_whereIn 44 = .ok (.iload_n 3, 1) := by decide +kernel
theorem dX9_whereIn_45 : decode cX9_whereIn 45 = .ok (.iadd, 1) := by decide +kernel
theorem dX9_whereIn_46 : decode cX9_whereIn 46 = .ok (.sipush 256, 3) := by decide +kernel
theorem dX9_whereIn_49 : decode cX9_whereIn 49 = .ok (.if_icmp .gt 7, 3) := by decide +kernel
theorem dX9_whereIn_52 : decode cX9_whereIn 52 = .ok (.iconst 2, 1) := by decide +kernel
theorem dX9_whereIn_53 : decode cX9_whereIn 53 = .ok (.goto 4, 3) := by decide +kernel
theorem dX9_whereIn_56 : decode cX9_whereIn 56 = .ok (.iconst 3, 1) := by decide +kernel
theorem dX9_whereIn_57 : decode cX9_whereIn 57 = .ok (.ireturn, 1) := by decide +kernel
theorem dX9_roomOn_0 : decode cX9_roomOn 0 = .ok (.aload_n 0, 1) := by decide +kernel
theorem dX9_roomOn_1 : decode cX9_roomOn 1 = .ok (.invokestatic 66, 3) := by decide +kernel
theorem dX9_roomOn_4 : decode cX9_roomOn 4 = .ok (.istore_n 3, 1) := by decide +kernel
theorem dX9_roomOn_5 : decode cX9_roomOn 5 = .ok (.iload_n 3, 1) := by decide +kernel
theorem dX9_roomOn_6 : decode cX9_roomOn 6 = .ok (.iconst (-1), 1) := by decide +kernel
theorem dX9_roomOn_7 : decode cX9_roomOn 7 = .ok (.if_icmp .ne 5, 3) := by decide +kernel
theorem dX9_roomOn_10 : decode cX9_roomOn 10 = .ok (.iconst (-1), 1) := by decide +kernel
theorem dX9_roomOn_11 : decode cX9_roomOn 11 = .ok (.ireturn, 1) := by decide +kernel
theorem dX9_roomOn_12 : decode cX9_roomOn 12 = .ok (.aload_n 0, 1) := by decide +kernel
theorem dX9_roomOn_13 : decode cX9_roomOn 13 = .ok (.iload_n 3, 1) := by decide +kernel
theorem dX9_roomOn_14 : decode cX9_roomOn 14 = .ok (.iconst 2, 1) := by decide +kernel
theorem dX9_roomOn_15 : decode cX9_roomOn 15 = .ok (.invokestatic 53, 3) := by decide +kernel
theorem dX9_roomOn_18 : decode cX9_roomOn 18 = .ok (.iaload, 1) := by decide +kernel
theorem dX9_roomOn_19 : decode cX9_roomOn 19 = .ok (.iload_n 2, 1) := by decide +kernel
theorem dX9_roomOn_20 : decode cX9_roomOn 20 = .ok (.iadd, 1) := by decide +kernel
theorem dX9_roomOn_21 : decode cX9_roomOn 21 = .ok (.iconst 1, 1) := by decide +kernel
theorem dX9_roomOn_22 : decode cX9_roomOn 22 = .ok (.isub, 1) := by decide +kernel
theorem dX9_roomOn_23 : decode cX9_roomOn 23 = .ok (.iload_n 2, 1) := by decide +kernel
theorem dX9_roomOn_24 : decode cX9_roomOn 24 = .ok (.idiv, 1) := by decide +kernel
theorem dX9_roomOn_25 : decode cX9_roomOn 25 = .ok (.iload_n 2, 1) := by decide +kernel
theorem dX9_roomOn_26 : decode cX9_roomOn 26 = .ok (.imul, 1) := by decide +kernel
theorem dX9_roomOn_27 : decode cX9_roomOn 27 = .ok (.istore 4, 2) := by decide +kernel
theorem dX9_roomOn_29 : decode cX9_roomOn 29 = .ok (.iload 4, 2) := by decide +kernel
theorem dX9_roomOn_31 : decode cX9_roomOn 31 = .ok (.iload_n 1, 1) := by decide +kernel
theorem dX9_roomOn_32 : decode cX9_roomOn 32 = .ok (.iadd, 1) := by decide +kernel
theorem dX9_roomOn_33 : decode cX9_roomOn 33 = .ok (.aload_n 0, 1) := by decide +kernel
theorem dX9_roomOn_34 : decode cX9_roomOn 34 = .ok (.iload_n 3, 1) := by decide +kernel
theorem dX9_roomOn_35 : decode cX9_roomOn 35 = .ok (.iconst 0, 1) := by decide +kernel
theorem dX9_roomOn_36 : decode cX9_roomOn 36 = .ok (.invokestatic 53, 3) := by decide +kernel
theorem dX9_roomOn_39 : decode cX9_roomOn 39 = .ok (.iaload, 1) := by decide +kernel
theorem dX9_roomOn_40 : decode cX9_roomOn 40 = .ok (.if_icmp .gt 8, 3) := by decide +kernel
theorem dX9_roomOn_43 : decode cX9_roomOn 43 = .ok (.iload 4, 2) := by decide +kernel
theorem dX9_roomOn_45 : decode cX9_roomOn 45 = .ok (.goto 4, 3) := by decide +kernel
theorem dX9_roomOn_48 : decode cX9_roomOn 48 = .ok (.iconst (-1), 1) := by decide +kernel
theorem dX9_roomOn_49 : decode cX9_roomOn 49 = .ok (.ireturn, 1) := by decide +kernel
theorem dX9_lastUsual_0 : decode cX9_lastUsual 0 = .ok (.iconst (-1), 1) := by decide +kernel
theorem dX9_lastUsual_1 : decode cX9_lastUsual 1 = .ok (.istore_n 1, 1) := by decide +kernel
theorem dX9_lastUsual_2 : decode cX9_lastUsual 2 = .ok (.iconst 0, 1) := by decide +kernel
theorem dX9_lastUsual_3 : decode cX9_lastUsual 3 = .ok (.istore_n 2, 1) := by decide +kernel
theorem dX9_lastUsual_4 : decode cX9_lastUsual 4 = .ok (.iload_n 2, 1) := by decide +kernel
theorem dX9_lastUsual_5 : decode cX9_lastUsual 5 = .ok (.aload_n 0, 1) := by decide +kernel
theorem dX9_lastUsual_6 : decode cX9_lastUsual 6 = .ok (.iconst 1, 1) := by decide +kernel
theorem dX9_lastUsual_7 : decode cX9_lastUsual 7 = .ok (.iaload, 1) := by decide +kernel
theorem dX9_lastUsual_8 : decode cX9_lastUsual 8 = .ok (.if_icmp .ge 25, 3) := by decide +kernel
theorem dX9_lastUsual_11 : decode cX9_lastUsual 11 = .ok (.aload_n 0, 1) := by decide +kernel
theorem dX9_lastUsual_12 : decode cX9_lastUsual 12 = .ok (.iload_n 2, 1) := by decide +kernel
theorem dX9_lastUsual_13 : decode cX9_lastUsual 13 = .ok (.iconst 1, 1) := by decide +kernel
theorem dX9_lastUsual_14 : decode cX9_lastUsual 14 = .ok (.invokestatic 53, 3) := by decide +kernel
theorem dX9_lastUsual_17 : decode cX9_lastUsual 17 = .ok (.iaload, 1) := by decide +kernel
theorem dX9_lastUsual_18 : decode cX9_lastUsual 18 = .ok (.ifCond .ne 7, 3) := by decide +kernel
theorem dX9_lastUsual_21 : decode cX9_lastUsual 21 = .ok (.iload_n 2, 1) := by decide +kernel
theorem dX9_lastUsual_22 : decode cX9_lastUsual 22 = .ok (.goto 4, 3) := by decide +kernel
theorem dX9_lastUsual_25 : decode cX9_lastUsual 25 = .ok (.iload_n 1, 1) := by decide +kernel
theorem dX9_lastUsual_26 : decode cX9_lastUsual 26 = .ok (.istore_n 1, 1) := by decide +kernel
theorem dX9_lastUsual_27 : decode cX9_lastUsual 27 = .ok (.iinc 2 1, 3) := by decide +kernel
theorem dX9_lastUsual_30 : decode cX9_lastUsual 30 = .ok (.goto (-26), 3) := by decide +kernel
theorem dX9_lastUsual_33 : decode cX9_lastUsual 33 = .ok (.iload_n 1, 1) := by decide +kernel
theorem dX9_lastUsual_34 : decode cX9_lastUsual 34 = .ok (.ireturn, 1) := by decide +kernel
theorem dX9_fieldAt_0 : decode cX9_fieldAt 0 = .ok (.bipush 106, 2) := by decide +kernel
theorem dX9_fieldAt_2 : decode cX9_fieldAt 2 = .ok (.iconst 4, 1) := by decide +kernel
theorem dX9_fieldAt_3 : decode cX9_fieldAt 3 = .ok (.iload_n 0, 1) := by decide +kernel
theorem dX9_fieldAt_4 : decode cX9_fieldAt 4 = .ok (.imul, 1) := by decide +kernel
theorem dX9_fieldAt_5 : decode cX9_fieldAt 5 = .ok (.iadd, 1) := by decide +kernel
theorem dX9_fieldAt_6 : decode cX9_fieldAt 6 = .ok (.iload_n 1, 1) := by decide +kernel
theorem dX9_fieldAt_7 : decode cX9_fieldAt 7 = .ok (.iadd, 1) := by decide +kernel
theorem dX9_fieldAt_8 : decode cX9_fieldAt 8 = .ok (.ireturn, 1) := by decide +kernel
theorem dX9_spareFor_0 : decode cX9_spareFor 0 = .ok (.iconst (-1), 1) := by decide +kernel
theorem dX9_spareFor_1 : decode cX9_spareFor 1 = .ok (.istore_n 2, 1) := by decide +kernel
theorem dX9_spareFor_2 : decode cX9_spareFor 2 = .ok (.iconst 0, 1) := by decide +kernel
theorem dX9_spareFor_3 : decode cX9_spareFor 3 = .ok (.istore_n 3, 1) := by decide +kernel
theorem dX9_spareFor_4 : decode cX9_spareFor 4 = .ok (.iload_n 3, 1) := by decide +kernel
theorem dX9_spareFor_5 : decode cX9_spareFor 5 = .ok (.aload_n 0, 1) := by decide +kernel
theorem dX9_spareFor_6 : decode cX9_spareFor 6 = .ok (.iconst 2, 1) := by decide +kernel
theorem dX9_spareFor_7 : decode cX9_spareFor 7 = .ok (.iaload, 1) := by decide +kernel
theorem dX9_spareFor_8 : decode cX9_spareFor 8 = .ok (.if_icmp .ge 60, 3) := by decide +kernel
theorem dX9_spareFor_11 : decode cX9_spareFor 11 = .ok (.aload_n 0, 1) := by decide +kernel
theorem dX9_spareFor_12 : decode cX9_spareFor 12 = .ok (.iload_n 3, 1) := by decide +kernel
theorem dX9_spareFor_13 : decode cX9_spareFor 13 = .ok (.iconst 0, 1) := by decide +kernel
theorem dX9_spareFor_14 : decode cX9_spareFor 14 = .ok (.invokestatic 56, 3) := by decide +kernel
theorem dX9_spareFor_17 : decode cX9_spareFor 17 = .ok (.iaload, 1) := by decide +kernel
theorem dX9_spareFor_18 : decode cX9_spareFor 18 = .ok (.iload_n 1, 1) := by decide +kernel
theorem dX9_spareFor_19 : decode cX9_spareFor 19 = .ok (.if_icmp .lt 29, 3) := by decide +kernel
theorem dX9_spareFor_22 : decode cX9_spareFor 22 = .ok (.iload_n 2, 1) := by decide +kernel
theorem dX9_spareFor_23 : decode cX9_spareFor 23 = .ok (.iconst (-1), 1) := by decide +kernel
theorem dX9_spareFor_24 : decode cX9_spareFor 24 = .ok (.if_icmp .eq 20, 3) := by decide +kernel
theorem dX9_spareFor_27 : decode cX9_spareFor 27 = .ok (.aload_n 0, 1) := by decide +kernel
theorem dX9_spareFor_28 : decode cX9_spareFor 28 = .ok (.iload_n 3, 1) := by decide +kernel
theorem dX9_spareFor_29 : decode cX9_spareFor 29 = .ok (.iconst 0, 1) := by decide +kernel
theorem dX9_spareFor_30 : decode cX9_spareFor 30 = .ok (.invokestatic 56, 3) := by decide +kernel
theorem dX9_spareFor_33 : decode cX9_spareFor 33 = .ok (.iaload, 1) := by decide +kernel
theorem dX9_spareFor_34 : decode cX9_spareFor 34 = .ok (.aload_n 0, 1) := by decide +kernel
theorem dX9_spareFor_35 : decode cX9_spareFor 35 = .ok (.iload_n 2, 1) := by decide +kernel
theorem dX9_spareFor_36 : decode cX9_spareFor 36 = .ok (.iconst 0, 1) := by decide +kernel
theorem dX9_spareFor_37 : decode cX9_spareFor 37 = .ok (.invokestatic 56, 3) := by decide +kernel
theorem dX9_spareFor_40 : decode cX9_spareFor 40 = .ok (.iaload, 1) := by decide +kernel
theorem dX9_spareFor_41 : decode cX9_spareFor 41 = .ok (.if_icmp .ge 7, 3) := by decide +kernel
theorem dX9_spareFor_44 : decode cX9_spareFor 44 = .ok (.iconst 1, 1) := by decide +kernel
theorem dX9_spareFor_45 : decode cX9_spareFor 45 = .ok (.goto 4, 3) := by decide +kernel
theorem dX9_spareFor_48 : decode cX9_spareFor 48 = .ok (.iconst 0, 1) := by decide +kernel
theorem dX9_spareFor_49 : decode cX9_spareFor 49 = .ok (.istore 4, 2) := by decide +kernel
theorem dX9_spareFor_51 : decode cX9_spareFor 51 = .ok (.iload 4, 2) := by decide +kernel
theorem dX9_spareFor_53 : decode cX9_spareFor 53 = .ok (.ifCond .eq 7, 3) := by decide +kernel
theorem dX9_spareFor_56 : decode cX9_spareFor 56 = .ok (.iload_n 3, 1) := by decide +kernel
theorem dX9_spareFor_57 : decode cX9_spareFor 57 = .ok (.goto 4, 3) := by decide +kernel
theorem dX9_spareFor_60 : decode cX9_spareFor 60 = .ok (.iload_n 2, 1) := by decide +kernel
theorem dX9_spareFor_61 : decode cX9_spareFor 61 = .ok (.istore_n 2, 1) := by decide +kernel
theorem dX9_spareFor_62 : decode cX9_spareFor 62 = .ok (.iinc 3 1, 3) := by decide +kernel
theorem dX9_spareFor_65 : decode cX9_spareFor 65 = .ok (.goto (-61), 3) := by decide +kernel
theorem dX9_spareFor_68 : decode cX9_spareFor 68 = .ok (.iload_n 2, 1) := by decide +kernel
theorem dX9_spareFor_69 : decode cX9_spareFor 69 = .ok (.ireturn, 1) := by decide +kernel
theorem dX9_spareAt_0 : decode cX9_spareAt 0 = .ok (.sipush 314, 3) := by decide +kernel
theorem dX9_spareAt_3 : decode cX9_spareAt 3 = .ok (.iconst 2, 1) := by decide +kernel
theorem dX9_spareAt_4 : decode cX9_spareAt 4 = .ok (.iload_n 0, 1) := by decide +kernel
theorem dX9_spareAt_5 : decode cX9_spareAt 5 = .ok (.imul, 1) := by decide +kernel
theorem dX9_spareAt_6 : decode cX9_spareAt 6 = .ok (.iadd, 1) := by decide +kernel
theorem dX9_spareAt_7 : decode cX9_spareAt 7 = .ok (.iload_n 1, 1) := by decide +kernel
theorem dX9_spareAt_8 : decode cX9_spareAt 8 = .ok (.iadd, 1) := by decide +kernel
theorem dX9_spareAt_9 : decode cX9_spareAt 9 = .ok (.ireturn, 1) := by decide +kernel
theorem dX9_isBig_0 : decode cX9_isBig 0 = .ok (.iload_n 1, 1) := by decide +kernel
theorem dX9_isBig_1 : decode cX9_isBig 1 = .ok (.aload_n 0, 1) := by decide +kernel
theorem dX9_isBig_2 : decode cX9_isBig 2 = .ok (.bipush 7, 2) := by decide +kernel
theorem dX9_isBig_4 : decode cX9_isBig 4 = .ok (.iaload, 1) := by decide +kernel
theorem dX9_isBig_5 : decode cX9_isBig 5 = .ok (.iconst 2, 1) := by decide +kernel
theorem dX9_isBig_6 : decode cX9_isBig 6 = .ok (.idiv, 1) := by decide +kernel
theorem dX9_isBig_7 : decode cX9_isBig 7 = .ok (.if_icmp .le 7, 3) := by decide +kernel
theorem dX9_isBig_10 : decode cX9_isBig 10 = .ok (.iconst 1, 1) := by decide +kernel
theorem dX9_isBig_11 : decode cX9_isBig 11 = .ok (.goto 4, 3) := by decide +kernel
theorem dX9_isBig_14 : decode cX9_isBig 14 = .ok (.iconst 0, 1) := by decide +kernel
theorem dX9_isBig_15 : decode cX9_isBig 15 = .ok (.ireturn, 1) := by decide +kernel
theorem dX9_allPlaces_0 : decode cX9_allPlaces 0 = .ok (.aload_n 0, 1) := by decide +kernel
theorem dX9_allPlaces_1 : decode cX9_allPlaces 1 = .ok (.invokestatic 59, 3) := by decide +kernel
theorem dX9_allPlaces_4 : decode cX9_allPlaces 4 = .ok (.aload_n 0, 1) := by decide +kernel
theorem dX9_allPlaces_5 : decode cX9_allPlaces 5 = .ok (.invokestatic 63, 3) := by decide +kernel
theorem dX9_allPlaces_8 : decode cX9_allPlaces 8 = .ok (.iadd, 1) := by decide +kernel
theorem dX9_allPlaces_9 : decode cX9_allPlaces 9 = .ok (.ireturn, 1) := by decide +kernel
theorem dX9_usedPlaces_0 : decode cX9_usedPlaces 0 = .ok (.iconst 0, 1) := by decide +kernel
theorem dX9_usedPlaces_1 : decode cX9_usedPlaces 1 = .ok (.istore_n 1, 1) := by decide +kernel
theorem dX9_usedPlaces_2 : decode cX9_usedPlaces 2 = .ok (.iconst 0, 1) := by decide +kernel
theorem dX9_usedPlaces_3 : decode cX9_usedPlaces 3 = .ok (.istore_n 2, 1) := by decide +kernel
theorem dX9_usedPlaces_4 : decode cX9_usedPlaces 4 = .ok (.iload_n 2, 1) := by decide +kernel
theorem dX9_usedPlaces_5 : decode cX9_usedPlaces 5 = .ok (.aload_n 0, 1) := by decide +kernel
theorem dX9_usedPlaces_6 : decode cX9_usedPlaces 6 = .ok (.iconst 1, 1) := by decide +kernel
theorem dX9_usedPlaces_7 : decode cX9_usedPlaces 7 = .ok (.iaload, 1) := by decide +kernel
theorem dX9_usedPlaces_8 : decode cX9_usedPlaces 8 = .ok (.if_icmp .ge 19, 3) := by decide +kernel
theorem dX9_usedPlaces_11 : decode cX9_usedPlaces 11 = .ok (.iload_n 1, 1) := by decide +kernel
theorem dX9_usedPlaces_12 : decode cX9_usedPlaces 12 = .ok (.aload_n 0, 1) := by decide +kernel
theorem dX9_usedPlaces_13 : decode cX9_usedPlaces 13 = .ok (.iload_n 2, 1) := by decide +kernel
theorem dX9_usedPlaces_14 : decode cX9_usedPlaces 14 = .ok (.iconst 0, 1) := by decide +kernel
theorem dX9_usedPlaces_15 : decode cX9_usedPlaces 15 = .ok (.invokestatic 53, 3) := by decide +kernel
theorem dX9_usedPlaces_18 : decode cX9_usedPlaces 18 = .ok (.iaload, 1) := by decide +kernel
theorem dX9_usedPlaces_19 : decode cX9_usedPlaces 19 = .ok (.iadd, 1) := by decide +kernel
theorem dX9_usedPlaces_20 : decode cX9_usedPlaces 20 = .ok (.istore_n 1, 1) := by decide +kernel
theorem dX9_usedPlaces_21 : decode cX9_usedPlaces 21 = .ok (.iinc 2 1, 3) := by decide +kernel
theorem dX9_usedPlaces_24 : decode cX9_usedPlaces 24 = .ok (.goto (-20), 3) := by decide +kernel
theorem dX9_usedPlaces_27 : decode cX9_usedPlaces 27 = .ok (.iload_n 1, 1) := by decide +kernel
theorem dX9_usedPlaces_28 : decode cX9_usedPlaces 28 = .ok (.ireturn, 1) := by decide +kernel
theorem dX9_sparePlaces_0 : decode cX9_sparePlaces 0 = .ok (.iconst 0, 1) := by decide +kernel
theorem dX9_sparePlaces_1 : decode cX9_sparePlaces 1 = .ok (.istore_n 1, 1) := by decide +kernel
theorem dX9_sparePlaces_2 : decode cX9_sparePlaces 2 = .ok (.iconst 0, 1) := by decide +kernel
theorem dX9_sparePlaces_3 : decode cX9_sparePlaces 3 = .ok (.istore_n 2, 1) := by decide +kernel
theorem dX9_sparePlaces_4 : decode cX9_sparePlaces 4 = .ok (.iload_n 2, 1) := by decide +kernel
theorem dX9_sparePlaces_5 : decode cX9_sparePlaces 5 = .ok (.aload_n 0, 1) := by decide +kernel
theorem dX9_sparePlaces_6 : decode cX9_sparePlaces 6 = .ok (.iconst 2, 1) := by decide +kernel
theorem dX9_sparePlaces_7 : decode cX9_sparePlaces 7 = .ok (.iaload, 1) := by decide +kernel
theorem dX9_sparePlaces_8 : decode cX9_sparePlaces 8 = .ok (.if_icmp .ge 19, 3) := by decide +kernel
theorem dX9_sparePlaces_11 : decode cX9_sparePlaces 11 = .ok (.iload_n 1, 1) := by decide +kernel
theorem dX9_sparePlaces_12 : decode cX9_sparePlaces 12 = .ok (.aload_n 0, 1) := by decide +kernel
theorem dX9_sparePlaces_13 : decode cX9_sparePlaces 13 = .ok (.iload_n 2, 1) := by decide +kernel
theorem dX9_sparePlaces_14 : decode cX9_sparePlaces 14 = .ok (.iconst 0, 1) := by decide +kernel
theorem dX9_sparePlaces_15 : decode cX9_sparePlaces 15 = .ok (.invokestatic 56, 3) := by decide +kernel
theorem dX9_sparePlaces_18 : decode cX9_sparePlaces 18 = .ok (.iaload, 1) := by decide +kernel
theorem dX9_sparePlaces_19 : decode cX9_sparePlaces 19 = .ok (.iadd, 1) := by decide +kernel
theorem dX9_sparePlaces_20 : decode cX9_sparePlaces 20 = .ok (.istore_n 1, 1) := by decide +kernel
theorem dX9_sparePlaces_21 : decode cX9_sparePlaces 21 = .ok (.iinc 2 1, 3) := by decide +kernel
theorem dX9_sparePlaces_24 : decode cX9_sparePlaces 24 = .ok (.goto (-20), 3) := by decide +kernel
theorem dX9_sparePlaces_27 : decode cX9_sparePlaces 27 = .ok (.iload_n 1, 1) := by decide +kernel
theorem dX9_sparePlaces_28 : decode cX9_sparePlaces 28 = .ok (.ireturn, 1) := by decide +kernel
theorem dX9_pitchIn_0 : decode cX9_pitchIn 0 = .ok (.aload_n 0, 1) := by decide +kernel
theorem dX9_pitchIn_1 : decode cX9_pitchIn 1 = .ok (.iload_n 1, 1) := by decide +kernel
theorem dX9_pitchIn_2 : decode cX9_pitchIn 2 = .ok (.iload_n 2, 1) := by decide +kernel
theorem dX9_pitchIn_3 : decode cX9_pitchIn 3 = .ok (.invokestatic 84, 3) := by decide +kernel
theorem dX9_pitchIn_6 : decode cX9_pitchIn 6 = .ok (.ifCond .ne 7, 3) := by decide +kernel
theorem dX9_pitchIn_9 : decode cX9_pitchIn 9 = .ok (.iconst 1, 1) := by decide +kernel
theorem dX9_pitchIn_10 : decode cX9_pitchIn 10 = .ok (.goto 4, 3) := by decide +kernel
theorem dX9_pitchIn_13 : decode cX9_pitchIn 13 = .ok (.iconst 0, 1) := by decide +kernel
theorem dX9_pitchIn_14 : decode cX9_pitchIn 14 = .ok (.istore_n 3, 1) := by decide +kernel
theorem dX9_pitchIn_15 : decode cX9_pitchIn 15 = .ok (.aload_n 0, 1) := by decide +kernel
theorem dX9_pitchIn_16 : decode cX9_pitchIn 16 = .ok (.iload_n 1, 1) := by decide +kernel
theorem dX9_pitchIn_17 : decode cX9_pitchIn 17 = .ok (.iload_n 2, 1) := by decide +kernel
theorem dX9_pitchIn_18 : decode cX9_pitchIn 18 = .ok (.invokestatic 94, 3) := by decide +kernel
theorem dX9_pitchIn_21 : decode cX9_pitchIn 21 = .ok (.istore 4, 2) := by decide +kernel
theorem dX9_pitchIn_23 : decode cX9_pitchIn 23 = .ok (.aload_n 0, 1) := by decide +kernel
theorem dX9_pitchIn_24 : decode cX9_pitchIn 24 = .ok (.iconst 0, 1) := by decide +kernel
theorem dX9_pitchIn_25 : decode cX9_pitchIn 25 = .ok (.iaload, 1) := by decide +kernel
theorem dX9_pitchIn_26 : decode cX9_pitchIn 26 = .ok (.istore 5, 2) := by decide +kernel
theorem dX9_pitchIn_28 : decode cX9_pitchIn 28 = .ok (.aload_n 0, 1) := by decide +kernel
theorem dX9_pitchIn_29 : decode cX9_pitchIn 29 = .ok (.iload 5, 2) := by decide +kernel
theorem dX9_pitchIn_31 : decode cX9_pitchIn 31 = .ok (.iconst 0, 1) := by decide +kernel
theorem dX9_pitchIn_32 : decode cX9_pitchIn 32 = .ok (.invokestatic 49, 3) := by decide +kernel
theorem dX9_pitchIn_35 : decode cX9_pitchIn 35 = .ok (.iload_n 3, 1) := by decide +kernel
theorem dX9_pitchIn_36 : decode cX9_pitchIn 36 = .ok (.ifCond .eq 10, 3) := by decide +kernel
theorem dX9_pitchIn_39 : decode cX9_pitchIn 39 = .ok (.aload_n 0, 1) := by decide +kernel
theorem dX9_pitchIn_40 : decode cX9_pitchIn 40 = .ok (.invokestatic 66, 3) := by decide +kernel
theorem dX9_pitchIn_43 : decode cX9_pitchIn 43 = .ok (.goto 8, 3) := by decide +kernel
theorem dX9_pitchIn_46 : decode cX9_pitchIn 46 = .ok (.aload_n 0, 1) := by decide +kernel
theorem dX9_pitchIn_47 : decode cX9_pitchIn 47 = .ok (.iconst 1, 1) := by decide +kernel
theorem dX9_pitchIn_48 : decode cX9_pitchIn 48 = .ok (.iaload, 1) := by decide +kernel
theorem dX9_pitchIn_49 : decode cX9_pitchIn 49 = .ok (.iconst 1, 1) := by decide +kernel
theorem dX9_pitchIn_50 : decode cX9_pitchIn 50 = .ok (.isub, 1) := by decide +kernel
theorem dX9_pitchIn_51 : decode cX9_pitchIn 51 = .ok (.iastore, 1) := by decide +kernel
theorem dX9_pitchIn_52 : decode cX9_pitchIn 52 = .ok (.aload_n 0, 1) := by decide +kernel
theorem dX9_pitchIn_53 : decode cX9_pitchIn 53 = .ok (.iload 5, 2) := by decide +kernel
theorem dX9_pitchIn_55 : decode cX9_pitchIn 55 = .ok (.iconst 1, 1) := by decide +kernel
theorem dX9_pitchIn_56 : decode cX9_pitchIn 56 = .ok (.invokestatic 49, 3) := by decide +kernel
theorem dX9_pitchIn_59 : decode cX9_pitchIn 59 = .ok (.iload 4, 2) := by decide +kernel
theorem dX9_pitchIn_61 : decode cX9_pitchIn 61 = .ok (.iastore, 1) := by decide +kernel
theorem dX9_pitchIn_62 : decode cX9_pitchIn 62 = .ok (.aload_n 0, 1) := by decide +kernel
theorem dX9_pitchIn_63 : decode cX9_pitchIn 63 = .ok (.iload 5, 2) := by decide +kernel
theorem dX9_pitchIn_65 : decode cX9_pitchIn 65 = .ok (.iconst 2, 1) := by decide +kernel
theorem dX9_pitchIn_66 : decode cX9_pitchIn 66 = .ok (.invokestatic 49, 3) := by decide +kernel
theorem dX9_pitchIn_69 : decode cX9_pitchIn 69 = .ok (.iload_n 1, 1) := by decide +kernel
theorem dX9_pitchIn_70 : decode cX9_pitchIn 70 = .ok (.iastore, 1) := by decide +kernel
theorem dX9_pitchIn_71 : decode cX9_pitchIn 71 = .ok (.aload_n 0, 1) := by decide +kernel
theorem dX9_pitchIn_72 : decode cX9_pitchIn 72 = .ok (.iload 5, 2) := by decide +kernel
theorem dX9_pitchIn_74 : decode cX9_pitchIn 74 = .ok (.iconst 3, 1) := by decide +kernel
theorem dX9_pitchIn_75 : decode cX9_pitchIn 75 = .ok (.invokestatic 49, 3) := by decide +kernel
theorem dX9_pitchIn_78 : decode cX9_pitchIn 78 = .ok (.iload_n 2, 1) := by decide +kernel
theorem dX9_pitchIn_79 : decode cX9_pitchIn 79 = .ok (.iastore, 1) := by decide +kernel
theorem dX9_pitchIn_80 : decode cX9_pitchIn 80 = .ok (.aload_n 0, 1) := by decide +kernel
theorem dX9_pitchIn_81 : decode cX9_pitchIn 81 = .ok (.iconst 0, 1) := by decide +kernel
theorem dX9_pitchIn_82 : decode cX9_pitchIn 82 = .ok (.dup2, 1) := by decide +kernel
theorem dX9_pitchIn_83 : decode cX9_pitchIn 83 = .ok (.iaload, 1) := by decide +kernel
theorem dX9_pitchIn_84 : decode cX9_pitchIn 84 = .ok (.iconst 1, 1) := by decide +kernel
theorem dX9_pitchIn_85 : decode cX9_pitchIn 85 = .ok (.iadd, 1) := by decide +kernel
theorem dX9_pitchIn_86 : decode cX9_pitchIn 86 = .ok (.iastore, 1) := by decide +kernel
theorem dX9_pitchIn_87 : decode cX9_pitchIn 87 = .ok (.aload_n 0, 1) := by decide +kernel
theorem dX9_pitchIn_88 : decode cX9_pitchIn 88 = .ok (.iconst 0, 1) := by decide +kernel
theorem dX9_pitchIn_89 : decode cX9_pitchIn 89 = .ok (.invokestatic 97, 3) := by decide +kernel
theorem dX9_pitchIn_92 : decode cX9_pitchIn 92 = .ok (.istore 6, 2) := by decide +kernel
theorem dX9_pitchIn_94 : decode cX9_pitchIn 94 = .ok (.aload_n 0, 1) := by decide +kernel
theorem dX9_pitchIn_95 : decode cX9_pitchIn 95 = .ok (.iconst 4, 1) := by decide +kernel
theorem dX9_pitchIn_96 : decode cX9_pitchIn 96 = .ok (.iload 6, 2) := by decide +kernel
theorem dX9_pitchIn_98 : decode cX9_pitchIn 98 = .ok (.aload_n 0, 1) := by decide +kernel
theorem dX9_pitchIn_99 : decode cX9_pitchIn 99 = .ok (.iconst 4, 1) := by decide +kernel
theorem dX9_pitchIn_100 : decode cX9_pitchIn 100 = .ok (.iaload, 1) := by decide +kernel
theorem dX9_pitchIn_101 : decode cX9_pitchIn 101 = .ok (.if_icmp .le 8, 3) := by decide +kernel
theorem dX9_pitchIn_104 : decode cX9_pitchIn 104 = .ok (.iload 6, 2) := by decide +kernel
theorem dX9_pitchIn_106 : decode cX9_pitchIn 106 = .ok (.goto 6, 3) := by decide +kernel
theorem dX9_pitchIn_109 : decode cX9_pitchIn 109 = .ok (.aload_n 0, 1) := by decide +kernel
theorem dX9_pitchIn_110 : decode cX9_pitchIn 110 = .ok (.iconst 4, 1) := by decide +kernel
theorem dX9_pitchIn_111 : decode cX9_pitchIn 111 = .ok (.iaload, 1) := by decide +kernel
theorem dX9_pitchIn_112 : decode cX9_pitchIn 112 = .ok (.iastore, 1) := by decide +kernel
theorem dX9_pitchIn_113 : decode cX9_pitchIn 113 = .ok (.iload 5, 2) := by decide +kernel
theorem dX9_pitchIn_115 : decode cX9_pitchIn 115 = .ok (.ireturn, 1) := by decide +kernel
theorem dX9_pitchOn_0 : decode cX9_pitchOn 0 = .ok (.aload_n 0, 1) := by decide +kernel
theorem dX9_pitchOn_1 : decode cX9_pitchOn 1 = .ok (.iload_n 1, 1) := by decide +kernel
theorem dX9_pitchOn_2 : decode cX9_pitchOn 2 = .ok (.iload_n 2, 1) := by decide +kernel
theorem dX9_pitchOn_3 : decode cX9_pitchOn 3 = .ok (.invokestatic 84, 3) := by decide +kernel
theorem dX9_pitchOn_6 : decode cX9_pitchOn 6 = .ok (.istore_n 3, 1) := by decide +kernel
theorem dX9_pitchOn_7 : decode cX9_pitchOn 7 = .ok (.iload_n 3, 1) := by decide +kernel
theorem dX9_pitchOn_8 : decode cX9_pitchOn 8 = .ok (.iconst 3, 1) := by decide +kernel
theorem dX9_pitchOn_9 : decode cX9_pitchOn 9 = .ok (.if_icmp .ne 5, 3) := by decide +kernel
theorem dX9_pitchOn_12 : decode cX9_pitchOn 12 = .ok (.iconst (-1), 1) := by decide +kernel
theorem dX9_pitchOn_13 : decode cX9_pitchOn 13 = .ok (.ireturn, 1) := by decide +kernel
theorem dX9_pitchOn_14 : decode cX9_pitchOn 14 = .ok (.iload_n 3, 1) := by decide +kernel
theorem dX9_pitchOn_15 : decode cX9_pitchOn 15 = .ok (.ifCond .ne 28, 3) := by decide +kernel
theorem dX9_pitchOn_18 : decode cX9_pitchOn 18 = .ok (.aload_n 0, 1) := by decide +kernel
theorem dX9_pitchOn_19 : decode cX9_pitchOn 19 = .ok (.iload_n 1, 1) := by decide +kernel
theorem dX9_pitchOn_20 : decode cX9_pitchOn 20 = .ok (.iload_n 2, 1) := by decide +kernel
theorem dX9_pitchOn_21 : decode cX9_pitchOn 21 = .ok (.invokestatic 69, 3) := by decide +kernel
theorem dX9_pitchOn_24 : decode cX9_pitchOn 24 = .ok (.istore 4, 2) := by decide +kernel
theorem dX9_pitchOn_26 : decode cX9_pitchOn 26 = .ok (.aload_n 0, 1) := by decide +kernel
theorem dX9_pitchOn_27 : decode cX9_pitchOn 27 = .ok (.aload_n 0, 1) := by decide +kernel
theorem dX9_pitchOn_28 : decode cX9_pitchOn 28 = .ok (.invokestatic 66, 3) := by decide +kernel
theorem dX9_pitchOn_31 : decode cX9_pitchOn 31 = .ok (.iconst 2, 1) := by decide +kernel
theorem dX9_pitchOn_32 : decode cX9_pitchOn 32 = .ok (.invokestatic 53, 3) := by decide +kernel
theorem dX9_pitchOn_35 : decode cX9_pitchOn 35 = .ok (.iload 4, 2) := by decide +kernel
theorem dX9_pitchOn_37 : decode cX9_pitchOn 37 = .ok (.iload_n 1, 1) := by decide +kernel
theorem dX9_pitchOn_38 : decode cX9_pitchOn 38 = .ok (.iadd, 1) := by decide +kernel
theorem dX9_pitchOn_39 : decode cX9_pitchOn 39 = .ok (.iastore, 1) := by decide +kernel
theorem dX9_pitchOn_40 : decode cX9_pitchOn 40 = .ok (.iload 4, 2) := by decide +kernel
theorem dX9_pitchOn_42 : decode cX9_pitchOn 42 = .ok (.ireturn, 1) := by decide +kernel
theorem dX9_pitchOn_43 : decode cX9_pitchOn 43 = .ok (.iload_n 3, 1) := by decide +kernel
theorem dX9_pitchOn_44 : decode cX9_pitchOn 44 = .ok (.iconst 1, 1) := by decide +kernel
theorem dX9_pitchOn_45 : decode cX9_pitchOn 45 = .ok (.if_icmp .ne 15, 3) := by decide +kernel
theorem dX9_pitchOn_48 : decode cX9_pitchOn 48 = .ok (.aload_n 0, 1) := by decide +kernel
theorem dX9_pitchOn_49 : decode cX9_pitchOn 49 = .ok (.aload_n 0, 1) := by decide +kernel
theorem dX9_pitchOn_50 : decode cX9_pitchOn 50 = .ok (.iload_n 1, 1) := by decide +kernel
theorem dX9_pitchOn_51 : decode cX9_pitchOn 51 = .ok (.invokestatic 73, 3) := by decide +kernel
theorem dX9_pitchOn_54 : decode cX9_pitchOn 54 = .ok (.invokestatic 87, 3) := by decide +kernel
theorem dX9_pitchOn_57 : decode cX9_pitchOn 57 = .ok (.goto 23, 3) := by decide +kernel
theorem dX9_pitchOn_60 : decode cX9_pitchOn 60 = .ok (.aload_n 0, 1) := by decide +kernel
theorem dX9_pitchOn_61 : decode cX9_pitchOn 61 = .ok (.aload_n 0, 1) := by decide +kernel
theorem dX9_pitchOn_62 : decode cX9_pitchOn 62 = .ok (.iload_n 1, 1) := by decide +kernel
