theorem dX9_begin_9 : decode cX9_begin 9 = .ok (.iconst 0, 1) := by decide +kernel
theorem dX9_begin_10 : decode cX9_begin 10 = .ok (.sipush 690, 3) := by decide +kernel
theorem dX9_begin_13 : decode cX9_begin 13 = .ok (.invokestatic 45, 3) := by decide +kernel
theorem dX9_begin_16 : decode cX9_begin 16 = .ok (.return_, 1) := by decide +kernel
theorem dX9_bestSize_0 : decode cX9_bestSize 0 = .ok (.aload_n 0, 1) := by decide +kernel
theorem dX9_bestSize_1 : decode cX9_bestSize 1 = .ok (.iconst 0, 1) := by decide +kernel
theorem dX9_bestSize_2 : decode cX9_bestSize 2 = .ok (.putfield 36, 3) := by decide +kernel
theorem dX9_bestSize_5 : decode cX9_bestSize 5 = .ok (.iconst (-1), 1) := by decide +kernel
theorem dX9_bestSize_6 : decode cX9_bestSize 6 = .ok (.istore_n 1, 1) := by decide +kernel
theorem dX9_bestSize_7 : decode cX9_bestSize 7 = .ok (.iconst 0, 1) := by decide +kernel
theorem dX9_bestSize_8 : decode cX9_bestSize 8 = .ok (.istore_n 2, 1) := by decide +kernel
theorem dX9_bestSize_9 : decode cX9_bestSize 9 = .ok (.bipush 8, 2) := by decide +kernel
theorem dX9_bestSize_11 : decode cX9_bestSize 11 = .ok (.istore_n 3, 1) := by decide +kernel
theorem dX9_bestSize_12 : decode cX9_bestSize 12 = .ok (.iload_n 3, 1) := by decide +kernel
theorem dX9_bestSize_13 : decode cX9_bestSize 13 = .ok (.bipush 64, 2) := by decide +kernel
theorem dX9_bestSize_15 : decode cX9_bestSize 15 = .ok (.if_icmp .gt 38, 3) := by decide +kernel
theorem dX9_bestSize_18 : decode cX9_bestSize 18 = .ok (.aload_n 0, 1) := by decide +kernel
theorem dX9_bestSize_19 : decode cX9_bestSize 19 = .ok (.iload_n 3, 1) := by decide +kernel
theorem dX9_bestSize_20 : decode cX9_bestSize 20 = .ok (.invokevirtual 249, 3) := by decide +kernel
theorem dX9_bestSize_23 : decode cX9_bestSize 23 = .ok (.istore 4, 2) := by decide +kernel
theorem dX9_bestSize_25 : decode cX9_bestSize 25 = .ok (.iload 4, 2) := by decide +kernel
theorem dX9_bestSize_27 : decode cX9_bestSize 27 = .ok (.iconst (-1), 1) := by decide +kernel
theorem dX9_bestSize_28 : decode cX9_bestSize 28 = .ok (.if_icmp .eq 19, 3) := by decide +kernel
theorem dX9_bestSize_31 : decode cX9_bestSize 31 = .ok (.iload_n 1, 1) := by decide +kernel
theorem dX9_bestSize_32 : decode cX9_bestSize 32 = .ok (.iconst (-1), 1) := by decide +kernel
theorem dX9_bestSize_33 : decode cX9_bestSize 33 = .ok (.if_icmp .eq 9, 3) := by decide +kernel
theorem dX9_bestSize_36 : decode cX9_bestSize 36 = .ok (.iload 4, 2) := by decide +kernel
theorem dX9_bestSize_38 : decode cX9_bestSize 38 = .ok (.iload_n 2, 1) := by decide +kernel
theorem dX9_bestSize_39 : decode cX9_bestSize 39 = .ok (.if_icmp .ge 8, 3) := by decide +kernel
theorem dX9_bestSize_42 : decode cX9_bestSize 42 = .ok (.iload_n 3, 1) := by decide +kernel
theorem dX9_bestSize_43 : decode cX9_bestSize 43 = .ok (.istore_n 1, 1) := by decide +kernel
theorem dX9_bestSize_44 : decode cX9_bestSize 44 = .ok (.iload 4, 2) := by decide +kernel
theorem dX9_bestSize_46 : decode cX9_bestSize 46 = .ok (.istore_n 2, 1) := by decide +kernel
theorem dX9_bestSize_47 : decode cX9_bestSize 47 = .ok (.iinc 3 1, 3) := by decide +kernel
theorem dX9_bestSize_50 : decode cX9_bestSize 50 = .ok (.goto (-38), 3) := by decide +kernel
theorem dX9_bestSize_53 : decode cX9_bestSize 53 = .ok (.iload_n 1, 1) := by decide +kernel
theorem dX9_bestSize_54 : decode cX9_bestSize 54 = .ok (.ireturn, 1) := by decide +kernel
theorem dX9_needs_0 : decode cX9_needs 0 = .ok (.aload_n 0, 1) := by decide +kernel
theorem dX9_needs_1 : decode cX9_needs 1 = .ok (.getfield 19, 3) := by decide +kernel
theorem dX9_needs_4 : decode cX9_needs 4 = .ok (.iload_n 1, 1) := by decide +kernel
theorem dX9_needs_5 : decode cX9_needs 5 = .ok (.iconst 0, 1) := by decide +kernel
theorem dX9_needs_6 : decode cX9_needs 6 = .ok (.invokestatic 32, 3) := by decide +kernel
theorem dX9_needs_9 : decode cX9_needs 9 = .ok (.iconst 0, 1) := by decide +kernel
theorem dX9_needs_10 : decode cX9_needs 10 = .ok (.istore_n 2, 1) := by decide +kernel
theorem dX9_needs_11 : decode cX9_needs 11 = .ok (.iload_n 2, 1) := by decide +kernel
theorem dX9_needs_12 : decode cX9_needs 12 = .ok (.aload_n 0, 1) := by decide +kernel
theorem dX9_needs_13 : decode cX9_needs 13 = .ok (.getfield 16, 3) := by decide +kernel
theorem dX9_needs_16 : decode cX9_needs 16 = .ok (.iconst 0, 1) := by decide +kernel
theorem dX9_needs_17 : decode cX9_needs 17 = .ok (.iaload, 1) := by decide +kernel
theorem dX9_needs_18 : decode cX9_needs 18 = .ok (.if_icmp .ge 69, 3) := by decide +kernel
theorem dX9_needs_21 : decode cX9_needs 21 = .ok (.aload_n 0, 1) := by decide +kernel
theorem dX9_needs_22 : decode cX9_needs 22 = .ok (.getfield 19, 3) := by decide +kernel
theorem dX9_needs_25 : decode cX9_needs 25 = .ok (.aload_n 0, 1) := by decide +kernel
theorem dX9_needs_26 : decode cX9_needs 26 = .ok (.getfield 16, 3) := by decide +kernel
theorem dX9_needs_29 : decode cX9_needs 29 = .ok (.iload_n 2, 1) := by decide +kernel
theorem dX9_needs_30 : decode cX9_needs 30 = .ok (.iconst 2, 1) := by decide +kernel
theorem dX9_needs_31 : decode cX9_needs 31 = .ok (.invokestatic 49, 3) := by decide +kernel
theorem dX9_needs_34 : decode cX9_needs 34 = .ok (.iaload, 1) := by decide +kernel
theorem dX9_needs_35 : decode cX9_needs 35 = .ok (.aload_n 0, 1) := by decide +kernel
theorem dX9_needs_36 : decode cX9_needs 36 = .ok (.getfield 16, 3) := by decide +kernel
theorem dX9_needs_39 : decode cX9_needs 39 = .ok (.iload_n 2, 1) := by decide +kernel
theorem dX9_needs_40 : decode cX9_needs 40 = .ok (.iconst 3, 1) := by decide +kernel
theorem dX9_needs_41 : decode cX9_needs 41 = .ok (.invokestatic 49, 3) := by decide +kernel
theorem dX9_needs_44 : decode cX9_needs 44 = .ok (.iaload, 1) := by decide +kernel
theorem dX9_needs_45 : decode cX9_needs 45 = .ok (.invokestatic 158, 3) := by decide +kernel
theorem dX9_needs_48 : decode cX9_needs 48 = .ok (.ifCond .ne 5, 3) := by decide +kernel
theorem dX9_needs_51 : decode cX9_needs 51 = .ok (.iconst (-1), 1) := by decide +kernel
theorem dX9_needs_52 : decode cX9_needs 52 = .ok (.ireturn, 1) := by decide +kernel
theorem dX9_needs_53 : decode cX9_needs 53 = .ok (.aload_n 0, 1) := by decide +kernel
theorem dX9_needs_54 : decode cX9_needs 54 = .ok (.getfield 19, 3) := by decide +kernel
theorem dX9_needs_57 : decode cX9_needs 57 = .ok (.aload_n 0, 1) := by decide +kernel
theorem dX9_needs_58 : decode cX9_needs 58 = .ok (.getfield 16, 3) := by decide +kernel
theorem dX9_needs_61 : decode cX9_needs 61 = .ok (.iload_n 2, 1) := by decide +kernel
theorem dX9_needs_62 : decode cX9_needs 62 = .ok (.iconst 2, 1) := by decide +kernel
theorem dX9_needs_63 : decode cX9_needs 63 = .ok (.invokestatic 49, 3) := by decide +kernel
theorem dX9_needs_66 : decode cX9_needs 66 = .ok (.iaload, 1) := by decide +kernel
theorem dX9_needs_67 : decode cX9_needs 67 = .ok (.aload_n 0, 1) := by decide +kernel
theorem dX9_needs_68 : decode cX9_needs 68 = .ok (.getfield 16, 3) := by decide +kernel
theorem dX9_needs_71 : decode cX9_needs 71 = .ok (.iload_n 2, 1) := by decide +kernel
theorem dX9_needs_72 : decode cX9_needs 72 = .ok (.iconst 3, 1) := by decide +kernel
theorem dX9_needs_73 : decode cX9_needs 73 = .ok (.invokestatic 49, 3) := by decide +kernel
theorem dX9_needs_76 : decode cX9_needs 76 = .ok (.iaload, 1) := by decide +kernel
theorem dX9_needs_77 : decode cX9_needs 77 = .ok (.invokestatic 165, 3) := by decide +kernel
theorem dX9_needs_80 : decode cX9_needs 80 = .ok (.pop, 1) := by decide +kernel
theorem dX9_needs_81 : decode cX9_needs 81 = .ok (.iinc 2 1, 3) := by decide +kernel
theorem dX9_needs_84 : decode cX9_needs 84 = .ok (.goto (-73), 3) := by decide +kernel
theorem dX9_needs_87 : decode cX9_needs 87 = .ok (.aload_n 0, 1) := by decide +kernel
theorem dX9_needs_88 : decode cX9_needs 88 = .ok (.getfield 19, 3) := by decide +kernel
theorem dX9_needs_91 : decode cX9_needs 91 = .ok (.invokestatic 81, 3) := by decide +kernel
theorem dX9_needs_94 : decode cX9_needs 94 = .ok (.ireturn, 1) := by decide +kernel
theorem dX9_more_0 : decode cX9_more 0 = .ok (.iload_n 1, 1) := by decide +kernel
theorem dX9_more_1 : decode cX9_more 1 = .ok (.invokestatic 232, 3) := by decide +kernel
theorem dX9_more_4 : decode cX9_more 4 = .ok (.ifCond .eq 14, 3) := by decide +kernel
theorem dX9_more_7 : decode cX9_more 7 = .ok (.iload_n 2, 1) := by decide +kernel
theorem dX9_more_8 : decode cX9_more 8 = .ok (.invokestatic 148, 3) := by decide +kernel
theorem dX9_more_11 : decode cX9_more 11 = .ok (.ifCond .eq 7, 3) := by decide +kernel
theorem dX9_more_14 : decode cX9_more 14 = .ok (.iconst 1, 1) := by decide +kernel
theorem dX9_more_15 : decode cX9_more 15 = .ok (.goto 4, 3) := by decide +kernel
theorem dX9_more_18 : decode cX9_more 18 = .ok (.iconst 0, 1) := by decide +kernel
theorem dX9_more_19 : decode cX9_more 19 = .ok (.istore_n 3, 1) := by decide +kernel
theorem dX9_more_20 : decode cX9_more 20 = .ok (.aload_n 0, 1) := by decide +kernel
theorem dX9_more_21 : decode cX9_more 21 = .ok (.iload_n 3, 1) := by decide +kernel
theorem dX9_more_22 : decode cX9_more 22 = .ok (.ifCond .eq 7, 3) := by decide +kernel
theorem dX9_more_25 : decode cX9_more 25 = .ok (.iconst 0, 1) := by decide +kernel
theorem dX9_more_26 : decode cX9_more 26 = .ok (.goto 4, 3) := by decide +kernel
theorem dX9_more_29 : decode cX9_more 29 = .ok (.iconst 1, 1) := by decide +kernel
theorem dX9_more_30 : decode cX9_more 30 = .ok (.invokevirtual 128, 3) := by decide +kernel
theorem dX9_more_33 : decode cX9_more 33 = .ok (.ifCond .eq 5, 3) := by decide +kernel
theorem dX9_more_36 : decode cX9_more 36 = .ok (.iconst 0, 1) := by decide +kernel
theorem dX9_more_37 : decode cX9_more 37 = .ok (.ireturn, 1) := by decide +kernel
theorem dX9_more_38 : decode cX9_more 38 = .ok (.aload_n 0, 1) := by decide +kernel
theorem dX9_more_39 : decode cX9_more 39 = .ok (.invokevirtual 246, 3) := by decide +kernel
theorem dX9_more_42 : decode cX9_more 42 = .ok (.iconst 0, 1) := by decide +kernel
theorem dX9_more_43 : decode cX9_more 43 = .ok (.istore 4, 2) := by decide +kernel
theorem dX9_more_45 : decode cX9_more 45 = .ok (.aload_n 0, 1) := by decide +kernel
theorem dX9_more_46 : decode cX9_more 46 = .ok (.getfield 19, 3) := by decide +kernel
theorem dX9_more_49 : decode cX9_more 49 = .ok (.iload_n 1, 1) := by decide +kernel
theorem dX9_more_50 : decode cX9_more 50 = .ok (.iload_n 2, 1) := by decide +kernel
theorem dX9_more_51 : decode cX9_more 51 = .ok (.invokestatic 94, 3) := by decide +kernel
theorem dX9_more_54 : decode cX9_more 54 = .ok (.iconst (-1), 1) := by decide +kernel
theorem dX9_more_55 : decode cX9_more 55 = .ok (.if_icmp .eq 9, 3) := by decide +kernel
theorem dX9_more_58 : decode cX9_more 58 = .ok (.iinc 4 1, 3) := by decide +kernel
theorem dX9_more_61 : decode cX9_more 61 = .ok (.goto (-16), 3) := by decide +kernel
theorem dX9_more_64 : decode cX9_more 64 = .ok (.iload 4, 2) := by decide +kernel
theorem dX9_more_66 : decode cX9_more 66 = .ok (.ireturn, 1) := by decide +kernel
theorem dX9_runScript_0 : decode cX9_runScript 0 = .ok (.iload_n 1, 1) := by decide +kernel
theorem dX9_runScript_1 : decode cX9_runScript 1 = .ok (.i2l, 1) := by decide +kernel
theorem dX9_runScript_2 : decode cX9_runScript 2 = .ok (.lconst 1, 1) := by decide +kernel
theorem dX9_runScript_3 : decode cX9_runScript 3 = .ok (.ldc2_w 266, 3) := by decide +kernel
theorem dX9_runScript_6 : decode cX9_runScript 6 = .ok (.invokestatic 121, 3) := by decide +kernel
theorem dX9_runScript_9 : decode cX9_runScript 9 = .ok (.istore 4, 2) := by decide +kernel
theorem dX9_runScript_11 : decode cX9_runScript 11 = .ok (.aload_n 0, 1) := by decide +kernel
theorem dX9_runScript_12 : decode cX9_runScript 12 = .ok (.iload 4, 2) := by decide +kernel
theorem dX9_runScript_14 : decode cX9_runScript 14 = .ok (.ifCond .eq 32, 3) := by decide +kernel
theorem dX9_runScript_17 : decode cX9_runScript 17 = .ok (.lload_n 2, 1) := by decide +kernel
theorem dX9_runScript_18 : decode cX9_runScript 18 = .ok (.lconst 0, 1) := by decide +kernel
theorem dX9_runScript_19 : decode cX9_runScript 19 = .ok (.iload 4, 2) := by decide +kernel
theorem dX9_runScript_21 : decode cX9_runScript 21 = .ok (.ifCond .eq 9, 3) := by decide +kernel
theorem dX9_runScript_24 : decode cX9_runScript 24 = .ok (.iconst 5, 1) := by decide +kernel
theorem dX9_runScript_25 : decode cX9_runScript 25 = .ok (.iload_n 1, 1) := by decide +kernel
theorem dX9_runScript_26 : decode cX9_runScript 26 = .ok (.imul, 1) := by decide +kernel
theorem dX9_runScript_27 : decode cX9_runScript 27 = .ok (.goto 4, 3) := by decide +kernel
theorem dX9_runScript_30 : decode cX9_runScript 30 = .ok (.iconst 0, 1) := by decide +kernel
theorem dX9_runScript_31 : decode cX9_runScript 31 = .ok (.invokestatic 268, 3) := by decide +kernel
theorem dX9_runScript_34 : decode cX9_runScript 34 = .ok (.lconst 1, 1) := by decide +kernel
theorem dX9_runScript_35 : decode cX9_runScript 35 = .ok (.lsub, 1) := by decide +kernel
theorem dX9_runScript_36 : decode cX9_runScript 36 = .ok (.invokestatic 121, 3) := by decide +kernel
theorem dX9_runScript_39 : decode cX9_runScript 39 = .ok (.ifCond .eq 7, 3) := by decide +kernel
theorem dX9_runScript_42 : decode cX9_runScript 42 = .ok (.iconst 0, 1) := by decide +kernel
theorem dX9_runScript_43 : decode cX9_runScript 43 = .ok (.goto 4, 3) := by decide +kernel
theorem dX9_runScript_46 : decode cX9_runScript 46 = .ok (.iconst 1, 1) := by decide +kernel
theorem dX9_runScript_47 : decode cX9_runScript 47 = .ok (.invokevirtual 128, 3) := by decide +kernel
theorem dX9_runScript_50 : decode cX9_runScript 50 = .ok (.ifCond .eq 5, 3) := by decide +kernel
theorem dX9_runScript_53 : decode cX9_runScript 53 = .ok (.iconst 0, 1) := by decide +kernel
theorem dX9_runScript_54 : decode cX9_runScript 54 = .ok (.ireturn, 1) := by decide +kernel
theorem dX9_runScript_55 : decode cX9_runScript 55 = .ok (.aload_n 0, 1) := by decide +kernel
theorem dX9_runScript_56 : decode cX9_runScript 56 = .ok (.invokevirtual 246, 3) := by decide +kernel
theorem dX9_runScript_59 : decode cX9_runScript 59 = .ok (.iconst 0, 1) := by decide +kernel
theorem dX9_runScript_60 : decode cX9_runScript 60 = .ok (.istore 5, 2) := by decide +kernel
theorem dX9_runScript_62 : decode cX9_runScript 62 = .ok (.iload 5, 2) := by decide +kernel
theorem dX9_runScript_64 : decode cX9_runScript 64 = .ok (.iload_n 1, 1) := by decide +kernel
theorem dX9_runScript_65 : decode cX9_runScript 65 = .ok (.if_icmp .ge 37, 3) := by decide +kernel
theorem dX9_runScript_68 : decode cX9_runScript 68 = .ok (.aload_n 0, 1) := by decide +kernel
theorem dX9_runScript_69 : decode cX9_runScript 69 = .ok (.lload_n 2, 1) := by decide +kernel
theorem dX9_runScript_70 : decode cX9_runScript 70 = .ok (.iconst 5, 1) := by decide +kernel
theorem dX9_runScript_71 : decode cX9_runScript 71 = .ok (.iload_n 1, 1) := by decide +kernel
theorem dX9_runScript_72 : decode cX9_runScript 72 = .ok (.iconst 1, 1) := by decide +kernel
theorem dX9_runScript_73 : decode cX9_runScript 73 = .ok (.isub, 1) := by decide +kernel
theorem dX9_runScript_74 : decode cX9_runScript 74 = .ok (.iload 5, 2) := by decide +kernel
theorem dX9_runScript_76 : decode cX9_runScript 76 = .ok (.isub, 1) := by decide +kernel
theorem dX9_runScript_77 : decode cX9_runScript 77 = .ok (.imul, 1) := by decide +kernel
theorem dX9_runScript_78 : decode cX9_runScript 78 = .ok (.invokestatic 268, 3) := by decide +kernel
theorem dX9_runScript_81 : decode cX9_runScript 81 = .ok (.ldiv, 1) := by decide +kernel
theorem dX9_runScript_82 : decode cX9_runScript 82 = .ok (.ldc2_w 272, 3) := by decide +kernel
theorem dX9_runScript_85 : decode cX9_runScript 85 = .ok (.lrem, 1) := by decide +kernel
theorem dX9_runScript_86 : decode cX9_runScript 86 = .ok (.l2i, 1) := by decide +kernel
theorem dX9_runScript_87 : decode cX9_runScript 87 = .ok (.invokevirtual 274, 3) := by decide +kernel
theorem dX9_runScript_90 : decode cX9_runScript 90 = .ok (.ifCond .ne 6, 3) := by decide +kernel
theorem dX9_runScript_93 : decode cX9_runScript 93 = .ok (.iload 5, 2) := by decide +kernel
theorem dX9_runScript_95 : decode cX9_runScript 95 = .ok (.ireturn, 1) := by decide +kernel
theorem dX9_runScript_96 : decode cX9_runScript 96 = .ok (.iinc 5 1, 3) := by decide +kernel
theorem dX9_runScript_99 : decode cX9_runScript 99 = .ok (.goto (-37), 3) := by decide +kernel
theorem dX9_runScript_102 : decode cX9_runScript 102 = .ok (.iconst (-1), 1) := by decide +kernel
theorem dX9_runScript_103 : decode cX9_runScript 103 = .ok (.ireturn, 1) := by decide +kernel
theorem dX9_tenTo_0 : decode cX9_tenTo 0 = .ok (.lconst 1, 1) := by decide +kernel
theorem dX9_tenTo_1 : decode cX9_tenTo 1 = .ok (.lstore_n 1, 1) := by decide +kernel
theorem dX9_tenTo_2 : decode cX9_tenTo 2 = .ok (.iconst 0, 1) := by decide +kernel
theorem dX9_tenTo_3 : decode cX9_tenTo 3 = .ok (.istore_n 3, 1) := by decide +kernel
theorem dX9_tenTo_4 : decode cX9_tenTo 4 = .ok (.iload_n 3, 1) := by decide +kernel
theorem dX9_tenTo_5 : decode cX9_tenTo 5 = .ok (.iload_n 0, 1) := by decide +kernel
theorem dX9_tenTo_6 : decode cX9_tenTo 6 = .ok (.if_icmp .ge 15, 3) := by decide +kernel
theorem dX9_tenTo_9 : decode cX9_tenTo 9 = .ok (.lload_n 1, 1) := by decide +kernel
theorem dX9_tenTo_10 : decode cX9_tenTo 10 = .ok (.ldc2_w 40, 3) := by decide +kernel
theorem dX9_tenTo_13 : decode cX9_tenTo 13 = .ok (.lmul, 1) := by decide +kernel
theorem dX9_tenTo_14 : decode cX9_tenTo 14 = .ok (.lstore_n 1, 1) := by decide +kernel
theorem dX9_tenTo_15 : decode cX9_tenTo 15 = .ok (.iinc 3 1, 3) := by decide +kernel
theorem dX9_tenTo_18 : decode cX9_tenTo 18 = .ok (.goto (-14), 3) := by decide +kernel
theorem dX9_tenTo_21 : decode cX9_tenTo 21 = .ok (.lload_n 1, 1) := by decide +kernel
theorem dX9_tenTo_22 : decode cX9_tenTo 22 = .ok (.lreturn, 1) := by decide +kernel
theorem dX9_does_0 : decode cX9_does 0 = .ok (.iload_n 1, 1) := by decide +kernel
theorem dX9_does_1 : decode cX9_does 1 = .ok (.sipush 10000, 3) := by decide +kernel
theorem dX9_does_4 : decode cX9_does 4 = .ok (.idiv, 1) := by decide +kernel
theorem dX9_does_5 : decode cX9_does 5 = .ok (.istore_n 2, 1) := by decide +kernel
theorem dX9_does_6 : decode cX9_does 6 = .ok (.iload_n 1, 1) := by decide +kernel
theorem dX9_does_7 : decode cX9_does 7 = .ok (.bipush 100, 2) := by decide +kernel
theorem dX9_does_9 : decode cX9_does 9 = .ok (.idiv, 1) := by decide +kernel
theorem dX9_does_10 : decode cX9_does 10 = .ok (.bipush 100, 2) := by decide +kernel
theorem dX9_does_12 : decode cX9_does 12 = .ok (.irem, 1) := by decide +kernel
theorem dX9_does_13 : decode cX9_does 13 = .ok (.istore_n 3, 1) := by decide +kernel
theorem dX9_does_14 : decode cX9_does 14 = .ok (.iload_n 1, 1) := by decide +kernel
theorem dX9_does_15 : decode cX9_does 15 = .ok (.bipush 100, 2) := by decide +kernel
theorem dX9_does_17 : decode cX9_does 17 = .ok (.irem, 1) := by decide +kernel
theorem dX9_does_18 : decode cX9_does 18 = .ok (.istore 4, 2) := by decide +kernel
theorem dX9_does_20 : decode cX9_does 20 = .ok (.iload_n 1, 1) := by decide +kernel
theorem dX9_does_21 : decode cX9_does 21 = .ok (.sipush 1000, 3) := by decide +kernel
theorem dX9_does_24 : decode cX9_does 24 = .ok (.irem, 1) := by decide +kernel
theorem dX9_does_25 : decode cX9_does 25 = .ok (.istore 5, 2) := by decide +kernel
theorem dX9_does_27 : decode cX9_does 27 = .ok (.iload_n 1, 1) := by decide +kernel
theorem dX9_does_28 : decode cX9_does 28 = .ok (.sipush 1000, 3) := by decide +kernel
theorem dX9_does_31 : decode cX9_does 31 = .ok (.idiv, 1) := by decide +kernel
theorem dX9_does_32 : decode cX9_does 32 = .ok (.bipush 10, 2) := by decide +kernel
theorem dX9_does_34 : decode cX9_does 34 = .ok (.irem, 1) := by decide +kernel
theorem dX9_does_35 : decode cX9_does 35 = .ok (.ifCond .ne 7, 3) := by decide +kernel
theorem dX9_does_38 : decode cX9_does 38 = .ok (.iconst 1, 1) := by decide +kernel
theorem dX9_does_39 : decode cX9_does 39 = .ok (.goto 4, 3) := by decide +kernel
theorem dX9_does_42 : decode cX9_does 42 = .ok (.iconst 0, 1) := by decide +kernel
theorem dX9_does_43 : decode cX9_does 43 = .ok (.istore 6, 2) := by decide +kernel
theorem dX9_does_45 : decode cX9_does 45 = .ok (.iload_n 2, 1) := by decide +kernel
theorem dX9_does_46 : decode cX9_does 46 = .ok (.tableswitch 292 1 9 #[50, 79, 114, 140, 165, 189, 212, 250, 271], 50) := by decide +kernel
theorem dX9_does_96 : decode cX9_does 96 = .ok (.iload 6, 2) := by decide +kernel
theorem dX9_does_98 : decode cX9_does 98 = .ok (.ifCond .eq 25, 3) := by decide +kernel
theorem dX9_does_101 : decode cX9_does 101 = .ok (.aload_n 0, 1) := by decide +kernel
theorem dX9_does_102 : decode cX9_does 102 = .ok (.iload_n 1, 1) := by decide +kernel
theorem dX9_does_103 : decode cX9_does 103 = .ok (.bipush 10, 2) := by decide +kernel
theorem dX9_does_105 : decode cX9_does 105 = .ok (.idiv, 1) := by decide +kernel
theorem dX9_does_106 : decode cX9_does 106 = .ok (.bipush 100, 2) := by decide +kernel
theorem dX9_does_108 : decode cX9_does 108 = .ok (.irem, 1) := by decide +kernel
theorem dX9_does_109 : decode cX9_does 109 = .ok (.iload_n 1, 1) := by decide +kernel
theorem dX9_does_110 : decode cX9_does 110 = .ok (.bipush 10, 2) := by decide +kernel
theorem dX9_does_112 : decode cX9_does 112 = .ok (.irem, 1) := by decide +kernel
theorem dX9_does_113 : decode cX9_does 113 = .ok (.invokevirtual 252, 3) := by decide +kernel
theorem dX9_does_116 : decode cX9_does 116 = .ok (.ifCond .eq 7, 3) := by decide +kernel
theorem dX9_does_119 : decode cX9_does 119 = .ok (.iconst 1, 1) := by decide +kernel
theorem dX9_does_120 : decode cX9_does 120 = .ok (.goto 4, 3) := by decide +kernel
theorem dX9_does_123 : decode cX9_does 123 = .ok (.iconst 0, 1) := by decide +kernel
theorem dX9_does_124 : decode cX9_does 124 = .ok (.ireturn, 1) := by decide +kernel
theorem dX9_does_125 : decode cX9_does 125 = .ok (.iload_n 3, 1) := by decide +kernel
theorem dX9_does_126 : decode cX9_does 126 = .ok (.ifCond .ne 32, 3) := by decide +kernel
theorem dX9_does_129 : decode cX9_does 129 = .ok (.iload 4, 2) := by decide +kernel
theorem dX9_does_131 : decode cX9_does 131 = .ok (.ifCond .ne 10, 3) := by decide +kernel
theorem dX9_does_134 : decode cX9_does 134 = .ok (.aload_n 0, 1) := by decide +kernel
theorem dX9_does_135 : decode cX9_does 135 = .ok (.invokevirtual 256, 3) := by decide +kernel
theorem dX9_does_138 : decode cX9_does 138 = .ok (.ifCond .ne 16, 3) := by decide +kernel
theorem dX9_does_141 : decode cX9_does 141 = .ok (.iload 4, 2) := by decide +kernel
theorem dX9_does_143 : decode cX9_does 143 = .ok (.iconst 1, 1) := by decide +kernel
theorem dX9_does_144 : decode cX9_does 144 = .ok (.if_icmp .ne 14, 3) := by decide +kernel
theorem dX9_does_147 : decode cX9_does 147 = .ok (.aload_n 0, 1) := by decide +kernel
theorem dX9_does_148 : decode cX9_does 148 = .ok (.invokevirtual 260, 3) := by decide +kernel
theorem dX9_does_151 : decode cX9_does 151 = .ok (.ifCond .eq 7, 3) := by decide +kernel
theorem dX9_does_154 : decode cX9_does 154 = .ok (.iconst 1, 1) := by decide +kernel
theorem dX9_does_155 : decode cX9_does 155 = .ok (.goto 4, 3) := by decide +kernel
theorem dX9_does_158 : decode cX9_does 158 = .ok (.iconst 0, 1) := by decide +kernel
theorem dX9_does_159 : decode cX9_does 159 = .ok (.ireturn, 1) := by decide +kernel
theorem dX9_does_160 : decode cX9_does 160 = .ok (.iload_n 3, 1) := by decide +kernel
theorem dX9_does_161 : decode cX9_does 161 = .ok (.ifCond .ne 23, 3) := by decide +kernel
theorem dX9_does_164 : decode cX9_does 164 = .ok (.iload 4, 2) := by decide +kernel
theorem dX9_does_166 : decode cX9_does 166 = .ok (.bipush 10, 2) := by decide +kernel
theorem dX9_does_168 : decode cX9_does 168 = .ok (.if_icmp .ge 16, 3) := by decide +kernel
theorem dX9_does_171 : decode cX9_does 171 = .ok (.aload_n 0, 1) := by decide +kernel
theorem dX9_does_172 : decode cX9_does 172 = .ok (.iload 4, 2) := by decide +kernel
theorem dX9_does_174 : decode cX9_does 174 = .ok (.invokevirtual 263, 3) := by decide +kernel
theorem dX9_does_177 : decode cX9_does 177 = .ok (.ifCond .eq 7, 3) := by decide +kernel
theorem dX9_does_180 : decode cX9_does 180 = .ok (.iconst 1, 1) := by decide +kernel
theorem dX9_does_181 : decode cX9_does 181 = .ok (.goto 4, 3) := by decide +kernel
theorem dX9_does_184 : decode cX9_does 184 = .ok (.iconst 0, 1) := by decide +kernel
theorem dX9_does_185 : decode cX9_does 185 = .ok (.ireturn, 1) := by decide +kernel
theorem dX9_does_186 : decode cX9_does 186 = .ok (.iload_n 3, 1) := by decide +kernel
theorem dX9_does_187 : decode cX9_does 187 = .ok (.aload_n 0, 1) := by decide +kernel
theorem dX9_does_188 : decode cX9_does 188 = .ok (.getfield 19, 3) := by decide +kernel
theorem dX9_does_191 : decode cX9_does 191 = .ok (.iconst 0, 1) := by decide +kernel
theorem dX9_does_192 : decode cX9_does 192 = .ok (.iaload, 1) := by decide +kernel
theorem dX9_does_193 : decode cX9_does 193 = .ok (.if_icmp .lt 5, 3) := by decide +kernel
theorem dX9_does_196 : decode cX9_does 196 = .ok (.iconst 0, 1) := by decide +kernel
theorem dX9_does_197 : decode cX9_does 197 = .ok (.ireturn, 1) := by decide +kernel
theorem dX9_does_198 : decode cX9_does 198 = .ok (.aload_n 0, 1) := by decide +kernel
theorem dX9_does_199 : decode cX9_does 199 = .ok (.getfield 19, 3) := by decide +kernel
theorem dX9_does_202 : decode cX9_does 202 = .ok (.iload_n 3, 1) := by decide +kernel
theorem dX9_does_203 : decode cX9_does 203 = .ok (.iload 4, 2) := by decide +kernel
theorem dX9_does_205 : decode cX9_does 205 = .ok (.invokestatic 168, 3) := by decide +kernel
theorem dX9_does_208 : decode cX9_does 208 = .ok (.pop, 1) := by decide +kernel
theorem dX9_does_209 : decode cX9_does 209 = .ok (.iconst 1, 1) := by decide +kernel
theorem dX9_does_210 : decode cX9_does 210 = .ok (.ireturn, 1) := by decide +kernel
theorem dX9_does_211 : decode cX9_does 211 = .ok (.iload 6, 2) := by decide +kernel
theorem dX9_does_213 : decode cX9_does 213 = .ok (.ifCond .eq 20, 3) := by decide +kernel
theorem dX9_does_216 : decode cX9_does 216 = .ok (.aload_n 0, 1) := by decide +kernel
theorem dX9_does_217 : decode cX9_does 217 = .ok (.getfield 19, 3) := by decide +kernel
theorem dX9_does_220 : decode cX9_does 220 = .ok (.iconst 0, 1) := by decide +kernel
theorem dX9_does_221 : decode cX9_does 221 = .ok (.invokestatic 97, 3) := by decide +kernel
theorem dX9_does_224 : decode cX9_does 224 = .ok (.iload 5, 2) := by decide +kernel
theorem dX9_does_226 : decode cX9_does 226 = .ok (.if_icmp .gt 7, 3) := by decide +kernel
theorem dX9_does_229 : decode cX9_does 229 = .ok (.iconst 1, 1) := by decide +kernel
theorem dX9_does_230 : decode cX9_does 230 = .ok (.goto 4, 3) := by decide +kernel
theorem dX9_does_233 : decode cX9_does 233 = .ok (.iconst 0, 1) := by decide +kernel
theorem dX9_does_234 : decode cX9_does 234 = .ok (.ireturn, 1) := by decide +kernel
theorem dX9_does_235 : decode cX9_does 235 = .ok (.iload 6, 2) := by decide +kernel
theorem dX9_does_237 : decode cX9_does 237 = .ok (.ifCond .eq 19, 3) := by decide +kernel
theorem dX9_does_240 : decode cX9_does 240 = .ok (.aload_n 0, 1) := by decide +kernel
theorem dX9_does_241 : decode cX9_does 241 = .ok (.getfield 19, 3) := by decide +kernel
theorem dX9_does_244 : decode cX9_does 244 = .ok (.invokestatic 204, 3) := by decide +kernel
theorem dX9_does_247 : decode cX9_does 247 = .ok (.iload 5, 2) := by decide +kernel
theorem dX9_does_249 : decode cX9_does 249 = .ok (.if_icmp .gt 7, 3) := by decide +kernel
theorem dX9_does_252 : decode cX9_does 252 = .ok (.iconst 1, 1) := by decide +kernel
theorem dX9_does_253 : decode cX9_does 253 = .ok (.goto 4, 3) := by decide +kernel
theorem dX9_does_256 : decode cX9_does 256 = .ok (.iconst 0, 1) := by decide +kernel
theorem dX9_does_257 : decode cX9_does 257 = .ok (.ireturn, 1) := by decide +kernel
theorem dX9_does_258 : decode cX9_does 258 = .ok (.iload_n 3, 1) := by decide +kernel
theorem dX9_does_259 : decode cX9_does 259 = .ok (.aload_n 0, 1) := by decide +kernel
theorem dX9_does_260 : decode cX9_does 260 = .ok (.getfield 19, 3) := by decide +kernel
theorem dX9_does_263 : decode cX9_does 263 = .ok (.iconst 0, 1) := by decide +kernel
theorem dX9_does_264 : decode cX9_does 264 = .ok (.iaload, 1) := by decide +kernel
theorem dX9_does_265 : decode cX9_does 265 = .ok (.if_icmp .ge 29, 3) := by decide +kernel
theorem dX9_does_268 : decode cX9_does 268 = .ok (.iload 4, 2) := by decide +kernel
theorem dX9_does_270 : decode cX9_does 270 = .ok (.bipush 10, 2) := by decide +kernel
theorem dX9_does_272 : decode cX9_does 272 = .ok (.if_icmp .ge 22, 3) := by decide +kernel
theorem dX9_does_275 : decode cX9_does 275 = .ok (.aload_n 0, 1) := by decide +kernel
theorem dX9_does_276 : decode cX9_does 276 = .ok (.getfield 19, 3) := by decide +kernel
theorem dX9_does_279 : decode cX9_does 279 = .ok (.iload_n 3, 1) := by decide +kernel
theorem dX9_does_280 : decode cX9_does 280 = .ok (.iconst 0, 1) := by decide +kernel
theorem dX9_does_281 : decode cX9_does 281 = .ok (.invokestatic 49, 3) := by decide +kernel
theorem dX9_does_284 : decode cX9_does 284 = .ok (.iaload, 1) := by decide +kernel
theorem dX9_does_285 : decode cX9_does 285 = .ok (.iload 4, 2) := by decide +kernel
theorem dX9_does_287 : decode cX9_does 287 = .ok (.if_icmp .ne 7, 3) := by decide +kernel
theorem dX9_does_290 : decode cX9_does 290 = .ok (.iconst 1, 1) := by decide +kernel
theorem dX9_does_291 : decode cX9_does 291 = .ok (.goto 4, 3) := by decide +kernel
theorem dX9_does_294 : decode cX9_does 294 = .ok (.iconst 0, 1) := by decide +kernel
theorem dX9_does_295 : decode cX9_does 295 = .ok (.ireturn, 1) := by decide +kernel
theorem dX9_does_296 : decode cX9_does 296 = .ok (.iload_n 3, 1) := by decide +kernel
theorem dX9_does_297 : decode cX9_does 297 = .ok (.ifCond .ne 18, 3) := by decide +kernel
theorem dX9_does_300 : decode cX9_does 300 = .ok (.aload_n 0, 1) := by decide +kernel
theorem dX9_does_301 : decode cX9_does 301 = .ok (.getfield 19, 3) := by decide +kernel
theorem dX9_does_304 : decode cX9_does 304 = .ok (.iconst 2, 1) := by decide +kernel
theorem dX9_does_305 : decode cX9_does 305 = .ok (.iaload, 1) := by decide +kernel
theorem dX9_does_306 : decode cX9_does 306 = .ok (.iload 4, 2) := by decide +kernel
theorem dX9_does_308 : decode cX9_does 308 = .ok (.if_icmp .gt 7, 3) := by decide +kernel
theorem dX9_does_311 : decode cX9_does 311 = .ok (.iconst 1, 1) := by decide +kernel
theorem dX9_does_312 : decode cX9_does 312 = .ok (.goto 4, 3) := by decide +kernel
theorem dX9_does_315 : decode cX9_does 315 = .ok (.iconst 0, 1) := by decide +kernel
theorem dX9_does_316 : decode cX9_does 316 = .ok (.ireturn, 1) := by decide +kernel
theorem dX9_does_317 : decode cX9_does 317 = .ok (.iload_n 3, 1) := by decide +kernel
theorem dX9_does_318 : decode cX9_does 318 = .ok (.ifCond .ne 18, 3) := by decide +kernel
theorem dX9_does_321 : decode cX9_does 321 = .ok (.aload_n 0, 1) := by decide +kernel
theorem dX9_does_322 : decode cX9_does 322 = .ok (.getfield 19, 3) := by decide +kernel
theorem dX9_does_325 : decode cX9_does 325 = .ok (.iconst 0, 1) := by decide +kernel
theorem dX9_does_326 : decode cX9_does 326 = .ok (.iaload, 1) := by decide +kernel
theorem dX9_does_327 : decode cX9_does 327 = .ok (.iload 4, 2) := by decide +kernel
theorem dX9_does_329 : decode cX9_does 329 = .ok (.if_icmp .lt 7, 3) := by decide +kernel
theorem dX9_does_332 : decode cX9_does 332 = .ok (.iconst 1, 1) := by decide +kernel
theorem dX9_does_333 : decode cX9_does 333 = .ok (.goto 4, 3) := by decide +kernel
theorem dX9_does_336 : decode cX9_does 336 = .ok (.iconst 0, 1) := by decide +kernel
theorem dX9_does_337 : decode cX9_does 337 = .ok (.ireturn, 1) := by decide +kernel
theorem dX9_does_338 : decode cX9_does 338 = .ok (.iconst 0, 1) := by decide +kernel
theorem dX9_does_339 : decode cX9_does 339 = .ok (.ireturn, 1) := by decide +kernel
theorem dX9_pitches_0 : decode cX9_pitches 0 = .ok (.iload_n 1, 1) := by decide +kernel
theorem dX9_pitches_1 : decode cX9_pitches 1 = .ok (.invokestatic 232, 3) := by decide +kernel
theorem dX9_pitches_4 : decode cX9_pitches 4 = .ok (.ifCond .eq 22, 3) := by decide +kernel
theorem dX9_pitches_7 : decode cX9_pitches 7 = .ok (.iload_n 2, 1) := by decide +kernel
theorem dX9_pitches_8 : decode cX9_pitches 8 = .ok (.invokestatic 148, 3) := by decide +kernel
theorem dX9_pitches_11 : decode cX9_pitches 11 = .ok (.ifCond .eq 15, 3) := by decide +kernel
theorem dX9_pitches_14 : decode cX9_pitches 14 = .ok (.aload_n 0, 1) := by decide +kernel
theorem dX9_pitches_15 : decode cX9_pitches 15 = .ok (.getfield 19, 3) := by decide +kernel
theorem dX9_pitches_18 : decode cX9_pitches 18 = .ok (.iload_n 1, 1) := by decide +kernel
theorem dX9_pitches_19 : decode cX9_pitches 19 = .ok (.iload_n 2, 1) := by decide +kernel
theorem dX9_pitches_20 : decode cX9_pitches 20 = .ok (.invokestatic 158, 3) := by decide +kernel
theorem dX9_pitches_23 : decode cX9_pitches 23 = .ok (.ifCond .ne 5, 3) := by decide +kernel
theorem dX9_pitches_26 : decode cX9_pitches 26 = .ok (.iconst 0, 1) := by decide +kernel
theorem dX9_pitches_27 : decode cX9_pitches 27 = .ok (.ireturn, 1) := by decide +kernel
theorem dX9_pitches_28 : decode cX9_pitches 28 = .ok (.aload_n 0, 1) := by decide +kernel
theorem dX9_pitches_29 : decode cX9_pitches 29 = .ok (.getfield 19, 3) := by decide +kernel
theorem dX9_pitches_32 : decode cX9_pitches 32 = .ok (.iload_n 1, 1) := by decide +kernel
theorem dX9_pitches_33 : decode cX9_pitches 33 = .ok (.iload_n 2, 1) := by decide +kernel
theorem dX9_pitches_34 : decode cX9_pitches 34 = .ok (.invokestatic 165, 3) := by decide +kernel
theorem dX9_pitches_37 : decode cX9_pitches 37 = .ok (.pop, 1) := by decide +kernel
theorem dX9_pitches_38 : decode cX9_pitches 38 = .ok (.iconst 1, 1) := by decide +kernel
theorem dX9_pitches_39 : decode cX9_pitches 39 = .ok (.ireturn, 1) := by decide +kernel
theorem dX9_enters_0 : decode cX9_enters 0 = .ok (.aload_n 0, 1) := by decide +kernel
theorem dX9_enters_1 : decode cX9_enters 1 = .ok (.getfield 19, 3) := by decide +kernel
theorem dX9_enters_4 : decode cX9_enters 4 = .ok (.iconst 3, 1) := by decide +kernel
theorem dX9_enters_5 : decode cX9_enters 5 = .ok (.iaload, 1) := by decide +kernel
theorem dX9_enters_6 : decode cX9_enters 6 = .ok (.bipush 8, 2) := by decide +kernel
theorem dX9_enters_8 : decode cX9_enters 8 = .ok (.if_icmp .ne 5, 3) := by decide +kernel
theorem dX9_enters_11 : decode cX9_enters 11 = .ok (.iconst 0, 1) := by decide +kernel
theorem dX9_enters_12 : decode cX9_enters 12 = .ok (.ireturn, 1) := by decide +kernel
theorem dX9_enters_13 : decode cX9_enters 13 = .ok (.aload_n 0, 1) := by decide +kernel
theorem dX9_enters_14 : decode cX9_enters 14 = .ok (.getfield 19, 3) := by decide +kernel
theorem dX9_enters_17 : decode cX9_enters 17 = .ok (.invokestatic 171, 3) := by decide +kernel
theorem dX9_enters_20 : decode cX9_enters 20 = .ok (.iconst 1, 1) := by decide +kernel
theorem dX9_enters_21 : decode cX9_enters 21 = .ok (.ireturn, 1) := by decide +kernel
theorem dX9_leaves_0 : decode cX9_leaves 0 = .ok (.aload_n 0, 1) := by decide +kernel
theorem dX9_leaves_1 : decode cX9_leaves 1 = .ok (.getfield 19, 3) := by decide +kernel
theorem dX9_leaves_4 : decode cX9_leaves 4 = .ok (.iconst 3, 1) := by decide +kernel
theorem dX9_leaves_5 : decode cX9_leaves 5 = .ok (.iaload, 1) := by decide +kernel
theorem dX9_leaves_6 : decode cX9_leaves 6 = .ok (.ifCond .ne 5, 3) := by decide +kernel
theorem dX9_leaves_9 : decode cX9_leaves 9 = .ok (.iconst 0, 1) := by decide +kernel
theorem dX9_leaves_10 : decode cX9_leaves 10 = .ok (.ireturn, 1) := by decide +kernel
theorem dX9_leaves_11 : decode cX9_leaves 11 = .ok (.aload_n 0, 1) := by decide +kernel
theorem dX9_leaves_12 : decode cX9_leaves 12 = .ok (.getfield 19, 3) := by decide +kernel
theorem dX9_leaves_15 : decode cX9_leaves 15 = .ok (.invokestatic 177, 3) := by decide +kernel
theorem dX9_leaves_18 : decode cX9_leaves 18 = .ok (.pop, 1) := by decide +kernel
theorem dX9_leaves_19 : decode cX9_leaves 19 = .ok (.iconst 1, 1) := by decide +kernel
theorem dX9_leaves_20 : decode cX9_leaves 20 = .ok (.ireturn, 1) := by decide +kernel
theorem dX9_jumps_0 : decode cX9_jumps 0 = .ok (.iload_n 1, 1) := by decide +kernel
theorem dX9_jumps_1 : decode cX9_jumps 1 = .ok (.aload_n 0, 1) := by decide +kernel
theorem dX9_jumps_2 : decode cX9_jumps 2 = .ok (.getfield 19, 3) := by decide +kernel
theorem dX9_jumps_5 : decode cX9_jumps 5 = .ok (.iconst 3, 1) := by decide +kernel
theorem dX9_jumps_6 : decode cX9_jumps 6 = .ok (.iaload, 1) := by decide +kernel
theorem dX9_jumps_7 : decode cX9_jumps 7 = .ok (.if_icmp .lt 5, 3) := by decide +kernel
theorem dX9_jumps_10 : decode cX9_jumps 10 = .ok (.iconst 0, 1) := by decide +kernel
theorem dX9_jumps_11 : decode cX9_jumps 11 = .ok (.ireturn, 1) := by decide +kernel
theorem dX9_jumps_12 : decode cX9_jumps 12 = .ok (.aload_n 0, 1) := by decide +kernel
theorem dX9_jumps_13 : decode cX9_jumps 13 = .ok (.getfield 19, 3) := by decide +kernel
theorem dX9_jumps_16 : decode cX9_jumps 16 = .ok (.iload_n 1, 1) := by decide +kernel
theorem dX9_jumps_17 : decode cX9_jumps 17 = .ok (.invokestatic 174, 3) := by decide +kernel
theorem dX9_jumps_20 : decode cX9_jumps 20 = .ok (.pop, 1) := by decide +kernel
theorem dX9_jumps_21 : decode cX9_jumps 21 = .ok (.iconst 1, 1) := by decide +kernel
theorem dX9_jumps_22 : decode cX9_jumps 22 = .ok (.ireturn, 1) := by decide +kernel
theorem dX9_simulate_0 : decode cX9_simulate 0 = .ok (.aload_n 0, 1) := by decide +kernel
theorem dX9_simulate_1 : decode cX9_simulate 1 = .ok (.iload_n 3, 1) := by decide +kernel
theorem dX9_simulate_2 : decode cX9_simulate 2 = .ok (.i2l, 1) := by decide +kernel
theorem dX9_simulate_3 : decode cX9_simulate 3 = .ok (.lconst 1, 1) := by decide +kernel
theorem dX9_simulate_4 : decode cX9_simulate 4 = .ok (.ldc2_w 238, 3) := by decide +kernel
theorem dX9_simulate_7 : decode cX9_simulate 7 = .ok (.invokestatic 121, 3) := by decide +kernel
theorem dX9_simulate_10 : decode cX9_simulate 10 = .ok (.ifCond .eq 7, 3) := by decide +kernel
theorem dX9_simulate_13 : decode cX9_simulate 13 = .ok (.iconst 0, 1) := by decide +kernel
theorem dX9_simulate_14 : decode cX9_simulate 14 = .ok (.goto 4, 3) := by decide +kernel
theorem dX9_simulate_17 : decode cX9_simulate 17 = .ok (.iconst 1, 1) := by decide +kernel
theorem dX9_simulate_18 : decode cX9_simulate 18 = .ok (.invokevirtual 128, 3) := by decide +kernel
theorem dX9_simulate_21 : decode cX9_simulate 21 = .ok (.ifCond .eq 5, 3) := by decide +kernel
theorem dX9_simulate_24 : decode cX9_simulate 24 = .ok (.iconst 0, 1) := by decide +kernel
theorem dX9_simulate_25 : decode cX9_simulate 25 = .ok (.ireturn, 1) := by decide +kernel
theorem dX9_simulate_26 : decode cX9_simulate 26 = .ok (.aload_n 0, 1) := by decide +kernel
theorem dX9_simulate_27 : decode cX9_simulate 27 = .ok (.invokevirtual 246, 3) := by decide +kernel
theorem dX9_simulate_30 : decode cX9_simulate 30 = .ok (.lload_n 1, 1) := by decide +kernel
theorem dX9_simulate_31 : decode cX9_simulate 31 = .ok (.lstore 4, 2) := by decide +kernel
theorem dX9_simulate_33 : decode cX9_simulate 33 = .ok (.iconst 0, 1) := by decide +kernel
theorem dX9_simulate_34 : decode cX9_simulate 34 = .ok (.istore 6, 2) := by decide +kernel
theorem dX9_simulate_36 : decode cX9_simulate 36 = .ok (.iload 6, 2) := by decide +kernel
theorem dX9_simulate_38 : decode cX9_simulate 38 = .ok (.iload_n 3, 1) := by decide +kernel
theorem dX9_simulate_39 : decode cX9_simulate 39 = .ok (.if_icmp .ge 31, 3) := by decide +kernel
theorem dX9_simulate_42 : decode cX9_simulate 42 = .ok (.lload 4, 2) := by decide +kernel
theorem dX9_simulate_44 : decode cX9_simulate 44 = .ok (.ldc2_w 277, 3) := by decide +kernel
theorem dX9_simulate_47 : decode cX9_simulate 47 = .ok (.lmul, 1) := by decide +kernel
theorem dX9_simulate_48 : decode cX9_simulate 48 = .ok (.ldc2_w 279, 3) := by decide +kernel
theorem dX9_simulate_51 : decode cX9_simulate 51 = .ok (.ladd, 1) := by decide +kernel
theorem dX9_simulate_52 : decode cX9_simulate 52 = .ok (.lstore 4, 2) := by decide +kernel
theorem dX9_simulate_54 : decode cX9_simulate 54 = .ok (.aload_n 0, 1) := by decide +kernel
theorem dX9_simulate_55 : decode cX9_simulate 55 = .ok (.lload 4, 2) := by decide +kernel
theorem dX9_simulate_57 : decode cX9_simulate 57 = .ok (.bipush 33, 2) := by decide +kernel
theorem dX9_simulate_59 : decode cX9_simulate 59 = .ok (.lushr, 1) := by decide +kernel
theorem dX9_simulate_60 : decode cX9_simulate 60 = .ok (.l2i, 1) := by decide +kernel
theorem dX9_simulate_61 : decode cX9_simulate 61 = .ok (.invokevirtual 281, 3) := by decide +kernel
theorem dX9_simulate_64 : decode cX9_simulate 64 = .ok (.iinc 6 1, 3) := by decide +kernel
theorem dX9_simulate_67 : decode cX9_simulate 67 = .ok (.goto (-31), 3) := by decide +kernel
theorem dX9_simulate_70 : decode cX9_simulate 70 = .ok (.sipush 1000, 3) := by decide +kernel
theorem dX9_simulate_73 : decode cX9_simulate 73 = .ok (.aload_n 0, 1) := by decide +kernel
theorem dX9_simulate_74 : decode cX9_simulate 74 = .ok (.getfield 19, 3) := by decide +kernel
theorem dX9_simulate_77 : decode cX9_simulate 77 = .ok (.bipush 6, 2) := by decide +kernel
theorem dX9_simulate_79 : decode cX9_simulate 79 = .ok (.iaload, 1) := by decide +kernel
theorem dX9_simulate_80 : decode cX9_simulate 80 = .ok (.aload_n 0, 1) := by decide +kernel
theorem dX9_simulate_81 : decode cX9_simulate 81 = .ok (.getfield 16, 3) := by decide +kernel
theorem dX9_simulate_84 : decode cX9_simulate 84 = .ok (.bipush 6, 2) := by decide +kernel
theorem dX9_simulate_86 : decode cX9_simulate 86 = .ok (.iaload, 1) := by decide +kernel
theorem dX9_simulate_87 : decode cX9_simulate 87 = .ok (.isub, 1) := by decide +kernel
theorem dX9_simulate_88 : decode cX9_simulate 88 = .ok (.imul, 1) := by decide +kernel
theorem dX9_simulate_89 : decode cX9_simulate 89 = .ok (.aload_n 0, 1) := by decide +kernel
theorem dX9_simulate_90 : decode cX9_simulate 90 = .ok (.getfield 19, 3) := by decide +kernel
theorem dX9_simulate_93 : decode cX9_simulate 93 = .ok (.invokestatic 81, 3) := by decide +kernel
theorem dX9_simulate_96 : decode cX9_simulate 96 = .ok (.iadd, 1) := by decide +kernel
theorem dX9_simulate_97 : decode cX9_simulate 97 = .ok (.ireturn, 1) := by decide +kernel
theorem dX9_stir_0 : decode cX9_stir 0 = .ok (.iload_n 1, 1) := by decide +kernel
theorem dX9_stir_1 : decode cX9_stir 1 = .ok (.bipush 8, 2) := by decide +kernel
theorem dX9_stir_3 : decode cX9_stir 3 = .ok (.irem, 1) := by decide +kernel
theorem dX9_stir_4 : decode cX9_stir 4 = .ok (.tableswitch 63 0 3 #[32, 32, 40, 48], 32) := by decide +kernel
theorem dX9_stir_36 : decode cX9_stir 36 = .ok (.aload_n 0, 1) := by decide +kernel
theorem dX9_stir_37 : decode cX9_stir 37 = .ok (.invokevirtual 256, 3) := by decide +kernel
theorem dX9_stir_40 : decode cX9_stir 40 = .ok (.pop, 1) := by decide +kernel
theorem dX9_stir_41 : decode cX9_stir 41 = .ok (.goto 49, 3) := by decide +kernel
theorem dX9_stir_44 : decode cX9_stir 44 = .ok (.aload_n 0, 1) := by decide +kernel
theorem dX9_stir_45 : decode cX9_stir 45 = .ok (.invokevirtual 260, 3) := by decide +kernel
theorem dX9_stir_48 : decode cX9_stir 48 = .ok (.pop, 1) := by decide +kernel
theorem dX9_stir_49 : decode cX9_stir 49 = .ok (.goto 41, 3) := by decide +kernel
theorem dX9_stir_52 : decode cX9_stir 52 = .ok (.aload_n 0, 1) := by decide +kernel
theorem dX9_stir_53 : decode cX9_stir 53 = .ok (.iload_n 1, 1) := by decide +kernel
theorem dX9_stir_54 : decode cX9_stir 54 = .ok (.bipush 8, 2) := by decide +kernel
theorem dX9_stir_56 : decode cX9_stir 56 = .ok (.idiv, 1) := by decide +kernel
theorem dX9_stir_57 : decode cX9_stir 57 = .ok (.bipush 8, 2) := by decide +kernel
theorem dX9_stir_59 : decode cX9_stir 59 = .ok (.irem, 1) := by decide +kernel
theorem dX9_stir_60 : decode cX9_stir 60 = .ok (.invokevirtual 263, 3) := by decide +kernel
theorem dX9_stir_63 : decode cX9_stir 63 = .ok (.pop, 1) := by decide +kernel
theorem dX9_stir_64 : decode cX9_stir 64 = .ok (.goto 26, 3) := by decide +kernel
theorem dX9_stir_67 : decode cX9_stir 67 = .ok (.aload_n 0, 1) := by decide +kernel
theorem dX9_stir_68 : decode cX9_stir 68 = .ok (.iconst 1, 1) := by decide +kernel
theorem dX9_stir_69 : decode cX9_stir 69 = .ok (.iload_n 1, 1) := by decide +kernel
theorem dX9_stir_70 : decode cX9_stir 70 = .ok (.bipush 8, 2) := by decide +kernel
theorem dX9_stir_72 : decode cX9_stir 72 = .ok (.idiv, 1) := by decide +kernel
theorem dX9_stir_73 : decode cX9_stir 73 = .ok (.bipush 20, 2) := by decide +kernel
theorem dX9_stir_75 : decode cX9_stir 75 = .ok (.irem, 1) := by decide +kernel
theorem dX9_stir_76 : decode cX9_stir 76 = .ok (.iadd, 1) := by decide +kernel
theorem dX9_stir_77 : decode cX9_stir 77 = .ok (.iconst 1, 1) := by decide +kernel
theorem dX9_stir_78 : decode cX9_stir 78 = .ok (.iload_n 1, 1) := by decide +kernel
theorem dX9_stir_79 : decode cX9_stir 79 = .ok (.sipush 256, 3) := by decide +kernel
theorem dX9_stir_82 : decode cX9_stir 82 = .ok (.idiv, 1) := by decide +kernel
theorem dX9_stir_83 : decode cX9_stir 83 = .ok (.iconst 4, 1) := by decide +kernel
theorem dX9_stir_84 : decode cX9_stir 84 = .ok (.irem, 1) := by decide +kernel
theorem dX9_stir_85 : decode cX9_stir 85 = .ok (.ishl, 1) := by decide +kernel
theorem dX9_stir_86 : decode cX9_stir 86 = .ok (.invokevirtual 252, 3) := by decide +kernel
theorem dX9_stir_89 : decode cX9_stir 89 = .ok (.pop, 1) := by decide +kernel
theorem dX9_stir_90 : decode cX9_stir 90 = .ok (.return_, 1) := by decide +kernel
theorem dX9_save_0 : decode cX9_save 0 = .ok (.aload_n 0, 1) := by decide +kernel
theorem dX9_save_1 : decode cX9_save 1 = .ok (.iload_n 1, 1) := by decide +kernel
theorem dX9_save_2 : decode cX9_save 2 = .ok (.i2l, 1) := by decide +kernel
theorem dX9_save_3 : decode cX9_save 3 = .ok (.lconst 0, 1) := by decide +kernel
theorem dX9_save_4 : decode cX9_save 4 = .ok (.lconst 1, 1) := by decide +kernel
theorem dX9_save_5 : decode cX9_save 5 = .ok (.invokestatic 121, 3) := by decide +kernel
theorem dX9_save_8 : decode cX9_save 8 = .ok (.ifCond .eq 7, 3) := by decide +kernel
theorem dX9_save_11 : decode cX9_save 11 = .ok (.iconst 0, 1) := by decide +kernel
theorem dX9_save_12 : decode cX9_save 12 = .ok (.goto 4, 3) := by decide +kernel
theorem dX9_save_15 : decode cX9_save 15 = .ok (.iconst 1, 1) := by decide +kernel
theorem dX9_save_16 : decode cX9_save 16 = .ok (.invokevirtual 128, 3) := by decide +kernel
theorem dX9_save_19 : decode cX9_save 19 = .ok (.ifCond .eq 5, 3) := by decide +kernel
theorem dX9_save_22 : decode cX9_save 22 = .ok (.iconst 0, 1) := by decide +kernel
theorem dX9_save_23 : decode cX9_save 23 = .ok (.ireturn, 1) := by decide +kernel
theorem dX9_save_24 : decode cX9_save 24 = .ok (.aload_n 0, 1) := by decide +kernel
theorem dX9_save_25 : decode cX9_save 25 = .ok (.getfield 16, 3) := by decide +kernel
theorem dX9_save_28 : decode cX9_save 28 = .ok (.iconst 0, 1) := by decide +kernel
theorem dX9_save_29 : decode cX9_save 29 = .ok (.aload_n 0, 1) := by decide +kernel
theorem dX9_save_30 : decode cX9_save 30 = .ok (.getfield 25, 3) := by decide +kernel
theorem dX9_save_33 : decode cX9_save 33 = .ok (.sipush 690, 3) := by decide +kernel
theorem dX9_save_36 : decode cX9_save 36 = .ok (.iload_n 1, 1) := by decide +kernel
theorem dX9_save_37 : decode cX9_save 37 = .ok (.imul, 1) := by decide +kernel
theorem dX9_save_38 : decode cX9_save 38 = .ok (.sipush 690, 3) := by decide +kernel
theorem dX9_save_41 : decode cX9_save 41 = .ok (.invokestatic 45, 3) := by decide +kernel
theorem dX9_save_44 : decode cX9_save 44 = .ok (.aload_n 0, 1) := by decide +kernel
theorem dX9_save_45 : decode cX9_save 45 = .ok (.getfield 28, 3) := by decide +kernel
theorem dX9_save_48 : decode cX9_save 48 = .ok (.iload_n 1, 1) := by decide +kernel
theorem dX9_save_49 : decode cX9_save 49 = .ok (.iconst 1, 1) := by decide +kernel
theorem dX9_save_50 : decode cX9_save 50 = .ok (.bastore, 1) := by decide +kernel
theorem dX9_save_51 : decode cX9_save 51 = .ok (.aload_n 0, 1) := by decide +kernel
theorem dX9_save_52 : decode cX9_save 52 = .ok (.getfield 16, 3) := by decide +kernel
theorem dX9_save_55 : decode cX9_save 55 = .ok (.iconst 0, 1) := by decide +kernel
theorem dX9_save_56 : decode cX9_save 56 = .ok (.iaload, 1) := by decide +kernel
theorem dX9_save_57 : decode cX9_save 57 = .ok (.ireturn, 1) := by decide +kernel
theorem dX9_restore_0 : decode cX9_restore 0 = .ok (.aload_n 0, 1) := by decide +kernel
theorem dX9_restore_1 : decode cX9_restore 1 = .ok (.iload_n 1, 1) := by decide +kernel
theorem dX9_restore_2 : decode cX9_restore 2 = .ok (.i2l, 1) := by decide +kernel
theorem dX9_restore_3 : decode cX9_restore 3 = .ok (.lconst 0, 1) := by decide +kernel
theorem dX9_restore_4 : decode cX9_restore 4 = .ok (.lconst 1, 1) := by decide +kernel
theorem dX9_restore_5 : decode cX9_restore 5 = .ok (.invokestatic 121, 3) := by decide +kernel
theorem dX9_restore_8 : decode cX9_restore 8 = .ok (.ifCond .ne 7, 3) := by decide +kernel
theorem dX9_restore_11 : decode cX9_restore 11 = .ok (.iconst 1, 1) := by decide +kernel
theorem dX9_restore_12 : decode cX9_restore 12 = .ok (.goto 17, 3) := by decide +kernel
theorem dX9_restore_15 : decode cX9_restore 15 = .ok (.aload_n 0, 1) := by decide +kernel
theorem dX9_restore_16 : decode cX9_restore 16 = .ok (.getfield 28, 3) := by decide +kernel
theorem dX9_restore_19 : decode cX9_restore 19 = .ok (.iload_n 1, 1) := by decide +kernel
theorem dX9_restore_20 : decode cX9_restore 20 = .ok (.baload, 1) := by decide +kernel
theorem dX9_restore_21 : decode cX9_restore 21 = .ok (.ifCond .eq 7, 3) := by decide +kernel
theorem dX9_restore_24 : decode cX9_restore 24 = .ok (.iconst 0, 1) := by decide +kernel
theorem dX9_restore_25 : decode cX9_restore 25 = .ok (.goto 4, 3) := by decide +kernel
theorem dX9_restore_28 : decode cX9_restore 28 = .ok (.iconst 2, 1) := by decide +kernel
theorem dX9_restore_29 : decode cX9_restore 29 = .ok (.invokevirtual 128, 3) := by decide +kernel
theorem dX9_restore_32 : decode cX9_restore 32 = .ok (.ifCond .eq 5, 3) := by decide +kernel
theorem dX9_restore_35 : decode cX9_restore 35 = .ok (.iconst 0, 1) := by decide +kernel
theorem dX9_restore_36 : decode cX9_restore 36 = .ok (.ireturn, 1) := by decide +kernel
theorem dX9_restore_37 : decode cX9_restore 37 = .ok (.aload_n 0, 1) := by decide +kernel
theorem dX9_restore_38 : decode cX9_restore 38 = .ok (.getfield 25, 3) := by decide +kernel
theorem dX9_restore_41 : decode cX9_restore 41 = .ok (.sipush 690, 3) := by decide +kernel
theorem dX9_restore_44 : decode cX9_restore 44 = .ok (.iload_n 1, 1) := by decide +kernel
theorem dX9_restore_45 : decode cX9_restore 45 = .ok (.imul, 1) := by decide +kernel
theorem dX9_restore_46 : decode cX9_restore 46 = .ok (.aload_n 0, 1) := by decide +kernel
theorem dX9_restore_47 : decode cX9_restore 47 = .ok (.getfield 16, 3) := by decide +kernel
theorem dX9_restore_50 : decode cX9_restore 50 = .ok (.iconst 0, 1) := by decide +kernel
theorem dX9_restore_51 : decode cX9_restore 51 = .ok (.sipush 690, 3) := by decide +kernel
theorem dX9_restore_54 : decode cX9_restore 54 = .ok (.invokestatic 45, 3) := by decide +kernel
theorem dX9_restore_57 : decode cX9_restore 57 = .ok (.aload_n 0, 1) := by decide +kernel
theorem dX9_restore_58 : decode cX9_restore 58 = .ok (.iconst 0, 1) := by decide +kernel
theorem dX9_restore_59 : decode cX9_restore 59 = .ok (.putfield 42, 3) := by decide +kernel
theorem dX9_restore_62 : decode cX9_restore 62 = .ok (.aload_n 0, 1) := by decide +kernel
theorem dX9_restore_63 : decode cX9_restore 63 = .ok (.getfield 16, 3) := by decide +kernel
theorem dX9_restore_66 : decode cX9_restore 66 = .ok (.iconst 0, 1) := by decide +kernel
theorem dX9_restore_67 : decode cX9_restore 67 = .ok (.iaload, 1) := by decide +kernel
theorem dX9_restore_68 : decode cX9_restore 68 = .ok (.ireturn, 1) := by decide +kernel
