theorem dX7_init_0 : decode cX7_init 0 = .ok (.aload_n 0, 1) := by decide +kernel
theorem dX7_init_1 : decode cX7_init 1 = .ok (.invokespecial 3, 3) := by decide +kernel
theorem dX7_init_4 : decode cX7_init 4 = .ok (.aload_n 0, 1) := by decide +kernel
theorem dX7_init_5 : decode cX7_init 5 = .ok (.new 9, 3) := by decide +kernel
theorem dX7_init_8 : decode cX7_init 8 = .ok (.dup, 1) := by decide +kernel
theorem dX7_init_9 : decode cX7_init 9 = .ok (.bipush 100, 2) := by decide +kernel
theorem dX7_init_11 : decode cX7_init 11 = .ok (.invokespecial 11, 3) := by decide +kernel
theorem dX7_init_14 : decode cX7_init 14 = .ok (.putfield 14, 3) := by decide +kernel
theorem dX7_init_17 : decode cX7_init 17 = .ok (.return_, 1) := by decide +kernel
theorem dX7_faultPosition_0 : decode cX7_faultPosition 0 = .ok (.aload_n 0, 1) := by decide +kernel
theorem dX7_faultPosition_1 : decode cX7_faultPosition 1 = .ok (.invokevirtual 28, 3) := by decide +kernel
theorem dX7_faultPosition_4 : decode cX7_faultPosition 4 = .ok (.iconst 0, 1) := by decide +kernel
theorem dX7_faultPosition_5 : decode cX7_faultPosition 5 = .ok (.istore_n 1, 1) := by decide +kernel
theorem dX7_faultPosition_6 : decode cX7_faultPosition 6 = .ok (.iload_n 1, 1) := by decide +kernel
theorem dX7_faultPosition_7 : decode cX7_faultPosition 7 = .ok (.bipush 100, 2) := by decide +kernel
theorem dX7_faultPosition_9 : decode cX7_faultPosition 9 = .ok (.if_icmp .ge 20, 3) := by decide +kernel
theorem dX7_faultPosition_12 : decode cX7_faultPosition 12 = .ok (.aload_n 0, 1) := by decide +kernel
theorem dX7_faultPosition_13 : decode cX7_faultPosition 13 = .ok (.invokevirtual 31, 3) := by decide +kernel
theorem dX7_faultPosition_16 : decode cX7_faultPosition 16 = .ok (.ifCond .eq 13, 3) := by decide +kernel
theorem dX7_faultPosition_19 : decode cX7_faultPosition 19 = .ok (.aload_n 0, 1) := by decide +kernel
theorem dX7_faultPosition_20 : decode cX7_faultPosition 20 = .ok (.invokevirtual 35, 3) := by decide +kernel
theorem dX7_faultPosition_23 : decode cX7_faultPosition 23 = .ok (.iinc 1 1, 3) := by decide +kernel
theorem dX7_faultPosition_26 : decode cX7_faultPosition 26 = .ok (.goto (-20), 3) := by decide +kernel
theorem dX7_faultPosition_29 : decode cX7_faultPosition 29 = .ok (.aload_n 0, 1) := by decide +kernel
theorem dX7_faultPosition_30 : decode cX7_faultPosition 30 = .ok (.getfield 38, 3) := by decide +kernel
theorem dX7_faultPosition_33 : decode cX7_faultPosition 33 = .ok (.ifCond .eq 10, 3) := by decide +kernel
theorem dX7_faultPosition_36 : decode cX7_faultPosition 36 = .ok (.aload_n 0, 1) := by decide +kernel
theorem dX7_faultPosition_37 : decode cX7_faultPosition 37 = .ok (.getfield 42, 3) := by decide +kernel
theorem dX7_faultPosition_40 : decode cX7_faultPosition 40 = .ok (.goto 4, 3) := by decide +kernel
theorem dX7_faultPosition_43 : decode cX7_faultPosition 43 = .ok (.iconst (-1), 1) := by decide +kernel
theorem dX7_faultPosition_44 : decode cX7_faultPosition 44 = .ok (.ireturn, 1) := by decide +kernel
theorem dX7_readHead_0 : decode cX7_readHead 0 = .ok (.aload_n 0, 1) := by decide +kernel
theorem dX7_readHead_1 : decode cX7_readHead 1 = .ok (.iconst 0, 1) := by decide +kernel
theorem dX7_readHead_2 : decode cX7_readHead 2 = .ok (.putfield 42, 3) := by decide +kernel
theorem dX7_readHead_5 : decode cX7_readHead 5 = .ok (.aload_n 0, 1) := by decide +kernel
theorem dX7_readHead_6 : decode cX7_readHead 6 = .ok (.iconst 0, 1) := by decide +kernel
theorem dX7_readHead_7 : decode cX7_readHead 7 = .ok (.putfield 38, 3) := by decide +kernel
theorem dX7_readHead_10 : decode cX7_readHead 10 = .ok (.aload_n 0, 1) := by decide +kernel
theorem dX7_readHead_11 : decode cX7_readHead 11 = .ok (.aload_n 0, 1) := by decide +kernel
theorem dX7_readHead_12 : decode cX7_readHead 12 = .ok (.invokevirtual 45, 3) := by decide +kernel
theorem dX7_readHead_15 : decode cX7_readHead 15 = .ok (.putfield 49, 3) := by decide +kernel
theorem dX7_readHead_18 : decode cX7_readHead 18 = .ok (.aload_n 0, 1) := by decide +kernel
theorem dX7_readHead_19 : decode cX7_readHead 19 = .ok (.getfield 49, 3) := by decide +kernel
theorem dX7_readHead_22 : decode cX7_readHead 22 = .ok (.bipush 84, 2) := by decide +kernel
theorem dX7_readHead_24 : decode cX7_readHead 24 = .ok (.if_icmp .eq 8, 3) := by decide +kernel
theorem dX7_readHead_27 : decode cX7_readHead 27 = .ok (.aload_n 0, 1) := by decide +kernel
theorem dX7_readHead_28 : decode cX7_readHead 28 = .ok (.iconst 0, 1) := by decide +kernel
theorem dX7_readHead_29 : decode cX7_readHead 29 = .ok (.invokevirtual 52, 3) := by decide +kernel
theorem dX7_readHead_32 : decode cX7_readHead 32 = .ok (.aload_n 0, 1) := by decide +kernel
theorem dX7_readHead_33 : decode cX7_readHead 33 = .ok (.aload_n 0, 1) := by decide +kernel
theorem dX7_readHead_34 : decode cX7_readHead 34 = .ok (.iconst 2, 1) := by decide +kernel
theorem dX7_readHead_35 : decode cX7_readHead 35 = .ok (.bipush 8, 2) := by decide +kernel
theorem dX7_readHead_37 : decode cX7_readHead 37 = .ok (.bipush 64, 2) := by decide +kernel
theorem dX7_readHead_39 : decode cX7_readHead 39 = .ok (.invokevirtual 55, 3) := by decide +kernel
theorem dX7_readHead_42 : decode cX7_readHead 42 = .ok (.putfield 59, 3) := by decide +kernel
theorem dX7_readHead_45 : decode cX7_readHead 45 = .ok (.aload_n 0, 1) := by decide +kernel
theorem dX7_readHead_46 : decode cX7_readHead 46 = .ok (.aload_n 0, 1) := by decide +kernel
theorem dX7_readHead_47 : decode cX7_readHead 47 = .ok (.iconst 3, 1) := by decide +kernel
theorem dX7_readHead_48 : decode cX7_readHead 48 = .ok (.iconst 0, 1) := by decide +kernel
theorem dX7_readHead_49 : decode cX7_readHead 49 = .ok (.sipush 128, 3) := by decide +kernel
theorem dX7_readHead_52 : decode cX7_readHead 52 = .ok (.invokevirtual 55, 3) := by decide +kernel
theorem dX7_readHead_55 : decode cX7_readHead 55 = .ok (.putfield 62, 3) := by decide +kernel
theorem dX7_readHead_58 : decode cX7_readHead 58 = .ok (.return_, 1) := by decide +kernel
theorem dX7_readLetter_0 : decode cX7_readLetter 0 = .ok (.aload_n 0, 1) := by decide +kernel
theorem dX7_readLetter_1 : decode cX7_readLetter 1 = .ok (.invokevirtual 31, 3) := by decide +kernel
theorem dX7_readLetter_4 : decode cX7_readLetter 4 = .ok (.ifCond .ne 5, 3) := by decide +kernel
theorem dX7_readLetter_7 : decode cX7_readLetter 7 = .ok (.iconst (-1), 1) := by decide +kernel
theorem dX7_readLetter_8 : decode cX7_readLetter 8 = .ok (.ireturn, 1) := by decide +kernel
theorem dX7_readLetter_9 : decode cX7_readLetter 9 = .ok (.aload_n 0, 1) := by decide +kernel
theorem dX7_readLetter_10 : decode cX7_readLetter 10 = .ok (.getfield 14, 3) := by decide +kernel
theorem dX7_readLetter_13 : decode cX7_readLetter 13 = .ok (.aload_n 0, 1) := by decide +kernel
theorem dX7_readLetter_14 : decode cX7_readLetter 14 = .ok (.getfield 42, 3) := by decide +kernel
theorem dX7_readLetter_17 : decode cX7_readLetter 17 = .ok (.invokevirtual 68, 3) := by decide +kernel
theorem dX7_readLetter_20 : decode cX7_readLetter 20 = .ok (.istore_n 1, 1) := by decide +kernel
theorem dX7_readLetter_21 : decode cX7_readLetter 21 = .ok (.aload_n 0, 1) := by decide +kernel
theorem dX7_readLetter_22 : decode cX7_readLetter 22 = .ok (.dup, 1) := by decide +kernel
theorem dX7_readLetter_23 : decode cX7_readLetter 23 = .ok (.getfield 42, 3) := by decide +kernel
theorem dX7_readLetter_26 : decode cX7_readLetter 26 = .ok (.iconst 1, 1) := by decide +kernel
theorem dX7_readLetter_27 : decode cX7_readLetter 27 = .ok (.iadd, 1) := by decide +kernel
theorem dX7_readLetter_28 : decode cX7_readLetter 28 = .ok (.putfield 42, 3) := by decide +kernel
theorem dX7_readLetter_31 : decode cX7_readLetter 31 = .ok (.iload_n 1, 1) := by decide +kernel
theorem dX7_readLetter_32 : decode cX7_readLetter 32 = .ok (.ireturn, 1) := by decide +kernel
theorem dX7_goesOn_0 : decode cX7_goesOn 0 = .ok (.aload_n 0, 1) := by decide +kernel
theorem dX7_goesOn_1 : decode cX7_goesOn 1 = .ok (.getfield 38, 3) := by decide +kernel
theorem dX7_goesOn_4 : decode cX7_goesOn 4 = .ok (.ifCond .ne 18, 3) := by decide +kernel
theorem dX7_goesOn_7 : decode cX7_goesOn 7 = .ok (.aload_n 0, 1) := by decide +kernel
theorem dX7_goesOn_8 : decode cX7_goesOn 8 = .ok (.getfield 42, 3) := by decide +kernel
theorem dX7_goesOn_11 : decode cX7_goesOn 11 = .ok (.aload_n 0, 1) := by decide +kernel
theorem dX7_goesOn_12 : decode cX7_goesOn 12 = .ok (.getfield 20, 3) := by decide +kernel
theorem dX7_goesOn_15 : decode cX7_goesOn 15 = .ok (.if_icmp .ge 7, 3) := by decide +kernel
theorem dX7_goesOn_18 : decode cX7_goesOn 18 = .ok (.iconst 1, 1) := by decide +kernel
theorem dX7_goesOn_19 : decode cX7_goesOn 19 = .ok (.goto 4, 3) := by decide +kernel
theorem dX7_goesOn_22 : decode cX7_goesOn 22 = .ok (.iconst 0, 1) := by decide +kernel
theorem dX7_goesOn_23 : decode cX7_goesOn 23 = .ok (.ireturn, 1) := by decide +kernel
theorem dX7_failAt_0 : decode cX7_failAt 0 = .ok (.aload_n 0, 1) := by decide +kernel
theorem dX7_failAt_1 : decode cX7_failAt 1 = .ok (.iload_n 1, 1) := by decide +kernel
theorem dX7_failAt_2 : decode cX7_failAt 2 = .ok (.putfield 42, 3) := by decide +kernel
theorem dX7_failAt_5 : decode cX7_failAt 5 = .ok (.aload_n 0, 1) := by decide +kernel
theorem dX7_failAt_6 : decode cX7_failAt 6 = .ok (.iconst 1, 1) := by decide +kernel
theorem dX7_failAt_7 : decode cX7_failAt 7 = .ok (.putfield 38, 3) := by decide +kernel
theorem dX7_failAt_10 : decode cX7_failAt 10 = .ok (.return_, 1) := by decide +kernel
theorem dX7_readNumber_0 : decode cX7_readNumber 0 = .ok (.iconst 1, 1) := by decide +kernel
theorem dX7_readNumber_1 : decode cX7_readNumber 1 = .ok (.istore 4, 2) := by decide +kernel
theorem dX7_readNumber_3 : decode cX7_readNumber 3 = .ok (.iconst 0, 1) := by decide +kernel
theorem dX7_readNumber_4 : decode cX7_readNumber 4 = .ok (.istore 5, 2) := by decide +kernel
theorem dX7_readNumber_6 : decode cX7_readNumber 6 = .ok (.iload 5, 2) := by decide +kernel
theorem dX7_readNumber_8 : decode cX7_readNumber 8 = .ok (.iload_n 1, 1) := by decide +kernel
theorem dX7_readNumber_9 : decode cX7_readNumber 9 = .ok (.if_icmp .ge 16, 3) := by decide +kernel
theorem dX7_readNumber_12 : decode cX7_readNumber 12 = .ok (.iload 4, 2) := by decide +kernel
theorem dX7_readNumber_14 : decode cX7_readNumber 14 = .ok (.bipush 10, 2) := by decide +kernel
theorem dX7_readNumber_16 : decode cX7_readNumber 16 = .ok (.imul, 1) := by decide +kernel
theorem dX7_readNumber_17 : decode cX7_readNumber 17 = .ok (.istore 4, 2) := by decide +kernel
theorem dX7_readNumber_19 : decode cX7_readNumber 19 = .ok (.iinc 5 1, 3) := by decide +kernel
theorem dX7_readNumber_22 : decode cX7_readNumber 22 = .ok (.goto (-16), 3) := by decide +kernel
theorem dX7_readNumber_25 : decode cX7_readNumber 25 = .ok (.iconst 0, 1) := by decide +kernel
theorem dX7_readNumber_26 : decode cX7_readNumber 26 = .ok (.istore 5, 2) := by decide +kernel
theorem dX7_readNumber_28 : decode cX7_readNumber 28 = .ok (.iconst 0, 1) := by decide +kernel
theorem dX7_readNumber_29 : decode cX7_readNumber 29 = .ok (.istore 6, 2) := by decide +kernel
theorem dX7_readNumber_31 : decode cX7_readNumber 31 = .ok (.iload 6, 2) := by decide +kernel
theorem dX7_readNumber_33 : decode cX7_readNumber 33 = .ok (.iload_n 1, 1) := by decide +kernel
theorem dX7_readNumber_34 : decode cX7_readNumber 34 = .ok (.if_icmp .ge 84, 3) := by decide +kernel
theorem dX7_readNumber_37 : decode cX7_readNumber 37 = .ok (.aload_n 0, 1) := by decide +kernel
theorem dX7_readNumber_38 : decode cX7_readNumber 38 = .ok (.getfield 38, 3) := by decide +kernel
theorem dX7_readNumber_41 : decode cX7_readNumber 41 = .ok (.ifCond .ne 77, 3) := by decide +kernel
theorem dX7_readNumber_44 : decode cX7_readNumber 44 = .ok (.iload 4, 2) := by decide +kernel
theorem dX7_readNumber_46 : decode cX7_readNumber 46 = .ok (.bipush 10, 2) := by decide +kernel
theorem dX7_readNumber_48 : decode cX7_readNumber 48 = .ok (.idiv, 1) := by decide +kernel
theorem dX7_readNumber_49 : decode cX7_readNumber 49 = .ok (.istore 4, 2) := by decide +kernel
theorem dX7_readNumber_51 : decode cX7_readNumber 51 = .ok (.aload_n 0, 1) := by decide +kernel
theorem dX7_readNumber_52 : decode cX7_readNumber 52 = .ok (.invokevirtual 72, 3) := by decide +kernel
theorem dX7_readNumber_55 : decode cX7_readNumber 55 = .ok (.istore 7, 2) := by decide +kernel
theorem dX7_readNumber_57 : decode cX7_readNumber 57 = .ok (.iload 5, 2) := by decide +kernel
theorem dX7_readNumber_59 : decode cX7_readNumber 59 = .ok (.iload 7, 2) := by decide +kernel
theorem dX7_readNumber_61 : decode cX7_readNumber 61 = .ok (.iload 4, 2) := by decide +kernel
theorem dX7_readNumber_63 : decode cX7_readNumber 63 = .ok (.imul, 1) := by decide +kernel
theorem dX7_readNumber_64 : decode cX7_readNumber 64 = .ok (.iadd, 1) := by decide +kernel
theorem dX7_readNumber_65 : decode cX7_readNumber 65 = .ok (.istore 8, 2) := by decide +kernel
theorem dX7_readNumber_67 : decode cX7_readNumber 67 = .ok (.iload 7, 2) := by decide +kernel
theorem dX7_readNumber_69 : decode cX7_readNumber 69 = .ok (.iconst (-1), 1) := by decide +kernel
theorem dX7_readNumber_70 : decode cX7_readNumber 70 = .ok (.if_icmp .eq 20, 3) := by decide +kernel
theorem dX7_readNumber_73 : decode cX7_readNumber 73 = .ok (.iload 8, 2) := by decide +kernel
theorem dX7_readNumber_75 : decode cX7_readNumber 75 = .ok (.iload_n 3, 1) := by decide +kernel
theorem dX7_readNumber_76 : decode cX7_readNumber 76 = .ok (.if_icmp .gt 14, 3) := by decide +kernel
theorem dX7_readNumber_79 : decode cX7_readNumber 79 = .ok (.iload 8, 2) := by decide +kernel
theorem dX7_readNumber_81 : decode cX7_readNumber 81 = .ok (.iload 4, 2) := by decide +kernel
theorem dX7_readNumber_83 : decode cX7_readNumber 83 = .ok (.iadd, 1) := by decide +kernel
theorem dX7_readNumber_84 : decode cX7_readNumber 84 = .ok (.iconst 1, 1) := by decide +kernel
theorem dX7_readNumber_85 : decode cX7_readNumber 85 = .ok (.isub, 1) := by decide +kernel
theorem dX7_readNumber_86 : decode cX7_readNumber 86 = .ok (.iload_n 2, 1) := by decide +kernel
theorem dX7_readNumber_87 : decode cX7_readNumber 87 = .ok (.if_icmp .ge 11, 3) := by decide +kernel
theorem dX7_readNumber_90 : decode cX7_readNumber 90 = .ok (.aload_n 0, 1) := by decide +kernel
theorem dX7_readNumber_91 : decode cX7_readNumber 91 = .ok (.iconst 1, 1) := by decide +kernel
theorem dX7_readNumber_92 : decode cX7_readNumber 92 = .ok (.putfield 38, 3) := by decide +kernel
theorem dX7_readNumber_95 : decode cX7_readNumber 95 = .ok (.goto 17, 3) := by decide +kernel
theorem dX7_readNumber_98 : decode cX7_readNumber 98 = .ok (.iload 8, 2) := by decide +kernel
theorem dX7_readNumber_100 : decode cX7_readNumber 100 = .ok (.istore 5, 2) := by decide +kernel
theorem dX7_readNumber_102 : decode cX7_readNumber 102 = .ok (.aload_n 0, 1) := by decide +kernel
theorem dX7_readNumber_103 : decode cX7_readNumber 103 = .ok (.dup, 1) := by decide +kernel
theorem dX7_readNumber_104 : decode cX7_readNumber 104 = .ok (.getfield 42, 3) := by decide +kernel
theorem dX7_readNumber_107 : decode cX7_readNumber 107 = .ok (.iconst 1, 1) := by decide +kernel
theorem dX7_readNumber_108 : decode cX7_readNumber 108 = .ok (.iadd, 1) := by decide +kernel
theorem dX7_readNumber_109 : decode cX7_readNumber 109 = .ok (.putfield 42, 3) := by decide +kernel
theorem dX7_readNumber_112 : decode cX7_readNumber 112 = .ok (.iinc 6 1, 3) := by decide +kernel
theorem dX7_readNumber_115 : decode cX7_readNumber 115 = .ok (.goto (-84), 3) := by decide +kernel
theorem dX7_readNumber_118 : decode cX7_readNumber 118 = .ok (.iload 5, 2) := by decide +kernel
theorem dX7_readNumber_120 : decode cX7_readNumber 120 = .ok (.ireturn, 1) := by decide +kernel
theorem dX7_digitHere_0 : decode cX7_digitHere 0 = .ok (.aload_n 0, 1) := by decide +kernel
theorem dX7_digitHere_1 : decode cX7_digitHere 1 = .ok (.getfield 42, 3) := by decide +kernel
theorem dX7_digitHere_4 : decode cX7_digitHere 4 = .ok (.aload_n 0, 1) := by decide +kernel
theorem dX7_digitHere_5 : decode cX7_digitHere 5 = .ok (.getfield 20, 3) := by decide +kernel
theorem dX7_digitHere_8 : decode cX7_digitHere 8 = .ok (.if_icmp .ge 17, 3) := by decide +kernel
theorem dX7_digitHere_11 : decode cX7_digitHere 11 = .ok (.aload_n 0, 1) := by decide +kernel
theorem dX7_digitHere_12 : decode cX7_digitHere 12 = .ok (.getfield 14, 3) := by decide +kernel
theorem dX7_digitHere_15 : decode cX7_digitHere 15 = .ok (.aload_n 0, 1) := by decide +kernel
theorem dX7_digitHere_16 : decode cX7_digitHere 16 = .ok (.getfield 42, 3) := by decide +kernel
theorem dX7_digitHere_19 : decode cX7_digitHere 19 = .ok (.invokevirtual 68, 3) := by decide +kernel
theorem dX7_digitHere_22 : decode cX7_digitHere 22 = .ok (.goto 4, 3) := by decide +kernel
theorem dX7_digitHere_25 : decode cX7_digitHere 25 = .ok (.iconst (-1), 1) := by decide +kernel
theorem dX7_digitHere_26 : decode cX7_digitHere 26 = .ok (.istore_n 1, 1) := by decide +kernel
theorem dX7_digitHere_27 : decode cX7_digitHere 27 = .ok (.iload_n 1, 1) := by decide +kernel
theorem dX7_digitHere_28 : decode cX7_digitHere 28 = .ok (.bipush 48, 2) := by decide +kernel
theorem dX7_digitHere_30 : decode cX7_digitHere 30 = .ok (.if_icmp .lt 16, 3) := by decide +kernel
theorem dX7_digitHere_33 : decode cX7_digitHere 33 = .ok (.iload_n 1, 1) := by decide +kernel
theorem dX7_digitHere_34 : decode cX7_digitHere 34 = .ok (.bipush 57, 2) := by decide +kernel
theorem dX7_digitHere_36 : decode cX7_digitHere 36 = .ok (.if_icmp .gt 10, 3) := by decide +kernel
theorem dX7_digitHere_39 : decode cX7_digitHere 39 = .ok (.iload_n 1, 1) := by decide +kernel
theorem dX7_digitHere_40 : decode cX7_digitHere 40 = .ok (.bipush 48, 2) := by decide +kernel
theorem dX7_digitHere_42 : decode cX7_digitHere 42 = .ok (.isub, 1) := by decide +kernel
theorem dX7_digitHere_43 : decode cX7_digitHere 43 = .ok (.goto 4, 3) := by decide +kernel
theorem dX7_digitHere_46 : decode cX7_digitHere 46 = .ok (.iconst (-1), 1) := by decide +kernel
theorem dX7_digitHere_47 : decode cX7_digitHere 47 = .ok (.ireturn, 1) := by decide +kernel
theorem dX7_readCommand_0 : decode cX7_readCommand 0 = .ok (.aload_n 0, 1) := by decide +kernel
theorem dX7_readCommand_1 : decode cX7_readCommand 1 = .ok (.getfield 42, 3) := by decide +kernel
theorem dX7_readCommand_4 : decode cX7_readCommand 4 = .ok (.istore_n 1, 1) := by decide +kernel
theorem dX7_readCommand_5 : decode cX7_readCommand 5 = .ok (.aload_n 0, 1) := by decide +kernel
theorem dX7_readCommand_6 : decode cX7_readCommand 6 = .ok (.aload_n 0, 1) := by decide +kernel
theorem dX7_readCommand_7 : decode cX7_readCommand 7 = .ok (.invokevirtual 45, 3) := by decide +kernel
theorem dX7_readCommand_10 : decode cX7_readCommand 10 = .ok (.putfield 49, 3) := by decide +kernel
theorem dX7_readCommand_13 : decode cX7_readCommand 13 = .ok (.aload_n 0, 1) := by decide +kernel
theorem dX7_readCommand_14 : decode cX7_readCommand 14 = .ok (.getfield 49, 3) := by decide +kernel
theorem dX7_readCommand_17 : decode cX7_readCommand 17 = .ok (.tableswitch 163 101 120 #[160, 133, 163, 163, 163, 118, 163, 160, 163, 163, 163, 95, 163, 163, 163, 163, 163, 163, 163, 160], 95) := by decide +kernel
theorem dX7_readCommand_112 : decode cX7_readCommand 112 = .ok (.aload_n 0, 1) := by decide +kernel
theorem dX7_readCommand_113 : decode cX7_readCommand 113 = .ok (.aload_n 0, 1) := by decide +kernel
theorem dX7_readCommand_114 : decode cX7_readCommand 114 = .ok (.iconst 2, 1) := by decide +kernel
theorem dX7_readCommand_115 : decode cX7_readCommand 115 = .ok (.iconst 1, 1) := by decide +kernel
theorem dX7_readCommand_116 : decode cX7_readCommand 116 = .ok (.bipush 40, 2) := by decide +kernel
theorem dX7_readCommand_118 : decode cX7_readCommand 118 = .ok (.invokevirtual 55, 3) := by decide +kernel
theorem dX7_readCommand_121 : decode cX7_readCommand 121 = .ok (.putfield 59, 3) := by decide +kernel
theorem dX7_readCommand_124 : decode cX7_readCommand 124 = .ok (.aload_n 0, 1) := by decide +kernel
theorem dX7_readCommand_125 : decode cX7_readCommand 125 = .ok (.aload_n 0, 1) := by decide +kernel
theorem dX7_readCommand_126 : decode cX7_readCommand 126 = .ok (.invokevirtual 65, 3) := by decide +kernel
theorem dX7_readCommand_129 : decode cX7_readCommand 129 = .ok (.putfield 62, 3) := by decide +kernel
theorem dX7_readCommand_132 : decode cX7_readCommand 132 = .ok (.goto 53, 3) := by decide +kernel
theorem dX7_readCommand_135 : decode cX7_readCommand 135 = .ok (.aload_n 0, 1) := by decide +kernel
theorem dX7_readCommand_136 : decode cX7_readCommand 136 = .ok (.aload_n 0, 1) := by decide +kernel
theorem dX7_readCommand_137 : decode cX7_readCommand 137 = .ok (.iconst 1, 1) := by decide +kernel
theorem dX7_readCommand_138 : decode cX7_readCommand 138 = .ok (.iconst 0, 1) := by decide +kernel
theorem dX7_readCommand_139 : decode cX7_readCommand 139 = .ok (.bipush 7, 2) := by decide +kernel
theorem dX7_readCommand_141 : decode cX7_readCommand 141 = .ok (.invokevirtual 55, 3) := by decide +kernel
theorem dX7_readCommand_144 : decode cX7_readCommand 144 = .ok (.putfield 59, 3) := by decide +kernel
theorem dX7_readCommand_147 : decode cX7_readCommand 147 = .ok (.goto 38, 3) := by decide +kernel
theorem dX7_readCommand_150 : decode cX7_readCommand 150 = .ok (.aload_n 0, 1) := by decide +kernel
theorem dX7_readCommand_151 : decode cX7_readCommand 151 = .ok (.aload_n 0, 1) := by decide +kernel
theorem dX7_readCommand_152 : decode cX7_readCommand 152 = .ok (.iconst 2, 1) := by decide +kernel
theorem dX7_readCommand_153 : decode cX7_readCommand 153 = .ok (.iconst 0, 1) := by decide +kernel
theorem dX7_readCommand_154 : decode cX7_readCommand 154 = .ok (.bipush 23, 2) := by decide +kernel
theorem dX7_readCommand_156 : decode cX7_readCommand 156 = .ok (.invokevirtual 55, 3) := by decide +kernel
theorem dX7_readCommand_159 : decode cX7_readCommand 159 = .ok (.putfield 59, 3) := by decide +kernel
theorem dX7_readCommand_162 : decode cX7_readCommand 162 = .ok (.aload_n 0, 1) := by decide +kernel
theorem dX7_readCommand_163 : decode cX7_readCommand 163 = .ok (.aload_n 0, 1) := by decide +kernel
theorem dX7_readCommand_164 : decode cX7_readCommand 164 = .ok (.iconst 2, 1) := by decide +kernel
theorem dX7_readCommand_165 : decode cX7_readCommand 165 = .ok (.iconst 0, 1) := by decide +kernel
theorem dX7_readCommand_166 : decode cX7_readCommand 166 = .ok (.bipush 99, 2) := by decide +kernel
theorem dX7_readCommand_168 : decode cX7_readCommand 168 = .ok (.invokevirtual 55, 3) := by decide +kernel
theorem dX7_readCommand_171 : decode cX7_readCommand 171 = .ok (.putfield 62, 3) := by decide +kernel
theorem dX7_readCommand_174 : decode cX7_readCommand 174 = .ok (.goto 11, 3) := by decide +kernel
theorem dX7_readCommand_177 : decode cX7_readCommand 177 = .ok (.goto 8, 3) := by decide +kernel
theorem dX7_readCommand_180 : decode cX7_readCommand 180 = .ok (.aload_n 0, 1) := by decide +kernel
theorem dX7_readCommand_181 : decode cX7_readCommand 181 = .ok (.iload_n 1, 1) := by decide +kernel
theorem dX7_readCommand_182 : decode cX7_readCommand 182 = .ok (.invokevirtual 52, 3) := by decide +kernel
theorem dX7_readCommand_185 : decode cX7_readCommand 185 = .ok (.return_, 1) := by decide +kernel
theorem dX7_readStep_0 : decode cX7_readStep 0 = .ok (.aload_n 0, 1) := by decide +kernel
theorem dX7_readStep_1 : decode cX7_readStep 1 = .ok (.getfield 38, 3) := by decide +kernel
theorem dX7_readStep_4 : decode cX7_readStep 4 = .ok (.ifCond .eq 7, 3) := by decide +kernel
theorem dX7_readStep_7 : decode cX7_readStep 7 = .ok (.iconst (-1), 1) := by decide +kernel
theorem dX7_readStep_8 : decode cX7_readStep 8 = .ok (.goto 7, 3) := by decide +kernel
theorem dX7_readStep_11 : decode cX7_readStep 11 = .ok (.aload_n 0, 1) := by decide +kernel
theorem dX7_readStep_12 : decode cX7_readStep 12 = .ok (.invokevirtual 72, 3) := by decide +kernel
theorem dX7_readStep_15 : decode cX7_readStep 15 = .ok (.istore_n 1, 1) := by decide +kernel
theorem dX7_readStep_16 : decode cX7_readStep 16 = .ok (.iload_n 1, 1) := by decide +kernel
theorem dX7_readStep_17 : decode cX7_readStep 17 = .ok (.invokestatic 75, 3) := by decide +kernel
theorem dX7_readStep_20 : decode cX7_readStep 20 = .ok (.ifCond .eq 16, 3) := by decide +kernel
theorem dX7_readStep_23 : decode cX7_readStep 23 = .ok (.aload_n 0, 1) := by decide +kernel
theorem dX7_readStep_24 : decode cX7_readStep 24 = .ok (.dup, 1) := by decide +kernel
theorem dX7_readStep_25 : decode cX7_readStep 25 = .ok (.getfield 42, 3) := by decide +kernel
theorem dX7_readStep_28 : decode cX7_readStep 28 = .ok (.iconst 1, 1) := by decide +kernel
theorem dX7_readStep_29 : decode cX7_readStep 29 = .ok (.iadd, 1) := by decide +kernel
theorem dX7_readStep_30 : decode cX7_readStep 30 = .ok (.putfield 42, 3) := by decide +kernel
theorem dX7_readStep_33 : decode cX7_readStep 33 = .ok (.goto 8, 3) := by decide +kernel
theorem dX7_readStep_36 : decode cX7_readStep 36 = .ok (.aload_n 0, 1) := by decide +kernel
theorem dX7_readStep_37 : decode cX7_readStep 37 = .ok (.iconst 1, 1) := by decide +kernel
theorem dX7_readStep_38 : decode cX7_readStep 38 = .ok (.putfield 38, 3) := by decide +kernel
theorem dX7_readStep_41 : decode cX7_readStep 41 = .ok (.iload_n 1, 1) := by decide +kernel
theorem dX7_readStep_42 : decode cX7_readStep 42 = .ok (.ireturn, 1) := by decide +kernel
theorem dX7_add_0 : decode cX7_add 0 = .ok (.aload_n 0, 1) := by decide +kernel
theorem dX7_add_1 : decode cX7_add 1 = .ok (.getfield 14, 3) := by decide +kernel
theorem dX7_add_4 : decode cX7_add 4 = .ok (.aload_n 0, 1) := by decide +kernel
theorem dX7_add_5 : decode cX7_add 5 = .ok (.getfield 20, 3) := by decide +kernel
theorem dX7_add_8 : decode cX7_add 8 = .ok (.iload_n 1, 1) := by decide +kernel
theorem dX7_add_9 : decode cX7_add 9 = .ok (.invokevirtual 24, 3) := by decide +kernel
theorem dX7_add_12 : decode cX7_add 12 = .ok (.aload_n 0, 1) := by decide +kernel
theorem dX7_add_13 : decode cX7_add 13 = .ok (.dup, 1) := by decide +kernel
theorem dX7_add_14 : decode cX7_add 14 = .ok (.getfield 20, 3) := by decide +kernel
theorem dX7_add_17 : decode cX7_add 17 = .ok (.iconst 1, 1) := by decide +kernel
theorem dX7_add_18 : decode cX7_add 18 = .ok (.iadd, 1) := by decide +kernel
theorem dX7_add_19 : decode cX7_add 19 = .ok (.putfield 20, 3) := by decide +kernel
theorem dX7_add_22 : decode cX7_add 22 = .ok (.return_, 1) := by decide +kernel
