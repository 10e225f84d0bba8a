theorem dX9_pitchOn_63 : decode cX9_pitchOn 63 = .ok (.invokestatic 77, 3) := by decide +kernel
theorem dX9_pitchOn_66 : decode cX9_pitchOn 66 = .ok (.ifCond .eq 7, 3) := by decide +kernel
theorem dX9_pitchOn_69 : decode cX9_pitchOn 69 = .ok (.iload_n 1, 1) := by decide +kernel
theorem dX9_pitchOn_70 : decode cX9_pitchOn 70 = .ok (.goto 7, 3) := by decide +kernel
theorem dX9_pitchOn_73 : decode cX9_pitchOn 73 = .ok (.aload_n 0, 1) := by decide +kernel
theorem dX9_pitchOn_74 : decode cX9_pitchOn 74 = .ok (.bipush 7, 2) := by decide +kernel
theorem dX9_pitchOn_76 : decode cX9_pitchOn 76 = .ok (.iaload, 1) := by decide +kernel
theorem dX9_pitchOn_77 : decode cX9_pitchOn 77 = .ok (.invokestatic 91, 3) := by decide +kernel
theorem dX9_pitchOn_80 : decode cX9_pitchOn 80 = .ok (.aload_n 0, 1) := by decide +kernel
theorem dX9_pitchOn_81 : decode cX9_pitchOn 81 = .ok (.aload_n 0, 1) := by decide +kernel
theorem dX9_pitchOn_82 : decode cX9_pitchOn 82 = .ok (.iconst 1, 1) := by decide +kernel
theorem dX9_pitchOn_83 : decode cX9_pitchOn 83 = .ok (.iaload, 1) := by decide +kernel
theorem dX9_pitchOn_84 : decode cX9_pitchOn 84 = .ok (.iconst 1, 1) := by decide +kernel
theorem dX9_pitchOn_85 : decode cX9_pitchOn 85 = .ok (.invokestatic 53, 3) := by decide +kernel
theorem dX9_pitchOn_88 : decode cX9_pitchOn 88 = .ok (.aload_n 0, 1) := by decide +kernel
theorem dX9_pitchOn_89 : decode cX9_pitchOn 89 = .ok (.iload_n 1, 1) := by decide +kernel
theorem dX9_pitchOn_90 : decode cX9_pitchOn 90 = .ok (.invokestatic 77, 3) := by decide +kernel
theorem dX9_pitchOn_93 : decode cX9_pitchOn 93 = .ok (.ifCond .eq 7, 3) := by decide +kernel
theorem dX9_pitchOn_96 : decode cX9_pitchOn 96 = .ok (.iconst 1, 1) := by decide +kernel
theorem dX9_pitchOn_97 : decode cX9_pitchOn 97 = .ok (.goto 4, 3) := by decide +kernel
theorem dX9_pitchOn_100 : decode cX9_pitchOn 100 = .ok (.iconst 0, 1) := by decide +kernel
theorem dX9_pitchOn_101 : decode cX9_pitchOn 101 = .ok (.iastore, 1) := by decide +kernel
theorem dX9_pitchOn_102 : decode cX9_pitchOn 102 = .ok (.aload_n 0, 1) := by decide +kernel
theorem dX9_pitchOn_103 : decode cX9_pitchOn 103 = .ok (.aload_n 0, 1) := by decide +kernel
theorem dX9_pitchOn_104 : decode cX9_pitchOn 104 = .ok (.iconst 1, 1) := by decide +kernel
theorem dX9_pitchOn_105 : decode cX9_pitchOn 105 = .ok (.iaload, 1) := by decide +kernel
theorem dX9_pitchOn_106 : decode cX9_pitchOn 106 = .ok (.iconst 2, 1) := by decide +kernel
theorem dX9_pitchOn_107 : decode cX9_pitchOn 107 = .ok (.invokestatic 53, 3) := by decide +kernel
theorem dX9_pitchOn_110 : decode cX9_pitchOn 110 = .ok (.iload_n 1, 1) := by decide +kernel
theorem dX9_pitchOn_111 : decode cX9_pitchOn 111 = .ok (.iastore, 1) := by decide +kernel
theorem dX9_pitchOn_112 : decode cX9_pitchOn 112 = .ok (.aload_n 0, 1) := by decide +kernel
theorem dX9_pitchOn_113 : decode cX9_pitchOn 113 = .ok (.iconst 1, 1) := by decide +kernel
theorem dX9_pitchOn_114 : decode cX9_pitchOn 114 = .ok (.dup2, 1) := by decide +kernel
theorem dX9_pitchOn_115 : decode cX9_pitchOn 115 = .ok (.iaload, 1) := by decide +kernel
theorem dX9_pitchOn_116 : decode cX9_pitchOn 116 = .ok (.iconst 1, 1) := by decide +kernel
theorem dX9_pitchOn_117 : decode cX9_pitchOn 117 = .ok (.iadd, 1) := by decide +kernel
theorem dX9_pitchOn_118 : decode cX9_pitchOn 118 = .ok (.iastore, 1) := by decide +kernel
theorem dX9_pitchOn_119 : decode cX9_pitchOn 119 = .ok (.aload_n 0, 1) := by decide +kernel
theorem dX9_pitchOn_120 : decode cX9_pitchOn 120 = .ok (.invokestatic 81, 3) := by decide +kernel
theorem dX9_pitchOn_123 : decode cX9_pitchOn 123 = .ok (.istore 4, 2) := by decide +kernel
theorem dX9_pitchOn_125 : decode cX9_pitchOn 125 = .ok (.aload_n 0, 1) := by decide +kernel
theorem dX9_pitchOn_126 : decode cX9_pitchOn 126 = .ok (.iconst 5, 1) := by decide +kernel
theorem dX9_pitchOn_127 : decode cX9_pitchOn 127 = .ok (.iload 4, 2) := by decide +kernel
theorem dX9_pitchOn_129 : decode cX9_pitchOn 129 = .ok (.aload_n 0, 1) := by decide +kernel
theorem dX9_pitchOn_130 : decode cX9_pitchOn 130 = .ok (.iconst 5, 1) := by decide +kernel
theorem dX9_pitchOn_131 : decode cX9_pitchOn 131 = .ok (.iaload, 1) := by decide +kernel
theorem dX9_pitchOn_132 : decode cX9_pitchOn 132 = .ok (.if_icmp .le 8, 3) := by decide +kernel
theorem dX9_pitchOn_135 : decode cX9_pitchOn 135 = .ok (.iload 4, 2) := by decide +kernel
theorem dX9_pitchOn_137 : decode cX9_pitchOn 137 = .ok (.goto 6, 3) := by decide +kernel
theorem dX9_pitchOn_140 : decode cX9_pitchOn 140 = .ok (.aload_n 0, 1) := by decide +kernel
theorem dX9_pitchOn_141 : decode cX9_pitchOn 141 = .ok (.iconst 5, 1) := by decide +kernel
theorem dX9_pitchOn_142 : decode cX9_pitchOn 142 = .ok (.iaload, 1) := by decide +kernel
theorem dX9_pitchOn_143 : decode cX9_pitchOn 143 = .ok (.iastore, 1) := by decide +kernel
theorem dX9_pitchOn_144 : decode cX9_pitchOn 144 = .ok (.iconst 0, 1) := by decide +kernel
theorem dX9_pitchOn_145 : decode cX9_pitchOn 145 = .ok (.ireturn, 1) := by decide +kernel
theorem dX9_takeSpare_0 : decode cX9_takeSpare 0 = .ok (.aload_n 0, 1) := by decide +kernel
theorem dX9_takeSpare_1 : decode cX9_takeSpare 1 = .ok (.iconst 1, 1) := by decide +kernel
theorem dX9_takeSpare_2 : decode cX9_takeSpare 2 = .ok (.iaload, 1) := by decide +kernel
theorem dX9_takeSpare_3 : decode cX9_takeSpare 3 = .ok (.istore_n 2, 1) := by decide +kernel
theorem dX9_takeSpare_4 : decode cX9_takeSpare 4 = .ok (.aload_n 0, 1) := by decide +kernel
theorem dX9_takeSpare_5 : decode cX9_takeSpare 5 = .ok (.iload_n 2, 1) := by decide +kernel
theorem dX9_takeSpare_6 : decode cX9_takeSpare 6 = .ok (.iconst 0, 1) := by decide +kernel
theorem dX9_takeSpare_7 : decode cX9_takeSpare 7 = .ok (.invokestatic 53, 3) := by decide +kernel
theorem dX9_takeSpare_10 : decode cX9_takeSpare 10 = .ok (.aload_n 0, 1) := by decide +kernel
theorem dX9_takeSpare_11 : decode cX9_takeSpare 11 = .ok (.iload_n 1, 1) := by decide +kernel
theorem dX9_takeSpare_12 : decode cX9_takeSpare 12 = .ok (.iconst 0, 1) := by decide +kernel
theorem dX9_takeSpare_13 : decode cX9_takeSpare 13 = .ok (.invokestatic 56, 3) := by decide +kernel
theorem dX9_takeSpare_16 : decode cX9_takeSpare 16 = .ok (.iaload, 1) := by decide +kernel
theorem dX9_takeSpare_17 : decode cX9_takeSpare 17 = .ok (.iastore, 1) := by decide +kernel
theorem dX9_takeSpare_18 : decode cX9_takeSpare 18 = .ok (.aload_n 0, 1) := by decide +kernel
theorem dX9_takeSpare_19 : decode cX9_takeSpare 19 = .ok (.iload_n 2, 1) := by decide +kernel
theorem dX9_takeSpare_20 : decode cX9_takeSpare 20 = .ok (.iconst 3, 1) := by decide +kernel
theorem dX9_takeSpare_21 : decode cX9_takeSpare 21 = .ok (.invokestatic 53, 3) := by decide +kernel
theorem dX9_takeSpare_24 : decode cX9_takeSpare 24 = .ok (.aload_n 0, 1) := by decide +kernel
theorem dX9_takeSpare_25 : decode cX9_takeSpare 25 = .ok (.iload_n 1, 1) := by decide +kernel
theorem dX9_takeSpare_26 : decode cX9_takeSpare 26 = .ok (.iconst 1, 1) := by decide +kernel
theorem dX9_takeSpare_27 : decode cX9_takeSpare 27 = .ok (.invokestatic 56, 3) := by decide +kernel
theorem dX9_takeSpare_30 : decode cX9_takeSpare 30 = .ok (.iaload, 1) := by decide +kernel
theorem dX9_takeSpare_31 : decode cX9_takeSpare 31 = .ok (.iastore, 1) := by decide +kernel
theorem dX9_takeSpare_32 : decode cX9_takeSpare 32 = .ok (.aload_n 0, 1) := by decide +kernel
theorem dX9_takeSpare_33 : decode cX9_takeSpare 33 = .ok (.iload_n 1, 1) := by decide +kernel
theorem dX9_takeSpare_34 : decode cX9_takeSpare 34 = .ok (.iconst 1, 1) := by decide +kernel
theorem dX9_takeSpare_35 : decode cX9_takeSpare 35 = .ok (.iadd, 1) := by decide +kernel
theorem dX9_takeSpare_36 : decode cX9_takeSpare 36 = .ok (.iconst 0, 1) := by decide +kernel
theorem dX9_takeSpare_37 : decode cX9_takeSpare 37 = .ok (.invokestatic 56, 3) := by decide +kernel
theorem dX9_takeSpare_40 : decode cX9_takeSpare 40 = .ok (.aload_n 0, 1) := by decide +kernel
theorem dX9_takeSpare_41 : decode cX9_takeSpare 41 = .ok (.iload_n 1, 1) := by decide +kernel
theorem dX9_takeSpare_42 : decode cX9_takeSpare 42 = .ok (.iconst 0, 1) := by decide +kernel
theorem dX9_takeSpare_43 : decode cX9_takeSpare 43 = .ok (.invokestatic 56, 3) := by decide +kernel
theorem dX9_takeSpare_46 : decode cX9_takeSpare 46 = .ok (.iconst 2, 1) := by decide +kernel
theorem dX9_takeSpare_47 : decode cX9_takeSpare 47 = .ok (.aload_n 0, 1) := by decide +kernel
theorem dX9_takeSpare_48 : decode cX9_takeSpare 48 = .ok (.iconst 2, 1) := by decide +kernel
theorem dX9_takeSpare_49 : decode cX9_takeSpare 49 = .ok (.iaload, 1) := by decide +kernel
theorem dX9_takeSpare_50 : decode cX9_takeSpare 50 = .ok (.iconst 1, 1) := by decide +kernel
theorem dX9_takeSpare_51 : decode cX9_takeSpare 51 = .ok (.isub, 1) := by decide +kernel
theorem dX9_takeSpare_52 : decode cX9_takeSpare 52 = .ok (.iload_n 1, 1) := by decide +kernel
theorem dX9_takeSpare_53 : decode cX9_takeSpare 53 = .ok (.isub, 1) := by decide +kernel
theorem dX9_takeSpare_54 : decode cX9_takeSpare 54 = .ok (.imul, 1) := by decide +kernel
theorem dX9_takeSpare_55 : decode cX9_takeSpare 55 = .ok (.invokestatic 45, 3) := by decide +kernel
theorem dX9_takeSpare_58 : decode cX9_takeSpare 58 = .ok (.aload_n 0, 1) := by decide +kernel
theorem dX9_takeSpare_59 : decode cX9_takeSpare 59 = .ok (.iconst 2, 1) := by decide +kernel
theorem dX9_takeSpare_60 : decode cX9_takeSpare 60 = .ok (.dup2, 1) := by decide +kernel
theorem dX9_takeSpare_61 : decode cX9_takeSpare 61 = .ok (.iaload, 1) := by decide +kernel
theorem dX9_takeSpare_62 : decode cX9_takeSpare 62 = .ok (.iconst 1, 1) := by decide +kernel
theorem dX9_takeSpare_63 : decode cX9_takeSpare 63 = .ok (.isub, 1) := by decide +kernel
theorem dX9_takeSpare_64 : decode cX9_takeSpare 64 = .ok (.iastore, 1) := by decide +kernel
theorem dX9_takeSpare_65 : decode cX9_takeSpare 65 = .ok (.return_, 1) := by decide +kernel
theorem dX9_copy_0 : decode cX9_copy 0 = .ok (.iconst 0, 1) := by decide +kernel
theorem dX9_copy_1 : decode cX9_copy 1 = .ok (.istore 5, 2) := by decide +kernel
theorem dX9_copy_3 : decode cX9_copy 3 = .ok (.iload 5, 2) := by decide +kernel
theorem dX9_copy_5 : decode cX9_copy 5 = .ok (.iload 4, 2) := by decide +kernel
theorem dX9_copy_7 : decode cX9_copy 7 = .ok (.if_icmp .ge 21, 3) := by decide +kernel
theorem dX9_copy_10 : decode cX9_copy 10 = .ok (.aload_n 2, 1) := by decide +kernel
theorem dX9_copy_11 : decode cX9_copy 11 = .ok (.iload_n 3, 1) := by decide +kernel
theorem dX9_copy_12 : decode cX9_copy 12 = .ok (.iload 5, 2) := by decide +kernel
theorem dX9_copy_14 : decode cX9_copy 14 = .ok (.iadd, 1) := by decide +kernel
theorem dX9_copy_15 : decode cX9_copy 15 = .ok (.aload_n 0, 1) := by decide +kernel
theorem dX9_copy_16 : decode cX9_copy 16 = .ok (.iload_n 1, 1) := by decide +kernel
theorem dX9_copy_17 : decode cX9_copy 17 = .ok (.iload 5, 2) := by decide +kernel
theorem dX9_copy_19 : decode cX9_copy 19 = .ok (.iadd, 1) := by decide +kernel
theorem dX9_copy_20 : decode cX9_copy 20 = .ok (.iaload, 1) := by decide +kernel
theorem dX9_copy_21 : decode cX9_copy 21 = .ok (.iastore, 1) := by decide +kernel
theorem dX9_copy_22 : decode cX9_copy 22 = .ok (.iinc 5 1, 3) := by decide +kernel
theorem dX9_copy_25 : decode cX9_copy 25 = .ok (.goto (-22), 3) := by decide +kernel
theorem dX9_copy_28 : decode cX9_copy 28 = .ok (.return_, 1) := by decide +kernel
theorem dX9_makeField_0 : decode cX9_makeField 0 = .ok (.aload_n 0, 1) := by decide +kernel
theorem dX9_makeField_1 : decode cX9_makeField 1 = .ok (.iconst 1, 1) := by decide +kernel
theorem dX9_makeField_2 : decode cX9_makeField 2 = .ok (.iaload, 1) := by decide +kernel
theorem dX9_makeField_3 : decode cX9_makeField 3 = .ok (.istore_n 2, 1) := by decide +kernel
theorem dX9_makeField_4 : decode cX9_makeField 4 = .ok (.aload_n 0, 1) := by decide +kernel
theorem dX9_makeField_5 : decode cX9_makeField 5 = .ok (.invokestatic 81, 3) := by decide +kernel
theorem dX9_makeField_8 : decode cX9_makeField 8 = .ok (.istore_n 3, 1) := by decide +kernel
theorem dX9_makeField_9 : decode cX9_makeField 9 = .ok (.aload_n 0, 1) := by decide +kernel
theorem dX9_makeField_10 : decode cX9_makeField 10 = .ok (.iload_n 2, 1) := by decide +kernel
theorem dX9_makeField_11 : decode cX9_makeField 11 = .ok (.iconst 0, 1) := by decide +kernel
theorem dX9_makeField_12 : decode cX9_makeField 12 = .ok (.invokestatic 53, 3) := by decide +kernel
theorem dX9_makeField_15 : decode cX9_makeField 15 = .ok (.iload_n 1, 1) := by decide +kernel
theorem dX9_makeField_16 : decode cX9_makeField 16 = .ok (.iastore, 1) := by decide +kernel
theorem dX9_makeField_17 : decode cX9_makeField 17 = .ok (.aload_n 0, 1) := by decide +kernel
theorem dX9_makeField_18 : decode cX9_makeField 18 = .ok (.iload_n 2, 1) := by decide +kernel
theorem dX9_makeField_19 : decode cX9_makeField 19 = .ok (.iconst 3, 1) := by decide +kernel
theorem dX9_makeField_20 : decode cX9_makeField 20 = .ok (.invokestatic 53, 3) := by decide +kernel
theorem dX9_makeField_23 : decode cX9_makeField 23 = .ok (.iload_n 3, 1) := by decide +kernel
theorem dX9_makeField_24 : decode cX9_makeField 24 = .ok (.iastore, 1) := by decide +kernel
theorem dX9_makeField_25 : decode cX9_makeField 25 = .ok (.iconst 0, 1) := by decide +kernel
theorem dX9_makeField_26 : decode cX9_makeField 26 = .ok (.istore 4, 2) := by decide +kernel
theorem dX9_makeField_28 : decode cX9_makeField 28 = .ok (.iload 4, 2) := by decide +kernel
theorem dX9_makeField_30 : decode cX9_makeField 30 = .ok (.iload_n 1, 1) := by decide +kernel
theorem dX9_makeField_31 : decode cX9_makeField 31 = .ok (.if_icmp .ge 20, 3) := by decide +kernel
theorem dX9_makeField_34 : decode cX9_makeField 34 = .ok (.aload_n 0, 1) := by decide +kernel
theorem dX9_makeField_35 : decode cX9_makeField 35 = .ok (.sipush 434, 3) := by decide +kernel
theorem dX9_makeField_38 : decode cX9_makeField 38 = .ok (.iload_n 3, 1) := by decide +kernel
theorem dX9_makeField_39 : decode cX9_makeField 39 = .ok (.iadd, 1) := by decide +kernel
theorem dX9_makeField_40 : decode cX9_makeField 40 = .ok (.iload 4, 2) := by decide +kernel
theorem dX9_makeField_42 : decode cX9_makeField 42 = .ok (.iadd, 1) := by decide +kernel
theorem dX9_makeField_43 : decode cX9_makeField 43 = .ok (.iconst 0, 1) := by decide +kernel
theorem dX9_makeField_44 : decode cX9_makeField 44 = .ok (.iastore, 1) := by decide +kernel
theorem dX9_makeField_45 : decode cX9_makeField 45 = .ok (.iinc 4 1, 3) := by decide +kernel
theorem dX9_makeField_48 : decode cX9_makeField 48 = .ok (.goto (-20), 3) := by decide +kernel
theorem dX9_makeField_51 : decode cX9_makeField 51 = .ok (.return_, 1) := by decide +kernel
theorem dX9_tentAt_0 : decode cX9_tentAt 0 = .ok (.bipush 10, 2) := by decide +kernel
theorem dX9_tentAt_2 : decode cX9_tentAt 2 = .ok (.iconst 4, 1) := by decide +kernel
theorem dX9_tentAt_3 : decode cX9_tentAt 3 = .ok (.iload_n 0, 1) := by decide +kernel
theorem dX9_tentAt_4 : decode cX9_tentAt 4 = .ok (.imul, 1) := by decide +kernel
theorem dX9_tentAt_5 : decode cX9_tentAt 5 = .ok (.iadd, 1) := by decide +kernel
theorem dX9_tentAt_6 : decode cX9_tentAt 6 = .ok (.iload_n 1, 1) := by decide +kernel
theorem dX9_tentAt_7 : decode cX9_tentAt 7 = .ok (.iadd, 1) := by decide +kernel
theorem dX9_tentAt_8 : decode cX9_tentAt 8 = .ok (.ireturn, 1) := by decide +kernel
theorem dX9_tentPlaces_0 : decode cX9_tentPlaces 0 = .ok (.iconst 0, 1) := by decide +kernel
theorem dX9_tentPlaces_1 : decode cX9_tentPlaces 1 = .ok (.istore_n 2, 1) := by decide +kernel
theorem dX9_tentPlaces_2 : decode cX9_tentPlaces 2 = .ok (.iload_n 1, 1) := by decide +kernel
theorem dX9_tentPlaces_3 : decode cX9_tentPlaces 3 = .ok (.istore_n 3, 1) := by decide +kernel
theorem dX9_tentPlaces_4 : decode cX9_tentPlaces 4 = .ok (.iload_n 3, 1) := by decide +kernel
theorem dX9_tentPlaces_5 : decode cX9_tentPlaces 5 = .ok (.aload_n 0, 1) := by decide +kernel
theorem dX9_tentPlaces_6 : decode cX9_tentPlaces 6 = .ok (.iconst 0, 1) := by decide +kernel
theorem dX9_tentPlaces_7 : decode cX9_tentPlaces 7 = .ok (.iaload, 1) := by decide +kernel
theorem dX9_tentPlaces_8 : decode cX9_tentPlaces 8 = .ok (.if_icmp .ge 19, 3) := by decide +kernel
theorem dX9_tentPlaces_11 : decode cX9_tentPlaces 11 = .ok (.iload_n 2, 1) := by decide +kernel
theorem dX9_tentPlaces_12 : decode cX9_tentPlaces 12 = .ok (.aload_n 0, 1) := by decide +kernel
theorem dX9_tentPlaces_13 : decode cX9_tentPlaces 13 = .ok (.iload_n 3, 1) := by decide +kernel
theorem dX9_tentPlaces_14 : decode cX9_tentPlaces 14 = .ok (.iconst 2, 1) := by decide +kernel
theorem dX9_tentPlaces_15 : decode cX9_tentPlaces 15 = .ok (.invokestatic 49, 3) := by decide +kernel
theorem dX9_tentPlaces_18 : decode cX9_tentPlaces 18 = .ok (.iaload, 1) := by decide +kernel
theorem dX9_tentPlaces_19 : decode cX9_tentPlaces 19 = .ok (.iadd, 1) := by decide +kernel
theorem dX9_tentPlaces_20 : decode cX9_tentPlaces 20 = .ok (.istore_n 2, 1) := by decide +kernel
theorem dX9_tentPlaces_21 : decode cX9_tentPlaces 21 = .ok (.iinc 3 1, 3) := by decide +kernel
theorem dX9_tentPlaces_24 : decode cX9_tentPlaces 24 = .ok (.goto (-20), 3) := by decide +kernel
theorem dX9_tentPlaces_27 : decode cX9_tentPlaces 27 = .ok (.iload_n 2, 1) := by decide +kernel
theorem dX9_tentPlaces_28 : decode cX9_tentPlaces 28 = .ok (.ireturn, 1) := by decide +kernel
theorem dX9_readFill_0 : decode cX9_readFill 0 = .ok (.aload_n 0, 1) := by decide +kernel
theorem dX9_readFill_1 : decode cX9_readFill 1 = .ok (.iconst 1, 1) := by decide +kernel
theorem dX9_readFill_2 : decode cX9_readFill 2 = .ok (.invokevirtual 141, 3) := by decide +kernel
theorem dX9_readFill_5 : decode cX9_readFill 5 = .ok (.aload_n 0, 1) := by decide +kernel
theorem dX9_readFill_6 : decode cX9_readFill 6 = .ok (.iconst 0, 1) := by decide +kernel
theorem dX9_readFill_7 : decode cX9_readFill 7 = .ok (.bipush 23, 2) := by decide +kernel
theorem dX9_readFill_9 : decode cX9_readFill 9 = .ok (.invokevirtual 151, 3) := by decide +kernel
theorem dX9_readFill_12 : decode cX9_readFill 12 = .ok (.istore_n 1, 1) := by decide +kernel
theorem dX9_readFill_13 : decode cX9_readFill 13 = .ok (.aload_n 0, 1) := by decide +kernel
theorem dX9_readFill_14 : decode cX9_readFill 14 = .ok (.iconst 0, 1) := by decide +kernel
theorem dX9_readFill_15 : decode cX9_readFill 15 = .ok (.bipush 99, 2) := by decide +kernel
theorem dX9_readFill_17 : decode cX9_readFill 17 = .ok (.invokevirtual 151, 3) := by decide +kernel
theorem dX9_readFill_20 : decode cX9_readFill 20 = .ok (.istore_n 2, 1) := by decide +kernel
theorem dX9_readFill_21 : decode cX9_readFill 21 = .ok (.aload_n 0, 1) := by decide +kernel
theorem dX9_readFill_22 : decode cX9_readFill 22 = .ok (.getfield 135, 3) := by decide +kernel
theorem dX9_readFill_25 : decode cX9_readFill 25 = .ok (.ifCond .eq 51, 3) := by decide +kernel
theorem dX9_readFill_28 : decode cX9_readFill 28 = .ok (.iload_n 1, 1) := by decide +kernel
theorem dX9_readFill_29 : decode cX9_readFill 29 = .ok (.aload_n 0, 1) := by decide +kernel
theorem dX9_readFill_30 : decode cX9_readFill 30 = .ok (.getfield 13, 3) := by decide +kernel
theorem dX9_readFill_33 : decode cX9_readFill 33 = .ok (.iconst 0, 1) := by decide +kernel
theorem dX9_readFill_34 : decode cX9_readFill 34 = .ok (.iaload, 1) := by decide +kernel
theorem dX9_readFill_35 : decode cX9_readFill 35 = .ok (.if_icmp .ge 7, 3) := by decide +kernel
theorem dX9_readFill_38 : decode cX9_readFill 38 = .ok (.iconst 1, 1) := by decide +kernel
theorem dX9_readFill_39 : decode cX9_readFill 39 = .ok (.goto 4, 3) := by decide +kernel
theorem dX9_readFill_42 : decode cX9_readFill 42 = .ok (.iconst 0, 1) := by decide +kernel
theorem dX9_readFill_43 : decode cX9_readFill 43 = .ok (.istore_n 3, 1) := by decide +kernel
theorem dX9_readFill_44 : decode cX9_readFill 44 = .ok (.aload_n 0, 1) := by decide +kernel
theorem dX9_readFill_45 : decode cX9_readFill 45 = .ok (.dup, 1) := by decide +kernel
theorem dX9_readFill_46 : decode cX9_readFill 46 = .ok (.getfield 162, 3) := by decide +kernel
theorem dX9_readFill_49 : decode cX9_readFill 49 = .ok (.iload_n 3, 1) := by decide +kernel
theorem dX9_readFill_50 : decode cX9_readFill 50 = .ok (.ifCond .eq 7, 3) := by decide +kernel
theorem dX9_readFill_53 : decode cX9_readFill 53 = .ok (.iconst 0, 1) := by decide +kernel
theorem dX9_readFill_54 : decode cX9_readFill 54 = .ok (.goto 4, 3) := by decide +kernel
theorem dX9_readFill_57 : decode cX9_readFill 57 = .ok (.iconst 1, 1) := by decide +kernel
theorem dX9_readFill_58 : decode cX9_readFill 58 = .ok (.iadd, 1) := by decide +kernel
theorem dX9_readFill_59 : decode cX9_readFill 59 = .ok (.putfield 162, 3) := by decide +kernel
theorem dX9_readFill_62 : decode cX9_readFill 62 = .ok (.iload_n 3, 1) := by decide +kernel
theorem dX9_readFill_63 : decode cX9_readFill 63 = .ok (.ifCond .eq 13, 3) := by decide +kernel
theorem dX9_readFill_66 : decode cX9_readFill 66 = .ok (.aload_n 0, 1) := by decide +kernel
theorem dX9_readFill_67 : decode cX9_readFill 67 = .ok (.getfield 13, 3) := by decide +kernel
theorem dX9_readFill_70 : decode cX9_readFill 70 = .ok (.iload_n 1, 1) := by decide +kernel
theorem dX9_readFill_71 : decode cX9_readFill 71 = .ok (.iload_n 2, 1) := by decide +kernel
theorem dX9_readFill_72 : decode cX9_readFill 72 = .ok (.invokestatic 168, 3) := by decide +kernel
theorem dX9_readFill_75 : decode cX9_readFill 75 = .ok (.pop, 1) := by decide +kernel
theorem dX9_readFill_76 : decode cX9_readFill 76 = .ok (.return_, 1) := by decide +kernel
theorem dX9_fillIn_0 : decode cX9_fillIn 0 = .ok (.sipush 434, 3) := by decide +kernel
theorem dX9_fillIn_3 : decode cX9_fillIn 3 = .ok (.aload_n 0, 1) := by decide +kernel
theorem dX9_fillIn_4 : decode cX9_fillIn 4 = .ok (.aload_n 0, 1) := by decide +kernel
theorem dX9_fillIn_5 : decode cX9_fillIn 5 = .ok (.iload_n 1, 1) := by decide +kernel
theorem dX9_fillIn_6 : decode cX9_fillIn 6 = .ok (.iconst 0, 1) := by decide +kernel
theorem dX9_fillIn_7 : decode cX9_fillIn 7 = .ok (.invokestatic 49, 3) := by decide +kernel
theorem dX9_fillIn_10 : decode cX9_fillIn 10 = .ok (.iaload, 1) := by decide +kernel
theorem dX9_fillIn_11 : decode cX9_fillIn 11 = .ok (.iconst 3, 1) := by decide +kernel
theorem dX9_fillIn_12 : decode cX9_fillIn 12 = .ok (.invokestatic 53, 3) := by decide +kernel
theorem dX9_fillIn_15 : decode cX9_fillIn 15 = .ok (.iaload, 1) := by decide +kernel
theorem dX9_fillIn_16 : decode cX9_fillIn 16 = .ok (.iadd, 1) := by decide +kernel
theorem dX9_fillIn_17 : decode cX9_fillIn 17 = .ok (.aload_n 0, 1) := by decide +kernel
theorem dX9_fillIn_18 : decode cX9_fillIn 18 = .ok (.iload_n 1, 1) := by decide +kernel
theorem dX9_fillIn_19 : decode cX9_fillIn 19 = .ok (.iconst 1, 1) := by decide +kernel
theorem dX9_fillIn_20 : decode cX9_fillIn 20 = .ok (.invokestatic 49, 3) := by decide +kernel
theorem dX9_fillIn_23 : decode cX9_fillIn 23 = .ok (.iaload, 1) := by decide +kernel
theorem dX9_fillIn_24 : decode cX9_fillIn 24 = .ok (.iadd, 1) := by decide +kernel
theorem dX9_fillIn_25 : decode cX9_fillIn 25 = .ok (.istore_n 3, 1) := by decide +kernel
theorem dX9_fillIn_26 : decode cX9_fillIn 26 = .ok (.iconst 0, 1) := by decide +kernel
theorem dX9_fillIn_27 : decode cX9_fillIn 27 = .ok (.istore 4, 2) := by decide +kernel
theorem dX9_fillIn_29 : decode cX9_fillIn 29 = .ok (.iconst 0, 1) := by decide +kernel
theorem dX9_fillIn_30 : decode cX9_fillIn 30 = .ok (.istore 5, 2) := by decide +kernel
theorem dX9_fillIn_32 : decode cX9_fillIn 32 = .ok (.iload 5, 2) := by decide +kernel
theorem dX9_fillIn_34 : decode cX9_fillIn 34 = .ok (.aload_n 0, 1) := by decide +kernel
theorem dX9_fillIn_35 : decode cX9_fillIn 35 = .ok (.iload_n 1, 1) := by decide +kernel
theorem dX9_fillIn_36 : decode cX9_fillIn 36 = .ok (.iconst 2, 1) := by decide +kernel
theorem dX9_fillIn_37 : decode cX9_fillIn 37 = .ok (.invokestatic 49, 3) := by decide +kernel
theorem dX9_fillIn_40 : decode cX9_fillIn 40 = .ok (.iaload, 1) := by decide +kernel
theorem dX9_fillIn_41 : decode cX9_fillIn 41 = .ok (.if_icmp .ge 37, 3) := by decide +kernel
theorem dX9_fillIn_44 : decode cX9_fillIn 44 = .ok (.iload 4, 2) := by decide +kernel
theorem dX9_fillIn_46 : decode cX9_fillIn 46 = .ok (.aload_n 0, 1) := by decide +kernel
theorem dX9_fillIn_47 : decode cX9_fillIn 47 = .ok (.iload_n 3, 1) := by decide +kernel
theorem dX9_fillIn_48 : decode cX9_fillIn 48 = .ok (.iload 5, 2) := by decide +kernel
theorem dX9_fillIn_50 : decode cX9_fillIn 50 = .ok (.iadd, 1) := by decide +kernel
theorem dX9_fillIn_51 : decode cX9_fillIn 51 = .ok (.iaload, 1) := by decide +kernel
theorem dX9_fillIn_52 : decode cX9_fillIn 52 = .ok (.bipush 100, 2) := by decide +kernel
theorem dX9_fillIn_54 : decode cX9_fillIn 54 = .ok (.if_icmp .ne 7, 3) := by decide +kernel
theorem dX9_fillIn_57 : decode cX9_fillIn 57 = .ok (.iconst 1, 1) := by decide +kernel
theorem dX9_fillIn_58 : decode cX9_fillIn 58 = .ok (.goto 4, 3) := by decide +kernel
theorem dX9_fillIn_61 : decode cX9_fillIn 61 = .ok (.iconst 0, 1) := by decide +kernel
theorem dX9_fillIn_62 : decode cX9_fillIn 62 = .ok (.iadd, 1) := by decide +kernel
theorem dX9_fillIn_63 : decode cX9_fillIn 63 = .ok (.istore 4, 2) := by decide +kernel
theorem dX9_fillIn_65 : decode cX9_fillIn 65 = .ok (.aload_n 0, 1) := by decide +kernel
theorem dX9_fillIn_66 : decode cX9_fillIn 66 = .ok (.iload_n 3, 1) := by decide +kernel
theorem dX9_fillIn_67 : decode cX9_fillIn 67 = .ok (.iload 5, 2) := by decide +kernel
theorem dX9_fillIn_69 : decode cX9_fillIn 69 = .ok (.iadd, 1) := by decide +kernel
theorem dX9_fillIn_70 : decode cX9_fillIn 70 = .ok (.iload_n 2, 1) := by decide +kernel
theorem dX9_fillIn_71 : decode cX9_fillIn 71 = .ok (.iastore, 1) := by decide +kernel
theorem dX9_fillIn_72 : decode cX9_fillIn 72 = .ok (.iinc 5 1, 3) := by decide +kernel
theorem dX9_fillIn_75 : decode cX9_fillIn 75 = .ok (.goto (-43), 3) := by decide +kernel
theorem dX9_fillIn_78 : decode cX9_fillIn 78 = .ok (.iload 4, 2) := by decide +kernel
theorem dX9_fillIn_80 : decode cX9_fillIn 80 = .ok (.ireturn, 1) := by decide +kernel
theorem dX9_readFrame_0 : decode cX9_readFrame 0 = .ok (.aload_n 0, 1) := by decide +kernel
theorem dX9_readFrame_1 : decode cX9_readFrame 1 = .ok (.iconst 1, 1) := by decide +kernel
theorem dX9_readFrame_2 : decode cX9_readFrame 2 = .ok (.invokevirtual 141, 3) := by decide +kernel
theorem dX9_readFrame_5 : decode cX9_readFrame 5 = .ok (.iload_n 2, 1) := by decide +kernel
theorem dX9_readFrame_6 : decode cX9_readFrame 6 = .ok (.ifCond .eq 13, 3) := by decide +kernel
theorem dX9_readFrame_9 : decode cX9_readFrame 9 = .ok (.aload_n 0, 1) := by decide +kernel
theorem dX9_readFrame_10 : decode cX9_readFrame 10 = .ok (.iconst 0, 1) := by decide +kernel
theorem dX9_readFrame_11 : decode cX9_readFrame 11 = .ok (.bipush 7, 2) := by decide +kernel
theorem dX9_readFrame_13 : decode cX9_readFrame 13 = .ok (.invokevirtual 145, 3) := by decide +kernel
theorem dX9_readFrame_16 : decode cX9_readFrame 16 = .ok (.goto 4, 3) := by decide +kernel
theorem dX9_readFrame_19 : decode cX9_readFrame 19 = .ok (.iconst 0, 1) := by decide +kernel
theorem dX9_readFrame_20 : decode cX9_readFrame 20 = .ok (.istore_n 3, 1) := by decide +kernel
theorem dX9_readFrame_21 : decode cX9_readFrame 21 = .ok (.aload_n 0, 1) := by decide +kernel
theorem dX9_readFrame_22 : decode cX9_readFrame 22 = .ok (.getfield 135, 3) := by decide +kernel
theorem dX9_readFrame_25 : decode cX9_readFrame 25 = .ok (.ifCond .ne 4, 3) := by decide +kernel
theorem dX9_readFrame_28 : decode cX9_readFrame 28 = .ok (.return_, 1) := by decide +kernel
theorem dX9_readFrame_29 : decode cX9_readFrame 29 = .ok (.iload_n 1, 1) := by decide +kernel
theorem dX9_readFrame_30 : decode cX9_readFrame 30 = .ok (.ifCond .eq 22, 3) := by decide +kernel
theorem dX9_readFrame_33 : decode cX9_readFrame 33 = .ok (.aload_n 0, 1) := by decide +kernel
theorem dX9_readFrame_34 : decode cX9_readFrame 34 = .ok (.getfield 13, 3) := by decide +kernel
theorem dX9_readFrame_37 : decode cX9_readFrame 37 = .ok (.iconst 3, 1) := by decide +kernel
theorem dX9_readFrame_38 : decode cX9_readFrame 38 = .ok (.iaload, 1) := by decide +kernel
theorem dX9_readFrame_39 : decode cX9_readFrame 39 = .ok (.bipush 8, 2) := by decide +kernel
theorem dX9_readFrame_41 : decode cX9_readFrame 41 = .ok (.if_icmp .ge 7, 3) := by decide +kernel
theorem dX9_readFrame_44 : decode cX9_readFrame 44 = .ok (.iconst 1, 1) := by decide +kernel
theorem dX9_readFrame_45 : decode cX9_readFrame 45 = .ok (.goto 43, 3) := by decide +kernel
theorem dX9_readFrame_48 : decode cX9_readFrame 48 = .ok (.iconst 0, 1) := by decide +kernel
theorem dX9_readFrame_49 : decode cX9_readFrame 49 = .ok (.goto 39, 3) := by decide +kernel
theorem dX9_readFrame_52 : decode cX9_readFrame 52 = .ok (.iload_n 2, 1) := by decide +kernel
theorem dX9_readFrame_53 : decode cX9_readFrame 53 = .ok (.ifCond .eq 21, 3) := by decide +kernel
theorem dX9_readFrame_56 : decode cX9_readFrame 56 = .ok (.iload_n 3, 1) := by decide +kernel
theorem dX9_readFrame_57 : decode cX9_readFrame 57 = .ok (.aload_n 0, 1) := by decide +kernel
theorem dX9_readFrame_58 : decode cX9_readFrame 58 = .ok (.getfield 13, 3) := by decide +kernel
theorem dX9_readFrame_61 : decode cX9_readFrame 61 = .ok (.iconst 3, 1) := by decide +kernel
theorem dX9_readFrame_62 : decode cX9_readFrame 62 = .ok (.iaload, 1) := by decide +kernel
theorem dX9_readFrame_63 : decode cX9_readFrame 63 = .ok (.if_icmp .ge 7, 3) := by decide +kernel
theorem dX9_readFrame_66 : decode cX9_readFrame 66 = .ok (.iconst 1, 1) := by decide +kernel
theorem dX9_readFrame_67 : decode cX9_readFrame 67 = .ok (.goto 21, 3) := by decide +kernel
theorem dX9_readFrame_70 : decode cX9_readFrame 70 = .ok (.iconst 0, 1) := by decide +kernel
theorem dX9_readFrame_71 : decode cX9_readFrame 71 = .ok (.goto 17, 3) := by decide +kernel
theorem dX9_readFrame_74 : decode cX9_readFrame 74 = .ok (.aload_n 0, 1) := by decide +kernel
theorem dX9_readFrame_75 : decode cX9_readFrame 75 = .ok (.getfield 13, 3) := by decide +kernel
theorem dX9_readFrame_78 : decode cX9_readFrame 78 = .ok (.iconst 3, 1) := by decide +kernel
theorem dX9_readFrame_79 : decode cX9_readFrame 79 = .ok (.iaload, 1) := by decide +kernel
theorem dX9_readFrame_80 : decode cX9_readFrame 80 = .ok (.ifCond .le 7, 3) := by decide +kernel
theorem dX9_readFrame_83 : decode cX9_readFrame 83 = .ok (.iconst 1, 1) := by decide +kernel
theorem dX9_readFrame_84 : decode cX9_readFrame 84 = .ok (.goto 4, 3) := by decide +kernel
theorem dX9_readFrame_87 : decode cX9_readFrame 87 = .ok (.iconst 0, 1) := by decide +kernel
theorem dX9_readFrame_88 : decode cX9_readFrame 88 = .ok (.istore 4, 2) := by decide +kernel
theorem dX9_readFrame_90 : decode cX9_readFrame 90 = .ok (.aload_n 0, 1) := by decide +kernel
theorem dX9_readFrame_91 : decode cX9_readFrame 91 = .ok (.dup, 1) := by decide +kernel
theorem dX9_readFrame_92 : decode cX9_readFrame 92 = .ok (.getfield 162, 3) := by decide +kernel
theorem dX9_readFrame_95 : decode cX9_readFrame 95 = .ok (.iload 4, 2) := by decide +kernel
theorem dX9_readFrame_97 : decode cX9_readFrame 97 = .ok (.ifCond .eq 7, 3) := by decide +kernel
theorem dX9_readFrame_100 : decode cX9_readFrame 100 = .ok (.iconst 0, 1) := by decide +kernel
theorem dX9_readFrame_101 : decode cX9_readFrame 101 = .ok (.goto 4, 3) := by decide +kernel
theorem dX9_readFrame_104 : decode cX9_readFrame 104 = .ok (.iconst 1, 1) := by decide +kernel
theorem dX9_readFrame_105 : decode cX9_readFrame 105 = .ok (.iadd, 1) := by decide +kernel
theorem dX9_readFrame_106 : decode cX9_readFrame 106 = .ok (.putfield 162, 3) := by decide +kernel
theorem dX9_readFrame_109 : decode cX9_readFrame 109 = .ok (.iload 4, 2) := by decide +kernel
theorem dX9_readFrame_111 : decode cX9_readFrame 111 = .ok (.ifCond .eq 17, 3) := by decide +kernel
theorem dX9_readFrame_114 : decode cX9_readFrame 114 = .ok (.iload_n 1, 1) := by decide +kernel
theorem dX9_readFrame_115 : decode cX9_readFrame 115 = .ok (.ifCond .eq 13, 3) := by decide +kernel
theorem dX9_readFrame_118 : decode cX9_readFrame 118 = .ok (.aload_n 0, 1) := by decide +kernel
theorem dX9_readFrame_119 : decode cX9_readFrame 119 = .ok (.getfield 13, 3) := by decide +kernel
theorem dX9_readFrame_122 : decode cX9_readFrame 122 = .ok (.invokestatic 171, 3) := by decide +kernel
theorem dX9_readFrame_125 : decode cX9_readFrame 125 = .ok (.goto 37, 3) := by decide +kernel
theorem dX9_readFrame_128 : decode cX9_readFrame 128 = .ok (.iload 4, 2) := by decide +kernel
theorem dX9_readFrame_130 : decode cX9_readFrame 130 = .ok (.ifCond .eq 19, 3) := by decide +kernel
theorem dX9_readFrame_133 : decode cX9_readFrame 133 = .ok (.iload_n 2, 1) := by decide +kernel
theorem dX9_readFrame_134 : decode cX9_readFrame 134 = .ok (.ifCond .eq 15, 3) := by decide +kernel
theorem dX9_readFrame_137 : decode cX9_readFrame 137 = .ok (.aload_n 0, 1) := by decide +kernel
theorem dX9_readFrame_138 : decode cX9_readFrame 138 = .ok (.getfield 13, 3) := by decide +kernel
theorem dX9_readFrame_141 : decode cX9_readFrame 141 = .ok (.iload_n 3, 1) := by decide +kernel
theorem dX9_readFrame_142 : decode cX9_readFrame 142 = .ok (.invokestatic 174, 3) := by decide +kernel
theorem dX9_readFrame_145 : decode cX9_readFrame 145 = .ok (.pop, 1) := by decide +kernel
theorem dX9_readFrame_146 : decode cX9_readFrame 146 = .ok (.goto 16, 3) := by decide +kernel
theorem dX9_readFrame_149 : decode cX9_readFrame 149 = .ok (.iload 4, 2) := by decide +kernel
theorem dX9_readFrame_151 : decode cX9_readFrame 151 = .ok (.ifCond .eq 11, 3) := by decide +kernel
theorem dX9_readFrame_154 : decode cX9_readFrame 154 = .ok (.aload_n 0, 1) := by decide +kernel
theorem dX9_readFrame_155 : decode cX9_readFrame 155 = .ok (.getfield 13, 3) := by decide +kernel
theorem dX9_readFrame_158 : decode cX9_readFrame 158 = .ok (.invokestatic 177, 3) := by decide +kernel
theorem dX9_readFrame_161 : decode cX9_readFrame 161 = .ok (.pop, 1) := by decide +kernel
theorem dX9_readFrame_162 : decode cX9_readFrame 162 = .ok (.return_, 1) := by decide +kernel
theorem dX9_enterIn_0 : decode cX9_enterIn 0 = .ok (.aload_n 0, 1) := by decide +kernel
theorem dX9_enterIn_1 : decode cX9_enterIn 1 = .ok (.aload_n 0, 1) := by decide +kernel
theorem dX9_enterIn_2 : decode cX9_enterIn 2 = .ok (.iconst 3, 1) := by decide +kernel
theorem dX9_enterIn_3 : decode cX9_enterIn 3 = .ok (.iaload, 1) := by decide +kernel
theorem dX9_enterIn_4 : decode cX9_enterIn 4 = .ok (.iconst 0, 1) := by decide +kernel
theorem dX9_enterIn_5 : decode cX9_enterIn 5 = .ok (.invokestatic 100, 3) := by decide +kernel
theorem dX9_enterIn_8 : decode cX9_enterIn 8 = .ok (.aload_n 0, 1) := by decide +kernel
theorem dX9_enterIn_9 : decode cX9_enterIn 9 = .ok (.iconst 0, 1) := by decide +kernel
theorem dX9_enterIn_10 : decode cX9_enterIn 10 = .ok (.iaload, 1) := by decide +kernel
theorem dX9_enterIn_11 : decode cX9_enterIn 11 = .ok (.iastore, 1) := by decide +kernel
theorem dX9_enterIn_12 : decode cX9_enterIn 12 = .ok (.aload_n 0, 1) := by decide +kernel
theorem dX9_enterIn_13 : decode cX9_enterIn 13 = .ok (.aload_n 0, 1) := by decide +kernel
theorem dX9_enterIn_14 : decode cX9_enterIn 14 = .ok (.iconst 3, 1) := by decide +kernel
theorem dX9_enterIn_15 : decode cX9_enterIn 15 = .ok (.iaload, 1) := by decide +kernel
theorem dX9_enterIn_16 : decode cX9_enterIn 16 = .ok (.iconst 1, 1) := by decide +kernel
theorem dX9_enterIn_17 : decode cX9_enterIn 17 = .ok (.invokestatic 100, 3) := by decide +kernel
theorem dX9_enterIn_20 : decode cX9_enterIn 20 = .ok (.aload_n 0, 1) := by decide +kernel
theorem dX9_enterIn_21 : decode cX9_enterIn 21 = .ok (.iconst 1, 1) := by decide +kernel
theorem dX9_enterIn_22 : decode cX9_enterIn 22 = .ok (.iaload, 1) := by decide +kernel
theorem dX9_enterIn_23 : decode cX9_enterIn 23 = .ok (.iastore, 1) := by decide +kernel
theorem dX9_enterIn_24 : decode cX9_enterIn 24 = .ok (.aload_n 0, 1) := by decide +kernel
theorem dX9_enterIn_25 : decode cX9_enterIn 25 = .ok (.iconst 3, 1) := by decide +kernel
theorem dX9_enterIn_26 : decode cX9_enterIn 26 = .ok (.dup2, 1) := by decide +kernel
theorem dX9_enterIn_27 : decode cX9_enterIn 27 = .ok (.iaload, 1) := by decide +kernel
theorem dX9_enterIn_28 : decode cX9_enterIn 28 = .ok (.iconst 1, 1) := by decide +kernel
theorem dX9_enterIn_29 : decode cX9_enterIn 29 = .ok (.iadd, 1) := by decide +kernel
theorem dX9_enterIn_30 : decode cX9_enterIn 30 = .ok (.iastore, 1) := by decide +kernel
theorem dX9_enterIn_31 : decode cX9_enterIn 31 = .ok (.return_, 1) := by decide +kernel
theorem dX9_frameAt_0 : decode cX9_frameAt 0 = .ok (.sipush 418, 3) := by decide +kernel
theorem dX9_frameAt_3 : decode cX9_frameAt 3 = .ok (.iconst 2, 1) := by decide +kernel
theorem dX9_frameAt_4 : decode cX9_frameAt 4 = .ok (.iload_n 0, 1) := by decide +kernel
theorem dX9_frameAt_5 : decode cX9_frameAt 5 = .ok (.imul, 1) := by decide +kernel
theorem dX9_frameAt_6 : decode cX9_frameAt 6 = .ok (.iadd, 1) := by decide +kernel
theorem dX9_frameAt_7 : decode cX9_frameAt 7 = .ok (.iload_n 1, 1) := by decide +kernel
theorem dX9_frameAt_8 : decode cX9_frameAt 8 = .ok (.iadd, 1) := by decide +kernel
theorem dX9_frameAt_9 : decode cX9_frameAt 9 = .ok (.ireturn, 1) := by decide +kernel
theorem dX9_jumpIn_0 : decode cX9_jumpIn 0 = .ok (.aload_n 0, 1) := by decide +kernel
theorem dX9_jumpIn_1 : decode cX9_jumpIn 1 = .ok (.iload_n 1, 1) := by decide +kernel
theorem dX9_jumpIn_2 : decode cX9_jumpIn 2 = .ok (.invokestatic 116, 3) := by decide +kernel
theorem dX9_jumpIn_5 : decode cX9_jumpIn 5 = .ok (.istore_n 2, 1) := by decide +kernel
theorem dX9_jumpIn_6 : decode cX9_jumpIn 6 = .ok (.aload_n 0, 1) := by decide +kernel
theorem dX9_jumpIn_7 : decode cX9_jumpIn 7 = .ok (.iconst 3, 1) := by decide +kernel
theorem dX9_jumpIn_8 : decode cX9_jumpIn 8 = .ok (.iload_n 1, 1) := by decide +kernel
theorem dX9_jumpIn_9 : decode cX9_jumpIn 9 = .ok (.iconst 1, 1) := by decide +kernel
theorem dX9_jumpIn_10 : decode cX9_jumpIn 10 = .ok (.iadd, 1) := by decide +kernel
theorem dX9_jumpIn_11 : decode cX9_jumpIn 11 = .ok (.iastore, 1) := by decide +kernel
theorem dX9_jumpIn_12 : decode cX9_jumpIn 12 = .ok (.iload_n 2, 1) := by decide +kernel
theorem dX9_jumpIn_13 : decode cX9_jumpIn 13 = .ok (.ireturn, 1) := by decide +kernel
theorem dX9_strikeBehind_0 : decode cX9_strikeBehind 0 = .ok (.aload_n 0, 1) := by decide +kernel
theorem dX9_strikeBehind_1 : decode cX9_strikeBehind 1 = .ok (.iconst 0, 1) := by decide +kernel
theorem dX9_strikeBehind_2 : decode cX9_strikeBehind 2 = .ok (.iaload, 1) := by decide +kernel
theorem dX9_strikeBehind_3 : decode cX9_strikeBehind 3 = .ok (.aload_n 0, 1) := by decide +kernel
theorem dX9_strikeBehind_4 : decode cX9_strikeBehind 4 = .ok (.iload_n 1, 1) := by decide +kernel
theorem dX9_strikeBehind_5 : decode cX9_strikeBehind 5 = .ok (.iconst 0, 1) := by decide +kernel
theorem dX9_strikeBehind_6 : decode cX9_strikeBehind 6 = .ok (.invokestatic 100, 3) := by decide +kernel
theorem dX9_strikeBehind_9 : decode cX9_strikeBehind 9 = .ok (.iaload, 1) := by decide +kernel
theorem dX9_strikeBehind_10 : decode cX9_strikeBehind 10 = .ok (.isub, 1) := by decide +kernel
theorem dX9_strikeBehind_11 : decode cX9_strikeBehind 11 = .ok (.istore_n 2, 1) := by decide +kernel
theorem dX9_strikeBehind_12 : decode cX9_strikeBehind 12 = .ok (.aload_n 0, 1) := by decide +kernel
theorem dX9_strikeBehind_13 : decode cX9_strikeBehind 13 = .ok (.iconst 0, 1) := by decide +kernel
theorem dX9_strikeBehind_14 : decode cX9_strikeBehind 14 = .ok (.iaload, 1) := by decide +kernel
theorem dX9_strikeBehind_15 : decode cX9_strikeBehind 15 = .ok (.aload_n 0, 1) := by decide +kernel
theorem dX9_strikeBehind_16 : decode cX9_strikeBehind 16 = .ok (.iload_n 1, 1) := by decide +kernel
theorem dX9_strikeBehind_17 : decode cX9_strikeBehind 17 = .ok (.iconst 0, 1) := by decide +kernel
theorem dX9_strikeBehind_18 : decode cX9_strikeBehind 18 = .ok (.invokestatic 100, 3) := by decide +kernel
theorem dX9_strikeBehind_21 : decode cX9_strikeBehind 21 = .ok (.iaload, 1) := by decide +kernel
theorem dX9_strikeBehind_22 : decode cX9_strikeBehind 22 = .ok (.if_icmp .le 10, 3) := by decide +kernel
theorem dX9_strikeBehind_25 : decode cX9_strikeBehind 25 = .ok (.aload_n 0, 1) := by decide +kernel
theorem dX9_strikeBehind_26 : decode cX9_strikeBehind 26 = .ok (.invokestatic 103, 3) := by decide +kernel
theorem dX9_strikeBehind_29 : decode cX9_strikeBehind 29 = .ok (.goto (-17), 3) := by decide +kernel
theorem dX9_strikeBehind_32 : decode cX9_strikeBehind 32 = .ok (.aload_n 0, 1) := by decide +kernel
theorem dX9_strikeBehind_33 : decode cX9_strikeBehind 33 = .ok (.iconst 1, 1) := by decide +kernel
theorem dX9_strikeBehind_34 : decode cX9_strikeBehind 34 = .ok (.iaload, 1) := by decide +kernel
theorem dX9_strikeBehind_35 : decode cX9_strikeBehind 35 = .ok (.aload_n 0, 1) := by decide +kernel
theorem dX9_strikeBehind_36 : decode cX9_strikeBehind 36 = .ok (.iload_n 1, 1) := by decide +kernel
theorem dX9_strikeBehind_37 : decode cX9_strikeBehind 37 = .ok (.iconst 1, 1) := by decide +kernel
theorem dX9_strikeBehind_38 : decode cX9_strikeBehind 38 = .ok (.invokestatic 100, 3) := by decide +kernel
theorem dX9_strikeBehind_41 : decode cX9_strikeBehind 41 = .ok (.iaload, 1) := by decide +kernel
theorem dX9_strikeBehind_42 : decode cX9_strikeBehind 42 = .ok (.if_icmp .le 56, 3) := by decide +kernel
theorem dX9_strikeBehind_45 : decode cX9_strikeBehind 45 = .ok (.aload_n 0, 1) := by decide +kernel
theorem dX9_strikeBehind_46 : decode cX9_strikeBehind 46 = .ok (.iconst 1, 1) := by decide +kernel
theorem dX9_strikeBehind_47 : decode cX9_strikeBehind 47 = .ok (.dup2, 1) := by decide +kernel
theorem dX9_strikeBehind_48 : decode cX9_strikeBehind 48 = .ok (.iaload, 1) := by decide +kernel
theorem dX9_strikeBehind_49 : decode cX9_strikeBehind 49 = .ok (.iconst 1, 1) := by decide +kernel
theorem dX9_strikeBehind_50 : decode cX9_strikeBehind 50 = .ok (.isub, 1) := by decide +kernel
theorem dX9_strikeBehind_51 : decode cX9_strikeBehind 51 = .ok (.iastore, 1) := by decide +kernel
theorem dX9_strikeBehind_52 : decode cX9_strikeBehind 52 = .ok (.aload_n 0, 1) := by decide +kernel
theorem dX9_strikeBehind_53 : decode cX9_strikeBehind 53 = .ok (.aload_n 0, 1) := by decide +kernel
theorem dX9_strikeBehind_54 : decode cX9_strikeBehind 54 = .ok (.iconst 2, 1) := by decide +kernel
theorem dX9_strikeBehind_55 : decode cX9_strikeBehind 55 = .ok (.iaload, 1) := by decide +kernel
theorem dX9_strikeBehind_56 : decode cX9_strikeBehind 56 = .ok (.iconst 0, 1) := by decide +kernel
theorem dX9_strikeBehind_57 : decode cX9_strikeBehind 57 = .ok (.invokestatic 56, 3) := by decide +kernel
theorem dX9_strikeBehind_60 : decode cX9_strikeBehind 60 = .ok (.aload_n 0, 1) := by decide +kernel
theorem dX9_strikeBehind_61 : decode cX9_strikeBehind 61 = .ok (.aload_n 0, 1) := by decide +kernel
theorem dX9_strikeBehind_62 : decode cX9_strikeBehind 62 = .ok (.iconst 1, 1) := by decide +kernel
theorem dX9_strikeBehind_63 : decode cX9_strikeBehind 63 = .ok (.iaload, 1) := by decide +kernel
theorem dX9_strikeBehind_64 : decode cX9_strikeBehind 64 = .ok (.iconst 0, 1) := by decide +kernel
theorem dX9_strikeBehind_65 : decode cX9_strikeBehind 65 = .ok (.invokestatic 53, 3) := by decide +kernel
theorem dX9_strikeBehind_68 : decode cX9_strikeBehind 68 = .ok (.iaload, 1) := by decide +kernel
theorem dX9_strikeBehind_69 : decode cX9_strikeBehind 69 = .ok (.iastore, 1) := by decide +kernel
theorem dX9_strikeBehind_70 : decode cX9_strikeBehind 70 = .ok (.aload_n 0, 1) := by decide +kernel
theorem dX9_strikeBehind_71 : decode cX9_strikeBehind 71 = .ok (.aload_n 0, 1) := by decide +kernel
theorem dX9_strikeBehind_72 : decode cX9_strikeBehind 72 = .ok (.iconst 2, 1) := by decide +kernel
theorem dX9_strikeBehind_73 : decode cX9_strikeBehind 73 = .ok (.iaload, 1) := by decide +kernel
theorem dX9_strikeBehind_74 : decode cX9_strikeBehind 74 = .ok (.iconst 1, 1) := by decide +kernel
theorem dX9_strikeBehind_75 : decode cX9_strikeBehind 75 = .ok (.invokestatic 56, 3) := by decide +kernel
theorem dX9_strikeBehind_78 : decode cX9_strikeBehind 78 = .ok (.aload_n 0, 1) := by decide +kernel
theorem dX9_strikeBehind_79 : decode cX9_strikeBehind 79 = .ok (.aload_n 0, 1) := by decide +kernel
theorem dX9_strikeBehind_80 : decode cX9_strikeBehind 80 = .ok (.iconst 1, 1) := by decide +kernel
theorem dX9_strikeBehind_81 : decode cX9_strikeBehind 81 = .ok (.iaload, 1) := by decide +kernel
theorem dX9_strikeBehind_82 : decode cX9_strikeBehind 82 = .ok (.iconst 3, 1) := by decide +kernel
theorem dX9_strikeBehind_83 : decode cX9_strikeBehind 83 = .ok (.invokestatic 53, 3) := by decide +kernel
theorem dX9_strikeBehind_86 : decode cX9_strikeBehind 86 = .ok (.iaload, 1) := by decide +kernel
theorem dX9_strikeBehind_87 : decode cX9_strikeBehind 87 = .ok (.iastore, 1) := by decide +kernel
theorem dX9_strikeBehind_88 : decode cX9_strikeBehind 88 = .ok (.aload_n 0, 1) := by decide +kernel
theorem dX9_strikeBehind_89 : decode cX9_strikeBehind 89 = .ok (.iconst 2, 1) := by decide +kernel
theorem dX9_strikeBehind_90 : decode cX9_strikeBehind 90 = .ok (.dup2, 1) := by decide +kernel
theorem dX9_strikeBehind_91 : decode cX9_strikeBehind 91 = .ok (.iaload, 1) := by decide +kernel
theorem dX9_strikeBehind_92 : decode cX9_strikeBehind 92 = .ok (.iconst 1, 1) := by decide +kernel
theorem dX9_strikeBehind_93 : decode cX9_strikeBehind 93 = .ok (.iadd, 1) := by decide +kernel
theorem dX9_strikeBehind_94 : decode cX9_strikeBehind 94 = .ok (.iastore, 1) := by decide +kernel
theorem dX9_strikeBehind_95 : decode cX9_strikeBehind 95 = .ok (.goto (-63), 3) := by decide +kernel
theorem dX9_strikeBehind_98 : decode cX9_strikeBehind 98 = .ok (.aload_n 0, 1) := by decide +kernel
theorem dX9_strikeBehind_99 : decode cX9_strikeBehind 99 = .ok (.invokestatic 107, 3) := by decide +kernel
theorem dX9_strikeBehind_102 : decode cX9_strikeBehind 102 = .ok (.aload_n 0, 1) := by decide +kernel
theorem dX9_strikeBehind_103 : decode cX9_strikeBehind 103 = .ok (.invokestatic 63, 3) := by decide +kernel
theorem dX9_strikeBehind_106 : decode cX9_strikeBehind 106 = .ok (.aload_n 0, 1) := by decide +kernel
theorem dX9_strikeBehind_107 : decode cX9_strikeBehind 107 = .ok (.bipush 8, 2) := by decide +kernel
theorem dX9_strikeBehind_109 : decode cX9_strikeBehind 109 = .ok (.iaload, 1) := by decide +kernel
theorem dX9_strikeBehind_110 : decode cX9_strikeBehind 110 = .ok (.if_icmp .le 14, 3) := by decide +kernel
theorem dX9_strikeBehind_113 : decode cX9_strikeBehind 113 = .ok (.aload_n 0, 1) := by decide +kernel
theorem dX9_strikeBehind_114 : decode cX9_strikeBehind 114 = .ok (.aload_n 0, 1) := by decide +kernel
theorem dX9_strikeBehind_115 : decode cX9_strikeBehind 115 = .ok (.invokestatic 110, 3) := by decide +kernel
theorem dX9_strikeBehind_118 : decode cX9_strikeBehind 118 = .ok (.invokestatic 113, 3) := by decide +kernel
theorem dX9_strikeBehind_121 : decode cX9_strikeBehind 121 = .ok (.goto (-19), 3) := by decide +kernel
theorem dX9_strikeBehind_124 : decode cX9_strikeBehind 124 = .ok (.iload_n 2, 1) := by decide +kernel
theorem dX9_strikeBehind_125 : decode cX9_strikeBehind 125 = .ok (.ireturn, 1) := by decide +kernel
theorem dX9_strike_0 : decode cX9_strike 0 = .ok (.aload_n 0, 1) := by decide +kernel
theorem dX9_strike_1 : decode cX9_strike 1 = .ok (.iconst 0, 1) := by decide +kernel
theorem dX9_strike_2 : decode cX9_strike 2 = .ok (.iaload, 1) := by decide +kernel
theorem dX9_strike_3 : decode cX9_strike 3 = .ok (.iconst 1, 1) := by decide +kernel
theorem dX9_strike_4 : decode cX9_strike 4 = .ok (.isub, 1) := by decide +kernel
theorem dX9_strike_5 : decode cX9_strike 5 = .ok (.istore_n 1, 1) := by decide +kernel
theorem dX9_strike_6 : decode cX9_strike 6 = .ok (.aload_n 0, 1) := by decide +kernel
theorem dX9_strike_7 : decode cX9_strike 7 = .ok (.iload_n 1, 1) := by decide +kernel
theorem dX9_strike_8 : decode cX9_strike 8 = .ok (.iconst 0, 1) := by decide +kernel
theorem dX9_strike_9 : decode cX9_strike 9 = .ok (.invokestatic 49, 3) := by decide +kernel
theorem dX9_strike_12 : decode cX9_strike 12 = .ok (.iaload, 1) := by decide +kernel
theorem dX9_strike_13 : decode cX9_strike 13 = .ok (.istore_n 2, 1) := by decide +kernel
theorem dX9_strike_14 : decode cX9_strike 14 = .ok (.sipush 434, 3) := by decide +kernel
theorem dX9_strike_17 : decode cX9_strike 17 = .ok (.aload_n 0, 1) := by decide +kernel
theorem dX9_strike_18 : decode cX9_strike 18 = .ok (.iload_n 2, 1) := by decide +kernel
theorem dX9_strike_19 : decode cX9_strike 19 = .ok (.iconst 3, 1) := by decide +kernel
theorem dX9_strike_20 : decode cX9_strike 20 = .ok (.invokestatic 53, 3) := by decide +kernel
theorem dX9_strike_23 : decode cX9_strike 23 = .ok (.iaload, 1) := by decide +kernel
theorem dX9_strike_24 : decode cX9_strike 24 = .ok (.iadd, 1) := by decide +kernel
theorem dX9_strike_25 : decode cX9_strike 25 = .ok (.aload_n 0, 1) := by decide +kernel
theorem dX9_strike_26 : decode cX9_strike 26 = .ok (.iload_n 1, 1) := by decide +kernel
theorem dX9_strike_27 : decode cX9_strike 27 = .ok (.iconst 1, 1) := by decide +kernel
theorem dX9_strike_28 : decode cX9_strike 28 = .ok (.invokestatic 49, 3) := by decide +kernel
theorem dX9_strike_31 : decode cX9_strike 31 = .ok (.iaload, 1) := by decide +kernel
theorem dX9_strike_32 : decode cX9_strike 32 = .ok (.iadd, 1) := by decide +kernel
theorem dX9_strike_33 : decode cX9_strike 33 = .ok (.istore_n 3, 1) := by decide +kernel
theorem dX9_strike_34 : decode cX9_strike 34 = .ok (.iconst 0, 1) := by decide +kernel
theorem dX9_strike_35 : decode cX9_strike 35 = .ok (.istore 4, 2) := by decide +kernel
theorem dX9_strike_37 : decode cX9_strike 37 = .ok (.iload 4, 2) := by decide +kernel
theorem dX9_strike_39 : decode cX9_strike 39 = .ok (.aload_n 0, 1) := by decide +kernel
theorem dX9_strike_40 : decode cX9_strike 40 = .ok (.iload_n 1, 1) := by decide +kernel
theorem dX9_strike_41 : decode cX9_strike 41 = .ok (.iconst 2, 1) := by decide +kernel
theorem dX9_strike_42 : decode cX9_strike 42 = .ok (.invokestatic 49, 3) := by decide +kernel
theorem dX9_strike_45 : decode cX9_strike 45 = .ok (.iaload, 1) := by decide +kernel
theorem dX9_strike_46 : decode cX9_strike 46 = .ok (.if_icmp .ge 25, 3) := by decide +kernel
theorem dX9_strike_49 : decode cX9_strike 49 = .ok (.aload_n 0, 1) := by decide +kernel
theorem dX9_strike_50 : decode cX9_strike 50 = .ok (.bipush 9, 2) := by decide +kernel
theorem dX9_strike_52 : decode cX9_strike 52 = .ok (.iaload, 1) := by decide +kernel
theorem dX9_strike_53 : decode cX9_strike 53 = .ok (.iconst 1, 1) := by decide +kernel
theorem dX9_strike_54 : decode cX9_strike 54 = .ok (.if_icmp .ne 17, 3) := by decide +kernel
theorem dX9_strike_57 : decode cX9_strike 57 = .ok (.aload_n 0, 1) := by decide +kernel
theorem dX9_strike_58 : decode cX9_strike 58 = .ok (.iload_n 3, 1) := by decide +kernel
theorem dX9_strike_59 : decode cX9_strike 59 = .ok (.iload 4, 2) := by decide +kernel
theorem dX9_strike_61 : decode cX9_strike 61 = .ok (.iadd, 1) := by decide +kernel
theorem dX9_strike_62 : decode cX9_strike 62 = .ok (.bipush 100, 2) := by decide +kernel
theorem dX9_strike_64 : decode cX9_strike 64 = .ok (.iastore, 1) := by decide +kernel
theorem dX9_strike_65 : decode cX9_strike 65 = .ok (.iinc 4 1, 3) := by decide +kernel
theorem dX9_strike_68 : decode cX9_strike 68 = .ok (.goto (-31), 3) := by decide +kernel
theorem dX9_strike_71 : decode cX9_strike 71 = .ok (.aload_n 0, 1) := by decide +kernel
theorem dX9_strike_72 : decode cX9_strike 72 = .ok (.iconst 0, 1) := by decide +kernel
theorem dX9_strike_73 : decode cX9_strike 73 = .ok (.dup2, 1) := by decide +kernel
theorem dX9_strike_74 : decode cX9_strike 74 = .ok (.iaload, 1) := by decide +kernel
theorem dX9_strike_75 : decode cX9_strike 75 = .ok (.iconst 1, 1) := by decide +kernel
theorem dX9_strike_76 : decode cX9_strike 76 = .ok (.isub, 1) := by decide +kernel
theorem dX9_strike_77 : decode cX9_strike 77 = .ok (.iastore, 1) := by decide +kernel
theorem dX9_strike_78 : decode cX9_strike 78 = .ok (.aload_n 0, 1) := by decide +kernel
theorem dX9_strike_79 : decode cX9_strike 79 = .ok (.bipush 6, 2) := by decide +kernel
theorem dX9_strike_81 : decode cX9_strike 81 = .ok (.dup2, 1) := by decide +kernel
theorem dX9_strike_82 : decode cX9_strike 82 = .ok (.iaload, 1) := by decide +kernel
theorem dX9_strike_83 : decode cX9_strike 83 = .ok (.iconst 1, 1) := by decide +kernel
theorem dX9_strike_84 : decode cX9_strike 84 = .ok (.iadd, 1) := by decide +kernel
theorem dX9_strike_85 : decode cX9_strike 85 = .ok (.iastore, 1) := by decide +kernel
theorem dX9_strike_86 : decode cX9_strike 86 = .ok (.return_, 1) := by decide +kernel
theorem dX9_layEnds_0 : decode cX9_layEnds 0 = .ok (.iconst 0, 1) := by decide +kernel
theorem dX9_layEnds_1 : decode cX9_layEnds 1 = .ok (.istore_n 1, 1) := by decide +kernel
theorem dX9_layEnds_2 : decode cX9_layEnds 2 = .ok (.iload_n 1, 1) := by decide +kernel
theorem dX9_layEnds_3 : decode cX9_layEnds 3 = .ok (.aload_n 0, 1) := by decide +kernel
theorem dX9_layEnds_4 : decode cX9_layEnds 4 = .ok (.iconst 1, 1) := by decide +kernel
theorem dX9_layEnds_5 : decode cX9_layEnds 5 = .ok (.iaload, 1) := by decide +kernel
theorem dX9_layEnds_6 : decode cX9_layEnds 6 = .ok (.if_icmp .ge 17, 3) := by decide +kernel
theorem dX9_layEnds_9 : decode cX9_layEnds 9 = .ok (.aload_n 0, 1) := by decide +kernel
theorem dX9_layEnds_10 : decode cX9_layEnds 10 = .ok (.iload_n 1, 1) := by decide +kernel
theorem dX9_layEnds_11 : decode cX9_layEnds 11 = .ok (.iconst 2, 1) := by decide +kernel
theorem dX9_layEnds_12 : decode cX9_layEnds 12 = .ok (.invokestatic 53, 3) := by decide +kernel
theorem dX9_layEnds_15 : decode cX9_layEnds 15 = .ok (.iconst 0, 1) := by decide +kernel
theorem dX9_layEnds_16 : decode cX9_layEnds 16 = .ok (.iastore, 1) := by decide +kernel
theorem dX9_layEnds_17 : decode cX9_layEnds 17 = .ok (.iinc 1 1, 3) := by decide +kernel
theorem dX9_layEnds_20 : decode cX9_layEnds 20 = .ok (.goto (-18), 3) := by decide +kernel
theorem dX9_layEnds_23 : decode cX9_layEnds 23 = .ok (.iconst 0, 1) := by decide +kernel
theorem dX9_layEnds_24 : decode cX9_layEnds 24 = .ok (.istore_n 1, 1) := by decide +kernel
theorem dX9_layEnds_25 : decode cX9_layEnds 25 = .ok (.iload_n 1, 1) := by decide +kernel
theorem dX9_layEnds_26 : decode cX9_layEnds 26 = .ok (.aload_n 0, 1) := by decide +kernel
theorem dX9_layEnds_27 : decode cX9_layEnds 27 = .ok (.iconst 0, 1) := by decide +kernel
theorem dX9_layEnds_28 : decode cX9_layEnds 28 = .ok (.iaload, 1) := by decide +kernel
theorem dX9_layEnds_29 : decode cX9_layEnds 29 = .ok (.if_icmp .ge 37, 3) := by decide +kernel
theorem dX9_layEnds_32 : decode cX9_layEnds 32 = .ok (.aload_n 0, 1) := by decide +kernel
theorem dX9_layEnds_33 : decode cX9_layEnds 33 = .ok (.aload_n 0, 1) := by decide +kernel
theorem dX9_layEnds_34 : decode cX9_layEnds 34 = .ok (.iload_n 1, 1) := by decide +kernel
theorem dX9_layEnds_35 : decode cX9_layEnds 35 = .ok (.iconst 0, 1) := by decide +kernel
theorem dX9_layEnds_36 : decode cX9_layEnds 36 = .ok (.invokestatic 49, 3) := by decide +kernel
theorem dX9_layEnds_39 : decode cX9_layEnds 39 = .ok (.iaload, 1) := by decide +kernel
theorem dX9_layEnds_40 : decode cX9_layEnds 40 = .ok (.iconst 2, 1) := by decide +kernel
theorem dX9_layEnds_41 : decode cX9_layEnds 41 = .ok (.invokestatic 53, 3) := by decide +kernel
theorem dX9_layEnds_44 : decode cX9_layEnds 44 = .ok (.aload_n 0, 1) := by decide +kernel
theorem dX9_layEnds_45 : decode cX9_layEnds 45 = .ok (.iload_n 1, 1) := by decide +kernel
theorem dX9_layEnds_46 : decode cX9_layEnds 46 = .ok (.iconst 1, 1) := by decide +kernel
theorem dX9_layEnds_47 : decode cX9_layEnds 47 = .ok (.invokestatic 49, 3) := by decide +kernel
theorem dX9_layEnds_50 : decode cX9_layEnds 50 = .ok (.iaload, 1) := by decide +kernel
theorem dX9_layEnds_51 : decode cX9_layEnds 51 = .ok (.aload_n 0, 1) := by decide +kernel
theorem dX9_layEnds_52 : decode cX9_layEnds 52 = .ok (.iload_n 1, 1) := by decide +kernel
theorem dX9_layEnds_53 : decode cX9_layEnds 53 = .ok (.iconst 2, 1) := by decide +kernel
theorem dX9_layEnds_54 : decode cX9_layEnds 54 = .ok (.invokestatic 49, 3) := by decide +kernel
theorem dX9_layEnds_57 : decode cX9_layEnds 57 = .ok (.iaload, 1) := by decide +kernel
theorem dX9_layEnds_58 : decode cX9_layEnds 58 = .ok (.iadd, 1) := by decide +kernel
theorem dX9_layEnds_59 : decode cX9_layEnds 59 = .ok (.iastore, 1) := by decide +kernel
theorem dX9_layEnds_60 : decode cX9_layEnds 60 = .ok (.iinc 1 1, 3) := by decide +kernel
theorem dX9_layEnds_63 : decode cX9_layEnds 63 = .ok (.goto (-38), 3) := by decide +kernel
theorem dX9_layEnds_66 : decode cX9_layEnds 66 = .ok (.return_, 1) := by decide +kernel
theorem dX9_greatestSpare_0 : decode cX9_greatestSpare 0 = .ok (.iconst 0, 1) := by decide +kernel
theorem dX9_greatestSpare_1 : decode cX9_greatestSpare 1 = .ok (.istore_n 1, 1) := by decide +kernel
theorem dX9_greatestSpare_2 : decode cX9_greatestSpare 2 = .ok (.iconst 1, 1) := by decide +kernel
theorem dX9_greatestSpare_3 : decode cX9_greatestSpare 3 = .ok (.istore_n 2, 1) := by decide +kernel
theorem dX9_greatestSpare_4 : decode cX9_greatestSpare 4 = .ok (.iload_n 2, 1) := by decide +kernel
theorem dX9_greatestSpare_5 : decode cX9_greatestSpare 5 = .ok (.aload_n 0, 1) := by decide +kernel
theorem dX9_greatestSpare_6 : decode cX9_greatestSpare 6 = .ok (.iconst 2, 1) := by decide +kernel
theorem dX9_greatestSpare_7 : decode cX9_greatestSpare 7 = .ok (.iaload, 1) := by decide +kernel
theorem dX9_greatestSpare_8 : decode cX9_greatestSpare 8 = .ok (.if_icmp .ge 32, 3) := by decide +kernel
theorem dX9_greatestSpare_11 : decode cX9_greatestSpare 11 = .ok (.aload_n 0, 1) := by decide +kernel
theorem dX9_greatestSpare_12 : decode cX9_greatestSpare 12 = .ok (.iload_n 2, 1) := by decide +kernel
theorem dX9_greatestSpare_13 : decode cX9_greatestSpare 13 = .ok (.iconst 0, 1) := by decide +kernel
theorem dX9_greatestSpare_14 : decode cX9_greatestSpare 14 = .ok (.invokestatic 56, 3) := by decide +kernel
theorem dX9_greatestSpare_17 : decode cX9_greatestSpare 17 = .ok (.iaload, 1) := by decide +kernel
theorem dX9_greatestSpare_18 : decode cX9_greatestSpare 18 = .ok (.aload_n 0, 1) := by decide +kernel
theorem dX9_greatestSpare_19 : decode cX9_greatestSpare 19 = .ok (.iload_n 1, 1) := by decide +kernel
theorem dX9_greatestSpare_20 : decode cX9_greatestSpare 20 = .ok (.iconst 0, 1) := by decide +kernel
theorem dX9_greatestSpare_21 : decode cX9_greatestSpare 21 = .ok (.invokestatic 56, 3) := by decide +kernel
theorem dX9_greatestSpare_24 : decode cX9_greatestSpare 24 = .ok (.iaload, 1) := by decide +kernel
theorem dX9_greatestSpare_25 : decode cX9_greatestSpare 25 = .ok (.if_icmp .lt 7, 3) := by decide +kernel
theorem dX9_greatestSpare_28 : decode cX9_greatestSpare 28 = .ok (.iload_n 2, 1) := by decide +kernel
theorem dX9_greatestSpare_29 : decode cX9_greatestSpare 29 = .ok (.goto 4, 3) := by decide +kernel
theorem dX9_greatestSpare_32 : decode cX9_greatestSpare 32 = .ok (.iload_n 1, 1) := by decide +kernel
theorem dX9_greatestSpare_33 : decode cX9_greatestSpare 33 = .ok (.istore_n 1, 1) := by decide +kernel
theorem dX9_greatestSpare_34 : decode cX9_greatestSpare 34 = .ok (.iinc 2 1, 3) := by decide +kernel
theorem dX9_greatestSpare_37 : decode cX9_greatestSpare 37 = .ok (.goto (-33), 3) := by decide +kernel
theorem dX9_greatestSpare_40 : decode cX9_greatestSpare 40 = .ok (.iload_n 1, 1) := by decide +kernel
theorem dX9_greatestSpare_41 : decode cX9_greatestSpare 41 = .ok (.ireturn, 1) := by decide +kernel
theorem dX9_giveUp_0 : decode cX9_giveUp 0 = .ok (.aload_n 0, 1) := by decide +kernel
theorem dX9_giveUp_1 : decode cX9_giveUp 1 = .ok (.iload_n 1, 1) := by decide +kernel
theorem dX9_giveUp_2 : decode cX9_giveUp 2 = .ok (.iconst 0, 1) := by decide +kernel
theorem dX9_giveUp_3 : decode cX9_giveUp 3 = .ok (.invokestatic 56, 3) := by decide +kernel
theorem dX9_giveUp_6 : decode cX9_giveUp 6 = .ok (.iaload, 1) := by decide +kernel
theorem dX9_giveUp_7 : decode cX9_giveUp 7 = .ok (.istore_n 2, 1) := by decide +kernel
theorem dX9_giveUp_8 : decode cX9_giveUp 8 = .ok (.aload_n 0, 1) := by decide +kernel
theorem dX9_giveUp_9 : decode cX9_giveUp 9 = .ok (.iload_n 1, 1) := by decide +kernel
theorem dX9_giveUp_10 : decode cX9_giveUp 10 = .ok (.iconst 1, 1) := by decide +kernel
theorem dX9_giveUp_11 : decode cX9_giveUp 11 = .ok (.invokestatic 56, 3) := by decide +kernel
theorem dX9_giveUp_14 : decode cX9_giveUp 14 = .ok (.iaload, 1) := by decide +kernel
theorem dX9_giveUp_15 : decode cX9_giveUp 15 = .ok (.istore_n 3, 1) := by decide +kernel
theorem dX9_giveUp_16 : decode cX9_giveUp 16 = .ok (.aload_n 0, 1) := by decide +kernel
theorem dX9_giveUp_17 : decode cX9_giveUp 17 = .ok (.invokestatic 81, 3) := by decide +kernel
theorem dX9_giveUp_20 : decode cX9_giveUp 20 = .ok (.istore 4, 2) := by decide +kernel
theorem dX9_giveUp_22 : decode cX9_giveUp 22 = .ok (.aload_n 0, 1) := by decide +kernel
theorem dX9_giveUp_23 : decode cX9_giveUp 23 = .ok (.sipush 434, 3) := by decide +kernel
theorem dX9_giveUp_26 : decode cX9_giveUp 26 = .ok (.iload_n 3, 1) := by decide +kernel
theorem dX9_giveUp_27 : decode cX9_giveUp 27 = .ok (.iadd, 1) := by decide +kernel
theorem dX9_giveUp_28 : decode cX9_giveUp 28 = .ok (.iload_n 2, 1) := by decide +kernel
theorem dX9_giveUp_29 : decode cX9_giveUp 29 = .ok (.iadd, 1) := by decide +kernel
theorem dX9_giveUp_30 : decode cX9_giveUp 30 = .ok (.aload_n 0, 1) := by decide +kernel
theorem dX9_giveUp_31 : decode cX9_giveUp 31 = .ok (.sipush 434, 3) := by decide +kernel
theorem dX9_giveUp_34 : decode cX9_giveUp 34 = .ok (.iload_n 3, 1) := by decide +kernel
theorem dX9_giveUp_35 : decode cX9_giveUp 35 = .ok (.iadd, 1) := by decide +kernel
theorem dX9_giveUp_36 : decode cX9_giveUp 36 = .ok (.iload 4, 2) := by decide +kernel
theorem dX9_giveUp_38 : decode cX9_giveUp 38 = .ok (.iload_n 3, 1) := by decide +kernel
theorem dX9_giveUp_39 : decode cX9_giveUp 39 = .ok (.isub, 1) := by decide +kernel
theorem dX9_giveUp_40 : decode cX9_giveUp 40 = .ok (.iload_n 2, 1) := by decide +kernel
theorem dX9_giveUp_41 : decode cX9_giveUp 41 = .ok (.isub, 1) := by decide +kernel
theorem dX9_giveUp_42 : decode cX9_giveUp 42 = .ok (.invokestatic 45, 3) := by decide +kernel
theorem dX9_giveUp_45 : decode cX9_giveUp 45 = .ok (.aload_n 0, 1) := by decide +kernel
theorem dX9_giveUp_46 : decode cX9_giveUp 46 = .ok (.iload_n 1, 1) := by decide +kernel
theorem dX9_giveUp_47 : decode cX9_giveUp 47 = .ok (.iconst 1, 1) := by decide +kernel
theorem dX9_giveUp_48 : decode cX9_giveUp 48 = .ok (.iadd, 1) := by decide +kernel
theorem dX9_giveUp_49 : decode cX9_giveUp 49 = .ok (.iconst 0, 1) := by decide +kernel
theorem dX9_giveUp_50 : decode cX9_giveUp 50 = .ok (.invokestatic 56, 3) := by decide +kernel
theorem dX9_giveUp_53 : decode cX9_giveUp 53 = .ok (.aload_n 0, 1) := by decide +kernel
theorem dX9_giveUp_54 : decode cX9_giveUp 54 = .ok (.iload_n 1, 1) := by decide +kernel
theorem dX9_giveUp_55 : decode cX9_giveUp 55 = .ok (.iconst 0, 1) := by decide +kernel
theorem dX9_giveUp_56 : decode cX9_giveUp 56 = .ok (.invokestatic 56, 3) := by decide +kernel
theorem dX9_giveUp_59 : decode cX9_giveUp 59 = .ok (.iconst 2, 1) := by decide +kernel
theorem dX9_giveUp_60 : decode cX9_giveUp 60 = .ok (.aload_n 0, 1) := by decide +kernel
theorem dX9_giveUp_61 : decode cX9_giveUp 61 = .ok (.iconst 2, 1) := by decide +kernel
theorem dX9_giveUp_62 : decode cX9_giveUp 62 = .ok (.iaload, 1) := by decide +kernel
theorem dX9_giveUp_63 : decode cX9_giveUp 63 = .ok (.iconst 1, 1) := by decide +kernel
theorem dX9_giveUp_64 : decode cX9_giveUp 64 = .ok (.isub, 1) := by decide +kernel
theorem dX9_giveUp_65 : decode cX9_giveUp 65 = .ok (.iload_n 1, 1) := by decide +kernel
theorem dX9_giveUp_66 : decode cX9_giveUp 66 = .ok (.isub, 1) := by decide +kernel
theorem dX9_giveUp_67 : decode cX9_giveUp 67 = .ok (.imul, 1) := by decide +kernel
theorem dX9_giveUp_68 : decode cX9_giveUp 68 = .ok (.invokestatic 45, 3) := by decide +kernel
theorem dX9_giveUp_71 : decode cX9_giveUp 71 = .ok (.aload_n 0, 1) := by decide +kernel
theorem dX9_giveUp_72 : decode cX9_giveUp 72 = .ok (.iconst 2, 1) := by decide +kernel
theorem dX9_giveUp_73 : decode cX9_giveUp 73 = .ok (.dup2, 1) := by decide +kernel
theorem dX9_giveUp_74 : decode cX9_giveUp 74 = .ok (.iaload, 1) := by decide +kernel
theorem dX9_giveUp_75 : decode cX9_giveUp 75 = .ok (.iconst 1, 1) := by decide +kernel
theorem dX9_giveUp_76 : decode cX9_giveUp 76 = .ok (.isub, 1) := by decide +kernel
theorem dX9_giveUp_77 : decode cX9_giveUp 77 = .ok (.iastore, 1) := by decide +kernel
theorem dX9_giveUp_78 : decode cX9_giveUp 78 = .ok (.iconst 0, 1) := by decide +kernel
theorem dX9_giveUp_79 : decode cX9_giveUp 79 = .ok (.istore 5, 2) := by decide +kernel
theorem dX9_giveUp_81 : decode cX9_giveUp 81 = .ok (.iload 5, 2) := by decide +kernel
theorem dX9_giveUp_83 : decode cX9_giveUp 83 = .ok (.aload_n 0, 1) := by decide +kernel
theorem dX9_giveUp_84 : decode cX9_giveUp 84 = .ok (.iconst 2, 1) := by decide +kernel
theorem dX9_giveUp_85 : decode cX9_giveUp 85 = .ok (.iaload, 1) := by decide +kernel
theorem dX9_giveUp_86 : decode cX9_giveUp 86 = .ok (.if_icmp .ge 37, 3) := by decide +kernel
theorem dX9_giveUp_89 : decode cX9_giveUp 89 = .ok (.aload_n 0, 1) := by decide +kernel
theorem dX9_giveUp_90 : decode cX9_giveUp 90 = .ok (.iload 5, 2) := by decide +kernel
theorem dX9_giveUp_92 : decode cX9_giveUp 92 = .ok (.iconst 1, 1) := by decide +kernel
theorem dX9_giveUp_93 : decode cX9_giveUp 93 = .ok (.invokestatic 56, 3) := by decide +kernel
theorem dX9_giveUp_96 : decode cX9_giveUp 96 = .ok (.dup2, 1) := by decide +kernel
theorem dX9_giveUp_97 : decode cX9_giveUp 97 = .ok (.iaload, 1) := by decide +kernel
theorem dX9_giveUp_98 : decode cX9_giveUp 98 = .ok (.aload_n 0, 1) := by decide +kernel
theorem dX9_giveUp_99 : decode cX9_giveUp 99 = .ok (.iload 5, 2) := by decide +kernel
theorem dX9_giveUp_101 : decode cX9_giveUp 101 = .ok (.iconst 1, 1) := by decide +kernel
theorem dX9_giveUp_102 : decode cX9_giveUp 102 = .ok (.invokestatic 56, 3) := by decide +kernel
theorem dX9_giveUp_105 : decode cX9_giveUp 105 = .ok (.iaload, 1) := by decide +kernel
theorem dX9_giveUp_106 : decode cX9_giveUp 106 = .ok (.iload_n 3, 1) := by decide +kernel
theorem dX9_giveUp_107 : decode cX9_giveUp 107 = .ok (.if_icmp .le 7, 3) := by decide +kernel
theorem dX9_giveUp_110 : decode cX9_giveUp 110 = .ok (.iload_n 2, 1) := by decide +kernel
theorem dX9_giveUp_111 : decode cX9_giveUp 111 = .ok (.goto 4, 3) := by decide +kernel
theorem dX9_giveUp_114 : decode cX9_giveUp 114 = .ok (.iconst 0, 1) := by decide +kernel
theorem dX9_giveUp_115 : decode cX9_giveUp 115 = .ok (.isub, 1) := by decide +kernel
theorem dX9_giveUp_116 : decode cX9_giveUp 116 = .ok (.iastore, 1) := by decide +kernel
theorem dX9_giveUp_117 : decode cX9_giveUp 117 = .ok (.iinc 5 1, 3) := by decide +kernel
theorem dX9_giveUp_120 : decode cX9_giveUp 120 = .ok (.goto (-39), 3) := by decide +kernel
theorem dX9_giveUp_123 : decode cX9_giveUp 123 = .ok (.iconst 0, 1) := by decide +kernel
theorem dX9_giveUp_124 : decode cX9_giveUp 124 = .ok (.istore 5, 2) := by decide +kernel
theorem dX9_giveUp_126 : decode cX9_giveUp 126 = .ok (.iload 5, 2) := by decide +kernel
theorem dX9_giveUp_128 : decode cX9_giveUp 128 = .ok (.aload_n 0, 1) := by decide +kernel
theorem dX9_giveUp_129 : decode cX9_giveUp 129 = .ok (.iconst 1, 1) := by decide +kernel
theorem dX9_giveUp_130 : decode cX9_giveUp 130 = .ok (.iaload, 1) := by decide +kernel
theorem dX9_giveUp_131 : decode cX9_giveUp 131 = .ok (.if_icmp .ge 37, 3) := by decide +kernel
theorem dX9_giveUp_134 : decode cX9_giveUp 134 = .ok (.aload_n 0, 1) := by decide +kernel
theorem dX9_giveUp_135 : decode cX9_giveUp 135 = .ok (.iload 5, 2) := by decide +kernel
theorem dX9_giveUp_137 : decode cX9_giveUp 137 = .ok (.iconst 3, 1) := by decide +kernel
theorem dX9_giveUp_138 : decode cX9_giveUp 138 = .ok (.invokestatic 53, 3) := by decide +kernel
theorem dX9_giveUp_141 : decode cX9_giveUp 141 = .ok (.dup2, 1) := by decide +kernel
theorem dX9_giveUp_142 : decode cX9_giveUp 142 = .ok (.iaload, 1) := by decide +kernel
theorem dX9_giveUp_143 : decode cX9_giveUp 143 = .ok (.aload_n 0, 1) := by decide +kernel
theorem dX9_giveUp_144 : decode cX9_giveUp 144 = .ok (.iload 5, 2) := by decide +kernel
theorem dX9_giveUp_146 : decode cX9_giveUp 146 = .ok (.iconst 3, 1) := by decide +kernel
theorem dX9_giveUp_147 : decode cX9_giveUp 147 = .ok (.invokestatic 53, 3) := by decide +kernel
theorem dX9_giveUp_150 : decode cX9_giveUp 150 = .ok (.iaload, 1) := by decide +kernel
theorem dX9_giveUp_151 : decode cX9_giveUp 151 = .ok (.iload_n 3, 1) := by decide +kernel
theorem dX9_giveUp_152 : decode cX9_giveUp 152 = .ok (.if_icmp .le 7, 3) := by decide +kernel
theorem dX9_giveUp_155 : decode cX9_giveUp 155 = .ok (.iload_n 2, 1) := by decide +kernel
theorem dX9_giveUp_156 : decode cX9_giveUp 156 = .ok (.goto 4, 3) := by decide +kernel
theorem dX9_giveUp_159 : decode cX9_giveUp 159 = .ok (.iconst 0, 1) := by decide +kernel
theorem dX9_giveUp_160 : decode cX9_giveUp 160 = .ok (.isub, 1) := by decide +kernel
theorem dX9_giveUp_161 : decode cX9_giveUp 161 = .ok (.iastore, 1) := by decide +kernel
theorem dX9_giveUp_162 : decode cX9_giveUp 162 = .ok (.iinc 5 1, 3) := by decide +kernel
theorem dX9_giveUp_165 : decode cX9_giveUp 165 = .ok (.goto (-39), 3) := by decide +kernel
theorem dX9_giveUp_168 : decode cX9_giveUp 168 = .ok (.return_, 1) := by decide +kernel
theorem dX9_leaveIn_0 : decode cX9_leaveIn 0 = .ok (.aload_n 0, 1) := by decide +kernel
theorem dX9_leaveIn_1 : decode cX9_leaveIn 1 = .ok (.aload_n 0, 1) := by decide +kernel
theorem dX9_leaveIn_2 : decode cX9_leaveIn 2 = .ok (.iconst 3, 1) := by decide +kernel
theorem dX9_leaveIn_3 : decode cX9_leaveIn 3 = .ok (.iaload, 1) := by decide +kernel
theorem dX9_leaveIn_4 : decode cX9_leaveIn 4 = .ok (.iconst 1, 1) := by decide +kernel
theorem dX9_leaveIn_5 : decode cX9_leaveIn 5 = .ok (.isub, 1) := by decide +kernel
theorem dX9_leaveIn_6 : decode cX9_leaveIn 6 = .ok (.invokestatic 116, 3) := by decide +kernel
theorem dX9_leaveIn_9 : decode cX9_leaveIn 9 = .ok (.istore_n 1, 1) := by decide +kernel
theorem dX9_leaveIn_10 : decode cX9_leaveIn 10 = .ok (.aload_n 0, 1) := by decide +kernel
theorem dX9_leaveIn_11 : decode cX9_leaveIn 11 = .ok (.iconst 3, 1) := by decide +kernel
theorem dX9_leaveIn_12 : decode cX9_leaveIn 12 = .ok (.dup2, 1) := by decide +kernel
theorem dX9_leaveIn_13 : decode cX9_leaveIn 13 = .ok (.iaload, 1) := by decide +kernel
theorem dX9_leaveIn_14 : decode cX9_leaveIn 14 = .ok (.iconst 1, 1) := by decide +kernel
theorem dX9_leaveIn_15 : decode cX9_leaveIn 15 = .ok (.isub, 1) := by decide +kernel
theorem dX9_leaveIn_16 : decode cX9_leaveIn 16 = .ok (.iastore, 1) := by decide +kernel
theorem dX9_leaveIn_17 : decode cX9_leaveIn 17 = .ok (.iload_n 1, 1) := by decide +kernel
theorem dX9_leaveIn_18 : decode cX9_leaveIn 18 = .ok (.ireturn, 1) := by decide +kernel
theorem dX9_load_0 : decode cX9_load 0 = .ok (.aload_n 0, 1) := by decide +kernel
theorem dX9_load_1 : decode cX9_load 1 = .ok (.aload_n 0, 1) := by decide +kernel
theorem dX9_load_2 : decode cX9_load 2 = .ok (.invokevirtual 196, 3) := by decide +kernel
theorem dX9_load_5 : decode cX9_load 5 = .ok (.iconst (-1), 1) := by decide +kernel
theorem dX9_load_6 : decode cX9_load 6 = .ok (.if_icmp .ne 7, 3) := by decide +kernel
theorem dX9_load_9 : decode cX9_load 9 = .ok (.iconst 0, 1) := by decide +kernel
theorem dX9_load_10 : decode cX9_load 10 = .ok (.goto 4, 3) := by decide +kernel
theorem dX9_load_13 : decode cX9_load 13 = .ok (.iconst 1, 1) := by decide +kernel
theorem dX9_load_14 : decode cX9_load 14 = .ok (.invokevirtual 128, 3) := by decide +kernel
theorem dX9_load_17 : decode cX9_load 17 = .ok (.ifCond .eq 5, 3) := by decide +kernel
theorem dX9_load_20 : decode cX9_load 20 = .ok (.iconst 0, 1) := by decide +kernel
theorem dX9_load_21 : decode cX9_load 21 = .ok (.ireturn, 1) := by decide +kernel
theorem dX9_load_22 : decode cX9_load 22 = .ok (.aload_n 0, 1) := by decide +kernel
theorem dX9_load_23 : decode cX9_load 23 = .ok (.getfield 13, 3) := by decide +kernel
theorem dX9_load_26 : decode cX9_load 26 = .ok (.iconst 0, 1) := by decide +kernel
theorem dX9_load_27 : decode cX9_load 27 = .ok (.aload_n 0, 1) := by decide +kernel
theorem dX9_load_28 : decode cX9_load 28 = .ok (.getfield 16, 3) := by decide +kernel
theorem dX9_load_31 : decode cX9_load 31 = .ok (.iconst 0, 1) := by decide +kernel
theorem dX9_load_32 : decode cX9_load 32 = .ok (.sipush 690, 3) := by decide +kernel
theorem dX9_load_35 : decode cX9_load 35 = .ok (.invokestatic 45, 3) := by decide +kernel
theorem dX9_load_38 : decode cX9_load 38 = .ok (.aload_n 0, 1) := by decide +kernel
theorem dX9_load_39 : decode cX9_load 39 = .ok (.iconst 0, 1) := by decide +kernel
theorem dX9_load_40 : decode cX9_load 40 = .ok (.putfield 42, 3) := by decide +kernel
theorem dX9_load_43 : decode cX9_load 43 = .ok (.aload_n 0, 1) := by decide +kernel
theorem dX9_load_44 : decode cX9_load 44 = .ok (.getfield 28, 3) := by decide +kernel
theorem dX9_load_47 : decode cX9_load 47 = .ok (.iconst 0, 1) := by decide +kernel
theorem dX9_load_48 : decode cX9_load 48 = .ok (.iconst 0, 1) := by decide +kernel
