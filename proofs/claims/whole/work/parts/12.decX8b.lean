theorem dX8_givenUp_8 : decode cX8_givenUp 8 = .ok (.invokevirtual 219, 3) := by decide +kernel
theorem dX8_givenUp_11 : decode cX8_givenUp 11 = .ok (.ifCond .ne 13, 3) := by decide +kernel
theorem dX8_givenUp_14 : decode cX8_givenUp 14 = .ok (.new 165, 3) := by decide +kernel
theorem dX8_givenUp_17 : decode cX8_givenUp 17 = .ok (.dup, 1) := by decide +kernel
theorem dX8_givenUp_18 : decode cX8_givenUp 18 = .ok (.ldc 220, 2) := by decide +kernel
theorem dX8_givenUp_20 : decode cX8_givenUp 20 = .ok (.invokespecial 169, 3) := by decide +kernel
theorem dX8_givenUp_23 : decode cX8_givenUp 23 = .ok (.athrow, 1) := by decide +kernel
theorem dX8_givenUp_24 : decode cX8_givenUp 24 = .ok (.aload_n 0, 1) := by decide +kernel
theorem dX8_givenUp_25 : decode cX8_givenUp 25 = .ok (.getfield 16, 3) := by decide +kernel
theorem dX8_givenUp_28 : decode cX8_givenUp 28 = .ok (.aload_n 0, 1) := by decide +kernel
theorem dX8_givenUp_29 : decode cX8_givenUp 29 = .ok (.getfield 10, 3) := by decide +kernel
theorem dX8_givenUp_32 : decode cX8_givenUp 32 = .ok (.invokevirtual 277, 3) := by decide +kernel
theorem dX8_givenUp_35 : decode cX8_givenUp 35 = .ok (.aload_n 0, 1) := by decide +kernel
theorem dX8_givenUp_36 : decode cX8_givenUp 36 = .ok (.getfield 16, 3) := by decide +kernel
theorem dX8_givenUp_39 : decode cX8_givenUp 39 = .ok (.iload_n 1, 1) := by decide +kernel
theorem dX8_givenUp_40 : decode cX8_givenUp 40 = .ok (.invokevirtual 263, 3) := by decide +kernel
theorem dX8_givenUp_43 : decode cX8_givenUp 43 = .ok (.pop, 1) := by decide +kernel
theorem dX8_givenUp_44 : decode cX8_givenUp 44 = .ok (.aload_n 0, 1) := by decide +kernel
theorem dX8_givenUp_45 : decode cX8_givenUp 45 = .ok (.getfield 10, 3) := by decide +kernel
theorem dX8_givenUp_48 : decode cX8_givenUp 48 = .ok (.getfield 280, 3) := by decide +kernel
theorem dX8_givenUp_51 : decode cX8_givenUp 51 = .ok (.aload_n 0, 1) := by decide +kernel
theorem dX8_givenUp_52 : decode cX8_givenUp 52 = .ok (.getfield 16, 3) := by decide +kernel
theorem dX8_givenUp_55 : decode cX8_givenUp 55 = .ok (.getfield 280, 3) := by decide +kernel
theorem dX8_givenUp_58 : decode cX8_givenUp 58 = .ok (.isub, 1) := by decide +kernel
theorem dX8_givenUp_59 : decode cX8_givenUp 59 = .ok (.ireturn, 1) := by decide +kernel
theorem dX8_more_0 : decode cX8_more 0 = .ok (.iload_n 1, 1) := by decide +kernel
theorem dX8_more_1 : decode cX8_more 1 = .ok (.iload_n 2, 1) := by decide +kernel
theorem dX8_more_2 : decode cX8_more 2 = .ok (.invokestatic 229, 3) := by decide +kernel
theorem dX8_more_5 : decode cX8_more 5 = .ok (.ifCond .ne 13, 3) := by decide +kernel
theorem dX8_more_8 : decode cX8_more 8 = .ok (.new 49, 3) := by decide +kernel
theorem dX8_more_11 : decode cX8_more 11 = .ok (.dup, 1) := by decide +kernel
theorem dX8_more_12 : decode cX8_more 12 = .ok (.ldc 233, 2) := by decide +kernel
theorem dX8_more_14 : decode cX8_more 14 = .ok (.invokespecial 53, 3) := by decide +kernel
theorem dX8_more_17 : decode cX8_more 17 = .ok (.athrow, 1) := by decide +kernel
theorem dX8_more_18 : decode cX8_more 18 = .ok (.aload_n 0, 1) := by decide +kernel
theorem dX8_more_19 : decode cX8_more 19 = .ok (.getfield 16, 3) := by decide +kernel
theorem dX8_more_22 : decode cX8_more 22 = .ok (.aload_n 0, 1) := by decide +kernel
theorem dX8_more_23 : decode cX8_more 23 = .ok (.getfield 10, 3) := by decide +kernel
theorem dX8_more_26 : decode cX8_more 26 = .ok (.invokevirtual 277, 3) := by decide +kernel
theorem dX8_more_29 : decode cX8_more 29 = .ok (.iconst 0, 1) := by decide +kernel
theorem dX8_more_30 : decode cX8_more 30 = .ok (.istore_n 3, 1) := by decide +kernel
theorem dX8_more_31 : decode cX8_more 31 = .ok (.iload_n 3, 1) := by decide +kernel
theorem dX8_more_32 : decode cX8_more 32 = .ok (.sipush 256, 3) := by decide +kernel
theorem dX8_more_35 : decode cX8_more 35 = .ok (.if_icmp .ge 22, 3) := by decide +kernel
theorem dX8_more_38 : decode cX8_more 38 = .ok (.aload_n 0, 1) := by decide +kernel
theorem dX8_more_39 : decode cX8_more 39 = .ok (.getfield 16, 3) := by decide +kernel
theorem dX8_more_42 : decode cX8_more 42 = .ok (.iload_n 1, 1) := by decide +kernel
theorem dX8_more_43 : decode cX8_more 43 = .ok (.iload_n 2, 1) := by decide +kernel
theorem dX8_more_44 : decode cX8_more 44 = .ok (.invokevirtual 287, 3) := by decide +kernel
theorem dX8_more_47 : decode cX8_more 47 = .ok (.iconst (-1), 1) := by decide +kernel
theorem dX8_more_48 : decode cX8_more 48 = .ok (.if_icmp .eq 9, 3) := by decide +kernel
theorem dX8_more_51 : decode cX8_more 51 = .ok (.iinc 3 1, 3) := by decide +kernel
theorem dX8_more_54 : decode cX8_more 54 = .ok (.goto (-23), 3) := by decide +kernel
theorem dX8_more_57 : decode cX8_more 57 = .ok (.iload_n 3, 1) := by decide +kernel
theorem dX8_more_58 : decode cX8_more 58 = .ok (.ireturn, 1) := by decide +kernel
theorem dX8_runScript_0 : decode cX8_runScript 0 = .ok (.iload_n 1, 1) := by decide +kernel
theorem dX8_runScript_1 : decode cX8_runScript 1 = .ok (.iconst 1, 1) := by decide +kernel
theorem dX8_runScript_2 : decode cX8_runScript 2 = .ok (.if_icmp .lt 8, 3) := by decide +kernel
theorem dX8_runScript_5 : decode cX8_runScript 5 = .ok (.iload_n 1, 1) := by decide +kernel
theorem dX8_runScript_6 : decode cX8_runScript 6 = .ok (.iconst 3, 1) := by decide +kernel
theorem dX8_runScript_7 : decode cX8_runScript 7 = .ok (.if_icmp .le 14, 3) := by decide +kernel
theorem dX8_runScript_10 : decode cX8_runScript 10 = .ok (.new 49, 3) := by decide +kernel
theorem dX8_runScript_13 : decode cX8_runScript 13 = .ok (.dup, 1) := by decide +kernel
theorem dX8_runScript_14 : decode cX8_runScript 14 = .ok (.ldc_w 290, 3) := by decide +kernel
theorem dX8_runScript_17 : decode cX8_runScript 17 = .ok (.invokespecial 53, 3) := by decide +kernel
theorem dX8_runScript_20 : decode cX8_runScript 20 = .ok (.athrow, 1) := by decide +kernel
theorem dX8_runScript_21 : decode cX8_runScript 21 = .ok (.lconst 1, 1) := by decide +kernel
theorem dX8_runScript_22 : decode cX8_runScript 22 = .ok (.lstore 4, 2) := by decide +kernel
theorem dX8_runScript_24 : decode cX8_runScript 24 = .ok (.iconst 1, 1) := by decide +kernel
theorem dX8_runScript_25 : decode cX8_runScript 25 = .ok (.istore 6, 2) := by decide +kernel
theorem dX8_runScript_27 : decode cX8_runScript 27 = .ok (.iload 6, 2) := by decide +kernel
theorem dX8_runScript_29 : decode cX8_runScript 29 = .ok (.iload_n 1, 1) := by decide +kernel
theorem dX8_runScript_30 : decode cX8_runScript 30 = .ok (.if_icmp .ge 17, 3) := by decide +kernel
theorem dX8_runScript_33 : decode cX8_runScript 33 = .ok (.lload 4, 2) := by decide +kernel
theorem dX8_runScript_35 : decode cX8_runScript 35 = .ok (.ldc2_w 292, 3) := by decide +kernel
theorem dX8_runScript_38 : decode cX8_runScript 38 = .ok (.lmul, 1) := by decide +kernel
theorem dX8_runScript_39 : decode cX8_runScript 39 = .ok (.lstore 4, 2) := by decide +kernel
theorem dX8_runScript_41 : decode cX8_runScript 41 = .ok (.iinc 6 1, 3) := by decide +kernel
theorem dX8_runScript_44 : decode cX8_runScript 44 = .ok (.goto (-17), 3) := by decide +kernel
theorem dX8_runScript_47 : decode cX8_runScript 47 = .ok (.lload_n 2, 1) := by decide +kernel
theorem dX8_runScript_48 : decode cX8_runScript 48 = .ok (.lconst 0, 1) := by decide +kernel
theorem dX8_runScript_49 : decode cX8_runScript 49 = .ok (.lcmp, 1) := by decide +kernel
theorem dX8_runScript_50 : decode cX8_runScript 50 = .ok (.ifCond .lt 14, 3) := by decide +kernel
theorem dX8_runScript_53 : decode cX8_runScript 53 = .ok (.lload_n 2, 1) := by decide +kernel
theorem dX8_runScript_54 : decode cX8_runScript 54 = .ok (.lload 4, 2) := by decide +kernel
theorem dX8_runScript_56 : decode cX8_runScript 56 = .ok (.ldiv, 1) := by decide +kernel
theorem dX8_runScript_57 : decode cX8_runScript 57 = .ok (.ldc2_w 292, 3) := by decide +kernel
theorem dX8_runScript_60 : decode cX8_runScript 60 = .ok (.lcmp, 1) := by decide +kernel
theorem dX8_runScript_61 : decode cX8_runScript 61 = .ok (.ifCond .lt 14, 3) := by decide +kernel
theorem dX8_runScript_64 : decode cX8_runScript 64 = .ok (.new 49, 3) := by decide +kernel
theorem dX8_runScript_67 : decode cX8_runScript 67 = .ok (.dup, 1) := by decide +kernel
theorem dX8_runScript_68 : decode cX8_runScript 68 = .ok (.ldc_w 294, 3) := by decide +kernel
theorem dX8_runScript_71 : decode cX8_runScript 71 = .ok (.invokespecial 53, 3) := by decide +kernel
theorem dX8_runScript_74 : decode cX8_runScript 74 = .ok (.athrow, 1) := by decide +kernel
theorem dX8_runScript_75 : decode cX8_runScript 75 = .ok (.aload_n 0, 1) := by decide +kernel
theorem dX8_runScript_76 : decode cX8_runScript 76 = .ok (.getfield 16, 3) := by decide +kernel
theorem dX8_runScript_79 : decode cX8_runScript 79 = .ok (.aload_n 0, 1) := by decide +kernel
theorem dX8_runScript_80 : decode cX8_runScript 80 = .ok (.getfield 10, 3) := by decide +kernel
theorem dX8_runScript_83 : decode cX8_runScript 83 = .ok (.invokevirtual 277, 3) := by decide +kernel
theorem dX8_runScript_86 : decode cX8_runScript 86 = .ok (.iconst 0, 1) := by decide +kernel
theorem dX8_runScript_87 : decode cX8_runScript 87 = .ok (.istore 6, 2) := by decide +kernel
theorem dX8_runScript_89 : decode cX8_runScript 89 = .ok (.iload 6, 2) := by decide +kernel
theorem dX8_runScript_91 : decode cX8_runScript 91 = .ok (.iload_n 1, 1) := by decide +kernel
theorem dX8_runScript_92 : decode cX8_runScript 92 = .ok (.if_icmp .ge 47, 3) := by decide +kernel
theorem dX8_runScript_95 : decode cX8_runScript 95 = .ok (.lload_n 2, 1) := by decide +kernel
theorem dX8_runScript_96 : decode cX8_runScript 96 = .ok (.lload 4, 2) := by decide +kernel
theorem dX8_runScript_98 : decode cX8_runScript 98 = .ok (.ldiv, 1) := by decide +kernel
theorem dX8_runScript_99 : decode cX8_runScript 99 = .ok (.ldc2_w 292, 3) := by decide +kernel
theorem dX8_runScript_102 : decode cX8_runScript 102 = .ok (.lrem, 1) := by decide +kernel
theorem dX8_runScript_103 : decode cX8_runScript 103 = .ok (.l2i, 1) := by decide +kernel
theorem dX8_runScript_104 : decode cX8_runScript 104 = .ok (.istore 7, 2) := by decide +kernel
theorem dX8_runScript_106 : decode cX8_runScript 106 = .ok (.aload_n 0, 1) := by decide +kernel
theorem dX8_runScript_107 : decode cX8_runScript 107 = .ok (.getfield 16, 3) := by decide +kernel
theorem dX8_runScript_110 : decode cX8_runScript 110 = .ok (.iload 7, 2) := by decide +kernel
theorem dX8_runScript_112 : decode cX8_runScript 112 = .ok (.invokestatic 296, 3) := by decide +kernel
theorem dX8_runScript_115 : decode cX8_runScript 115 = .ok (.ifCond .ne 6, 3) := by decide +kernel
theorem dX8_runScript_118 : decode cX8_runScript 118 = .ok (.iload 6, 2) := by decide +kernel
theorem dX8_runScript_120 : decode cX8_runScript 120 = .ok (.ireturn, 1) := by decide +kernel
theorem dX8_runScript_121 : decode cX8_runScript 121 = .ok (.lload 4, 2) := by decide +kernel
theorem dX8_runScript_123 : decode cX8_runScript 123 = .ok (.ldc2_w 292, 3) := by decide +kernel
theorem dX8_runScript_126 : decode cX8_runScript 126 = .ok (.ldiv, 1) := by decide +kernel
theorem dX8_runScript_127 : decode cX8_runScript 127 = .ok (.lconst 1, 1) := by decide +kernel
theorem dX8_runScript_128 : decode cX8_runScript 128 = .ok (.invokestatic 300, 3) := by decide +kernel
theorem dX8_runScript_131 : decode cX8_runScript 131 = .ok (.lstore 4, 2) := by decide +kernel
theorem dX8_runScript_133 : decode cX8_runScript 133 = .ok (.iinc 6 1, 3) := by decide +kernel
theorem dX8_runScript_136 : decode cX8_runScript 136 = .ok (.goto (-47), 3) := by decide +kernel
theorem dX8_runScript_139 : decode cX8_runScript 139 = .ok (.iconst (-1), 1) := by decide +kernel
theorem dX8_runScript_140 : decode cX8_runScript 140 = .ok (.ireturn, 1) := by decide +kernel
theorem dX8_succeeds_0 : decode cX8_succeeds 0 = .ok (.iload_n 1, 1) := by decide +kernel
theorem dX8_succeeds_1 : decode cX8_succeeds 1 = .ok (.sipush 10000, 3) := by decide +kernel
theorem dX8_succeeds_4 : decode cX8_succeeds 4 = .ok (.irem, 1) := by decide +kernel
theorem dX8_succeeds_5 : decode cX8_succeeds 5 = .ok (.istore_n 2, 1) := by decide +kernel
theorem dX8_succeeds_6 : decode cX8_succeeds 6 = .ok (.iload_n 2, 1) := by decide +kernel
theorem dX8_succeeds_7 : decode cX8_succeeds 7 = .ok (.bipush 100, 2) := by decide +kernel
theorem dX8_succeeds_9 : decode cX8_succeeds 9 = .ok (.idiv, 1) := by decide +kernel
theorem dX8_succeeds_10 : decode cX8_succeeds 10 = .ok (.istore_n 3, 1) := by decide +kernel
theorem dX8_succeeds_11 : decode cX8_succeeds 11 = .ok (.iload_n 2, 1) := by decide +kernel
theorem dX8_succeeds_12 : decode cX8_succeeds 12 = .ok (.bipush 100, 2) := by decide +kernel
theorem dX8_succeeds_14 : decode cX8_succeeds 14 = .ok (.irem, 1) := by decide +kernel
theorem dX8_succeeds_15 : decode cX8_succeeds 15 = .ok (.istore 4, 2) := by decide +kernel
theorem dX8_succeeds_17 : decode cX8_succeeds 17 = .ok (.iload_n 1, 1) := by decide +kernel
theorem dX8_succeeds_18 : decode cX8_succeeds 18 = .ok (.sipush 10000, 3) := by decide +kernel
theorem dX8_succeeds_21 : decode cX8_succeeds 21 = .ok (.idiv, 1) := by decide +kernel
theorem dX8_succeeds_22 : decode cX8_succeeds 22 = .ok (.tableswitch 279 1 9 #[50, 86, 117, 132, 149, 174, 195, 235, 257], 50) := by decide +kernel
theorem dX8_succeeds_72 : decode cX8_succeeds 72 = .ok (.iload_n 2, 1) := by decide +kernel
theorem dX8_succeeds_73 : decode cX8_succeeds 73 = .ok (.bipush 10, 2) := by decide +kernel
theorem dX8_succeeds_75 : decode cX8_succeeds 75 = .ok (.idiv, 1) := by decide +kernel
theorem dX8_succeeds_76 : decode cX8_succeeds 76 = .ok (.iload_n 2, 1) := by decide +kernel
theorem dX8_succeeds_77 : decode cX8_succeeds 77 = .ok (.bipush 10, 2) := by decide +kernel
theorem dX8_succeeds_79 : decode cX8_succeeds 79 = .ok (.irem, 1) := by decide +kernel
theorem dX8_succeeds_80 : decode cX8_succeeds 80 = .ok (.invokestatic 229, 3) := by decide +kernel
theorem dX8_succeeds_83 : decode cX8_succeeds 83 = .ok (.ifCond .eq 23, 3) := by decide +kernel
theorem dX8_succeeds_86 : decode cX8_succeeds 86 = .ok (.aload_n 0, 1) := by decide +kernel
theorem dX8_succeeds_87 : decode cX8_succeeds 87 = .ok (.iload_n 2, 1) := by decide +kernel
theorem dX8_succeeds_88 : decode cX8_succeeds 88 = .ok (.bipush 10, 2) := by decide +kernel
theorem dX8_succeeds_90 : decode cX8_succeeds 90 = .ok (.idiv, 1) := by decide +kernel
theorem dX8_succeeds_91 : decode cX8_succeeds 91 = .ok (.iload_n 2, 1) := by decide +kernel
theorem dX8_succeeds_92 : decode cX8_succeeds 92 = .ok (.bipush 10, 2) := by decide +kernel
theorem dX8_succeeds_94 : decode cX8_succeeds 94 = .ok (.irem, 1) := by decide +kernel
theorem dX8_succeeds_95 : decode cX8_succeeds 95 = .ok (.invokevirtual 245, 3) := by decide +kernel
theorem dX8_succeeds_98 : decode cX8_succeeds 98 = .ok (.iconst (-1), 1) := by decide +kernel
theorem dX8_succeeds_99 : decode cX8_succeeds 99 = .ok (.if_icmp .eq 7, 3) := by decide +kernel
theorem dX8_succeeds_102 : decode cX8_succeeds 102 = .ok (.iconst 1, 1) := by decide +kernel
theorem dX8_succeeds_103 : decode cX8_succeeds 103 = .ok (.goto 4, 3) := by decide +kernel
theorem dX8_succeeds_106 : decode cX8_succeeds 106 = .ok (.iconst 0, 1) := by decide +kernel
theorem dX8_succeeds_107 : decode cX8_succeeds 107 = .ok (.ireturn, 1) := by decide +kernel
theorem dX8_succeeds_108 : decode cX8_succeeds 108 = .ok (.iload_n 2, 1) := by decide +kernel
theorem dX8_succeeds_109 : decode cX8_succeeds 109 = .ok (.ifCond .ne 11, 3) := by decide +kernel
theorem dX8_succeeds_112 : decode cX8_succeeds 112 = .ok (.aload_n 0, 1) := by decide +kernel
theorem dX8_succeeds_113 : decode cX8_succeeds 113 = .ok (.invokevirtual 255, 3) := by decide +kernel
theorem dX8_succeeds_116 : decode cX8_succeeds 116 = .ok (.iconst (-1), 1) := by decide +kernel
theorem dX8_succeeds_117 : decode cX8_succeeds 117 = .ok (.if_icmp .ne 16, 3) := by decide +kernel
theorem dX8_succeeds_120 : decode cX8_succeeds 120 = .ok (.iload_n 2, 1) := by decide +kernel
theorem dX8_succeeds_121 : decode cX8_succeeds 121 = .ok (.iconst 1, 1) := by decide +kernel
theorem dX8_succeeds_122 : decode cX8_succeeds 122 = .ok (.if_icmp .ne 15, 3) := by decide +kernel
theorem dX8_succeeds_125 : decode cX8_succeeds 125 = .ok (.aload_n 0, 1) := by decide +kernel
theorem dX8_succeeds_126 : decode cX8_succeeds 126 = .ok (.invokevirtual 260, 3) := by decide +kernel
theorem dX8_succeeds_129 : decode cX8_succeeds 129 = .ok (.iconst (-1), 1) := by decide +kernel
theorem dX8_succeeds_130 : decode cX8_succeeds 130 = .ok (.if_icmp .eq 7, 3) := by decide +kernel
theorem dX8_succeeds_133 : decode cX8_succeeds 133 = .ok (.iconst 1, 1) := by decide +kernel
theorem dX8_succeeds_134 : decode cX8_succeeds 134 = .ok (.goto 4, 3) := by decide +kernel
theorem dX8_succeeds_137 : decode cX8_succeeds 137 = .ok (.iconst 0, 1) := by decide +kernel
theorem dX8_succeeds_138 : decode cX8_succeeds 138 = .ok (.ireturn, 1) := by decide +kernel
theorem dX8_succeeds_139 : decode cX8_succeeds 139 = .ok (.aload_n 0, 1) := by decide +kernel
theorem dX8_succeeds_140 : decode cX8_succeeds 140 = .ok (.iload_n 2, 1) := by decide +kernel
theorem dX8_succeeds_141 : decode cX8_succeeds 141 = .ok (.invokevirtual 263, 3) := by decide +kernel
theorem dX8_succeeds_144 : decode cX8_succeeds 144 = .ok (.iconst (-1), 1) := by decide +kernel
theorem dX8_succeeds_145 : decode cX8_succeeds 145 = .ok (.if_icmp .eq 7, 3) := by decide +kernel
theorem dX8_succeeds_148 : decode cX8_succeeds 148 = .ok (.iconst 1, 1) := by decide +kernel
theorem dX8_succeeds_149 : decode cX8_succeeds 149 = .ok (.goto 4, 3) := by decide +kernel
theorem dX8_succeeds_152 : decode cX8_succeeds 152 = .ok (.iconst 0, 1) := by decide +kernel
theorem dX8_succeeds_153 : decode cX8_succeeds 153 = .ok (.ireturn, 1) := by decide +kernel
theorem dX8_succeeds_154 : decode cX8_succeeds 154 = .ok (.aload_n 0, 1) := by decide +kernel
theorem dX8_succeeds_155 : decode cX8_succeeds 155 = .ok (.iload_n 3, 1) := by decide +kernel
theorem dX8_succeeds_156 : decode cX8_succeeds 156 = .ok (.iload 4, 2) := by decide +kernel
theorem dX8_succeeds_158 : decode cX8_succeeds 158 = .ok (.invokevirtual 250, 3) := by decide +kernel
theorem dX8_succeeds_161 : decode cX8_succeeds 161 = .ok (.iconst (-1), 1) := by decide +kernel
theorem dX8_succeeds_162 : decode cX8_succeeds 162 = .ok (.if_icmp .eq 7, 3) := by decide +kernel
theorem dX8_succeeds_165 : decode cX8_succeeds 165 = .ok (.iconst 1, 1) := by decide +kernel
theorem dX8_succeeds_166 : decode cX8_succeeds 166 = .ok (.goto 4, 3) := by decide +kernel
theorem dX8_succeeds_169 : decode cX8_succeeds 169 = .ok (.iconst 0, 1) := by decide +kernel
theorem dX8_succeeds_170 : decode cX8_succeeds 170 = .ok (.ireturn, 1) := by decide +kernel
theorem dX8_succeeds_171 : decode cX8_succeeds 171 = .ok (.iload_n 2, 1) := by decide +kernel
theorem dX8_succeeds_172 : decode cX8_succeeds 172 = .ok (.sipush 1000, 3) := by decide +kernel
theorem dX8_succeeds_175 : decode cX8_succeeds 175 = .ok (.if_icmp .ge 19, 3) := by decide +kernel
theorem dX8_succeeds_178 : decode cX8_succeeds 178 = .ok (.aload_n 0, 1) := by decide +kernel
theorem dX8_succeeds_179 : decode cX8_succeeds 179 = .ok (.getfield 105, 3) := by decide +kernel
theorem dX8_succeeds_182 : decode cX8_succeeds 182 = .ok (.iconst 0, 1) := by decide +kernel
theorem dX8_succeeds_183 : decode cX8_succeeds 183 = .ok (.invokevirtual 131, 3) := by decide +kernel
theorem dX8_succeeds_186 : decode cX8_succeeds 186 = .ok (.iload_n 2, 1) := by decide +kernel
theorem dX8_succeeds_187 : decode cX8_succeeds 187 = .ok (.if_icmp .gt 7, 3) := by decide +kernel
theorem dX8_succeeds_190 : decode cX8_succeeds 190 = .ok (.iconst 1, 1) := by decide +kernel
theorem dX8_succeeds_191 : decode cX8_succeeds 191 = .ok (.goto 4, 3) := by decide +kernel
theorem dX8_succeeds_194 : decode cX8_succeeds 194 = .ok (.iconst 0, 1) := by decide +kernel
theorem dX8_succeeds_195 : decode cX8_succeeds 195 = .ok (.ireturn, 1) := by decide +kernel
theorem dX8_succeeds_196 : decode cX8_succeeds 196 = .ok (.iload_n 2, 1) := by decide +kernel
theorem dX8_succeeds_197 : decode cX8_succeeds 197 = .ok (.sipush 1000, 3) := by decide +kernel
theorem dX8_succeeds_200 : decode cX8_succeeds 200 = .ok (.if_icmp .ge 15, 3) := by decide +kernel
theorem dX8_succeeds_203 : decode cX8_succeeds 203 = .ok (.aload_n 0, 1) := by decide +kernel
theorem dX8_succeeds_204 : decode cX8_succeeds 204 = .ok (.invokevirtual 138, 3) := by decide +kernel
theorem dX8_succeeds_207 : decode cX8_succeeds 207 = .ok (.iload_n 2, 1) := by decide +kernel
theorem dX8_succeeds_208 : decode cX8_succeeds 208 = .ok (.if_icmp .gt 7, 3) := by decide +kernel
theorem dX8_succeeds_211 : decode cX8_succeeds 211 = .ok (.iconst 1, 1) := by decide +kernel
theorem dX8_succeeds_212 : decode cX8_succeeds 212 = .ok (.goto 4, 3) := by decide +kernel
theorem dX8_succeeds_215 : decode cX8_succeeds 215 = .ok (.iconst 0, 1) := by decide +kernel
theorem dX8_succeeds_216 : decode cX8_succeeds 216 = .ok (.ireturn, 1) := by decide +kernel
theorem dX8_succeeds_217 : decode cX8_succeeds 217 = .ok (.iload 4, 2) := by decide +kernel
theorem dX8_succeeds_219 : decode cX8_succeeds 219 = .ok (.bipush 10, 2) := by decide +kernel
theorem dX8_succeeds_221 : decode cX8_succeeds 221 = .ok (.if_icmp .ge 34, 3) := by decide +kernel
theorem dX8_succeeds_224 : decode cX8_succeeds 224 = .ok (.aload_n 0, 1) := by decide +kernel
theorem dX8_succeeds_225 : decode cX8_succeeds 225 = .ok (.getfield 105, 3) := by decide +kernel
theorem dX8_succeeds_228 : decode cX8_succeeds 228 = .ok (.iload_n 3, 1) := by decide +kernel
theorem dX8_succeeds_229 : decode cX8_succeeds 229 = .ok (.invokevirtual 161, 3) := by decide +kernel
theorem dX8_succeeds_232 : decode cX8_succeeds 232 = .ok (.ifCond .eq 23, 3) := by decide +kernel
theorem dX8_succeeds_235 : decode cX8_succeeds 235 = .ok (.aload_n 0, 1) := by decide +kernel
theorem dX8_succeeds_236 : decode cX8_succeeds 236 = .ok (.getfield 105, 3) := by decide +kernel
theorem dX8_succeeds_239 : decode cX8_succeeds 239 = .ok (.getfield 170, 3) := by decide +kernel
theorem dX8_succeeds_242 : decode cX8_succeeds 242 = .ok (.iload_n 3, 1) := by decide +kernel
theorem dX8_succeeds_243 : decode cX8_succeeds 243 = .ok (.invokevirtual 173, 3) := by decide +kernel
theorem dX8_succeeds_246 : decode cX8_succeeds 246 = .ok (.iload 4, 2) := by decide +kernel
theorem dX8_succeeds_248 : decode cX8_succeeds 248 = .ok (.if_icmp .ne 7, 3) := by decide +kernel
theorem dX8_succeeds_251 : decode cX8_succeeds 251 = .ok (.iconst 1, 1) := by decide +kernel
theorem dX8_succeeds_252 : decode cX8_succeeds 252 = .ok (.goto 4, 3) := by decide +kernel
theorem dX8_succeeds_255 : decode cX8_succeeds 255 = .ok (.iconst 0, 1) := by decide +kernel
theorem dX8_succeeds_256 : decode cX8_succeeds 256 = .ok (.ireturn, 1) := by decide +kernel
theorem dX8_succeeds_257 : decode cX8_succeeds 257 = .ok (.iload_n 3, 1) := by decide +kernel
theorem dX8_succeeds_258 : decode cX8_succeeds 258 = .ok (.ifCond .ne 19, 3) := by decide +kernel
theorem dX8_succeeds_261 : decode cX8_succeeds 261 = .ok (.aload_n 0, 1) := by decide +kernel
theorem dX8_succeeds_262 : decode cX8_succeeds 262 = .ok (.getfield 121, 3) := by decide +kernel
theorem dX8_succeeds_265 : decode cX8_succeeds 265 = .ok (.getfield 118, 3) := by decide +kernel
theorem dX8_succeeds_268 : decode cX8_succeeds 268 = .ok (.iload 4, 2) := by decide +kernel
theorem dX8_succeeds_270 : decode cX8_succeeds 270 = .ok (.if_icmp .gt 7, 3) := by decide +kernel
theorem dX8_succeeds_273 : decode cX8_succeeds 273 = .ok (.iconst 1, 1) := by decide +kernel
theorem dX8_succeeds_274 : decode cX8_succeeds 274 = .ok (.goto 4, 3) := by decide +kernel
theorem dX8_succeeds_277 : decode cX8_succeeds 277 = .ok (.iconst 0, 1) := by decide +kernel
theorem dX8_succeeds_278 : decode cX8_succeeds 278 = .ok (.ireturn, 1) := by decide +kernel
theorem dX8_succeeds_279 : decode cX8_succeeds 279 = .ok (.iload_n 3, 1) := by decide +kernel
theorem dX8_succeeds_280 : decode cX8_succeeds 280 = .ok (.ifCond .ne 19, 3) := by decide +kernel
theorem dX8_succeeds_283 : decode cX8_succeeds 283 = .ok (.aload_n 0, 1) := by decide +kernel
theorem dX8_succeeds_284 : decode cX8_succeeds 284 = .ok (.getfield 105, 3) := by decide +kernel
theorem dX8_succeeds_287 : decode cX8_succeeds 287 = .ok (.getfield 109, 3) := by decide +kernel
theorem dX8_succeeds_290 : decode cX8_succeeds 290 = .ok (.iload 4, 2) := by decide +kernel
theorem dX8_succeeds_292 : decode cX8_succeeds 292 = .ok (.if_icmp .lt 7, 3) := by decide +kernel
theorem dX8_succeeds_295 : decode cX8_succeeds 295 = .ok (.iconst 1, 1) := by decide +kernel
theorem dX8_succeeds_296 : decode cX8_succeeds 296 = .ok (.goto 4, 3) := by decide +kernel
theorem dX8_succeeds_299 : decode cX8_succeeds 299 = .ok (.iconst 0, 1) := by decide +kernel
theorem dX8_succeeds_300 : decode cX8_succeeds 300 = .ok (.ireturn, 1) := by decide +kernel
theorem dX8_succeeds_301 : decode cX8_succeeds 301 = .ok (.iconst 0, 1) := by decide +kernel
theorem dX8_succeeds_302 : decode cX8_succeeds 302 = .ok (.ireturn, 1) := by decide +kernel
theorem dX8_simulate_0 : decode cX8_simulate 0 = .ok (.iload_n 3, 1) := by decide +kernel
theorem dX8_simulate_1 : decode cX8_simulate 1 = .ok (.iconst 1, 1) := by decide +kernel
theorem dX8_simulate_2 : decode cX8_simulate 2 = .ok (.if_icmp .lt 9, 3) := by decide +kernel
theorem dX8_simulate_5 : decode cX8_simulate 5 = .ok (.iload_n 3, 1) := by decide +kernel
theorem dX8_simulate_6 : decode cX8_simulate 6 = .ok (.bipush 99, 2) := by decide +kernel
theorem dX8_simulate_8 : decode cX8_simulate 8 = .ok (.if_icmp .le 14, 3) := by decide +kernel
theorem dX8_simulate_11 : decode cX8_simulate 11 = .ok (.new 49, 3) := by decide +kernel
theorem dX8_simulate_14 : decode cX8_simulate 14 = .ok (.dup, 1) := by decide +kernel
theorem dX8_simulate_15 : decode cX8_simulate 15 = .ok (.ldc_w 306, 3) := by decide +kernel
theorem dX8_simulate_18 : decode cX8_simulate 18 = .ok (.invokespecial 53, 3) := by decide +kernel
theorem dX8_simulate_21 : decode cX8_simulate 21 = .ok (.athrow, 1) := by decide +kernel
theorem dX8_simulate_22 : decode cX8_simulate 22 = .ok (.aload_n 0, 1) := by decide +kernel
theorem dX8_simulate_23 : decode cX8_simulate 23 = .ok (.getfield 16, 3) := by decide +kernel
theorem dX8_simulate_26 : decode cX8_simulate 26 = .ok (.aload_n 0, 1) := by decide +kernel
theorem dX8_simulate_27 : decode cX8_simulate 27 = .ok (.getfield 10, 3) := by decide +kernel
theorem dX8_simulate_30 : decode cX8_simulate 30 = .ok (.invokevirtual 277, 3) := by decide +kernel
theorem dX8_simulate_33 : decode cX8_simulate 33 = .ok (.lload_n 1, 1) := by decide +kernel
theorem dX8_simulate_34 : decode cX8_simulate 34 = .ok (.lstore 4, 2) := by decide +kernel
theorem dX8_simulate_36 : decode cX8_simulate 36 = .ok (.iconst 0, 1) := by decide +kernel
theorem dX8_simulate_37 : decode cX8_simulate 37 = .ok (.istore 6, 2) := by decide +kernel
theorem dX8_simulate_39 : decode cX8_simulate 39 = .ok (.iload 6, 2) := by decide +kernel
theorem dX8_simulate_41 : decode cX8_simulate 41 = .ok (.iload_n 3, 1) := by decide +kernel
theorem dX8_simulate_42 : decode cX8_simulate 42 = .ok (.if_icmp .ge 34, 3) := by decide +kernel
theorem dX8_simulate_45 : decode cX8_simulate 45 = .ok (.lload 4, 2) := by decide +kernel
theorem dX8_simulate_47 : decode cX8_simulate 47 = .ok (.ldc2_w 308, 3) := by decide +kernel
theorem dX8_simulate_50 : decode cX8_simulate 50 = .ok (.lmul, 1) := by decide +kernel
theorem dX8_simulate_51 : decode cX8_simulate 51 = .ok (.ldc2_w 310, 3) := by decide +kernel
theorem dX8_simulate_54 : decode cX8_simulate 54 = .ok (.ladd, 1) := by decide +kernel
theorem dX8_simulate_55 : decode cX8_simulate 55 = .ok (.lstore 4, 2) := by decide +kernel
theorem dX8_simulate_57 : decode cX8_simulate 57 = .ok (.aload_n 0, 1) := by decide +kernel
theorem dX8_simulate_58 : decode cX8_simulate 58 = .ok (.getfield 16, 3) := by decide +kernel
theorem dX8_simulate_61 : decode cX8_simulate 61 = .ok (.lload 4, 2) := by decide +kernel
theorem dX8_simulate_63 : decode cX8_simulate 63 = .ok (.bipush 33, 2) := by decide +kernel
theorem dX8_simulate_65 : decode cX8_simulate 65 = .ok (.lushr, 1) := by decide +kernel
theorem dX8_simulate_66 : decode cX8_simulate 66 = .ok (.l2i, 1) := by decide +kernel
theorem dX8_simulate_67 : decode cX8_simulate 67 = .ok (.invokestatic 312, 3) := by decide +kernel
theorem dX8_simulate_70 : decode cX8_simulate 70 = .ok (.iinc 6 1, 3) := by decide +kernel
theorem dX8_simulate_73 : decode cX8_simulate 73 = .ok (.goto (-34), 3) := by decide +kernel
theorem dX8_simulate_76 : decode cX8_simulate 76 = .ok (.sipush 1000, 3) := by decide +kernel
theorem dX8_simulate_79 : decode cX8_simulate 79 = .ok (.aload_n 0, 1) := by decide +kernel
theorem dX8_simulate_80 : decode cX8_simulate 80 = .ok (.getfield 16, 3) := by decide +kernel
theorem dX8_simulate_83 : decode cX8_simulate 83 = .ok (.getfield 147, 3) := by decide +kernel
theorem dX8_simulate_86 : decode cX8_simulate 86 = .ok (.aload_n 0, 1) := by decide +kernel
theorem dX8_simulate_87 : decode cX8_simulate 87 = .ok (.getfield 10, 3) := by decide +kernel
theorem dX8_simulate_90 : decode cX8_simulate 90 = .ok (.getfield 147, 3) := by decide +kernel
theorem dX8_simulate_93 : decode cX8_simulate 93 = .ok (.isub, 1) := by decide +kernel
theorem dX8_simulate_94 : decode cX8_simulate 94 = .ok (.imul, 1) := by decide +kernel
theorem dX8_simulate_95 : decode cX8_simulate 95 = .ok (.aload_n 0, 1) := by decide +kernel
theorem dX8_simulate_96 : decode cX8_simulate 96 = .ok (.getfield 16, 3) := by decide +kernel
theorem dX8_simulate_99 : decode cX8_simulate 99 = .ok (.getfield 280, 3) := by decide +kernel
theorem dX8_simulate_102 : decode cX8_simulate 102 = .ok (.iadd, 1) := by decide +kernel
theorem dX8_simulate_103 : decode cX8_simulate 103 = .ok (.ireturn, 1) := by decide +kernel
theorem dX8_stepOnce_0 : decode cX8_stepOnce 0 = .ok (.iload_n 1, 1) := by decide +kernel
theorem dX8_stepOnce_1 : decode cX8_stepOnce 1 = .ok (.bipush 8, 2) := by decide +kernel
theorem dX8_stepOnce_3 : decode cX8_stepOnce 3 = .ok (.irem, 1) := by decide +kernel
theorem dX8_stepOnce_4 : decode cX8_stepOnce 4 = .ok (.tableswitch 63 0 3 #[32, 32, 40, 48], 32) := by decide +kernel
theorem dX8_stepOnce_36 : decode cX8_stepOnce 36 = .ok (.aload_n 0, 1) := by decide +kernel
theorem dX8_stepOnce_37 : decode cX8_stepOnce 37 = .ok (.invokevirtual 255, 3) := by decide +kernel
theorem dX8_stepOnce_40 : decode cX8_stepOnce 40 = .ok (.pop, 1) := by decide +kernel
theorem dX8_stepOnce_41 : decode cX8_stepOnce 41 = .ok (.goto 49, 3) := by decide +kernel
theorem dX8_stepOnce_44 : decode cX8_stepOnce 44 = .ok (.aload_n 0, 1) := by decide +kernel
theorem dX8_stepOnce_45 : decode cX8_stepOnce 45 = .ok (.invokevirtual 260, 3) := by decide +kernel
theorem dX8_stepOnce_48 : decode cX8_stepOnce 48 = .ok (.pop, 1) := by decide +kernel
theorem dX8_stepOnce_49 : decode cX8_stepOnce 49 = .ok (.goto 41, 3) := by decide +kernel
theorem dX8_stepOnce_52 : decode cX8_stepOnce 52 = .ok (.aload_n 0, 1) := by decide +kernel
theorem dX8_stepOnce_53 : decode cX8_stepOnce 53 = .ok (.iload_n 1, 1) := by decide +kernel
theorem dX8_stepOnce_54 : decode cX8_stepOnce 54 = .ok (.bipush 8, 2) := by decide +kernel
theorem dX8_stepOnce_56 : decode cX8_stepOnce 56 = .ok (.idiv, 1) := by decide +kernel
theorem dX8_stepOnce_57 : decode cX8_stepOnce 57 = .ok (.bipush 8, 2) := by decide +kernel
theorem dX8_stepOnce_59 : decode cX8_stepOnce 59 = .ok (.irem, 1) := by decide +kernel
theorem dX8_stepOnce_60 : decode cX8_stepOnce 60 = .ok (.invokevirtual 263, 3) := by decide +kernel
theorem dX8_stepOnce_63 : decode cX8_stepOnce 63 = .ok (.pop, 1) := by decide +kernel
theorem dX8_stepOnce_64 : decode cX8_stepOnce 64 = .ok (.goto 26, 3) := by decide +kernel
theorem dX8_stepOnce_67 : decode cX8_stepOnce 67 = .ok (.aload_n 0, 1) := by decide +kernel
theorem dX8_stepOnce_68 : decode cX8_stepOnce 68 = .ok (.iconst 1, 1) := by decide +kernel
theorem dX8_stepOnce_69 : decode cX8_stepOnce 69 = .ok (.iload_n 1, 1) := by decide +kernel
theorem dX8_stepOnce_70 : decode cX8_stepOnce 70 = .ok (.bipush 8, 2) := by decide +kernel
theorem dX8_stepOnce_72 : decode cX8_stepOnce 72 = .ok (.idiv, 1) := by decide +kernel
theorem dX8_stepOnce_73 : decode cX8_stepOnce 73 = .ok (.bipush 20, 2) := by decide +kernel
theorem dX8_stepOnce_75 : decode cX8_stepOnce 75 = .ok (.irem, 1) := by decide +kernel
theorem dX8_stepOnce_76 : decode cX8_stepOnce 76 = .ok (.iadd, 1) := by decide +kernel
theorem dX8_stepOnce_77 : decode cX8_stepOnce 77 = .ok (.iconst 1, 1) := by decide +kernel
theorem dX8_stepOnce_78 : decode cX8_stepOnce 78 = .ok (.iload_n 1, 1) := by decide +kernel
theorem dX8_stepOnce_79 : decode cX8_stepOnce 79 = .ok (.sipush 256, 3) := by decide +kernel
theorem dX8_stepOnce_82 : decode cX8_stepOnce 82 = .ok (.idiv, 1) := by decide +kernel
theorem dX8_stepOnce_83 : decode cX8_stepOnce 83 = .ok (.iconst 4, 1) := by decide +kernel
theorem dX8_stepOnce_84 : decode cX8_stepOnce 84 = .ok (.irem, 1) := by decide +kernel
theorem dX8_stepOnce_85 : decode cX8_stepOnce 85 = .ok (.ishl, 1) := by decide +kernel
theorem dX8_stepOnce_86 : decode cX8_stepOnce 86 = .ok (.invokevirtual 245, 3) := by decide +kernel
theorem dX8_stepOnce_89 : decode cX8_stepOnce 89 = .ok (.pop, 1) := by decide +kernel
theorem dX8_stepOnce_90 : decode cX8_stepOnce 90 = .ok (.return_, 1) := by decide +kernel
theorem dX8_save_0 : decode cX8_save 0 = .ok (.iload_n 1, 1) := by decide +kernel
theorem dX8_save_1 : decode cX8_save 1 = .ok (.ifCond .lt 8, 3) := by decide +kernel
theorem dX8_save_4 : decode cX8_save 4 = .ok (.iload_n 1, 1) := by decide +kernel
theorem dX8_save_5 : decode cX8_save 5 = .ok (.iconst 2, 1) := by decide +kernel
theorem dX8_save_6 : decode cX8_save 6 = .ok (.if_icmp .lt 14, 3) := by decide +kernel
theorem dX8_save_9 : decode cX8_save 9 = .ok (.new 165, 3) := by decide +kernel
theorem dX8_save_12 : decode cX8_save 12 = .ok (.dup, 1) := by decide +kernel
theorem dX8_save_13 : decode cX8_save 13 = .ok (.ldc_w 316, 3) := by decide +kernel
theorem dX8_save_16 : decode cX8_save 16 = .ok (.invokespecial 169, 3) := by decide +kernel
theorem dX8_save_19 : decode cX8_save 19 = .ok (.athrow, 1) := by decide +kernel
theorem dX8_save_20 : decode cX8_save 20 = .ok (.aload_n 0, 1) := by decide +kernel
theorem dX8_save_21 : decode cX8_save 21 = .ok (.getfield 38, 3) := by decide +kernel
theorem dX8_save_24 : decode cX8_save 24 = .ok (.iload_n 1, 1) := by decide +kernel
theorem dX8_save_25 : decode cX8_save 25 = .ok (.aload_n 0, 1) := by decide +kernel
theorem dX8_save_26 : decode cX8_save 26 = .ok (.getfield 10, 3) := by decide +kernel
theorem dX8_save_29 : decode cX8_save 29 = .ok (.invokevirtual 318, 3) := by decide +kernel
theorem dX8_save_32 : decode cX8_save 32 = .ok (.aload_n 0, 1) := by decide +kernel
theorem dX8_save_33 : decode cX8_save 33 = .ok (.getfield 45, 3) := by decide +kernel
theorem dX8_save_36 : decode cX8_save 36 = .ok (.iload_n 1, 1) := by decide +kernel
theorem dX8_save_37 : decode cX8_save 37 = .ok (.iconst 1, 1) := by decide +kernel
theorem dX8_save_38 : decode cX8_save 38 = .ok (.invokevirtual 322, 3) := by decide +kernel
theorem dX8_save_41 : decode cX8_save 41 = .ok (.aload_n 0, 1) := by decide +kernel
theorem dX8_save_42 : decode cX8_save 42 = .ok (.getfield 10, 3) := by decide +kernel
theorem dX8_save_45 : decode cX8_save 45 = .ok (.getfield 105, 3) := by decide +kernel
theorem dX8_save_48 : decode cX8_save 48 = .ok (.getfield 109, 3) := by decide +kernel
theorem dX8_save_51 : decode cX8_save 51 = .ok (.ireturn, 1) := by decide +kernel
theorem dX8_restore_0 : decode cX8_restore 0 = .ok (.iload_n 1, 1) := by decide +kernel
theorem dX8_restore_1 : decode cX8_restore 1 = .ok (.ifCond .lt 8, 3) := by decide +kernel
theorem dX8_restore_4 : decode cX8_restore 4 = .ok (.iload_n 1, 1) := by decide +kernel
theorem dX8_restore_5 : decode cX8_restore 5 = .ok (.iconst 2, 1) := by decide +kernel
theorem dX8_restore_6 : decode cX8_restore 6 = .ok (.if_icmp .lt 14, 3) := by decide +kernel
theorem dX8_restore_9 : decode cX8_restore 9 = .ok (.new 165, 3) := by decide +kernel
theorem dX8_restore_12 : decode cX8_restore 12 = .ok (.dup, 1) := by decide +kernel
theorem dX8_restore_13 : decode cX8_restore 13 = .ok (.ldc_w 316, 3) := by decide +kernel
theorem dX8_restore_16 : decode cX8_restore 16 = .ok (.invokespecial 169, 3) := by decide +kernel
theorem dX8_restore_19 : decode cX8_restore 19 = .ok (.athrow, 1) := by decide +kernel
theorem dX8_restore_20 : decode cX8_restore 20 = .ok (.aload_n 0, 1) := by decide +kernel
theorem dX8_restore_21 : decode cX8_restore 21 = .ok (.getfield 45, 3) := by decide +kernel
theorem dX8_restore_24 : decode cX8_restore 24 = .ok (.iload_n 1, 1) := by decide +kernel
theorem dX8_restore_25 : decode cX8_restore 25 = .ok (.invokevirtual 173, 3) := by decide +kernel
theorem dX8_restore_28 : decode cX8_restore 28 = .ok (.ifCond .ne 14, 3) := by decide +kernel
theorem dX8_restore_31 : decode cX8_restore 31 = .ok (.new 60, 3) := by decide +kernel
theorem dX8_restore_34 : decode cX8_restore 34 = .ok (.dup, 1) := by decide +kernel
theorem dX8_restore_35 : decode cX8_restore 35 = .ok (.ldc_w 325, 3) := by decide +kernel
theorem dX8_restore_38 : decode cX8_restore 38 = .ok (.invokespecial 64, 3) := by decide +kernel
theorem dX8_restore_41 : decode cX8_restore 41 = .ok (.athrow, 1) := by decide +kernel
theorem dX8_restore_42 : decode cX8_restore 42 = .ok (.aload_n 0, 1) := by decide +kernel
theorem dX8_restore_43 : decode cX8_restore 43 = .ok (.getfield 38, 3) := by decide +kernel
theorem dX8_restore_46 : decode cX8_restore 46 = .ok (.iload_n 1, 1) := by decide +kernel
theorem dX8_restore_47 : decode cX8_restore 47 = .ok (.aload_n 0, 1) := by decide +kernel
theorem dX8_restore_48 : decode cX8_restore 48 = .ok (.getfield 10, 3) := by decide +kernel
theorem dX8_restore_51 : decode cX8_restore 51 = .ok (.invokevirtual 327, 3) := by decide +kernel
theorem dX8_restore_54 : decode cX8_restore 54 = .ok (.aload_n 0, 1) := by decide +kernel
theorem dX8_restore_55 : decode cX8_restore 55 = .ok (.getfield 22, 3) := by decide +kernel
theorem dX8_restore_58 : decode cX8_restore 58 = .ok (.invokevirtual 74, 3) := by decide +kernel
theorem dX8_restore_61 : decode cX8_restore 61 = .ok (.aload_n 0, 1) := by decide +kernel
theorem dX8_restore_62 : decode cX8_restore 62 = .ok (.getfield 10, 3) := by decide +kernel
theorem dX8_restore_65 : decode cX8_restore 65 = .ok (.getfield 105, 3) := by decide +kernel
theorem dX8_restore_68 : decode cX8_restore 68 = .ok (.getfield 109, 3) := by decide +kernel
theorem dX8_restore_71 : decode cX8_restore 71 = .ok (.ireturn, 1) := by decide +kernel
