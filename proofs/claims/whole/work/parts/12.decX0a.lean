theorem dX0_init_0 : decode cX0_init 0 = .ok (.aload_n 0, 1) := by decide +kernel
theorem dX0_init_1 : decode cX0_init 1 = .ok (.invokespecial 3, 3) := by decide +kernel
theorem dX0_init_4 : decode cX0_init 4 = .ok (.aload_n 0, 1) := by decide +kernel
theorem dX0_init_5 : decode cX0_init 5 = .ok (.bipush 16, 2) := by decide +kernel
theorem dX0_init_7 : decode cX0_init 7 = .ok (.putfield 9, 3) := by decide +kernel
theorem dX0_init_10 : decode cX0_init 10 = .ok (.aload_n 0, 1) := by decide +kernel
theorem dX0_init_11 : decode cX0_init 11 = .ok (.bipush 32, 2) := by decide +kernel
theorem dX0_init_13 : decode cX0_init 13 = .ok (.putfield 15, 3) := by decide +kernel
theorem dX0_init_16 : decode cX0_init 16 = .ok (.aload_n 0, 1) := by decide +kernel
theorem dX0_init_17 : decode cX0_init 17 = .ok (.iconst 1, 1) := by decide +kernel
theorem dX0_init_18 : decode cX0_init 18 = .ok (.putfield 18, 3) := by decide +kernel
theorem dX0_init_21 : decode cX0_init 21 = .ok (.aload_n 0, 1) := by decide +kernel
theorem dX0_init_22 : decode cX0_init 22 = .ok (.new 21, 3) := by decide +kernel
theorem dX0_init_25 : decode cX0_init 25 = .ok (.dup, 1) := by decide +kernel
theorem dX0_init_26 : decode cX0_init 26 = .ok (.sipush 256, 3) := by decide +kernel
theorem dX0_init_29 : decode cX0_init 29 = .ok (.invokespecial 23, 3) := by decide +kernel
theorem dX0_init_32 : decode cX0_init 32 = .ok (.putfield 26, 3) := by decide +kernel
theorem dX0_init_35 : decode cX0_init 35 = .ok (.aload_n 0, 1) := by decide +kernel
theorem dX0_init_36 : decode cX0_init 36 = .ok (.new 30, 3) := by decide +kernel
theorem dX0_init_39 : decode cX0_init 39 = .ok (.dup, 1) := by decide +kernel
theorem dX0_init_40 : decode cX0_init 40 = .ok (.invokespecial 32, 3) := by decide +kernel
theorem dX0_init_43 : decode cX0_init 43 = .ok (.putfield 33, 3) := by decide +kernel
theorem dX0_init_46 : decode cX0_init 46 = .ok (.aload_n 0, 1) := by decide +kernel
theorem dX0_init_47 : decode cX0_init 47 = .ok (.new 37, 3) := by decide +kernel
theorem dX0_init_50 : decode cX0_init 50 = .ok (.dup, 1) := by decide +kernel
theorem dX0_init_51 : decode cX0_init 51 = .ok (.invokespecial 39, 3) := by decide +kernel
theorem dX0_init_54 : decode cX0_init 54 = .ok (.putfield 40, 3) := by decide +kernel
theorem dX0_init_57 : decode cX0_init 57 = .ok (.aload_n 0, 1) := by decide +kernel
theorem dX0_init_58 : decode cX0_init 58 = .ok (.new 44, 3) := by decide +kernel
theorem dX0_init_61 : decode cX0_init 61 = .ok (.dup, 1) := by decide +kernel
theorem dX0_init_62 : decode cX0_init 62 = .ok (.invokespecial 46, 3) := by decide +kernel
theorem dX0_init_65 : decode cX0_init 65 = .ok (.putfield 47, 3) := by decide +kernel
theorem dX0_init_68 : decode cX0_init 68 = .ok (.aload_n 0, 1) := by decide +kernel
theorem dX0_init_69 : decode cX0_init 69 = .ok (.new 44, 3) := by decide +kernel
theorem dX0_init_72 : decode cX0_init 72 = .ok (.dup, 1) := by decide +kernel
theorem dX0_init_73 : decode cX0_init 73 = .ok (.invokespecial 46, 3) := by decide +kernel
theorem dX0_init_76 : decode cX0_init 76 = .ok (.putfield 51, 3) := by decide +kernel
theorem dX0_init_79 : decode cX0_init 79 = .ok (.return_, 1) := by decide +kernel
theorem dX0_beginAnew_0 : decode cX0_beginAnew 0 = .ok (.aload_n 0, 1) := by decide +kernel
theorem dX0_beginAnew_1 : decode cX0_beginAnew 1 = .ok (.iload_n 1, 1) := by decide +kernel
theorem dX0_beginAnew_2 : decode cX0_beginAnew 2 = .ok (.putfield 9, 3) := by decide +kernel
theorem dX0_beginAnew_5 : decode cX0_beginAnew 5 = .ok (.aload_n 0, 1) := by decide +kernel
theorem dX0_beginAnew_6 : decode cX0_beginAnew 6 = .ok (.iload_n 2, 1) := by decide +kernel
theorem dX0_beginAnew_7 : decode cX0_beginAnew 7 = .ok (.putfield 15, 3) := by decide +kernel
theorem dX0_beginAnew_10 : decode cX0_beginAnew 10 = .ok (.aload_n 0, 1) := by decide +kernel
theorem dX0_beginAnew_11 : decode cX0_beginAnew 11 = .ok (.iconst 1, 1) := by decide +kernel
theorem dX0_beginAnew_12 : decode cX0_beginAnew 12 = .ok (.putfield 18, 3) := by decide +kernel
theorem dX0_beginAnew_15 : decode cX0_beginAnew 15 = .ok (.aload_n 0, 1) := by decide +kernel
theorem dX0_beginAnew_16 : decode cX0_beginAnew 16 = .ok (.iconst 0, 1) := by decide +kernel
theorem dX0_beginAnew_17 : decode cX0_beginAnew 17 = .ok (.putfield 54, 3) := by decide +kernel
theorem dX0_beginAnew_20 : decode cX0_beginAnew 20 = .ok (.aload_n 0, 1) := by decide +kernel
theorem dX0_beginAnew_21 : decode cX0_beginAnew 21 = .ok (.iconst 0, 1) := by decide +kernel
theorem dX0_beginAnew_22 : decode cX0_beginAnew 22 = .ok (.putfield 57, 3) := by decide +kernel
theorem dX0_beginAnew_25 : decode cX0_beginAnew 25 = .ok (.aload_n 0, 1) := by decide +kernel
theorem dX0_beginAnew_26 : decode cX0_beginAnew 26 = .ok (.iconst 0, 1) := by decide +kernel
theorem dX0_beginAnew_27 : decode cX0_beginAnew 27 = .ok (.putfield 60, 3) := by decide +kernel
theorem dX0_beginAnew_30 : decode cX0_beginAnew 30 = .ok (.aload_n 0, 1) := by decide +kernel
theorem dX0_beginAnew_31 : decode cX0_beginAnew 31 = .ok (.iconst 0, 1) := by decide +kernel
theorem dX0_beginAnew_32 : decode cX0_beginAnew 32 = .ok (.putfield 63, 3) := by decide +kernel
theorem dX0_beginAnew_35 : decode cX0_beginAnew 35 = .ok (.aload_n 0, 1) := by decide +kernel
theorem dX0_beginAnew_36 : decode cX0_beginAnew 36 = .ok (.getfield 33, 3) := by decide +kernel
theorem dX0_beginAnew_39 : decode cX0_beginAnew 39 = .ok (.iconst 0, 1) := by decide +kernel
theorem dX0_beginAnew_40 : decode cX0_beginAnew 40 = .ok (.putfield 66, 3) := by decide +kernel
theorem dX0_beginAnew_43 : decode cX0_beginAnew 43 = .ok (.aload_n 0, 1) := by decide +kernel
theorem dX0_beginAnew_44 : decode cX0_beginAnew 44 = .ok (.getfield 40, 3) := by decide +kernel
theorem dX0_beginAnew_47 : decode cX0_beginAnew 47 = .ok (.iconst 0, 1) := by decide +kernel
theorem dX0_beginAnew_48 : decode cX0_beginAnew 48 = .ok (.putfield 69, 3) := by decide +kernel
theorem dX0_beginAnew_51 : decode cX0_beginAnew 51 = .ok (.aload_n 0, 1) := by decide +kernel
theorem dX0_beginAnew_52 : decode cX0_beginAnew 52 = .ok (.getfield 47, 3) := by decide +kernel
theorem dX0_beginAnew_55 : decode cX0_beginAnew 55 = .ok (.iconst 0, 1) := by decide +kernel
theorem dX0_beginAnew_56 : decode cX0_beginAnew 56 = .ok (.putfield 70, 3) := by decide +kernel
theorem dX0_beginAnew_59 : decode cX0_beginAnew 59 = .ok (.aload_n 0, 1) := by decide +kernel
theorem dX0_beginAnew_60 : decode cX0_beginAnew 60 = .ok (.getfield 51, 3) := by decide +kernel
theorem dX0_beginAnew_63 : decode cX0_beginAnew 63 = .ok (.iconst 0, 1) := by decide +kernel
theorem dX0_beginAnew_64 : decode cX0_beginAnew 64 = .ok (.putfield 70, 3) := by decide +kernel
theorem dX0_beginAnew_67 : decode cX0_beginAnew 67 = .ok (.return_, 1) := by decide +kernel
theorem dX0_putUpAll_0 : decode cX0_putUpAll 0 = .ok (.iconst 0, 1) := by decide +kernel
theorem dX0_putUpAll_1 : decode cX0_putUpAll 1 = .ok (.istore_n 2, 1) := by decide +kernel
theorem dX0_putUpAll_2 : decode cX0_putUpAll 2 = .ok (.iload_n 2, 1) := by decide +kernel
theorem dX0_putUpAll_3 : decode cX0_putUpAll 3 = .ok (.aload_n 1, 1) := by decide +kernel
theorem dX0_putUpAll_4 : decode cX0_putUpAll 4 = .ok (.getfield 66, 3) := by decide +kernel
theorem dX0_putUpAll_7 : decode cX0_putUpAll 7 = .ok (.if_icmp .ge 35, 3) := by decide +kernel
theorem dX0_putUpAll_10 : decode cX0_putUpAll 10 = .ok (.aload_n 0, 1) := by decide +kernel
theorem dX0_putUpAll_11 : decode cX0_putUpAll 11 = .ok (.aload_n 1, 1) := by decide +kernel
theorem dX0_putUpAll_12 : decode cX0_putUpAll 12 = .ok (.getfield 142, 3) := by decide +kernel
theorem dX0_putUpAll_15 : decode cX0_putUpAll 15 = .ok (.iload_n 2, 1) := by decide +kernel
theorem dX0_putUpAll_16 : decode cX0_putUpAll 16 = .ok (.invokevirtual 91, 3) := by decide +kernel
theorem dX0_putUpAll_19 : decode cX0_putUpAll 19 = .ok (.aload_n 1, 1) := by decide +kernel
theorem dX0_putUpAll_20 : decode cX0_putUpAll 20 = .ok (.getfield 143, 3) := by decide +kernel
theorem dX0_putUpAll_23 : decode cX0_putUpAll 23 = .ok (.iload_n 2, 1) := by decide +kernel
theorem dX0_putUpAll_24 : decode cX0_putUpAll 24 = .ok (.invokevirtual 91, 3) := by decide +kernel
theorem dX0_putUpAll_27 : decode cX0_putUpAll 27 = .ok (.invokevirtual 154, 3) := by decide +kernel
theorem dX0_putUpAll_30 : decode cX0_putUpAll 30 = .ok (.iconst (-1), 1) := by decide +kernel
theorem dX0_putUpAll_31 : decode cX0_putUpAll 31 = .ok (.if_icmp .ne 5, 3) := by decide +kernel
theorem dX0_putUpAll_34 : decode cX0_putUpAll 34 = .ok (.iconst 0, 1) := by decide +kernel
theorem dX0_putUpAll_35 : decode cX0_putUpAll 35 = .ok (.ireturn, 1) := by decide +kernel
theorem dX0_putUpAll_36 : decode cX0_putUpAll 36 = .ok (.iinc 2 1, 3) := by decide +kernel
theorem dX0_putUpAll_39 : decode cX0_putUpAll 39 = .ok (.goto (-37), 3) := by decide +kernel
theorem dX0_putUpAll_42 : decode cX0_putUpAll 42 = .ok (.iconst 1, 1) := by decide +kernel
theorem dX0_putUpAll_43 : decode cX0_putUpAll 43 = .ok (.ireturn, 1) := by decide +kernel
theorem dX0_putUp_0 : decode cX0_putUp 0 = .ok (.aload_n 0, 1) := by decide +kernel
theorem dX0_putUp_1 : decode cX0_putUp 1 = .ok (.getfield 33, 3) := by decide +kernel
theorem dX0_putUp_4 : decode cX0_putUp 4 = .ok (.getfield 66, 3) := by decide +kernel
theorem dX0_putUp_7 : decode cX0_putUp 7 = .ok (.bipush 24, 2) := by decide +kernel
theorem dX0_putUp_9 : decode cX0_putUp 9 = .ok (.if_icmp .lt 5, 3) := by decide +kernel
theorem dX0_putUp_12 : decode cX0_putUp 12 = .ok (.iconst (-1), 1) := by decide +kernel
theorem dX0_putUp_13 : decode cX0_putUp 13 = .ok (.ireturn, 1) := by decide +kernel
theorem dX0_putUp_14 : decode cX0_putUp 14 = .ok (.aload_n 0, 1) := by decide +kernel
theorem dX0_putUp_15 : decode cX0_putUp 15 = .ok (.iload_n 1, 1) := by decide +kernel
theorem dX0_putUp_16 : decode cX0_putUp 16 = .ok (.iload_n 2, 1) := by decide +kernel
theorem dX0_putUp_17 : decode cX0_putUp 17 = .ok (.invokevirtual 133, 3) := by decide +kernel
theorem dX0_putUp_20 : decode cX0_putUp 20 = .ok (.istore_n 3, 1) := by decide +kernel
theorem dX0_putUp_21 : decode cX0_putUp 21 = .ok (.iload_n 3, 1) := by decide +kernel
theorem dX0_putUp_22 : decode cX0_putUp 22 = .ok (.iconst (-1), 1) := by decide +kernel
theorem dX0_putUp_23 : decode cX0_putUp 23 = .ok (.if_icmp .ne 5, 3) := by decide +kernel
theorem dX0_putUp_26 : decode cX0_putUp 26 = .ok (.iconst (-1), 1) := by decide +kernel
theorem dX0_putUp_27 : decode cX0_putUp 27 = .ok (.ireturn, 1) := by decide +kernel
theorem dX0_putUp_28 : decode cX0_putUp 28 = .ok (.aload_n 0, 1) := by decide +kernel
theorem dX0_putUp_29 : decode cX0_putUp 29 = .ok (.getfield 33, 3) := by decide +kernel
theorem dX0_putUp_32 : decode cX0_putUp 32 = .ok (.getfield 66, 3) := by decide +kernel
theorem dX0_putUp_35 : decode cX0_putUp 35 = .ok (.istore 4, 2) := by decide +kernel
theorem dX0_putUp_37 : decode cX0_putUp 37 = .ok (.aload_n 0, 1) := by decide +kernel
theorem dX0_putUp_38 : decode cX0_putUp 38 = .ok (.getfield 33, 3) := by decide +kernel
theorem dX0_putUp_41 : decode cX0_putUp 41 = .ok (.getfield 136, 3) := by decide +kernel
theorem dX0_putUp_44 : decode cX0_putUp 44 = .ok (.iload 4, 2) := by decide +kernel
theorem dX0_putUp_46 : decode cX0_putUp 46 = .ok (.iload_n 3, 1) := by decide +kernel
theorem dX0_putUp_47 : decode cX0_putUp 47 = .ok (.invokevirtual 115, 3) := by decide +kernel
theorem dX0_putUp_50 : decode cX0_putUp 50 = .ok (.aload_n 0, 1) := by decide +kernel
theorem dX0_putUp_51 : decode cX0_putUp 51 = .ok (.getfield 33, 3) := by decide +kernel
theorem dX0_putUp_54 : decode cX0_putUp 54 = .ok (.getfield 139, 3) := by decide +kernel
theorem dX0_putUp_57 : decode cX0_putUp 57 = .ok (.iload 4, 2) := by decide +kernel
theorem dX0_putUp_59 : decode cX0_putUp 59 = .ok (.aload_n 0, 1) := by decide +kernel
theorem dX0_putUp_60 : decode cX0_putUp 60 = .ok (.getfield 47, 3) := by decide +kernel
theorem dX0_putUp_63 : decode cX0_putUp 63 = .ok (.getfield 88, 3) := by decide +kernel
theorem dX0_putUp_66 : decode cX0_putUp 66 = .ok (.iload_n 3, 1) := by decide +kernel
theorem dX0_putUp_67 : decode cX0_putUp 67 = .ok (.invokevirtual 91, 3) := by decide +kernel
theorem dX0_putUp_70 : decode cX0_putUp 70 = .ok (.iload_n 1, 1) := by decide +kernel
theorem dX0_putUp_71 : decode cX0_putUp 71 = .ok (.isub, 1) := by decide +kernel
theorem dX0_putUp_72 : decode cX0_putUp 72 = .ok (.invokevirtual 115, 3) := by decide +kernel
theorem dX0_putUp_75 : decode cX0_putUp 75 = .ok (.aload_n 0, 1) := by decide +kernel
theorem dX0_putUp_76 : decode cX0_putUp 76 = .ok (.getfield 33, 3) := by decide +kernel
theorem dX0_putUp_79 : decode cX0_putUp 79 = .ok (.getfield 142, 3) := by decide +kernel
theorem dX0_putUp_82 : decode cX0_putUp 82 = .ok (.iload 4, 2) := by decide +kernel
theorem dX0_putUp_84 : decode cX0_putUp 84 = .ok (.iload_n 1, 1) := by decide +kernel
theorem dX0_putUp_85 : decode cX0_putUp 85 = .ok (.invokevirtual 115, 3) := by decide +kernel
theorem dX0_putUp_88 : decode cX0_putUp 88 = .ok (.aload_n 0, 1) := by decide +kernel
theorem dX0_putUp_89 : decode cX0_putUp 89 = .ok (.getfield 33, 3) := by decide +kernel
theorem dX0_putUp_92 : decode cX0_putUp 92 = .ok (.getfield 143, 3) := by decide +kernel
theorem dX0_putUp_95 : decode cX0_putUp 95 = .ok (.iload 4, 2) := by decide +kernel
theorem dX0_putUp_97 : decode cX0_putUp 97 = .ok (.iload_n 2, 1) := by decide +kernel
theorem dX0_putUp_98 : decode cX0_putUp 98 = .ok (.invokevirtual 115, 3) := by decide +kernel
theorem dX0_putUp_101 : decode cX0_putUp 101 = .ok (.aload_n 0, 1) := by decide +kernel
theorem dX0_putUp_102 : decode cX0_putUp 102 = .ok (.getfield 33, 3) := by decide +kernel
theorem dX0_putUp_105 : decode cX0_putUp 105 = .ok (.dup, 1) := by decide +kernel
theorem dX0_putUp_106 : decode cX0_putUp 106 = .ok (.getfield 66, 3) := by decide +kernel
theorem dX0_putUp_109 : decode cX0_putUp 109 = .ok (.iconst 1, 1) := by decide +kernel
theorem dX0_putUp_110 : decode cX0_putUp 110 = .ok (.iadd, 1) := by decide +kernel
theorem dX0_putUp_111 : decode cX0_putUp 111 = .ok (.putfield 66, 3) := by decide +kernel
theorem dX0_putUp_114 : decode cX0_putUp 114 = .ok (.aload_n 0, 1) := by decide +kernel
theorem dX0_putUp_115 : decode cX0_putUp 115 = .ok (.aload_n 0, 1) := by decide +kernel
theorem dX0_putUp_116 : decode cX0_putUp 116 = .ok (.getfield 57, 3) := by decide +kernel
theorem dX0_putUp_119 : decode cX0_putUp 119 = .ok (.aload_n 0, 1) := by decide +kernel
theorem dX0_putUp_120 : decode cX0_putUp 120 = .ok (.getfield 33, 3) := by decide +kernel
theorem dX0_putUp_123 : decode cX0_putUp 123 = .ok (.iconst 0, 1) := by decide +kernel
theorem dX0_putUp_124 : decode cX0_putUp 124 = .ok (.invokevirtual 146, 3) := by decide +kernel
theorem dX0_putUp_127 : decode cX0_putUp 127 = .ok (.invokestatic 149, 3) := by decide +kernel
theorem dX0_putUp_130 : decode cX0_putUp 130 = .ok (.putfield 57, 3) := by decide +kernel
theorem dX0_putUp_133 : decode cX0_putUp 133 = .ok (.aload_n 0, 1) := by decide +kernel
theorem dX0_putUp_134 : decode cX0_putUp 134 = .ok (.aload_n 0, 1) := by decide +kernel
theorem dX0_putUp_135 : decode cX0_putUp 135 = .ok (.getfield 60, 3) := by decide +kernel
theorem dX0_putUp_138 : decode cX0_putUp 138 = .ok (.aload_n 0, 1) := by decide +kernel
theorem dX0_putUp_139 : decode cX0_putUp 139 = .ok (.getfield 63, 3) := by decide +kernel
theorem dX0_putUp_142 : decode cX0_putUp 142 = .ok (.invokestatic 149, 3) := by decide +kernel
theorem dX0_putUp_145 : decode cX0_putUp 145 = .ok (.putfield 60, 3) := by decide +kernel
theorem dX0_putUp_148 : decode cX0_putUp 148 = .ok (.iload 4, 2) := by decide +kernel
theorem dX0_putUp_150 : decode cX0_putUp 150 = .ok (.ireturn, 1) := by decide +kernel
theorem dX0_takeSite_0 : decode cX0_takeSite 0 = .ok (.aload_n 0, 1) := by decide +kernel
theorem dX0_takeSite_1 : decode cX0_takeSite 1 = .ok (.iload_n 1, 1) := by decide +kernel
theorem dX0_takeSite_2 : decode cX0_takeSite 2 = .ok (.iload_n 2, 1) := by decide +kernel
theorem dX0_takeSite_3 : decode cX0_takeSite 3 = .ok (.invokevirtual 112, 3) := by decide +kernel
theorem dX0_takeSite_6 : decode cX0_takeSite 6 = .ok (.tableswitch 187 0 2 #[26, 55, 121], 26) := by decide +kernel
theorem dX0_takeSite_32 : decode cX0_takeSite 32 = .ok (.aload_n 0, 1) := by decide +kernel
theorem dX0_takeSite_33 : decode cX0_takeSite 33 = .ok (.getfield 47, 3) := by decide +kernel
theorem dX0_takeSite_36 : decode cX0_takeSite 36 = .ok (.invokevirtual 95, 3) := by decide +kernel
theorem dX0_takeSite_39 : decode cX0_takeSite 39 = .ok (.istore_n 3, 1) := by decide +kernel
theorem dX0_takeSite_40 : decode cX0_takeSite 40 = .ok (.aload_n 0, 1) := by decide +kernel
theorem dX0_takeSite_41 : decode cX0_takeSite 41 = .ok (.getfield 47, 3) := by decide +kernel
theorem dX0_takeSite_44 : decode cX0_takeSite 44 = .ok (.getfield 88, 3) := by decide +kernel
theorem dX0_takeSite_47 : decode cX0_takeSite 47 = .ok (.iload_n 3, 1) := by decide +kernel
theorem dX0_takeSite_48 : decode cX0_takeSite 48 = .ok (.aload_n 0, 1) := by decide +kernel
theorem dX0_takeSite_49 : decode cX0_takeSite 49 = .ok (.iload_n 3, 1) := by decide +kernel
theorem dX0_takeSite_50 : decode cX0_takeSite 50 = .ok (.iload_n 2, 1) := by decide +kernel
theorem dX0_takeSite_51 : decode cX0_takeSite 51 = .ok (.invokevirtual 99, 3) := by decide +kernel
theorem dX0_takeSite_54 : decode cX0_takeSite 54 = .ok (.iload_n 1, 1) := by decide +kernel
theorem dX0_takeSite_55 : decode cX0_takeSite 55 = .ok (.iadd, 1) := by decide +kernel
theorem dX0_takeSite_56 : decode cX0_takeSite 56 = .ok (.invokevirtual 115, 3) := by decide +kernel
theorem dX0_takeSite_59 : decode cX0_takeSite 59 = .ok (.iload_n 3, 1) := by decide +kernel
theorem dX0_takeSite_60 : decode cX0_takeSite 60 = .ok (.ireturn, 1) := by decide +kernel
theorem dX0_takeSite_61 : decode cX0_takeSite 61 = .ok (.aload_n 0, 1) := by decide +kernel
theorem dX0_takeSite_62 : decode cX0_takeSite 62 = .ok (.getfield 51, 3) := by decide +kernel
theorem dX0_takeSite_65 : decode cX0_takeSite 65 = .ok (.iload_n 1, 1) := by decide +kernel
theorem dX0_takeSite_66 : decode cX0_takeSite 66 = .ok (.invokevirtual 106, 3) := by decide +kernel
theorem dX0_takeSite_69 : decode cX0_takeSite 69 = .ok (.istore 4, 2) := by decide +kernel
theorem dX0_takeSite_71 : decode cX0_takeSite 71 = .ok (.aload_n 0, 1) := by decide +kernel
theorem dX0_takeSite_72 : decode cX0_takeSite 72 = .ok (.getfield 47, 3) := by decide +kernel
theorem dX0_takeSite_75 : decode cX0_takeSite 75 = .ok (.aload_n 0, 1) := by decide +kernel
theorem dX0_takeSite_76 : decode cX0_takeSite 76 = .ok (.getfield 51, 3) := by decide +kernel
theorem dX0_takeSite_79 : decode cX0_takeSite 79 = .ok (.getfield 119, 3) := by decide +kernel
theorem dX0_takeSite_82 : decode cX0_takeSite 82 = .ok (.iload 4, 2) := by decide +kernel
theorem dX0_takeSite_84 : decode cX0_takeSite 84 = .ok (.invokevirtual 91, 3) := by decide +kernel
theorem dX0_takeSite_87 : decode cX0_takeSite 87 = .ok (.aload_n 0, 1) := by decide +kernel
theorem dX0_takeSite_88 : decode cX0_takeSite 88 = .ok (.getfield 51, 3) := by decide +kernel
theorem dX0_takeSite_91 : decode cX0_takeSite 91 = .ok (.getfield 103, 3) := by decide +kernel
theorem dX0_takeSite_94 : decode cX0_takeSite 94 = .ok (.iload 4, 2) := by decide +kernel
theorem dX0_takeSite_96 : decode cX0_takeSite 96 = .ok (.invokevirtual 91, 3) := by decide +kernel
theorem dX0_takeSite_99 : decode cX0_takeSite 99 = .ok (.aload_n 0, 1) := by decide +kernel
theorem dX0_takeSite_100 : decode cX0_takeSite 100 = .ok (.iload_n 1, 1) := by decide +kernel
theorem dX0_takeSite_101 : decode cX0_takeSite 101 = .ok (.invokevirtual 84, 3) := by decide +kernel
theorem dX0_takeSite_104 : decode cX0_takeSite 104 = .ok (.iload_n 1, 1) := by decide +kernel
theorem dX0_takeSite_105 : decode cX0_takeSite 105 = .ok (.invokevirtual 122, 3) := by decide +kernel
theorem dX0_takeSite_108 : decode cX0_takeSite 108 = .ok (.aload_n 0, 1) := by decide +kernel
theorem dX0_takeSite_109 : decode cX0_takeSite 109 = .ok (.getfield 51, 3) := by decide +kernel
theorem dX0_takeSite_112 : decode cX0_takeSite 112 = .ok (.iload 4, 2) := by decide +kernel
theorem dX0_takeSite_114 : decode cX0_takeSite 114 = .ok (.invokevirtual 126, 3) := by decide +kernel
theorem dX0_takeSite_117 : decode cX0_takeSite 117 = .ok (.aload_n 0, 1) := by decide +kernel
theorem dX0_takeSite_118 : decode cX0_takeSite 118 = .ok (.getfield 47, 3) := by decide +kernel
theorem dX0_takeSite_121 : decode cX0_takeSite 121 = .ok (.getfield 70, 3) := by decide +kernel
theorem dX0_takeSite_124 : decode cX0_takeSite 124 = .ok (.iconst 1, 1) := by decide +kernel
theorem dX0_takeSite_125 : decode cX0_takeSite 125 = .ok (.isub, 1) := by decide +kernel
theorem dX0_takeSite_126 : decode cX0_takeSite 126 = .ok (.ireturn, 1) := by decide +kernel
theorem dX0_takeSite_127 : decode cX0_takeSite 127 = .ok (.aload_n 0, 1) := by decide +kernel
theorem dX0_takeSite_128 : decode cX0_takeSite 128 = .ok (.iload_n 1, 1) := by decide +kernel
theorem dX0_takeSite_129 : decode cX0_takeSite 129 = .ok (.invokevirtual 109, 3) := by decide +kernel
theorem dX0_takeSite_132 : decode cX0_takeSite 132 = .ok (.istore 5, 2) := by decide +kernel
theorem dX0_takeSite_134 : decode cX0_takeSite 134 = .ok (.aload_n 0, 1) := by decide +kernel
theorem dX0_takeSite_135 : decode cX0_takeSite 135 = .ok (.getfield 26, 3) := by decide +kernel
theorem dX0_takeSite_138 : decode cX0_takeSite 138 = .ok (.iconst 0, 1) := by decide +kernel
theorem dX0_takeSite_139 : decode cX0_takeSite 139 = .ok (.aload_n 0, 1) := by decide +kernel
theorem dX0_takeSite_140 : decode cX0_takeSite 140 = .ok (.getfield 63, 3) := by decide +kernel
theorem dX0_takeSite_143 : decode cX0_takeSite 143 = .ok (.aload_n 0, 1) := by decide +kernel
theorem dX0_takeSite_144 : decode cX0_takeSite 144 = .ok (.getfield 63, 3) := by decide +kernel
theorem dX0_takeSite_147 : decode cX0_takeSite 147 = .ok (.iload 5, 2) := by decide +kernel
theorem dX0_takeSite_149 : decode cX0_takeSite 149 = .ok (.iadd, 1) := by decide +kernel
theorem dX0_takeSite_150 : decode cX0_takeSite 150 = .ok (.invokevirtual 129, 3) := by decide +kernel
theorem dX0_takeSite_153 : decode cX0_takeSite 153 = .ok (.aload_n 0, 1) := by decide +kernel
theorem dX0_takeSite_154 : decode cX0_takeSite 154 = .ok (.getfield 47, 3) := by decide +kernel
theorem dX0_takeSite_157 : decode cX0_takeSite 157 = .ok (.aload_n 0, 1) := by decide +kernel
theorem dX0_takeSite_158 : decode cX0_takeSite 158 = .ok (.getfield 63, 3) := by decide +kernel
theorem dX0_takeSite_161 : decode cX0_takeSite 161 = .ok (.iload 5, 2) := by decide +kernel
theorem dX0_takeSite_163 : decode cX0_takeSite 163 = .ok (.aload_n 0, 1) := by decide +kernel
theorem dX0_takeSite_164 : decode cX0_takeSite 164 = .ok (.iload_n 1, 1) := by decide +kernel
theorem dX0_takeSite_165 : decode cX0_takeSite 165 = .ok (.invokevirtual 84, 3) := by decide +kernel
theorem dX0_takeSite_168 : decode cX0_takeSite 168 = .ok (.iload_n 1, 1) := by decide +kernel
theorem dX0_takeSite_169 : decode cX0_takeSite 169 = .ok (.invokevirtual 122, 3) := by decide +kernel
theorem dX0_takeSite_172 : decode cX0_takeSite 172 = .ok (.aload_n 0, 1) := by decide +kernel
theorem dX0_takeSite_173 : decode cX0_takeSite 173 = .ok (.dup, 1) := by decide +kernel
theorem dX0_takeSite_174 : decode cX0_takeSite 174 = .ok (.getfield 63, 3) := by decide +kernel
theorem dX0_takeSite_177 : decode cX0_takeSite 177 = .ok (.iload 5, 2) := by decide +kernel
theorem dX0_takeSite_179 : decode cX0_takeSite 179 = .ok (.iadd, 1) := by decide +kernel
theorem dX0_takeSite_180 : decode cX0_takeSite 180 = .ok (.putfield 63, 3) := by decide +kernel
theorem dX0_takeSite_183 : decode cX0_takeSite 183 = .ok (.aload_n 0, 1) := by decide +kernel
theorem dX0_takeSite_184 : decode cX0_takeSite 184 = .ok (.getfield 47, 3) := by decide +kernel
theorem dX0_takeSite_187 : decode cX0_takeSite 187 = .ok (.getfield 70, 3) := by decide +kernel
theorem dX0_takeSite_190 : decode cX0_takeSite 190 = .ok (.iconst 1, 1) := by decide +kernel
theorem dX0_takeSite_191 : decode cX0_takeSite 191 = .ok (.isub, 1) := by decide +kernel
theorem dX0_takeSite_192 : decode cX0_takeSite 192 = .ok (.ireturn, 1) := by decide +kernel
theorem dX0_takeSite_193 : decode cX0_takeSite 193 = .ok (.iconst (-1), 1) := by decide +kernel
theorem dX0_takeSite_194 : decode cX0_takeSite 194 = .ok (.ireturn, 1) := by decide +kernel
theorem dX0_siteFor_0 : decode cX0_siteFor 0 = .ok (.aload_n 0, 1) := by decide +kernel
theorem dX0_siteFor_1 : decode cX0_siteFor 1 = .ok (.getfield 47, 3) := by decide +kernel
theorem dX0_siteFor_4 : decode cX0_siteFor 4 = .ok (.invokevirtual 95, 3) := by decide +kernel
theorem dX0_siteFor_7 : decode cX0_siteFor 7 = .ok (.istore_n 3, 1) := by decide +kernel
theorem dX0_siteFor_8 : decode cX0_siteFor 8 = .ok (.iload_n 3, 1) := by decide +kernel
theorem dX0_siteFor_9 : decode cX0_siteFor 9 = .ok (.iconst (-1), 1) := by decide +kernel
theorem dX0_siteFor_10 : decode cX0_siteFor 10 = .ok (.if_icmp .eq 27, 3) := by decide +kernel
theorem dX0_siteFor_13 : decode cX0_siteFor 13 = .ok (.aload_n 0, 1) := by decide +kernel
theorem dX0_siteFor_14 : decode cX0_siteFor 14 = .ok (.iload_n 3, 1) := by decide +kernel
theorem dX0_siteFor_15 : decode cX0_siteFor 15 = .ok (.iload_n 2, 1) := by decide +kernel
theorem dX0_siteFor_16 : decode cX0_siteFor 16 = .ok (.invokevirtual 99, 3) := by decide +kernel
theorem dX0_siteFor_19 : decode cX0_siteFor 19 = .ok (.iload_n 1, 1) := by decide +kernel
theorem dX0_siteFor_20 : decode cX0_siteFor 20 = .ok (.iadd, 1) := by decide +kernel
theorem dX0_siteFor_21 : decode cX0_siteFor 21 = .ok (.aload_n 0, 1) := by decide +kernel
theorem dX0_siteFor_22 : decode cX0_siteFor 22 = .ok (.getfield 47, 3) := by decide +kernel
theorem dX0_siteFor_25 : decode cX0_siteFor 25 = .ok (.getfield 103, 3) := by decide +kernel
theorem dX0_siteFor_28 : decode cX0_siteFor 28 = .ok (.iload_n 3, 1) := by decide +kernel
theorem dX0_siteFor_29 : decode cX0_siteFor 29 = .ok (.invokevirtual 91, 3) := by decide +kernel
theorem dX0_siteFor_32 : decode cX0_siteFor 32 = .ok (.if_icmp .gt 5, 3) := by decide +kernel
theorem dX0_siteFor_35 : decode cX0_siteFor 35 = .ok (.iconst 0, 1) := by decide +kernel
theorem dX0_siteFor_36 : decode cX0_siteFor 36 = .ok (.ireturn, 1) := by decide +kernel
theorem dX0_siteFor_37 : decode cX0_siteFor 37 = .ok (.aload_n 0, 1) := by decide +kernel
theorem dX0_siteFor_38 : decode cX0_siteFor 38 = .ok (.getfield 51, 3) := by decide +kernel
theorem dX0_siteFor_41 : decode cX0_siteFor 41 = .ok (.iload_n 1, 1) := by decide +kernel
theorem dX0_siteFor_42 : decode cX0_siteFor 42 = .ok (.invokevirtual 106, 3) := by decide +kernel
theorem dX0_siteFor_45 : decode cX0_siteFor 45 = .ok (.iconst (-1), 1) := by decide +kernel
theorem dX0_siteFor_46 : decode cX0_siteFor 46 = .ok (.if_icmp .eq 5, 3) := by decide +kernel
theorem dX0_siteFor_49 : decode cX0_siteFor 49 = .ok (.iconst 1, 1) := by decide +kernel
theorem dX0_siteFor_50 : decode cX0_siteFor 50 = .ok (.ireturn, 1) := by decide +kernel
theorem dX0_siteFor_51 : decode cX0_siteFor 51 = .ok (.aload_n 0, 1) := by decide +kernel
theorem dX0_siteFor_52 : decode cX0_siteFor 52 = .ok (.getfield 63, 3) := by decide +kernel
theorem dX0_siteFor_55 : decode cX0_siteFor 55 = .ok (.aload_n 0, 1) := by decide +kernel
theorem dX0_siteFor_56 : decode cX0_siteFor 56 = .ok (.iload_n 1, 1) := by decide +kernel
theorem dX0_siteFor_57 : decode cX0_siteFor 57 = .ok (.invokevirtual 109, 3) := by decide +kernel
theorem dX0_siteFor_60 : decode cX0_siteFor 60 = .ok (.iadd, 1) := by decide +kernel
theorem dX0_siteFor_61 : decode cX0_siteFor 61 = .ok (.sipush 256, 3) := by decide +kernel
theorem dX0_siteFor_64 : decode cX0_siteFor 64 = .ok (.if_icmp .gt 7, 3) := by decide +kernel
theorem dX0_siteFor_67 : decode cX0_siteFor 67 = .ok (.iconst 2, 1) := by decide +kernel
theorem dX0_siteFor_68 : decode cX0_siteFor 68 = .ok (.goto 4, 3) := by decide +kernel
theorem dX0_siteFor_71 : decode cX0_siteFor 71 = .ok (.iconst 3, 1) := by decide +kernel
theorem dX0_siteFor_72 : decode cX0_siteFor 72 = .ok (.ireturn, 1) := by decide +kernel
theorem dX0_openPlace_0 : decode cX0_openPlace 0 = .ok (.aload_n 0, 1) := by decide +kernel
theorem dX0_openPlace_1 : decode cX0_openPlace 1 = .ok (.getfield 47, 3) := by decide +kernel
theorem dX0_openPlace_4 : decode cX0_openPlace 4 = .ok (.getfield 88, 3) := by decide +kernel
theorem dX0_openPlace_7 : decode cX0_openPlace 7 = .ok (.iload_n 1, 1) := by decide +kernel
theorem dX0_openPlace_8 : decode cX0_openPlace 8 = .ok (.invokevirtual 91, 3) := by decide +kernel
theorem dX0_openPlace_11 : decode cX0_openPlace 11 = .ok (.iload_n 2, 1) := by decide +kernel
theorem dX0_openPlace_12 : decode cX0_openPlace 12 = .ok (.iadd, 1) := by decide +kernel
theorem dX0_openPlace_13 : decode cX0_openPlace 13 = .ok (.iconst 1, 1) := by decide +kernel
theorem dX0_openPlace_14 : decode cX0_openPlace 14 = .ok (.isub, 1) := by decide +kernel
theorem dX0_openPlace_15 : decode cX0_openPlace 15 = .ok (.istore_n 3, 1) := by decide +kernel
theorem dX0_openPlace_16 : decode cX0_openPlace 16 = .ok (.iload_n 3, 1) := by decide +kernel
theorem dX0_openPlace_17 : decode cX0_openPlace 17 = .ok (.iload_n 2, 1) := by decide +kernel
theorem dX0_openPlace_18 : decode cX0_openPlace 18 = .ok (.ineg, 1) := by decide +kernel
theorem dX0_openPlace_19 : decode cX0_openPlace 19 = .ok (.iand, 1) := by decide +kernel
theorem dX0_openPlace_20 : decode cX0_openPlace 20 = .ok (.ireturn, 1) := by decide +kernel
theorem dX0_newFieldSize_0 : decode cX0_newFieldSize 0 = .ok (.aload_n 0, 1) := by decide +kernel
theorem dX0_newFieldSize_1 : decode cX0_newFieldSize 1 = .ok (.iload_n 1, 1) := by decide +kernel
theorem dX0_newFieldSize_2 : decode cX0_newFieldSize 2 = .ok (.invokevirtual 84, 3) := by decide +kernel
theorem dX0_newFieldSize_5 : decode cX0_newFieldSize 5 = .ok (.ifCond .eq 7, 3) := by decide +kernel
theorem dX0_newFieldSize_8 : decode cX0_newFieldSize 8 = .ok (.iload_n 1, 1) := by decide +kernel
theorem dX0_newFieldSize_9 : decode cX0_newFieldSize 9 = .ok (.goto 7, 3) := by decide +kernel
theorem dX0_newFieldSize_12 : decode cX0_newFieldSize 12 = .ok (.aload_n 0, 1) := by decide +kernel
theorem dX0_newFieldSize_13 : decode cX0_newFieldSize 13 = .ok (.getfield 9, 3) := by decide +kernel
theorem dX0_newFieldSize_16 : decode cX0_newFieldSize 16 = .ok (.ireturn, 1) := by decide +kernel
theorem dX0_wantsBig_0 : decode cX0_wantsBig 0 = .ok (.iload_n 1, 1) := by decide +kernel
theorem dX0_wantsBig_1 : decode cX0_wantsBig 1 = .ok (.aload_n 0, 1) := by decide +kernel
theorem dX0_wantsBig_2 : decode cX0_wantsBig 2 = .ok (.getfield 9, 3) := by decide +kernel
theorem dX0_wantsBig_5 : decode cX0_wantsBig 5 = .ok (.iconst 2, 1) := by decide +kernel
theorem dX0_wantsBig_6 : decode cX0_wantsBig 6 = .ok (.idiv, 1) := by decide +kernel
theorem dX0_wantsBig_7 : decode cX0_wantsBig 7 = .ok (.if_icmp .le 7, 3) := by decide +kernel
theorem dX0_wantsBig_10 : decode cX0_wantsBig 10 = .ok (.iconst 1, 1) := by decide +kernel
theorem dX0_wantsBig_11 : decode cX0_wantsBig 11 = .ok (.goto 4, 3) := by decide +kernel
theorem dX0_wantsBig_14 : decode cX0_wantsBig 14 = .ok (.iconst 0, 1) := by decide +kernel
theorem dX0_wantsBig_15 : decode cX0_wantsBig 15 = .ok (.ireturn, 1) := by decide +kernel
theorem dX0_goIn_0 : decode cX0_goIn 0 = .ok (.aload_n 0, 1) := by decide +kernel
theorem dX0_goIn_1 : decode cX0_goIn 1 = .ok (.getfield 40, 3) := by decide +kernel
theorem dX0_goIn_4 : decode cX0_goIn 4 = .ok (.getfield 69, 3) := by decide +kernel
theorem dX0_goIn_7 : decode cX0_goIn 7 = .ok (.bipush 8, 2) := by decide +kernel
theorem dX0_goIn_9 : decode cX0_goIn 9 = .ok (.if_icmp .lt 5, 3) := by decide +kernel
theorem dX0_goIn_12 : decode cX0_goIn 12 = .ok (.iconst (-1), 1) := by decide +kernel
theorem dX0_goIn_13 : decode cX0_goIn 13 = .ok (.ireturn, 1) := by decide +kernel
theorem dX0_goIn_14 : decode cX0_goIn 14 = .ok (.aload_n 0, 1) := by decide +kernel
theorem dX0_goIn_15 : decode cX0_goIn 15 = .ok (.getfield 40, 3) := by decide +kernel
theorem dX0_goIn_18 : decode cX0_goIn 18 = .ok (.getfield 69, 3) := by decide +kernel
theorem dX0_goIn_21 : decode cX0_goIn 21 = .ok (.istore_n 1, 1) := by decide +kernel
theorem dX0_goIn_22 : decode cX0_goIn 22 = .ok (.aload_n 0, 1) := by decide +kernel
theorem dX0_goIn_23 : decode cX0_goIn 23 = .ok (.getfield 40, 3) := by decide +kernel
theorem dX0_goIn_26 : decode cX0_goIn 26 = .ok (.getfield 166, 3) := by decide +kernel
theorem dX0_goIn_29 : decode cX0_goIn 29 = .ok (.iload_n 1, 1) := by decide +kernel
theorem dX0_goIn_30 : decode cX0_goIn 30 = .ok (.aload_n 0, 1) := by decide +kernel
theorem dX0_goIn_31 : decode cX0_goIn 31 = .ok (.getfield 33, 3) := by decide +kernel
theorem dX0_goIn_34 : decode cX0_goIn 34 = .ok (.getfield 66, 3) := by decide +kernel
theorem dX0_goIn_37 : decode cX0_goIn 37 = .ok (.invokevirtual 115, 3) := by decide +kernel
theorem dX0_goIn_40 : decode cX0_goIn 40 = .ok (.aload_n 0, 1) := by decide +kernel
theorem dX0_goIn_41 : decode cX0_goIn 41 = .ok (.getfield 40, 3) := by decide +kernel
theorem dX0_goIn_44 : decode cX0_goIn 44 = .ok (.getfield 168, 3) := by decide +kernel
theorem dX0_goIn_47 : decode cX0_goIn 47 = .ok (.iload_n 1, 1) := by decide +kernel
theorem dX0_goIn_48 : decode cX0_goIn 48 = .ok (.aload_n 0, 1) := by decide +kernel
theorem dX0_goIn_49 : decode cX0_goIn 49 = .ok (.getfield 47, 3) := by decide +kernel
theorem dX0_goIn_52 : decode cX0_goIn 52 = .ok (.getfield 70, 3) := by decide +kernel
theorem dX0_goIn_55 : decode cX0_goIn 55 = .ok (.invokevirtual 115, 3) := by decide +kernel
theorem dX0_goIn_58 : decode cX0_goIn 58 = .ok (.aload_n 0, 1) := by decide +kernel
theorem dX0_goIn_59 : decode cX0_goIn 59 = .ok (.getfield 40, 3) := by decide +kernel
theorem dX0_goIn_62 : decode cX0_goIn 62 = .ok (.dup, 1) := by decide +kernel
theorem dX0_goIn_63 : decode cX0_goIn 63 = .ok (.getfield 69, 3) := by decide +kernel
theorem dX0_goIn_66 : decode cX0_goIn 66 = .ok (.iconst 1, 1) := by decide +kernel
theorem dX0_goIn_67 : decode cX0_goIn 67 = .ok (.iadd, 1) := by decide +kernel
theorem dX0_goIn_68 : decode cX0_goIn 68 = .ok (.putfield 69, 3) := by decide +kernel
theorem dX0_goIn_71 : decode cX0_goIn 71 = .ok (.iload_n 1, 1) := by decide +kernel
theorem dX0_goIn_72 : decode cX0_goIn 72 = .ok (.ireturn, 1) := by decide +kernel
theorem dX0_goOut_0 : decode cX0_goOut 0 = .ok (.aload_n 0, 1) := by decide +kernel
theorem dX0_goOut_1 : decode cX0_goOut 1 = .ok (.aload_n 0, 1) := by decide +kernel
theorem dX0_goOut_2 : decode cX0_goOut 2 = .ok (.getfield 40, 3) := by decide +kernel
theorem dX0_goOut_5 : decode cX0_goOut 5 = .ok (.getfield 69, 3) := by decide +kernel
theorem dX0_goOut_8 : decode cX0_goOut 8 = .ok (.iconst 1, 1) := by decide +kernel
theorem dX0_goOut_9 : decode cX0_goOut 9 = .ok (.isub, 1) := by decide +kernel
theorem dX0_goOut_10 : decode cX0_goOut 10 = .ok (.invokevirtual 171, 3) := by decide +kernel
theorem dX0_goOut_13 : decode cX0_goOut 13 = .ok (.istore_n 1, 1) := by decide +kernel
theorem dX0_goOut_14 : decode cX0_goOut 14 = .ok (.iload_n 1, 1) := by decide +kernel
theorem dX0_goOut_15 : decode cX0_goOut 15 = .ok (.iconst (-1), 1) := by decide +kernel
theorem dX0_goOut_16 : decode cX0_goOut 16 = .ok (.if_icmp .eq 16, 3) := by decide +kernel
theorem dX0_goOut_19 : decode cX0_goOut 19 = .ok (.aload_n 0, 1) := by decide +kernel
theorem dX0_goOut_20 : decode cX0_goOut 20 = .ok (.getfield 40, 3) := by decide +kernel
theorem dX0_goOut_23 : decode cX0_goOut 23 = .ok (.dup, 1) := by decide +kernel
theorem dX0_goOut_24 : decode cX0_goOut 24 = .ok (.getfield 69, 3) := by decide +kernel
theorem dX0_goOut_27 : decode cX0_goOut 27 = .ok (.iconst 1, 1) := by decide +kernel
theorem dX0_goOut_28 : decode cX0_goOut 28 = .ok (.isub, 1) := by decide +kernel
theorem dX0_goOut_29 : decode cX0_goOut 29 = .ok (.putfield 69, 3) := by decide +kernel
theorem dX0_goOut_32 : decode cX0_goOut 32 = .ok (.iload_n 1, 1) := by decide +kernel
theorem dX0_goOut_33 : decode cX0_goOut 33 = .ok (.ireturn, 1) := by decide +kernel
theorem dX0_goBack_0 : decode cX0_goBack 0 = .ok (.aload_n 0, 1) := by decide +kernel
theorem dX0_goBack_1 : decode cX0_goBack 1 = .ok (.getfield 40, 3) := by decide +kernel
theorem dX0_goBack_4 : decode cX0_goBack 4 = .ok (.iload_n 1, 1) := by decide +kernel
theorem dX0_goBack_5 : decode cX0_goBack 5 = .ok (.invokevirtual 174, 3) := by decide +kernel
theorem dX0_goBack_8 : decode cX0_goBack 8 = .ok (.ifCond .ne 5, 3) := by decide +kernel
theorem dX0_goBack_11 : decode cX0_goBack 11 = .ok (.iconst (-1), 1) := by decide +kernel
theorem dX0_goBack_12 : decode cX0_goBack 12 = .ok (.ireturn, 1) := by decide +kernel
theorem dX0_goBack_13 : decode cX0_goBack 13 = .ok (.aload_n 0, 1) := by decide +kernel
theorem dX0_goBack_14 : decode cX0_goBack 14 = .ok (.aload_n 0, 1) := by decide +kernel
theorem dX0_goBack_15 : decode cX0_goBack 15 = .ok (.getfield 40, 3) := by decide +kernel
theorem dX0_goBack_18 : decode cX0_goBack 18 = .ok (.getfield 166, 3) := by decide +kernel
theorem dX0_goBack_21 : decode cX0_goBack 21 = .ok (.iload_n 1, 1) := by decide +kernel
theorem dX0_goBack_22 : decode cX0_goBack 22 = .ok (.invokevirtual 91, 3) := by decide +kernel
theorem dX0_goBack_25 : decode cX0_goBack 25 = .ok (.invokevirtual 175, 3) := by decide +kernel
theorem dX0_goBack_28 : decode cX0_goBack 28 = .ok (.istore_n 2, 1) := by decide +kernel
theorem dX0_goBack_29 : decode cX0_goBack 29 = .ok (.aload_n 0, 1) := by decide +kernel
theorem dX0_goBack_30 : decode cX0_goBack 30 = .ok (.aload_n 0, 1) := by decide +kernel
theorem dX0_goBack_31 : decode cX0_goBack 31 = .ok (.getfield 40, 3) := by decide +kernel
theorem dX0_goBack_34 : decode cX0_goBack 34 = .ok (.getfield 168, 3) := by decide +kernel
theorem dX0_goBack_37 : decode cX0_goBack 37 = .ok (.iload_n 1, 1) := by decide +kernel
theorem dX0_goBack_38 : decode cX0_goBack 38 = .ok (.invokevirtual 91, 3) := by decide +kernel
theorem dX0_goBack_41 : decode cX0_goBack 41 = .ok (.invokevirtual 178, 3) := by decide +kernel
theorem dX0_goBack_44 : decode cX0_goBack 44 = .ok (.aload_n 0, 1) := by decide +kernel
theorem dX0_goBack_45 : decode cX0_goBack 45 = .ok (.invokevirtual 181, 3) := by decide +kernel
theorem dX0_goBack_48 : decode cX0_goBack 48 = .ok (.aload_n 0, 1) := by decide +kernel
theorem dX0_goBack_49 : decode cX0_goBack 49 = .ok (.getfield 40, 3) := by decide +kernel
theorem dX0_goBack_52 : decode cX0_goBack 52 = .ok (.iload_n 1, 1) := by decide +kernel
theorem dX0_goBack_53 : decode cX0_goBack 53 = .ok (.iconst 1, 1) := by decide +kernel
theorem dX0_goBack_54 : decode cX0_goBack 54 = .ok (.iadd, 1) := by decide +kernel
theorem dX0_goBack_55 : decode cX0_goBack 55 = .ok (.putfield 69, 3) := by decide +kernel
theorem dX0_goBack_58 : decode cX0_goBack 58 = .ok (.iload_n 2, 1) := by decide +kernel
theorem dX0_goBack_59 : decode cX0_goBack 59 = .ok (.ireturn, 1) := by decide +kernel
theorem dX0_strikeTents_0 : decode cX0_strikeTents 0 = .ok (.aload_n 0, 1) := by decide +kernel
theorem dX0_strikeTents_1 : decode cX0_strikeTents 1 = .ok (.getfield 33, 3) := by decide +kernel
theorem dX0_strikeTents_4 : decode cX0_strikeTents 4 = .ok (.getfield 66, 3) := by decide +kernel
theorem dX0_strikeTents_7 : decode cX0_strikeTents 7 = .ok (.iload_n 1, 1) := by decide +kernel
theorem dX0_strikeTents_8 : decode cX0_strikeTents 8 = .ok (.isub, 1) := by decide +kernel
theorem dX0_strikeTents_9 : decode cX0_strikeTents 9 = .ok (.istore_n 2, 1) := by decide +kernel
theorem dX0_strikeTents_10 : decode cX0_strikeTents 10 = .ok (.aload_n 0, 1) := by decide +kernel
theorem dX0_strikeTents_11 : decode cX0_strikeTents 11 = .ok (.getfield 18, 3) := by decide +kernel
theorem dX0_strikeTents_14 : decode cX0_strikeTents 14 = .ok (.iconst 1, 1) := by decide +kernel
theorem dX0_strikeTents_15 : decode cX0_strikeTents 15 = .ok (.if_icmp .ne 30, 3) := by decide +kernel
theorem dX0_strikeTents_18 : decode cX0_strikeTents 18 = .ok (.iload_n 1, 1) := by decide +kernel
theorem dX0_strikeTents_19 : decode cX0_strikeTents 19 = .ok (.istore_n 3, 1) := by decide +kernel
theorem dX0_strikeTents_20 : decode cX0_strikeTents 20 = .ok (.iload_n 3, 1) := by decide +kernel
theorem dX0_strikeTents_21 : decode cX0_strikeTents 21 = .ok (.aload_n 0, 1) := by decide +kernel
theorem dX0_strikeTents_22 : decode cX0_strikeTents 22 = .ok (.getfield 33, 3) := by decide +kernel
theorem dX0_strikeTents_25 : decode cX0_strikeTents 25 = .ok (.getfield 66, 3) := by decide +kernel
theorem dX0_strikeTents_28 : decode cX0_strikeTents 28 = .ok (.if_icmp .ge 17, 3) := by decide +kernel
theorem dX0_strikeTents_31 : decode cX0_strikeTents 31 = .ok (.aload_n 0, 1) := by decide +kernel
theorem dX0_strikeTents_32 : decode cX0_strikeTents 32 = .ok (.iload_n 3, 1) := by decide +kernel
theorem dX0_strikeTents_33 : decode cX0_strikeTents 33 = .ok (.bipush 100, 2) := by decide +kernel
theorem dX0_strikeTents_35 : decode cX0_strikeTents 35 = .ok (.invokevirtual 184, 3) := by decide +kernel
theorem dX0_strikeTents_38 : decode cX0_strikeTents 38 = .ok (.pop, 1) := by decide +kernel
theorem dX0_strikeTents_39 : decode cX0_strikeTents 39 = .ok (.iinc 3 1, 3) := by decide +kernel
theorem dX0_strikeTents_42 : decode cX0_strikeTents 42 = .ok (.goto (-22), 3) := by decide +kernel
theorem dX0_strikeTents_45 : decode cX0_strikeTents 45 = .ok (.aload_n 0, 1) := by decide +kernel
theorem dX0_strikeTents_46 : decode cX0_strikeTents 46 = .ok (.getfield 33, 3) := by decide +kernel
theorem dX0_strikeTents_49 : decode cX0_strikeTents 49 = .ok (.iload_n 1, 1) := by decide +kernel
theorem dX0_strikeTents_50 : decode cX0_strikeTents 50 = .ok (.putfield 66, 3) := by decide +kernel
theorem dX0_strikeTents_53 : decode cX0_strikeTents 53 = .ok (.aload_n 0, 1) := by decide +kernel
theorem dX0_strikeTents_54 : decode cX0_strikeTents 54 = .ok (.dup, 1) := by decide +kernel
theorem dX0_strikeTents_55 : decode cX0_strikeTents 55 = .ok (.getfield 54, 3) := by decide +kernel
theorem dX0_strikeTents_58 : decode cX0_strikeTents 58 = .ok (.iload_n 2, 1) := by decide +kernel
theorem dX0_strikeTents_59 : decode cX0_strikeTents 59 = .ok (.iadd, 1) := by decide +kernel
theorem dX0_strikeTents_60 : decode cX0_strikeTents 60 = .ok (.putfield 54, 3) := by decide +kernel
theorem dX0_strikeTents_63 : decode cX0_strikeTents 63 = .ok (.iload_n 2, 1) := by decide +kernel
theorem dX0_strikeTents_64 : decode cX0_strikeTents 64 = .ok (.ireturn, 1) := by decide +kernel
theorem dX0_strewTent_0 : decode cX0_strewTent 0 = .ok (.aload_n 0, 1) := by decide +kernel
theorem dX0_strewTent_1 : decode cX0_strewTent 1 = .ok (.getfield 33, 3) := by decide +kernel
theorem dX0_strewTent_4 : decode cX0_strewTent 4 = .ok (.iload_n 1, 1) := by decide +kernel
theorem dX0_strewTent_5 : decode cX0_strewTent 5 = .ok (.invokevirtual 157, 3) := by decide +kernel
theorem dX0_strewTent_8 : decode cX0_strewTent 8 = .ok (.ifCond .ne 5, 3) := by decide +kernel
theorem dX0_strewTent_11 : decode cX0_strewTent 11 = .ok (.iconst (-1), 1) := by decide +kernel
theorem dX0_strewTent_12 : decode cX0_strewTent 12 = .ok (.ireturn, 1) := by decide +kernel
theorem dX0_strewTent_13 : decode cX0_strewTent 13 = .ok (.aload_n 0, 1) := by decide +kernel
theorem dX0_strewTent_14 : decode cX0_strewTent 14 = .ok (.getfield 47, 3) := by decide +kernel
theorem dX0_strewTent_17 : decode cX0_strewTent 17 = .ok (.getfield 119, 3) := by decide +kernel
theorem dX0_strewTent_20 : decode cX0_strewTent 20 = .ok (.aload_n 0, 1) := by decide +kernel
theorem dX0_strewTent_21 : decode cX0_strewTent 21 = .ok (.getfield 33, 3) := by decide +kernel
theorem dX0_strewTent_24 : decode cX0_strewTent 24 = .ok (.getfield 136, 3) := by decide +kernel
theorem dX0_strewTent_27 : decode cX0_strewTent 27 = .ok (.iload_n 1, 1) := by decide +kernel
theorem dX0_strewTent_28 : decode cX0_strewTent 28 = .ok (.invokevirtual 91, 3) := by decide +kernel
theorem dX0_strewTent_31 : decode cX0_strewTent 31 = .ok (.invokevirtual 91, 3) := by decide +kernel
theorem dX0_strewTent_34 : decode cX0_strewTent 34 = .ok (.istore_n 3, 1) := by decide +kernel
theorem dX0_strewTent_35 : decode cX0_strewTent 35 = .ok (.iload_n 3, 1) := by decide +kernel
theorem dX0_strewTent_36 : decode cX0_strewTent 36 = .ok (.aload_n 0, 1) := by decide +kernel
theorem dX0_strewTent_37 : decode cX0_strewTent 37 = .ok (.getfield 33, 3) := by decide +kernel
theorem dX0_strewTent_40 : decode cX0_strewTent 40 = .ok (.getfield 139, 3) := by decide +kernel
theorem dX0_strewTent_43 : decode cX0_strewTent 43 = .ok (.iload_n 1, 1) := by decide +kernel
theorem dX0_strewTent_44 : decode cX0_strewTent 44 = .ok (.invokevirtual 91, 3) := by decide +kernel
theorem dX0_strewTent_47 : decode cX0_strewTent 47 = .ok (.iadd, 1) := by decide +kernel
theorem dX0_strewTent_48 : decode cX0_strewTent 48 = .ok (.istore 4, 2) := by decide +kernel
theorem dX0_strewTent_50 : decode cX0_strewTent 50 = .ok (.iload_n 3, 1) := by decide +kernel
theorem dX0_strewTent_51 : decode cX0_strewTent 51 = .ok (.aload_n 0, 1) := by decide +kernel
theorem dX0_strewTent_52 : decode cX0_strewTent 52 = .ok (.getfield 33, 3) := by decide +kernel
theorem dX0_strewTent_55 : decode cX0_strewTent 55 = .ok (.iload_n 1, 1) := by decide +kernel
theorem dX0_strewTent_56 : decode cX0_strewTent 56 = .ok (.invokevirtual 160, 3) := by decide +kernel
theorem dX0_strewTent_59 : decode cX0_strewTent 59 = .ok (.iadd, 1) := by decide +kernel
theorem dX0_strewTent_60 : decode cX0_strewTent 60 = .ok (.istore 5, 2) := by decide +kernel
theorem dX0_strewTent_62 : decode cX0_strewTent 62 = .ok (.aload_n 0, 1) := by decide +kernel
theorem dX0_strewTent_63 : decode cX0_strewTent 63 = .ok (.getfield 26, 3) := by decide +kernel
theorem dX0_strewTent_66 : decode cX0_strewTent 66 = .ok (.bipush 100, 2) := by decide +kernel
theorem dX0_strewTent_68 : decode cX0_strewTent 68 = .ok (.iload 4, 2) := by decide +kernel
theorem dX0_strewTent_70 : decode cX0_strewTent 70 = .ok (.iload 5, 2) := by decide +kernel
theorem dX0_strewTent_72 : decode cX0_strewTent 72 = .ok (.invokevirtual 162, 3) := by decide +kernel
theorem dX0_strewTent_75 : decode cX0_strewTent 75 = .ok (.istore 6, 2) := by decide +kernel
theorem dX0_strewTent_77 : decode cX0_strewTent 77 = .ok (.aload_n 0, 1) := by decide +kernel
theorem dX0_strewTent_78 : decode cX0_strewTent 78 = .ok (.getfield 26, 3) := by decide +kernel
theorem dX0_strewTent_81 : decode cX0_strewTent 81 = .ok (.iload_n 2, 1) := by decide +kernel
theorem dX0_strewTent_82 : decode cX0_strewTent 82 = .ok (.iload 4, 2) := by decide +kernel
theorem dX0_strewTent_84 : decode cX0_strewTent 84 = .ok (.iload 5, 2) := by decide +kernel
theorem dX0_strewTent_86 : decode cX0_strewTent 86 = .ok (.invokevirtual 129, 3) := by decide +kernel
theorem dX0_strewTent_89 : decode cX0_strewTent 89 = .ok (.iload 6, 2) := by decide +kernel
theorem dX0_strewTent_91 : decode cX0_strewTent 91 = .ok (.ireturn, 1) := by decide +kernel
theorem dX0_clearFields_0 : decode cX0_clearFields 0 = .ok (.aload_n 0, 1) := by decide +kernel
theorem dX0_clearFields_1 : decode cX0_clearFields 1 = .ok (.getfield 47, 3) := by decide +kernel
theorem dX0_clearFields_4 : decode cX0_clearFields 4 = .ok (.getfield 70, 3) := by decide +kernel
theorem dX0_clearFields_7 : decode cX0_clearFields 7 = .ok (.iconst 1, 1) := by decide +kernel
theorem dX0_clearFields_8 : decode cX0_clearFields 8 = .ok (.isub, 1) := by decide +kernel
theorem dX0_clearFields_9 : decode cX0_clearFields 9 = .ok (.istore_n 2, 1) := by decide +kernel
theorem dX0_clearFields_10 : decode cX0_clearFields 10 = .ok (.iload_n 2, 1) := by decide +kernel
theorem dX0_clearFields_11 : decode cX0_clearFields 11 = .ok (.iload_n 1, 1) := by decide +kernel
theorem dX0_clearFields_12 : decode cX0_clearFields 12 = .ok (.if_icmp .lt 40, 3) := by decide +kernel
theorem dX0_clearFields_15 : decode cX0_clearFields 15 = .ok (.aload_n 0, 1) := by decide +kernel
theorem dX0_clearFields_16 : decode cX0_clearFields 16 = .ok (.getfield 51, 3) := by decide +kernel
theorem dX0_clearFields_19 : decode cX0_clearFields 19 = .ok (.aload_n 0, 1) := by decide +kernel
theorem dX0_clearFields_20 : decode cX0_clearFields 20 = .ok (.getfield 47, 3) := by decide +kernel
theorem dX0_clearFields_23 : decode cX0_clearFields 23 = .ok (.getfield 119, 3) := by decide +kernel
theorem dX0_clearFields_26 : decode cX0_clearFields 26 = .ok (.iload_n 2, 1) := by decide +kernel
theorem dX0_clearFields_27 : decode cX0_clearFields 27 = .ok (.invokevirtual 91, 3) := by decide +kernel
theorem dX0_clearFields_30 : decode cX0_clearFields 30 = .ok (.aload_n 0, 1) := by decide +kernel
theorem dX0_clearFields_31 : decode cX0_clearFields 31 = .ok (.getfield 47, 3) := by decide +kernel
theorem dX0_clearFields_34 : decode cX0_clearFields 34 = .ok (.getfield 103, 3) := by decide +kernel
theorem dX0_clearFields_37 : decode cX0_clearFields 37 = .ok (.iload_n 2, 1) := by decide +kernel
theorem dX0_clearFields_38 : decode cX0_clearFields 38 = .ok (.invokevirtual 91, 3) := by decide +kernel
theorem dX0_clearFields_41 : decode cX0_clearFields 41 = .ok (.iconst 0, 1) := by decide +kernel
theorem dX0_clearFields_42 : decode cX0_clearFields 42 = .ok (.iconst 0, 1) := by decide +kernel
theorem dX0_clearFields_43 : decode cX0_clearFields 43 = .ok (.invokevirtual 122, 3) := by decide +kernel
theorem dX0_clearFields_46 : decode cX0_clearFields 46 = .ok (.iinc 2 (-1), 3) := by decide +kernel
theorem dX0_clearFields_49 : decode cX0_clearFields 49 = .ok (.goto (-39), 3) := by decide +kernel
theorem dX0_clearFields_52 : decode cX0_clearFields 52 = .ok (.aload_n 0, 1) := by decide +kernel
theorem dX0_clearFields_53 : decode cX0_clearFields 53 = .ok (.getfield 47, 3) := by decide +kernel
theorem dX0_clearFields_56 : decode cX0_clearFields 56 = .ok (.iload_n 1, 1) := by decide +kernel
theorem dX0_clearFields_57 : decode cX0_clearFields 57 = .ok (.putfield 70, 3) := by decide +kernel
theorem dX0_clearFields_60 : decode cX0_clearFields 60 = .ok (.iconst 0, 1) := by decide +kernel
theorem dX0_clearFields_61 : decode cX0_clearFields 61 = .ok (.istore_n 2, 1) := by decide +kernel
theorem dX0_clearFields_62 : decode cX0_clearFields 62 = .ok (.iload_n 2, 1) := by decide +kernel
theorem dX0_clearFields_63 : decode cX0_clearFields 63 = .ok (.aload_n 0, 1) := by decide +kernel
theorem dX0_clearFields_64 : decode cX0_clearFields 64 = .ok (.getfield 33, 3) := by decide +kernel
theorem dX0_clearFields_67 : decode cX0_clearFields 67 = .ok (.getfield 66, 3) := by decide +kernel
theorem dX0_clearFields_70 : decode cX0_clearFields 70 = .ok (.if_icmp .ge 38, 3) := by decide +kernel
theorem dX0_clearFields_73 : decode cX0_clearFields 73 = .ok (.aload_n 0, 1) := by decide +kernel
theorem dX0_clearFields_74 : decode cX0_clearFields 74 = .ok (.getfield 47, 3) := by decide +kernel
theorem dX0_clearFields_77 : decode cX0_clearFields 77 = .ok (.getfield 88, 3) := by decide +kernel
theorem dX0_clearFields_80 : decode cX0_clearFields 80 = .ok (.aload_n 0, 1) := by decide +kernel
theorem dX0_clearFields_81 : decode cX0_clearFields 81 = .ok (.getfield 33, 3) := by decide +kernel
theorem dX0_clearFields_84 : decode cX0_clearFields 84 = .ok (.getfield 136, 3) := by decide +kernel
theorem dX0_clearFields_87 : decode cX0_clearFields 87 = .ok (.iload_n 2, 1) := by decide +kernel
theorem dX0_clearFields_88 : decode cX0_clearFields 88 = .ok (.invokevirtual 91, 3) := by decide +kernel
theorem dX0_clearFields_91 : decode cX0_clearFields 91 = .ok (.aload_n 0, 1) := by decide +kernel
theorem dX0_clearFields_92 : decode cX0_clearFields 92 = .ok (.getfield 33, 3) := by decide +kernel
theorem dX0_clearFields_95 : decode cX0_clearFields 95 = .ok (.iload_n 2, 1) := by decide +kernel
theorem dX0_clearFields_96 : decode cX0_clearFields 96 = .ok (.invokevirtual 160, 3) := by decide +kernel
theorem dX0_clearFields_99 : decode cX0_clearFields 99 = .ok (.invokevirtual 115, 3) := by decide +kernel
theorem dX0_clearFields_102 : decode cX0_clearFields 102 = .ok (.iinc 2 1, 3) := by decide +kernel
theorem dX0_clearFields_105 : decode cX0_clearFields 105 = .ok (.goto (-43), 3) := by decide +kernel
theorem dX0_clearFields_108 : decode cX0_clearFields 108 = .ok (.return_, 1) := by decide +kernel
theorem dX0_giveUpTooMuch_0 : decode cX0_giveUpTooMuch 0 = .ok (.iconst 0, 1) := by decide +kernel
theorem dX0_giveUpTooMuch_1 : decode cX0_giveUpTooMuch 1 = .ok (.istore_n 1, 1) := by decide +kernel
theorem dX0_giveUpTooMuch_2 : decode cX0_giveUpTooMuch 2 = .ok (.iload_n 1, 1) := by decide +kernel
theorem dX0_giveUpTooMuch_3 : decode cX0_giveUpTooMuch 3 = .ok (.bipush 51, 2) := by decide +kernel
theorem dX0_giveUpTooMuch_5 : decode cX0_giveUpTooMuch 5 = .ok (.if_icmp .ge 105, 3) := by decide +kernel
theorem dX0_giveUpTooMuch_8 : decode cX0_giveUpTooMuch 8 = .ok (.aload_n 0, 1) := by decide +kernel
theorem dX0_giveUpTooMuch_9 : decode cX0_giveUpTooMuch 9 = .ok (.getfield 51, 3) := by decide +kernel
theorem dX0_giveUpTooMuch_12 : decode cX0_giveUpTooMuch 12 = .ok (.invokevirtual 187, 3) := by decide +kernel
theorem dX0_giveUpTooMuch_15 : decode cX0_giveUpTooMuch 15 = .ok (.aload_n 0, 1) := by decide +kernel
theorem dX0_giveUpTooMuch_16 : decode cX0_giveUpTooMuch 16 = .ok (.getfield 15, 3) := by decide +kernel
theorem dX0_giveUpTooMuch_19 : decode cX0_giveUpTooMuch 19 = .ok (.if_icmp .le 91, 3) := by decide +kernel
theorem dX0_giveUpTooMuch_22 : decode cX0_giveUpTooMuch 22 = .ok (.aload_n 0, 1) := by decide +kernel
theorem dX0_giveUpTooMuch_23 : decode cX0_giveUpTooMuch 23 = .ok (.getfield 51, 3) := by decide +kernel
theorem dX0_giveUpTooMuch_26 : decode cX0_giveUpTooMuch 26 = .ok (.invokevirtual 190, 3) := by decide +kernel
theorem dX0_giveUpTooMuch_29 : decode cX0_giveUpTooMuch 29 = .ok (.istore_n 2, 1) := by decide +kernel
theorem dX0_giveUpTooMuch_30 : decode cX0_giveUpTooMuch 30 = .ok (.aload_n 0, 1) := by decide +kernel
theorem dX0_giveUpTooMuch_31 : decode cX0_giveUpTooMuch 31 = .ok (.getfield 51, 3) := by decide +kernel
theorem dX0_giveUpTooMuch_34 : decode cX0_giveUpTooMuch 34 = .ok (.getfield 119, 3) := by decide +kernel
theorem dX0_giveUpTooMuch_37 : decode cX0_giveUpTooMuch 37 = .ok (.iload_n 2, 1) := by decide +kernel
theorem dX0_giveUpTooMuch_38 : decode cX0_giveUpTooMuch 38 = .ok (.invokevirtual 91, 3) := by decide +kernel
theorem dX0_giveUpTooMuch_41 : decode cX0_giveUpTooMuch 41 = .ok (.istore_n 3, 1) := by decide +kernel
theorem dX0_giveUpTooMuch_42 : decode cX0_giveUpTooMuch 42 = .ok (.aload_n 0, 1) := by decide +kernel
theorem dX0_giveUpTooMuch_43 : decode cX0_giveUpTooMuch 43 = .ok (.getfield 51, 3) := by decide +kernel
theorem dX0_giveUpTooMuch_46 : decode cX0_giveUpTooMuch 46 = .ok (.getfield 103, 3) := by decide +kernel
theorem dX0_giveUpTooMuch_49 : decode cX0_giveUpTooMuch 49 = .ok (.iload_n 2, 1) := by decide +kernel
theorem dX0_giveUpTooMuch_50 : decode cX0_giveUpTooMuch 50 = .ok (.invokevirtual 91, 3) := by decide +kernel
theorem dX0_giveUpTooMuch_53 : decode cX0_giveUpTooMuch 53 = .ok (.istore 4, 2) := by decide +kernel
theorem dX0_giveUpTooMuch_55 : decode cX0_giveUpTooMuch 55 = .ok (.aload_n 0, 1) := by decide +kernel
theorem dX0_giveUpTooMuch_56 : decode cX0_giveUpTooMuch 56 = .ok (.getfield 51, 3) := by decide +kernel
theorem dX0_giveUpTooMuch_59 : decode cX0_giveUpTooMuch 59 = .ok (.iload_n 2, 1) := by decide +kernel
theorem dX0_giveUpTooMuch_60 : decode cX0_giveUpTooMuch 60 = .ok (.invokevirtual 126, 3) := by decide +kernel
theorem dX0_giveUpTooMuch_63 : decode cX0_giveUpTooMuch 63 = .ok (.aload_n 0, 1) := by decide +kernel
theorem dX0_giveUpTooMuch_64 : decode cX0_giveUpTooMuch 64 = .ok (.getfield 26, 3) := by decide +kernel
theorem dX0_giveUpTooMuch_67 : decode cX0_giveUpTooMuch 67 = .ok (.iload_n 3, 1) := by decide +kernel
theorem dX0_giveUpTooMuch_68 : decode cX0_giveUpTooMuch 68 = .ok (.iload 4, 2) := by decide +kernel
theorem dX0_giveUpTooMuch_70 : decode cX0_giveUpTooMuch 70 = .ok (.invokevirtual 193, 3) := by decide +kernel
theorem dX0_giveUpTooMuch_73 : decode cX0_giveUpTooMuch 73 = .ok (.aload_n 0, 1) := by decide +kernel
theorem dX0_giveUpTooMuch_74 : decode cX0_giveUpTooMuch 74 = .ok (.getfield 47, 3) := by decide +kernel
theorem dX0_giveUpTooMuch_77 : decode cX0_giveUpTooMuch 77 = .ok (.iload_n 3, 1) := by decide +kernel
theorem dX0_giveUpTooMuch_78 : decode cX0_giveUpTooMuch 78 = .ok (.iload 4, 2) := by decide +kernel
theorem dX0_giveUpTooMuch_80 : decode cX0_giveUpTooMuch 80 = .ok (.invokevirtual 196, 3) := by decide +kernel
theorem dX0_giveUpTooMuch_83 : decode cX0_giveUpTooMuch 83 = .ok (.aload_n 0, 1) := by decide +kernel
theorem dX0_giveUpTooMuch_84 : decode cX0_giveUpTooMuch 84 = .ok (.getfield 51, 3) := by decide +kernel
theorem dX0_giveUpTooMuch_87 : decode cX0_giveUpTooMuch 87 = .ok (.iload_n 3, 1) := by decide +kernel
theorem dX0_giveUpTooMuch_88 : decode cX0_giveUpTooMuch 88 = .ok (.iload 4, 2) := by decide +kernel
theorem dX0_giveUpTooMuch_90 : decode cX0_giveUpTooMuch 90 = .ok (.invokevirtual 196, 3) := by decide +kernel
theorem dX0_giveUpTooMuch_93 : decode cX0_giveUpTooMuch 93 = .ok (.aload_n 0, 1) := by decide +kernel
theorem dX0_giveUpTooMuch_94 : decode cX0_giveUpTooMuch 94 = .ok (.dup, 1) := by decide +kernel
theorem dX0_giveUpTooMuch_95 : decode cX0_giveUpTooMuch 95 = .ok (.getfield 63, 3) := by decide +kernel
theorem dX0_giveUpTooMuch_98 : decode cX0_giveUpTooMuch 98 = .ok (.iload 4, 2) := by decide +kernel
theorem dX0_giveUpTooMuch_100 : decode cX0_giveUpTooMuch 100 = .ok (.isub, 1) := by decide +kernel
theorem dX0_giveUpTooMuch_101 : decode cX0_giveUpTooMuch 101 = .ok (.putfield 63, 3) := by decide +kernel
theorem dX0_giveUpTooMuch_104 : decode cX0_giveUpTooMuch 104 = .ok (.iinc 1 1, 3) := by decide +kernel
theorem dX0_giveUpTooMuch_107 : decode cX0_giveUpTooMuch 107 = .ok (.goto (-105), 3) := by decide +kernel
theorem dX0_giveUpTooMuch_110 : decode cX0_giveUpTooMuch 110 = .ok (.return_, 1) := by decide +kernel
theorem dX0_gaps_0 : decode cX0_gaps 0 = .ok (.aload_n 0, 1) := by decide +kernel
theorem dX0_gaps_1 : decode cX0_gaps 1 = .ok (.getfield 47, 3) := by decide +kernel
theorem dX0_gaps_4 : decode cX0_gaps 4 = .ok (.invokevirtual 95, 3) := by decide +kernel
theorem dX0_gaps_7 : decode cX0_gaps 7 = .ok (.istore_n 1, 1) := by decide +kernel
theorem dX0_gaps_8 : decode cX0_gaps 8 = .ok (.iconst 0, 1) := by decide +kernel
theorem dX0_gaps_9 : decode cX0_gaps 9 = .ok (.istore_n 2, 1) := by decide +kernel
theorem dX0_gaps_10 : decode cX0_gaps 10 = .ok (.iconst 0, 1) := by decide +kernel
theorem dX0_gaps_11 : decode cX0_gaps 11 = .ok (.istore_n 3, 1) := by decide +kernel
theorem dX0_gaps_12 : decode cX0_gaps 12 = .ok (.iload_n 3, 1) := by decide +kernel
theorem dX0_gaps_13 : decode cX0_gaps 13 = .ok (.iload_n 1, 1) := by decide +kernel
theorem dX0_gaps_14 : decode cX0_gaps 14 = .ok (.if_icmp .gt 56, 3) := by decide +kernel
theorem dX0_gaps_17 : decode cX0_gaps 17 = .ok (.aload_n 0, 1) := by decide +kernel
theorem dX0_gaps_18 : decode cX0_gaps 18 = .ok (.getfield 47, 3) := by decide +kernel
theorem dX0_gaps_21 : decode cX0_gaps 21 = .ok (.getfield 199, 3) := by decide +kernel
theorem dX0_gaps_24 : decode cX0_gaps 24 = .ok (.iload_n 3, 1) := by decide +kernel
theorem dX0_gaps_25 : decode cX0_gaps 25 = .ok (.invokevirtual 91, 3) := by decide +kernel
theorem dX0_gaps_28 : decode cX0_gaps 28 = .ok (.ifCond .ne 36, 3) := by decide +kernel
theorem dX0_gaps_31 : decode cX0_gaps 31 = .ok (.iload_n 2, 1) := by decide +kernel
theorem dX0_gaps_32 : decode cX0_gaps 32 = .ok (.iload_n 3, 1) := by decide +kernel
theorem dX0_gaps_33 : decode cX0_gaps 33 = .ok (.iload_n 1, 1) := by decide +kernel
theorem dX0_gaps_34 : decode cX0_gaps 34 = .ok (.if_icmp .ne 17, 3) := by decide +kernel
theorem dX0_gaps_37 : decode cX0_gaps 37 = .ok (.aload_n 0, 1) := by decide +kernel
theorem dX0_gaps_38 : decode cX0_gaps 38 = .ok (.getfield 47, 3) := by decide +kernel
theorem dX0_gaps_41 : decode cX0_gaps 41 = .ok (.getfield 88, 3) := by decide +kernel
theorem dX0_gaps_44 : decode cX0_gaps 44 = .ok (.iload_n 3, 1) := by decide +kernel
theorem dX0_gaps_45 : decode cX0_gaps 45 = .ok (.invokevirtual 91, 3) := by decide +kernel
theorem dX0_gaps_48 : decode cX0_gaps 48 = .ok (.goto 14, 3) := by decide +kernel
theorem dX0_gaps_51 : decode cX0_gaps 51 = .ok (.aload_n 0, 1) := by decide +kernel
theorem dX0_gaps_52 : decode cX0_gaps 52 = .ok (.getfield 47, 3) := by decide +kernel
theorem dX0_gaps_55 : decode cX0_gaps 55 = .ok (.getfield 103, 3) := by decide +kernel
theorem dX0_gaps_58 : decode cX0_gaps 58 = .ok (.iload_n 3, 1) := by decide +kernel
theorem dX0_gaps_59 : decode cX0_gaps 59 = .ok (.invokevirtual 91, 3) := by decide +kernel
theorem dX0_gaps_62 : decode cX0_gaps 62 = .ok (.iadd, 1) := by decide +kernel
theorem dX0_gaps_63 : decode cX0_gaps 63 = .ok (.istore_n 2, 1) := by decide +kernel
theorem dX0_gaps_64 : decode cX0_gaps 64 = .ok (.iinc 3 1, 3) := by decide +kernel
theorem dX0_gaps_67 : decode cX0_gaps 67 = .ok (.goto (-55), 3) := by decide +kernel
theorem dX0_gaps_70 : decode cX0_gaps 70 = .ok (.iconst 0, 1) := by decide +kernel
theorem dX0_gaps_71 : decode cX0_gaps 71 = .ok (.istore_n 3, 1) := by decide +kernel
theorem dX0_gaps_72 : decode cX0_gaps 72 = .ok (.iload_n 3, 1) := by decide +kernel
theorem dX0_gaps_73 : decode cX0_gaps 73 = .ok (.aload_n 0, 1) := by decide +kernel
theorem dX0_gaps_74 : decode cX0_gaps 74 = .ok (.getfield 33, 3) := by decide +kernel
theorem dX0_gaps_77 : decode cX0_gaps 77 = .ok (.getfield 66, 3) := by decide +kernel
theorem dX0_gaps_80 : decode cX0_gaps 80 = .ok (.if_icmp .ge 47, 3) := by decide +kernel
theorem dX0_gaps_83 : decode cX0_gaps 83 = .ok (.aload_n 0, 1) := by decide +kernel
theorem dX0_gaps_84 : decode cX0_gaps 84 = .ok (.getfield 47, 3) := by decide +kernel
theorem dX0_gaps_87 : decode cX0_gaps 87 = .ok (.getfield 199, 3) := by decide +kernel
theorem dX0_gaps_90 : decode cX0_gaps 90 = .ok (.aload_n 0, 1) := by decide +kernel
theorem dX0_gaps_91 : decode cX0_gaps 91 = .ok (.getfield 33, 3) := by decide +kernel
theorem dX0_gaps_94 : decode cX0_gaps 94 = .ok (.getfield 136, 3) := by decide +kernel
theorem dX0_gaps_97 : decode cX0_gaps 97 = .ok (.iload_n 3, 1) := by decide +kernel
theorem dX0_gaps_98 : decode cX0_gaps 98 = .ok (.invokevirtual 91, 3) := by decide +kernel
theorem dX0_gaps_101 : decode cX0_gaps 101 = .ok (.invokevirtual 91, 3) := by decide +kernel
theorem dX0_gaps_104 : decode cX0_gaps 104 = .ok (.ifCond .ne 17, 3) := by decide +kernel
theorem dX0_gaps_107 : decode cX0_gaps 107 = .ok (.iload_n 2, 1) := by decide +kernel
theorem dX0_gaps_108 : decode cX0_gaps 108 = .ok (.aload_n 0, 1) := by decide +kernel
theorem dX0_gaps_109 : decode cX0_gaps 109 = .ok (.getfield 33, 3) := by decide +kernel
theorem dX0_gaps_112 : decode cX0_gaps 112 = .ok (.getfield 142, 3) := by decide +kernel
theorem dX0_gaps_115 : decode cX0_gaps 115 = .ok (.iload_n 3, 1) := by decide +kernel
theorem dX0_gaps_116 : decode cX0_gaps 116 = .ok (.invokevirtual 91, 3) := by decide +kernel
theorem dX0_gaps_119 : decode cX0_gaps 119 = .ok (.isub, 1) := by decide +kernel
theorem dX0_gaps_120 : decode cX0_gaps 120 = .ok (.istore_n 2, 1) := by decide +kernel
theorem dX0_gaps_121 : decode cX0_gaps 121 = .ok (.iinc 3 1, 3) := by decide +kernel
theorem dX0_gaps_124 : decode cX0_gaps 124 = .ok (.goto (-52), 3) := by decide +kernel
theorem dX0_gaps_127 : decode cX0_gaps 127 = .ok (.iload_n 2, 1) := by decide +kernel
theorem dX0_gaps_128 : decode cX0_gaps 128 = .ok (.ireturn, 1) := by decide +kernel
theorem dX0_copy_0 : decode cX0_copy 0 = .ok (.aload_n 0, 1) := by decide +kernel
theorem dX0_copy_1 : decode cX0_copy 1 = .ok (.aload_n 1, 1) := by decide +kernel
theorem dX0_copy_2 : decode cX0_copy 2 = .ok (.getfield 9, 3) := by decide +kernel
theorem dX0_copy_5 : decode cX0_copy 5 = .ok (.putfield 9, 3) := by decide +kernel
theorem dX0_copy_8 : decode cX0_copy 8 = .ok (.aload_n 0, 1) := by decide +kernel
theorem dX0_copy_9 : decode cX0_copy 9 = .ok (.aload_n 1, 1) := by decide +kernel
theorem dX0_copy_10 : decode cX0_copy 10 = .ok (.getfield 15, 3) := by decide +kernel
theorem dX0_copy_13 : decode cX0_copy 13 = .ok (.putfield 15, 3) := by decide +kernel
theorem dX0_copy_16 : decode cX0_copy 16 = .ok (.aload_n 0, 1) := by decide +kernel
theorem dX0_copy_17 : decode cX0_copy 17 = .ok (.aload_n 1, 1) := by decide +kernel
theorem dX0_copy_18 : decode cX0_copy 18 = .ok (.getfield 18, 3) := by decide +kernel
theorem dX0_copy_21 : decode cX0_copy 21 = .ok (.putfield 18, 3) := by decide +kernel
theorem dX0_copy_24 : decode cX0_copy 24 = .ok (.aload_n 0, 1) := by decide +kernel
theorem dX0_copy_25 : decode cX0_copy 25 = .ok (.aload_n 1, 1) := by decide +kernel
theorem dX0_copy_26 : decode cX0_copy 26 = .ok (.getfield 54, 3) := by decide +kernel
theorem dX0_copy_29 : decode cX0_copy 29 = .ok (.putfield 54, 3) := by decide +kernel
theorem dX0_copy_32 : decode cX0_copy 32 = .ok (.aload_n 0, 1) := by decide +kernel
theorem dX0_copy_33 : decode cX0_copy 33 = .ok (.aload_n 1, 1) := by decide +kernel
theorem dX0_copy_34 : decode cX0_copy 34 = .ok (.getfield 57, 3) := by decide +kernel
theorem dX0_copy_37 : decode cX0_copy 37 = .ok (.putfield 57, 3) := by decide +kernel
theorem dX0_copy_40 : decode cX0_copy 40 = .ok (.aload_n 0, 1) := by decide +kernel
theorem dX0_copy_41 : decode cX0_copy 41 = .ok (.aload_n 1, 1) := by decide +kernel
theorem dX0_copy_42 : decode cX0_copy 42 = .ok (.getfield 60, 3) := by decide +kernel
theorem dX0_copy_45 : decode cX0_copy 45 = .ok (.putfield 60, 3) := by decide +kernel
theorem dX0_copy_48 : decode cX0_copy 48 = .ok (.aload_n 0, 1) := by decide +kernel
theorem dX0_copy_49 : decode cX0_copy 49 = .ok (.aload_n 1, 1) := by decide +kernel
theorem dX0_copy_50 : decode cX0_copy 50 = .ok (.getfield 63, 3) := by decide +kernel
theorem dX0_copy_53 : decode cX0_copy 53 = .ok (.putfield 63, 3) := by decide +kernel
theorem dX0_copy_56 : decode cX0_copy 56 = .ok (.aload_n 0, 1) := by decide +kernel
theorem dX0_copy_57 : decode cX0_copy 57 = .ok (.getfield 26, 3) := by decide +kernel
theorem dX0_copy_60 : decode cX0_copy 60 = .ok (.aload_n 1, 1) := by decide +kernel
theorem dX0_copy_61 : decode cX0_copy 61 = .ok (.getfield 26, 3) := by decide +kernel
theorem dX0_copy_64 : decode cX0_copy 64 = .ok (.invokevirtual 71, 3) := by decide +kernel
theorem dX0_copy_67 : decode cX0_copy 67 = .ok (.aload_n 0, 1) := by decide +kernel
theorem dX0_copy_68 : decode cX0_copy 68 = .ok (.getfield 33, 3) := by decide +kernel
theorem dX0_copy_71 : decode cX0_copy 71 = .ok (.aload_n 1, 1) := by decide +kernel
theorem dX0_copy_72 : decode cX0_copy 72 = .ok (.getfield 33, 3) := by decide +kernel
theorem dX0_copy_75 : decode cX0_copy 75 = .ok (.invokevirtual 75, 3) := by decide +kernel
theorem dX0_copy_78 : decode cX0_copy 78 = .ok (.aload_n 0, 1) := by decide +kernel
theorem dX0_copy_79 : decode cX0_copy 79 = .ok (.getfield 40, 3) := by decide +kernel
theorem dX0_copy_82 : decode cX0_copy 82 = .ok (.aload_n 1, 1) := by decide +kernel
theorem dX0_copy_83 : decode cX0_copy 83 = .ok (.getfield 40, 3) := by decide +kernel
theorem dX0_copy_86 : decode cX0_copy 86 = .ok (.invokevirtual 78, 3) := by decide +kernel
theorem dX0_copy_89 : decode cX0_copy 89 = .ok (.aload_n 0, 1) := by decide +kernel
theorem dX0_copy_90 : decode cX0_copy 90 = .ok (.getfield 47, 3) := by decide +kernel
theorem dX0_copy_93 : decode cX0_copy 93 = .ok (.aload_n 1, 1) := by decide +kernel
theorem dX0_copy_94 : decode cX0_copy 94 = .ok (.getfield 47, 3) := by decide +kernel
theorem dX0_copy_97 : decode cX0_copy 97 = .ok (.invokevirtual 81, 3) := by decide +kernel
theorem dX0_copy_100 : decode cX0_copy 100 = .ok (.aload_n 0, 1) := by decide +kernel
theorem dX0_copy_101 : decode cX0_copy 101 = .ok (.getfield 51, 3) := by decide +kernel
theorem dX0_copy_104 : decode cX0_copy 104 = .ok (.aload_n 1, 1) := by decide +kernel
theorem dX0_copy_105 : decode cX0_copy 105 = .ok (.getfield 51, 3) := by decide +kernel
theorem dX0_copy_108 : decode cX0_copy 108 = .ok (.invokevirtual 81, 3) := by decide +kernel
theorem dX0_copy_111 : decode cX0_copy 111 = .ok (.return_, 1) := by decide +kernel
