theorem dX8_init_0 : decode cX8_init 0 = .ok (.aload_n 0, 1) := by decide +kernel
theorem dX8_init_1 : decode cX8_init 1 = .ok (.invokespecial 1, 3) := by decide +kernel
theorem dX8_init_4 : decode cX8_init 4 = .ok (.aload_n 0, 1) := by decide +kernel
theorem dX8_init_5 : decode cX8_init 5 = .ok (.new 7, 3) := by decide +kernel
theorem dX8_init_8 : decode cX8_init 8 = .ok (.dup, 1) := by decide +kernel
theorem dX8_init_9 : decode cX8_init 9 = .ok (.invokespecial 9, 3) := by decide +kernel
theorem dX8_init_12 : decode cX8_init 12 = .ok (.putfield 10, 3) := by decide +kernel
theorem dX8_init_15 : decode cX8_init 15 = .ok (.aload_n 0, 1) := by decide +kernel
theorem dX8_init_16 : decode cX8_init 16 = .ok (.new 7, 3) := by decide +kernel
theorem dX8_init_19 : decode cX8_init 19 = .ok (.dup, 1) := by decide +kernel
theorem dX8_init_20 : decode cX8_init 20 = .ok (.invokespecial 9, 3) := by decide +kernel
theorem dX8_init_23 : decode cX8_init 23 = .ok (.putfield 16, 3) := by decide +kernel
theorem dX8_init_26 : decode cX8_init 26 = .ok (.aload_n 0, 1) := by decide +kernel
theorem dX8_init_27 : decode cX8_init 27 = .ok (.new 19, 3) := by decide +kernel
theorem dX8_init_30 : decode cX8_init 30 = .ok (.dup, 1) := by decide +kernel
theorem dX8_init_31 : decode cX8_init 31 = .ok (.invokespecial 21, 3) := by decide +kernel
theorem dX8_init_34 : decode cX8_init 34 = .ok (.putfield 22, 3) := by decide +kernel
theorem dX8_init_37 : decode cX8_init 37 = .ok (.aload_n 0, 1) := by decide +kernel
theorem dX8_init_38 : decode cX8_init 38 = .ok (.new 26, 3) := by decide +kernel
theorem dX8_init_41 : decode cX8_init 41 = .ok (.dup, 1) := by decide +kernel
theorem dX8_init_42 : decode cX8_init 42 = .ok (.invokespecial 28, 3) := by decide +kernel
theorem dX8_init_45 : decode cX8_init 45 = .ok (.putfield 29, 3) := by decide +kernel
theorem dX8_init_48 : decode cX8_init 48 = .ok (.aload_n 0, 1) := by decide +kernel
theorem dX8_init_49 : decode cX8_init 49 = .ok (.new 33, 3) := by decide +kernel
theorem dX8_init_52 : decode cX8_init 52 = .ok (.dup, 1) := by decide +kernel
theorem dX8_init_53 : decode cX8_init 53 = .ok (.iconst 2, 1) := by decide +kernel
theorem dX8_init_54 : decode cX8_init 54 = .ok (.invokespecial 35, 3) := by decide +kernel
theorem dX8_init_57 : decode cX8_init 57 = .ok (.putfield 38, 3) := by decide +kernel
theorem dX8_init_60 : decode cX8_init 60 = .ok (.aload_n 0, 1) := by decide +kernel
theorem dX8_init_61 : decode cX8_init 61 = .ok (.new 42, 3) := by decide +kernel
theorem dX8_init_64 : decode cX8_init 64 = .ok (.dup, 1) := by decide +kernel
theorem dX8_init_65 : decode cX8_init 65 = .ok (.iconst 2, 1) := by decide +kernel
theorem dX8_init_66 : decode cX8_init 66 = .ok (.invokespecial 44, 3) := by decide +kernel
theorem dX8_init_69 : decode cX8_init 69 = .ok (.putfield 45, 3) := by decide +kernel
theorem dX8_init_72 : decode cX8_init 72 = .ok (.return_, 1) := by decide +kernel
theorem dX8_clearText_0 : decode cX8_clearText 0 = .ok (.aload_n 0, 1) := by decide +kernel
theorem dX8_clearText_1 : decode cX8_clearText 1 = .ok (.getfield 29, 3) := by decide +kernel
theorem dX8_clearText_4 : decode cX8_clearText 4 = .ok (.getfield 56, 3) := by decide +kernel
theorem dX8_clearText_7 : decode cX8_clearText 7 = .ok (.istore_n 1, 1) := by decide +kernel
theorem dX8_clearText_8 : decode cX8_clearText 8 = .ok (.aload_n 0, 1) := by decide +kernel
theorem dX8_clearText_9 : decode cX8_clearText 9 = .ok (.getfield 29, 3) := by decide +kernel
theorem dX8_clearText_12 : decode cX8_clearText 12 = .ok (.iconst 0, 1) := by decide +kernel
theorem dX8_clearText_13 : decode cX8_clearText 13 = .ok (.putfield 56, 3) := by decide +kernel
theorem dX8_clearText_16 : decode cX8_clearText 16 = .ok (.iload_n 1, 1) := by decide +kernel
theorem dX8_clearText_17 : decode cX8_clearText 17 = .ok (.ireturn, 1) := by decide +kernel
theorem dX8_errorPosition_0 : decode cX8_errorPosition 0 = .ok (.aload_n 0, 1) := by decide +kernel
theorem dX8_errorPosition_1 : decode cX8_errorPosition 1 = .ok (.getfield 29, 3) := by decide +kernel
theorem dX8_errorPosition_4 : decode cX8_errorPosition 4 = .ok (.invokevirtual 68, 3) := by decide +kernel
theorem dX8_errorPosition_7 : decode cX8_errorPosition 7 = .ok (.ireturn, 1) := by decide +kernel
theorem dX8_isStep_0 : decode cX8_isStep 0 = .ok (.iload_n 0, 1) := by decide +kernel
theorem dX8_isStep_1 : decode cX8_isStep 1 = .ok (.iconst 1, 1) := by decide +kernel
theorem dX8_isStep_2 : decode cX8_isStep 2 = .ok (.if_icmp .eq 19, 3) := by decide +kernel
theorem dX8_isStep_5 : decode cX8_isStep 5 = .ok (.iload_n 0, 1) := by decide +kernel
theorem dX8_isStep_6 : decode cX8_isStep 6 = .ok (.iconst 2, 1) := by decide +kernel
theorem dX8_isStep_7 : decode cX8_isStep 7 = .ok (.if_icmp .eq 14, 3) := by decide +kernel
theorem dX8_isStep_10 : decode cX8_isStep 10 = .ok (.iload_n 0, 1) := by decide +kernel
theorem dX8_isStep_11 : decode cX8_isStep 11 = .ok (.iconst 4, 1) := by decide +kernel
theorem dX8_isStep_12 : decode cX8_isStep 12 = .ok (.if_icmp .eq 9, 3) := by decide +kernel
theorem dX8_isStep_15 : decode cX8_isStep 15 = .ok (.iload_n 0, 1) := by decide +kernel
theorem dX8_isStep_16 : decode cX8_isStep 16 = .ok (.bipush 8, 2) := by decide +kernel
theorem dX8_isStep_18 : decode cX8_isStep 18 = .ok (.if_icmp .ne 7, 3) := by decide +kernel
theorem dX8_isStep_21 : decode cX8_isStep 21 = .ok (.iconst 1, 1) := by decide +kernel
theorem dX8_isStep_22 : decode cX8_isStep 22 = .ok (.goto 4, 3) := by decide +kernel
theorem dX8_isStep_25 : decode cX8_isStep 25 = .ok (.iconst 0, 1) := by decide +kernel
theorem dX8_isStep_26 : decode cX8_isStep 26 = .ok (.ireturn, 1) := by decide +kernel
theorem dX8_bestSize_0 : decode cX8_bestSize 0 = .ok (.iconst (-1), 1) := by decide +kernel
theorem dX8_bestSize_1 : decode cX8_bestSize 1 = .ok (.istore_n 1, 1) := by decide +kernel
theorem dX8_bestSize_2 : decode cX8_bestSize 2 = .ok (.sipush 257, 3) := by decide +kernel
theorem dX8_bestSize_5 : decode cX8_bestSize 5 = .ok (.istore_n 2, 1) := by decide +kernel
theorem dX8_bestSize_6 : decode cX8_bestSize 6 = .ok (.bipush 8, 2) := by decide +kernel
theorem dX8_bestSize_8 : decode cX8_bestSize 8 = .ok (.istore_n 3, 1) := by decide +kernel
theorem dX8_bestSize_9 : decode cX8_bestSize 9 = .ok (.iload_n 3, 1) := by decide +kernel
theorem dX8_bestSize_10 : decode cX8_bestSize 10 = .ok (.bipush 64, 2) := by decide +kernel
theorem dX8_bestSize_12 : decode cX8_bestSize 12 = .ok (.if_icmp .gt 57, 3) := by decide +kernel
theorem dX8_bestSize_15 : decode cX8_bestSize 15 = .ok (.aload_n 0, 1) := by decide +kernel
theorem dX8_bestSize_16 : decode cX8_bestSize 16 = .ok (.getfield 16, 3) := by decide +kernel
theorem dX8_bestSize_19 : decode cX8_bestSize 19 = .ok (.iload_n 3, 1) := by decide +kernel
theorem dX8_bestSize_20 : decode cX8_bestSize 20 = .ok (.bipush 32, 2) := by decide +kernel
theorem dX8_bestSize_22 : decode cX8_bestSize 22 = .ok (.invokevirtual 90, 3) := by decide +kernel
theorem dX8_bestSize_25 : decode cX8_bestSize 25 = .ok (.aload_n 0, 1) := by decide +kernel
theorem dX8_bestSize_26 : decode cX8_bestSize 26 = .ok (.getfield 16, 3) := by decide +kernel
theorem dX8_bestSize_29 : decode cX8_bestSize 29 = .ok (.aload_n 0, 1) := by decide +kernel
theorem dX8_bestSize_30 : decode cX8_bestSize 30 = .ok (.getfield 10, 3) := by decide +kernel
theorem dX8_bestSize_33 : decode cX8_bestSize 33 = .ok (.getfield 105, 3) := by decide +kernel
theorem dX8_bestSize_36 : decode cX8_bestSize 36 = .ok (.invokevirtual 283, 3) := by decide +kernel
theorem dX8_bestSize_39 : decode cX8_bestSize 39 = .ok (.ifCond .eq 24, 3) := by decide +kernel
theorem dX8_bestSize_42 : decode cX8_bestSize 42 = .ok (.aload_n 0, 1) := by decide +kernel
theorem dX8_bestSize_43 : decode cX8_bestSize 43 = .ok (.getfield 16, 3) := by decide +kernel
theorem dX8_bestSize_46 : decode cX8_bestSize 46 = .ok (.getfield 280, 3) := by decide +kernel
theorem dX8_bestSize_49 : decode cX8_bestSize 49 = .ok (.iload_n 2, 1) := by decide +kernel
theorem dX8_bestSize_50 : decode cX8_bestSize 50 = .ok (.if_icmp .ge 13, 3) := by decide +kernel
theorem dX8_bestSize_53 : decode cX8_bestSize 53 = .ok (.aload_n 0, 1) := by decide +kernel
theorem dX8_bestSize_54 : decode cX8_bestSize 54 = .ok (.getfield 16, 3) := by decide +kernel
theorem dX8_bestSize_57 : decode cX8_bestSize 57 = .ok (.getfield 280, 3) := by decide +kernel
theorem dX8_bestSize_60 : decode cX8_bestSize 60 = .ok (.istore_n 2, 1) := by decide +kernel
theorem dX8_bestSize_61 : decode cX8_bestSize 61 = .ok (.iload_n 3, 1) := by decide +kernel
theorem dX8_bestSize_62 : decode cX8_bestSize 62 = .ok (.istore_n 1, 1) := by decide +kernel
theorem dX8_bestSize_63 : decode cX8_bestSize 63 = .ok (.iinc 3 1, 3) := by decide +kernel
theorem dX8_bestSize_66 : decode cX8_bestSize 66 = .ok (.goto (-57), 3) := by decide +kernel
theorem dX8_bestSize_69 : decode cX8_bestSize 69 = .ok (.iload_n 1, 1) := by decide +kernel
theorem dX8_bestSize_70 : decode cX8_bestSize 70 = .ok (.ireturn, 1) := by decide +kernel
theorem dX8_append_0 : decode cX8_append 0 = .ok (.iload_n 1, 1) := by decide +kernel
theorem dX8_append_1 : decode cX8_append 1 = .ok (.ifCond .lt 10, 3) := by decide +kernel
theorem dX8_append_4 : decode cX8_append 4 = .ok (.iload_n 1, 1) := by decide +kernel
theorem dX8_append_5 : decode cX8_append 5 = .ok (.sipush 255, 3) := by decide +kernel
theorem dX8_append_8 : decode cX8_append 8 = .ok (.if_icmp .le 13, 3) := by decide +kernel
theorem dX8_append_11 : decode cX8_append 11 = .ok (.new 49, 3) := by decide +kernel
theorem dX8_append_14 : decode cX8_append 14 = .ok (.dup, 1) := by decide +kernel
theorem dX8_append_15 : decode cX8_append 15 = .ok (.ldc 51, 2) := by decide +kernel
theorem dX8_append_17 : decode cX8_append 17 = .ok (.invokespecial 53, 3) := by decide +kernel
theorem dX8_append_20 : decode cX8_append 20 = .ok (.athrow, 1) := by decide +kernel
theorem dX8_append_21 : decode cX8_append 21 = .ok (.aload_n 0, 1) := by decide +kernel
theorem dX8_append_22 : decode cX8_append 22 = .ok (.getfield 29, 3) := by decide +kernel
theorem dX8_append_25 : decode cX8_append 25 = .ok (.getfield 56, 3) := by decide +kernel
theorem dX8_append_28 : decode cX8_append 28 = .ok (.bipush 100, 2) := by decide +kernel
theorem dX8_append_30 : decode cX8_append 30 = .ok (.if_icmp .lt 13, 3) := by decide +kernel
theorem dX8_append_33 : decode cX8_append 33 = .ok (.new 60, 3) := by decide +kernel
theorem dX8_append_36 : decode cX8_append 36 = .ok (.dup, 1) := by decide +kernel
theorem dX8_append_37 : decode cX8_append 37 = .ok (.ldc 62, 2) := by decide +kernel
theorem dX8_append_39 : decode cX8_append 39 = .ok (.invokespecial 64, 3) := by decide +kernel
theorem dX8_append_42 : decode cX8_append 42 = .ok (.athrow, 1) := by decide +kernel
theorem dX8_append_43 : decode cX8_append 43 = .ok (.aload_n 0, 1) := by decide +kernel
theorem dX8_append_44 : decode cX8_append 44 = .ok (.getfield 29, 3) := by decide +kernel
theorem dX8_append_47 : decode cX8_append 47 = .ok (.iload_n 1, 1) := by decide +kernel
theorem dX8_append_48 : decode cX8_append 48 = .ok (.invokevirtual 65, 3) := by decide +kernel
theorem dX8_append_51 : decode cX8_append 51 = .ok (.aload_n 0, 1) := by decide +kernel
theorem dX8_append_52 : decode cX8_append 52 = .ok (.getfield 29, 3) := by decide +kernel
theorem dX8_append_55 : decode cX8_append 55 = .ok (.getfield 56, 3) := by decide +kernel
theorem dX8_append_58 : decode cX8_append 58 = .ok (.ireturn, 1) := by decide +kernel
theorem dX8_load_0 : decode cX8_load 0 = .ok (.aload_n 0, 1) := by decide +kernel
theorem dX8_load_1 : decode cX8_load 1 = .ok (.getfield 29, 3) := by decide +kernel
theorem dX8_load_4 : decode cX8_load 4 = .ok (.invokevirtual 68, 3) := by decide +kernel
theorem dX8_load_7 : decode cX8_load 7 = .ok (.iconst (-1), 1) := by decide +kernel
theorem dX8_load_8 : decode cX8_load 8 = .ok (.if_icmp .eq 13, 3) := by decide +kernel
theorem dX8_load_11 : decode cX8_load 11 = .ok (.new 60, 3) := by decide +kernel
theorem dX8_load_14 : decode cX8_load 14 = .ok (.dup, 1) := by decide +kernel
theorem dX8_load_15 : decode cX8_load 15 = .ok (.ldc 72, 2) := by decide +kernel
theorem dX8_load_17 : decode cX8_load 17 = .ok (.invokespecial 64, 3) := by decide +kernel
theorem dX8_load_20 : decode cX8_load 20 = .ok (.athrow, 1) := by decide +kernel
theorem dX8_load_21 : decode cX8_load 21 = .ok (.aload_n 0, 1) := by decide +kernel
theorem dX8_load_22 : decode cX8_load 22 = .ok (.getfield 22, 3) := by decide +kernel
theorem dX8_load_25 : decode cX8_load 25 = .ok (.invokevirtual 74, 3) := by decide +kernel
theorem dX8_load_28 : decode cX8_load 28 = .ok (.aload_n 0, 1) := by decide +kernel
theorem dX8_load_29 : decode cX8_load 29 = .ok (.getfield 45, 3) := by decide +kernel
theorem dX8_load_32 : decode cX8_load 32 = .ok (.iconst 0, 1) := by decide +kernel
theorem dX8_load_33 : decode cX8_load 33 = .ok (.iconst 0, 1) := by decide +kernel
theorem dX8_load_34 : decode cX8_load 34 = .ok (.iconst 2, 1) := by decide +kernel
theorem dX8_load_35 : decode cX8_load 35 = .ok (.invokevirtual 77, 3) := by decide +kernel
theorem dX8_load_38 : decode cX8_load 38 = .ok (.aload_n 0, 1) := by decide +kernel
theorem dX8_load_39 : decode cX8_load 39 = .ok (.getfield 29, 3) := by decide +kernel
theorem dX8_load_42 : decode cX8_load 42 = .ok (.invokevirtual 81, 3) := by decide +kernel
theorem dX8_load_45 : decode cX8_load 45 = .ok (.aload_n 0, 1) := by decide +kernel
theorem dX8_load_46 : decode cX8_load 46 = .ok (.getfield 10, 3) := by decide +kernel
theorem dX8_load_49 : decode cX8_load 49 = .ok (.aload_n 0, 1) := by decide +kernel
theorem dX8_load_50 : decode cX8_load 50 = .ok (.getfield 29, 3) := by decide +kernel
theorem dX8_load_53 : decode cX8_load 53 = .ok (.getfield 84, 3) := by decide +kernel
theorem dX8_load_56 : decode cX8_load 56 = .ok (.aload_n 0, 1) := by decide +kernel
theorem dX8_load_57 : decode cX8_load 57 = .ok (.getfield 29, 3) := by decide +kernel
theorem dX8_load_60 : decode cX8_load 60 = .ok (.getfield 87, 3) := by decide +kernel
theorem dX8_load_63 : decode cX8_load 63 = .ok (.invokevirtual 90, 3) := by decide +kernel
theorem dX8_load_66 : decode cX8_load 66 = .ok (.iconst 0, 1) := by decide +kernel
theorem dX8_load_67 : decode cX8_load 67 = .ok (.istore_n 1, 1) := by decide +kernel
theorem dX8_load_68 : decode cX8_load 68 = .ok (.iconst 0, 1) := by decide +kernel
theorem dX8_load_69 : decode cX8_load 69 = .ok (.istore_n 2, 1) := by decide +kernel
theorem dX8_load_70 : decode cX8_load 70 = .ok (.iload_n 2, 1) := by decide +kernel
theorem dX8_load_71 : decode cX8_load 71 = .ok (.bipush 100, 2) := by decide +kernel
theorem dX8_load_73 : decode cX8_load 73 = .ok (.if_icmp .ge 43, 3) := by decide +kernel
theorem dX8_load_76 : decode cX8_load 76 = .ok (.aload_n 0, 1) := by decide +kernel
theorem dX8_load_77 : decode cX8_load 77 = .ok (.getfield 29, 3) := by decide +kernel
theorem dX8_load_80 : decode cX8_load 80 = .ok (.invokevirtual 94, 3) := by decide +kernel
theorem dX8_load_83 : decode cX8_load 83 = .ok (.ifCond .eq 33, 3) := by decide +kernel
theorem dX8_load_86 : decode cX8_load 86 = .ok (.aload_n 0, 1) := by decide +kernel
theorem dX8_load_87 : decode cX8_load 87 = .ok (.getfield 29, 3) := by decide +kernel
theorem dX8_load_90 : decode cX8_load 90 = .ok (.invokevirtual 98, 3) := by decide +kernel
theorem dX8_load_93 : decode cX8_load 93 = .ok (.aload_n 0, 1) := by decide +kernel
theorem dX8_load_94 : decode cX8_load 94 = .ok (.getfield 10, 3) := by decide +kernel
theorem dX8_load_97 : decode cX8_load 97 = .ok (.aload_n 0, 1) := by decide +kernel
theorem dX8_load_98 : decode cX8_load 98 = .ok (.getfield 29, 3) := by decide +kernel
theorem dX8_load_101 : decode cX8_load 101 = .ok (.invokestatic 101, 3) := by decide +kernel
theorem dX8_load_104 : decode cX8_load 104 = .ok (.ifCond .ne 6, 3) := by decide +kernel
theorem dX8_load_107 : decode cX8_load 107 = .ok (.iinc 1 1, 3) := by decide +kernel
theorem dX8_load_110 : decode cX8_load 110 = .ok (.iinc 2 1, 3) := by decide +kernel
theorem dX8_load_113 : decode cX8_load 113 = .ok (.goto (-43), 3) := by decide +kernel
theorem dX8_load_116 : decode cX8_load 116 = .ok (.iload_n 1, 1) := by decide +kernel
theorem dX8_load_117 : decode cX8_load 117 = .ok (.ireturn, 1) := by decide +kernel
theorem dX8_carryOut_0 : decode cX8_carryOut 0 = .ok (.aload_n 1, 1) := by decide +kernel
theorem dX8_carryOut_1 : decode cX8_carryOut 1 = .ok (.getfield 333, 3) := by decide +kernel
theorem dX8_carryOut_4 : decode cX8_carryOut 4 = .ok (.tableswitch 154 101 112 #[86, 132, 154, 154, 154, 114, 154, 100, 154, 154, 154, 64], 64) := by decide +kernel
theorem dX8_carryOut_68 : decode cX8_carryOut 68 = .ok (.aload_n 0, 1) := by decide +kernel
theorem dX8_carryOut_69 : decode cX8_carryOut 69 = .ok (.aload_n 1, 1) := by decide +kernel
theorem dX8_carryOut_70 : decode cX8_carryOut 70 = .ok (.getfield 84, 3) := by decide +kernel
theorem dX8_carryOut_73 : decode cX8_carryOut 73 = .ok (.aload_n 1, 1) := by decide +kernel
theorem dX8_carryOut_74 : decode cX8_carryOut 74 = .ok (.getfield 87, 3) := by decide +kernel
theorem dX8_carryOut_77 : decode cX8_carryOut 77 = .ok (.invokevirtual 245, 3) := by decide +kernel
theorem dX8_carryOut_80 : decode cX8_carryOut 80 = .ok (.iconst (-1), 1) := by decide +kernel
theorem dX8_carryOut_81 : decode cX8_carryOut 81 = .ok (.if_icmp .eq 7, 3) := by decide +kernel
theorem dX8_carryOut_84 : decode cX8_carryOut 84 = .ok (.iconst 1, 1) := by decide +kernel
theorem dX8_carryOut_85 : decode cX8_carryOut 85 = .ok (.goto 4, 3) := by decide +kernel
theorem dX8_carryOut_88 : decode cX8_carryOut 88 = .ok (.iconst 0, 1) := by decide +kernel
theorem dX8_carryOut_89 : decode cX8_carryOut 89 = .ok (.ireturn, 1) := by decide +kernel
theorem dX8_carryOut_90 : decode cX8_carryOut 90 = .ok (.aload_n 0, 1) := by decide +kernel
theorem dX8_carryOut_91 : decode cX8_carryOut 91 = .ok (.invokevirtual 255, 3) := by decide +kernel
theorem dX8_carryOut_94 : decode cX8_carryOut 94 = .ok (.iconst (-1), 1) := by decide +kernel
theorem dX8_carryOut_95 : decode cX8_carryOut 95 = .ok (.if_icmp .eq 7, 3) := by decide +kernel
theorem dX8_carryOut_98 : decode cX8_carryOut 98 = .ok (.iconst 1, 1) := by decide +kernel
theorem dX8_carryOut_99 : decode cX8_carryOut 99 = .ok (.goto 4, 3) := by decide +kernel
theorem dX8_carryOut_102 : decode cX8_carryOut 102 = .ok (.iconst 0, 1) := by decide +kernel
theorem dX8_carryOut_103 : decode cX8_carryOut 103 = .ok (.ireturn, 1) := by decide +kernel
theorem dX8_carryOut_104 : decode cX8_carryOut 104 = .ok (.aload_n 0, 1) := by decide +kernel
theorem dX8_carryOut_105 : decode cX8_carryOut 105 = .ok (.invokevirtual 260, 3) := by decide +kernel
theorem dX8_carryOut_108 : decode cX8_carryOut 108 = .ok (.iconst (-1), 1) := by decide +kernel
theorem dX8_carryOut_109 : decode cX8_carryOut 109 = .ok (.if_icmp .eq 7, 3) := by decide +kernel
theorem dX8_carryOut_112 : decode cX8_carryOut 112 = .ok (.iconst 1, 1) := by decide +kernel
theorem dX8_carryOut_113 : decode cX8_carryOut 113 = .ok (.goto 4, 3) := by decide +kernel
theorem dX8_carryOut_116 : decode cX8_carryOut 116 = .ok (.iconst 0, 1) := by decide +kernel
theorem dX8_carryOut_117 : decode cX8_carryOut 117 = .ok (.ireturn, 1) := by decide +kernel
theorem dX8_carryOut_118 : decode cX8_carryOut 118 = .ok (.aload_n 0, 1) := by decide +kernel
theorem dX8_carryOut_119 : decode cX8_carryOut 119 = .ok (.aload_n 1, 1) := by decide +kernel
theorem dX8_carryOut_120 : decode cX8_carryOut 120 = .ok (.getfield 84, 3) := by decide +kernel
theorem dX8_carryOut_123 : decode cX8_carryOut 123 = .ok (.invokevirtual 263, 3) := by decide +kernel
theorem dX8_carryOut_126 : decode cX8_carryOut 126 = .ok (.iconst (-1), 1) := by decide +kernel
theorem dX8_carryOut_127 : decode cX8_carryOut 127 = .ok (.if_icmp .eq 7, 3) := by decide +kernel
theorem dX8_carryOut_130 : decode cX8_carryOut 130 = .ok (.iconst 1, 1) := by decide +kernel
theorem dX8_carryOut_131 : decode cX8_carryOut 131 = .ok (.goto 4, 3) := by decide +kernel
theorem dX8_carryOut_134 : decode cX8_carryOut 134 = .ok (.iconst 0, 1) := by decide +kernel
theorem dX8_carryOut_135 : decode cX8_carryOut 135 = .ok (.ireturn, 1) := by decide +kernel
theorem dX8_carryOut_136 : decode cX8_carryOut 136 = .ok (.aload_n 0, 1) := by decide +kernel
theorem dX8_carryOut_137 : decode cX8_carryOut 137 = .ok (.aload_n 1, 1) := by decide +kernel
theorem dX8_carryOut_138 : decode cX8_carryOut 138 = .ok (.getfield 84, 3) := by decide +kernel
theorem dX8_carryOut_141 : decode cX8_carryOut 141 = .ok (.aload_n 1, 1) := by decide +kernel
theorem dX8_carryOut_142 : decode cX8_carryOut 142 = .ok (.getfield 87, 3) := by decide +kernel
theorem dX8_carryOut_145 : decode cX8_carryOut 145 = .ok (.invokevirtual 250, 3) := by decide +kernel
theorem dX8_carryOut_148 : decode cX8_carryOut 148 = .ok (.iconst (-1), 1) := by decide +kernel
theorem dX8_carryOut_149 : decode cX8_carryOut 149 = .ok (.if_icmp .eq 7, 3) := by decide +kernel
theorem dX8_carryOut_152 : decode cX8_carryOut 152 = .ok (.iconst 1, 1) := by decide +kernel
theorem dX8_carryOut_153 : decode cX8_carryOut 153 = .ok (.goto 4, 3) := by decide +kernel
theorem dX8_carryOut_156 : decode cX8_carryOut 156 = .ok (.iconst 0, 1) := by decide +kernel
theorem dX8_carryOut_157 : decode cX8_carryOut 157 = .ok (.ireturn, 1) := by decide +kernel
theorem dX8_carryOut_158 : decode cX8_carryOut 158 = .ok (.aload_n 0, 1) := by decide +kernel
theorem dX8_carryOut_159 : decode cX8_carryOut 159 = .ok (.iconst 1, 1) := by decide +kernel
theorem dX8_carryOut_160 : decode cX8_carryOut 160 = .ok (.aload_n 0, 1) := by decide +kernel
theorem dX8_carryOut_161 : decode cX8_carryOut 161 = .ok (.getfield 156, 3) := by decide +kernel
theorem dX8_carryOut_164 : decode cX8_carryOut 164 = .ok (.isub, 1) := by decide +kernel
theorem dX8_carryOut_165 : decode cX8_carryOut 165 = .ok (.putfield 156, 3) := by decide +kernel
theorem dX8_carryOut_168 : decode cX8_carryOut 168 = .ok (.iconst 1, 1) := by decide +kernel
theorem dX8_carryOut_169 : decode cX8_carryOut 169 = .ok (.ireturn, 1) := by decide +kernel
theorem dX8_about_0 : decode cX8_about 0 = .ok (.iload_n 1, 1) := by decide +kernel
theorem dX8_about_1 : decode cX8_about 1 = .ok (.tableswitch 205 0 13 #[71, 82, 93, 104, 115, 127, 138, 149, 157, 165, 173, 181, 189, 197], 71) := by decide +kernel
theorem dX8_about_72 : decode cX8_about 72 = .ok (.aload_n 0, 1) := by decide +kernel
theorem dX8_about_73 : decode cX8_about 73 = .ok (.getfield 10, 3) := by decide +kernel
theorem dX8_about_76 : decode cX8_about 76 = .ok (.getfield 105, 3) := by decide +kernel
theorem dX8_about_79 : decode cX8_about 79 = .ok (.getfield 109, 3) := by decide +kernel
theorem dX8_about_82 : decode cX8_about 82 = .ok (.ireturn, 1) := by decide +kernel
theorem dX8_about_83 : decode cX8_about 83 = .ok (.aload_n 0, 1) := by decide +kernel
theorem dX8_about_84 : decode cX8_about 84 = .ok (.getfield 10, 3) := by decide +kernel
theorem dX8_about_87 : decode cX8_about 87 = .ok (.getfield 114, 3) := by decide +kernel
theorem dX8_about_90 : decode cX8_about 90 = .ok (.getfield 118, 3) := by decide +kernel
theorem dX8_about_93 : decode cX8_about 93 = .ok (.ireturn, 1) := by decide +kernel
theorem dX8_about_94 : decode cX8_about 94 = .ok (.aload_n 0, 1) := by decide +kernel
theorem dX8_about_95 : decode cX8_about 95 = .ok (.getfield 10, 3) := by decide +kernel
theorem dX8_about_98 : decode cX8_about 98 = .ok (.getfield 121, 3) := by decide +kernel
theorem dX8_about_101 : decode cX8_about 101 = .ok (.getfield 118, 3) := by decide +kernel
theorem dX8_about_104 : decode cX8_about 104 = .ok (.ireturn, 1) := by decide +kernel
theorem dX8_about_105 : decode cX8_about 105 = .ok (.aload_n 0, 1) := by decide +kernel
theorem dX8_about_106 : decode cX8_about 106 = .ok (.getfield 10, 3) := by decide +kernel
theorem dX8_about_109 : decode cX8_about 109 = .ok (.getfield 124, 3) := by decide +kernel
theorem dX8_about_112 : decode cX8_about 112 = .ok (.getfield 128, 3) := by decide +kernel
theorem dX8_about_115 : decode cX8_about 115 = .ok (.ireturn, 1) := by decide +kernel
theorem dX8_about_116 : decode cX8_about 116 = .ok (.aload_n 0, 1) := by decide +kernel
theorem dX8_about_117 : decode cX8_about 117 = .ok (.getfield 10, 3) := by decide +kernel
theorem dX8_about_120 : decode cX8_about 120 = .ok (.getfield 105, 3) := by decide +kernel
theorem dX8_about_123 : decode cX8_about 123 = .ok (.iconst 0, 1) := by decide +kernel
theorem dX8_about_124 : decode cX8_about 124 = .ok (.invokevirtual 131, 3) := by decide +kernel
theorem dX8_about_127 : decode cX8_about 127 = .ok (.ireturn, 1) := by decide +kernel
theorem dX8_about_128 : decode cX8_about 128 = .ok (.aload_n 0, 1) := by decide +kernel
theorem dX8_about_129 : decode cX8_about 129 = .ok (.getfield 10, 3) := by decide +kernel
theorem dX8_about_132 : decode cX8_about 132 = .ok (.getfield 114, 3) := by decide +kernel
theorem dX8_about_135 : decode cX8_about 135 = .ok (.invokevirtual 135, 3) := by decide +kernel
theorem dX8_about_138 : decode cX8_about 138 = .ok (.ireturn, 1) := by decide +kernel
theorem dX8_about_139 : decode cX8_about 139 = .ok (.aload_n 0, 1) := by decide +kernel
theorem dX8_about_140 : decode cX8_about 140 = .ok (.getfield 10, 3) := by decide +kernel
theorem dX8_about_143 : decode cX8_about 143 = .ok (.getfield 121, 3) := by decide +kernel
theorem dX8_about_146 : decode cX8_about 146 = .ok (.invokevirtual 135, 3) := by decide +kernel
theorem dX8_about_149 : decode cX8_about 149 = .ok (.ireturn, 1) := by decide +kernel
theorem dX8_about_150 : decode cX8_about 150 = .ok (.aload_n 0, 1) := by decide +kernel
theorem dX8_about_151 : decode cX8_about 151 = .ok (.getfield 10, 3) := by decide +kernel
theorem dX8_about_154 : decode cX8_about 154 = .ok (.invokevirtual 138, 3) := by decide +kernel
theorem dX8_about_157 : decode cX8_about 157 = .ok (.ireturn, 1) := by decide +kernel
theorem dX8_about_158 : decode cX8_about 158 = .ok (.aload_n 0, 1) := by decide +kernel
theorem dX8_about_159 : decode cX8_about 159 = .ok (.getfield 10, 3) := by decide +kernel
theorem dX8_about_162 : decode cX8_about 162 = .ok (.getfield 141, 3) := by decide +kernel
theorem dX8_about_165 : decode cX8_about 165 = .ok (.ireturn, 1) := by decide +kernel
theorem dX8_about_166 : decode cX8_about 166 = .ok (.aload_n 0, 1) := by decide +kernel
theorem dX8_about_167 : decode cX8_about 167 = .ok (.getfield 10, 3) := by decide +kernel
theorem dX8_about_170 : decode cX8_about 170 = .ok (.getfield 144, 3) := by decide +kernel
theorem dX8_about_173 : decode cX8_about 173 = .ok (.ireturn, 1) := by decide +kernel
theorem dX8_about_174 : decode cX8_about 174 = .ok (.aload_n 0, 1) := by decide +kernel
theorem dX8_about_175 : decode cX8_about 175 = .ok (.getfield 10, 3) := by decide +kernel
theorem dX8_about_178 : decode cX8_about 178 = .ok (.getfield 147, 3) := by decide +kernel
theorem dX8_about_181 : decode cX8_about 181 = .ok (.ireturn, 1) := by decide +kernel
theorem dX8_about_182 : decode cX8_about 182 = .ok (.aload_n 0, 1) := by decide +kernel
theorem dX8_about_183 : decode cX8_about 183 = .ok (.getfield 10, 3) := by decide +kernel
theorem dX8_about_186 : decode cX8_about 186 = .ok (.getfield 150, 3) := by decide +kernel
theorem dX8_about_189 : decode cX8_about 189 = .ok (.ireturn, 1) := by decide +kernel
theorem dX8_about_190 : decode cX8_about 190 = .ok (.aload_n 0, 1) := by decide +kernel
theorem dX8_about_191 : decode cX8_about 191 = .ok (.getfield 10, 3) := by decide +kernel
theorem dX8_about_194 : decode cX8_about 194 = .ok (.getfield 153, 3) := by decide +kernel
theorem dX8_about_197 : decode cX8_about 197 = .ok (.ireturn, 1) := by decide +kernel
theorem dX8_about_198 : decode cX8_about 198 = .ok (.aload_n 0, 1) := by decide +kernel
theorem dX8_about_199 : decode cX8_about 199 = .ok (.getfield 10, 3) := by decide +kernel
theorem dX8_about_202 : decode cX8_about 202 = .ok (.getfield 156, 3) := by decide +kernel
theorem dX8_about_205 : decode cX8_about 205 = .ok (.ireturn, 1) := by decide +kernel
theorem dX8_about_206 : decode cX8_about 206 = .ok (.new 49, 3) := by decide +kernel
theorem dX8_about_209 : decode cX8_about 209 = .ok (.dup, 1) := by decide +kernel
theorem dX8_about_210 : decode cX8_about 210 = .ok (.ldc 159, 2) := by decide +kernel
theorem dX8_about_212 : decode cX8_about 212 = .ok (.invokespecial 53, 3) := by decide +kernel
theorem dX8_about_215 : decode cX8_about 215 = .ok (.athrow, 1) := by decide +kernel
theorem dX8_tent_0 : decode cX8_tent 0 = .ok (.aload_n 0, 1) := by decide +kernel
theorem dX8_tent_1 : decode cX8_tent 1 = .ok (.getfield 10, 3) := by decide +kernel
theorem dX8_tent_4 : decode cX8_tent 4 = .ok (.getfield 105, 3) := by decide +kernel
theorem dX8_tent_7 : decode cX8_tent 7 = .ok (.iload_n 1, 1) := by decide +kernel
theorem dX8_tent_8 : decode cX8_tent 8 = .ok (.invokevirtual 161, 3) := by decide +kernel
theorem dX8_tent_11 : decode cX8_tent 11 = .ok (.ifCond .ne 13, 3) := by decide +kernel
theorem dX8_tent_14 : decode cX8_tent 14 = .ok (.new 165, 3) := by decide +kernel
theorem dX8_tent_17 : decode cX8_tent 17 = .ok (.dup, 1) := by decide +kernel
theorem dX8_tent_18 : decode cX8_tent 18 = .ok (.ldc 167, 2) := by decide +kernel
theorem dX8_tent_20 : decode cX8_tent 20 = .ok (.invokespecial 169, 3) := by decide +kernel
theorem dX8_tent_23 : decode cX8_tent 23 = .ok (.athrow, 1) := by decide +kernel
theorem dX8_tent_24 : decode cX8_tent 24 = .ok (.iload_n 2, 1) := by decide +kernel
theorem dX8_tent_25 : decode cX8_tent 25 = .ok (.tableswitch 107 0 4 #[35, 50, 65, 80, 95], 35) := by decide +kernel
theorem dX8_tent_60 : decode cX8_tent 60 = .ok (.aload_n 0, 1) := by decide +kernel
theorem dX8_tent_61 : decode cX8_tent 61 = .ok (.getfield 10, 3) := by decide +kernel
theorem dX8_tent_64 : decode cX8_tent 64 = .ok (.getfield 105, 3) := by decide +kernel
theorem dX8_tent_67 : decode cX8_tent 67 = .ok (.getfield 170, 3) := by decide +kernel
theorem dX8_tent_70 : decode cX8_tent 70 = .ok (.iload_n 1, 1) := by decide +kernel
theorem dX8_tent_71 : decode cX8_tent 71 = .ok (.invokevirtual 173, 3) := by decide +kernel
theorem dX8_tent_74 : decode cX8_tent 74 = .ok (.ireturn, 1) := by decide +kernel
theorem dX8_tent_75 : decode cX8_tent 75 = .ok (.aload_n 0, 1) := by decide +kernel
theorem dX8_tent_76 : decode cX8_tent 76 = .ok (.getfield 10, 3) := by decide +kernel
theorem dX8_tent_79 : decode cX8_tent 79 = .ok (.getfield 105, 3) := by decide +kernel
theorem dX8_tent_82 : decode cX8_tent 82 = .ok (.getfield 176, 3) := by decide +kernel
theorem dX8_tent_85 : decode cX8_tent 85 = .ok (.iload_n 1, 1) := by decide +kernel
theorem dX8_tent_86 : decode cX8_tent 86 = .ok (.invokevirtual 173, 3) := by decide +kernel
theorem dX8_tent_89 : decode cX8_tent 89 = .ok (.ireturn, 1) := by decide +kernel
theorem dX8_tent_90 : decode cX8_tent 90 = .ok (.aload_n 0, 1) := by decide +kernel
theorem dX8_tent_91 : decode cX8_tent 91 = .ok (.getfield 10, 3) := by decide +kernel
theorem dX8_tent_94 : decode cX8_tent 94 = .ok (.getfield 105, 3) := by decide +kernel
theorem dX8_tent_97 : decode cX8_tent 97 = .ok (.getfield 178, 3) := by decide +kernel
theorem dX8_tent_100 : decode cX8_tent 100 = .ok (.iload_n 1, 1) := by decide +kernel
theorem dX8_tent_101 : decode cX8_tent 101 = .ok (.invokevirtual 173, 3) := by decide +kernel
theorem dX8_tent_104 : decode cX8_tent 104 = .ok (.ireturn, 1) := by decide +kernel
theorem dX8_tent_105 : decode cX8_tent 105 = .ok (.aload_n 0, 1) := by decide +kernel
theorem dX8_tent_106 : decode cX8_tent 106 = .ok (.getfield 10, 3) := by decide +kernel
theorem dX8_tent_109 : decode cX8_tent 109 = .ok (.getfield 105, 3) := by decide +kernel
theorem dX8_tent_112 : decode cX8_tent 112 = .ok (.getfield 181, 3) := by decide +kernel
theorem dX8_tent_115 : decode cX8_tent 115 = .ok (.iload_n 1, 1) := by decide +kernel
theorem dX8_tent_116 : decode cX8_tent 116 = .ok (.invokevirtual 173, 3) := by decide +kernel
theorem dX8_tent_119 : decode cX8_tent 119 = .ok (.ireturn, 1) := by decide +kernel
theorem dX8_tent_120 : decode cX8_tent 120 = .ok (.aload_n 0, 1) := by decide +kernel
theorem dX8_tent_121 : decode cX8_tent 121 = .ok (.getfield 10, 3) := by decide +kernel
theorem dX8_tent_124 : decode cX8_tent 124 = .ok (.getfield 124, 3) := by decide +kernel
theorem dX8_tent_127 : decode cX8_tent 127 = .ok (.iload_n 1, 1) := by decide +kernel
theorem dX8_tent_128 : decode cX8_tent 128 = .ok (.invokevirtual 184, 3) := by decide +kernel
theorem dX8_tent_131 : decode cX8_tent 131 = .ok (.ireturn, 1) := by decide +kernel
theorem dX8_tent_132 : decode cX8_tent 132 = .ok (.new 49, 3) := by decide +kernel
theorem dX8_tent_135 : decode cX8_tent 135 = .ok (.dup, 1) := by decide +kernel
theorem dX8_tent_136 : decode cX8_tent 136 = .ok (.ldc 187, 2) := by decide +kernel
theorem dX8_tent_138 : decode cX8_tent 138 = .ok (.invokespecial 53, 3) := by decide +kernel
theorem dX8_tent_141 : decode cX8_tent 141 = .ok (.athrow, 1) := by decide +kernel
theorem dX8_field_0 : decode cX8_field 0 = .ok (.aload_n 0, 1) := by decide +kernel
theorem dX8_field_1 : decode cX8_field 1 = .ok (.getfield 10, 3) := by decide +kernel
theorem dX8_field_4 : decode cX8_field 4 = .ok (.getfield 114, 3) := by decide +kernel
theorem dX8_field_7 : decode cX8_field 7 = .ok (.iload_n 1, 1) := by decide +kernel
theorem dX8_field_8 : decode cX8_field 8 = .ok (.invokevirtual 189, 3) := by decide +kernel
theorem dX8_field_11 : decode cX8_field 11 = .ok (.ifCond .ne 13, 3) := by decide +kernel
theorem dX8_field_14 : decode cX8_field 14 = .ok (.new 165, 3) := by decide +kernel
theorem dX8_field_17 : decode cX8_field 17 = .ok (.dup, 1) := by decide +kernel
theorem dX8_field_18 : decode cX8_field 18 = .ok (.ldc 190, 2) := by decide +kernel
theorem dX8_field_20 : decode cX8_field 20 = .ok (.invokespecial 169, 3) := by decide +kernel
theorem dX8_field_23 : decode cX8_field 23 = .ok (.athrow, 1) := by decide +kernel
theorem dX8_field_24 : decode cX8_field 24 = .ok (.aload_n 0, 1) := by decide +kernel
theorem dX8_field_25 : decode cX8_field 25 = .ok (.getfield 10, 3) := by decide +kernel
theorem dX8_field_28 : decode cX8_field 28 = .ok (.getfield 114, 3) := by decide +kernel
theorem dX8_field_31 : decode cX8_field 31 = .ok (.getfield 192, 3) := by decide +kernel
theorem dX8_field_34 : decode cX8_field 34 = .ok (.iload_n 1, 1) := by decide +kernel
theorem dX8_field_35 : decode cX8_field 35 = .ok (.invokevirtual 173, 3) := by decide +kernel
theorem dX8_field_38 : decode cX8_field 38 = .ok (.istore_n 3, 1) := by decide +kernel
theorem dX8_field_39 : decode cX8_field 39 = .ok (.aload_n 0, 1) := by decide +kernel
theorem dX8_field_40 : decode cX8_field 40 = .ok (.getfield 10, 3) := by decide +kernel
theorem dX8_field_43 : decode cX8_field 43 = .ok (.getfield 114, 3) := by decide +kernel
theorem dX8_field_46 : decode cX8_field 46 = .ok (.getfield 195, 3) := by decide +kernel
theorem dX8_field_49 : decode cX8_field 49 = .ok (.iload_n 1, 1) := by decide +kernel
theorem dX8_field_50 : decode cX8_field 50 = .ok (.invokevirtual 173, 3) := by decide +kernel
theorem dX8_field_53 : decode cX8_field 53 = .ok (.istore 4, 2) := by decide +kernel
theorem dX8_field_55 : decode cX8_field 55 = .ok (.iload_n 2, 1) := by decide +kernel
theorem dX8_field_56 : decode cX8_field 56 = .ok (.tableswitch 102 0 4 #[36, 39, 54, 66, 84], 36) := by decide +kernel
theorem dX8_field_92 : decode cX8_field 92 = .ok (.iload 4, 2) := by decide +kernel
theorem dX8_field_94 : decode cX8_field 94 = .ok (.ireturn, 1) := by decide +kernel
theorem dX8_field_95 : decode cX8_field 95 = .ok (.aload_n 0, 1) := by decide +kernel
theorem dX8_field_96 : decode cX8_field 96 = .ok (.getfield 10, 3) := by decide +kernel
theorem dX8_field_99 : decode cX8_field 99 = .ok (.getfield 114, 3) := by decide +kernel
theorem dX8_field_102 : decode cX8_field 102 = .ok (.getfield 196, 3) := by decide +kernel
theorem dX8_field_105 : decode cX8_field 105 = .ok (.iload_n 1, 1) := by decide +kernel
theorem dX8_field_106 : decode cX8_field 106 = .ok (.invokevirtual 173, 3) := by decide +kernel
theorem dX8_field_109 : decode cX8_field 109 = .ok (.ireturn, 1) := by decide +kernel
theorem dX8_field_110 : decode cX8_field 110 = .ok (.aload_n 0, 1) := by decide +kernel
theorem dX8_field_111 : decode cX8_field 111 = .ok (.getfield 10, 3) := by decide +kernel
theorem dX8_field_114 : decode cX8_field 114 = .ok (.getfield 105, 3) := by decide +kernel
theorem dX8_field_117 : decode cX8_field 117 = .ok (.iload_n 1, 1) := by decide +kernel
theorem dX8_field_118 : decode cX8_field 118 = .ok (.invokevirtual 199, 3) := by decide +kernel
theorem dX8_field_121 : decode cX8_field 121 = .ok (.ireturn, 1) := by decide +kernel
theorem dX8_field_122 : decode cX8_field 122 = .ok (.iload 4, 2) := by decide +kernel
theorem dX8_field_124 : decode cX8_field 124 = .ok (.aload_n 0, 1) := by decide +kernel
theorem dX8_field_125 : decode cX8_field 125 = .ok (.getfield 10, 3) := by decide +kernel
theorem dX8_field_128 : decode cX8_field 128 = .ok (.getfield 114, 3) := by decide +kernel
theorem dX8_field_131 : decode cX8_field 131 = .ok (.getfield 202, 3) := by decide +kernel
theorem dX8_field_134 : decode cX8_field 134 = .ok (.iload_n 1, 1) := by decide +kernel
theorem dX8_field_135 : decode cX8_field 135 = .ok (.invokevirtual 173, 3) := by decide +kernel
theorem dX8_field_138 : decode cX8_field 138 = .ok (.isub, 1) := by decide +kernel
theorem dX8_field_139 : decode cX8_field 139 = .ok (.ireturn, 1) := by decide +kernel
theorem dX8_field_140 : decode cX8_field 140 = .ok (.aload_n 0, 1) := by decide +kernel
theorem dX8_field_141 : decode cX8_field 141 = .ok (.getfield 10, 3) := by decide +kernel
theorem dX8_field_144 : decode cX8_field 144 = .ok (.getfield 205, 3) := by decide +kernel
theorem dX8_field_147 : decode cX8_field 147 = .ok (.bipush 100, 2) := by decide +kernel
theorem dX8_field_149 : decode cX8_field 149 = .ok (.iload_n 3, 1) := by decide +kernel
theorem dX8_field_150 : decode cX8_field 150 = .ok (.iload_n 3, 1) := by decide +kernel
theorem dX8_field_151 : decode cX8_field 151 = .ok (.iload 4, 2) := by decide +kernel
theorem dX8_field_153 : decode cX8_field 153 = .ok (.iadd, 1) := by decide +kernel
theorem dX8_field_154 : decode cX8_field 154 = .ok (.invokevirtual 208, 3) := by decide +kernel
theorem dX8_field_157 : decode cX8_field 157 = .ok (.ireturn, 1) := by decide +kernel
theorem dX8_field_158 : decode cX8_field 158 = .ok (.new 49, 3) := by decide +kernel
theorem dX8_field_161 : decode cX8_field 161 = .ok (.dup, 1) := by decide +kernel
theorem dX8_field_162 : decode cX8_field 162 = .ok (.ldc 187, 2) := by decide +kernel
theorem dX8_field_164 : decode cX8_field 164 = .ok (.invokespecial 53, 3) := by decide +kernel
theorem dX8_field_167 : decode cX8_field 167 = .ok (.athrow, 1) := by decide +kernel
theorem dX8_place_0 : decode cX8_place 0 = .ok (.aload_n 0, 1) := by decide +kernel
theorem dX8_place_1 : decode cX8_place 1 = .ok (.getfield 10, 3) := by decide +kernel
theorem dX8_place_4 : decode cX8_place 4 = .ok (.getfield 114, 3) := by decide +kernel
theorem dX8_place_7 : decode cX8_place 7 = .ok (.iload_n 1, 1) := by decide +kernel
theorem dX8_place_8 : decode cX8_place 8 = .ok (.invokevirtual 189, 3) := by decide +kernel
theorem dX8_place_11 : decode cX8_place 11 = .ok (.ifCond .ne 13, 3) := by decide +kernel
theorem dX8_place_14 : decode cX8_place 14 = .ok (.new 165, 3) := by decide +kernel
theorem dX8_place_17 : decode cX8_place 17 = .ok (.dup, 1) := by decide +kernel
theorem dX8_place_18 : decode cX8_place 18 = .ok (.ldc 190, 2) := by decide +kernel
theorem dX8_place_20 : decode cX8_place 20 = .ok (.invokespecial 169, 3) := by decide +kernel
theorem dX8_place_23 : decode cX8_place 23 = .ok (.athrow, 1) := by decide +kernel
theorem dX8_place_24 : decode cX8_place 24 = .ok (.iload_n 2, 1) := by decide +kernel
theorem dX8_place_25 : decode cX8_place 25 = .ok (.ifCond .lt 21, 3) := by decide +kernel
theorem dX8_place_28 : decode cX8_place 28 = .ok (.iload_n 2, 1) := by decide +kernel
theorem dX8_place_29 : decode cX8_place 29 = .ok (.aload_n 0, 1) := by decide +kernel
theorem dX8_place_30 : decode cX8_place 30 = .ok (.getfield 10, 3) := by decide +kernel
theorem dX8_place_33 : decode cX8_place 33 = .ok (.getfield 114, 3) := by decide +kernel
theorem dX8_place_36 : decode cX8_place 36 = .ok (.getfield 195, 3) := by decide +kernel
theorem dX8_place_39 : decode cX8_place 39 = .ok (.iload_n 1, 1) := by decide +kernel
theorem dX8_place_40 : decode cX8_place 40 = .ok (.invokevirtual 173, 3) := by decide +kernel
theorem dX8_place_43 : decode cX8_place 43 = .ok (.if_icmp .lt 13, 3) := by decide +kernel
theorem dX8_place_46 : decode cX8_place 46 = .ok (.new 165, 3) := by decide +kernel
theorem dX8_place_49 : decode cX8_place 49 = .ok (.dup, 1) := by decide +kernel
theorem dX8_place_50 : decode cX8_place 50 = .ok (.ldc 212, 2) := by decide +kernel
theorem dX8_place_52 : decode cX8_place 52 = .ok (.invokespecial 169, 3) := by decide +kernel
theorem dX8_place_55 : decode cX8_place 55 = .ok (.athrow, 1) := by decide +kernel
theorem dX8_place_56 : decode cX8_place 56 = .ok (.aload_n 0, 1) := by decide +kernel
theorem dX8_place_57 : decode cX8_place 57 = .ok (.getfield 10, 3) := by decide +kernel
theorem dX8_place_60 : decode cX8_place 60 = .ok (.getfield 205, 3) := by decide +kernel
theorem dX8_place_63 : decode cX8_place 63 = .ok (.aload_n 0, 1) := by decide +kernel
theorem dX8_place_64 : decode cX8_place 64 = .ok (.getfield 10, 3) := by decide +kernel
theorem dX8_place_67 : decode cX8_place 67 = .ok (.getfield 114, 3) := by decide +kernel
theorem dX8_place_70 : decode cX8_place 70 = .ok (.getfield 192, 3) := by decide +kernel
theorem dX8_place_73 : decode cX8_place 73 = .ok (.iload_n 1, 1) := by decide +kernel
theorem dX8_place_74 : decode cX8_place 74 = .ok (.invokevirtual 173, 3) := by decide +kernel
theorem dX8_place_77 : decode cX8_place 77 = .ok (.iload_n 2, 1) := by decide +kernel
theorem dX8_place_78 : decode cX8_place 78 = .ok (.iadd, 1) := by decide +kernel
theorem dX8_place_79 : decode cX8_place 79 = .ok (.invokevirtual 173, 3) := by decide +kernel
theorem dX8_place_82 : decode cX8_place 82 = .ok (.ireturn, 1) := by decide +kernel
theorem dX8_spare_0 : decode cX8_spare 0 = .ok (.iload_n 1, 1) := by decide +kernel
theorem dX8_spare_1 : decode cX8_spare 1 = .ok (.ifCond .ge 13, 3) := by decide +kernel
theorem dX8_spare_4 : decode cX8_spare 4 = .ok (.new 49, 3) := by decide +kernel
theorem dX8_spare_7 : decode cX8_spare 7 = .ok (.dup, 1) := by decide +kernel
theorem dX8_spare_8 : decode cX8_spare 8 = .ok (.ldc 214, 2) := by decide +kernel
theorem dX8_spare_10 : decode cX8_spare 10 = .ok (.invokespecial 53, 3) := by decide +kernel
theorem dX8_spare_13 : decode cX8_spare 13 = .ok (.athrow, 1) := by decide +kernel
theorem dX8_spare_14 : decode cX8_spare 14 = .ok (.aload_n 0, 1) := by decide +kernel
theorem dX8_spare_15 : decode cX8_spare 15 = .ok (.getfield 10, 3) := by decide +kernel
theorem dX8_spare_18 : decode cX8_spare 18 = .ok (.getfield 121, 3) := by decide +kernel
theorem dX8_spare_21 : decode cX8_spare 21 = .ok (.iload_n 1, 1) := by decide +kernel
theorem dX8_spare_22 : decode cX8_spare 22 = .ok (.invokevirtual 216, 3) := by decide +kernel
theorem dX8_spare_25 : decode cX8_spare 25 = .ok (.istore_n 2, 1) := by decide +kernel
theorem dX8_spare_26 : decode cX8_spare 26 = .ok (.iload_n 2, 1) := by decide +kernel
theorem dX8_spare_27 : decode cX8_spare 27 = .ok (.iconst (-1), 1) := by decide +kernel
theorem dX8_spare_28 : decode cX8_spare 28 = .ok (.if_icmp .ne 7, 3) := by decide +kernel
theorem dX8_spare_31 : decode cX8_spare 31 = .ok (.iconst (-1), 1) := by decide +kernel
theorem dX8_spare_32 : decode cX8_spare 32 = .ok (.goto 17, 3) := by decide +kernel
theorem dX8_spare_35 : decode cX8_spare 35 = .ok (.aload_n 0, 1) := by decide +kernel
theorem dX8_spare_36 : decode cX8_spare 36 = .ok (.getfield 10, 3) := by decide +kernel
theorem dX8_spare_39 : decode cX8_spare 39 = .ok (.getfield 121, 3) := by decide +kernel
theorem dX8_spare_42 : decode cX8_spare 42 = .ok (.getfield 195, 3) := by decide +kernel
theorem dX8_spare_45 : decode cX8_spare 45 = .ok (.iload_n 2, 1) := by decide +kernel
theorem dX8_spare_46 : decode cX8_spare 46 = .ok (.invokevirtual 173, 3) := by decide +kernel
theorem dX8_spare_49 : decode cX8_spare 49 = .ok (.ireturn, 1) := by decide +kernel
theorem dX8_frame_0 : decode cX8_frame 0 = .ok (.aload_n 0, 1) := by decide +kernel
theorem dX8_frame_1 : decode cX8_frame 1 = .ok (.getfield 10, 3) := by decide +kernel
theorem dX8_frame_4 : decode cX8_frame 4 = .ok (.getfield 124, 3) := by decide +kernel
theorem dX8_frame_7 : decode cX8_frame 7 = .ok (.iload_n 1, 1) := by decide +kernel
theorem dX8_frame_8 : decode cX8_frame 8 = .ok (.invokevirtual 219, 3) := by decide +kernel
theorem dX8_frame_11 : decode cX8_frame 11 = .ok (.ifCond .ne 13, 3) := by decide +kernel
theorem dX8_frame_14 : decode cX8_frame 14 = .ok (.new 165, 3) := by decide +kernel
theorem dX8_frame_17 : decode cX8_frame 17 = .ok (.dup, 1) := by decide +kernel
theorem dX8_frame_18 : decode cX8_frame 18 = .ok (.ldc 220, 2) := by decide +kernel
theorem dX8_frame_20 : decode cX8_frame 20 = .ok (.invokespecial 169, 3) := by decide +kernel
theorem dX8_frame_23 : decode cX8_frame 23 = .ok (.athrow, 1) := by decide +kernel
theorem dX8_frame_24 : decode cX8_frame 24 = .ok (.iload_n 2, 1) := by decide +kernel
theorem dX8_frame_25 : decode cX8_frame 25 = .ok (.tableswitch 82 0 2 #[27, 42, 57], 27) := by decide +kernel
theorem dX8_frame_52 : decode cX8_frame 52 = .ok (.aload_n 0, 1) := by decide +kernel
theorem dX8_frame_53 : decode cX8_frame 53 = .ok (.getfield 10, 3) := by decide +kernel
theorem dX8_frame_56 : decode cX8_frame 56 = .ok (.getfield 124, 3) := by decide +kernel
theorem dX8_frame_59 : decode cX8_frame 59 = .ok (.getfield 222, 3) := by decide +kernel
theorem dX8_frame_62 : decode cX8_frame 62 = .ok (.iload_n 1, 1) := by decide +kernel
theorem dX8_frame_63 : decode cX8_frame 63 = .ok (.invokevirtual 173, 3) := by decide +kernel
theorem dX8_frame_66 : decode cX8_frame 66 = .ok (.ireturn, 1) := by decide +kernel
theorem dX8_frame_67 : decode cX8_frame 67 = .ok (.aload_n 0, 1) := by decide +kernel
theorem dX8_frame_68 : decode cX8_frame 68 = .ok (.getfield 10, 3) := by decide +kernel
theorem dX8_frame_71 : decode cX8_frame 71 = .ok (.getfield 124, 3) := by decide +kernel
theorem dX8_frame_74 : decode cX8_frame 74 = .ok (.getfield 224, 3) := by decide +kernel
theorem dX8_frame_77 : decode cX8_frame 77 = .ok (.iload_n 1, 1) := by decide +kernel
theorem dX8_frame_78 : decode cX8_frame 78 = .ok (.invokevirtual 173, 3) := by decide +kernel
theorem dX8_frame_81 : decode cX8_frame 81 = .ok (.ireturn, 1) := by decide +kernel
theorem dX8_frame_82 : decode cX8_frame 82 = .ok (.aload_n 0, 1) := by decide +kernel
theorem dX8_frame_83 : decode cX8_frame 83 = .ok (.getfield 10, 3) := by decide +kernel
theorem dX8_frame_86 : decode cX8_frame 86 = .ok (.getfield 105, 3) := by decide +kernel
theorem dX8_frame_89 : decode cX8_frame 89 = .ok (.aload_n 0, 1) := by decide +kernel
theorem dX8_frame_90 : decode cX8_frame 90 = .ok (.getfield 10, 3) := by decide +kernel
theorem dX8_frame_93 : decode cX8_frame 93 = .ok (.getfield 124, 3) := by decide +kernel
theorem dX8_frame_96 : decode cX8_frame 96 = .ok (.getfield 222, 3) := by decide +kernel
theorem dX8_frame_99 : decode cX8_frame 99 = .ok (.iload_n 1, 1) := by decide +kernel
theorem dX8_frame_100 : decode cX8_frame 100 = .ok (.invokevirtual 173, 3) := by decide +kernel
theorem dX8_frame_103 : decode cX8_frame 103 = .ok (.invokevirtual 131, 3) := by decide +kernel
theorem dX8_frame_106 : decode cX8_frame 106 = .ok (.ireturn, 1) := by decide +kernel
theorem dX8_frame_107 : decode cX8_frame 107 = .ok (.new 49, 3) := by decide +kernel
theorem dX8_frame_110 : decode cX8_frame 110 = .ok (.dup, 1) := by decide +kernel
theorem dX8_frame_111 : decode cX8_frame 111 = .ok (.ldc 227, 2) := by decide +kernel
theorem dX8_frame_113 : decode cX8_frame 113 = .ok (.invokespecial 53, 3) := by decide +kernel
theorem dX8_frame_116 : decode cX8_frame 116 = .ok (.athrow, 1) := by decide +kernel
theorem dX8_pitch_0 : decode cX8_pitch 0 = .ok (.iload_n 1, 1) := by decide +kernel
theorem dX8_pitch_1 : decode cX8_pitch 1 = .ok (.iload_n 2, 1) := by decide +kernel
theorem dX8_pitch_2 : decode cX8_pitch 2 = .ok (.invokestatic 229, 3) := by decide +kernel
theorem dX8_pitch_5 : decode cX8_pitch 5 = .ok (.ifCond .ne 13, 3) := by decide +kernel
theorem dX8_pitch_8 : decode cX8_pitch 8 = .ok (.new 49, 3) := by decide +kernel
theorem dX8_pitch_11 : decode cX8_pitch 11 = .ok (.dup, 1) := by decide +kernel
theorem dX8_pitch_12 : decode cX8_pitch 12 = .ok (.ldc 233, 2) := by decide +kernel
theorem dX8_pitch_14 : decode cX8_pitch 14 = .ok (.invokespecial 53, 3) := by decide +kernel
theorem dX8_pitch_17 : decode cX8_pitch 17 = .ok (.athrow, 1) := by decide +kernel
theorem dX8_pitch_18 : decode cX8_pitch 18 = .ok (.aload_n 0, 1) := by decide +kernel
theorem dX8_pitch_19 : decode cX8_pitch 19 = .ok (.getfield 10, 3) := by decide +kernel
theorem dX8_pitch_22 : decode cX8_pitch 22 = .ok (.getfield 105, 3) := by decide +kernel
theorem dX8_pitch_25 : decode cX8_pitch 25 = .ok (.getfield 109, 3) := by decide +kernel
theorem dX8_pitch_28 : decode cX8_pitch 28 = .ok (.bipush 24, 2) := by decide +kernel
theorem dX8_pitch_30 : decode cX8_pitch 30 = .ok (.if_icmp .ge 16, 3) := by decide +kernel
theorem dX8_pitch_33 : decode cX8_pitch 33 = .ok (.aload_n 0, 1) := by decide +kernel
theorem dX8_pitch_34 : decode cX8_pitch 34 = .ok (.getfield 10, 3) := by decide +kernel
theorem dX8_pitch_37 : decode cX8_pitch 37 = .ok (.iload_n 1, 1) := by decide +kernel
theorem dX8_pitch_38 : decode cX8_pitch 38 = .ok (.iload_n 2, 1) := by decide +kernel
theorem dX8_pitch_39 : decode cX8_pitch 39 = .ok (.invokevirtual 235, 3) := by decide +kernel
theorem dX8_pitch_42 : decode cX8_pitch 42 = .ok (.iconst 3, 1) := by decide +kernel
theorem dX8_pitch_43 : decode cX8_pitch 43 = .ok (.if_icmp .ne 13, 3) := by decide +kernel
theorem dX8_pitch_46 : decode cX8_pitch 46 = .ok (.new 60, 3) := by decide +kernel
theorem dX8_pitch_49 : decode cX8_pitch 49 = .ok (.dup, 1) := by decide +kernel
theorem dX8_pitch_50 : decode cX8_pitch 50 = .ok (.ldc 239, 2) := by decide +kernel
theorem dX8_pitch_52 : decode cX8_pitch 52 = .ok (.invokespecial 64, 3) := by decide +kernel
theorem dX8_pitch_55 : decode cX8_pitch 55 = .ok (.athrow, 1) := by decide +kernel
theorem dX8_pitch_56 : decode cX8_pitch 56 = .ok (.aload_n 0, 1) := by decide +kernel
theorem dX8_pitch_57 : decode cX8_pitch 57 = .ok (.getfield 22, 3) := by decide +kernel
theorem dX8_pitch_60 : decode cX8_pitch 60 = .ok (.aload_n 0, 1) := by decide +kernel
theorem dX8_pitch_61 : decode cX8_pitch 61 = .ok (.getfield 10, 3) := by decide +kernel
theorem dX8_pitch_64 : decode cX8_pitch 64 = .ok (.invokevirtual 241, 3) := by decide +kernel
theorem dX8_pitch_67 : decode cX8_pitch 67 = .ok (.aload_n 0, 1) := by decide +kernel
theorem dX8_pitch_68 : decode cX8_pitch 68 = .ok (.getfield 10, 3) := by decide +kernel
theorem dX8_pitch_71 : decode cX8_pitch 71 = .ok (.iload_n 1, 1) := by decide +kernel
theorem dX8_pitch_72 : decode cX8_pitch 72 = .ok (.iload_n 2, 1) := by decide +kernel
theorem dX8_pitch_73 : decode cX8_pitch 73 = .ok (.invokevirtual 245, 3) := by decide +kernel
theorem dX8_pitch_76 : decode cX8_pitch 76 = .ok (.ireturn, 1) := by decide +kernel
theorem dX8_isTentKind_0 : decode cX8_isTentKind 0 = .ok (.iload_n 0, 1) := by decide +kernel
theorem dX8_isTentKind_1 : decode cX8_isTentKind 1 = .ok (.iconst 1, 1) := by decide +kernel
theorem dX8_isTentKind_2 : decode cX8_isTentKind 2 = .ok (.if_icmp .lt 20, 3) := by decide +kernel
theorem dX8_isTentKind_5 : decode cX8_isTentKind 5 = .ok (.iload_n 0, 1) := by decide +kernel
theorem dX8_isTentKind_6 : decode cX8_isTentKind 6 = .ok (.bipush 40, 2) := by decide +kernel
theorem dX8_isTentKind_8 : decode cX8_isTentKind 8 = .ok (.if_icmp .gt 14, 3) := by decide +kernel
theorem dX8_isTentKind_11 : decode cX8_isTentKind 11 = .ok (.iload_n 1, 1) := by decide +kernel
theorem dX8_isTentKind_12 : decode cX8_isTentKind 12 = .ok (.invokestatic 330, 3) := by decide +kernel
theorem dX8_isTentKind_15 : decode cX8_isTentKind 15 = .ok (.ifCond .eq 7, 3) := by decide +kernel
theorem dX8_isTentKind_18 : decode cX8_isTentKind 18 = .ok (.iconst 1, 1) := by decide +kernel
theorem dX8_isTentKind_19 : decode cX8_isTentKind 19 = .ok (.goto 4, 3) := by decide +kernel
theorem dX8_isTentKind_22 : decode cX8_isTentKind 22 = .ok (.iconst 0, 1) := by decide +kernel
theorem dX8_isTentKind_23 : decode cX8_isTentKind 23 = .ok (.ireturn, 1) := by decide +kernel
theorem dX8_fill_0 : decode cX8_fill 0 = .ok (.aload_n 0, 1) := by decide +kernel
theorem dX8_fill_1 : decode cX8_fill 1 = .ok (.getfield 10, 3) := by decide +kernel
theorem dX8_fill_4 : decode cX8_fill 4 = .ok (.getfield 105, 3) := by decide +kernel
theorem dX8_fill_7 : decode cX8_fill 7 = .ok (.iload_n 1, 1) := by decide +kernel
theorem dX8_fill_8 : decode cX8_fill 8 = .ok (.invokevirtual 161, 3) := by decide +kernel
theorem dX8_fill_11 : decode cX8_fill 11 = .ok (.ifCond .ne 13, 3) := by decide +kernel
theorem dX8_fill_14 : decode cX8_fill 14 = .ok (.new 165, 3) := by decide +kernel
theorem dX8_fill_17 : decode cX8_fill 17 = .ok (.dup, 1) := by decide +kernel
theorem dX8_fill_18 : decode cX8_fill 18 = .ok (.ldc 167, 2) := by decide +kernel
theorem dX8_fill_20 : decode cX8_fill 20 = .ok (.invokespecial 169, 3) := by decide +kernel
theorem dX8_fill_23 : decode cX8_fill 23 = .ok (.athrow, 1) := by decide +kernel
theorem dX8_fill_24 : decode cX8_fill 24 = .ok (.iload_n 2, 1) := by decide +kernel
theorem dX8_fill_25 : decode cX8_fill 25 = .ok (.ifCond .lt 9, 3) := by decide +kernel
theorem dX8_fill_28 : decode cX8_fill 28 = .ok (.iload_n 2, 1) := by decide +kernel
theorem dX8_fill_29 : decode cX8_fill 29 = .ok (.bipush 99, 2) := by decide +kernel
theorem dX8_fill_31 : decode cX8_fill 31 = .ok (.if_icmp .le 13, 3) := by decide +kernel
theorem dX8_fill_34 : decode cX8_fill 34 = .ok (.new 49, 3) := by decide +kernel
theorem dX8_fill_37 : decode cX8_fill 37 = .ok (.dup, 1) := by decide +kernel
theorem dX8_fill_38 : decode cX8_fill 38 = .ok (.ldc 248, 2) := by decide +kernel
theorem dX8_fill_40 : decode cX8_fill 40 = .ok (.invokespecial 53, 3) := by decide +kernel
theorem dX8_fill_43 : decode cX8_fill 43 = .ok (.athrow, 1) := by decide +kernel
theorem dX8_fill_44 : decode cX8_fill 44 = .ok (.aload_n 0, 1) := by decide +kernel
theorem dX8_fill_45 : decode cX8_fill 45 = .ok (.getfield 22, 3) := by decide +kernel
theorem dX8_fill_48 : decode cX8_fill 48 = .ok (.aload_n 0, 1) := by decide +kernel
theorem dX8_fill_49 : decode cX8_fill 49 = .ok (.getfield 10, 3) := by decide +kernel
theorem dX8_fill_52 : decode cX8_fill 52 = .ok (.invokevirtual 241, 3) := by decide +kernel
theorem dX8_fill_55 : decode cX8_fill 55 = .ok (.aload_n 0, 1) := by decide +kernel
theorem dX8_fill_56 : decode cX8_fill 56 = .ok (.getfield 10, 3) := by decide +kernel
theorem dX8_fill_59 : decode cX8_fill 59 = .ok (.iload_n 1, 1) := by decide +kernel
theorem dX8_fill_60 : decode cX8_fill 60 = .ok (.iload_n 2, 1) := by decide +kernel
theorem dX8_fill_61 : decode cX8_fill 61 = .ok (.invokevirtual 250, 3) := by decide +kernel
theorem dX8_fill_64 : decode cX8_fill 64 = .ok (.ireturn, 1) := by decide +kernel
theorem dX8_enter_0 : decode cX8_enter 0 = .ok (.aload_n 0, 1) := by decide +kernel
theorem dX8_enter_1 : decode cX8_enter 1 = .ok (.getfield 10, 3) := by decide +kernel
theorem dX8_enter_4 : decode cX8_enter 4 = .ok (.getfield 124, 3) := by decide +kernel
theorem dX8_enter_7 : decode cX8_enter 7 = .ok (.getfield 128, 3) := by decide +kernel
theorem dX8_enter_10 : decode cX8_enter 10 = .ok (.bipush 8, 2) := by decide +kernel
theorem dX8_enter_12 : decode cX8_enter 12 = .ok (.if_icmp .lt 13, 3) := by decide +kernel
theorem dX8_enter_15 : decode cX8_enter 15 = .ok (.new 60, 3) := by decide +kernel
theorem dX8_enter_18 : decode cX8_enter 18 = .ok (.dup, 1) := by decide +kernel
theorem dX8_enter_19 : decode cX8_enter 19 = .ok (.ldc 253, 2) := by decide +kernel
theorem dX8_enter_21 : decode cX8_enter 21 = .ok (.invokespecial 64, 3) := by decide +kernel
theorem dX8_enter_24 : decode cX8_enter 24 = .ok (.athrow, 1) := by decide +kernel
theorem dX8_enter_25 : decode cX8_enter 25 = .ok (.aload_n 0, 1) := by decide +kernel
theorem dX8_enter_26 : decode cX8_enter 26 = .ok (.getfield 22, 3) := by decide +kernel
theorem dX8_enter_29 : decode cX8_enter 29 = .ok (.aload_n 0, 1) := by decide +kernel
theorem dX8_enter_30 : decode cX8_enter 30 = .ok (.getfield 10, 3) := by decide +kernel
theorem dX8_enter_33 : decode cX8_enter 33 = .ok (.invokevirtual 241, 3) := by decide +kernel
theorem dX8_enter_36 : decode cX8_enter 36 = .ok (.aload_n 0, 1) := by decide +kernel
theorem dX8_enter_37 : decode cX8_enter 37 = .ok (.getfield 10, 3) := by decide +kernel
theorem dX8_enter_40 : decode cX8_enter 40 = .ok (.invokevirtual 255, 3) := by decide +kernel
theorem dX8_enter_43 : decode cX8_enter 43 = .ok (.ireturn, 1) := by decide +kernel
theorem dX8_leave_0 : decode cX8_leave 0 = .ok (.aload_n 0, 1) := by decide +kernel
theorem dX8_leave_1 : decode cX8_leave 1 = .ok (.getfield 10, 3) := by decide +kernel
theorem dX8_leave_4 : decode cX8_leave 4 = .ok (.getfield 124, 3) := by decide +kernel
theorem dX8_leave_7 : decode cX8_leave 7 = .ok (.getfield 128, 3) := by decide +kernel
theorem dX8_leave_10 : decode cX8_leave 10 = .ok (.ifCond .ne 14, 3) := by decide +kernel
theorem dX8_leave_13 : decode cX8_leave 13 = .ok (.new 60, 3) := by decide +kernel
theorem dX8_leave_16 : decode cX8_leave 16 = .ok (.dup, 1) := by decide +kernel
theorem dX8_leave_17 : decode cX8_leave 17 = .ok (.ldc_w 258, 3) := by decide +kernel
theorem dX8_leave_20 : decode cX8_leave 20 = .ok (.invokespecial 64, 3) := by decide +kernel
theorem dX8_leave_23 : decode cX8_leave 23 = .ok (.athrow, 1) := by decide +kernel
theorem dX8_leave_24 : decode cX8_leave 24 = .ok (.aload_n 0, 1) := by decide +kernel
theorem dX8_leave_25 : decode cX8_leave 25 = .ok (.getfield 22, 3) := by decide +kernel
theorem dX8_leave_28 : decode cX8_leave 28 = .ok (.aload_n 0, 1) := by decide +kernel
theorem dX8_leave_29 : decode cX8_leave 29 = .ok (.getfield 10, 3) := by decide +kernel
theorem dX8_leave_32 : decode cX8_leave 32 = .ok (.invokevirtual 241, 3) := by decide +kernel
theorem dX8_leave_35 : decode cX8_leave 35 = .ok (.aload_n 0, 1) := by decide +kernel
theorem dX8_leave_36 : decode cX8_leave 36 = .ok (.getfield 10, 3) := by decide +kernel
theorem dX8_leave_39 : decode cX8_leave 39 = .ok (.invokevirtual 260, 3) := by decide +kernel
theorem dX8_leave_42 : decode cX8_leave 42 = .ok (.ireturn, 1) := by decide +kernel
theorem dX8_jump_0 : decode cX8_jump 0 = .ok (.aload_n 0, 1) := by decide +kernel
theorem dX8_jump_1 : decode cX8_jump 1 = .ok (.getfield 10, 3) := by decide +kernel
theorem dX8_jump_4 : decode cX8_jump 4 = .ok (.getfield 124, 3) := by decide +kernel
theorem dX8_jump_7 : decode cX8_jump 7 = .ok (.iload_n 1, 1) := by decide +kernel
theorem dX8_jump_8 : decode cX8_jump 8 = .ok (.invokevirtual 219, 3) := by decide +kernel
theorem dX8_jump_11 : decode cX8_jump 11 = .ok (.ifCond .ne 13, 3) := by decide +kernel
theorem dX8_jump_14 : decode cX8_jump 14 = .ok (.new 165, 3) := by decide +kernel
theorem dX8_jump_17 : decode cX8_jump 17 = .ok (.dup, 1) := by decide +kernel
theorem dX8_jump_18 : decode cX8_jump 18 = .ok (.ldc 220, 2) := by decide +kernel
theorem dX8_jump_20 : decode cX8_jump 20 = .ok (.invokespecial 169, 3) := by decide +kernel
theorem dX8_jump_23 : decode cX8_jump 23 = .ok (.athrow, 1) := by decide +kernel
theorem dX8_jump_24 : decode cX8_jump 24 = .ok (.aload_n 0, 1) := by decide +kernel
theorem dX8_jump_25 : decode cX8_jump 25 = .ok (.getfield 22, 3) := by decide +kernel
theorem dX8_jump_28 : decode cX8_jump 28 = .ok (.aload_n 0, 1) := by decide +kernel
theorem dX8_jump_29 : decode cX8_jump 29 = .ok (.getfield 10, 3) := by decide +kernel
theorem dX8_jump_32 : decode cX8_jump 32 = .ok (.invokevirtual 241, 3) := by decide +kernel
theorem dX8_jump_35 : decode cX8_jump 35 = .ok (.aload_n 0, 1) := by decide +kernel
theorem dX8_jump_36 : decode cX8_jump 36 = .ok (.getfield 10, 3) := by decide +kernel
theorem dX8_jump_39 : decode cX8_jump 39 = .ok (.iload_n 1, 1) := by decide +kernel
theorem dX8_jump_40 : decode cX8_jump 40 = .ok (.invokevirtual 263, 3) := by decide +kernel
theorem dX8_jump_43 : decode cX8_jump 43 = .ok (.ireturn, 1) := by decide +kernel
theorem dX8_set_0 : decode cX8_set 0 = .ok (.iload_n 1, 1) := by decide +kernel
theorem dX8_set_1 : decode cX8_set 1 = .ok (.iload_n 2, 1) := by decide +kernel
theorem dX8_set_2 : decode cX8_set 2 = .ok (.invokestatic 266, 3) := by decide +kernel
theorem dX8_set_5 : decode cX8_set 5 = .ok (.ifCond .ne 14, 3) := by decide +kernel
theorem dX8_set_8 : decode cX8_set 8 = .ok (.new 49, 3) := by decide +kernel
theorem dX8_set_11 : decode cX8_set 11 = .ok (.dup, 1) := by decide +kernel
theorem dX8_set_12 : decode cX8_set 12 = .ok (.ldc_w 269, 3) := by decide +kernel
theorem dX8_set_15 : decode cX8_set 15 = .ok (.invokespecial 53, 3) := by decide +kernel
theorem dX8_set_18 : decode cX8_set 18 = .ok (.athrow, 1) := by decide +kernel
theorem dX8_set_19 : decode cX8_set 19 = .ok (.aload_n 0, 1) := by decide +kernel
theorem dX8_set_20 : decode cX8_set 20 = .ok (.getfield 22, 3) := by decide +kernel
theorem dX8_set_23 : decode cX8_set 23 = .ok (.aload_n 0, 1) := by decide +kernel
theorem dX8_set_24 : decode cX8_set 24 = .ok (.getfield 10, 3) := by decide +kernel
theorem dX8_set_27 : decode cX8_set 27 = .ok (.invokevirtual 241, 3) := by decide +kernel
theorem dX8_set_30 : decode cX8_set 30 = .ok (.iconst (-1), 1) := by decide +kernel
theorem dX8_set_31 : decode cX8_set 31 = .ok (.istore_n 3, 1) := by decide +kernel
theorem dX8_set_32 : decode cX8_set 32 = .ok (.iload_n 1, 1) := by decide +kernel
theorem dX8_set_33 : decode cX8_set 33 = .ok (.lookupswitch 65 #[(0, 27), (1, 46)], 27) := by decide +kernel
theorem dX8_set_60 : decode cX8_set 60 = .ok (.aload_n 0, 1) := by decide +kernel
theorem dX8_set_61 : decode cX8_set 61 = .ok (.getfield 10, 3) := by decide +kernel
theorem dX8_set_64 : decode cX8_set 64 = .ok (.getfield 150, 3) := by decide +kernel
theorem dX8_set_67 : decode cX8_set 67 = .ok (.istore_n 3, 1) := by decide +kernel
theorem dX8_set_68 : decode cX8_set 68 = .ok (.aload_n 0, 1) := by decide +kernel
theorem dX8_set_69 : decode cX8_set 69 = .ok (.getfield 10, 3) := by decide +kernel
theorem dX8_set_72 : decode cX8_set 72 = .ok (.iload_n 2, 1) := by decide +kernel
theorem dX8_set_73 : decode cX8_set 73 = .ok (.putfield 150, 3) := by decide +kernel
theorem dX8_set_76 : decode cX8_set 76 = .ok (.goto 38, 3) := by decide +kernel
theorem dX8_set_79 : decode cX8_set 79 = .ok (.aload_n 0, 1) := by decide +kernel
theorem dX8_set_80 : decode cX8_set 80 = .ok (.getfield 10, 3) := by decide +kernel
theorem dX8_set_83 : decode cX8_set 83 = .ok (.getfield 153, 3) := by decide +kernel
theorem dX8_set_86 : decode cX8_set 86 = .ok (.istore_n 3, 1) := by decide +kernel
theorem dX8_set_87 : decode cX8_set 87 = .ok (.aload_n 0, 1) := by decide +kernel
theorem dX8_set_88 : decode cX8_set 88 = .ok (.getfield 10, 3) := by decide +kernel
theorem dX8_set_91 : decode cX8_set 91 = .ok (.iload_n 2, 1) := by decide +kernel
theorem dX8_set_92 : decode cX8_set 92 = .ok (.putfield 153, 3) := by decide +kernel
theorem dX8_set_95 : decode cX8_set 95 = .ok (.goto 19, 3) := by decide +kernel
theorem dX8_set_98 : decode cX8_set 98 = .ok (.aload_n 0, 1) := by decide +kernel
theorem dX8_set_99 : decode cX8_set 99 = .ok (.getfield 10, 3) := by decide +kernel
theorem dX8_set_102 : decode cX8_set 102 = .ok (.getfield 156, 3) := by decide +kernel
theorem dX8_set_105 : decode cX8_set 105 = .ok (.istore_n 3, 1) := by decide +kernel
theorem dX8_set_106 : decode cX8_set 106 = .ok (.aload_n 0, 1) := by decide +kernel
theorem dX8_set_107 : decode cX8_set 107 = .ok (.getfield 10, 3) := by decide +kernel
theorem dX8_set_110 : decode cX8_set 110 = .ok (.iload_n 2, 1) := by decide +kernel
theorem dX8_set_111 : decode cX8_set 111 = .ok (.putfield 156, 3) := by decide +kernel
theorem dX8_set_114 : decode cX8_set 114 = .ok (.iload_n 3, 1) := by decide +kernel
theorem dX8_set_115 : decode cX8_set 115 = .ok (.ireturn, 1) := by decide +kernel
theorem dX8_isSetting_0 : decode cX8_isSetting 0 = .ok (.iload_n 0, 1) := by decide +kernel
theorem dX8_isSetting_1 : decode cX8_isSetting 1 = .ok (.tableswitch 77 0 2 #[27, 45, 62], 27) := by decide +kernel
theorem dX8_isSetting_28 : decode cX8_isSetting 28 = .ok (.iload_n 1, 1) := by decide +kernel
theorem dX8_isSetting_29 : decode cX8_isSetting 29 = .ok (.bipush 8, 2) := by decide +kernel
theorem dX8_isSetting_31 : decode cX8_isSetting 31 = .ok (.if_icmp .lt 13, 3) := by decide +kernel
theorem dX8_isSetting_34 : decode cX8_isSetting 34 = .ok (.iload_n 1, 1) := by decide +kernel
theorem dX8_isSetting_35 : decode cX8_isSetting 35 = .ok (.bipush 64, 2) := by decide +kernel
theorem dX8_isSetting_37 : decode cX8_isSetting 37 = .ok (.if_icmp .gt 7, 3) := by decide +kernel
theorem dX8_isSetting_40 : decode cX8_isSetting 40 = .ok (.iconst 1, 1) := by decide +kernel
theorem dX8_isSetting_41 : decode cX8_isSetting 41 = .ok (.goto 4, 3) := by decide +kernel
theorem dX8_isSetting_44 : decode cX8_isSetting 44 = .ok (.iconst 0, 1) := by decide +kernel
theorem dX8_isSetting_45 : decode cX8_isSetting 45 = .ok (.ireturn, 1) := by decide +kernel
theorem dX8_isSetting_46 : decode cX8_isSetting 46 = .ok (.iload_n 1, 1) := by decide +kernel
theorem dX8_isSetting_47 : decode cX8_isSetting 47 = .ok (.ifCond .lt 14, 3) := by decide +kernel
theorem dX8_isSetting_50 : decode cX8_isSetting 50 = .ok (.iload_n 1, 1) := by decide +kernel
theorem dX8_isSetting_51 : decode cX8_isSetting 51 = .ok (.sipush 128, 3) := by decide +kernel
theorem dX8_isSetting_54 : decode cX8_isSetting 54 = .ok (.if_icmp .gt 7, 3) := by decide +kernel
theorem dX8_isSetting_57 : decode cX8_isSetting 57 = .ok (.iconst 1, 1) := by decide +kernel
theorem dX8_isSetting_58 : decode cX8_isSetting 58 = .ok (.goto 4, 3) := by decide +kernel
theorem dX8_isSetting_61 : decode cX8_isSetting 61 = .ok (.iconst 0, 1) := by decide +kernel
theorem dX8_isSetting_62 : decode cX8_isSetting 62 = .ok (.ireturn, 1) := by decide +kernel
theorem dX8_isSetting_63 : decode cX8_isSetting 63 = .ok (.iload_n 1, 1) := by decide +kernel
theorem dX8_isSetting_64 : decode cX8_isSetting 64 = .ok (.ifCond .eq 8, 3) := by decide +kernel
theorem dX8_isSetting_67 : decode cX8_isSetting 67 = .ok (.iload_n 1, 1) := by decide +kernel
theorem dX8_isSetting_68 : decode cX8_isSetting 68 = .ok (.iconst 1, 1) := by decide +kernel
theorem dX8_isSetting_69 : decode cX8_isSetting 69 = .ok (.if_icmp .ne 7, 3) := by decide +kernel
theorem dX8_isSetting_72 : decode cX8_isSetting 72 = .ok (.iconst 1, 1) := by decide +kernel
theorem dX8_isSetting_73 : decode cX8_isSetting 73 = .ok (.goto 4, 3) := by decide +kernel
theorem dX8_isSetting_76 : decode cX8_isSetting 76 = .ok (.iconst 0, 1) := by decide +kernel
theorem dX8_isSetting_77 : decode cX8_isSetting 77 = .ok (.ireturn, 1) := by decide +kernel
theorem dX8_isSetting_78 : decode cX8_isSetting 78 = .ok (.iconst 0, 1) := by decide +kernel
theorem dX8_isSetting_79 : decode cX8_isSetting 79 = .ok (.ireturn, 1) := by decide +kernel
theorem dX8_undo_0 : decode cX8_undo 0 = .ok (.aload_n 0, 1) := by decide +kernel
theorem dX8_undo_1 : decode cX8_undo 1 = .ok (.getfield 22, 3) := by decide +kernel
theorem dX8_undo_4 : decode cX8_undo 4 = .ok (.getfield 271, 3) := by decide +kernel
theorem dX8_undo_7 : decode cX8_undo 7 = .ok (.ifCond .ne 14, 3) := by decide +kernel
theorem dX8_undo_10 : decode cX8_undo 10 = .ok (.new 60, 3) := by decide +kernel
theorem dX8_undo_13 : decode cX8_undo 13 = .ok (.dup, 1) := by decide +kernel
theorem dX8_undo_14 : decode cX8_undo 14 = .ok (.ldc_w 272, 3) := by decide +kernel
theorem dX8_undo_17 : decode cX8_undo 17 = .ok (.invokespecial 64, 3) := by decide +kernel
theorem dX8_undo_20 : decode cX8_undo 20 = .ok (.athrow, 1) := by decide +kernel
theorem dX8_undo_21 : decode cX8_undo 21 = .ok (.aload_n 0, 1) := by decide +kernel
theorem dX8_undo_22 : decode cX8_undo 22 = .ok (.getfield 22, 3) := by decide +kernel
theorem dX8_undo_25 : decode cX8_undo 25 = .ok (.aload_n 0, 1) := by decide +kernel
theorem dX8_undo_26 : decode cX8_undo 26 = .ok (.getfield 10, 3) := by decide +kernel
theorem dX8_undo_29 : decode cX8_undo 29 = .ok (.invokevirtual 274, 3) := by decide +kernel
theorem dX8_undo_32 : decode cX8_undo 32 = .ok (.aload_n 0, 1) := by decide +kernel
theorem dX8_undo_33 : decode cX8_undo 33 = .ok (.getfield 22, 3) := by decide +kernel
theorem dX8_undo_36 : decode cX8_undo 36 = .ok (.getfield 271, 3) := by decide +kernel
theorem dX8_undo_39 : decode cX8_undo 39 = .ok (.ireturn, 1) := by decide +kernel
theorem dX8_where_0 : decode cX8_where 0 = .ok (.iload_n 1, 1) := by decide +kernel
theorem dX8_where_1 : decode cX8_where 1 = .ok (.iload_n 2, 1) := by decide +kernel
theorem dX8_where_2 : decode cX8_where 2 = .ok (.invokestatic 229, 3) := by decide +kernel
theorem dX8_where_5 : decode cX8_where 5 = .ok (.ifCond .ne 13, 3) := by decide +kernel
theorem dX8_where_8 : decode cX8_where 8 = .ok (.new 49, 3) := by decide +kernel
theorem dX8_where_11 : decode cX8_where 11 = .ok (.dup, 1) := by decide +kernel
theorem dX8_where_12 : decode cX8_where 12 = .ok (.ldc 233, 2) := by decide +kernel
theorem dX8_where_14 : decode cX8_where 14 = .ok (.invokespecial 53, 3) := by decide +kernel
theorem dX8_where_17 : decode cX8_where 17 = .ok (.athrow, 1) := by decide +kernel
theorem dX8_where_18 : decode cX8_where 18 = .ok (.aload_n 0, 1) := by decide +kernel
theorem dX8_where_19 : decode cX8_where 19 = .ok (.getfield 10, 3) := by decide +kernel
theorem dX8_where_22 : decode cX8_where 22 = .ok (.iload_n 1, 1) := by decide +kernel
theorem dX8_where_23 : decode cX8_where 23 = .ok (.iload_n 2, 1) := by decide +kernel
theorem dX8_where_24 : decode cX8_where 24 = .ok (.invokevirtual 235, 3) := by decide +kernel
theorem dX8_where_27 : decode cX8_where 27 = .ok (.ireturn, 1) := by decide +kernel
theorem dX8_givenUp_0 : decode cX8_givenUp 0 = .ok (.aload_n 0, 1) := by decide +kernel
theorem dX8_givenUp_1 : decode cX8_givenUp 1 = .ok (.getfield 10, 3) := by decide +kernel
theorem dX8_givenUp_4 : decode cX8_givenUp 4 = .ok (.getfield 124, 3) := by decide +kernel
theorem dX8_givenUp_7 : decode cX8_givenUp 7 = .ok (.iload_n 1, 1) := by decide +kernel
