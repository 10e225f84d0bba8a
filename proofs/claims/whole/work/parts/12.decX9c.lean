theorem dX9_load_49 : decode cX9_load 49 = .ok (.bastore, 1) := by decide +kernel
theorem dX9_load_50 : decode cX9_load 50 = .ok (.aload_n 0, 1) := by decide +kernel
theorem dX9_load_51 : decode cX9_load 51 = .ok (.getfield 28, 3) := by decide +kernel
theorem dX9_load_54 : decode cX9_load 54 = .ok (.iconst 1, 1) := by decide +kernel
theorem dX9_load_55 : decode cX9_load 55 = .ok (.iconst 0, 1) := by decide +kernel
theorem dX9_load_56 : decode cX9_load 56 = .ok (.bastore, 1) := by decide +kernel
theorem dX9_load_57 : decode cX9_load 57 = .ok (.aload_n 0, 1) := by decide +kernel
theorem dX9_load_58 : decode cX9_load 58 = .ok (.getfield 162, 3) := by decide +kernel
theorem dX9_load_61 : decode cX9_load 61 = .ok (.ireturn, 1) := by decide +kernel
theorem dX9_about_0 : decode cX9_about 0 = .ok (.aload_n 0, 1) := by decide +kernel
theorem dX9_about_1 : decode cX9_about 1 = .ok (.iload_n 1, 1) := by decide +kernel
theorem dX9_about_2 : decode cX9_about 2 = .ok (.i2l, 1) := by decide +kernel
theorem dX9_about_3 : decode cX9_about 3 = .ok (.lconst 0, 1) := by decide +kernel
theorem dX9_about_4 : decode cX9_about 4 = .ok (.ldc2_w 202, 3) := by decide +kernel
theorem dX9_about_7 : decode cX9_about 7 = .ok (.invokestatic 121, 3) := by decide +kernel
theorem dX9_about_10 : decode cX9_about 10 = .ok (.ifCond .eq 7, 3) := by decide +kernel
theorem dX9_about_13 : decode cX9_about 13 = .ok (.iconst 0, 1) := by decide +kernel
theorem dX9_about_14 : decode cX9_about 14 = .ok (.goto 4, 3) := by decide +kernel
theorem dX9_about_17 : decode cX9_about 17 = .ok (.iconst 1, 1) := by decide +kernel
theorem dX9_about_18 : decode cX9_about 18 = .ok (.invokevirtual 128, 3) := by decide +kernel
theorem dX9_about_21 : decode cX9_about 21 = .ok (.ifCond .eq 5, 3) := by decide +kernel
theorem dX9_about_24 : decode cX9_about 24 = .ok (.iconst 0, 1) := by decide +kernel
theorem dX9_about_25 : decode cX9_about 25 = .ok (.ireturn, 1) := by decide +kernel
theorem dX9_about_26 : decode cX9_about 26 = .ok (.iload_n 1, 1) := by decide +kernel
theorem dX9_about_27 : decode cX9_about 27 = .ok (.tableswitch 85 0 7 #[78, 78, 78, 78, 45, 54, 62, 70], 45) := by decide +kernel
theorem dX9_about_72 : decode cX9_about 72 = .ok (.aload_n 0, 1) := by decide +kernel
theorem dX9_about_73 : decode cX9_about 73 = .ok (.getfield 16, 3) := by decide +kernel
theorem dX9_about_76 : decode cX9_about 76 = .ok (.iconst 0, 1) := by decide +kernel
theorem dX9_about_77 : decode cX9_about 77 = .ok (.invokestatic 97, 3) := by decide +kernel
theorem dX9_about_80 : decode cX9_about 80 = .ok (.ireturn, 1) := by decide +kernel
theorem dX9_about_81 : decode cX9_about 81 = .ok (.aload_n 0, 1) := by decide +kernel
theorem dX9_about_82 : decode cX9_about 82 = .ok (.getfield 16, 3) := by decide +kernel
theorem dX9_about_85 : decode cX9_about 85 = .ok (.invokestatic 59, 3) := by decide +kernel
theorem dX9_about_88 : decode cX9_about 88 = .ok (.ireturn, 1) := by decide +kernel
theorem dX9_about_89 : decode cX9_about 89 = .ok (.aload_n 0, 1) := by decide +kernel
theorem dX9_about_90 : decode cX9_about 90 = .ok (.getfield 16, 3) := by decide +kernel
theorem dX9_about_93 : decode cX9_about 93 = .ok (.invokestatic 63, 3) := by decide +kernel
theorem dX9_about_96 : decode cX9_about 96 = .ok (.ireturn, 1) := by decide +kernel
theorem dX9_about_97 : decode cX9_about 97 = .ok (.aload_n 0, 1) := by decide +kernel
theorem dX9_about_98 : decode cX9_about 98 = .ok (.getfield 16, 3) := by decide +kernel
theorem dX9_about_101 : decode cX9_about 101 = .ok (.invokestatic 204, 3) := by decide +kernel
theorem dX9_about_104 : decode cX9_about 104 = .ok (.ireturn, 1) := by decide +kernel
theorem dX9_about_105 : decode cX9_about 105 = .ok (.aload_n 0, 1) := by decide +kernel
theorem dX9_about_106 : decode cX9_about 106 = .ok (.getfield 16, 3) := by decide +kernel
theorem dX9_about_109 : decode cX9_about 109 = .ok (.iload_n 1, 1) := by decide +kernel
theorem dX9_about_110 : decode cX9_about 110 = .ok (.iaload, 1) := by decide +kernel
theorem dX9_about_111 : decode cX9_about 111 = .ok (.ireturn, 1) := by decide +kernel
theorem dX9_about_112 : decode cX9_about 112 = .ok (.aload_n 0, 1) := by decide +kernel
theorem dX9_about_113 : decode cX9_about 113 = .ok (.getfield 16, 3) := by decide +kernel
theorem dX9_about_116 : decode cX9_about 116 = .ok (.iload_n 1, 1) := by decide +kernel
theorem dX9_about_117 : decode cX9_about 117 = .ok (.iconst 4, 1) := by decide +kernel
theorem dX9_about_118 : decode cX9_about 118 = .ok (.isub, 1) := by decide +kernel
theorem dX9_about_119 : decode cX9_about 119 = .ok (.iaload, 1) := by decide +kernel
theorem dX9_about_120 : decode cX9_about 120 = .ok (.ireturn, 1) := by decide +kernel
theorem dX9_gaps_0 : decode cX9_gaps 0 = .ok (.aload_n 0, 1) := by decide +kernel
theorem dX9_gaps_1 : decode cX9_gaps 1 = .ok (.invokestatic 66, 3) := by decide +kernel
theorem dX9_gaps_4 : decode cX9_gaps 4 = .ok (.istore_n 1, 1) := by decide +kernel
theorem dX9_gaps_5 : decode cX9_gaps 5 = .ok (.iconst 0, 1) := by decide +kernel
theorem dX9_gaps_6 : decode cX9_gaps 6 = .ok (.istore_n 2, 1) := by decide +kernel
theorem dX9_gaps_7 : decode cX9_gaps 7 = .ok (.iconst 0, 1) := by decide +kernel
theorem dX9_gaps_8 : decode cX9_gaps 8 = .ok (.istore_n 3, 1) := by decide +kernel
theorem dX9_gaps_9 : decode cX9_gaps 9 = .ok (.iload_n 3, 1) := by decide +kernel
theorem dX9_gaps_10 : decode cX9_gaps 10 = .ok (.iload_n 1, 1) := by decide +kernel
theorem dX9_gaps_11 : decode cX9_gaps 11 = .ok (.if_icmp .gt 58, 3) := by decide +kernel
theorem dX9_gaps_14 : decode cX9_gaps 14 = .ok (.iload_n 3, 1) := by decide +kernel
theorem dX9_gaps_15 : decode cX9_gaps 15 = .ok (.iload_n 1, 1) := by decide +kernel
theorem dX9_gaps_16 : decode cX9_gaps 16 = .ok (.if_icmp .ne 13, 3) := by decide +kernel
theorem dX9_gaps_19 : decode cX9_gaps 19 = .ok (.aload_n 0, 1) := by decide +kernel
theorem dX9_gaps_20 : decode cX9_gaps 20 = .ok (.iload_n 3, 1) := by decide +kernel
theorem dX9_gaps_21 : decode cX9_gaps 21 = .ok (.iconst 2, 1) := by decide +kernel
theorem dX9_gaps_22 : decode cX9_gaps 22 = .ok (.invokestatic 53, 3) := by decide +kernel
theorem dX9_gaps_25 : decode cX9_gaps 25 = .ok (.iaload, 1) := by decide +kernel
theorem dX9_gaps_26 : decode cX9_gaps 26 = .ok (.goto 10, 3) := by decide +kernel
theorem dX9_gaps_29 : decode cX9_gaps 29 = .ok (.aload_n 0, 1) := by decide +kernel
theorem dX9_gaps_30 : decode cX9_gaps 30 = .ok (.iload_n 3, 1) := by decide +kernel
theorem dX9_gaps_31 : decode cX9_gaps 31 = .ok (.iconst 0, 1) := by decide +kernel
theorem dX9_gaps_32 : decode cX9_gaps 32 = .ok (.invokestatic 53, 3) := by decide +kernel
theorem dX9_gaps_35 : decode cX9_gaps 35 = .ok (.iaload, 1) := by decide +kernel
theorem dX9_gaps_36 : decode cX9_gaps 36 = .ok (.istore 4, 2) := by decide +kernel
theorem dX9_gaps_38 : decode cX9_gaps 38 = .ok (.iload_n 2, 1) := by decide +kernel
theorem dX9_gaps_39 : decode cX9_gaps 39 = .ok (.aload_n 0, 1) := by decide +kernel
theorem dX9_gaps_40 : decode cX9_gaps 40 = .ok (.iload_n 3, 1) := by decide +kernel
theorem dX9_gaps_41 : decode cX9_gaps 41 = .ok (.iconst 1, 1) := by decide +kernel
theorem dX9_gaps_42 : decode cX9_gaps 42 = .ok (.invokestatic 53, 3) := by decide +kernel
theorem dX9_gaps_45 : decode cX9_gaps 45 = .ok (.iaload, 1) := by decide +kernel
theorem dX9_gaps_46 : decode cX9_gaps 46 = .ok (.ifCond .ne 14, 3) := by decide +kernel
theorem dX9_gaps_49 : decode cX9_gaps 49 = .ok (.iload 4, 2) := by decide +kernel
theorem dX9_gaps_51 : decode cX9_gaps 51 = .ok (.aload_n 0, 1) := by decide +kernel
theorem dX9_gaps_52 : decode cX9_gaps 52 = .ok (.iload_n 3, 1) := by decide +kernel
theorem dX9_gaps_53 : decode cX9_gaps 53 = .ok (.invokestatic 199, 3) := by decide +kernel
theorem dX9_gaps_56 : decode cX9_gaps 56 = .ok (.isub, 1) := by decide +kernel
theorem dX9_gaps_57 : decode cX9_gaps 57 = .ok (.goto 4, 3) := by decide +kernel
theorem dX9_gaps_60 : decode cX9_gaps 60 = .ok (.iconst 0, 1) := by decide +kernel
theorem dX9_gaps_61 : decode cX9_gaps 61 = .ok (.iadd, 1) := by decide +kernel
theorem dX9_gaps_62 : decode cX9_gaps 62 = .ok (.istore_n 2, 1) := by decide +kernel
theorem dX9_gaps_63 : decode cX9_gaps 63 = .ok (.iinc 3 1, 3) := by decide +kernel
theorem dX9_gaps_66 : decode cX9_gaps 66 = .ok (.goto (-57), 3) := by decide +kernel
theorem dX9_gaps_69 : decode cX9_gaps 69 = .ok (.iload_n 2, 1) := by decide +kernel
theorem dX9_gaps_70 : decode cX9_gaps 70 = .ok (.ireturn, 1) := by decide +kernel
theorem dX9_onField_0 : decode cX9_onField 0 = .ok (.iconst 0, 1) := by decide +kernel
theorem dX9_onField_1 : decode cX9_onField 1 = .ok (.istore_n 2, 1) := by decide +kernel
theorem dX9_onField_2 : decode cX9_onField 2 = .ok (.iconst 0, 1) := by decide +kernel
theorem dX9_onField_3 : decode cX9_onField 3 = .ok (.istore_n 3, 1) := by decide +kernel
theorem dX9_onField_4 : decode cX9_onField 4 = .ok (.iload_n 3, 1) := by decide +kernel
theorem dX9_onField_5 : decode cX9_onField 5 = .ok (.aload_n 0, 1) := by decide +kernel
theorem dX9_onField_6 : decode cX9_onField 6 = .ok (.iconst 0, 1) := by decide +kernel
theorem dX9_onField_7 : decode cX9_onField 7 = .ok (.iaload, 1) := by decide +kernel
theorem dX9_onField_8 : decode cX9_onField 8 = .ok (.if_icmp .ge 34, 3) := by decide +kernel
theorem dX9_onField_11 : decode cX9_onField 11 = .ok (.iload_n 2, 1) := by decide +kernel
theorem dX9_onField_12 : decode cX9_onField 12 = .ok (.aload_n 0, 1) := by decide +kernel
theorem dX9_onField_13 : decode cX9_onField 13 = .ok (.iload_n 3, 1) := by decide +kernel
theorem dX9_onField_14 : decode cX9_onField 14 = .ok (.iconst 0, 1) := by decide +kernel
theorem dX9_onField_15 : decode cX9_onField 15 = .ok (.invokestatic 49, 3) := by decide +kernel
theorem dX9_onField_18 : decode cX9_onField 18 = .ok (.iaload, 1) := by decide +kernel
theorem dX9_onField_19 : decode cX9_onField 19 = .ok (.iload_n 1, 1) := by decide +kernel
theorem dX9_onField_20 : decode cX9_onField 20 = .ok (.if_icmp .ne 13, 3) := by decide +kernel
theorem dX9_onField_23 : decode cX9_onField 23 = .ok (.aload_n 0, 1) := by decide +kernel
theorem dX9_onField_24 : decode cX9_onField 24 = .ok (.iload_n 3, 1) := by decide +kernel
theorem dX9_onField_25 : decode cX9_onField 25 = .ok (.iconst 2, 1) := by decide +kernel
theorem dX9_onField_26 : decode cX9_onField 26 = .ok (.invokestatic 49, 3) := by decide +kernel
theorem dX9_onField_29 : decode cX9_onField 29 = .ok (.iaload, 1) := by decide +kernel
theorem dX9_onField_30 : decode cX9_onField 30 = .ok (.goto 4, 3) := by decide +kernel
theorem dX9_onField_33 : decode cX9_onField 33 = .ok (.iconst 0, 1) := by decide +kernel
theorem dX9_onField_34 : decode cX9_onField 34 = .ok (.iadd, 1) := by decide +kernel
theorem dX9_onField_35 : decode cX9_onField 35 = .ok (.istore_n 2, 1) := by decide +kernel
theorem dX9_onField_36 : decode cX9_onField 36 = .ok (.iinc 3 1, 3) := by decide +kernel
theorem dX9_onField_39 : decode cX9_onField 39 = .ok (.goto (-35), 3) := by decide +kernel
theorem dX9_onField_42 : decode cX9_onField 42 = .ok (.iload_n 2, 1) := by decide +kernel
theorem dX9_onField_43 : decode cX9_onField 43 = .ok (.ireturn, 1) := by decide +kernel
theorem dX9_tent_0 : decode cX9_tent 0 = .ok (.aload_n 0, 1) := by decide +kernel
theorem dX9_tent_1 : decode cX9_tent 1 = .ok (.aload_n 0, 1) := by decide +kernel
theorem dX9_tent_2 : decode cX9_tent 2 = .ok (.iload_n 1, 1) := by decide +kernel
theorem dX9_tent_3 : decode cX9_tent 3 = .ok (.invokevirtual 207, 3) := by decide +kernel
theorem dX9_tent_6 : decode cX9_tent 6 = .ok (.ifCond .ne 7, 3) := by decide +kernel
theorem dX9_tent_9 : decode cX9_tent 9 = .ok (.iconst 1, 1) := by decide +kernel
theorem dX9_tent_10 : decode cX9_tent 10 = .ok (.goto 20, 3) := by decide +kernel
theorem dX9_tent_13 : decode cX9_tent 13 = .ok (.iload_n 2, 1) := by decide +kernel
theorem dX9_tent_14 : decode cX9_tent 14 = .ok (.i2l, 1) := by decide +kernel
theorem dX9_tent_15 : decode cX9_tent 15 = .ok (.lconst 0, 1) := by decide +kernel
theorem dX9_tent_16 : decode cX9_tent 16 = .ok (.ldc2_w 210, 3) := by decide +kernel
theorem dX9_tent_19 : decode cX9_tent 19 = .ok (.invokestatic 121, 3) := by decide +kernel
theorem dX9_tent_22 : decode cX9_tent 22 = .ok (.ifCond .eq 7, 3) := by decide +kernel
theorem dX9_tent_25 : decode cX9_tent 25 = .ok (.iconst 0, 1) := by decide +kernel
theorem dX9_tent_26 : decode cX9_tent 26 = .ok (.goto 4, 3) := by decide +kernel
theorem dX9_tent_29 : decode cX9_tent 29 = .ok (.iconst 2, 1) := by decide +kernel
theorem dX9_tent_30 : decode cX9_tent 30 = .ok (.invokevirtual 128, 3) := by decide +kernel
theorem dX9_tent_33 : decode cX9_tent 33 = .ok (.ifCond .eq 5, 3) := by decide +kernel
theorem dX9_tent_36 : decode cX9_tent 36 = .ok (.iconst 0, 1) := by decide +kernel
theorem dX9_tent_37 : decode cX9_tent 37 = .ok (.ireturn, 1) := by decide +kernel
theorem dX9_tent_38 : decode cX9_tent 38 = .ok (.iload_n 2, 1) := by decide +kernel
theorem dX9_tent_39 : decode cX9_tent 39 = .ok (.iconst 4, 1) := by decide +kernel
theorem dX9_tent_40 : decode cX9_tent 40 = .ok (.if_icmp .ne 11, 3) := by decide +kernel
theorem dX9_tent_43 : decode cX9_tent 43 = .ok (.aload_n 0, 1) := by decide +kernel
theorem dX9_tent_44 : decode cX9_tent 44 = .ok (.iload_n 1, 1) := by decide +kernel
theorem dX9_tent_45 : decode cX9_tent 45 = .ok (.invokevirtual 212, 3) := by decide +kernel
theorem dX9_tent_48 : decode cX9_tent 48 = .ok (.goto 13, 3) := by decide +kernel
theorem dX9_tent_51 : decode cX9_tent 51 = .ok (.aload_n 0, 1) := by decide +kernel
theorem dX9_tent_52 : decode cX9_tent 52 = .ok (.getfield 16, 3) := by decide +kernel
theorem dX9_tent_55 : decode cX9_tent 55 = .ok (.iload_n 1, 1) := by decide +kernel
theorem dX9_tent_56 : decode cX9_tent 56 = .ok (.iload_n 2, 1) := by decide +kernel
theorem dX9_tent_57 : decode cX9_tent 57 = .ok (.invokestatic 49, 3) := by decide +kernel
theorem dX9_tent_60 : decode cX9_tent 60 = .ok (.iaload, 1) := by decide +kernel
theorem dX9_tent_61 : decode cX9_tent 61 = .ok (.ireturn, 1) := by decide +kernel
theorem dX9_isTent_0 : decode cX9_isTent 0 = .ok (.iload_n 1, 1) := by decide +kernel
theorem dX9_isTent_1 : decode cX9_isTent 1 = .ok (.i2l, 1) := by decide +kernel
theorem dX9_isTent_2 : decode cX9_isTent 2 = .ok (.lconst 0, 1) := by decide +kernel
theorem dX9_isTent_3 : decode cX9_isTent 3 = .ok (.aload_n 0, 1) := by decide +kernel
theorem dX9_isTent_4 : decode cX9_isTent 4 = .ok (.getfield 16, 3) := by decide +kernel
theorem dX9_isTent_7 : decode cX9_isTent 7 = .ok (.iconst 0, 1) := by decide +kernel
theorem dX9_isTent_8 : decode cX9_isTent 8 = .ok (.iaload, 1) := by decide +kernel
theorem dX9_isTent_9 : decode cX9_isTent 9 = .ok (.iconst 1, 1) := by decide +kernel
theorem dX9_isTent_10 : decode cX9_isTent 10 = .ok (.isub, 1) := by decide +kernel
theorem dX9_isTent_11 : decode cX9_isTent 11 = .ok (.i2l, 1) := by decide +kernel
theorem dX9_isTent_12 : decode cX9_isTent 12 = .ok (.invokestatic 121, 3) := by decide +kernel
theorem dX9_isTent_15 : decode cX9_isTent 15 = .ok (.ireturn, 1) := by decide +kernel
theorem dX9_frameOf_0 : decode cX9_frameOf 0 = .ok (.iconst (-1), 1) := by decide +kernel
theorem dX9_frameOf_1 : decode cX9_frameOf 1 = .ok (.istore_n 2, 1) := by decide +kernel
theorem dX9_frameOf_2 : decode cX9_frameOf 2 = .ok (.iconst 0, 1) := by decide +kernel
theorem dX9_frameOf_3 : decode cX9_frameOf 3 = .ok (.istore_n 3, 1) := by decide +kernel
theorem dX9_frameOf_4 : decode cX9_frameOf 4 = .ok (.iload_n 3, 1) := by decide +kernel
theorem dX9_frameOf_5 : decode cX9_frameOf 5 = .ok (.aload_n 0, 1) := by decide +kernel
theorem dX9_frameOf_6 : decode cX9_frameOf 6 = .ok (.getfield 16, 3) := by decide +kernel
theorem dX9_frameOf_9 : decode cX9_frameOf 9 = .ok (.iconst 3, 1) := by decide +kernel
theorem dX9_frameOf_10 : decode cX9_frameOf 10 = .ok (.iaload, 1) := by decide +kernel
theorem dX9_frameOf_11 : decode cX9_frameOf 11 = .ok (.if_icmp .ge 29, 3) := by decide +kernel
theorem dX9_frameOf_14 : decode cX9_frameOf 14 = .ok (.aload_n 0, 1) := by decide +kernel
theorem dX9_frameOf_15 : decode cX9_frameOf 15 = .ok (.getfield 16, 3) := by decide +kernel
theorem dX9_frameOf_18 : decode cX9_frameOf 18 = .ok (.iload_n 3, 1) := by decide +kernel
theorem dX9_frameOf_19 : decode cX9_frameOf 19 = .ok (.iconst 0, 1) := by decide +kernel
theorem dX9_frameOf_20 : decode cX9_frameOf 20 = .ok (.invokestatic 100, 3) := by decide +kernel
theorem dX9_frameOf_23 : decode cX9_frameOf 23 = .ok (.iaload, 1) := by decide +kernel
theorem dX9_frameOf_24 : decode cX9_frameOf 24 = .ok (.iload_n 1, 1) := by decide +kernel
theorem dX9_frameOf_25 : decode cX9_frameOf 25 = .ok (.if_icmp .gt 7, 3) := by decide +kernel
theorem dX9_frameOf_28 : decode cX9_frameOf 28 = .ok (.iload_n 3, 1) := by decide +kernel
theorem dX9_frameOf_29 : decode cX9_frameOf 29 = .ok (.goto 4, 3) := by decide +kernel
theorem dX9_frameOf_32 : decode cX9_frameOf 32 = .ok (.iload_n 2, 1) := by decide +kernel
theorem dX9_frameOf_33 : decode cX9_frameOf 33 = .ok (.istore_n 2, 1) := by decide +kernel
theorem dX9_frameOf_34 : decode cX9_frameOf 34 = .ok (.iinc 3 1, 3) := by decide +kernel
theorem dX9_frameOf_37 : decode cX9_frameOf 37 = .ok (.goto (-33), 3) := by decide +kernel
theorem dX9_frameOf_40 : decode cX9_frameOf 40 = .ok (.iload_n 2, 1) := by decide +kernel
theorem dX9_frameOf_41 : decode cX9_frameOf 41 = .ok (.ireturn, 1) := by decide +kernel
theorem dX9_field_0 : decode cX9_field 0 = .ok (.aload_n 0, 1) := by decide +kernel
theorem dX9_field_1 : decode cX9_field 1 = .ok (.aload_n 0, 1) := by decide +kernel
theorem dX9_field_2 : decode cX9_field 2 = .ok (.iload_n 1, 1) := by decide +kernel
theorem dX9_field_3 : decode cX9_field 3 = .ok (.invokevirtual 216, 3) := by decide +kernel
theorem dX9_field_6 : decode cX9_field 6 = .ok (.ifCond .ne 7, 3) := by decide +kernel
theorem dX9_field_9 : decode cX9_field 9 = .ok (.iconst 1, 1) := by decide +kernel
theorem dX9_field_10 : decode cX9_field 10 = .ok (.goto 20, 3) := by decide +kernel
theorem dX9_field_13 : decode cX9_field 13 = .ok (.iload_n 2, 1) := by decide +kernel
theorem dX9_field_14 : decode cX9_field 14 = .ok (.i2l, 1) := by decide +kernel
theorem dX9_field_15 : decode cX9_field 15 = .ok (.lconst 0, 1) := by decide +kernel
theorem dX9_field_16 : decode cX9_field 16 = .ok (.ldc2_w 210, 3) := by decide +kernel
theorem dX9_field_19 : decode cX9_field 19 = .ok (.invokestatic 121, 3) := by decide +kernel
theorem dX9_field_22 : decode cX9_field 22 = .ok (.ifCond .eq 7, 3) := by decide +kernel
theorem dX9_field_25 : decode cX9_field 25 = .ok (.iconst 0, 1) := by decide +kernel
theorem dX9_field_26 : decode cX9_field 26 = .ok (.goto 4, 3) := by decide +kernel
theorem dX9_field_29 : decode cX9_field 29 = .ok (.iconst 2, 1) := by decide +kernel
theorem dX9_field_30 : decode cX9_field 30 = .ok (.invokevirtual 128, 3) := by decide +kernel
theorem dX9_field_33 : decode cX9_field 33 = .ok (.ifCond .eq 5, 3) := by decide +kernel
theorem dX9_field_36 : decode cX9_field 36 = .ok (.iconst 0, 1) := by decide +kernel
theorem dX9_field_37 : decode cX9_field 37 = .ok (.ireturn, 1) := by decide +kernel
theorem dX9_field_38 : decode cX9_field 38 = .ok (.iload_n 2, 1) := by decide +kernel
theorem dX9_field_39 : decode cX9_field 39 = .ok (.tableswitch 68 0 3 #[29, 29, 40, 46], 29) := by decide +kernel
theorem dX9_field_68 : decode cX9_field 68 = .ok (.aload_n 0, 1) := by decide +kernel
theorem dX9_field_69 : decode cX9_field 69 = .ok (.getfield 16, 3) := by decide +kernel
theorem dX9_field_72 : decode cX9_field 72 = .ok (.iload_n 1, 1) := by decide +kernel
theorem dX9_field_73 : decode cX9_field 73 = .ok (.iload_n 2, 1) := by decide +kernel
theorem dX9_field_74 : decode cX9_field 74 = .ok (.invokestatic 53, 3) := by decide +kernel
theorem dX9_field_77 : decode cX9_field 77 = .ok (.iaload, 1) := by decide +kernel
theorem dX9_field_78 : decode cX9_field 78 = .ok (.ireturn, 1) := by decide +kernel
theorem dX9_field_79 : decode cX9_field 79 = .ok (.aload_n 0, 1) := by decide +kernel
theorem dX9_field_80 : decode cX9_field 80 = .ok (.iload_n 1, 1) := by decide +kernel
theorem dX9_field_81 : decode cX9_field 81 = .ok (.invokevirtual 219, 3) := by decide +kernel
theorem dX9_field_84 : decode cX9_field 84 = .ok (.ireturn, 1) := by decide +kernel
theorem dX9_field_85 : decode cX9_field 85 = .ok (.aload_n 0, 1) := by decide +kernel
theorem dX9_field_86 : decode cX9_field 86 = .ok (.getfield 16, 3) := by decide +kernel
theorem dX9_field_89 : decode cX9_field 89 = .ok (.iload_n 1, 1) := by decide +kernel
theorem dX9_field_90 : decode cX9_field 90 = .ok (.iconst 0, 1) := by decide +kernel
theorem dX9_field_91 : decode cX9_field 91 = .ok (.invokestatic 53, 3) := by decide +kernel
theorem dX9_field_94 : decode cX9_field 94 = .ok (.iaload, 1) := by decide +kernel
theorem dX9_field_95 : decode cX9_field 95 = .ok (.aload_n 0, 1) := by decide +kernel
theorem dX9_field_96 : decode cX9_field 96 = .ok (.getfield 16, 3) := by decide +kernel
theorem dX9_field_99 : decode cX9_field 99 = .ok (.iload_n 1, 1) := by decide +kernel
theorem dX9_field_100 : decode cX9_field 100 = .ok (.iconst 2, 1) := by decide +kernel
theorem dX9_field_101 : decode cX9_field 101 = .ok (.invokestatic 53, 3) := by decide +kernel
theorem dX9_field_104 : decode cX9_field 104 = .ok (.iaload, 1) := by decide +kernel
theorem dX9_field_105 : decode cX9_field 105 = .ok (.isub, 1) := by decide +kernel
theorem dX9_field_106 : decode cX9_field 106 = .ok (.ireturn, 1) := by decide +kernel
theorem dX9_field_107 : decode cX9_field 107 = .ok (.aload_n 0, 1) := by decide +kernel
theorem dX9_field_108 : decode cX9_field 108 = .ok (.iload_n 1, 1) := by decide +kernel
theorem dX9_field_109 : decode cX9_field 109 = .ok (.invokevirtual 222, 3) := by decide +kernel
theorem dX9_field_112 : decode cX9_field 112 = .ok (.ireturn, 1) := by decide +kernel
theorem dX9_isField_0 : decode cX9_isField 0 = .ok (.iload_n 1, 1) := by decide +kernel
theorem dX9_isField_1 : decode cX9_isField 1 = .ok (.i2l, 1) := by decide +kernel
theorem dX9_isField_2 : decode cX9_isField 2 = .ok (.lconst 0, 1) := by decide +kernel
theorem dX9_isField_3 : decode cX9_isField 3 = .ok (.aload_n 0, 1) := by decide +kernel
theorem dX9_isField_4 : decode cX9_isField 4 = .ok (.getfield 16, 3) := by decide +kernel
theorem dX9_isField_7 : decode cX9_isField 7 = .ok (.iconst 1, 1) := by decide +kernel
theorem dX9_isField_8 : decode cX9_isField 8 = .ok (.iaload, 1) := by decide +kernel
theorem dX9_isField_9 : decode cX9_isField 9 = .ok (.iconst 1, 1) := by decide +kernel
theorem dX9_isField_10 : decode cX9_isField 10 = .ok (.isub, 1) := by decide +kernel
theorem dX9_isField_11 : decode cX9_isField 11 = .ok (.i2l, 1) := by decide +kernel
theorem dX9_isField_12 : decode cX9_isField 12 = .ok (.invokestatic 121, 3) := by decide +kernel
theorem dX9_isField_15 : decode cX9_isField 15 = .ok (.ireturn, 1) := by decide +kernel
theorem dX9_tentsOn_0 : decode cX9_tentsOn 0 = .ok (.iconst 0, 1) := by decide +kernel
theorem dX9_tentsOn_1 : decode cX9_tentsOn 1 = .ok (.istore_n 2, 1) := by decide +kernel
theorem dX9_tentsOn_2 : decode cX9_tentsOn 2 = .ok (.iconst 0, 1) := by decide +kernel
theorem dX9_tentsOn_3 : decode cX9_tentsOn 3 = .ok (.istore_n 3, 1) := by decide +kernel
theorem dX9_tentsOn_4 : decode cX9_tentsOn 4 = .ok (.iload_n 3, 1) := by decide +kernel
theorem dX9_tentsOn_5 : decode cX9_tentsOn 5 = .ok (.aload_n 0, 1) := by decide +kernel
theorem dX9_tentsOn_6 : decode cX9_tentsOn 6 = .ok (.getfield 16, 3) := by decide +kernel
theorem dX9_tentsOn_9 : decode cX9_tentsOn 9 = .ok (.iconst 0, 1) := by decide +kernel
theorem dX9_tentsOn_10 : decode cX9_tentsOn 10 = .ok (.iaload, 1) := by decide +kernel
theorem dX9_tentsOn_11 : decode cX9_tentsOn 11 = .ok (.if_icmp .ge 31, 3) := by decide +kernel
theorem dX9_tentsOn_14 : decode cX9_tentsOn 14 = .ok (.iload_n 2, 1) := by decide +kernel
theorem dX9_tentsOn_15 : decode cX9_tentsOn 15 = .ok (.aload_n 0, 1) := by decide +kernel
theorem dX9_tentsOn_16 : decode cX9_tentsOn 16 = .ok (.getfield 16, 3) := by decide +kernel
theorem dX9_tentsOn_19 : decode cX9_tentsOn 19 = .ok (.iload_n 3, 1) := by decide +kernel
theorem dX9_tentsOn_20 : decode cX9_tentsOn 20 = .ok (.iconst 0, 1) := by decide +kernel
theorem dX9_tentsOn_21 : decode cX9_tentsOn 21 = .ok (.invokestatic 49, 3) := by decide +kernel
theorem dX9_tentsOn_24 : decode cX9_tentsOn 24 = .ok (.iaload, 1) := by decide +kernel
theorem dX9_tentsOn_25 : decode cX9_tentsOn 25 = .ok (.iload_n 1, 1) := by decide +kernel
theorem dX9_tentsOn_26 : decode cX9_tentsOn 26 = .ok (.if_icmp .ne 7, 3) := by decide +kernel
theorem dX9_tentsOn_29 : decode cX9_tentsOn 29 = .ok (.iconst 1, 1) := by decide +kernel
theorem dX9_tentsOn_30 : decode cX9_tentsOn 30 = .ok (.goto 4, 3) := by decide +kernel
theorem dX9_tentsOn_33 : decode cX9_tentsOn 33 = .ok (.iconst 0, 1) := by decide +kernel
theorem dX9_tentsOn_34 : decode cX9_tentsOn 34 = .ok (.iadd, 1) := by decide +kernel
theorem dX9_tentsOn_35 : decode cX9_tentsOn 35 = .ok (.istore_n 2, 1) := by decide +kernel
theorem dX9_tentsOn_36 : decode cX9_tentsOn 36 = .ok (.iinc 3 1, 3) := by decide +kernel
theorem dX9_tentsOn_39 : decode cX9_tentsOn 39 = .ok (.goto (-35), 3) := by decide +kernel
theorem dX9_tentsOn_42 : decode cX9_tentsOn 42 = .ok (.iload_n 2, 1) := by decide +kernel
theorem dX9_tentsOn_43 : decode cX9_tentsOn 43 = .ok (.ireturn, 1) := by decide +kernel
theorem dX9_poisonOn_0 : decode cX9_poisonOn 0 = .ok (.iconst 0, 1) := by decide +kernel
theorem dX9_poisonOn_1 : decode cX9_poisonOn 1 = .ok (.istore_n 2, 1) := by decide +kernel
theorem dX9_poisonOn_2 : decode cX9_poisonOn 2 = .ok (.iconst 0, 1) := by decide +kernel
theorem dX9_poisonOn_3 : decode cX9_poisonOn 3 = .ok (.istore_n 3, 1) := by decide +kernel
theorem dX9_poisonOn_4 : decode cX9_poisonOn 4 = .ok (.iload_n 3, 1) := by decide +kernel
theorem dX9_poisonOn_5 : decode cX9_poisonOn 5 = .ok (.aload_n 0, 1) := by decide +kernel
theorem dX9_poisonOn_6 : decode cX9_poisonOn 6 = .ok (.getfield 16, 3) := by decide +kernel
theorem dX9_poisonOn_9 : decode cX9_poisonOn 9 = .ok (.iload_n 1, 1) := by decide +kernel
theorem dX9_poisonOn_10 : decode cX9_poisonOn 10 = .ok (.iconst 0, 1) := by decide +kernel
theorem dX9_poisonOn_11 : decode cX9_poisonOn 11 = .ok (.invokestatic 53, 3) := by decide +kernel
theorem dX9_poisonOn_14 : decode cX9_poisonOn 14 = .ok (.iaload, 1) := by decide +kernel
theorem dX9_poisonOn_15 : decode cX9_poisonOn 15 = .ok (.if_icmp .ge 43, 3) := by decide +kernel
theorem dX9_poisonOn_18 : decode cX9_poisonOn 18 = .ok (.iload_n 2, 1) := by decide +kernel
theorem dX9_poisonOn_19 : decode cX9_poisonOn 19 = .ok (.aload_n 0, 1) := by decide +kernel
theorem dX9_poisonOn_20 : decode cX9_poisonOn 20 = .ok (.getfield 16, 3) := by decide +kernel
theorem dX9_poisonOn_23 : decode cX9_poisonOn 23 = .ok (.sipush 434, 3) := by decide +kernel
theorem dX9_poisonOn_26 : decode cX9_poisonOn 26 = .ok (.aload_n 0, 1) := by decide +kernel
theorem dX9_poisonOn_27 : decode cX9_poisonOn 27 = .ok (.getfield 16, 3) := by decide +kernel
theorem dX9_poisonOn_30 : decode cX9_poisonOn 30 = .ok (.iload_n 1, 1) := by decide +kernel
theorem dX9_poisonOn_31 : decode cX9_poisonOn 31 = .ok (.iconst 3, 1) := by decide +kernel
theorem dX9_poisonOn_32 : decode cX9_poisonOn 32 = .ok (.invokestatic 53, 3) := by decide +kernel
theorem dX9_poisonOn_35 : decode cX9_poisonOn 35 = .ok (.iaload, 1) := by decide +kernel
theorem dX9_poisonOn_36 : decode cX9_poisonOn 36 = .ok (.iadd, 1) := by decide +kernel
theorem dX9_poisonOn_37 : decode cX9_poisonOn 37 = .ok (.iload_n 3, 1) := by decide +kernel
theorem dX9_poisonOn_38 : decode cX9_poisonOn 38 = .ok (.iadd, 1) := by decide +kernel
theorem dX9_poisonOn_39 : decode cX9_poisonOn 39 = .ok (.iaload, 1) := by decide +kernel
theorem dX9_poisonOn_40 : decode cX9_poisonOn 40 = .ok (.bipush 100, 2) := by decide +kernel
theorem dX9_poisonOn_42 : decode cX9_poisonOn 42 = .ok (.if_icmp .ne 7, 3) := by decide +kernel
theorem dX9_poisonOn_45 : decode cX9_poisonOn 45 = .ok (.iconst 1, 1) := by decide +kernel
theorem dX9_poisonOn_46 : decode cX9_poisonOn 46 = .ok (.goto 4, 3) := by decide +kernel
theorem dX9_poisonOn_49 : decode cX9_poisonOn 49 = .ok (.iconst 0, 1) := by decide +kernel
theorem dX9_poisonOn_50 : decode cX9_poisonOn 50 = .ok (.iadd, 1) := by decide +kernel
theorem dX9_poisonOn_51 : decode cX9_poisonOn 51 = .ok (.istore_n 2, 1) := by decide +kernel
theorem dX9_poisonOn_52 : decode cX9_poisonOn 52 = .ok (.iinc 3 1, 3) := by decide +kernel
theorem dX9_poisonOn_55 : decode cX9_poisonOn 55 = .ok (.goto (-51), 3) := by decide +kernel
theorem dX9_poisonOn_58 : decode cX9_poisonOn 58 = .ok (.iload_n 2, 1) := by decide +kernel
theorem dX9_poisonOn_59 : decode cX9_poisonOn 59 = .ok (.ireturn, 1) := by decide +kernel
theorem dX9_place_0 : decode cX9_place 0 = .ok (.aload_n 0, 1) := by decide +kernel
theorem dX9_place_1 : decode cX9_place 1 = .ok (.iload_n 1, 1) := by decide +kernel
theorem dX9_place_2 : decode cX9_place 2 = .ok (.invokevirtual 216, 3) := by decide +kernel
theorem dX9_place_5 : decode cX9_place 5 = .ok (.ifCond .eq 41, 3) := by decide +kernel
theorem dX9_place_8 : decode cX9_place 8 = .ok (.iload_n 2, 1) := by decide +kernel
theorem dX9_place_9 : decode cX9_place 9 = .ok (.i2l, 1) := by decide +kernel
theorem dX9_place_10 : decode cX9_place 10 = .ok (.lconst 0, 1) := by decide +kernel
theorem dX9_place_11 : decode cX9_place 11 = .ok (.aload_n 0, 1) := by decide +kernel
theorem dX9_place_12 : decode cX9_place 12 = .ok (.getfield 16, 3) := by decide +kernel
theorem dX9_place_15 : decode cX9_place 15 = .ok (.aload_n 0, 1) := by decide +kernel
theorem dX9_place_16 : decode cX9_place 16 = .ok (.iload_n 1, 1) := by decide +kernel
theorem dX9_place_17 : decode cX9_place 17 = .ok (.invokevirtual 216, 3) := by decide +kernel
theorem dX9_place_20 : decode cX9_place 20 = .ok (.ifCond .eq 7, 3) := by decide +kernel
theorem dX9_place_23 : decode cX9_place 23 = .ok (.iload_n 1, 1) := by decide +kernel
theorem dX9_place_24 : decode cX9_place 24 = .ok (.goto 4, 3) := by decide +kernel
theorem dX9_place_27 : decode cX9_place 27 = .ok (.iconst 0, 1) := by decide +kernel
theorem dX9_place_28 : decode cX9_place 28 = .ok (.iconst 0, 1) := by decide +kernel
theorem dX9_place_29 : decode cX9_place 29 = .ok (.invokestatic 53, 3) := by decide +kernel
theorem dX9_place_32 : decode cX9_place 32 = .ok (.iaload, 1) := by decide +kernel
theorem dX9_place_33 : decode cX9_place 33 = .ok (.iconst 1, 1) := by decide +kernel
theorem dX9_place_34 : decode cX9_place 34 = .ok (.isub, 1) := by decide +kernel
theorem dX9_place_35 : decode cX9_place 35 = .ok (.i2l, 1) := by decide +kernel
theorem dX9_place_36 : decode cX9_place 36 = .ok (.invokestatic 121, 3) := by decide +kernel
theorem dX9_place_39 : decode cX9_place 39 = .ok (.ifCond .eq 7, 3) := by decide +kernel
theorem dX9_place_42 : decode cX9_place 42 = .ok (.iconst 1, 1) := by decide +kernel
theorem dX9_place_43 : decode cX9_place 43 = .ok (.goto 4, 3) := by decide +kernel
theorem dX9_place_46 : decode cX9_place 46 = .ok (.iconst 0, 1) := by decide +kernel
theorem dX9_place_47 : decode cX9_place 47 = .ok (.istore_n 3, 1) := by decide +kernel
theorem dX9_place_48 : decode cX9_place 48 = .ok (.aload_n 0, 1) := by decide +kernel
theorem dX9_place_49 : decode cX9_place 49 = .ok (.iload_n 3, 1) := by decide +kernel
theorem dX9_place_50 : decode cX9_place 50 = .ok (.ifCond .eq 7, 3) := by decide +kernel
theorem dX9_place_53 : decode cX9_place 53 = .ok (.iconst 0, 1) := by decide +kernel
theorem dX9_place_54 : decode cX9_place 54 = .ok (.goto 4, 3) := by decide +kernel
theorem dX9_place_57 : decode cX9_place 57 = .ok (.iconst 1, 1) := by decide +kernel
theorem dX9_place_58 : decode cX9_place 58 = .ok (.invokevirtual 128, 3) := by decide +kernel
theorem dX9_place_61 : decode cX9_place 61 = .ok (.ifCond .eq 7, 3) := by decide +kernel
theorem dX9_place_64 : decode cX9_place 64 = .ok (.iconst 0, 1) := by decide +kernel
theorem dX9_place_65 : decode cX9_place 65 = .ok (.goto 24, 3) := by decide +kernel
theorem dX9_place_68 : decode cX9_place 68 = .ok (.aload_n 0, 1) := by decide +kernel
theorem dX9_place_69 : decode cX9_place 69 = .ok (.getfield 16, 3) := by decide +kernel
theorem dX9_place_72 : decode cX9_place 72 = .ok (.sipush 434, 3) := by decide +kernel
theorem dX9_place_75 : decode cX9_place 75 = .ok (.aload_n 0, 1) := by decide +kernel
theorem dX9_place_76 : decode cX9_place 76 = .ok (.getfield 16, 3) := by decide +kernel
theorem dX9_place_79 : decode cX9_place 79 = .ok (.iload_n 1, 1) := by decide +kernel
theorem dX9_place_80 : decode cX9_place 80 = .ok (.iconst 3, 1) := by decide +kernel
theorem dX9_place_81 : decode cX9_place 81 = .ok (.invokestatic 53, 3) := by decide +kernel
theorem dX9_place_84 : decode cX9_place 84 = .ok (.iaload, 1) := by decide +kernel
theorem dX9_place_85 : decode cX9_place 85 = .ok (.iadd, 1) := by decide +kernel
theorem dX9_place_86 : decode cX9_place 86 = .ok (.iload_n 2, 1) := by decide +kernel
theorem dX9_place_87 : decode cX9_place 87 = .ok (.iadd, 1) := by decide +kernel
theorem dX9_place_88 : decode cX9_place 88 = .ok (.iaload, 1) := by decide +kernel
theorem dX9_place_89 : decode cX9_place 89 = .ok (.ireturn, 1) := by decide +kernel
theorem dX9_spare_0 : decode cX9_spare 0 = .ok (.aload_n 0, 1) := by decide +kernel
theorem dX9_spare_1 : decode cX9_spare 1 = .ok (.iload_n 1, 1) := by decide +kernel
theorem dX9_spare_2 : decode cX9_spare 2 = .ok (.ifCond .ge 7, 3) := by decide +kernel
theorem dX9_spare_5 : decode cX9_spare 5 = .ok (.iconst 1, 1) := by decide +kernel
theorem dX9_spare_6 : decode cX9_spare 6 = .ok (.goto 4, 3) := by decide +kernel
theorem dX9_spare_9 : decode cX9_spare 9 = .ok (.iconst 0, 1) := by decide +kernel
theorem dX9_spare_10 : decode cX9_spare 10 = .ok (.invokevirtual 128, 3) := by decide +kernel
theorem dX9_spare_13 : decode cX9_spare 13 = .ok (.ifCond .eq 5, 3) := by decide +kernel
theorem dX9_spare_16 : decode cX9_spare 16 = .ok (.iconst 0, 1) := by decide +kernel
theorem dX9_spare_17 : decode cX9_spare 17 = .ok (.ireturn, 1) := by decide +kernel
theorem dX9_spare_18 : decode cX9_spare 18 = .ok (.iconst 0, 1) := by decide +kernel
theorem dX9_spare_19 : decode cX9_spare 19 = .ok (.istore_n 2, 1) := by decide +kernel
theorem dX9_spare_20 : decode cX9_spare 20 = .ok (.iload_n 2, 1) := by decide +kernel
theorem dX9_spare_21 : decode cX9_spare 21 = .ok (.sipush 256, 3) := by decide +kernel
theorem dX9_spare_24 : decode cX9_spare 24 = .ok (.if_icmp .gt 61, 3) := by decide +kernel
theorem dX9_spare_27 : decode cX9_spare 27 = .ok (.iconst 0, 1) := by decide +kernel
theorem dX9_spare_28 : decode cX9_spare 28 = .ok (.istore_n 3, 1) := by decide +kernel
theorem dX9_spare_29 : decode cX9_spare 29 = .ok (.iconst 0, 1) := by decide +kernel
theorem dX9_spare_30 : decode cX9_spare 30 = .ok (.istore 4, 2) := by decide +kernel
theorem dX9_spare_32 : decode cX9_spare 32 = .ok (.iload 4, 2) := by decide +kernel
theorem dX9_spare_34 : decode cX9_spare 34 = .ok (.aload_n 0, 1) := by decide +kernel
theorem dX9_spare_35 : decode cX9_spare 35 = .ok (.getfield 16, 3) := by decide +kernel
theorem dX9_spare_38 : decode cX9_spare 38 = .ok (.iconst 2, 1) := by decide +kernel
theorem dX9_spare_39 : decode cX9_spare 39 = .ok (.iaload, 1) := by decide +kernel
theorem dX9_spare_40 : decode cX9_spare 40 = .ok (.if_icmp .ge 32, 3) := by decide +kernel
theorem dX9_spare_43 : decode cX9_spare 43 = .ok (.iload_n 3, 1) := by decide +kernel
theorem dX9_spare_44 : decode cX9_spare 44 = .ok (.aload_n 0, 1) := by decide +kernel
theorem dX9_spare_45 : decode cX9_spare 45 = .ok (.getfield 16, 3) := by decide +kernel
theorem dX9_spare_48 : decode cX9_spare 48 = .ok (.iload 4, 2) := by decide +kernel
theorem dX9_spare_50 : decode cX9_spare 50 = .ok (.iconst 0, 1) := by decide +kernel
theorem dX9_spare_51 : decode cX9_spare 51 = .ok (.invokestatic 56, 3) := by decide +kernel
theorem dX9_spare_54 : decode cX9_spare 54 = .ok (.iaload, 1) := by decide +kernel
theorem dX9_spare_55 : decode cX9_spare 55 = .ok (.iload_n 2, 1) := by decide +kernel
theorem dX9_spare_56 : decode cX9_spare 56 = .ok (.if_icmp .gt 7, 3) := by decide +kernel
theorem dX9_spare_59 : decode cX9_spare 59 = .ok (.iconst 1, 1) := by decide +kernel
theorem dX9_spare_60 : decode cX9_spare 60 = .ok (.goto 4, 3) := by decide +kernel
theorem dX9_spare_63 : decode cX9_spare 63 = .ok (.iconst 0, 1) := by decide +kernel
theorem dX9_spare_64 : decode cX9_spare 64 = .ok (.iadd, 1) := by decide +kernel
theorem dX9_spare_65 : decode cX9_spare 65 = .ok (.istore_n 3, 1) := by decide +kernel
theorem dX9_spare_66 : decode cX9_spare 66 = .ok (.iinc 4 1, 3) := by decide +kernel
theorem dX9_spare_69 : decode cX9_spare 69 = .ok (.goto (-37), 3) := by decide +kernel
theorem dX9_spare_72 : decode cX9_spare 72 = .ok (.iload_n 3, 1) := by decide +kernel
theorem dX9_spare_73 : decode cX9_spare 73 = .ok (.iload_n 1, 1) := by decide +kernel
theorem dX9_spare_74 : decode cX9_spare 74 = .ok (.if_icmp .le 5, 3) := by decide +kernel
theorem dX9_spare_77 : decode cX9_spare 77 = .ok (.iload_n 2, 1) := by decide +kernel
theorem dX9_spare_78 : decode cX9_spare 78 = .ok (.ireturn, 1) := by decide +kernel
theorem dX9_spare_79 : decode cX9_spare 79 = .ok (.iinc 2 1, 3) := by decide +kernel
theorem dX9_spare_82 : decode cX9_spare 82 = .ok (.goto (-62), 3) := by decide +kernel
theorem dX9_spare_85 : decode cX9_spare 85 = .ok (.iconst (-1), 1) := by decide +kernel
theorem dX9_spare_86 : decode cX9_spare 86 = .ok (.ireturn, 1) := by decide +kernel
theorem dX9_frame_0 : decode cX9_frame 0 = .ok (.aload_n 0, 1) := by decide +kernel
theorem dX9_frame_1 : decode cX9_frame 1 = .ok (.aload_n 0, 1) := by decide +kernel
theorem dX9_frame_2 : decode cX9_frame 2 = .ok (.iload_n 1, 1) := by decide +kernel
theorem dX9_frame_3 : decode cX9_frame 3 = .ok (.invokevirtual 225, 3) := by decide +kernel
theorem dX9_frame_6 : decode cX9_frame 6 = .ok (.ifCond .ne 7, 3) := by decide +kernel
theorem dX9_frame_9 : decode cX9_frame 9 = .ok (.iconst 1, 1) := by decide +kernel
theorem dX9_frame_10 : decode cX9_frame 10 = .ok (.goto 20, 3) := by decide +kernel
theorem dX9_frame_13 : decode cX9_frame 13 = .ok (.iload_n 2, 1) := by decide +kernel
theorem dX9_frame_14 : decode cX9_frame 14 = .ok (.i2l, 1) := by decide +kernel
theorem dX9_frame_15 : decode cX9_frame 15 = .ok (.lconst 0, 1) := by decide +kernel
theorem dX9_frame_16 : decode cX9_frame 16 = .ok (.ldc2_w 228, 3) := by decide +kernel
theorem dX9_frame_19 : decode cX9_frame 19 = .ok (.invokestatic 121, 3) := by decide +kernel
theorem dX9_frame_22 : decode cX9_frame 22 = .ok (.ifCond .eq 7, 3) := by decide +kernel
theorem dX9_frame_25 : decode cX9_frame 25 = .ok (.iconst 0, 1) := by decide +kernel
theorem dX9_frame_26 : decode cX9_frame 26 = .ok (.goto 4, 3) := by decide +kernel
theorem dX9_frame_29 : decode cX9_frame 29 = .ok (.iconst 2, 1) := by decide +kernel
theorem dX9_frame_30 : decode cX9_frame 30 = .ok (.invokevirtual 128, 3) := by decide +kernel
theorem dX9_frame_33 : decode cX9_frame 33 = .ok (.ifCond .eq 5, 3) := by decide +kernel
theorem dX9_frame_36 : decode cX9_frame 36 = .ok (.iconst 0, 1) := by decide +kernel
theorem dX9_frame_37 : decode cX9_frame 37 = .ok (.ireturn, 1) := by decide +kernel
theorem dX9_frame_38 : decode cX9_frame 38 = .ok (.iload_n 2, 1) := by decide +kernel
theorem dX9_frame_39 : decode cX9_frame 39 = .ok (.iconst 2, 1) := by decide +kernel
theorem dX9_frame_40 : decode cX9_frame 40 = .ok (.if_icmp .ge 16, 3) := by decide +kernel
theorem dX9_frame_43 : decode cX9_frame 43 = .ok (.aload_n 0, 1) := by decide +kernel
theorem dX9_frame_44 : decode cX9_frame 44 = .ok (.getfield 16, 3) := by decide +kernel
theorem dX9_frame_47 : decode cX9_frame 47 = .ok (.iload_n 1, 1) := by decide +kernel
theorem dX9_frame_48 : decode cX9_frame 48 = .ok (.iload_n 2, 1) := by decide +kernel
theorem dX9_frame_49 : decode cX9_frame 49 = .ok (.invokestatic 100, 3) := by decide +kernel
theorem dX9_frame_52 : decode cX9_frame 52 = .ok (.iaload, 1) := by decide +kernel
theorem dX9_frame_53 : decode cX9_frame 53 = .ok (.goto 20, 3) := by decide +kernel
theorem dX9_frame_56 : decode cX9_frame 56 = .ok (.aload_n 0, 1) := by decide +kernel
theorem dX9_frame_57 : decode cX9_frame 57 = .ok (.getfield 16, 3) := by decide +kernel
theorem dX9_frame_60 : decode cX9_frame 60 = .ok (.aload_n 0, 1) := by decide +kernel
theorem dX9_frame_61 : decode cX9_frame 61 = .ok (.getfield 16, 3) := by decide +kernel
theorem dX9_frame_64 : decode cX9_frame 64 = .ok (.iload_n 1, 1) := by decide +kernel
theorem dX9_frame_65 : decode cX9_frame 65 = .ok (.iconst 0, 1) := by decide +kernel
theorem dX9_frame_66 : decode cX9_frame 66 = .ok (.invokestatic 100, 3) := by decide +kernel
theorem dX9_frame_69 : decode cX9_frame 69 = .ok (.iaload, 1) := by decide +kernel
theorem dX9_frame_70 : decode cX9_frame 70 = .ok (.invokestatic 97, 3) := by decide +kernel
theorem dX9_frame_73 : decode cX9_frame 73 = .ok (.ireturn, 1) := by decide +kernel
theorem dX9_isFrame_0 : decode cX9_isFrame 0 = .ok (.iload_n 1, 1) := by decide +kernel
theorem dX9_isFrame_1 : decode cX9_isFrame 1 = .ok (.i2l, 1) := by decide +kernel
theorem dX9_isFrame_2 : decode cX9_isFrame 2 = .ok (.lconst 0, 1) := by decide +kernel
theorem dX9_isFrame_3 : decode cX9_isFrame 3 = .ok (.aload_n 0, 1) := by decide +kernel
theorem dX9_isFrame_4 : decode cX9_isFrame 4 = .ok (.getfield 16, 3) := by decide +kernel
theorem dX9_isFrame_7 : decode cX9_isFrame 7 = .ok (.iconst 3, 1) := by decide +kernel
theorem dX9_isFrame_8 : decode cX9_isFrame 8 = .ok (.iaload, 1) := by decide +kernel
theorem dX9_isFrame_9 : decode cX9_isFrame 9 = .ok (.iconst 1, 1) := by decide +kernel
theorem dX9_isFrame_10 : decode cX9_isFrame 10 = .ok (.isub, 1) := by decide +kernel
theorem dX9_isFrame_11 : decode cX9_isFrame 11 = .ok (.i2l, 1) := by decide +kernel
theorem dX9_isFrame_12 : decode cX9_isFrame 12 = .ok (.invokestatic 121, 3) := by decide +kernel
theorem dX9_isFrame_15 : decode cX9_isFrame 15 = .ok (.ireturn, 1) := by decide +kernel
theorem dX9_pitch_0 : decode cX9_pitch 0 = .ok (.iload_n 1, 1) := by decide +kernel
theorem dX9_pitch_1 : decode cX9_pitch 1 = .ok (.invokestatic 232, 3) := by decide +kernel
theorem dX9_pitch_4 : decode cX9_pitch 4 = .ok (.ifCond .eq 14, 3) := by decide +kernel
theorem dX9_pitch_7 : decode cX9_pitch 7 = .ok (.iload_n 2, 1) := by decide +kernel
theorem dX9_pitch_8 : decode cX9_pitch 8 = .ok (.invokestatic 148, 3) := by decide +kernel
theorem dX9_pitch_11 : decode cX9_pitch 11 = .ok (.ifCond .eq 7, 3) := by decide +kernel
theorem dX9_pitch_14 : decode cX9_pitch 14 = .ok (.iconst 1, 1) := by decide +kernel
theorem dX9_pitch_15 : decode cX9_pitch 15 = .ok (.goto 4, 3) := by decide +kernel
theorem dX9_pitch_18 : decode cX9_pitch 18 = .ok (.iconst 0, 1) := by decide +kernel
theorem dX9_pitch_19 : decode cX9_pitch 19 = .ok (.istore_n 3, 1) := by decide +kernel
theorem dX9_pitch_20 : decode cX9_pitch 20 = .ok (.aload_n 0, 1) := by decide +kernel
theorem dX9_pitch_21 : decode cX9_pitch 21 = .ok (.iload_n 3, 1) := by decide +kernel
theorem dX9_pitch_22 : decode cX9_pitch 22 = .ok (.ifCond .ne 7, 3) := by decide +kernel
theorem dX9_pitch_25 : decode cX9_pitch 25 = .ok (.iconst 1, 1) := by decide +kernel
theorem dX9_pitch_26 : decode cX9_pitch 26 = .ok (.goto 20, 3) := by decide +kernel
theorem dX9_pitch_29 : decode cX9_pitch 29 = .ok (.aload_n 0, 1) := by decide +kernel
theorem dX9_pitch_30 : decode cX9_pitch 30 = .ok (.getfield 16, 3) := by decide +kernel
theorem dX9_pitch_33 : decode cX9_pitch 33 = .ok (.iload_n 1, 1) := by decide +kernel
theorem dX9_pitch_34 : decode cX9_pitch 34 = .ok (.iload_n 2, 1) := by decide +kernel
theorem dX9_pitch_35 : decode cX9_pitch 35 = .ok (.invokestatic 158, 3) := by decide +kernel
theorem dX9_pitch_38 : decode cX9_pitch 38 = .ok (.ifCond .eq 7, 3) := by decide +kernel
theorem dX9_pitch_41 : decode cX9_pitch 41 = .ok (.iconst 0, 1) := by decide +kernel
theorem dX9_pitch_42 : decode cX9_pitch 42 = .ok (.goto 4, 3) := by decide +kernel
theorem dX9_pitch_45 : decode cX9_pitch 45 = .ok (.iconst 2, 1) := by decide +kernel
theorem dX9_pitch_46 : decode cX9_pitch 46 = .ok (.invokevirtual 128, 3) := by decide +kernel
theorem dX9_pitch_49 : decode cX9_pitch 49 = .ok (.ifCond .eq 5, 3) := by decide +kernel
theorem dX9_pitch_52 : decode cX9_pitch 52 = .ok (.iconst 0, 1) := by decide +kernel
theorem dX9_pitch_53 : decode cX9_pitch 53 = .ok (.ireturn, 1) := by decide +kernel
theorem dX9_pitch_54 : decode cX9_pitch 54 = .ok (.aload_n 0, 1) := by decide +kernel
theorem dX9_pitch_55 : decode cX9_pitch 55 = .ok (.invokevirtual 235, 3) := by decide +kernel
theorem dX9_pitch_58 : decode cX9_pitch 58 = .ok (.aload_n 0, 1) := by decide +kernel
theorem dX9_pitch_59 : decode cX9_pitch 59 = .ok (.getfield 16, 3) := by decide +kernel
theorem dX9_pitch_62 : decode cX9_pitch 62 = .ok (.iload_n 1, 1) := by decide +kernel
theorem dX9_pitch_63 : decode cX9_pitch 63 = .ok (.iload_n 2, 1) := by decide +kernel
theorem dX9_pitch_64 : decode cX9_pitch 64 = .ok (.invokestatic 165, 3) := by decide +kernel
theorem dX9_pitch_67 : decode cX9_pitch 67 = .ok (.ireturn, 1) := by decide +kernel
theorem dX9_isTentSize_0 : decode cX9_isTentSize 0 = .ok (.iload_n 0, 1) := by decide +kernel
theorem dX9_isTentSize_1 : decode cX9_isTentSize 1 = .ok (.i2l, 1) := by decide +kernel
theorem dX9_isTentSize_2 : decode cX9_isTentSize 2 = .ok (.lconst 1, 1) := by decide +kernel
theorem dX9_isTentSize_3 : decode cX9_isTentSize 3 = .ok (.ldc2_w 230, 3) := by decide +kernel
theorem dX9_isTentSize_6 : decode cX9_isTentSize 6 = .ok (.invokestatic 121, 3) := by decide +kernel
theorem dX9_isTentSize_9 : decode cX9_isTentSize 9 = .ok (.ireturn, 1) := by decide +kernel
theorem dX9_remember_0 : decode cX9_remember 0 = .ok (.aload_n 0, 1) := by decide +kernel
theorem dX9_remember_1 : decode cX9_remember 1 = .ok (.getfield 42, 3) := by decide +kernel
theorem dX9_remember_4 : decode cX9_remember 4 = .ok (.bipush 14, 2) := by decide +kernel
theorem dX9_remember_6 : decode cX9_remember 6 = .ok (.if_icmp .ne 31, 3) := by decide +kernel
theorem dX9_remember_9 : decode cX9_remember 9 = .ok (.aload_n 0, 1) := by decide +kernel
theorem dX9_remember_10 : decode cX9_remember 10 = .ok (.getfield 22, 3) := by decide +kernel
theorem dX9_remember_13 : decode cX9_remember 13 = .ok (.sipush 690, 3) := by decide +kernel
theorem dX9_remember_16 : decode cX9_remember 16 = .ok (.aload_n 0, 1) := by decide +kernel
theorem dX9_remember_17 : decode cX9_remember 17 = .ok (.getfield 22, 3) := by decide +kernel
theorem dX9_remember_20 : decode cX9_remember 20 = .ok (.iconst 0, 1) := by decide +kernel
theorem dX9_remember_21 : decode cX9_remember 21 = .ok (.sipush 8970, 3) := by decide +kernel
theorem dX9_remember_24 : decode cX9_remember 24 = .ok (.invokestatic 45, 3) := by decide +kernel
theorem dX9_remember_27 : decode cX9_remember 27 = .ok (.aload_n 0, 1) := by decide +kernel
theorem dX9_remember_28 : decode cX9_remember 28 = .ok (.dup, 1) := by decide +kernel
theorem dX9_remember_29 : decode cX9_remember 29 = .ok (.getfield 42, 3) := by decide +kernel
theorem dX9_remember_32 : decode cX9_remember 32 = .ok (.iconst 1, 1) := by decide +kernel
theorem dX9_remember_33 : decode cX9_remember 33 = .ok (.isub, 1) := by decide +kernel
theorem dX9_remember_34 : decode cX9_remember 34 = .ok (.putfield 42, 3) := by decide +kernel
theorem dX9_remember_37 : decode cX9_remember 37 = .ok (.aload_n 0, 1) := by decide +kernel
theorem dX9_remember_38 : decode cX9_remember 38 = .ok (.getfield 16, 3) := by decide +kernel
theorem dX9_remember_41 : decode cX9_remember 41 = .ok (.iconst 0, 1) := by decide +kernel
theorem dX9_remember_42 : decode cX9_remember 42 = .ok (.aload_n 0, 1) := by decide +kernel
theorem dX9_remember_43 : decode cX9_remember 43 = .ok (.getfield 22, 3) := by decide +kernel
theorem dX9_remember_46 : decode cX9_remember 46 = .ok (.sipush 690, 3) := by decide +kernel
theorem dX9_remember_49 : decode cX9_remember 49 = .ok (.aload_n 0, 1) := by decide +kernel
theorem dX9_remember_50 : decode cX9_remember 50 = .ok (.getfield 42, 3) := by decide +kernel
theorem dX9_remember_53 : decode cX9_remember 53 = .ok (.imul, 1) := by decide +kernel
theorem dX9_remember_54 : decode cX9_remember 54 = .ok (.sipush 690, 3) := by decide +kernel
theorem dX9_remember_57 : decode cX9_remember 57 = .ok (.invokestatic 45, 3) := by decide +kernel
theorem dX9_remember_60 : decode cX9_remember 60 = .ok (.aload_n 0, 1) := by decide +kernel
theorem dX9_remember_61 : decode cX9_remember 61 = .ok (.dup, 1) := by decide +kernel
theorem dX9_remember_62 : decode cX9_remember 62 = .ok (.getfield 42, 3) := by decide +kernel
theorem dX9_remember_65 : decode cX9_remember 65 = .ok (.iconst 1, 1) := by decide +kernel
theorem dX9_remember_66 : decode cX9_remember 66 = .ok (.iadd, 1) := by decide +kernel
theorem dX9_remember_67 : decode cX9_remember 67 = .ok (.putfield 42, 3) := by decide +kernel
theorem dX9_remember_70 : decode cX9_remember 70 = .ok (.return_, 1) := by decide +kernel
theorem dX9_fill_0 : decode cX9_fill 0 = .ok (.aload_n 0, 1) := by decide +kernel
theorem dX9_fill_1 : decode cX9_fill 1 = .ok (.aload_n 0, 1) := by decide +kernel
theorem dX9_fill_2 : decode cX9_fill 2 = .ok (.iload_n 1, 1) := by decide +kernel
theorem dX9_fill_3 : decode cX9_fill 3 = .ok (.invokevirtual 207, 3) := by decide +kernel
theorem dX9_fill_6 : decode cX9_fill 6 = .ok (.ifCond .ne 7, 3) := by decide +kernel
theorem dX9_fill_9 : decode cX9_fill 9 = .ok (.iconst 1, 1) := by decide +kernel
theorem dX9_fill_10 : decode cX9_fill 10 = .ok (.goto 20, 3) := by decide +kernel
theorem dX9_fill_13 : decode cX9_fill 13 = .ok (.iload_n 2, 1) := by decide +kernel
theorem dX9_fill_14 : decode cX9_fill 14 = .ok (.i2l, 1) := by decide +kernel
theorem dX9_fill_15 : decode cX9_fill 15 = .ok (.lconst 0, 1) := by decide +kernel
theorem dX9_fill_16 : decode cX9_fill 16 = .ok (.ldc2_w 238, 3) := by decide +kernel
theorem dX9_fill_19 : decode cX9_fill 19 = .ok (.invokestatic 121, 3) := by decide +kernel
theorem dX9_fill_22 : decode cX9_fill 22 = .ok (.ifCond .eq 7, 3) := by decide +kernel
theorem dX9_fill_25 : decode cX9_fill 25 = .ok (.iconst 0, 1) := by decide +kernel
theorem dX9_fill_26 : decode cX9_fill 26 = .ok (.goto 4, 3) := by decide +kernel
theorem dX9_fill_29 : decode cX9_fill 29 = .ok (.iconst 2, 1) := by decide +kernel
theorem dX9_fill_30 : decode cX9_fill 30 = .ok (.invokevirtual 128, 3) := by decide +kernel
theorem dX9_fill_33 : decode cX9_fill 33 = .ok (.ifCond .eq 5, 3) := by decide +kernel
theorem dX9_fill_36 : decode cX9_fill 36 = .ok (.iconst 0, 1) := by decide +kernel
theorem dX9_fill_37 : decode cX9_fill 37 = .ok (.ireturn, 1) := by decide +kernel
theorem dX9_fill_38 : decode cX9_fill 38 = .ok (.aload_n 0, 1) := by decide +kernel
theorem dX9_fill_39 : decode cX9_fill 39 = .ok (.invokevirtual 235, 3) := by decide +kernel
theorem dX9_fill_42 : decode cX9_fill 42 = .ok (.aload_n 0, 1) := by decide +kernel
theorem dX9_fill_43 : decode cX9_fill 43 = .ok (.getfield 16, 3) := by decide +kernel
theorem dX9_fill_46 : decode cX9_fill 46 = .ok (.iload_n 1, 1) := by decide +kernel
theorem dX9_fill_47 : decode cX9_fill 47 = .ok (.iload_n 2, 1) := by decide +kernel
theorem dX9_fill_48 : decode cX9_fill 48 = .ok (.invokestatic 168, 3) := by decide +kernel
theorem dX9_fill_51 : decode cX9_fill 51 = .ok (.ireturn, 1) := by decide +kernel
theorem dX9_enter_0 : decode cX9_enter 0 = .ok (.aload_n 0, 1) := by decide +kernel
theorem dX9_enter_1 : decode cX9_enter 1 = .ok (.aload_n 0, 1) := by decide +kernel
theorem dX9_enter_2 : decode cX9_enter 2 = .ok (.getfield 16, 3) := by decide +kernel
theorem dX9_enter_5 : decode cX9_enter 5 = .ok (.iconst 3, 1) := by decide +kernel
theorem dX9_enter_6 : decode cX9_enter 6 = .ok (.iaload, 1) := by decide +kernel
theorem dX9_enter_7 : decode cX9_enter 7 = .ok (.bipush 8, 2) := by decide +kernel
theorem dX9_enter_9 : decode cX9_enter 9 = .ok (.if_icmp .ne 7, 3) := by decide +kernel
theorem dX9_enter_12 : decode cX9_enter 12 = .ok (.iconst 1, 1) := by decide +kernel
theorem dX9_enter_13 : decode cX9_enter 13 = .ok (.goto 4, 3) := by decide +kernel
theorem dX9_enter_16 : decode cX9_enter 16 = .ok (.iconst 0, 1) := by decide +kernel
theorem dX9_enter_17 : decode cX9_enter 17 = .ok (.invokevirtual 128, 3) := by decide +kernel
theorem dX9_enter_20 : decode cX9_enter 20 = .ok (.ifCond .eq 5, 3) := by decide +kernel
theorem dX9_enter_23 : decode cX9_enter 23 = .ok (.iconst 0, 1) := by decide +kernel
theorem dX9_enter_24 : decode cX9_enter 24 = .ok (.ireturn, 1) := by decide +kernel
theorem dX9_enter_25 : decode cX9_enter 25 = .ok (.aload_n 0, 1) := by decide +kernel
theorem dX9_enter_26 : decode cX9_enter 26 = .ok (.invokevirtual 235, 3) := by decide +kernel
theorem dX9_enter_29 : decode cX9_enter 29 = .ok (.aload_n 0, 1) := by decide +kernel
theorem dX9_enter_30 : decode cX9_enter 30 = .ok (.getfield 16, 3) := by decide +kernel
theorem dX9_enter_33 : decode cX9_enter 33 = .ok (.invokestatic 171, 3) := by decide +kernel
theorem dX9_enter_36 : decode cX9_enter 36 = .ok (.aload_n 0, 1) := by decide +kernel
theorem dX9_enter_37 : decode cX9_enter 37 = .ok (.getfield 16, 3) := by decide +kernel
theorem dX9_enter_40 : decode cX9_enter 40 = .ok (.iconst 3, 1) := by decide +kernel
theorem dX9_enter_41 : decode cX9_enter 41 = .ok (.iaload, 1) := by decide +kernel
theorem dX9_enter_42 : decode cX9_enter 42 = .ok (.iconst 1, 1) := by decide +kernel
theorem dX9_enter_43 : decode cX9_enter 43 = .ok (.isub, 1) := by decide +kernel
theorem dX9_enter_44 : decode cX9_enter 44 = .ok (.ireturn, 1) := by decide +kernel
theorem dX9_leave_0 : decode cX9_leave 0 = .ok (.aload_n 0, 1) := by decide +kernel
theorem dX9_leave_1 : decode cX9_leave 1 = .ok (.aload_n 0, 1) := by decide +kernel
theorem dX9_leave_2 : decode cX9_leave 2 = .ok (.getfield 16, 3) := by decide +kernel
theorem dX9_leave_5 : decode cX9_leave 5 = .ok (.iconst 3, 1) := by decide +kernel
theorem dX9_leave_6 : decode cX9_leave 6 = .ok (.iaload, 1) := by decide +kernel
theorem dX9_leave_7 : decode cX9_leave 7 = .ok (.ifCond .ne 7, 3) := by decide +kernel
theorem dX9_leave_10 : decode cX9_leave 10 = .ok (.iconst 1, 1) := by decide +kernel
theorem dX9_leave_11 : decode cX9_leave 11 = .ok (.goto 4, 3) := by decide +kernel
theorem dX9_leave_14 : decode cX9_leave 14 = .ok (.iconst 0, 1) := by decide +kernel
theorem dX9_leave_15 : decode cX9_leave 15 = .ok (.invokevirtual 128, 3) := by decide +kernel
theorem dX9_leave_18 : decode cX9_leave 18 = .ok (.ifCond .eq 5, 3) := by decide +kernel
theorem dX9_leave_21 : decode cX9_leave 21 = .ok (.iconst 0, 1) := by decide +kernel
theorem dX9_leave_22 : decode cX9_leave 22 = .ok (.ireturn, 1) := by decide +kernel
theorem dX9_leave_23 : decode cX9_leave 23 = .ok (.aload_n 0, 1) := by decide +kernel
theorem dX9_leave_24 : decode cX9_leave 24 = .ok (.invokevirtual 235, 3) := by decide +kernel
theorem dX9_leave_27 : decode cX9_leave 27 = .ok (.aload_n 0, 1) := by decide +kernel
theorem dX9_leave_28 : decode cX9_leave 28 = .ok (.getfield 16, 3) := by decide +kernel
theorem dX9_leave_31 : decode cX9_leave 31 = .ok (.invokestatic 177, 3) := by decide +kernel
theorem dX9_leave_34 : decode cX9_leave 34 = .ok (.ireturn, 1) := by decide +kernel
theorem dX9_jump_0 : decode cX9_jump 0 = .ok (.aload_n 0, 1) := by decide +kernel
theorem dX9_jump_1 : decode cX9_jump 1 = .ok (.aload_n 0, 1) := by decide +kernel
theorem dX9_jump_2 : decode cX9_jump 2 = .ok (.iload_n 1, 1) := by decide +kernel
theorem dX9_jump_3 : decode cX9_jump 3 = .ok (.invokevirtual 225, 3) := by decide +kernel
theorem dX9_jump_6 : decode cX9_jump 6 = .ok (.ifCond .eq 7, 3) := by decide +kernel
theorem dX9_jump_9 : decode cX9_jump 9 = .ok (.iconst 0, 1) := by decide +kernel
theorem dX9_jump_10 : decode cX9_jump 10 = .ok (.goto 4, 3) := by decide +kernel
theorem dX9_jump_13 : decode cX9_jump 13 = .ok (.iconst 1, 1) := by decide +kernel
theorem dX9_jump_14 : decode cX9_jump 14 = .ok (.invokevirtual 128, 3) := by decide +kernel
theorem dX9_jump_17 : decode cX9_jump 17 = .ok (.ifCond .eq 5, 3) := by decide +kernel
theorem dX9_jump_20 : decode cX9_jump 20 = .ok (.iconst 0, 1) := by decide +kernel
theorem dX9_jump_21 : decode cX9_jump 21 = .ok (.ireturn, 1) := by decide +kernel
theorem dX9_jump_22 : decode cX9_jump 22 = .ok (.aload_n 0, 1) := by decide +kernel
theorem dX9_jump_23 : decode cX9_jump 23 = .ok (.invokevirtual 235, 3) := by decide +kernel
theorem dX9_jump_26 : decode cX9_jump 26 = .ok (.aload_n 0, 1) := by decide +kernel
theorem dX9_jump_27 : decode cX9_jump 27 = .ok (.getfield 16, 3) := by decide +kernel
theorem dX9_jump_30 : decode cX9_jump 30 = .ok (.iload_n 1, 1) := by decide +kernel
theorem dX9_jump_31 : decode cX9_jump 31 = .ok (.invokestatic 174, 3) := by decide +kernel
theorem dX9_jump_34 : decode cX9_jump 34 = .ok (.ireturn, 1) := by decide +kernel
theorem dX9_set_0 : decode cX9_set 0 = .ok (.iload_n 1, 1) := by decide +kernel
theorem dX9_set_1 : decode cX9_set 1 = .ok (.ifCond .ne 17, 3) := by decide +kernel
theorem dX9_set_4 : decode cX9_set 4 = .ok (.iload_n 2, 1) := by decide +kernel
theorem dX9_set_5 : decode cX9_set 5 = .ok (.i2l, 1) := by decide +kernel
theorem dX9_set_6 : decode cX9_set 6 = .ok (.ldc2_w 240, 3) := by decide +kernel
theorem dX9_set_9 : decode cX9_set 9 = .ok (.ldc2_w 242, 3) := by decide +kernel
theorem dX9_set_12 : decode cX9_set 12 = .ok (.invokestatic 121, 3) := by decide +kernel
theorem dX9_set_15 : decode cX9_set 15 = .ok (.ifCond .ne 35, 3) := by decide +kernel
theorem dX9_set_18 : decode cX9_set 18 = .ok (.iload_n 1, 1) := by decide +kernel
theorem dX9_set_19 : decode cX9_set 19 = .ok (.iconst 1, 1) := by decide +kernel
theorem dX9_set_20 : decode cX9_set 20 = .ok (.if_icmp .ne 15, 3) := by decide +kernel
theorem dX9_set_23 : decode cX9_set 23 = .ok (.iload_n 2, 1) := by decide +kernel
theorem dX9_set_24 : decode cX9_set 24 = .ok (.i2l, 1) := by decide +kernel
theorem dX9_set_25 : decode cX9_set 25 = .ok (.lconst 0, 1) := by decide +kernel
theorem dX9_set_26 : decode cX9_set 26 = .ok (.ldc2_w 244, 3) := by decide +kernel
theorem dX9_set_29 : decode cX9_set 29 = .ok (.invokestatic 121, 3) := by decide +kernel
theorem dX9_set_32 : decode cX9_set 32 = .ok (.ifCond .ne 18, 3) := by decide +kernel
theorem dX9_set_35 : decode cX9_set 35 = .ok (.iload_n 1, 1) := by decide +kernel
theorem dX9_set_36 : decode cX9_set 36 = .ok (.iconst 2, 1) := by decide +kernel
theorem dX9_set_37 : decode cX9_set 37 = .ok (.if_icmp .ne 17, 3) := by decide +kernel
theorem dX9_set_40 : decode cX9_set 40 = .ok (.iload_n 2, 1) := by decide +kernel
theorem dX9_set_41 : decode cX9_set 41 = .ok (.i2l, 1) := by decide +kernel
theorem dX9_set_42 : decode cX9_set 42 = .ok (.lconst 0, 1) := by decide +kernel
theorem dX9_set_43 : decode cX9_set 43 = .ok (.lconst 1, 1) := by decide +kernel
theorem dX9_set_44 : decode cX9_set 44 = .ok (.invokestatic 121, 3) := by decide +kernel
theorem dX9_set_47 : decode cX9_set 47 = .ok (.ifCond .eq 7, 3) := by decide +kernel
theorem dX9_set_50 : decode cX9_set 50 = .ok (.iconst 1, 1) := by decide +kernel
theorem dX9_set_51 : decode cX9_set 51 = .ok (.goto 4, 3) := by decide +kernel
theorem dX9_set_54 : decode cX9_set 54 = .ok (.iconst 0, 1) := by decide +kernel
theorem dX9_set_55 : decode cX9_set 55 = .ok (.istore_n 3, 1) := by decide +kernel
theorem dX9_set_56 : decode cX9_set 56 = .ok (.aload_n 0, 1) := by decide +kernel
theorem dX9_set_57 : decode cX9_set 57 = .ok (.iload_n 3, 1) := by decide +kernel
theorem dX9_set_58 : decode cX9_set 58 = .ok (.ifCond .eq 7, 3) := by decide +kernel
theorem dX9_set_61 : decode cX9_set 61 = .ok (.iconst 0, 1) := by decide +kernel
theorem dX9_set_62 : decode cX9_set 62 = .ok (.goto 4, 3) := by decide +kernel
theorem dX9_set_65 : decode cX9_set 65 = .ok (.iconst 1, 1) := by decide +kernel
theorem dX9_set_66 : decode cX9_set 66 = .ok (.invokevirtual 128, 3) := by decide +kernel
theorem dX9_set_69 : decode cX9_set 69 = .ok (.ifCond .eq 5, 3) := by decide +kernel
theorem dX9_set_72 : decode cX9_set 72 = .ok (.iconst 0, 1) := by decide +kernel
theorem dX9_set_73 : decode cX9_set 73 = .ok (.ireturn, 1) := by decide +kernel
theorem dX9_set_74 : decode cX9_set 74 = .ok (.aload_n 0, 1) := by decide +kernel
theorem dX9_set_75 : decode cX9_set 75 = .ok (.invokevirtual 235, 3) := by decide +kernel
theorem dX9_set_78 : decode cX9_set 78 = .ok (.aload_n 0, 1) := by decide +kernel
theorem dX9_set_79 : decode cX9_set 79 = .ok (.getfield 16, 3) := by decide +kernel
theorem dX9_set_82 : decode cX9_set 82 = .ok (.bipush 7, 2) := by decide +kernel
theorem dX9_set_84 : decode cX9_set 84 = .ok (.iload_n 1, 1) := by decide +kernel
theorem dX9_set_85 : decode cX9_set 85 = .ok (.iadd, 1) := by decide +kernel
theorem dX9_set_86 : decode cX9_set 86 = .ok (.iaload, 1) := by decide +kernel
theorem dX9_set_87 : decode cX9_set 87 = .ok (.istore 4, 2) := by decide +kernel
theorem dX9_set_89 : decode cX9_set 89 = .ok (.aload_n 0, 1) := by decide +kernel
theorem dX9_set_90 : decode cX9_set 90 = .ok (.getfield 16, 3) := by decide +kernel
theorem dX9_set_93 : decode cX9_set 93 = .ok (.bipush 7, 2) := by decide +kernel
theorem dX9_set_95 : decode cX9_set 95 = .ok (.iload_n 1, 1) := by decide +kernel
theorem dX9_set_96 : decode cX9_set 96 = .ok (.iadd, 1) := by decide +kernel
theorem dX9_set_97 : decode cX9_set 97 = .ok (.iload_n 2, 1) := by decide +kernel
theorem dX9_set_98 : decode cX9_set 98 = .ok (.iastore, 1) := by decide +kernel
theorem dX9_set_99 : decode cX9_set 99 = .ok (.iload 4, 2) := by decide +kernel
theorem dX9_set_101 : decode cX9_set 101 = .ok (.ireturn, 1) := by decide +kernel
theorem dX9_undo_0 : decode cX9_undo 0 = .ok (.aload_n 0, 1) := by decide +kernel
theorem dX9_undo_1 : decode cX9_undo 1 = .ok (.aload_n 0, 1) := by decide +kernel
theorem dX9_undo_2 : decode cX9_undo 2 = .ok (.getfield 42, 3) := by decide +kernel
theorem dX9_undo_5 : decode cX9_undo 5 = .ok (.ifCond .ne 7, 3) := by decide +kernel
theorem dX9_undo_8 : decode cX9_undo 8 = .ok (.iconst 1, 1) := by decide +kernel
theorem dX9_undo_9 : decode cX9_undo 9 = .ok (.goto 4, 3) := by decide +kernel
theorem dX9_undo_12 : decode cX9_undo 12 = .ok (.iconst 0, 1) := by decide +kernel
theorem dX9_undo_13 : decode cX9_undo 13 = .ok (.invokevirtual 128, 3) := by decide +kernel
theorem dX9_undo_16 : decode cX9_undo 16 = .ok (.ifCond .eq 5, 3) := by decide +kernel
theorem dX9_undo_19 : decode cX9_undo 19 = .ok (.iconst 0, 1) := by decide +kernel
theorem dX9_undo_20 : decode cX9_undo 20 = .ok (.ireturn, 1) := by decide +kernel
theorem dX9_undo_21 : decode cX9_undo 21 = .ok (.aload_n 0, 1) := by decide +kernel
theorem dX9_undo_22 : decode cX9_undo 22 = .ok (.dup, 1) := by decide +kernel
theorem dX9_undo_23 : decode cX9_undo 23 = .ok (.getfield 42, 3) := by decide +kernel
theorem dX9_undo_26 : decode cX9_undo 26 = .ok (.iconst 1, 1) := by decide +kernel
theorem dX9_undo_27 : decode cX9_undo 27 = .ok (.isub, 1) := by decide +kernel
theorem dX9_undo_28 : decode cX9_undo 28 = .ok (.putfield 42, 3) := by decide +kernel
theorem dX9_undo_31 : decode cX9_undo 31 = .ok (.aload_n 0, 1) := by decide +kernel
theorem dX9_undo_32 : decode cX9_undo 32 = .ok (.getfield 22, 3) := by decide +kernel
theorem dX9_undo_35 : decode cX9_undo 35 = .ok (.sipush 690, 3) := by decide +kernel
theorem dX9_undo_38 : decode cX9_undo 38 = .ok (.aload_n 0, 1) := by decide +kernel
theorem dX9_undo_39 : decode cX9_undo 39 = .ok (.getfield 42, 3) := by decide +kernel
theorem dX9_undo_42 : decode cX9_undo 42 = .ok (.imul, 1) := by decide +kernel
theorem dX9_undo_43 : decode cX9_undo 43 = .ok (.aload_n 0, 1) := by decide +kernel
theorem dX9_undo_44 : decode cX9_undo 44 = .ok (.getfield 16, 3) := by decide +kernel
theorem dX9_undo_47 : decode cX9_undo 47 = .ok (.iconst 0, 1) := by decide +kernel
theorem dX9_undo_48 : decode cX9_undo 48 = .ok (.sipush 690, 3) := by decide +kernel
theorem dX9_undo_51 : decode cX9_undo 51 = .ok (.invokestatic 45, 3) := by decide +kernel
theorem dX9_undo_54 : decode cX9_undo 54 = .ok (.aload_n 0, 1) := by decide +kernel
theorem dX9_undo_55 : decode cX9_undo 55 = .ok (.getfield 42, 3) := by decide +kernel
theorem dX9_undo_58 : decode cX9_undo 58 = .ok (.ireturn, 1) := by decide +kernel
theorem dX9_where_0 : decode cX9_where 0 = .ok (.iload_n 1, 1) := by decide +kernel
theorem dX9_where_1 : decode cX9_where 1 = .ok (.invokestatic 232, 3) := by decide +kernel
theorem dX9_where_4 : decode cX9_where 4 = .ok (.ifCond .eq 14, 3) := by decide +kernel
theorem dX9_where_7 : decode cX9_where 7 = .ok (.iload_n 2, 1) := by decide +kernel
theorem dX9_where_8 : decode cX9_where 8 = .ok (.invokestatic 148, 3) := by decide +kernel
theorem dX9_where_11 : decode cX9_where 11 = .ok (.ifCond .eq 7, 3) := by decide +kernel
theorem dX9_where_14 : decode cX9_where 14 = .ok (.iconst 1, 1) := by decide +kernel
theorem dX9_where_15 : decode cX9_where 15 = .ok (.goto 4, 3) := by decide +kernel
theorem dX9_where_18 : decode cX9_where 18 = .ok (.iconst 0, 1) := by decide +kernel
theorem dX9_where_19 : decode cX9_where 19 = .ok (.istore_n 3, 1) := by decide +kernel
theorem dX9_where_20 : decode cX9_where 20 = .ok (.aload_n 0, 1) := by decide +kernel
theorem dX9_where_21 : decode cX9_where 21 = .ok (.iload_n 3, 1) := by decide +kernel
theorem dX9_where_22 : decode cX9_where 22 = .ok (.ifCond .eq 7, 3) := by decide +kernel
theorem dX9_where_25 : decode cX9_where 25 = .ok (.iconst 0, 1) := by decide +kernel
theorem dX9_where_26 : decode cX9_where 26 = .ok (.goto 4, 3) := by decide +kernel
theorem dX9_where_29 : decode cX9_where 29 = .ok (.iconst 1, 1) := by decide +kernel
theorem dX9_where_30 : decode cX9_where 30 = .ok (.invokevirtual 128, 3) := by decide +kernel
theorem dX9_where_33 : decode cX9_where 33 = .ok (.ifCond .eq 7, 3) := by decide +kernel
theorem dX9_where_36 : decode cX9_where 36 = .ok (.iconst 0, 1) := by decide +kernel
theorem dX9_where_37 : decode cX9_where 37 = .ok (.goto 12, 3) := by decide +kernel
theorem dX9_where_40 : decode cX9_where 40 = .ok (.aload_n 0, 1) := by decide +kernel
theorem dX9_where_41 : decode cX9_where 41 = .ok (.getfield 16, 3) := by decide +kernel
theorem dX9_where_44 : decode cX9_where 44 = .ok (.iload_n 1, 1) := by decide +kernel
theorem dX9_where_45 : decode cX9_where 45 = .ok (.iload_n 2, 1) := by decide +kernel
theorem dX9_where_46 : decode cX9_where 46 = .ok (.invokestatic 84, 3) := by decide +kernel
theorem dX9_where_49 : decode cX9_where 49 = .ok (.ireturn, 1) := by decide +kernel
theorem dX9_givenUp_0 : decode cX9_givenUp 0 = .ok (.aload_n 0, 1) := by decide +kernel
theorem dX9_givenUp_1 : decode cX9_givenUp 1 = .ok (.aload_n 0, 1) := by decide +kernel
theorem dX9_givenUp_2 : decode cX9_givenUp 2 = .ok (.iload_n 1, 1) := by decide +kernel
theorem dX9_givenUp_3 : decode cX9_givenUp 3 = .ok (.invokevirtual 225, 3) := by decide +kernel
theorem dX9_givenUp_6 : decode cX9_givenUp 6 = .ok (.ifCond .eq 7, 3) := by decide +kernel
theorem dX9_givenUp_9 : decode cX9_givenUp 9 = .ok (.iconst 0, 1) := by decide +kernel
theorem dX9_givenUp_10 : decode cX9_givenUp 10 = .ok (.goto 4, 3) := by decide +kernel
theorem dX9_givenUp_13 : decode cX9_givenUp 13 = .ok (.iconst 1, 1) := by decide +kernel
theorem dX9_givenUp_14 : decode cX9_givenUp 14 = .ok (.invokevirtual 128, 3) := by decide +kernel
theorem dX9_givenUp_17 : decode cX9_givenUp 17 = .ok (.ifCond .eq 5, 3) := by decide +kernel
theorem dX9_givenUp_20 : decode cX9_givenUp 20 = .ok (.iconst 0, 1) := by decide +kernel
theorem dX9_givenUp_21 : decode cX9_givenUp 21 = .ok (.ireturn, 1) := by decide +kernel
theorem dX9_givenUp_22 : decode cX9_givenUp 22 = .ok (.aload_n 0, 1) := by decide +kernel
theorem dX9_givenUp_23 : decode cX9_givenUp 23 = .ok (.invokevirtual 246, 3) := by decide +kernel
theorem dX9_givenUp_26 : decode cX9_givenUp 26 = .ok (.aload_n 0, 1) := by decide +kernel
theorem dX9_givenUp_27 : decode cX9_givenUp 27 = .ok (.getfield 19, 3) := by decide +kernel
theorem dX9_givenUp_30 : decode cX9_givenUp 30 = .ok (.iload_n 1, 1) := by decide +kernel
theorem dX9_givenUp_31 : decode cX9_givenUp 31 = .ok (.invokestatic 174, 3) := by decide +kernel
theorem dX9_givenUp_34 : decode cX9_givenUp 34 = .ok (.pop, 1) := by decide +kernel
theorem dX9_givenUp_35 : decode cX9_givenUp 35 = .ok (.aload_n 0, 1) := by decide +kernel
theorem dX9_givenUp_36 : decode cX9_givenUp 36 = .ok (.getfield 16, 3) := by decide +kernel
theorem dX9_givenUp_39 : decode cX9_givenUp 39 = .ok (.invokestatic 81, 3) := by decide +kernel
theorem dX9_givenUp_42 : decode cX9_givenUp 42 = .ok (.aload_n 0, 1) := by decide +kernel
theorem dX9_givenUp_43 : decode cX9_givenUp 43 = .ok (.getfield 19, 3) := by decide +kernel
theorem dX9_givenUp_46 : decode cX9_givenUp 46 = .ok (.invokestatic 81, 3) := by decide +kernel
theorem dX9_givenUp_49 : decode cX9_givenUp 49 = .ok (.isub, 1) := by decide +kernel
theorem dX9_givenUp_50 : decode cX9_givenUp 50 = .ok (.ireturn, 1) := by decide +kernel
theorem dX9_begin_0 : decode cX9_begin 0 = .ok (.aload_n 0, 1) := by decide +kernel
theorem dX9_begin_1 : decode cX9_begin 1 = .ok (.getfield 16, 3) := by decide +kernel
theorem dX9_begin_4 : decode cX9_begin 4 = .ok (.iconst 0, 1) := by decide +kernel
theorem dX9_begin_5 : decode cX9_begin 5 = .ok (.aload_n 0, 1) := by decide +kernel
theorem dX9_begin_6 : decode cX9_begin 6 = .ok (.getfield 19, 3) := by decide +kernel
