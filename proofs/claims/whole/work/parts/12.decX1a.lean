theorem dX1_init_0 : decode cX1_init 0 = .ok (.aload_n 0, 1) := by decide +kernel
theorem dX1_init_1 : decode cX1_init 1 = .ok (.invokespecial 3, 3) := by decide +kernel
theorem dX1_init_4 : decode cX1_init 4 = .ok (.aload_n 0, 1) := by decide +kernel
theorem dX1_init_5 : decode cX1_init 5 = .ok (.new 9, 3) := by decide +kernel
theorem dX1_init_8 : decode cX1_init 8 = .ok (.dup, 1) := by decide +kernel
theorem dX1_init_9 : decode cX1_init 9 = .ok (.bipush 51, 2) := by decide +kernel
theorem dX1_init_11 : decode cX1_init 11 = .ok (.invokespecial 11, 3) := by decide +kernel
theorem dX1_init_14 : decode cX1_init 14 = .ok (.putfield 14, 3) := by decide +kernel
theorem dX1_init_17 : decode cX1_init 17 = .ok (.aload_n 0, 1) := by decide +kernel
theorem dX1_init_18 : decode cX1_init 18 = .ok (.new 9, 3) := by decide +kernel
theorem dX1_init_21 : decode cX1_init 21 = .ok (.dup, 1) := by decide +kernel
theorem dX1_init_22 : decode cX1_init 22 = .ok (.bipush 51, 2) := by decide +kernel
theorem dX1_init_24 : decode cX1_init 24 = .ok (.invokespecial 11, 3) := by decide +kernel
theorem dX1_init_27 : decode cX1_init 27 = .ok (.putfield 20, 3) := by decide +kernel
theorem dX1_init_30 : decode cX1_init 30 = .ok (.aload_n 0, 1) := by decide +kernel
theorem dX1_init_31 : decode cX1_init 31 = .ok (.new 9, 3) := by decide +kernel
theorem dX1_init_34 : decode cX1_init 34 = .ok (.dup, 1) := by decide +kernel
theorem dX1_init_35 : decode cX1_init 35 = .ok (.bipush 51, 2) := by decide +kernel
theorem dX1_init_37 : decode cX1_init 37 = .ok (.invokespecial 11, 3) := by decide +kernel
theorem dX1_init_40 : decode cX1_init 40 = .ok (.putfield 23, 3) := by decide +kernel
theorem dX1_init_43 : decode cX1_init 43 = .ok (.aload_n 0, 1) := by decide +kernel
theorem dX1_init_44 : decode cX1_init 44 = .ok (.new 9, 3) := by decide +kernel
theorem dX1_init_47 : decode cX1_init 47 = .ok (.dup, 1) := by decide +kernel
theorem dX1_init_48 : decode cX1_init 48 = .ok (.bipush 51, 2) := by decide +kernel
theorem dX1_init_50 : decode cX1_init 50 = .ok (.invokespecial 11, 3) := by decide +kernel
theorem dX1_init_53 : decode cX1_init 53 = .ok (.putfield 26, 3) := by decide +kernel
theorem dX1_init_56 : decode cX1_init 56 = .ok (.return_, 1) := by decide +kernel
theorem dX1_lastUsual_0 : decode cX1_lastUsual 0 = .ok (.iconst (-1), 1) := by decide +kernel
theorem dX1_lastUsual_1 : decode cX1_lastUsual 1 = .ok (.istore_n 1, 1) := by decide +kernel
theorem dX1_lastUsual_2 : decode cX1_lastUsual 2 = .ok (.iconst 0, 1) := by decide +kernel
theorem dX1_lastUsual_3 : decode cX1_lastUsual 3 = .ok (.istore_n 2, 1) := by decide +kernel
theorem dX1_lastUsual_4 : decode cX1_lastUsual 4 = .ok (.iload_n 2, 1) := by decide +kernel
theorem dX1_lastUsual_5 : decode cX1_lastUsual 5 = .ok (.aload_n 0, 1) := by decide +kernel
theorem dX1_lastUsual_6 : decode cX1_lastUsual 6 = .ok (.getfield 29, 3) := by decide +kernel
theorem dX1_lastUsual_9 : decode cX1_lastUsual 9 = .ok (.if_icmp .ge 22, 3) := by decide +kernel
theorem dX1_lastUsual_12 : decode cX1_lastUsual 12 = .ok (.aload_n 0, 1) := by decide +kernel
theorem dX1_lastUsual_13 : decode cX1_lastUsual 13 = .ok (.getfield 23, 3) := by decide +kernel
theorem dX1_lastUsual_16 : decode cX1_lastUsual 16 = .ok (.iload_n 2, 1) := by decide +kernel
theorem dX1_lastUsual_17 : decode cX1_lastUsual 17 = .ok (.invokevirtual 44, 3) := by decide +kernel
theorem dX1_lastUsual_20 : decode cX1_lastUsual 20 = .ok (.ifCond .ne 5, 3) := by decide +kernel
theorem dX1_lastUsual_23 : decode cX1_lastUsual 23 = .ok (.iload_n 2, 1) := by decide +kernel
theorem dX1_lastUsual_24 : decode cX1_lastUsual 24 = .ok (.istore_n 1, 1) := by decide +kernel
theorem dX1_lastUsual_25 : decode cX1_lastUsual 25 = .ok (.iinc 2 1, 3) := by decide +kernel
theorem dX1_lastUsual_28 : decode cX1_lastUsual 28 = .ok (.goto (-24), 3) := by decide +kernel
theorem dX1_lastUsual_31 : decode cX1_lastUsual 31 = .ok (.iload_n 1, 1) := by decide +kernel
theorem dX1_lastUsual_32 : decode cX1_lastUsual 32 = .ok (.ireturn, 1) := by decide +kernel
theorem dX1_smallestFor_0 : decode cX1_smallestFor 0 = .ok (.iconst (-1), 1) := by decide +kernel
theorem dX1_smallestFor_1 : decode cX1_smallestFor 1 = .ok (.istore_n 2, 1) := by decide +kernel
theorem dX1_smallestFor_2 : decode cX1_smallestFor 2 = .ok (.iconst 0, 1) := by decide +kernel
theorem dX1_smallestFor_3 : decode cX1_smallestFor 3 = .ok (.istore_n 3, 1) := by decide +kernel
theorem dX1_smallestFor_4 : decode cX1_smallestFor 4 = .ok (.iload_n 3, 1) := by decide +kernel
theorem dX1_smallestFor_5 : decode cX1_smallestFor 5 = .ok (.aload_n 0, 1) := by decide +kernel
theorem dX1_smallestFor_6 : decode cX1_smallestFor 6 = .ok (.getfield 29, 3) := by decide +kernel
theorem dX1_smallestFor_9 : decode cX1_smallestFor 9 = .ok (.if_icmp .ge 47, 3) := by decide +kernel
theorem dX1_smallestFor_12 : decode cX1_smallestFor 12 = .ok (.aload_n 0, 1) := by decide +kernel
theorem dX1_smallestFor_13 : decode cX1_smallestFor 13 = .ok (.getfield 20, 3) := by decide +kernel
theorem dX1_smallestFor_16 : decode cX1_smallestFor 16 = .ok (.iload_n 3, 1) := by decide +kernel
theorem dX1_smallestFor_17 : decode cX1_smallestFor 17 = .ok (.invokevirtual 44, 3) := by decide +kernel
theorem dX1_smallestFor_20 : decode cX1_smallestFor 20 = .ok (.iload_n 1, 1) := by decide +kernel
theorem dX1_smallestFor_21 : decode cX1_smallestFor 21 = .ok (.if_icmp .lt 29, 3) := by decide +kernel
theorem dX1_smallestFor_24 : decode cX1_smallestFor 24 = .ok (.iload_n 2, 1) := by decide +kernel
theorem dX1_smallestFor_25 : decode cX1_smallestFor 25 = .ok (.iconst (-1), 1) := by decide +kernel
theorem dX1_smallestFor_26 : decode cX1_smallestFor 26 = .ok (.if_icmp .eq 22, 3) := by decide +kernel
theorem dX1_smallestFor_29 : decode cX1_smallestFor 29 = .ok (.aload_n 0, 1) := by decide +kernel
theorem dX1_smallestFor_30 : decode cX1_smallestFor 30 = .ok (.getfield 20, 3) := by decide +kernel
theorem dX1_smallestFor_33 : decode cX1_smallestFor 33 = .ok (.iload_n 3, 1) := by decide +kernel
theorem dX1_smallestFor_34 : decode cX1_smallestFor 34 = .ok (.invokevirtual 44, 3) := by decide +kernel
theorem dX1_smallestFor_37 : decode cX1_smallestFor 37 = .ok (.aload_n 0, 1) := by decide +kernel
theorem dX1_smallestFor_38 : decode cX1_smallestFor 38 = .ok (.getfield 20, 3) := by decide +kernel
theorem dX1_smallestFor_41 : decode cX1_smallestFor 41 = .ok (.iload_n 2, 1) := by decide +kernel
theorem dX1_smallestFor_42 : decode cX1_smallestFor 42 = .ok (.invokevirtual 44, 3) := by decide +kernel
theorem dX1_smallestFor_45 : decode cX1_smallestFor 45 = .ok (.if_icmp .ge 5, 3) := by decide +kernel
theorem dX1_smallestFor_48 : decode cX1_smallestFor 48 = .ok (.iload_n 3, 1) := by decide +kernel
theorem dX1_smallestFor_49 : decode cX1_smallestFor 49 = .ok (.istore_n 2, 1) := by decide +kernel
theorem dX1_smallestFor_50 : decode cX1_smallestFor 50 = .ok (.iinc 3 1, 3) := by decide +kernel
theorem dX1_smallestFor_53 : decode cX1_smallestFor 53 = .ok (.goto (-49), 3) := by decide +kernel
theorem dX1_smallestFor_56 : decode cX1_smallestFor 56 = .ok (.iload_n 2, 1) := by decide +kernel
theorem dX1_smallestFor_57 : decode cX1_smallestFor 57 = .ok (.ireturn, 1) := by decide +kernel
theorem dX1_add_0 : decode cX1_add 0 = .ok (.aload_n 0, 1) := by decide +kernel
theorem dX1_add_1 : decode cX1_add 1 = .ok (.getfield 29, 3) := by decide +kernel
theorem dX1_add_4 : decode cX1_add 4 = .ok (.bipush 51, 2) := by decide +kernel
theorem dX1_add_6 : decode cX1_add 6 = .ok (.if_icmp .ge 70, 3) := by decide +kernel
theorem dX1_add_9 : decode cX1_add 9 = .ok (.aload_n 0, 1) := by decide +kernel
theorem dX1_add_10 : decode cX1_add 10 = .ok (.getfield 14, 3) := by decide +kernel
theorem dX1_add_13 : decode cX1_add 13 = .ok (.aload_n 0, 1) := by decide +kernel
theorem dX1_add_14 : decode cX1_add 14 = .ok (.getfield 29, 3) := by decide +kernel
theorem dX1_add_17 : decode cX1_add 17 = .ok (.iload_n 1, 1) := by decide +kernel
theorem dX1_add_18 : decode cX1_add 18 = .ok (.invokevirtual 33, 3) := by decide +kernel
theorem dX1_add_21 : decode cX1_add 21 = .ok (.aload_n 0, 1) := by decide +kernel
theorem dX1_add_22 : decode cX1_add 22 = .ok (.getfield 20, 3) := by decide +kernel
theorem dX1_add_25 : decode cX1_add 25 = .ok (.aload_n 0, 1) := by decide +kernel
theorem dX1_add_26 : decode cX1_add 26 = .ok (.getfield 29, 3) := by decide +kernel
theorem dX1_add_29 : decode cX1_add 29 = .ok (.iload_n 2, 1) := by decide +kernel
theorem dX1_add_30 : decode cX1_add 30 = .ok (.invokevirtual 33, 3) := by decide +kernel
theorem dX1_add_33 : decode cX1_add 33 = .ok (.aload_n 0, 1) := by decide +kernel
theorem dX1_add_34 : decode cX1_add 34 = .ok (.getfield 23, 3) := by decide +kernel
theorem dX1_add_37 : decode cX1_add 37 = .ok (.aload_n 0, 1) := by decide +kernel
theorem dX1_add_38 : decode cX1_add 38 = .ok (.getfield 29, 3) := by decide +kernel
theorem dX1_add_41 : decode cX1_add 41 = .ok (.iload_n 3, 1) := by decide +kernel
theorem dX1_add_42 : decode cX1_add 42 = .ok (.ifCond .eq 7, 3) := by decide +kernel
theorem dX1_add_45 : decode cX1_add 45 = .ok (.iconst 1, 1) := by decide +kernel
theorem dX1_add_46 : decode cX1_add 46 = .ok (.goto 4, 3) := by decide +kernel
theorem dX1_add_49 : decode cX1_add 49 = .ok (.iconst 0, 1) := by decide +kernel
theorem dX1_add_50 : decode cX1_add 50 = .ok (.invokevirtual 33, 3) := by decide +kernel
theorem dX1_add_53 : decode cX1_add 53 = .ok (.aload_n 0, 1) := by decide +kernel
theorem dX1_add_54 : decode cX1_add 54 = .ok (.getfield 26, 3) := by decide +kernel
theorem dX1_add_57 : decode cX1_add 57 = .ok (.aload_n 0, 1) := by decide +kernel
theorem dX1_add_58 : decode cX1_add 58 = .ok (.getfield 29, 3) := by decide +kernel
theorem dX1_add_61 : decode cX1_add 61 = .ok (.iload 4, 2) := by decide +kernel
theorem dX1_add_63 : decode cX1_add 63 = .ok (.invokevirtual 33, 3) := by decide +kernel
theorem dX1_add_66 : decode cX1_add 66 = .ok (.aload_n 0, 1) := by decide +kernel
theorem dX1_add_67 : decode cX1_add 67 = .ok (.dup, 1) := by decide +kernel
theorem dX1_add_68 : decode cX1_add 68 = .ok (.getfield 29, 3) := by decide +kernel
theorem dX1_add_71 : decode cX1_add 71 = .ok (.iconst 1, 1) := by decide +kernel
theorem dX1_add_72 : decode cX1_add 72 = .ok (.iadd, 1) := by decide +kernel
theorem dX1_add_73 : decode cX1_add 73 = .ok (.putfield 29, 3) := by decide +kernel
theorem dX1_add_76 : decode cX1_add 76 = .ok (.return_, 1) := by decide +kernel
theorem dX1_remove_0 : decode cX1_remove 0 = .ok (.aload_n 0, 1) := by decide +kernel
theorem dX1_remove_1 : decode cX1_remove 1 = .ok (.iload_n 1, 1) := by decide +kernel
theorem dX1_remove_2 : decode cX1_remove 2 = .ok (.invokevirtual 37, 3) := by decide +kernel
theorem dX1_remove_5 : decode cX1_remove 5 = .ok (.ifCond .eq 49, 3) := by decide +kernel
theorem dX1_remove_8 : decode cX1_remove 8 = .ok (.aload_n 0, 1) := by decide +kernel
theorem dX1_remove_9 : decode cX1_remove 9 = .ok (.getfield 14, 3) := by decide +kernel
theorem dX1_remove_12 : decode cX1_remove 12 = .ok (.iload_n 1, 1) := by decide +kernel
theorem dX1_remove_13 : decode cX1_remove 13 = .ok (.iconst 1, 1) := by decide +kernel
theorem dX1_remove_14 : decode cX1_remove 14 = .ok (.invokevirtual 41, 3) := by decide +kernel
theorem dX1_remove_17 : decode cX1_remove 17 = .ok (.aload_n 0, 1) := by decide +kernel
theorem dX1_remove_18 : decode cX1_remove 18 = .ok (.getfield 20, 3) := by decide +kernel
theorem dX1_remove_21 : decode cX1_remove 21 = .ok (.iload_n 1, 1) := by decide +kernel
theorem dX1_remove_22 : decode cX1_remove 22 = .ok (.iconst 1, 1) := by decide +kernel
theorem dX1_remove_23 : decode cX1_remove 23 = .ok (.invokevirtual 41, 3) := by decide +kernel
theorem dX1_remove_26 : decode cX1_remove 26 = .ok (.aload_n 0, 1) := by decide +kernel
theorem dX1_remove_27 : decode cX1_remove 27 = .ok (.getfield 23, 3) := by decide +kernel
theorem dX1_remove_30 : decode cX1_remove 30 = .ok (.iload_n 1, 1) := by decide +kernel
theorem dX1_remove_31 : decode cX1_remove 31 = .ok (.iconst 1, 1) := by decide +kernel
theorem dX1_remove_32 : decode cX1_remove 32 = .ok (.invokevirtual 41, 3) := by decide +kernel
theorem dX1_remove_35 : decode cX1_remove 35 = .ok (.aload_n 0, 1) := by decide +kernel
theorem dX1_remove_36 : decode cX1_remove 36 = .ok (.getfield 26, 3) := by decide +kernel
theorem dX1_remove_39 : decode cX1_remove 39 = .ok (.iload_n 1, 1) := by decide +kernel
theorem dX1_remove_40 : decode cX1_remove 40 = .ok (.iconst 1, 1) := by decide +kernel
theorem dX1_remove_41 : decode cX1_remove 41 = .ok (.invokevirtual 41, 3) := by decide +kernel
theorem dX1_remove_44 : decode cX1_remove 44 = .ok (.aload_n 0, 1) := by decide +kernel
theorem dX1_remove_45 : decode cX1_remove 45 = .ok (.dup, 1) := by decide +kernel
theorem dX1_remove_46 : decode cX1_remove 46 = .ok (.getfield 29, 3) := by decide +kernel
theorem dX1_remove_49 : decode cX1_remove 49 = .ok (.iconst 1, 1) := by decide +kernel
theorem dX1_remove_50 : decode cX1_remove 50 = .ok (.isub, 1) := by decide +kernel
theorem dX1_remove_51 : decode cX1_remove 51 = .ok (.putfield 29, 3) := by decide +kernel
theorem dX1_remove_54 : decode cX1_remove 54 = .ok (.return_, 1) := by decide +kernel
theorem dX1_has_0 : decode cX1_has 0 = .ok (.iload_n 1, 1) := by decide +kernel
theorem dX1_has_1 : decode cX1_has 1 = .ok (.ifCond .lt 15, 3) := by decide +kernel
theorem dX1_has_4 : decode cX1_has 4 = .ok (.iload_n 1, 1) := by decide +kernel
theorem dX1_has_5 : decode cX1_has 5 = .ok (.aload_n 0, 1) := by decide +kernel
theorem dX1_has_6 : decode cX1_has 6 = .ok (.getfield 29, 3) := by decide +kernel
theorem dX1_has_9 : decode cX1_has 9 = .ok (.if_icmp .ge 7, 3) := by decide +kernel
theorem dX1_has_12 : decode cX1_has 12 = .ok (.iconst 1, 1) := by decide +kernel
theorem dX1_has_13 : decode cX1_has 13 = .ok (.goto 4, 3) := by decide +kernel
theorem dX1_has_16 : decode cX1_has 16 = .ok (.iconst 0, 1) := by decide +kernel
theorem dX1_has_17 : decode cX1_has 17 = .ok (.ireturn, 1) := by decide +kernel
theorem dX1_places_0 : decode cX1_places 0 = .ok (.iconst 0, 1) := by decide +kernel
theorem dX1_places_1 : decode cX1_places 1 = .ok (.istore_n 1, 1) := by decide +kernel
theorem dX1_places_2 : decode cX1_places 2 = .ok (.iconst 0, 1) := by decide +kernel
theorem dX1_places_3 : decode cX1_places 3 = .ok (.istore_n 2, 1) := by decide +kernel
theorem dX1_places_4 : decode cX1_places 4 = .ok (.iload_n 2, 1) := by decide +kernel
theorem dX1_places_5 : decode cX1_places 5 = .ok (.aload_n 0, 1) := by decide +kernel
theorem dX1_places_6 : decode cX1_places 6 = .ok (.getfield 29, 3) := by decide +kernel
theorem dX1_places_9 : decode cX1_places 9 = .ok (.if_icmp .ge 20, 3) := by decide +kernel
theorem dX1_places_12 : decode cX1_places 12 = .ok (.iload_n 1, 1) := by decide +kernel
theorem dX1_places_13 : decode cX1_places 13 = .ok (.aload_n 0, 1) := by decide +kernel
theorem dX1_places_14 : decode cX1_places 14 = .ok (.getfield 20, 3) := by decide +kernel
theorem dX1_places_17 : decode cX1_places 17 = .ok (.iload_n 2, 1) := by decide +kernel
theorem dX1_places_18 : decode cX1_places 18 = .ok (.invokevirtual 44, 3) := by decide +kernel
theorem dX1_places_21 : decode cX1_places 21 = .ok (.iadd, 1) := by decide +kernel
theorem dX1_places_22 : decode cX1_places 22 = .ok (.istore_n 1, 1) := by decide +kernel
theorem dX1_places_23 : decode cX1_places 23 = .ok (.iinc 2 1, 3) := by decide +kernel
theorem dX1_places_26 : decode cX1_places 26 = .ok (.goto (-22), 3) := by decide +kernel
theorem dX1_places_29 : decode cX1_places 29 = .ok (.iload_n 1, 1) := by decide +kernel
theorem dX1_places_30 : decode cX1_places 30 = .ok (.ireturn, 1) := by decide +kernel
theorem dX1_greatest_0 : decode cX1_greatest 0 = .ok (.iconst (-1), 1) := by decide +kernel
theorem dX1_greatest_1 : decode cX1_greatest 1 = .ok (.istore_n 1, 1) := by decide +kernel
theorem dX1_greatest_2 : decode cX1_greatest 2 = .ok (.iconst 0, 1) := by decide +kernel
theorem dX1_greatest_3 : decode cX1_greatest 3 = .ok (.istore_n 2, 1) := by decide +kernel
theorem dX1_greatest_4 : decode cX1_greatest 4 = .ok (.iload_n 2, 1) := by decide +kernel
theorem dX1_greatest_5 : decode cX1_greatest 5 = .ok (.aload_n 0, 1) := by decide +kernel
theorem dX1_greatest_6 : decode cX1_greatest 6 = .ok (.getfield 29, 3) := by decide +kernel
theorem dX1_greatest_9 : decode cX1_greatest 9 = .ok (.if_icmp .ge 35, 3) := by decide +kernel
theorem dX1_greatest_12 : decode cX1_greatest 12 = .ok (.iload_n 1, 1) := by decide +kernel
theorem dX1_greatest_13 : decode cX1_greatest 13 = .ok (.iconst (-1), 1) := by decide +kernel
theorem dX1_greatest_14 : decode cX1_greatest 14 = .ok (.if_icmp .eq 22, 3) := by decide +kernel
theorem dX1_greatest_17 : decode cX1_greatest 17 = .ok (.aload_n 0, 1) := by decide +kernel
theorem dX1_greatest_18 : decode cX1_greatest 18 = .ok (.getfield 20, 3) := by decide +kernel
theorem dX1_greatest_21 : decode cX1_greatest 21 = .ok (.iload_n 2, 1) := by decide +kernel
theorem dX1_greatest_22 : decode cX1_greatest 22 = .ok (.invokevirtual 44, 3) := by decide +kernel
theorem dX1_greatest_25 : decode cX1_greatest 25 = .ok (.aload_n 0, 1) := by decide +kernel
theorem dX1_greatest_26 : decode cX1_greatest 26 = .ok (.getfield 20, 3) := by decide +kernel
theorem dX1_greatest_29 : decode cX1_greatest 29 = .ok (.iload_n 1, 1) := by decide +kernel
theorem dX1_greatest_30 : decode cX1_greatest 30 = .ok (.invokevirtual 44, 3) := by decide +kernel
theorem dX1_greatest_33 : decode cX1_greatest 33 = .ok (.if_icmp .lt 5, 3) := by decide +kernel
theorem dX1_greatest_36 : decode cX1_greatest 36 = .ok (.iload_n 2, 1) := by decide +kernel
theorem dX1_greatest_37 : decode cX1_greatest 37 = .ok (.istore_n 1, 1) := by decide +kernel
theorem dX1_greatest_38 : decode cX1_greatest 38 = .ok (.iinc 2 1, 3) := by decide +kernel
theorem dX1_greatest_41 : decode cX1_greatest 41 = .ok (.goto (-37), 3) := by decide +kernel
theorem dX1_greatest_44 : decode cX1_greatest 44 = .ok (.iload_n 1, 1) := by decide +kernel
theorem dX1_greatest_45 : decode cX1_greatest 45 = .ok (.ireturn, 1) := by decide +kernel
theorem dX1_closeUp_0 : decode cX1_closeUp 0 = .ok (.iconst 0, 1) := by decide +kernel
theorem dX1_closeUp_1 : decode cX1_closeUp 1 = .ok (.istore_n 3, 1) := by decide +kernel
theorem dX1_closeUp_2 : decode cX1_closeUp 2 = .ok (.iload_n 3, 1) := by decide +kernel
theorem dX1_closeUp_3 : decode cX1_closeUp 3 = .ok (.aload_n 0, 1) := by decide +kernel
theorem dX1_closeUp_4 : decode cX1_closeUp 4 = .ok (.getfield 29, 3) := by decide +kernel
theorem dX1_closeUp_7 : decode cX1_closeUp 7 = .ok (.if_icmp .ge 39, 3) := by decide +kernel
theorem dX1_closeUp_10 : decode cX1_closeUp 10 = .ok (.aload_n 0, 1) := by decide +kernel
theorem dX1_closeUp_11 : decode cX1_closeUp 11 = .ok (.getfield 14, 3) := by decide +kernel
theorem dX1_closeUp_14 : decode cX1_closeUp 14 = .ok (.iload_n 3, 1) := by decide +kernel
theorem dX1_closeUp_15 : decode cX1_closeUp 15 = .ok (.invokevirtual 44, 3) := by decide +kernel
theorem dX1_closeUp_18 : decode cX1_closeUp 18 = .ok (.iload_n 1, 1) := by decide +kernel
theorem dX1_closeUp_19 : decode cX1_closeUp 19 = .ok (.if_icmp .le 21, 3) := by decide +kernel
theorem dX1_closeUp_22 : decode cX1_closeUp 22 = .ok (.aload_n 0, 1) := by decide +kernel
theorem dX1_closeUp_23 : decode cX1_closeUp 23 = .ok (.getfield 14, 3) := by decide +kernel
theorem dX1_closeUp_26 : decode cX1_closeUp 26 = .ok (.iload_n 3, 1) := by decide +kernel
theorem dX1_closeUp_27 : decode cX1_closeUp 27 = .ok (.aload_n 0, 1) := by decide +kernel
theorem dX1_closeUp_28 : decode cX1_closeUp 28 = .ok (.getfield 14, 3) := by decide +kernel
theorem dX1_closeUp_31 : decode cX1_closeUp 31 = .ok (.iload_n 3, 1) := by decide +kernel
theorem dX1_closeUp_32 : decode cX1_closeUp 32 = .ok (.invokevirtual 44, 3) := by decide +kernel
theorem dX1_closeUp_35 : decode cX1_closeUp 35 = .ok (.iload_n 2, 1) := by decide +kernel
theorem dX1_closeUp_36 : decode cX1_closeUp 36 = .ok (.isub, 1) := by decide +kernel
theorem dX1_closeUp_37 : decode cX1_closeUp 37 = .ok (.invokevirtual 33, 3) := by decide +kernel
theorem dX1_closeUp_40 : decode cX1_closeUp 40 = .ok (.iinc 3 1, 3) := by decide +kernel
theorem dX1_closeUp_43 : decode cX1_closeUp 43 = .ok (.goto (-41), 3) := by decide +kernel
theorem dX1_closeUp_46 : decode cX1_closeUp 46 = .ok (.return_, 1) := by decide +kernel
theorem dX1_withRank_0 : decode cX1_withRank 0 = .ok (.iconst 0, 1) := by decide +kernel
theorem dX1_withRank_1 : decode cX1_withRank 1 = .ok (.istore_n 2, 1) := by decide +kernel
theorem dX1_withRank_2 : decode cX1_withRank 2 = .ok (.iload_n 2, 1) := by decide +kernel
theorem dX1_withRank_3 : decode cX1_withRank 3 = .ok (.aload_n 0, 1) := by decide +kernel
theorem dX1_withRank_4 : decode cX1_withRank 4 = .ok (.getfield 29, 3) := by decide +kernel
theorem dX1_withRank_7 : decode cX1_withRank 7 = .ok (.if_icmp .ge 20, 3) := by decide +kernel
theorem dX1_withRank_10 : decode cX1_withRank 10 = .ok (.aload_n 0, 1) := by decide +kernel
theorem dX1_withRank_11 : decode cX1_withRank 11 = .ok (.iload_n 2, 1) := by decide +kernel
theorem dX1_withRank_12 : decode cX1_withRank 12 = .ok (.invokevirtual 48, 3) := by decide +kernel
theorem dX1_withRank_15 : decode cX1_withRank 15 = .ok (.iload_n 1, 1) := by decide +kernel
theorem dX1_withRank_16 : decode cX1_withRank 16 = .ok (.if_icmp .ne 5, 3) := by decide +kernel
theorem dX1_withRank_19 : decode cX1_withRank 19 = .ok (.iload_n 2, 1) := by decide +kernel
theorem dX1_withRank_20 : decode cX1_withRank 20 = .ok (.ireturn, 1) := by decide +kernel
theorem dX1_withRank_21 : decode cX1_withRank 21 = .ok (.iinc 2 1, 3) := by decide +kernel
theorem dX1_withRank_24 : decode cX1_withRank 24 = .ok (.goto (-22), 3) := by decide +kernel
theorem dX1_withRank_27 : decode cX1_withRank 27 = .ok (.iconst (-1), 1) := by decide +kernel
theorem dX1_withRank_28 : decode cX1_withRank 28 = .ok (.ireturn, 1) := by decide +kernel
theorem dX1_countAheadOf_0 : decode cX1_countAheadOf 0 = .ok (.iconst 0, 1) := by decide +kernel
theorem dX1_countAheadOf_1 : decode cX1_countAheadOf 1 = .ok (.istore_n 2, 1) := by decide +kernel
theorem dX1_countAheadOf_2 : decode cX1_countAheadOf 2 = .ok (.iconst 0, 1) := by decide +kernel
theorem dX1_countAheadOf_3 : decode cX1_countAheadOf 3 = .ok (.istore_n 3, 1) := by decide +kernel
theorem dX1_countAheadOf_4 : decode cX1_countAheadOf 4 = .ok (.iload_n 3, 1) := by decide +kernel
theorem dX1_countAheadOf_5 : decode cX1_countAheadOf 5 = .ok (.aload_n 0, 1) := by decide +kernel
theorem dX1_countAheadOf_6 : decode cX1_countAheadOf 6 = .ok (.getfield 29, 3) := by decide +kernel
theorem dX1_countAheadOf_9 : decode cX1_countAheadOf 9 = .ok (.if_icmp .ge 55, 3) := by decide +kernel
theorem dX1_countAheadOf_12 : decode cX1_countAheadOf 12 = .ok (.aload_n 0, 1) := by decide +kernel
theorem dX1_countAheadOf_13 : decode cX1_countAheadOf 13 = .ok (.getfield 20, 3) := by decide +kernel
theorem dX1_countAheadOf_16 : decode cX1_countAheadOf 16 = .ok (.iload_n 3, 1) := by decide +kernel
theorem dX1_countAheadOf_17 : decode cX1_countAheadOf 17 = .ok (.invokevirtual 44, 3) := by decide +kernel
theorem dX1_countAheadOf_20 : decode cX1_countAheadOf 20 = .ok (.aload_n 0, 1) := by decide +kernel
theorem dX1_countAheadOf_21 : decode cX1_countAheadOf 21 = .ok (.getfield 20, 3) := by decide +kernel
theorem dX1_countAheadOf_24 : decode cX1_countAheadOf 24 = .ok (.iload_n 1, 1) := by decide +kernel
theorem dX1_countAheadOf_25 : decode cX1_countAheadOf 25 = .ok (.invokevirtual 44, 3) := by decide +kernel
theorem dX1_countAheadOf_28 : decode cX1_countAheadOf 28 = .ok (.if_icmp .lt 27, 3) := by decide +kernel
theorem dX1_countAheadOf_31 : decode cX1_countAheadOf 31 = .ok (.aload_n 0, 1) := by decide +kernel
theorem dX1_countAheadOf_32 : decode cX1_countAheadOf 32 = .ok (.getfield 20, 3) := by decide +kernel
theorem dX1_countAheadOf_35 : decode cX1_countAheadOf 35 = .ok (.iload_n 3, 1) := by decide +kernel
theorem dX1_countAheadOf_36 : decode cX1_countAheadOf 36 = .ok (.invokevirtual 44, 3) := by decide +kernel
theorem dX1_countAheadOf_39 : decode cX1_countAheadOf 39 = .ok (.aload_n 0, 1) := by decide +kernel
theorem dX1_countAheadOf_40 : decode cX1_countAheadOf 40 = .ok (.getfield 20, 3) := by decide +kernel
theorem dX1_countAheadOf_43 : decode cX1_countAheadOf 43 = .ok (.iload_n 1, 1) := by decide +kernel
theorem dX1_countAheadOf_44 : decode cX1_countAheadOf 44 = .ok (.invokevirtual 44, 3) := by decide +kernel
theorem dX1_countAheadOf_47 : decode cX1_countAheadOf 47 = .ok (.if_icmp .ne 11, 3) := by decide +kernel
theorem dX1_countAheadOf_50 : decode cX1_countAheadOf 50 = .ok (.iload_n 3, 1) := by decide +kernel
theorem dX1_countAheadOf_51 : decode cX1_countAheadOf 51 = .ok (.iload_n 1, 1) := by decide +kernel
theorem dX1_countAheadOf_52 : decode cX1_countAheadOf 52 = .ok (.if_icmp .ge 6, 3) := by decide +kernel
theorem dX1_countAheadOf_55 : decode cX1_countAheadOf 55 = .ok (.iinc 2 1, 3) := by decide +kernel
theorem dX1_countAheadOf_58 : decode cX1_countAheadOf 58 = .ok (.iinc 3 1, 3) := by decide +kernel
theorem dX1_countAheadOf_61 : decode cX1_countAheadOf 61 = .ok (.goto (-57), 3) := by decide +kernel
theorem dX1_countAheadOf_64 : decode cX1_countAheadOf 64 = .ok (.iload_n 2, 1) := by decide +kernel
theorem dX1_countAheadOf_65 : decode cX1_countAheadOf 65 = .ok (.ireturn, 1) := by decide +kernel
theorem dX1_copy_0 : decode cX1_copy 0 = .ok (.aload_n 0, 1) := by decide +kernel
theorem dX1_copy_1 : decode cX1_copy 1 = .ok (.aload_n 1, 1) := by decide +kernel
theorem dX1_copy_2 : decode cX1_copy 2 = .ok (.getfield 29, 3) := by decide +kernel
theorem dX1_copy_5 : decode cX1_copy 5 = .ok (.putfield 29, 3) := by decide +kernel
theorem dX1_copy_8 : decode cX1_copy 8 = .ok (.aload_n 0, 1) := by decide +kernel
theorem dX1_copy_9 : decode cX1_copy 9 = .ok (.getfield 14, 3) := by decide +kernel
theorem dX1_copy_12 : decode cX1_copy 12 = .ok (.aload_n 1, 1) := by decide +kernel
theorem dX1_copy_13 : decode cX1_copy 13 = .ok (.getfield 14, 3) := by decide +kernel
theorem dX1_copy_16 : decode cX1_copy 16 = .ok (.invokevirtual 51, 3) := by decide +kernel
theorem dX1_copy_19 : decode cX1_copy 19 = .ok (.aload_n 0, 1) := by decide +kernel
theorem dX1_copy_20 : decode cX1_copy 20 = .ok (.getfield 20, 3) := by decide +kernel
theorem dX1_copy_23 : decode cX1_copy 23 = .ok (.aload_n 1, 1) := by decide +kernel
theorem dX1_copy_24 : decode cX1_copy 24 = .ok (.getfield 20, 3) := by decide +kernel
theorem dX1_copy_27 : decode cX1_copy 27 = .ok (.invokevirtual 51, 3) := by decide +kernel
theorem dX1_copy_30 : decode cX1_copy 30 = .ok (.aload_n 0, 1) := by decide +kernel
theorem dX1_copy_31 : decode cX1_copy 31 = .ok (.getfield 23, 3) := by decide +kernel
theorem dX1_copy_34 : decode cX1_copy 34 = .ok (.aload_n 1, 1) := by decide +kernel
theorem dX1_copy_35 : decode cX1_copy 35 = .ok (.getfield 23, 3) := by decide +kernel
theorem dX1_copy_38 : decode cX1_copy 38 = .ok (.invokevirtual 51, 3) := by decide +kernel
theorem dX1_copy_41 : decode cX1_copy 41 = .ok (.aload_n 0, 1) := by decide +kernel
theorem dX1_copy_42 : decode cX1_copy 42 = .ok (.getfield 26, 3) := by decide +kernel
theorem dX1_copy_45 : decode cX1_copy 45 = .ok (.aload_n 1, 1) := by decide +kernel
theorem dX1_copy_46 : decode cX1_copy 46 = .ok (.getfield 26, 3) := by decide +kernel
theorem dX1_copy_49 : decode cX1_copy 49 = .ok (.invokevirtual 51, 3) := by decide +kernel
theorem dX1_copy_52 : decode cX1_copy 52 = .ok (.return_, 1) := by decide +kernel
