theorem dX6_init_0 : decode cX6_init 0 = .ok (.aload_n 0, 1) := by decide +kernel
theorem dX6_init_1 : decode cX6_init 1 = .ok (.invokespecial 3, 3) := by decide +kernel
theorem dX6_init_4 : decode cX6_init 4 = .ok (.aload_n 0, 1) := by decide +kernel
theorem dX6_init_5 : decode cX6_init 5 = .ok (.new 9, 3) := by decide +kernel
theorem dX6_init_8 : decode cX6_init 8 = .ok (.dup, 1) := by decide +kernel
theorem dX6_init_9 : decode cX6_init 9 = .ok (.bipush 24, 2) := by decide +kernel
theorem dX6_init_11 : decode cX6_init 11 = .ok (.invokespecial 11, 3) := by decide +kernel
theorem dX6_init_14 : decode cX6_init 14 = .ok (.putfield 14, 3) := by decide +kernel
theorem dX6_init_17 : decode cX6_init 17 = .ok (.aload_n 0, 1) := by decide +kernel
theorem dX6_init_18 : decode cX6_init 18 = .ok (.new 9, 3) := by decide +kernel
theorem dX6_init_21 : decode cX6_init 21 = .ok (.dup, 1) := by decide +kernel
theorem dX6_init_22 : decode cX6_init 22 = .ok (.bipush 24, 2) := by decide +kernel
theorem dX6_init_24 : decode cX6_init 24 = .ok (.invokespecial 11, 3) := by decide +kernel
theorem dX6_init_27 : decode cX6_init 27 = .ok (.putfield 20, 3) := by decide +kernel
theorem dX6_init_30 : decode cX6_init 30 = .ok (.aload_n 0, 1) := by decide +kernel
theorem dX6_init_31 : decode cX6_init 31 = .ok (.new 9, 3) := by decide +kernel
theorem dX6_init_34 : decode cX6_init 34 = .ok (.dup, 1) := by decide +kernel
theorem dX6_init_35 : decode cX6_init 35 = .ok (.bipush 24, 2) := by decide +kernel
theorem dX6_init_37 : decode cX6_init 37 = .ok (.invokespecial 11, 3) := by decide +kernel
theorem dX6_init_40 : decode cX6_init 40 = .ok (.putfield 23, 3) := by decide +kernel
theorem dX6_init_43 : decode cX6_init 43 = .ok (.aload_n 0, 1) := by decide +kernel
theorem dX6_init_44 : decode cX6_init 44 = .ok (.new 9, 3) := by decide +kernel
theorem dX6_init_47 : decode cX6_init 47 = .ok (.dup, 1) := by decide +kernel
theorem dX6_init_48 : decode cX6_init 48 = .ok (.bipush 24, 2) := by decide +kernel
theorem dX6_init_50 : decode cX6_init 50 = .ok (.invokespecial 11, 3) := by decide +kernel
theorem dX6_init_53 : decode cX6_init 53 = .ok (.putfield 26, 3) := by decide +kernel
theorem dX6_init_56 : decode cX6_init 56 = .ok (.return_, 1) := by decide +kernel
theorem dX6_placesFrom_0 : decode cX6_placesFrom 0 = .ok (.iconst 0, 1) := by decide +kernel
theorem dX6_placesFrom_1 : decode cX6_placesFrom 1 = .ok (.istore_n 2, 1) := by decide +kernel
theorem dX6_placesFrom_2 : decode cX6_placesFrom 2 = .ok (.iload_n 1, 1) := by decide +kernel
theorem dX6_placesFrom_3 : decode cX6_placesFrom 3 = .ok (.istore_n 3, 1) := by decide +kernel
theorem dX6_placesFrom_4 : decode cX6_placesFrom 4 = .ok (.iload_n 3, 1) := by decide +kernel
theorem dX6_placesFrom_5 : decode cX6_placesFrom 5 = .ok (.aload_n 0, 1) := by decide +kernel
theorem dX6_placesFrom_6 : decode cX6_placesFrom 6 = .ok (.getfield 29, 3) := by decide +kernel
theorem dX6_placesFrom_9 : decode cX6_placesFrom 9 = .ok (.if_icmp .ge 20, 3) := by decide +kernel
theorem dX6_placesFrom_12 : decode cX6_placesFrom 12 = .ok (.iload_n 2, 1) := by decide +kernel
theorem dX6_placesFrom_13 : decode cX6_placesFrom 13 = .ok (.aload_n 0, 1) := by decide +kernel
theorem dX6_placesFrom_14 : decode cX6_placesFrom 14 = .ok (.getfield 23, 3) := by decide +kernel
theorem dX6_placesFrom_17 : decode cX6_placesFrom 17 = .ok (.iload_n 3, 1) := by decide +kernel
theorem dX6_placesFrom_18 : decode cX6_placesFrom 18 = .ok (.invokevirtual 33, 3) := by decide +kernel
theorem dX6_placesFrom_21 : decode cX6_placesFrom 21 = .ok (.iadd, 1) := by decide +kernel
theorem dX6_placesFrom_22 : decode cX6_placesFrom 22 = .ok (.istore_n 2, 1) := by decide +kernel
theorem dX6_placesFrom_23 : decode cX6_placesFrom 23 = .ok (.iinc 3 1, 3) := by decide +kernel
theorem dX6_placesFrom_26 : decode cX6_placesFrom 26 = .ok (.goto (-22), 3) := by decide +kernel
theorem dX6_placesFrom_29 : decode cX6_placesFrom 29 = .ok (.iload_n 2, 1) := by decide +kernel
theorem dX6_placesFrom_30 : decode cX6_placesFrom 30 = .ok (.ireturn, 1) := by decide +kernel
theorem dX6_has_0 : decode cX6_has 0 = .ok (.iload_n 1, 1) := by decide +kernel
theorem dX6_has_1 : decode cX6_has 1 = .ok (.ifCond .lt 15, 3) := by decide +kernel
theorem dX6_has_4 : decode cX6_has 4 = .ok (.iload_n 1, 1) := by decide +kernel
theorem dX6_has_5 : decode cX6_has 5 = .ok (.aload_n 0, 1) := by decide +kernel
theorem dX6_has_6 : decode cX6_has 6 = .ok (.getfield 29, 3) := by decide +kernel
theorem dX6_has_9 : decode cX6_has 9 = .ok (.if_icmp .ge 7, 3) := by decide +kernel
theorem dX6_has_12 : decode cX6_has 12 = .ok (.iconst 1, 1) := by decide +kernel
theorem dX6_has_13 : decode cX6_has 13 = .ok (.goto 4, 3) := by decide +kernel
theorem dX6_has_16 : decode cX6_has 16 = .ok (.iconst 0, 1) := by decide +kernel
theorem dX6_has_17 : decode cX6_has 17 = .ok (.ireturn, 1) := by decide +kernel
theorem dX6_end_0 : decode cX6_end 0 = .ok (.aload_n 0, 1) := by decide +kernel
theorem dX6_end_1 : decode cX6_end 1 = .ok (.getfield 20, 3) := by decide +kernel
theorem dX6_end_4 : decode cX6_end 4 = .ok (.iload_n 1, 1) := by decide +kernel
theorem dX6_end_5 : decode cX6_end 5 = .ok (.invokevirtual 33, 3) := by decide +kernel
theorem dX6_end_8 : decode cX6_end 8 = .ok (.aload_n 0, 1) := by decide +kernel
theorem dX6_end_9 : decode cX6_end 9 = .ok (.getfield 23, 3) := by decide +kernel
theorem dX6_end_12 : decode cX6_end 12 = .ok (.iload_n 1, 1) := by decide +kernel
theorem dX6_end_13 : decode cX6_end 13 = .ok (.invokevirtual 33, 3) := by decide +kernel
theorem dX6_end_16 : decode cX6_end 16 = .ok (.iadd, 1) := by decide +kernel
theorem dX6_end_17 : decode cX6_end 17 = .ok (.ireturn, 1) := by decide +kernel
theorem dX6_countOn_0 : decode cX6_countOn 0 = .ok (.aload_n 0, 1) := by decide +kernel
theorem dX6_countOn_1 : decode cX6_countOn 1 = .ok (.getfield 14, 3) := by decide +kernel
theorem dX6_countOn_4 : decode cX6_countOn 4 = .ok (.iload_n 1, 1) := by decide +kernel
theorem dX6_countOn_5 : decode cX6_countOn 5 = .ok (.iconst 0, 1) := by decide +kernel
theorem dX6_countOn_6 : decode cX6_countOn 6 = .ok (.aload_n 0, 1) := by decide +kernel
theorem dX6_countOn_7 : decode cX6_countOn 7 = .ok (.getfield 29, 3) := by decide +kernel
theorem dX6_countOn_10 : decode cX6_countOn 10 = .ok (.invokevirtual 37, 3) := by decide +kernel
theorem dX6_countOn_13 : decode cX6_countOn 13 = .ok (.ireturn, 1) := by decide +kernel
theorem dX6_copy_0 : decode cX6_copy 0 = .ok (.aload_n 0, 1) := by decide +kernel
theorem dX6_copy_1 : decode cX6_copy 1 = .ok (.aload_n 1, 1) := by decide +kernel
theorem dX6_copy_2 : decode cX6_copy 2 = .ok (.getfield 29, 3) := by decide +kernel
theorem dX6_copy_5 : decode cX6_copy 5 = .ok (.putfield 29, 3) := by decide +kernel
theorem dX6_copy_8 : decode cX6_copy 8 = .ok (.aload_n 0, 1) := by decide +kernel
theorem dX6_copy_9 : decode cX6_copy 9 = .ok (.getfield 14, 3) := by decide +kernel
theorem dX6_copy_12 : decode cX6_copy 12 = .ok (.aload_n 1, 1) := by decide +kernel
theorem dX6_copy_13 : decode cX6_copy 13 = .ok (.getfield 14, 3) := by decide +kernel
theorem dX6_copy_16 : decode cX6_copy 16 = .ok (.invokevirtual 41, 3) := by decide +kernel
theorem dX6_copy_19 : decode cX6_copy 19 = .ok (.aload_n 0, 1) := by decide +kernel
theorem dX6_copy_20 : decode cX6_copy 20 = .ok (.getfield 20, 3) := by decide +kernel
theorem dX6_copy_23 : decode cX6_copy 23 = .ok (.aload_n 1, 1) := by decide +kernel
theorem dX6_copy_24 : decode cX6_copy 24 = .ok (.getfield 20, 3) := by decide +kernel
theorem dX6_copy_27 : decode cX6_copy 27 = .ok (.invokevirtual 41, 3) := by decide +kernel
theorem dX6_copy_30 : decode cX6_copy 30 = .ok (.aload_n 0, 1) := by decide +kernel
theorem dX6_copy_31 : decode cX6_copy 31 = .ok (.getfield 23, 3) := by decide +kernel
theorem dX6_copy_34 : decode cX6_copy 34 = .ok (.aload_n 1, 1) := by decide +kernel
theorem dX6_copy_35 : decode cX6_copy 35 = .ok (.getfield 23, 3) := by decide +kernel
theorem dX6_copy_38 : decode cX6_copy 38 = .ok (.invokevirtual 41, 3) := by decide +kernel
theorem dX6_copy_41 : decode cX6_copy 41 = .ok (.aload_n 0, 1) := by decide +kernel
theorem dX6_copy_42 : decode cX6_copy 42 = .ok (.getfield 26, 3) := by decide +kernel
theorem dX6_copy_45 : decode cX6_copy 45 = .ok (.aload_n 1, 1) := by decide +kernel
theorem dX6_copy_46 : decode cX6_copy 46 = .ok (.getfield 26, 3) := by decide +kernel
theorem dX6_copy_49 : decode cX6_copy 49 = .ok (.invokevirtual 41, 3) := by decide +kernel
theorem dX6_copy_52 : decode cX6_copy 52 = .ok (.return_, 1) := by decide +kernel
