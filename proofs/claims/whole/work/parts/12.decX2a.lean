theorem dX2_init_0 : decode cX2_init 0 = .ok (.aload_n 0, 1) := by decide +kernel
theorem dX2_init_1 : decode cX2_init 1 = .ok (.invokespecial 3, 3) := by decide +kernel
theorem dX2_init_4 : decode cX2_init 4 = .ok (.aload_n 0, 1) := by decide +kernel
theorem dX2_init_5 : decode cX2_init 5 = .ok (.new 9, 3) := by decide +kernel
theorem dX2_init_8 : decode cX2_init 8 = .ok (.dup, 1) := by decide +kernel
theorem dX2_init_9 : decode cX2_init 9 = .ok (.bipush 8, 2) := by decide +kernel
theorem dX2_init_11 : decode cX2_init 11 = .ok (.invokespecial 11, 3) := by decide +kernel
theorem dX2_init_14 : decode cX2_init 14 = .ok (.putfield 14, 3) := by decide +kernel
theorem dX2_init_17 : decode cX2_init 17 = .ok (.aload_n 0, 1) := by decide +kernel
theorem dX2_init_18 : decode cX2_init 18 = .ok (.new 9, 3) := by decide +kernel
theorem dX2_init_21 : decode cX2_init 21 = .ok (.dup, 1) := by decide +kernel
theorem dX2_init_22 : decode cX2_init 22 = .ok (.bipush 8, 2) := by decide +kernel
theorem dX2_init_24 : decode cX2_init 24 = .ok (.invokespecial 11, 3) := by decide +kernel
theorem dX2_init_27 : decode cX2_init 27 = .ok (.putfield 20, 3) := by decide +kernel
theorem dX2_init_30 : decode cX2_init 30 = .ok (.return_, 1) := by decide +kernel
theorem dX2_has_0 : decode cX2_has 0 = .ok (.iload_n 1, 1) := by decide +kernel
theorem dX2_has_1 : decode cX2_has 1 = .ok (.ifCond .lt 15, 3) := by decide +kernel
theorem dX2_has_4 : decode cX2_has 4 = .ok (.iload_n 1, 1) := by decide +kernel
theorem dX2_has_5 : decode cX2_has 5 = .ok (.aload_n 0, 1) := by decide +kernel
theorem dX2_has_6 : decode cX2_has 6 = .ok (.getfield 23, 3) := by decide +kernel
theorem dX2_has_9 : decode cX2_has 9 = .ok (.if_icmp .ge 7, 3) := by decide +kernel
theorem dX2_has_12 : decode cX2_has 12 = .ok (.iconst 1, 1) := by decide +kernel
theorem dX2_has_13 : decode cX2_has 13 = .ok (.goto 4, 3) := by decide +kernel
theorem dX2_has_16 : decode cX2_has 16 = .ok (.iconst 0, 1) := by decide +kernel
theorem dX2_has_17 : decode cX2_has 17 = .ok (.ireturn, 1) := by decide +kernel
theorem dX2_lastAheadOf_0 : decode cX2_lastAheadOf 0 = .ok (.iconst (-1), 1) := by decide +kernel
theorem dX2_lastAheadOf_1 : decode cX2_lastAheadOf 1 = .ok (.istore_n 2, 1) := by decide +kernel
theorem dX2_lastAheadOf_2 : decode cX2_lastAheadOf 2 = .ok (.iconst 0, 1) := by decide +kernel
theorem dX2_lastAheadOf_3 : decode cX2_lastAheadOf 3 = .ok (.istore_n 3, 1) := by decide +kernel
theorem dX2_lastAheadOf_4 : decode cX2_lastAheadOf 4 = .ok (.iload_n 3, 1) := by decide +kernel
theorem dX2_lastAheadOf_5 : decode cX2_lastAheadOf 5 = .ok (.aload_n 0, 1) := by decide +kernel
theorem dX2_lastAheadOf_6 : decode cX2_lastAheadOf 6 = .ok (.getfield 23, 3) := by decide +kernel
theorem dX2_lastAheadOf_9 : decode cX2_lastAheadOf 9 = .ok (.if_icmp .ge 23, 3) := by decide +kernel
theorem dX2_lastAheadOf_12 : decode cX2_lastAheadOf 12 = .ok (.aload_n 0, 1) := by decide +kernel
theorem dX2_lastAheadOf_13 : decode cX2_lastAheadOf 13 = .ok (.getfield 14, 3) := by decide +kernel
theorem dX2_lastAheadOf_16 : decode cX2_lastAheadOf 16 = .ok (.iload_n 3, 1) := by decide +kernel
theorem dX2_lastAheadOf_17 : decode cX2_lastAheadOf 17 = .ok (.invokevirtual 27, 3) := by decide +kernel
theorem dX2_lastAheadOf_20 : decode cX2_lastAheadOf 20 = .ok (.iload_n 1, 1) := by decide +kernel
theorem dX2_lastAheadOf_21 : decode cX2_lastAheadOf 21 = .ok (.if_icmp .gt 5, 3) := by decide +kernel
theorem dX2_lastAheadOf_24 : decode cX2_lastAheadOf 24 = .ok (.iload_n 3, 1) := by decide +kernel
theorem dX2_lastAheadOf_25 : decode cX2_lastAheadOf 25 = .ok (.istore_n 2, 1) := by decide +kernel
theorem dX2_lastAheadOf_26 : decode cX2_lastAheadOf 26 = .ok (.iinc 3 1, 3) := by decide +kernel
theorem dX2_lastAheadOf_29 : decode cX2_lastAheadOf 29 = .ok (.goto (-25), 3) := by decide +kernel
theorem dX2_lastAheadOf_32 : decode cX2_lastAheadOf 32 = .ok (.iload_n 2, 1) := by decide +kernel
theorem dX2_lastAheadOf_33 : decode cX2_lastAheadOf 33 = .ok (.ireturn, 1) := by decide +kernel
theorem dX2_copy_0 : decode cX2_copy 0 = .ok (.aload_n 0, 1) := by decide +kernel
theorem dX2_copy_1 : decode cX2_copy 1 = .ok (.aload_n 1, 1) := by decide +kernel
theorem dX2_copy_2 : decode cX2_copy 2 = .ok (.getfield 23, 3) := by decide +kernel
theorem dX2_copy_5 : decode cX2_copy 5 = .ok (.putfield 23, 3) := by decide +kernel
theorem dX2_copy_8 : decode cX2_copy 8 = .ok (.aload_n 0, 1) := by decide +kernel
theorem dX2_copy_9 : decode cX2_copy 9 = .ok (.getfield 14, 3) := by decide +kernel
theorem dX2_copy_12 : decode cX2_copy 12 = .ok (.aload_n 1, 1) := by decide +kernel
theorem dX2_copy_13 : decode cX2_copy 13 = .ok (.getfield 14, 3) := by decide +kernel
theorem dX2_copy_16 : decode cX2_copy 16 = .ok (.invokevirtual 31, 3) := by decide +kernel
theorem dX2_copy_19 : decode cX2_copy 19 = .ok (.aload_n 0, 1) := by decide +kernel
theorem dX2_copy_20 : decode cX2_copy 20 = .ok (.getfield 20, 3) := by decide +kernel
theorem dX2_copy_23 : decode cX2_copy 23 = .ok (.aload_n 1, 1) := by decide +kernel
theorem dX2_copy_24 : decode cX2_copy 24 = .ok (.getfield 20, 3) := by decide +kernel
theorem dX2_copy_27 : decode cX2_copy 27 = .ok (.invokevirtual 31, 3) := by decide +kernel
theorem dX2_copy_30 : decode cX2_copy 30 = .ok (.return_, 1) := by decide +kernel
