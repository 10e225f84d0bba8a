theorem dX4_init_0 : decode cX4_init 0 = .ok (.aload_n 0, 1) := by decide +kernel
theorem dX4_init_1 : decode cX4_init 1 = .ok (.invokespecial 1, 3) := by decide +kernel
theorem dX4_init_4 : decode cX4_init 4 = .ok (.aload_n 0, 1) := by decide +kernel
theorem dX4_init_5 : decode cX4_init 5 = .ok (.iload_n 1, 1) := by decide +kernel
theorem dX4_init_6 : decode cX4_init 6 = .ok (.iconst 0, 1) := by decide +kernel
theorem dX4_init_7 : decode cX4_init 7 = .ok (.invokestatic 7, 3) := by decide +kernel
theorem dX4_init_10 : decode cX4_init 10 = .ok (.newarray .int, 2) := by decide +kernel
theorem dX4_init_12 : decode cX4_init 12 = .ok (.putfield 13, 3) := by decide +kernel
theorem dX4_init_15 : decode cX4_init 15 = .ok (.return_, 1) := by decide +kernel
theorem dX4_get_0 : decode cX4_get 0 = .ok (.iload_n 1, 1) := by decide +kernel
theorem dX4_get_1 : decode cX4_get 1 = .ok (.ifCond .lt 21, 3) := by decide +kernel
theorem dX4_get_4 : decode cX4_get 4 = .ok (.iload_n 1, 1) := by decide +kernel
theorem dX4_get_5 : decode cX4_get 5 = .ok (.aload_n 0, 1) := by decide +kernel
theorem dX4_get_6 : decode cX4_get 6 = .ok (.getfield 13, 3) := by decide +kernel
theorem dX4_get_9 : decode cX4_get 9 = .ok (.arraylength, 1) := by decide +kernel
theorem dX4_get_10 : decode cX4_get 10 = .ok (.if_icmp .ge 12, 3) := by decide +kernel
theorem dX4_get_13 : decode cX4_get 13 = .ok (.aload_n 0, 1) := by decide +kernel
theorem dX4_get_14 : decode cX4_get 14 = .ok (.getfield 13, 3) := by decide +kernel
theorem dX4_get_17 : decode cX4_get 17 = .ok (.iload_n 1, 1) := by decide +kernel
theorem dX4_get_18 : decode cX4_get 18 = .ok (.iaload, 1) := by decide +kernel
theorem dX4_get_19 : decode cX4_get 19 = .ok (.goto 4, 3) := by decide +kernel
theorem dX4_get_22 : decode cX4_get 22 = .ok (.iconst 0, 1) := by decide +kernel
theorem dX4_get_23 : decode cX4_get 23 = .ok (.ireturn, 1) := by decide +kernel
theorem dX4_put_0 : decode cX4_put 0 = .ok (.iload_n 1, 1) := by decide +kernel
theorem dX4_put_1 : decode cX4_put 1 = .ok (.ifCond .lt 19, 3) := by decide +kernel
theorem dX4_put_4 : decode cX4_put 4 = .ok (.iload_n 1, 1) := by decide +kernel
theorem dX4_put_5 : decode cX4_put 5 = .ok (.aload_n 0, 1) := by decide +kernel
theorem dX4_put_6 : decode cX4_put 6 = .ok (.getfield 13, 3) := by decide +kernel
theorem dX4_put_9 : decode cX4_put 9 = .ok (.arraylength, 1) := by decide +kernel
theorem dX4_put_10 : decode cX4_put 10 = .ok (.if_icmp .ge 10, 3) := by decide +kernel
theorem dX4_put_13 : decode cX4_put 13 = .ok (.aload_n 0, 1) := by decide +kernel
theorem dX4_put_14 : decode cX4_put 14 = .ok (.getfield 13, 3) := by decide +kernel
theorem dX4_put_17 : decode cX4_put 17 = .ok (.iload_n 1, 1) := by decide +kernel
theorem dX4_put_18 : decode cX4_put 18 = .ok (.iload_n 2, 1) := by decide +kernel
theorem dX4_put_19 : decode cX4_put 19 = .ok (.iastore, 1) := by decide +kernel
theorem dX4_put_20 : decode cX4_put 20 = .ok (.return_, 1) := by decide +kernel
theorem dX4_cut_0 : decode cX4_cut 0 = .ok (.iload_n 2, 1) := by decide +kernel
theorem dX4_cut_1 : decode cX4_cut 1 = .ok (.iconst 1, 1) := by decide +kernel
theorem dX4_cut_2 : decode cX4_cut 2 = .ok (.if_icmp .ge 4, 3) := by decide +kernel
theorem dX4_cut_5 : decode cX4_cut 5 = .ok (.return_, 1) := by decide +kernel
theorem dX4_cut_6 : decode cX4_cut 6 = .ok (.iload_n 1, 1) := by decide +kernel
theorem dX4_cut_7 : decode cX4_cut 7 = .ok (.iconst 0, 1) := by decide +kernel
theorem dX4_cut_8 : decode cX4_cut 8 = .ok (.invokestatic 7, 3) := by decide +kernel
theorem dX4_cut_11 : decode cX4_cut 11 = .ok (.istore_n 3, 1) := by decide +kernel
theorem dX4_cut_12 : decode cX4_cut 12 = .ok (.iload_n 3, 1) := by decide +kernel
theorem dX4_cut_13 : decode cX4_cut 13 = .ok (.aload_n 0, 1) := by decide +kernel
theorem dX4_cut_14 : decode cX4_cut 14 = .ok (.getfield 13, 3) := by decide +kernel
theorem dX4_cut_17 : decode cX4_cut 17 = .ok (.arraylength, 1) := by decide +kernel
theorem dX4_cut_18 : decode cX4_cut 18 = .ok (.iload_n 2, 1) := by decide +kernel
theorem dX4_cut_19 : decode cX4_cut 19 = .ok (.isub, 1) := by decide +kernel
theorem dX4_cut_20 : decode cX4_cut 20 = .ok (.if_icmp .ge 23, 3) := by decide +kernel
theorem dX4_cut_23 : decode cX4_cut 23 = .ok (.aload_n 0, 1) := by decide +kernel
theorem dX4_cut_24 : decode cX4_cut 24 = .ok (.getfield 13, 3) := by decide +kernel
theorem dX4_cut_27 : decode cX4_cut 27 = .ok (.iload_n 3, 1) := by decide +kernel
theorem dX4_cut_28 : decode cX4_cut 28 = .ok (.aload_n 0, 1) := by decide +kernel
theorem dX4_cut_29 : decode cX4_cut 29 = .ok (.getfield 13, 3) := by decide +kernel
theorem dX4_cut_32 : decode cX4_cut 32 = .ok (.iload_n 3, 1) := by decide +kernel
theorem dX4_cut_33 : decode cX4_cut 33 = .ok (.iload_n 2, 1) := by decide +kernel
theorem dX4_cut_34 : decode cX4_cut 34 = .ok (.iadd, 1) := by decide +kernel
theorem dX4_cut_35 : decode cX4_cut 35 = .ok (.iaload, 1) := by decide +kernel
theorem dX4_cut_36 : decode cX4_cut 36 = .ok (.iastore, 1) := by decide +kernel
theorem dX4_cut_37 : decode cX4_cut 37 = .ok (.iinc 3 1, 3) := by decide +kernel
theorem dX4_cut_40 : decode cX4_cut 40 = .ok (.goto (-28), 3) := by decide +kernel
theorem dX4_cut_43 : decode cX4_cut 43 = .ok (.return_, 1) := by decide +kernel
theorem dX4_strew_0 : decode cX4_strew 0 = .ok (.iload_n 3, 1) := by decide +kernel
theorem dX4_strew_1 : decode cX4_strew 1 = .ok (.aload_n 0, 1) := by decide +kernel
theorem dX4_strew_2 : decode cX4_strew 2 = .ok (.getfield 13, 3) := by decide +kernel
theorem dX4_strew_5 : decode cX4_strew 5 = .ok (.arraylength, 1) := by decide +kernel
theorem dX4_strew_6 : decode cX4_strew 6 = .ok (.invokestatic 19, 3) := by decide +kernel
theorem dX4_strew_9 : decode cX4_strew 9 = .ok (.istore 4, 2) := by decide +kernel
theorem dX4_strew_11 : decode cX4_strew 11 = .ok (.iload_n 2, 1) := by decide +kernel
theorem dX4_strew_12 : decode cX4_strew 12 = .ok (.iconst 0, 1) := by decide +kernel
theorem dX4_strew_13 : decode cX4_strew 13 = .ok (.invokestatic 7, 3) := by decide +kernel
theorem dX4_strew_16 : decode cX4_strew 16 = .ok (.istore 5, 2) := by decide +kernel
theorem dX4_strew_18 : decode cX4_strew 18 = .ok (.iload 5, 2) := by decide +kernel
theorem dX4_strew_20 : decode cX4_strew 20 = .ok (.iload 4, 2) := by decide +kernel
theorem dX4_strew_22 : decode cX4_strew 22 = .ok (.if_icmp .ge 17, 3) := by decide +kernel
theorem dX4_strew_25 : decode cX4_strew 25 = .ok (.aload_n 0, 1) := by decide +kernel
theorem dX4_strew_26 : decode cX4_strew 26 = .ok (.getfield 13, 3) := by decide +kernel
theorem dX4_strew_29 : decode cX4_strew 29 = .ok (.iload 5, 2) := by decide +kernel
theorem dX4_strew_31 : decode cX4_strew 31 = .ok (.iload_n 1, 1) := by decide +kernel
theorem dX4_strew_32 : decode cX4_strew 32 = .ok (.iastore, 1) := by decide +kernel
theorem dX4_strew_33 : decode cX4_strew 33 = .ok (.iinc 5 1, 3) := by decide +kernel
theorem dX4_strew_36 : decode cX4_strew 36 = .ok (.goto (-18), 3) := by decide +kernel
theorem dX4_strew_39 : decode cX4_strew 39 = .ok (.return_, 1) := by decide +kernel
theorem dX4_countOf_0 : decode cX4_countOf 0 = .ok (.iconst 0, 1) := by decide +kernel
theorem dX4_countOf_1 : decode cX4_countOf 1 = .ok (.istore 4, 2) := by decide +kernel
theorem dX4_countOf_3 : decode cX4_countOf 3 = .ok (.iload_n 3, 1) := by decide +kernel
theorem dX4_countOf_4 : decode cX4_countOf 4 = .ok (.aload_n 0, 1) := by decide +kernel
theorem dX4_countOf_5 : decode cX4_countOf 5 = .ok (.getfield 13, 3) := by decide +kernel
theorem dX4_countOf_8 : decode cX4_countOf 8 = .ok (.arraylength, 1) := by decide +kernel
theorem dX4_countOf_9 : decode cX4_countOf 9 = .ok (.invokestatic 19, 3) := by decide +kernel
theorem dX4_countOf_12 : decode cX4_countOf 12 = .ok (.istore 5, 2) := by decide +kernel
theorem dX4_countOf_14 : decode cX4_countOf 14 = .ok (.iload_n 2, 1) := by decide +kernel
theorem dX4_countOf_15 : decode cX4_countOf 15 = .ok (.iconst 0, 1) := by decide +kernel
theorem dX4_countOf_16 : decode cX4_countOf 16 = .ok (.invokestatic 7, 3) := by decide +kernel
theorem dX4_countOf_19 : decode cX4_countOf 19 = .ok (.istore 6, 2) := by decide +kernel
theorem dX4_countOf_21 : decode cX4_countOf 21 = .ok (.iload 6, 2) := by decide +kernel
theorem dX4_countOf_23 : decode cX4_countOf 23 = .ok (.iload 5, 2) := by decide +kernel
theorem dX4_countOf_25 : decode cX4_countOf 25 = .ok (.if_icmp .ge 23, 3) := by decide +kernel
theorem dX4_countOf_28 : decode cX4_countOf 28 = .ok (.aload_n 0, 1) := by decide +kernel
theorem dX4_countOf_29 : decode cX4_countOf 29 = .ok (.getfield 13, 3) := by decide +kernel
theorem dX4_countOf_32 : decode cX4_countOf 32 = .ok (.iload 6, 2) := by decide +kernel
theorem dX4_countOf_34 : decode cX4_countOf 34 = .ok (.iaload, 1) := by decide +kernel
theorem dX4_countOf_35 : decode cX4_countOf 35 = .ok (.iload_n 1, 1) := by decide +kernel
theorem dX4_countOf_36 : decode cX4_countOf 36 = .ok (.if_icmp .ne 6, 3) := by decide +kernel
theorem dX4_countOf_39 : decode cX4_countOf 39 = .ok (.iinc 4 1, 3) := by decide +kernel
theorem dX4_countOf_42 : decode cX4_countOf 42 = .ok (.iinc 6 1, 3) := by decide +kernel
theorem dX4_countOf_45 : decode cX4_countOf 45 = .ok (.goto (-24), 3) := by decide +kernel
theorem dX4_countOf_48 : decode cX4_countOf 48 = .ok (.iload 4, 2) := by decide +kernel
theorem dX4_countOf_50 : decode cX4_countOf 50 = .ok (.ireturn, 1) := by decide +kernel
theorem dX4_copy_0 : decode cX4_copy 0 = .ok (.aload_n 1, 1) := by decide +kernel
theorem dX4_copy_1 : decode cX4_copy 1 = .ok (.getfield 13, 3) := by decide +kernel
theorem dX4_copy_4 : decode cX4_copy 4 = .ok (.iconst 0, 1) := by decide +kernel
theorem dX4_copy_5 : decode cX4_copy 5 = .ok (.aload_n 0, 1) := by decide +kernel
theorem dX4_copy_6 : decode cX4_copy 6 = .ok (.getfield 13, 3) := by decide +kernel
theorem dX4_copy_9 : decode cX4_copy 9 = .ok (.iconst 0, 1) := by decide +kernel
theorem dX4_copy_10 : decode cX4_copy 10 = .ok (.aload_n 1, 1) := by decide +kernel
theorem dX4_copy_11 : decode cX4_copy 11 = .ok (.getfield 13, 3) := by decide +kernel
theorem dX4_copy_14 : decode cX4_copy 14 = .ok (.arraylength, 1) := by decide +kernel
theorem dX4_copy_15 : decode cX4_copy 15 = .ok (.aload_n 0, 1) := by decide +kernel
theorem dX4_copy_16 : decode cX4_copy 16 = .ok (.getfield 13, 3) := by decide +kernel
theorem dX4_copy_19 : decode cX4_copy 19 = .ok (.arraylength, 1) := by decide +kernel
theorem dX4_copy_20 : decode cX4_copy 20 = .ok (.invokestatic 19, 3) := by decide +kernel
theorem dX4_copy_23 : decode cX4_copy 23 = .ok (.invokestatic 22, 3) := by decide +kernel
theorem dX4_copy_26 : decode cX4_copy 26 = .ok (.return_, 1) := by decide +kernel
