theorem dX0_init_0 : decode cX0_init 0 = .ok (.aload_n 0, 1) := by decide +kernel
theorem dX0_init_1 : decode cX0_init 1 = .ok (.invokespecial 3, 3) := by decide +kernel
theorem dX0_init_4 : decode cX0_init 4 = .ok (.aload_n 0, 1) := by decide +kernel
theorem dX0_init_5 : decode cX0_init 5 = .ok (.bipush 10, 2) := by decide +kernel
theorem dX0_init_7 : decode cX0_init 7 = .ok (.newarray .int, 2) := by decide +kernel
theorem dX0_init_9 : decode cX0_init 9 = .ok (.putfield 9, 3) := by decide +kernel
theorem dX0_init_12 : decode cX0_init 12 = .ok (.iconst 0, 1) := by decide +kernel
theorem dX0_init_13 : decode cX0_init 13 = .ok (.istore_n 1, 1) := by decide +kernel
theorem dX0_init_14 : decode cX0_init 14 = .ok (.iload_n 1, 1) := by decide +kernel
theorem dX0_init_15 : decode cX0_init 15 = .ok (.bipush 10, 2) := by decide +kernel
theorem dX0_init_17 : decode cX0_init 17 = .ok (.if_icmp .ge 16, 3) := by decide +kernel
theorem dX0_init_20 : decode cX0_init 20 = .ok (.aload_n 0, 1) := by decide +kernel
theorem dX0_init_21 : decode cX0_init 21 = .ok (.getfield 9, 3) := by decide +kernel
theorem dX0_init_24 : decode cX0_init 24 = .ok (.iload_n 1, 1) := by decide +kernel
theorem dX0_init_25 : decode cX0_init 25 = .ok (.iconst (-1), 1) := by decide +kernel
theorem dX0_init_26 : decode cX0_init 26 = .ok (.iastore, 1) := by decide +kernel
theorem dX0_init_27 : decode cX0_init 27 = .ok (.iinc 1 1, 3) := by decide +kernel
theorem dX0_init_30 : decode cX0_init 30 = .ok (.goto (-16), 3) := by decide +kernel
theorem dX0_init_33 : decode cX0_init 33 = .ok (.aload_n 0, 1) := by decide +kernel
theorem dX0_init_34 : decode cX0_init 34 = .ok (.bipush 10, 2) := by decide +kernel
theorem dX0_init_36 : decode cX0_init 36 = .ok (.newarray .int, 2) := by decide +kernel
theorem dX0_init_38 : decode cX0_init 38 = .ok (.putfield 15, 3) := by decide +kernel
theorem dX0_init_41 : decode cX0_init 41 = .ok (.aload_n 0, 1) := by decide +kernel
theorem dX0_init_42 : decode cX0_init 42 = .ok (.bipush 10, 2) := by decide +kernel
theorem dX0_init_44 : decode cX0_init 44 = .ok (.newarray .int, 2) := by decide +kernel
theorem dX0_init_46 : decode cX0_init 46 = .ok (.putfield 18, 3) := by decide +kernel
theorem dX0_init_49 : decode cX0_init 49 = .ok (.return_, 1) := by decide +kernel
theorem dX0_open_0 : decode cX0_open 0 = .ok (.aload_n 0, 1) := by decide +kernel
theorem dX0_open_1 : decode cX0_open 1 = .ok (.iload_n 1, 1) := by decide +kernel
theorem dX0_open_2 : decode cX0_open 2 = .ok (.putfield 21, 3) := by decide +kernel
theorem dX0_open_5 : decode cX0_open 5 = .ok (.aload_n 0, 1) := by decide +kernel
theorem dX0_open_6 : decode cX0_open 6 = .ok (.iload_n 2, 1) := by decide +kernel
theorem dX0_open_7 : decode cX0_open 7 = .ok (.putfield 25, 3) := by decide +kernel
theorem dX0_open_10 : decode cX0_open 10 = .ok (.aload_n 0, 1) := by decide +kernel
theorem dX0_open_11 : decode cX0_open 11 = .ok (.iload_n 3, 1) := by decide +kernel
theorem dX0_open_12 : decode cX0_open 12 = .ok (.putfield 28, 3) := by decide +kernel
theorem dX0_open_15 : decode cX0_open 15 = .ok (.aload_n 0, 1) := by decide +kernel
theorem dX0_open_16 : decode cX0_open 16 = .ok (.iload 4, 2) := by decide +kernel
theorem dX0_open_18 : decode cX0_open 18 = .ok (.putfield 31, 3) := by decide +kernel
theorem dX0_open_21 : decode cX0_open 21 = .ok (.aload_n 0, 1) := by decide +kernel
theorem dX0_open_22 : decode cX0_open 22 = .ok (.iload 5, 2) := by decide +kernel
theorem dX0_open_24 : decode cX0_open 24 = .ok (.putfield 34, 3) := by decide +kernel
theorem dX0_open_27 : decode cX0_open 27 = .ok (.return_, 1) := by decide +kernel
theorem dX0_isOf_0 : decode cX0_isOf 0 = .ok (.aload_n 0, 1) := by decide +kernel
theorem dX0_isOf_1 : decode cX0_isOf 1 = .ok (.getfield 21, 3) := by decide +kernel
theorem dX0_isOf_4 : decode cX0_isOf 4 = .ok (.iload_n 1, 1) := by decide +kernel
theorem dX0_isOf_5 : decode cX0_isOf 5 = .ok (.if_icmp .ne 15, 3) := by decide +kernel
theorem dX0_isOf_8 : decode cX0_isOf 8 = .ok (.aload_n 0, 1) := by decide +kernel
theorem dX0_isOf_9 : decode cX0_isOf 9 = .ok (.getfield 34, 3) := by decide +kernel
theorem dX0_isOf_12 : decode cX0_isOf 12 = .ok (.iload_n 2, 1) := by decide +kernel
theorem dX0_isOf_13 : decode cX0_isOf 13 = .ok (.if_icmp .ne 7, 3) := by decide +kernel
theorem dX0_isOf_16 : decode cX0_isOf 16 = .ok (.iconst 1, 1) := by decide +kernel
theorem dX0_isOf_17 : decode cX0_isOf 17 = .ok (.goto 4, 3) := by decide +kernel
theorem dX0_isOf_20 : decode cX0_isOf 20 = .ok (.iconst 0, 1) := by decide +kernel
theorem dX0_isOf_21 : decode cX0_isOf 21 = .ok (.ireturn, 1) := by decide +kernel
theorem dX0_hasSeated_0 : decode cX0_hasSeated 0 = .ok (.aload_n 0, 1) := by decide +kernel
theorem dX0_hasSeated_1 : decode cX0_hasSeated 1 = .ok (.getfield 9, 3) := by decide +kernel
theorem dX0_hasSeated_4 : decode cX0_hasSeated 4 = .ok (.iload_n 1, 1) := by decide +kernel
theorem dX0_hasSeated_5 : decode cX0_hasSeated 5 = .ok (.iaload, 1) := by decide +kernel
theorem dX0_hasSeated_6 : decode cX0_hasSeated 6 = .ok (.iconst (-1), 1) := by decide +kernel
theorem dX0_hasSeated_7 : decode cX0_hasSeated 7 = .ok (.if_icmp .eq 7, 3) := by decide +kernel
theorem dX0_hasSeated_10 : decode cX0_hasSeated 10 = .ok (.iconst 1, 1) := by decide +kernel
theorem dX0_hasSeated_11 : decode cX0_hasSeated 11 = .ok (.goto 4, 3) := by decide +kernel
theorem dX0_hasSeated_14 : decode cX0_hasSeated 14 = .ok (.iconst 0, 1) := by decide +kernel
theorem dX0_hasSeated_15 : decode cX0_hasSeated 15 = .ok (.ireturn, 1) := by decide +kernel
theorem dX0_countTaken_0 : decode cX0_countTaken 0 = .ok (.iconst 0, 1) := by decide +kernel
theorem dX0_countTaken_1 : decode cX0_countTaken 1 = .ok (.istore_n 1, 1) := by decide +kernel
theorem dX0_countTaken_2 : decode cX0_countTaken 2 = .ok (.iconst 0, 1) := by decide +kernel
theorem dX0_countTaken_3 : decode cX0_countTaken 3 = .ok (.istore_n 2, 1) := by decide +kernel
theorem dX0_countTaken_4 : decode cX0_countTaken 4 = .ok (.iload_n 2, 1) := by decide +kernel
theorem dX0_countTaken_5 : decode cX0_countTaken 5 = .ok (.bipush 10, 2) := by decide +kernel
theorem dX0_countTaken_7 : decode cX0_countTaken 7 = .ok (.if_icmp .ge 20, 3) := by decide +kernel
theorem dX0_countTaken_10 : decode cX0_countTaken 10 = .ok (.aload_n 0, 1) := by decide +kernel
theorem dX0_countTaken_11 : decode cX0_countTaken 11 = .ok (.iload_n 2, 1) := by decide +kernel
theorem dX0_countTaken_12 : decode cX0_countTaken 12 = .ok (.invokevirtual 38, 3) := by decide +kernel
theorem dX0_countTaken_15 : decode cX0_countTaken 15 = .ok (.ifCond .eq 6, 3) := by decide +kernel
theorem dX0_countTaken_18 : decode cX0_countTaken 18 = .ok (.iinc 1 1, 3) := by decide +kernel
theorem dX0_countTaken_21 : decode cX0_countTaken 21 = .ok (.iinc 2 1, 3) := by decide +kernel
theorem dX0_countTaken_24 : decode cX0_countTaken 24 = .ok (.goto (-20), 3) := by decide +kernel
theorem dX0_countTaken_27 : decode cX0_countTaken 27 = .ok (.iload_n 1, 1) := by decide +kernel
theorem dX0_countTaken_28 : decode cX0_countTaken 28 = .ok (.ireturn, 1) := by decide +kernel
theorem dX0_isFull_0 : decode cX0_isFull 0 = .ok (.aload_n 0, 1) := by decide +kernel
theorem dX0_isFull_1 : decode cX0_isFull 1 = .ok (.invokevirtual 42, 3) := by decide +kernel
theorem dX0_isFull_4 : decode cX0_isFull 4 = .ok (.aload_n 0, 1) := by decide +kernel
theorem dX0_isFull_5 : decode cX0_isFull 5 = .ok (.getfield 31, 3) := by decide +kernel
theorem dX0_isFull_8 : decode cX0_isFull 8 = .ok (.if_icmp .lt 7, 3) := by decide +kernel
theorem dX0_isFull_11 : decode cX0_isFull 11 = .ok (.iconst 1, 1) := by decide +kernel
theorem dX0_isFull_12 : decode cX0_isFull 12 = .ok (.goto 4, 3) := by decide +kernel
theorem dX0_isFull_15 : decode cX0_isFull 15 = .ok (.iconst 0, 1) := by decide +kernel
theorem dX0_isFull_16 : decode cX0_isFull 16 = .ok (.ireturn, 1) := by decide +kernel
theorem dX0_pupilSeated_0 : decode cX0_pupilSeated 0 = .ok (.iconst 0, 1) := by decide +kernel
theorem dX0_pupilSeated_1 : decode cX0_pupilSeated 1 = .ok (.istore_n 2, 1) := by decide +kernel
theorem dX0_pupilSeated_2 : decode cX0_pupilSeated 2 = .ok (.iconst 0, 1) := by decide +kernel
theorem dX0_pupilSeated_3 : decode cX0_pupilSeated 3 = .ok (.istore_n 3, 1) := by decide +kernel
theorem dX0_pupilSeated_4 : decode cX0_pupilSeated 4 = .ok (.iload_n 3, 1) := by decide +kernel
theorem dX0_pupilSeated_5 : decode cX0_pupilSeated 5 = .ok (.bipush 10, 2) := by decide +kernel
theorem dX0_pupilSeated_7 : decode cX0_pupilSeated 7 = .ok (.if_icmp .ge 27, 3) := by decide +kernel
theorem dX0_pupilSeated_10 : decode cX0_pupilSeated 10 = .ok (.aload_n 0, 1) := by decide +kernel
theorem dX0_pupilSeated_11 : decode cX0_pupilSeated 11 = .ok (.iload_n 3, 1) := by decide +kernel
theorem dX0_pupilSeated_12 : decode cX0_pupilSeated 12 = .ok (.invokevirtual 38, 3) := by decide +kernel
theorem dX0_pupilSeated_15 : decode cX0_pupilSeated 15 = .ok (.ifCond .eq 13, 3) := by decide +kernel
theorem dX0_pupilSeated_18 : decode cX0_pupilSeated 18 = .ok (.iload_n 2, 1) := by decide +kernel
theorem dX0_pupilSeated_19 : decode cX0_pupilSeated 19 = .ok (.iload_n 1, 1) := by decide +kernel
theorem dX0_pupilSeated_20 : decode cX0_pupilSeated 20 = .ok (.if_icmp .ne 5, 3) := by decide +kernel
theorem dX0_pupilSeated_23 : decode cX0_pupilSeated 23 = .ok (.iload_n 3, 1) := by decide +kernel
theorem dX0_pupilSeated_24 : decode cX0_pupilSeated 24 = .ok (.ireturn, 1) := by decide +kernel
theorem dX0_pupilSeated_25 : decode cX0_pupilSeated 25 = .ok (.iinc 2 1, 3) := by decide +kernel
theorem dX0_pupilSeated_28 : decode cX0_pupilSeated 28 = .ok (.iinc 3 1, 3) := by decide +kernel
theorem dX0_pupilSeated_31 : decode cX0_pupilSeated 31 = .ok (.goto (-27), 3) := by decide +kernel
theorem dX0_pupilSeated_34 : decode cX0_pupilSeated 34 = .ok (.iconst (-1), 1) := by decide +kernel
theorem dX0_pupilSeated_35 : decode cX0_pupilSeated 35 = .ok (.ireturn, 1) := by decide +kernel
theorem dX0_unseat_0 : decode cX0_unseat 0 = .ok (.aload_n 0, 1) := by decide +kernel
theorem dX0_unseat_1 : decode cX0_unseat 1 = .ok (.getfield 9, 3) := by decide +kernel
theorem dX0_unseat_4 : decode cX0_unseat 4 = .ok (.iload_n 1, 1) := by decide +kernel
theorem dX0_unseat_5 : decode cX0_unseat 5 = .ok (.iaload, 1) := by decide +kernel
theorem dX0_unseat_6 : decode cX0_unseat 6 = .ok (.istore_n 2, 1) := by decide +kernel
theorem dX0_unseat_7 : decode cX0_unseat 7 = .ok (.aload_n 0, 1) := by decide +kernel
theorem dX0_unseat_8 : decode cX0_unseat 8 = .ok (.getfield 9, 3) := by decide +kernel
theorem dX0_unseat_11 : decode cX0_unseat 11 = .ok (.iload_n 1, 1) := by decide +kernel
theorem dX0_unseat_12 : decode cX0_unseat 12 = .ok (.iconst (-1), 1) := by decide +kernel
theorem dX0_unseat_13 : decode cX0_unseat 13 = .ok (.iastore, 1) := by decide +kernel
theorem dX0_unseat_14 : decode cX0_unseat 14 = .ok (.iload_n 2, 1) := by decide +kernel
theorem dX0_unseat_15 : decode cX0_unseat 15 = .ok (.ireturn, 1) := by decide +kernel
theorem dX0_placeInQueue_0 : decode cX0_placeInQueue 0 = .ok (.iconst 0, 1) := by decide +kernel
theorem dX0_placeInQueue_1 : decode cX0_placeInQueue 1 = .ok (.istore_n 2, 1) := by decide +kernel
theorem dX0_placeInQueue_2 : decode cX0_placeInQueue 2 = .ok (.iload_n 2, 1) := by decide +kernel
theorem dX0_placeInQueue_3 : decode cX0_placeInQueue 3 = .ok (.aload_n 0, 1) := by decide +kernel
theorem dX0_placeInQueue_4 : decode cX0_placeInQueue 4 = .ok (.getfield 46, 3) := by decide +kernel
theorem dX0_placeInQueue_7 : decode cX0_placeInQueue 7 = .ok (.if_icmp .ge 21, 3) := by decide +kernel
theorem dX0_placeInQueue_10 : decode cX0_placeInQueue 10 = .ok (.aload_n 0, 1) := by decide +kernel
theorem dX0_placeInQueue_11 : decode cX0_placeInQueue 11 = .ok (.getfield 15, 3) := by decide +kernel
theorem dX0_placeInQueue_14 : decode cX0_placeInQueue 14 = .ok (.iload_n 2, 1) := by decide +kernel
theorem dX0_placeInQueue_15 : decode cX0_placeInQueue 15 = .ok (.iaload, 1) := by decide +kernel
theorem dX0_placeInQueue_16 : decode cX0_placeInQueue 16 = .ok (.iload_n 1, 1) := by decide +kernel
theorem dX0_placeInQueue_17 : decode cX0_placeInQueue 17 = .ok (.if_icmp .ne 5, 3) := by decide +kernel
theorem dX0_placeInQueue_20 : decode cX0_placeInQueue 20 = .ok (.iload_n 2, 1) := by decide +kernel
theorem dX0_placeInQueue_21 : decode cX0_placeInQueue 21 = .ok (.ireturn, 1) := by decide +kernel
theorem dX0_placeInQueue_22 : decode cX0_placeInQueue 22 = .ok (.iinc 2 1, 3) := by decide +kernel
theorem dX0_placeInQueue_25 : decode cX0_placeInQueue 25 = .ok (.goto (-23), 3) := by decide +kernel
theorem dX0_placeInQueue_28 : decode cX0_placeInQueue 28 = .ok (.iconst (-1), 1) := by decide +kernel
theorem dX0_placeInQueue_29 : decode cX0_placeInQueue 29 = .ok (.ireturn, 1) := by decide +kernel
theorem dX0_letWait_0 : decode cX0_letWait 0 = .ok (.aload_n 0, 1) := by decide +kernel
theorem dX0_letWait_1 : decode cX0_letWait 1 = .ok (.iload_n 1, 1) := by decide +kernel
theorem dX0_letWait_2 : decode cX0_letWait 2 = .ok (.invokevirtual 49, 3) := by decide +kernel
theorem dX0_letWait_5 : decode cX0_letWait 5 = .ok (.iconst (-1), 1) := by decide +kernel
theorem dX0_letWait_6 : decode cX0_letWait 6 = .ok (.if_icmp .ne 12, 3) := by decide +kernel
theorem dX0_letWait_9 : decode cX0_letWait 9 = .ok (.aload_n 0, 1) := by decide +kernel
theorem dX0_letWait_10 : decode cX0_letWait 10 = .ok (.getfield 46, 3) := by decide +kernel
theorem dX0_letWait_13 : decode cX0_letWait 13 = .ok (.bipush 10, 2) := by decide +kernel
theorem dX0_letWait_15 : decode cX0_letWait 15 = .ok (.if_icmp .lt 4, 3) := by decide +kernel
theorem dX0_letWait_18 : decode cX0_letWait 18 = .ok (.return_, 1) := by decide +kernel
theorem dX0_letWait_19 : decode cX0_letWait 19 = .ok (.aload_n 0, 1) := by decide +kernel
theorem dX0_letWait_20 : decode cX0_letWait 20 = .ok (.getfield 15, 3) := by decide +kernel
theorem dX0_letWait_23 : decode cX0_letWait 23 = .ok (.aload_n 0, 1) := by decide +kernel
theorem dX0_letWait_24 : decode cX0_letWait 24 = .ok (.getfield 46, 3) := by decide +kernel
theorem dX0_letWait_27 : decode cX0_letWait 27 = .ok (.iload_n 1, 1) := by decide +kernel
theorem dX0_letWait_28 : decode cX0_letWait 28 = .ok (.iastore, 1) := by decide +kernel
theorem dX0_letWait_29 : decode cX0_letWait 29 = .ok (.aload_n 0, 1) := by decide +kernel
theorem dX0_letWait_30 : decode cX0_letWait 30 = .ok (.getfield 18, 3) := by decide +kernel
theorem dX0_letWait_33 : decode cX0_letWait 33 = .ok (.aload_n 0, 1) := by decide +kernel
theorem dX0_letWait_34 : decode cX0_letWait 34 = .ok (.getfield 46, 3) := by decide +kernel
theorem dX0_letWait_37 : decode cX0_letWait 37 = .ok (.iload_n 2, 1) := by decide +kernel
theorem dX0_letWait_38 : decode cX0_letWait 38 = .ok (.iastore, 1) := by decide +kernel
theorem dX0_letWait_39 : decode cX0_letWait 39 = .ok (.aload_n 0, 1) := by decide +kernel
theorem dX0_letWait_40 : decode cX0_letWait 40 = .ok (.dup, 1) := by decide +kernel
theorem dX0_letWait_41 : decode cX0_letWait 41 = .ok (.getfield 46, 3) := by decide +kernel
theorem dX0_letWait_44 : decode cX0_letWait 44 = .ok (.iconst 1, 1) := by decide +kernel
theorem dX0_letWait_45 : decode cX0_letWait 45 = .ok (.iadd, 1) := by decide +kernel
theorem dX0_letWait_46 : decode cX0_letWait 46 = .ok (.putfield 46, 3) := by decide +kernel
theorem dX0_letWait_49 : decode cX0_letWait 49 = .ok (.return_, 1) := by decide +kernel
theorem dX0_letWaitNoMore_0 : decode cX0_letWaitNoMore 0 = .ok (.aload_n 0, 1) := by decide +kernel
theorem dX0_letWaitNoMore_1 : decode cX0_letWaitNoMore 1 = .ok (.iload_n 1, 1) := by decide +kernel
theorem dX0_letWaitNoMore_2 : decode cX0_letWaitNoMore 2 = .ok (.invokevirtual 49, 3) := by decide +kernel
theorem dX0_letWaitNoMore_5 : decode cX0_letWaitNoMore 5 = .ok (.istore_n 2, 1) := by decide +kernel
theorem dX0_letWaitNoMore_6 : decode cX0_letWaitNoMore 6 = .ok (.iload_n 2, 1) := by decide +kernel
theorem dX0_letWaitNoMore_7 : decode cX0_letWaitNoMore 7 = .ok (.iconst (-1), 1) := by decide +kernel
theorem dX0_letWaitNoMore_8 : decode cX0_letWaitNoMore 8 = .ok (.if_icmp .ne 4, 3) := by decide +kernel
theorem dX0_letWaitNoMore_11 : decode cX0_letWaitNoMore 11 = .ok (.return_, 1) := by decide +kernel
theorem dX0_letWaitNoMore_12 : decode cX0_letWaitNoMore 12 = .ok (.aload_n 0, 1) := by decide +kernel
theorem dX0_letWaitNoMore_13 : decode cX0_letWaitNoMore 13 = .ok (.dup, 1) := by decide +kernel
theorem dX0_letWaitNoMore_14 : decode cX0_letWaitNoMore 14 = .ok (.getfield 46, 3) := by decide +kernel
theorem dX0_letWaitNoMore_17 : decode cX0_letWaitNoMore 17 = .ok (.iconst 1, 1) := by decide +kernel
theorem dX0_letWaitNoMore_18 : decode cX0_letWaitNoMore 18 = .ok (.isub, 1) := by decide +kernel
theorem dX0_letWaitNoMore_19 : decode cX0_letWaitNoMore 19 = .ok (.putfield 46, 3) := by decide +kernel
theorem dX0_letWaitNoMore_22 : decode cX0_letWaitNoMore 22 = .ok (.iload_n 2, 1) := by decide +kernel
theorem dX0_letWaitNoMore_23 : decode cX0_letWaitNoMore 23 = .ok (.istore_n 3, 1) := by decide +kernel
theorem dX0_letWaitNoMore_24 : decode cX0_letWaitNoMore 24 = .ok (.iload_n 3, 1) := by decide +kernel
theorem dX0_letWaitNoMore_25 : decode cX0_letWaitNoMore 25 = .ok (.aload_n 0, 1) := by decide +kernel
theorem dX0_letWaitNoMore_26 : decode cX0_letWaitNoMore 26 = .ok (.getfield 46, 3) := by decide +kernel
theorem dX0_letWaitNoMore_29 : decode cX0_letWaitNoMore 29 = .ok (.if_icmp .ge 37, 3) := by decide +kernel
theorem dX0_letWaitNoMore_32 : decode cX0_letWaitNoMore 32 = .ok (.aload_n 0, 1) := by decide +kernel
theorem dX0_letWaitNoMore_33 : decode cX0_letWaitNoMore 33 = .ok (.getfield 15, 3) := by decide +kernel
theorem dX0_letWaitNoMore_36 : decode cX0_letWaitNoMore 36 = .ok (.iload_n 3, 1) := by decide +kernel
theorem dX0_letWaitNoMore_37 : decode cX0_letWaitNoMore 37 = .ok (.aload_n 0, 1) := by decide +kernel
theorem dX0_letWaitNoMore_38 : decode cX0_letWaitNoMore 38 = .ok (.getfield 15, 3) := by decide +kernel
theorem dX0_letWaitNoMore_41 : decode cX0_letWaitNoMore 41 = .ok (.iload_n 3, 1) := by decide +kernel
theorem dX0_letWaitNoMore_42 : decode cX0_letWaitNoMore 42 = .ok (.iconst 1, 1) := by decide +kernel
theorem dX0_letWaitNoMore_43 : decode cX0_letWaitNoMore 43 = .ok (.iadd, 1) := by decide +kernel
theorem dX0_letWaitNoMore_44 : decode cX0_letWaitNoMore 44 = .ok (.iaload, 1) := by decide +kernel
theorem dX0_letWaitNoMore_45 : decode cX0_letWaitNoMore 45 = .ok (.iastore, 1) := by decide +kernel
theorem dX0_letWaitNoMore_46 : decode cX0_letWaitNoMore 46 = .ok (.aload_n 0, 1) := by decide +kernel
theorem dX0_letWaitNoMore_47 : decode cX0_letWaitNoMore 47 = .ok (.getfield 18, 3) := by decide +kernel
theorem dX0_letWaitNoMore_50 : decode cX0_letWaitNoMore 50 = .ok (.iload_n 3, 1) := by decide +kernel
theorem dX0_letWaitNoMore_51 : decode cX0_letWaitNoMore 51 = .ok (.aload_n 0, 1) := by decide +kernel
theorem dX0_letWaitNoMore_52 : decode cX0_letWaitNoMore 52 = .ok (.getfield 18, 3) := by decide +kernel
theorem dX0_letWaitNoMore_55 : decode cX0_letWaitNoMore 55 = .ok (.iload_n 3, 1) := by decide +kernel
theorem dX0_letWaitNoMore_56 : decode cX0_letWaitNoMore 56 = .ok (.iconst 1, 1) := by decide +kernel
theorem dX0_letWaitNoMore_57 : decode cX0_letWaitNoMore 57 = .ok (.iadd, 1) := by decide +kernel
theorem dX0_letWaitNoMore_58 : decode cX0_letWaitNoMore 58 = .ok (.iaload, 1) := by decide +kernel
theorem dX0_letWaitNoMore_59 : decode cX0_letWaitNoMore 59 = .ok (.iastore, 1) := by decide +kernel
theorem dX0_letWaitNoMore_60 : decode cX0_letWaitNoMore 60 = .ok (.iinc 3 1, 3) := by decide +kernel
theorem dX0_letWaitNoMore_63 : decode cX0_letWaitNoMore 63 = .ok (.goto (-39), 3) := by decide +kernel
theorem dX0_letWaitNoMore_66 : decode cX0_letWaitNoMore 66 = .ok (.return_, 1) := by decide +kernel
theorem dX0_hasSeatedWaiter_0 : decode cX0_hasSeatedWaiter 0 = .ok (.iconst 0, 1) := by decide +kernel
theorem dX0_hasSeatedWaiter_1 : decode cX0_hasSeatedWaiter 1 = .ok (.istore_n 1, 1) := by decide +kernel
theorem dX0_hasSeatedWaiter_2 : decode cX0_hasSeatedWaiter 2 = .ok (.iload_n 1, 1) := by decide +kernel
theorem dX0_hasSeatedWaiter_3 : decode cX0_hasSeatedWaiter 3 = .ok (.aload_n 0, 1) := by decide +kernel
theorem dX0_hasSeatedWaiter_4 : decode cX0_hasSeatedWaiter 4 = .ok (.getfield 46, 3) := by decide +kernel
theorem dX0_hasSeatedWaiter_7 : decode cX0_hasSeatedWaiter 7 = .ok (.if_icmp .ge 24, 3) := by decide +kernel
theorem dX0_hasSeatedWaiter_10 : decode cX0_hasSeatedWaiter 10 = .ok (.aload_n 0, 1) := by decide +kernel
theorem dX0_hasSeatedWaiter_11 : decode cX0_hasSeatedWaiter 11 = .ok (.aload_n 0, 1) := by decide +kernel
theorem dX0_hasSeatedWaiter_12 : decode cX0_hasSeatedWaiter 12 = .ok (.getfield 15, 3) := by decide +kernel
theorem dX0_hasSeatedWaiter_15 : decode cX0_hasSeatedWaiter 15 = .ok (.iload_n 1, 1) := by decide +kernel
theorem dX0_hasSeatedWaiter_16 : decode cX0_hasSeatedWaiter 16 = .ok (.iaload, 1) := by decide +kernel
theorem dX0_hasSeatedWaiter_17 : decode cX0_hasSeatedWaiter 17 = .ok (.invokevirtual 38, 3) := by decide +kernel
theorem dX0_hasSeatedWaiter_20 : decode cX0_hasSeatedWaiter 20 = .ok (.ifCond .eq 5, 3) := by decide +kernel
theorem dX0_hasSeatedWaiter_23 : decode cX0_hasSeatedWaiter 23 = .ok (.iconst 1, 1) := by decide +kernel
theorem dX0_hasSeatedWaiter_24 : decode cX0_hasSeatedWaiter 24 = .ok (.ireturn, 1) := by decide +kernel
theorem dX0_hasSeatedWaiter_25 : decode cX0_hasSeatedWaiter 25 = .ok (.iinc 1 1, 3) := by decide +kernel
theorem dX0_hasSeatedWaiter_28 : decode cX0_hasSeatedWaiter 28 = .ok (.goto (-26), 3) := by decide +kernel
theorem dX0_hasSeatedWaiter_31 : decode cX0_hasSeatedWaiter 31 = .ok (.iconst 0, 1) := by decide +kernel
theorem dX0_hasSeatedWaiter_32 : decode cX0_hasSeatedWaiter 32 = .ok (.ireturn, 1) := by decide +kernel
theorem dX1_init_0 : decode cX1_init 0 = .ok (.aload_n 0, 1) := by decide +kernel
theorem dX1_init_1 : decode cX1_init 1 = .ok (.invokespecial 3, 3) := by decide +kernel
theorem dX1_init_4 : decode cX1_init 4 = .ok (.aload_n 0, 1) := by decide +kernel
theorem dX1_init_5 : decode cX1_init 5 = .ok (.bipush 9, 2) := by decide +kernel
theorem dX1_init_7 : decode cX1_init 7 = .ok (.bipush 60, 2) := by decide +kernel
theorem dX1_init_9 : decode cX1_init 9 = .ok (.multianewarray 11 2, 4) := by decide +kernel
theorem dX1_init_13 : decode cX1_init 13 = .ok (.putfield 13, 3) := by decide +kernel
theorem dX1_init_16 : decode cX1_init 16 = .ok (.iconst 0, 1) := by decide +kernel
theorem dX1_init_17 : decode cX1_init 17 = .ok (.istore_n 1, 1) := by decide +kernel
theorem dX1_init_18 : decode cX1_init 18 = .ok (.iload_n 1, 1) := by decide +kernel
theorem dX1_init_19 : decode cX1_init 19 = .ok (.iconst 3, 1) := by decide +kernel
theorem dX1_init_20 : decode cX1_init 20 = .ok (.if_icmp .ge 36, 3) := by decide +kernel
theorem dX1_init_23 : decode cX1_init 23 = .ok (.iconst 0, 1) := by decide +kernel
theorem dX1_init_24 : decode cX1_init 24 = .ok (.istore_n 2, 1) := by decide +kernel
theorem dX1_init_25 : decode cX1_init 25 = .ok (.iload_n 2, 1) := by decide +kernel
theorem dX1_init_26 : decode cX1_init 26 = .ok (.bipush 60, 2) := by decide +kernel
theorem dX1_init_28 : decode cX1_init 28 = .ok (.if_icmp .ge 22, 3) := by decide +kernel
theorem dX1_init_31 : decode cX1_init 31 = .ok (.aload_n 0, 1) := by decide +kernel
theorem dX1_init_32 : decode cX1_init 32 = .ok (.getfield 13, 3) := by decide +kernel
theorem dX1_init_35 : decode cX1_init 35 = .ok (.iload_n 1, 1) := by decide +kernel
theorem dX1_init_36 : decode cX1_init 36 = .ok (.iconst 1, 1) := by decide +kernel
theorem dX1_init_37 : decode cX1_init 37 = .ok (.invokestatic 16, 3) := by decide +kernel
theorem dX1_init_40 : decode cX1_init 40 = .ok (.aaload, 1) := by decide +kernel
theorem dX1_init_41 : decode cX1_init 41 = .ok (.iload_n 2, 1) := by decide +kernel
theorem dX1_init_42 : decode cX1_init 42 = .ok (.iconst (-1), 1) := by decide +kernel
theorem dX1_init_43 : decode cX1_init 43 = .ok (.iastore, 1) := by decide +kernel
theorem dX1_init_44 : decode cX1_init 44 = .ok (.iinc 2 1, 3) := by decide +kernel
theorem dX1_init_47 : decode cX1_init 47 = .ok (.goto (-22), 3) := by decide +kernel
theorem dX1_init_50 : decode cX1_init 50 = .ok (.iinc 1 1, 3) := by decide +kernel
theorem dX1_init_53 : decode cX1_init 53 = .ok (.goto (-35), 3) := by decide +kernel
theorem dX1_init_56 : decode cX1_init 56 = .ok (.aload_n 0, 1) := by decide +kernel
theorem dX1_init_57 : decode cX1_init 57 = .ok (.iconst 3, 1) := by decide +kernel
theorem dX1_init_58 : decode cX1_init 58 = .ok (.newarray .int, 2) := by decide +kernel
theorem dX1_init_60 : decode cX1_init 60 = .ok (.putfield 20, 3) := by decide +kernel
theorem dX1_init_63 : decode cX1_init 63 = .ok (.iconst 0, 1) := by decide +kernel
theorem dX1_init_64 : decode cX1_init 64 = .ok (.istore_n 1, 1) := by decide +kernel
theorem dX1_init_65 : decode cX1_init 65 = .ok (.iload_n 1, 1) := by decide +kernel
theorem dX1_init_66 : decode cX1_init 66 = .ok (.iconst 3, 1) := by decide +kernel
theorem dX1_init_67 : decode cX1_init 67 = .ok (.if_icmp .ge 16, 3) := by decide +kernel
theorem dX1_init_70 : decode cX1_init 70 = .ok (.aload_n 0, 1) := by decide +kernel
theorem dX1_init_71 : decode cX1_init 71 = .ok (.getfield 20, 3) := by decide +kernel
theorem dX1_init_74 : decode cX1_init 74 = .ok (.iload_n 1, 1) := by decide +kernel
theorem dX1_init_75 : decode cX1_init 75 = .ok (.iload_n 1, 1) := by decide +kernel
theorem dX1_init_76 : decode cX1_init 76 = .ok (.iastore, 1) := by decide +kernel
theorem dX1_init_77 : decode cX1_init 77 = .ok (.iinc 1 1, 3) := by decide +kernel
theorem dX1_init_80 : decode cX1_init 80 = .ok (.goto (-15), 3) := by decide +kernel
theorem dX1_init_83 : decode cX1_init 83 = .ok (.return_, 1) := by decide +kernel
theorem dX1_rowOf_0 : decode cX1_rowOf 0 = .ok (.iload_n 0, 1) := by decide +kernel
theorem dX1_rowOf_1 : decode cX1_rowOf 1 = .ok (.iconst 3, 1) := by decide +kernel
theorem dX1_rowOf_2 : decode cX1_rowOf 2 = .ok (.imul, 1) := by decide +kernel
theorem dX1_rowOf_3 : decode cX1_rowOf 3 = .ok (.iload_n 1, 1) := by decide +kernel
theorem dX1_rowOf_4 : decode cX1_rowOf 4 = .ok (.iadd, 1) := by decide +kernel
theorem dX1_rowOf_5 : decode cX1_rowOf 5 = .ok (.ireturn, 1) := by decide +kernel
theorem dX1_cellOf_0 : decode cX1_cellOf 0 = .ok (.iload_n 0, 1) := by decide +kernel
theorem dX1_cellOf_1 : decode cX1_cellOf 1 = .ok (.bipush 6, 2) := by decide +kernel
theorem dX1_cellOf_3 : decode cX1_cellOf 3 = .ok (.imul, 1) := by decide +kernel
theorem dX1_cellOf_4 : decode cX1_cellOf 4 = .ok (.iload_n 1, 1) := by decide +kernel
theorem dX1_cellOf_5 : decode cX1_cellOf 5 = .ok (.iadd, 1) := by decide +kernel
theorem dX1_cellOf_6 : decode cX1_cellOf 6 = .ok (.ireturn, 1) := by decide +kernel
theorem dX1_isInRange_0 : decode cX1_isInRange 0 = .ok (.iload_n 0, 1) := by decide +kernel
theorem dX1_isInRange_1 : decode cX1_isInRange 1 = .ok (.ifCond .ne 18, 3) := by decide +kernel
theorem dX1_isInRange_4 : decode cX1_isInRange 4 = .ok (.iload_n 1, 1) := by decide +kernel
theorem dX1_isInRange_5 : decode cX1_isInRange 5 = .ok (.ifCond .lt 12, 3) := by decide +kernel
theorem dX1_isInRange_8 : decode cX1_isInRange 8 = .ok (.iload_n 1, 1) := by decide +kernel
theorem dX1_isInRange_9 : decode cX1_isInRange 9 = .ok (.iconst 1, 1) := by decide +kernel
theorem dX1_isInRange_10 : decode cX1_isInRange 10 = .ok (.if_icmp .gt 7, 3) := by decide +kernel
theorem dX1_isInRange_13 : decode cX1_isInRange 13 = .ok (.iconst 1, 1) := by decide +kernel
theorem dX1_isInRange_14 : decode cX1_isInRange 14 = .ok (.goto 4, 3) := by decide +kernel
theorem dX1_isInRange_17 : decode cX1_isInRange 17 = .ok (.iconst 0, 1) := by decide +kernel
theorem dX1_isInRange_18 : decode cX1_isInRange 18 = .ok (.ireturn, 1) := by decide +kernel
theorem dX1_isInRange_19 : decode cX1_isInRange 19 = .ok (.iload_n 0, 1) := by decide +kernel
theorem dX1_isInRange_20 : decode cX1_isInRange 20 = .ok (.iconst 1, 1) := by decide +kernel
theorem dX1_isInRange_21 : decode cX1_isInRange 21 = .ok (.if_icmp .ne 20, 3) := by decide +kernel
theorem dX1_isInRange_24 : decode cX1_isInRange 24 = .ok (.iload_n 1, 1) := by decide +kernel
theorem dX1_isInRange_25 : decode cX1_isInRange 25 = .ok (.iconst (-1), 1) := by decide +kernel
theorem dX1_isInRange_26 : decode cX1_isInRange 26 = .ok (.if_icmp .lt 13, 3) := by decide +kernel
theorem dX1_isInRange_29 : decode cX1_isInRange 29 = .ok (.iload_n 1, 1) := by decide +kernel
theorem dX1_isInRange_30 : decode cX1_isInRange 30 = .ok (.bipush 100, 2) := by decide +kernel
theorem dX1_isInRange_32 : decode cX1_isInRange 32 = .ok (.if_icmp .gt 7, 3) := by decide +kernel
theorem dX1_isInRange_35 : decode cX1_isInRange 35 = .ok (.iconst 1, 1) := by decide +kernel
theorem dX1_isInRange_36 : decode cX1_isInRange 36 = .ok (.goto 4, 3) := by decide +kernel
theorem dX1_isInRange_39 : decode cX1_isInRange 39 = .ok (.iconst 0, 1) := by decide +kernel
theorem dX1_isInRange_40 : decode cX1_isInRange 40 = .ok (.ireturn, 1) := by decide +kernel
theorem dX1_isInRange_41 : decode cX1_isInRange 41 = .ok (.iload_n 1, 1) := by decide +kernel
theorem dX1_isInRange_42 : decode cX1_isInRange 42 = .ok (.ifCond .lt 13, 3) := by decide +kernel
theorem dX1_isInRange_45 : decode cX1_isInRange 45 = .ok (.iload_n 1, 1) := by decide +kernel
theorem dX1_isInRange_46 : decode cX1_isInRange 46 = .ok (.bipush 60, 2) := by decide +kernel
theorem dX1_isInRange_48 : decode cX1_isInRange 48 = .ok (.if_icmp .gt 7, 3) := by decide +kernel
theorem dX1_isInRange_51 : decode cX1_isInRange 51 = .ok (.iconst 1, 1) := by decide +kernel
theorem dX1_isInRange_52 : decode cX1_isInRange 52 = .ok (.goto 4, 3) := by decide +kernel
theorem dX1_isInRange_55 : decode cX1_isInRange 55 = .ok (.iconst 0, 1) := by decide +kernel
theorem dX1_isInRange_56 : decode cX1_isInRange 56 = .ok (.ireturn, 1) := by decide +kernel
theorem dX1_valueIn_0 : decode cX1_valueIn 0 = .ok (.aload_n 0, 1) := by decide +kernel
theorem dX1_valueIn_1 : decode cX1_valueIn 1 = .ok (.getfield 13, 3) := by decide +kernel
theorem dX1_valueIn_4 : decode cX1_valueIn 4 = .ok (.iload_n 1, 1) := by decide +kernel
theorem dX1_valueIn_5 : decode cX1_valueIn 5 = .ok (.iload_n 2, 1) := by decide +kernel
theorem dX1_valueIn_6 : decode cX1_valueIn 6 = .ok (.invokestatic 16, 3) := by decide +kernel
theorem dX1_valueIn_9 : decode cX1_valueIn 9 = .ok (.aaload, 1) := by decide +kernel
theorem dX1_valueIn_10 : decode cX1_valueIn 10 = .ok (.iload_n 3, 1) := by decide +kernel
theorem dX1_valueIn_11 : decode cX1_valueIn 11 = .ok (.iload 4, 2) := by decide +kernel
theorem dX1_valueIn_13 : decode cX1_valueIn 13 = .ok (.invokestatic 24, 3) := by decide +kernel
theorem dX1_valueIn_16 : decode cX1_valueIn 16 = .ok (.iaload, 1) := by decide +kernel
theorem dX1_valueIn_17 : decode cX1_valueIn 17 = .ok (.ireturn, 1) := by decide +kernel
theorem dX1_valueByOwner_0 : decode cX1_valueByOwner 0 = .ok (.aload_n 0, 1) := by decide +kernel
theorem dX1_valueByOwner_1 : decode cX1_valueByOwner 1 = .ok (.aload_n 0, 1) := by decide +kernel
theorem dX1_valueByOwner_2 : decode cX1_valueByOwner 2 = .ok (.getfield 20, 3) := by decide +kernel
theorem dX1_valueByOwner_5 : decode cX1_valueByOwner 5 = .ok (.iload_n 1, 1) := by decide +kernel
theorem dX1_valueByOwner_6 : decode cX1_valueByOwner 6 = .ok (.iaload, 1) := by decide +kernel
theorem dX1_valueByOwner_7 : decode cX1_valueByOwner 7 = .ok (.iload_n 1, 1) := by decide +kernel
theorem dX1_valueByOwner_8 : decode cX1_valueByOwner 8 = .ok (.iload_n 2, 1) := by decide +kernel
theorem dX1_valueByOwner_9 : decode cX1_valueByOwner 9 = .ok (.iload_n 3, 1) := by decide +kernel
theorem dX1_valueByOwner_10 : decode cX1_valueByOwner 10 = .ok (.invokevirtual 27, 3) := by decide +kernel
theorem dX1_valueByOwner_13 : decode cX1_valueByOwner 13 = .ok (.ireturn, 1) := by decide +kernel
theorem dX1_put_0 : decode cX1_put 0 = .ok (.aload_n 0, 1) := by decide +kernel
theorem dX1_put_1 : decode cX1_put 1 = .ok (.getfield 13, 3) := by decide +kernel
theorem dX1_put_4 : decode cX1_put 4 = .ok (.iload_n 1, 1) := by decide +kernel
theorem dX1_put_5 : decode cX1_put 5 = .ok (.iload_n 2, 1) := by decide +kernel
theorem dX1_put_6 : decode cX1_put 6 = .ok (.invokestatic 16, 3) := by decide +kernel
theorem dX1_put_9 : decode cX1_put 9 = .ok (.aaload, 1) := by decide +kernel
theorem dX1_put_10 : decode cX1_put 10 = .ok (.iload_n 3, 1) := by decide +kernel
theorem dX1_put_11 : decode cX1_put 11 = .ok (.iload 4, 2) := by decide +kernel
theorem dX1_put_13 : decode cX1_put 13 = .ok (.invokestatic 24, 3) := by decide +kernel
theorem dX1_put_16 : decode cX1_put 16 = .ok (.iload 5, 2) := by decide +kernel
theorem dX1_put_18 : decode cX1_put 18 = .ok (.iastore, 1) := by decide +kernel
theorem dX1_put_19 : decode cX1_put 19 = .ok (.return_, 1) := by decide +kernel
theorem dX1_copyOwned_0 : decode cX1_copyOwned 0 = .ok (.iconst 0, 1) := by decide +kernel
theorem dX1_copyOwned_1 : decode cX1_copyOwned 1 = .ok (.istore_n 3, 1) := by decide +kernel
theorem dX1_copyOwned_2 : decode cX1_copyOwned 2 = .ok (.iconst 0, 1) := by decide +kernel
theorem dX1_copyOwned_3 : decode cX1_copyOwned 3 = .ok (.istore 4, 2) := by decide +kernel
theorem dX1_copyOwned_5 : decode cX1_copyOwned 5 = .ok (.iload 4, 2) := by decide +kernel
theorem dX1_copyOwned_7 : decode cX1_copyOwned 7 = .ok (.iconst 3, 1) := by decide +kernel
theorem dX1_copyOwned_8 : decode cX1_copyOwned 8 = .ok (.if_icmp .ge 48, 3) := by decide +kernel
theorem dX1_copyOwned_11 : decode cX1_copyOwned 11 = .ok (.aload_n 0, 1) := by decide +kernel
theorem dX1_copyOwned_12 : decode cX1_copyOwned 12 = .ok (.getfield 20, 3) := by decide +kernel
theorem dX1_copyOwned_15 : decode cX1_copyOwned 15 = .ok (.iload 4, 2) := by decide +kernel
theorem dX1_copyOwned_17 : decode cX1_copyOwned 17 = .ok (.iaload, 1) := by decide +kernel
theorem dX1_copyOwned_18 : decode cX1_copyOwned 18 = .ok (.iload_n 1, 1) := by decide +kernel
theorem dX1_copyOwned_19 : decode cX1_copyOwned 19 = .ok (.if_icmp .ne 31, 3) := by decide +kernel
theorem dX1_copyOwned_22 : decode cX1_copyOwned 22 = .ok (.iload_n 3, 1) := by decide +kernel
theorem dX1_copyOwned_23 : decode cX1_copyOwned 23 = .ok (.aload_n 0, 1) := by decide +kernel
theorem dX1_copyOwned_24 : decode cX1_copyOwned 24 = .ok (.getfield 13, 3) := by decide +kernel
theorem dX1_copyOwned_27 : decode cX1_copyOwned 27 = .ok (.iload_n 1, 1) := by decide +kernel
theorem dX1_copyOwned_28 : decode cX1_copyOwned 28 = .ok (.iload 4, 2) := by decide +kernel
theorem dX1_copyOwned_30 : decode cX1_copyOwned 30 = .ok (.invokestatic 16, 3) := by decide +kernel
theorem dX1_copyOwned_33 : decode cX1_copyOwned 33 = .ok (.aaload, 1) := by decide +kernel
theorem dX1_copyOwned_34 : decode cX1_copyOwned 34 = .ok (.aload_n 0, 1) := by decide +kernel
theorem dX1_copyOwned_35 : decode cX1_copyOwned 35 = .ok (.getfield 13, 3) := by decide +kernel
theorem dX1_copyOwned_38 : decode cX1_copyOwned 38 = .ok (.iload_n 2, 1) := by decide +kernel
theorem dX1_copyOwned_39 : decode cX1_copyOwned 39 = .ok (.iload 4, 2) := by decide +kernel
theorem dX1_copyOwned_41 : decode cX1_copyOwned 41 = .ok (.invokestatic 16, 3) := by decide +kernel
theorem dX1_copyOwned_44 : decode cX1_copyOwned 44 = .ok (.aaload, 1) := by decide +kernel
theorem dX1_copyOwned_45 : decode cX1_copyOwned 45 = .ok (.invokestatic 31, 3) := by decide +kernel
theorem dX1_copyOwned_48 : decode cX1_copyOwned 48 = .ok (.iadd, 1) := by decide +kernel
theorem dX1_copyOwned_49 : decode cX1_copyOwned 49 = .ok (.istore_n 3, 1) := by decide +kernel
theorem dX1_copyOwned_50 : decode cX1_copyOwned 50 = .ok (.iinc 4 1, 3) := by decide +kernel
theorem dX1_copyOwned_53 : decode cX1_copyOwned 53 = .ok (.goto (-48), 3) := by decide +kernel
theorem dX1_copyOwned_56 : decode cX1_copyOwned 56 = .ok (.iload_n 3, 1) := by decide +kernel
theorem dX1_copyOwned_57 : decode cX1_copyOwned 57 = .ok (.ireturn, 1) := by decide +kernel
theorem dX1_copyRow_0 : decode cX1_copyRow 0 = .ok (.iconst 0, 1) := by decide +kernel
theorem dX1_copyRow_1 : decode cX1_copyRow 1 = .ok (.istore_n 2, 1) := by decide +kernel
theorem dX1_copyRow_2 : decode cX1_copyRow 2 = .ok (.iconst 0, 1) := by decide +kernel
theorem dX1_copyRow_3 : decode cX1_copyRow 3 = .ok (.istore_n 3, 1) := by decide +kernel
theorem dX1_copyRow_4 : decode cX1_copyRow 4 = .ok (.iload_n 3, 1) := by decide +kernel
theorem dX1_copyRow_5 : decode cX1_copyRow 5 = .ok (.bipush 60, 2) := by decide +kernel
theorem dX1_copyRow_7 : decode cX1_copyRow 7 = .ok (.if_icmp .ge 27, 3) := by decide +kernel
theorem dX1_copyRow_10 : decode cX1_copyRow 10 = .ok (.aload_n 1, 1) := by decide +kernel
theorem dX1_copyRow_11 : decode cX1_copyRow 11 = .ok (.iload_n 3, 1) := by decide +kernel
theorem dX1_copyRow_12 : decode cX1_copyRow 12 = .ok (.iaload, 1) := by decide +kernel
theorem dX1_copyRow_13 : decode cX1_copyRow 13 = .ok (.aload_n 0, 1) := by decide +kernel
theorem dX1_copyRow_14 : decode cX1_copyRow 14 = .ok (.iload_n 3, 1) := by decide +kernel
theorem dX1_copyRow_15 : decode cX1_copyRow 15 = .ok (.iaload, 1) := by decide +kernel
theorem dX1_copyRow_16 : decode cX1_copyRow 16 = .ok (.if_icmp .eq 12, 3) := by decide +kernel
theorem dX1_copyRow_19 : decode cX1_copyRow 19 = .ok (.aload_n 1, 1) := by decide +kernel
theorem dX1_copyRow_20 : decode cX1_copyRow 20 = .ok (.iload_n 3, 1) := by decide +kernel
theorem dX1_copyRow_21 : decode cX1_copyRow 21 = .ok (.aload_n 0, 1) := by decide +kernel
theorem dX1_copyRow_22 : decode cX1_copyRow 22 = .ok (.iload_n 3, 1) := by decide +kernel
theorem dX1_copyRow_23 : decode cX1_copyRow 23 = .ok (.iaload, 1) := by decide +kernel
theorem dX1_copyRow_24 : decode cX1_copyRow 24 = .ok (.iastore, 1) := by decide +kernel
theorem dX1_copyRow_25 : decode cX1_copyRow 25 = .ok (.iinc 2 1, 3) := by decide +kernel
theorem dX1_copyRow_28 : decode cX1_copyRow 28 = .ok (.iinc 3 1, 3) := by decide +kernel
theorem dX1_copyRow_31 : decode cX1_copyRow 31 = .ok (.goto (-27), 3) := by decide +kernel
theorem dX1_copyRow_34 : decode cX1_copyRow 34 = .ok (.iload_n 2, 1) := by decide +kernel
theorem dX1_copyRow_35 : decode cX1_copyRow 35 = .ok (.ireturn, 1) := by decide +kernel
theorem dX1_areSame_0 : decode cX1_areSame 0 = .ok (.iconst 0, 1) := by decide +kernel
theorem dX1_areSame_1 : decode cX1_areSame 1 = .ok (.istore 4, 2) := by decide +kernel
theorem dX1_areSame_3 : decode cX1_areSame 3 = .ok (.iload 4, 2) := by decide +kernel
theorem dX1_areSame_5 : decode cX1_areSame 5 = .ok (.bipush 60, 2) := by decide +kernel
theorem dX1_areSame_7 : decode cX1_areSame 7 = .ok (.if_icmp .ge 40, 3) := by decide +kernel
theorem dX1_areSame_10 : decode cX1_areSame 10 = .ok (.aload_n 0, 1) := by decide +kernel
theorem dX1_areSame_11 : decode cX1_areSame 11 = .ok (.getfield 13, 3) := by decide +kernel
theorem dX1_areSame_14 : decode cX1_areSame 14 = .ok (.iload_n 2, 1) := by decide +kernel
theorem dX1_areSame_15 : decode cX1_areSame 15 = .ok (.iload_n 1, 1) := by decide +kernel
theorem dX1_areSame_16 : decode cX1_areSame 16 = .ok (.invokestatic 16, 3) := by decide +kernel
theorem dX1_areSame_19 : decode cX1_areSame 19 = .ok (.aaload, 1) := by decide +kernel
theorem dX1_areSame_20 : decode cX1_areSame 20 = .ok (.iload 4, 2) := by decide +kernel
theorem dX1_areSame_22 : decode cX1_areSame 22 = .ok (.iaload, 1) := by decide +kernel
theorem dX1_areSame_23 : decode cX1_areSame 23 = .ok (.aload_n 0, 1) := by decide +kernel
theorem dX1_areSame_24 : decode cX1_areSame 24 = .ok (.getfield 13, 3) := by decide +kernel
theorem dX1_areSame_27 : decode cX1_areSame 27 = .ok (.iload_n 3, 1) := by decide +kernel
theorem dX1_areSame_28 : decode cX1_areSame 28 = .ok (.iload_n 1, 1) := by decide +kernel
theorem dX1_areSame_29 : decode cX1_areSame 29 = .ok (.invokestatic 16, 3) := by decide +kernel
theorem dX1_areSame_32 : decode cX1_areSame 32 = .ok (.aaload, 1) := by decide +kernel
theorem dX1_areSame_33 : decode cX1_areSame 33 = .ok (.iload 4, 2) := by decide +kernel
theorem dX1_areSame_35 : decode cX1_areSame 35 = .ok (.iaload, 1) := by decide +kernel
theorem dX1_areSame_36 : decode cX1_areSame 36 = .ok (.if_icmp .eq 5, 3) := by decide +kernel
theorem dX1_areSame_39 : decode cX1_areSame 39 = .ok (.iconst 0, 1) := by decide +kernel
theorem dX1_areSame_40 : decode cX1_areSame 40 = .ok (.ireturn, 1) := by decide +kernel
theorem dX1_areSame_41 : decode cX1_areSame 41 = .ok (.iinc 4 1, 3) := by decide +kernel
theorem dX1_areSame_44 : decode cX1_areSame 44 = .ok (.goto (-41), 3) := by decide +kernel
theorem dX1_areSame_47 : decode cX1_areSame 47 = .ok (.iconst 1, 1) := by decide +kernel
theorem dX1_areSame_48 : decode cX1_areSame 48 = .ok (.ireturn, 1) := by decide +kernel
theorem dX1_isAgreed_0 : decode cX1_isAgreed 0 = .ok (.aload_n 0, 1) := by decide +kernel
theorem dX1_isAgreed_1 : decode cX1_isAgreed 1 = .ok (.getfield 13, 3) := by decide +kernel
theorem dX1_isAgreed_4 : decode cX1_isAgreed 4 = .ok (.iconst 0, 1) := by decide +kernel
theorem dX1_isAgreed_5 : decode cX1_isAgreed 5 = .ok (.iload_n 1, 1) := by decide +kernel
theorem dX1_isAgreed_6 : decode cX1_isAgreed 6 = .ok (.invokestatic 16, 3) := by decide +kernel
theorem dX1_isAgreed_9 : decode cX1_isAgreed 9 = .ok (.aaload, 1) := by decide +kernel
theorem dX1_isAgreed_10 : decode cX1_isAgreed 10 = .ok (.iload_n 2, 1) := by decide +kernel
theorem dX1_isAgreed_11 : decode cX1_isAgreed 11 = .ok (.iaload, 1) := by decide +kernel
theorem dX1_isAgreed_12 : decode cX1_isAgreed 12 = .ok (.istore_n 3, 1) := by decide +kernel
theorem dX1_isAgreed_13 : decode cX1_isAgreed 13 = .ok (.iconst 1, 1) := by decide +kernel
theorem dX1_isAgreed_14 : decode cX1_isAgreed 14 = .ok (.istore 4, 2) := by decide +kernel
theorem dX1_isAgreed_16 : decode cX1_isAgreed 16 = .ok (.iload 4, 2) := by decide +kernel
theorem dX1_isAgreed_18 : decode cX1_isAgreed 18 = .ok (.iconst 3, 1) := by decide +kernel
theorem dX1_isAgreed_19 : decode cX1_isAgreed 19 = .ok (.if_icmp .ge 28, 3) := by decide +kernel
theorem dX1_isAgreed_22 : decode cX1_isAgreed 22 = .ok (.aload_n 0, 1) := by decide +kernel
theorem dX1_isAgreed_23 : decode cX1_isAgreed 23 = .ok (.getfield 13, 3) := by decide +kernel
theorem dX1_isAgreed_26 : decode cX1_isAgreed 26 = .ok (.iload 4, 2) := by decide +kernel
theorem dX1_isAgreed_28 : decode cX1_isAgreed 28 = .ok (.iload_n 1, 1) := by decide +kernel
theorem dX1_isAgreed_29 : decode cX1_isAgreed 29 = .ok (.invokestatic 16, 3) := by decide +kernel
theorem dX1_isAgreed_32 : decode cX1_isAgreed 32 = .ok (.aaload, 1) := by decide +kernel
theorem dX1_isAgreed_33 : decode cX1_isAgreed 33 = .ok (.iload_n 2, 1) := by decide +kernel
theorem dX1_isAgreed_34 : decode cX1_isAgreed 34 = .ok (.iaload, 1) := by decide +kernel
theorem dX1_isAgreed_35 : decode cX1_isAgreed 35 = .ok (.iload_n 3, 1) := by decide +kernel
theorem dX1_isAgreed_36 : decode cX1_isAgreed 36 = .ok (.if_icmp .eq 5, 3) := by decide +kernel
theorem dX1_isAgreed_39 : decode cX1_isAgreed 39 = .ok (.iconst 0, 1) := by decide +kernel
theorem dX1_isAgreed_40 : decode cX1_isAgreed 40 = .ok (.ireturn, 1) := by decide +kernel
theorem dX1_isAgreed_41 : decode cX1_isAgreed 41 = .ok (.iinc 4 1, 3) := by decide +kernel
theorem dX1_isAgreed_44 : decode cX1_isAgreed 44 = .ok (.goto (-28), 3) := by decide +kernel
theorem dX1_isAgreed_47 : decode cX1_isAgreed 47 = .ok (.iconst 1, 1) := by decide +kernel
theorem dX1_isAgreed_48 : decode cX1_isAgreed 48 = .ok (.ireturn, 1) := by decide +kernel
theorem dX1_countApart_0 : decode cX1_countApart 0 = .ok (.iconst 0, 1) := by decide +kernel
theorem dX1_countApart_1 : decode cX1_countApart 1 = .ok (.istore_n 2, 1) := by decide +kernel
theorem dX1_countApart_2 : decode cX1_countApart 2 = .ok (.iconst 0, 1) := by decide +kernel
theorem dX1_countApart_3 : decode cX1_countApart 3 = .ok (.istore_n 3, 1) := by decide +kernel
theorem dX1_countApart_4 : decode cX1_countApart 4 = .ok (.iload_n 3, 1) := by decide +kernel
theorem dX1_countApart_5 : decode cX1_countApart 5 = .ok (.bipush 60, 2) := by decide +kernel
theorem dX1_countApart_7 : decode cX1_countApart 7 = .ok (.if_icmp .ge 21, 3) := by decide +kernel
theorem dX1_countApart_10 : decode cX1_countApart 10 = .ok (.aload_n 0, 1) := by decide +kernel
theorem dX1_countApart_11 : decode cX1_countApart 11 = .ok (.iload_n 1, 1) := by decide +kernel
theorem dX1_countApart_12 : decode cX1_countApart 12 = .ok (.iload_n 3, 1) := by decide +kernel
theorem dX1_countApart_13 : decode cX1_countApart 13 = .ok (.invokevirtual 35, 3) := by decide +kernel
theorem dX1_countApart_16 : decode cX1_countApart 16 = .ok (.ifCond .ne 6, 3) := by decide +kernel
theorem dX1_countApart_19 : decode cX1_countApart 19 = .ok (.iinc 2 1, 3) := by decide +kernel
theorem dX1_countApart_22 : decode cX1_countApart 22 = .ok (.iinc 3 1, 3) := by decide +kernel
theorem dX1_countApart_25 : decode cX1_countApart 25 = .ok (.goto (-21), 3) := by decide +kernel
theorem dX1_countApart_28 : decode cX1_countApart 28 = .ok (.iload_n 2, 1) := by decide +kernel
theorem dX1_countApart_29 : decode cX1_countApart 29 = .ok (.ireturn, 1) := by decide +kernel
theorem dX1_isRightGiven_0 : decode cX1_isRightGiven 0 = .ok (.iload_n 1, 1) := by decide +kernel
theorem dX1_isRightGiven_1 : decode cX1_isRightGiven 1 = .ok (.iload_n 2, 1) := by decide +kernel
theorem dX1_isRightGiven_2 : decode cX1_isRightGiven 2 = .ok (.invokestatic 24, 3) := by decide +kernel
theorem dX1_isRightGiven_5 : decode cX1_isRightGiven 5 = .ok (.istore_n 3, 1) := by decide +kernel
theorem dX1_isRightGiven_6 : decode cX1_isRightGiven 6 = .ok (.aload_n 0, 1) := by decide +kernel
theorem dX1_isRightGiven_7 : decode cX1_isRightGiven 7 = .ok (.iconst 0, 1) := by decide +kernel
theorem dX1_isRightGiven_8 : decode cX1_isRightGiven 8 = .ok (.iload_n 3, 1) := by decide +kernel
theorem dX1_isRightGiven_9 : decode cX1_isRightGiven 9 = .ok (.invokevirtual 35, 3) := by decide +kernel
theorem dX1_isRightGiven_12 : decode cX1_isRightGiven 12 = .ok (.ifCond .eq 28, 3) := by decide +kernel
theorem dX1_isRightGiven_15 : decode cX1_isRightGiven 15 = .ok (.aload_n 0, 1) := by decide +kernel
theorem dX1_isRightGiven_16 : decode cX1_isRightGiven 16 = .ok (.getfield 13, 3) := by decide +kernel
theorem dX1_isRightGiven_19 : decode cX1_isRightGiven 19 = .ok (.aload_n 0, 1) := by decide +kernel
theorem dX1_isRightGiven_20 : decode cX1_isRightGiven 20 = .ok (.getfield 20, 3) := by decide +kernel
theorem dX1_isRightGiven_23 : decode cX1_isRightGiven 23 = .ok (.iconst 0, 1) := by decide +kernel
theorem dX1_isRightGiven_24 : decode cX1_isRightGiven 24 = .ok (.iaload, 1) := by decide +kernel
theorem dX1_isRightGiven_25 : decode cX1_isRightGiven 25 = .ok (.iconst 0, 1) := by decide +kernel
theorem dX1_isRightGiven_26 : decode cX1_isRightGiven 26 = .ok (.invokestatic 16, 3) := by decide +kernel
theorem dX1_isRightGiven_29 : decode cX1_isRightGiven 29 = .ok (.aaload, 1) := by decide +kernel
theorem dX1_isRightGiven_30 : decode cX1_isRightGiven 30 = .ok (.iload_n 3, 1) := by decide +kernel
theorem dX1_isRightGiven_31 : decode cX1_isRightGiven 31 = .ok (.iaload, 1) := by decide +kernel
theorem dX1_isRightGiven_32 : decode cX1_isRightGiven 32 = .ok (.iconst 1, 1) := by decide +kernel
theorem dX1_isRightGiven_33 : decode cX1_isRightGiven 33 = .ok (.if_icmp .ne 7, 3) := by decide +kernel
theorem dX1_isRightGiven_36 : decode cX1_isRightGiven 36 = .ok (.iconst 1, 1) := by decide +kernel
theorem dX1_isRightGiven_37 : decode cX1_isRightGiven 37 = .ok (.goto 4, 3) := by decide +kernel
theorem dX1_isRightGiven_40 : decode cX1_isRightGiven 40 = .ok (.iconst 0, 1) := by decide +kernel
theorem dX1_isRightGiven_41 : decode cX1_isRightGiven 41 = .ok (.ireturn, 1) := by decide +kernel
theorem dX1_isResitOpen_0 : decode cX1_isResitOpen 0 = .ok (.iload_n 1, 1) := by decide +kernel
theorem dX1_isResitOpen_1 : decode cX1_isResitOpen 1 = .ok (.iload_n 2, 1) := by decide +kernel
theorem dX1_isResitOpen_2 : decode cX1_isResitOpen 2 = .ok (.invokestatic 24, 3) := by decide +kernel
theorem dX1_isResitOpen_5 : decode cX1_isResitOpen 5 = .ok (.istore_n 3, 1) := by decide +kernel
theorem dX1_isResitOpen_6 : decode cX1_isResitOpen 6 = .ok (.aload_n 0, 1) := by decide +kernel
theorem dX1_isResitOpen_7 : decode cX1_isResitOpen 7 = .ok (.getfield 13, 3) := by decide +kernel
theorem dX1_isResitOpen_10 : decode cX1_isResitOpen 10 = .ok (.aload_n 0, 1) := by decide +kernel
theorem dX1_isResitOpen_11 : decode cX1_isResitOpen 11 = .ok (.getfield 20, 3) := by decide +kernel
theorem dX1_isResitOpen_14 : decode cX1_isResitOpen 14 = .ok (.iconst 1, 1) := by decide +kernel
theorem dX1_isResitOpen_15 : decode cX1_isResitOpen 15 = .ok (.iaload, 1) := by decide +kernel
theorem dX1_isResitOpen_16 : decode cX1_isResitOpen 16 = .ok (.iconst 1, 1) := by decide +kernel
theorem dX1_isResitOpen_17 : decode cX1_isResitOpen 17 = .ok (.invokestatic 16, 3) := by decide +kernel
theorem dX1_isResitOpen_20 : decode cX1_isResitOpen 20 = .ok (.aaload, 1) := by decide +kernel
theorem dX1_isResitOpen_21 : decode cX1_isResitOpen 21 = .ok (.iload_n 3, 1) := by decide +kernel
theorem dX1_isResitOpen_22 : decode cX1_isResitOpen 22 = .ok (.iaload, 1) := by decide +kernel
theorem dX1_isResitOpen_23 : decode cX1_isResitOpen 23 = .ok (.istore 4, 2) := by decide +kernel
theorem dX1_isResitOpen_25 : decode cX1_isResitOpen 25 = .ok (.aload_n 0, 1) := by decide +kernel
theorem dX1_isResitOpen_26 : decode cX1_isResitOpen 26 = .ok (.iconst 1, 1) := by decide +kernel
theorem dX1_isResitOpen_27 : decode cX1_isResitOpen 27 = .ok (.iload_n 3, 1) := by decide +kernel
theorem dX1_isResitOpen_28 : decode cX1_isResitOpen 28 = .ok (.invokevirtual 35, 3) := by decide +kernel
theorem dX1_isResitOpen_31 : decode cX1_isResitOpen 31 = .ok (.ifCond .eq 19, 3) := by decide +kernel
theorem dX1_isResitOpen_34 : decode cX1_isResitOpen 34 = .ok (.iload 4, 2) := by decide +kernel
theorem dX1_isResitOpen_36 : decode cX1_isResitOpen 36 = .ok (.ifCond .lt 14, 3) := by decide +kernel
theorem dX1_isResitOpen_39 : decode cX1_isResitOpen 39 = .ok (.iload 4, 2) := by decide +kernel
theorem dX1_isResitOpen_41 : decode cX1_isResitOpen 41 = .ok (.bipush 49, 2) := by decide +kernel
theorem dX1_isResitOpen_43 : decode cX1_isResitOpen 43 = .ok (.if_icmp .gt 7, 3) := by decide +kernel
theorem dX1_isResitOpen_46 : decode cX1_isResitOpen 46 = .ok (.iconst 1, 1) := by decide +kernel
theorem dX1_isResitOpen_47 : decode cX1_isResitOpen 47 = .ok (.goto 4, 3) := by decide +kernel
theorem dX1_isResitOpen_50 : decode cX1_isResitOpen 50 = .ok (.iconst 0, 1) := by decide +kernel
theorem dX1_isResitOpen_51 : decode cX1_isResitOpen 51 = .ok (.ireturn, 1) := by decide +kernel
theorem dX2_init_0 : decode cX2_init 0 = .ok (.aload_n 0, 1) := by decide +kernel
theorem dX2_init_1 : decode cX2_init 1 = .ok (.invokespecial 3, 3) := by decide +kernel
theorem dX2_init_4 : decode cX2_init 4 = .ok (.aload_n 0, 1) := by decide +kernel
theorem dX2_init_5 : decode cX2_init 5 = .ok (.bipush 120, 2) := by decide +kernel
theorem dX2_init_7 : decode cX2_init 7 = .ok (.newarray .int, 2) := by decide +kernel
theorem dX2_init_9 : decode cX2_init 9 = .ok (.putfield 11, 3) := by decide +kernel
theorem dX2_init_12 : decode cX2_init 12 = .ok (.aload_n 0, 1) := by decide +kernel
theorem dX2_init_13 : decode cX2_init 13 = .ok (.bipush 120, 2) := by decide +kernel
theorem dX2_init_15 : decode cX2_init 15 = .ok (.newarray .int, 2) := by decide +kernel
theorem dX2_init_17 : decode cX2_init 17 = .ok (.putfield 15, 3) := by decide +kernel
theorem dX2_init_20 : decode cX2_init 20 = .ok (.aload_n 0, 1) := by decide +kernel
theorem dX2_init_21 : decode cX2_init 21 = .ok (.bipush 120, 2) := by decide +kernel
theorem dX2_init_23 : decode cX2_init 23 = .ok (.newarray .int, 2) := by decide +kernel
theorem dX2_init_25 : decode cX2_init 25 = .ok (.putfield 18, 3) := by decide +kernel
theorem dX2_init_28 : decode cX2_init 28 = .ok (.return_, 1) := by decide +kernel
theorem dX2_placeOf_0 : decode cX2_placeOf 0 = .ok (.iconst 0, 1) := by decide +kernel
theorem dX2_placeOf_1 : decode cX2_placeOf 1 = .ok (.istore_n 3, 1) := by decide +kernel
theorem dX2_placeOf_2 : decode cX2_placeOf 2 = .ok (.iload_n 3, 1) := by decide +kernel
theorem dX2_placeOf_3 : decode cX2_placeOf 3 = .ok (.aload_n 0, 1) := by decide +kernel
theorem dX2_placeOf_4 : decode cX2_placeOf 4 = .ok (.getfield 21, 3) := by decide +kernel
theorem dX2_placeOf_7 : decode cX2_placeOf 7 = .ok (.if_icmp .ge 31, 3) := by decide +kernel
theorem dX2_placeOf_10 : decode cX2_placeOf 10 = .ok (.aload_n 0, 1) := by decide +kernel
theorem dX2_placeOf_11 : decode cX2_placeOf 11 = .ok (.getfield 11, 3) := by decide +kernel
theorem dX2_placeOf_14 : decode cX2_placeOf 14 = .ok (.iload_n 3, 1) := by decide +kernel
theorem dX2_placeOf_15 : decode cX2_placeOf 15 = .ok (.iaload, 1) := by decide +kernel
theorem dX2_placeOf_16 : decode cX2_placeOf 16 = .ok (.iload_n 1, 1) := by decide +kernel
theorem dX2_placeOf_17 : decode cX2_placeOf 17 = .ok (.if_icmp .ne 15, 3) := by decide +kernel
theorem dX2_placeOf_20 : decode cX2_placeOf 20 = .ok (.aload_n 0, 1) := by decide +kernel
theorem dX2_placeOf_21 : decode cX2_placeOf 21 = .ok (.getfield 15, 3) := by decide +kernel
theorem dX2_placeOf_24 : decode cX2_placeOf 24 = .ok (.iload_n 3, 1) := by decide +kernel
theorem dX2_placeOf_25 : decode cX2_placeOf 25 = .ok (.iaload, 1) := by decide +kernel
theorem dX2_placeOf_26 : decode cX2_placeOf 26 = .ok (.iload_n 2, 1) := by decide +kernel
theorem dX2_placeOf_27 : decode cX2_placeOf 27 = .ok (.if_icmp .ne 5, 3) := by decide +kernel
theorem dX2_placeOf_30 : decode cX2_placeOf 30 = .ok (.iload_n 3, 1) := by decide +kernel
theorem dX2_placeOf_31 : decode cX2_placeOf 31 = .ok (.ireturn, 1) := by decide +kernel
theorem dX2_placeOf_32 : decode cX2_placeOf 32 = .ok (.iinc 3 1, 3) := by decide +kernel
theorem dX2_placeOf_35 : decode cX2_placeOf 35 = .ok (.goto (-33), 3) := by decide +kernel
theorem dX2_placeOf_38 : decode cX2_placeOf 38 = .ok (.iconst (-1), 1) := by decide +kernel
theorem dX2_placeOf_39 : decode cX2_placeOf 39 = .ok (.ireturn, 1) := by decide +kernel
theorem dX2_pointsBid_0 : decode cX2_pointsBid 0 = .ok (.aload_n 0, 1) := by decide +kernel
theorem dX2_pointsBid_1 : decode cX2_pointsBid 1 = .ok (.iload_n 1, 1) := by decide +kernel
theorem dX2_pointsBid_2 : decode cX2_pointsBid 2 = .ok (.iload_n 2, 1) := by decide +kernel
theorem dX2_pointsBid_3 : decode cX2_pointsBid 3 = .ok (.invokevirtual 25, 3) := by decide +kernel
theorem dX2_pointsBid_6 : decode cX2_pointsBid 6 = .ok (.istore_n 3, 1) := by decide +kernel
theorem dX2_pointsBid_7 : decode cX2_pointsBid 7 = .ok (.iload_n 3, 1) := by decide +kernel
theorem dX2_pointsBid_8 : decode cX2_pointsBid 8 = .ok (.iconst (-1), 1) := by decide +kernel
theorem dX2_pointsBid_9 : decode cX2_pointsBid 9 = .ok (.if_icmp .ne 7, 3) := by decide +kernel
theorem dX2_pointsBid_12 : decode cX2_pointsBid 12 = .ok (.iconst 0, 1) := by decide +kernel
theorem dX2_pointsBid_13 : decode cX2_pointsBid 13 = .ok (.goto 9, 3) := by decide +kernel
theorem dX2_pointsBid_16 : decode cX2_pointsBid 16 = .ok (.aload_n 0, 1) := by decide +kernel
theorem dX2_pointsBid_17 : decode cX2_pointsBid 17 = .ok (.getfield 18, 3) := by decide +kernel
theorem dX2_pointsBid_20 : decode cX2_pointsBid 20 = .ok (.iload_n 3, 1) := by decide +kernel
theorem dX2_pointsBid_21 : decode cX2_pointsBid 21 = .ok (.iaload, 1) := by decide +kernel
theorem dX2_pointsBid_22 : decode cX2_pointsBid 22 = .ok (.ireturn, 1) := by decide +kernel
theorem dX2_sumOf_0 : decode cX2_sumOf 0 = .ok (.iconst 0, 1) := by decide +kernel
theorem dX2_sumOf_1 : decode cX2_sumOf 1 = .ok (.istore_n 2, 1) := by decide +kernel
theorem dX2_sumOf_2 : decode cX2_sumOf 2 = .ok (.iconst 0, 1) := by decide +kernel
theorem dX2_sumOf_3 : decode cX2_sumOf 3 = .ok (.istore_n 3, 1) := by decide +kernel
theorem dX2_sumOf_4 : decode cX2_sumOf 4 = .ok (.iload_n 3, 1) := by decide +kernel
theorem dX2_sumOf_5 : decode cX2_sumOf 5 = .ok (.aload_n 0, 1) := by decide +kernel
theorem dX2_sumOf_6 : decode cX2_sumOf 6 = .ok (.getfield 21, 3) := by decide +kernel
theorem dX2_sumOf_9 : decode cX2_sumOf 9 = .ok (.if_icmp .ge 28, 3) := by decide +kernel
theorem dX2_sumOf_12 : decode cX2_sumOf 12 = .ok (.aload_n 0, 1) := by decide +kernel
theorem dX2_sumOf_13 : decode cX2_sumOf 13 = .ok (.getfield 11, 3) := by decide +kernel
theorem dX2_sumOf_16 : decode cX2_sumOf 16 = .ok (.iload_n 3, 1) := by decide +kernel
theorem dX2_sumOf_17 : decode cX2_sumOf 17 = .ok (.iaload, 1) := by decide +kernel
theorem dX2_sumOf_18 : decode cX2_sumOf 18 = .ok (.iload_n 1, 1) := by decide +kernel
theorem dX2_sumOf_19 : decode cX2_sumOf 19 = .ok (.if_icmp .ne 12, 3) := by decide +kernel
theorem dX2_sumOf_22 : decode cX2_sumOf 22 = .ok (.iload_n 2, 1) := by decide +kernel
theorem dX2_sumOf_23 : decode cX2_sumOf 23 = .ok (.aload_n 0, 1) := by decide +kernel
theorem dX2_sumOf_24 : decode cX2_sumOf 24 = .ok (.getfield 18, 3) := by decide +kernel
theorem dX2_sumOf_27 : decode cX2_sumOf 27 = .ok (.iload_n 3, 1) := by decide +kernel
theorem dX2_sumOf_28 : decode cX2_sumOf 28 = .ok (.iaload, 1) := by decide +kernel
theorem dX2_sumOf_29 : decode cX2_sumOf 29 = .ok (.iadd, 1) := by decide +kernel
theorem dX2_sumOf_30 : decode cX2_sumOf 30 = .ok (.istore_n 2, 1) := by decide +kernel
theorem dX2_sumOf_31 : decode cX2_sumOf 31 = .ok (.iinc 3 1, 3) := by decide +kernel
theorem dX2_sumOf_34 : decode cX2_sumOf 34 = .ok (.goto (-30), 3) := by decide +kernel
theorem dX2_sumOf_37 : decode cX2_sumOf 37 = .ok (.iload_n 2, 1) := by decide +kernel
theorem dX2_sumOf_38 : decode cX2_sumOf 38 = .ok (.ireturn, 1) := by decide +kernel
theorem dX2_tell_0 : decode cX2_tell 0 = .ok (.aload_n 0, 1) := by decide +kernel
theorem dX2_tell_1 : decode cX2_tell 1 = .ok (.getfield 21, 3) := by decide +kernel
theorem dX2_tell_4 : decode cX2_tell 4 = .ok (.bipush 120, 2) := by decide +kernel
theorem dX2_tell_6 : decode cX2_tell 6 = .ok (.if_icmp .lt 4, 3) := by decide +kernel
theorem dX2_tell_9 : decode cX2_tell 9 = .ok (.return_, 1) := by decide +kernel
theorem dX2_tell_10 : decode cX2_tell 10 = .ok (.aload_n 0, 1) := by decide +kernel
theorem dX2_tell_11 : decode cX2_tell 11 = .ok (.getfield 21, 3) := by decide +kernel
theorem dX2_tell_14 : decode cX2_tell 14 = .ok (.istore 4, 2) := by decide +kernel
theorem dX2_tell_16 : decode cX2_tell 16 = .ok (.iload 4, 2) := by decide +kernel
theorem dX2_tell_18 : decode cX2_tell 18 = .ok (.ifCond .le 70, 3) := by decide +kernel
theorem dX2_tell_21 : decode cX2_tell 21 = .ok (.aload_n 0, 1) := by decide +kernel
theorem dX2_tell_22 : decode cX2_tell 22 = .ok (.getfield 18, 3) := by decide +kernel
theorem dX2_tell_25 : decode cX2_tell 25 = .ok (.iload 4, 2) := by decide +kernel
theorem dX2_tell_27 : decode cX2_tell 27 = .ok (.iconst 1, 1) := by decide +kernel
theorem dX2_tell_28 : decode cX2_tell 28 = .ok (.isub, 1) := by decide +kernel
theorem dX2_tell_29 : decode cX2_tell 29 = .ok (.iaload, 1) := by decide +kernel
theorem dX2_tell_30 : decode cX2_tell 30 = .ok (.iload_n 3, 1) := by decide +kernel
theorem dX2_tell_31 : decode cX2_tell 31 = .ok (.if_icmp .ge 57, 3) := by decide +kernel
theorem dX2_tell_34 : decode cX2_tell 34 = .ok (.aload_n 0, 1) := by decide +kernel
theorem dX2_tell_35 : decode cX2_tell 35 = .ok (.getfield 11, 3) := by decide +kernel
theorem dX2_tell_38 : decode cX2_tell 38 = .ok (.iload 4, 2) := by decide +kernel
theorem dX2_tell_40 : decode cX2_tell 40 = .ok (.aload_n 0, 1) := by decide +kernel
theorem dX2_tell_41 : decode cX2_tell 41 = .ok (.getfield 11, 3) := by decide +kernel
theorem dX2_tell_44 : decode cX2_tell 44 = .ok (.iload 4, 2) := by decide +kernel
theorem dX2_tell_46 : decode cX2_tell 46 = .ok (.iconst 1, 1) := by decide +kernel
theorem dX2_tell_47 : decode cX2_tell 47 = .ok (.isub, 1) := by decide +kernel
theorem dX2_tell_48 : decode cX2_tell 48 = .ok (.iaload, 1) := by decide +kernel
theorem dX2_tell_49 : decode cX2_tell 49 = .ok (.iastore, 1) := by decide +kernel
theorem dX2_tell_50 : decode cX2_tell 50 = .ok (.aload_n 0, 1) := by decide +kernel
theorem dX2_tell_51 : decode cX2_tell 51 = .ok (.getfield 15, 3) := by decide +kernel
theorem dX2_tell_54 : decode cX2_tell 54 = .ok (.iload 4, 2) := by decide +kernel
theorem dX2_tell_56 : decode cX2_tell 56 = .ok (.aload_n 0, 1) := by decide +kernel
theorem dX2_tell_57 : decode cX2_tell 57 = .ok (.getfield 15, 3) := by decide +kernel
theorem dX2_tell_60 : decode cX2_tell 60 = .ok (.iload 4, 2) := by decide +kernel
theorem dX2_tell_62 : decode cX2_tell 62 = .ok (.iconst 1, 1) := by decide +kernel
theorem dX2_tell_63 : decode cX2_tell 63 = .ok (.isub, 1) := by decide +kernel
theorem dX2_tell_64 : decode cX2_tell 64 = .ok (.iaload, 1) := by decide +kernel
theorem dX2_tell_65 : decode cX2_tell 65 = .ok (.iastore, 1) := by decide +kernel
theorem dX2_tell_66 : decode cX2_tell 66 = .ok (.aload_n 0, 1) := by decide +kernel
theorem dX2_tell_67 : decode cX2_tell 67 = .ok (.getfield 18, 3) := by decide +kernel
theorem dX2_tell_70 : decode cX2_tell 70 = .ok (.iload 4, 2) := by decide +kernel
theorem dX2_tell_72 : decode cX2_tell 72 = .ok (.aload_n 0, 1) := by decide +kernel
theorem dX2_tell_73 : decode cX2_tell 73 = .ok (.getfield 18, 3) := by decide +kernel
theorem dX2_tell_76 : decode cX2_tell 76 = .ok (.iload 4, 2) := by decide +kernel
theorem dX2_tell_78 : decode cX2_tell 78 = .ok (.iconst 1, 1) := by decide +kernel
theorem dX2_tell_79 : decode cX2_tell 79 = .ok (.isub, 1) := by decide +kernel
theorem dX2_tell_80 : decode cX2_tell 80 = .ok (.iaload, 1) := by decide +kernel
theorem dX2_tell_81 : decode cX2_tell 81 = .ok (.iastore, 1) := by decide +kernel
theorem dX2_tell_82 : decode cX2_tell 82 = .ok (.iinc 4 (-1), 3) := by decide +kernel
theorem dX2_tell_85 : decode cX2_tell 85 = .ok (.goto (-69), 3) := by decide +kernel
theorem dX2_tell_88 : decode cX2_tell 88 = .ok (.aload_n 0, 1) := by decide +kernel
theorem dX2_tell_89 : decode cX2_tell 89 = .ok (.getfield 11, 3) := by decide +kernel
theorem dX2_tell_92 : decode cX2_tell 92 = .ok (.iload 4, 2) := by decide +kernel
theorem dX2_tell_94 : decode cX2_tell 94 = .ok (.iload_n 1, 1) := by decide +kernel
theorem dX2_tell_95 : decode cX2_tell 95 = .ok (.iastore, 1) := by decide +kernel
theorem dX2_tell_96 : decode cX2_tell 96 = .ok (.aload_n 0, 1) := by decide +kernel
theorem dX2_tell_97 : decode cX2_tell 97 = .ok (.getfield 15, 3) := by decide +kernel
theorem dX2_tell_100 : decode cX2_tell 100 = .ok (.iload 4, 2) := by decide +kernel
theorem dX2_tell_102 : decode cX2_tell 102 = .ok (.iload_n 2, 1) := by decide +kernel
theorem dX2_tell_103 : decode cX2_tell 103 = .ok (.iastore, 1) := by decide +kernel
theorem dX2_tell_104 : decode cX2_tell 104 = .ok (.aload_n 0, 1) := by decide +kernel
theorem dX2_tell_105 : decode cX2_tell 105 = .ok (.getfield 18, 3) := by decide +kernel
theorem dX2_tell_108 : decode cX2_tell 108 = .ok (.iload 4, 2) := by decide +kernel
theorem dX2_tell_110 : decode cX2_tell 110 = .ok (.iload_n 3, 1) := by decide +kernel
theorem dX2_tell_111 : decode cX2_tell 111 = .ok (.iastore, 1) := by decide +kernel
theorem dX2_tell_112 : decode cX2_tell 112 = .ok (.aload_n 0, 1) := by decide +kernel
theorem dX2_tell_113 : decode cX2_tell 113 = .ok (.dup, 1) := by decide +kernel
theorem dX2_tell_114 : decode cX2_tell 114 = .ok (.getfield 21, 3) := by decide +kernel
theorem dX2_tell_117 : decode cX2_tell 117 = .ok (.iconst 1, 1) := by decide +kernel
theorem dX2_tell_118 : decode cX2_tell 118 = .ok (.iadd, 1) := by decide +kernel
theorem dX2_tell_119 : decode cX2_tell 119 = .ok (.putfield 21, 3) := by decide +kernel
theorem dX2_tell_122 : decode cX2_tell 122 = .ok (.return_, 1) := by decide +kernel
theorem dX2_takeOut_0 : decode cX2_takeOut 0 = .ok (.aload_n 0, 1) := by decide +kernel
theorem dX2_takeOut_1 : decode cX2_takeOut 1 = .ok (.iload_n 1, 1) := by decide +kernel
theorem dX2_takeOut_2 : decode cX2_takeOut 2 = .ok (.iload_n 2, 1) := by decide +kernel
theorem dX2_takeOut_3 : decode cX2_takeOut 3 = .ok (.invokevirtual 25, 3) := by decide +kernel
theorem dX2_takeOut_6 : decode cX2_takeOut 6 = .ok (.istore_n 3, 1) := by decide +kernel
theorem dX2_takeOut_7 : decode cX2_takeOut 7 = .ok (.iload_n 3, 1) := by decide +kernel
theorem dX2_takeOut_8 : decode cX2_takeOut 8 = .ok (.iconst (-1), 1) := by decide +kernel
theorem dX2_takeOut_9 : decode cX2_takeOut 9 = .ok (.if_icmp .ne 4, 3) := by decide +kernel
theorem dX2_takeOut_12 : decode cX2_takeOut 12 = .ok (.return_, 1) := by decide +kernel
theorem dX2_takeOut_13 : decode cX2_takeOut 13 = .ok (.aload_n 0, 1) := by decide +kernel
theorem dX2_takeOut_14 : decode cX2_takeOut 14 = .ok (.dup, 1) := by decide +kernel
theorem dX2_takeOut_15 : decode cX2_takeOut 15 = .ok (.getfield 21, 3) := by decide +kernel
theorem dX2_takeOut_18 : decode cX2_takeOut 18 = .ok (.iconst 1, 1) := by decide +kernel
theorem dX2_takeOut_19 : decode cX2_takeOut 19 = .ok (.isub, 1) := by decide +kernel
theorem dX2_takeOut_20 : decode cX2_takeOut 20 = .ok (.putfield 21, 3) := by decide +kernel
theorem dX2_takeOut_23 : decode cX2_takeOut 23 = .ok (.iload_n 3, 1) := by decide +kernel
theorem dX2_takeOut_24 : decode cX2_takeOut 24 = .ok (.istore 4, 2) := by decide +kernel
theorem dX2_takeOut_26 : decode cX2_takeOut 26 = .ok (.iload 4, 2) := by decide +kernel
theorem dX2_takeOut_28 : decode cX2_takeOut 28 = .ok (.aload_n 0, 1) := by decide +kernel
theorem dX2_takeOut_29 : decode cX2_takeOut 29 = .ok (.getfield 21, 3) := by decide +kernel
theorem dX2_takeOut_32 : decode cX2_takeOut 32 = .ok (.if_icmp .ge 57, 3) := by decide +kernel
theorem dX2_takeOut_35 : decode cX2_takeOut 35 = .ok (.aload_n 0, 1) := by decide +kernel
theorem dX2_takeOut_36 : decode cX2_takeOut 36 = .ok (.getfield 11, 3) := by decide +kernel
theorem dX2_takeOut_39 : decode cX2_takeOut 39 = .ok (.iload 4, 2) := by decide +kernel
theorem dX2_takeOut_41 : decode cX2_takeOut 41 = .ok (.aload_n 0, 1) := by decide +kernel
theorem dX2_takeOut_42 : decode cX2_takeOut 42 = .ok (.getfield 11, 3) := by decide +kernel
theorem dX2_takeOut_45 : decode cX2_takeOut 45 = .ok (.iload 4, 2) := by decide +kernel
theorem dX2_takeOut_47 : decode cX2_takeOut 47 = .ok (.iconst 1, 1) := by decide +kernel
theorem dX2_takeOut_48 : decode cX2_takeOut 48 = .ok (.iadd, 1) := by decide +kernel
theorem dX2_takeOut_49 : decode cX2_takeOut 49 = .ok (.iaload, 1) := by decide +kernel
theorem dX2_takeOut_50 : decode cX2_takeOut 50 = .ok (.iastore, 1) := by decide +kernel
theorem dX2_takeOut_51 : decode cX2_takeOut 51 = .ok (.aload_n 0, 1) := by decide +kernel
theorem dX2_takeOut_52 : decode cX2_takeOut 52 = .ok (.getfield 15, 3) := by decide +kernel
theorem dX2_takeOut_55 : decode cX2_takeOut 55 = .ok (.iload 4, 2) := by decide +kernel
theorem dX2_takeOut_57 : decode cX2_takeOut 57 = .ok (.aload_n 0, 1) := by decide +kernel
theorem dX2_takeOut_58 : decode cX2_takeOut 58 = .ok (.getfield 15, 3) := by decide +kernel
theorem dX2_takeOut_61 : decode cX2_takeOut 61 = .ok (.iload 4, 2) := by decide +kernel
theorem dX2_takeOut_63 : decode cX2_takeOut 63 = .ok (.iconst 1, 1) := by decide +kernel
theorem dX2_takeOut_64 : decode cX2_takeOut 64 = .ok (.iadd, 1) := by decide +kernel
theorem dX2_takeOut_65 : decode cX2_takeOut 65 = .ok (.iaload, 1) := by decide +kernel
theorem dX2_takeOut_66 : decode cX2_takeOut 66 = .ok (.iastore, 1) := by decide +kernel
theorem dX2_takeOut_67 : decode cX2_takeOut 67 = .ok (.aload_n 0, 1) := by decide +kernel
theorem dX2_takeOut_68 : decode cX2_takeOut 68 = .ok (.getfield 18, 3) := by decide +kernel
theorem dX2_takeOut_71 : decode cX2_takeOut 71 = .ok (.iload 4, 2) := by decide +kernel
theorem dX2_takeOut_73 : decode cX2_takeOut 73 = .ok (.aload_n 0, 1) := by decide +kernel
theorem dX2_takeOut_74 : decode cX2_takeOut 74 = .ok (.getfield 18, 3) := by decide +kernel
theorem dX2_takeOut_77 : decode cX2_takeOut 77 = .ok (.iload 4, 2) := by decide +kernel
theorem dX2_takeOut_79 : decode cX2_takeOut 79 = .ok (.iconst 1, 1) := by decide +kernel
theorem dX2_takeOut_80 : decode cX2_takeOut 80 = .ok (.iadd, 1) := by decide +kernel
theorem dX2_takeOut_81 : decode cX2_takeOut 81 = .ok (.iaload, 1) := by decide +kernel
theorem dX2_takeOut_82 : decode cX2_takeOut 82 = .ok (.iastore, 1) := by decide +kernel
theorem dX2_takeOut_83 : decode cX2_takeOut 83 = .ok (.iinc 4 1, 3) := by decide +kernel
theorem dX2_takeOut_86 : decode cX2_takeOut 86 = .ok (.goto (-60), 3) := by decide +kernel
theorem dX2_takeOut_89 : decode cX2_takeOut 89 = .ok (.return_, 1) := by decide +kernel
theorem dX3_init_0 : decode cX3_init 0 = .ok (.aload_n 0, 1) := by decide +kernel
theorem dX3_init_1 : decode cX3_init 1 = .ok (.invokespecial 1, 3) := by decide +kernel
theorem dX3_init_4 : decode cX3_init 4 = .ok (.aload_n 0, 1) := by decide +kernel
theorem dX3_init_5 : decode cX3_init 5 = .ok (.new 7, 3) := by decide +kernel
theorem dX3_init_8 : decode cX3_init 8 = .ok (.dup, 1) := by decide +kernel
theorem dX3_init_9 : decode cX3_init 9 = .ok (.invokespecial 9, 3) := by decide +kernel
theorem dX3_init_12 : decode cX3_init 12 = .ok (.putfield 10, 3) := by decide +kernel
theorem dX3_init_15 : decode cX3_init 15 = .ok (.aload_n 0, 1) := by decide +kernel
theorem dX3_init_16 : decode cX3_init 16 = .ok (.new 16, 3) := by decide +kernel
theorem dX3_init_19 : decode cX3_init 19 = .ok (.dup, 1) := by decide +kernel
theorem dX3_init_20 : decode cX3_init 20 = .ok (.invokespecial 18, 3) := by decide +kernel
theorem dX3_init_23 : decode cX3_init 23 = .ok (.putfield 19, 3) := by decide +kernel
theorem dX3_init_26 : decode cX3_init 26 = .ok (.aload_n 0, 1) := by decide +kernel
theorem dX3_init_27 : decode cX3_init 27 = .ok (.bipush 12, 2) := by decide +kernel
theorem dX3_init_29 : decode cX3_init 29 = .ok (.anewarray 23, 3) := by decide +kernel
theorem dX3_init_32 : decode cX3_init 32 = .ok (.putfield 25, 3) := by decide +kernel
theorem dX3_init_35 : decode cX3_init 35 = .ok (.iconst 0, 1) := by decide +kernel
theorem dX3_init_36 : decode cX3_init 36 = .ok (.istore_n 1, 1) := by decide +kernel
theorem dX3_init_37 : decode cX3_init 37 = .ok (.iload_n 1, 1) := by decide +kernel
theorem dX3_init_38 : decode cX3_init 38 = .ok (.bipush 12, 2) := by decide +kernel
theorem dX3_init_40 : decode cX3_init 40 = .ok (.if_icmp .ge 22, 3) := by decide +kernel
theorem dX3_init_43 : decode cX3_init 43 = .ok (.aload_n 0, 1) := by decide +kernel
theorem dX3_init_44 : decode cX3_init 44 = .ok (.getfield 25, 3) := by decide +kernel
theorem dX3_init_47 : decode cX3_init 47 = .ok (.iload_n 1, 1) := by decide +kernel
theorem dX3_init_48 : decode cX3_init 48 = .ok (.new 23, 3) := by decide +kernel
theorem dX3_init_51 : decode cX3_init 51 = .ok (.dup, 1) := by decide +kernel
theorem dX3_init_52 : decode cX3_init 52 = .ok (.invokespecial 29, 3) := by decide +kernel
theorem dX3_init_55 : decode cX3_init 55 = .ok (.aastore, 1) := by decide +kernel
theorem dX3_init_56 : decode cX3_init 56 = .ok (.iinc 1 1, 3) := by decide +kernel
theorem dX3_init_59 : decode cX3_init 59 = .ok (.goto (-22), 3) := by decide +kernel
theorem dX3_init_62 : decode cX3_init 62 = .ok (.aload_n 0, 1) := by decide +kernel
theorem dX3_init_63 : decode cX3_init 63 = .ok (.iconst 3, 1) := by decide +kernel
theorem dX3_init_64 : decode cX3_init 64 = .ok (.newarray .int, 2) := by decide +kernel
theorem dX3_init_66 : decode cX3_init 66 = .ok (.putfield 30, 3) := by decide +kernel
theorem dX3_init_69 : decode cX3_init 69 = .ok (.aload_n 0, 1) := by decide +kernel
theorem dX3_init_70 : decode cX3_init 70 = .ok (.bipush 10, 2) := by decide +kernel
theorem dX3_init_72 : decode cX3_init 72 = .ok (.newarray .int, 2) := by decide +kernel
theorem dX3_init_74 : decode cX3_init 74 = .ok (.putfield 34, 3) := by decide +kernel
theorem dX3_init_77 : decode cX3_init 77 = .ok (.aload_n 0, 1) := by decide +kernel
theorem dX3_init_78 : decode cX3_init 78 = .ok (.bipush 10, 2) := by decide +kernel
theorem dX3_init_80 : decode cX3_init 80 = .ok (.newarray .int, 2) := by decide +kernel
theorem dX3_init_82 : decode cX3_init 82 = .ok (.putfield 37, 3) := by decide +kernel
theorem dX3_init_85 : decode cX3_init 85 = .ok (.aload_n 0, 1) := by decide +kernel
theorem dX3_init_86 : decode cX3_init 86 = .ok (.bipush 6, 2) := by decide +kernel
theorem dX3_init_88 : decode cX3_init 88 = .ok (.newarray .boolean, 2) := by decide +kernel
theorem dX3_init_90 : decode cX3_init 90 = .ok (.putfield 40, 3) := by decide +kernel
theorem dX3_init_93 : decode cX3_init 93 = .ok (.return_, 1) := by decide +kernel
theorem dX3_room_0 : decode cX3_room 0 = .ok (.iload_n 1, 1) := by decide +kernel
theorem dX3_room_1 : decode cX3_room 1 = .ok (.iconst 1, 1) := by decide +kernel
theorem dX3_room_2 : decode cX3_room 2 = .ok (.if_icmp .lt 9, 3) := by decide +kernel
theorem dX3_room_5 : decode cX3_room 5 = .ok (.iload_n 1, 1) := by decide +kernel
theorem dX3_room_6 : decode cX3_room 6 = .ok (.bipush 6, 2) := by decide +kernel
theorem dX3_room_8 : decode cX3_room 8 = .ok (.if_icmp .le 13, 3) := by decide +kernel
theorem dX3_room_11 : decode cX3_room 11 = .ok (.new 44, 3) := by decide +kernel
theorem dX3_room_14 : decode cX3_room 14 = .ok (.dup, 1) := by decide +kernel
theorem dX3_room_15 : decode cX3_room 15 = .ok (.ldc 46, 2) := by decide +kernel
theorem dX3_room_17 : decode cX3_room 17 = .ok (.invokespecial 48, 3) := by decide +kernel
theorem dX3_room_20 : decode cX3_room 20 = .ok (.athrow, 1) := by decide +kernel
theorem dX3_room_21 : decode cX3_room 21 = .ok (.aload_n 0, 1) := by decide +kernel
theorem dX3_room_22 : decode cX3_room 22 = .ok (.getfield 51, 3) := by decide +kernel
theorem dX3_room_25 : decode cX3_room 25 = .ok (.iconst 3, 1) := by decide +kernel
theorem dX3_room_26 : decode cX3_room 26 = .ok (.if_icmp .lt 13, 3) := by decide +kernel
theorem dX3_room_29 : decode cX3_room 29 = .ok (.new 55, 3) := by decide +kernel
theorem dX3_room_32 : decode cX3_room 32 = .ok (.dup, 1) := by decide +kernel
theorem dX3_room_33 : decode cX3_room 33 = .ok (.ldc 57, 2) := by decide +kernel
theorem dX3_room_35 : decode cX3_room 35 = .ok (.invokespecial 59, 3) := by decide +kernel
theorem dX3_room_38 : decode cX3_room 38 = .ok (.athrow, 1) := by decide +kernel
theorem dX3_room_39 : decode cX3_room 39 = .ok (.aload_n 0, 1) := by decide +kernel
theorem dX3_room_40 : decode cX3_room 40 = .ok (.getfield 30, 3) := by decide +kernel
theorem dX3_room_43 : decode cX3_room 43 = .ok (.aload_n 0, 1) := by decide +kernel
theorem dX3_room_44 : decode cX3_room 44 = .ok (.getfield 51, 3) := by decide +kernel
theorem dX3_room_47 : decode cX3_room 47 = .ok (.iload_n 1, 1) := by decide +kernel
theorem dX3_room_48 : decode cX3_room 48 = .ok (.iastore, 1) := by decide +kernel
theorem dX3_room_49 : decode cX3_room 49 = .ok (.aload_n 0, 1) := by decide +kernel
theorem dX3_room_50 : decode cX3_room 50 = .ok (.dup, 1) := by decide +kernel
theorem dX3_room_51 : decode cX3_room 51 = .ok (.getfield 51, 3) := by decide +kernel
theorem dX3_room_54 : decode cX3_room 54 = .ok (.iconst 1, 1) := by decide +kernel
theorem dX3_room_55 : decode cX3_room 55 = .ok (.iadd, 1) := by decide +kernel
theorem dX3_room_56 : decode cX3_room 56 = .ok (.putfield 51, 3) := by decide +kernel
theorem dX3_room_59 : decode cX3_room 59 = .ok (.aload_n 0, 1) := by decide +kernel
theorem dX3_room_60 : decode cX3_room 60 = .ok (.getfield 51, 3) := by decide +kernel
theorem dX3_room_63 : decode cX3_room 63 = .ok (.iconst 1, 1) := by decide +kernel
theorem dX3_room_64 : decode cX3_room 64 = .ok (.isub, 1) := by decide +kernel
theorem dX3_room_65 : decode cX3_room 65 = .ok (.ireturn, 1) := by decide +kernel
theorem dX3_exam_0 : decode cX3_exam 0 = .ok (.aload_n 0, 1) := by decide +kernel
theorem dX3_exam_1 : decode cX3_exam 1 = .ok (.getfield 60, 3) := by decide +kernel
theorem dX3_exam_4 : decode cX3_exam 4 = .ok (.bipush 6, 2) := by decide +kernel
theorem dX3_exam_6 : decode cX3_exam 6 = .ok (.if_icmp .lt 13, 3) := by decide +kernel
theorem dX3_exam_9 : decode cX3_exam 9 = .ok (.new 55, 3) := by decide +kernel
theorem dX3_exam_12 : decode cX3_exam 12 = .ok (.dup, 1) := by decide +kernel
theorem dX3_exam_13 : decode cX3_exam 13 = .ok (.ldc 63, 2) := by decide +kernel
theorem dX3_exam_15 : decode cX3_exam 15 = .ok (.invokespecial 59, 3) := by decide +kernel
theorem dX3_exam_18 : decode cX3_exam 18 = .ok (.athrow, 1) := by decide +kernel
theorem dX3_exam_19 : decode cX3_exam 19 = .ok (.aload_n 0, 1) := by decide +kernel
theorem dX3_exam_20 : decode cX3_exam 20 = .ok (.dup, 1) := by decide +kernel
theorem dX3_exam_21 : decode cX3_exam 21 = .ok (.getfield 60, 3) := by decide +kernel
theorem dX3_exam_24 : decode cX3_exam 24 = .ok (.iconst 1, 1) := by decide +kernel
theorem dX3_exam_25 : decode cX3_exam 25 = .ok (.iadd, 1) := by decide +kernel
theorem dX3_exam_26 : decode cX3_exam 26 = .ok (.putfield 60, 3) := by decide +kernel
theorem dX3_exam_29 : decode cX3_exam 29 = .ok (.aload_n 0, 1) := by decide +kernel
theorem dX3_exam_30 : decode cX3_exam 30 = .ok (.getfield 60, 3) := by decide +kernel
theorem dX3_exam_33 : decode cX3_exam 33 = .ok (.iconst 1, 1) := by decide +kernel
theorem dX3_exam_34 : decode cX3_exam 34 = .ok (.isub, 1) := by decide +kernel
theorem dX3_exam_35 : decode cX3_exam 35 = .ok (.ireturn, 1) := by decide +kernel
theorem dX3_pupil_0 : decode cX3_pupil 0 = .ok (.aload_n 0, 1) := by decide +kernel
theorem dX3_pupil_1 : decode cX3_pupil 1 = .ok (.getfield 65, 3) := by decide +kernel
theorem dX3_pupil_4 : decode cX3_pupil 4 = .ok (.bipush 10, 2) := by decide +kernel
theorem dX3_pupil_6 : decode cX3_pupil 6 = .ok (.if_icmp .lt 13, 3) := by decide +kernel
theorem dX3_pupil_9 : decode cX3_pupil 9 = .ok (.new 55, 3) := by decide +kernel
theorem dX3_pupil_12 : decode cX3_pupil 12 = .ok (.dup, 1) := by decide +kernel
theorem dX3_pupil_13 : decode cX3_pupil 13 = .ok (.ldc 68, 2) := by decide +kernel
theorem dX3_pupil_15 : decode cX3_pupil 15 = .ok (.invokespecial 59, 3) := by decide +kernel
theorem dX3_pupil_18 : decode cX3_pupil 18 = .ok (.athrow, 1) := by decide +kernel
theorem dX3_pupil_19 : decode cX3_pupil 19 = .ok (.aload_n 0, 1) := by decide +kernel
theorem dX3_pupil_20 : decode cX3_pupil 20 = .ok (.getfield 34, 3) := by decide +kernel
theorem dX3_pupil_23 : decode cX3_pupil 23 = .ok (.aload_n 0, 1) := by decide +kernel
theorem dX3_pupil_24 : decode cX3_pupil 24 = .ok (.getfield 65, 3) := by decide +kernel
theorem dX3_pupil_27 : decode cX3_pupil 27 = .ok (.bipush 100, 2) := by decide +kernel
theorem dX3_pupil_29 : decode cX3_pupil 29 = .ok (.iastore, 1) := by decide +kernel
theorem dX3_pupil_30 : decode cX3_pupil 30 = .ok (.aload_n 0, 1) := by decide +kernel
theorem dX3_pupil_31 : decode cX3_pupil 31 = .ok (.dup, 1) := by decide +kernel
theorem dX3_pupil_32 : decode cX3_pupil 32 = .ok (.getfield 65, 3) := by decide +kernel
theorem dX3_pupil_35 : decode cX3_pupil 35 = .ok (.iconst 1, 1) := by decide +kernel
theorem dX3_pupil_36 : decode cX3_pupil 36 = .ok (.iadd, 1) := by decide +kernel
theorem dX3_pupil_37 : decode cX3_pupil 37 = .ok (.putfield 65, 3) := by decide +kernel
theorem dX3_pupil_40 : decode cX3_pupil 40 = .ok (.aload_n 0, 1) := by decide +kernel
theorem dX3_pupil_41 : decode cX3_pupil 41 = .ok (.getfield 65, 3) := by decide +kernel
theorem dX3_pupil_44 : decode cX3_pupil 44 = .ok (.iconst 1, 1) := by decide +kernel
theorem dX3_pupil_45 : decode cX3_pupil 45 = .ok (.isub, 1) := by decide +kernel
theorem dX3_pupil_46 : decode cX3_pupil 46 = .ok (.ireturn, 1) := by decide +kernel
theorem dX3_offer_0 : decode cX3_offer 0 = .ok (.aload_n 0, 1) := by decide +kernel
theorem dX3_offer_1 : decode cX3_offer 1 = .ok (.iload_n 1, 1) := by decide +kernel
theorem dX3_offer_2 : decode cX3_offer 2 = .ok (.invokevirtual 70, 3) := by decide +kernel
theorem dX3_offer_5 : decode cX3_offer 5 = .ok (.iload_n 3, 1) := by decide +kernel
theorem dX3_offer_6 : decode cX3_offer 6 = .ok (.ifCond .lt 11, 3) := by decide +kernel
theorem dX3_offer_9 : decode cX3_offer 9 = .ok (.iload_n 3, 1) := by decide +kernel
theorem dX3_offer_10 : decode cX3_offer 10 = .ok (.aload_n 0, 1) := by decide +kernel
theorem dX3_offer_11 : decode cX3_offer 11 = .ok (.getfield 51, 3) := by decide +kernel
theorem dX3_offer_14 : decode cX3_offer 14 = .ok (.if_icmp .lt 13, 3) := by decide +kernel
theorem dX3_offer_17 : decode cX3_offer 17 = .ok (.new 74, 3) := by decide +kernel
theorem dX3_offer_20 : decode cX3_offer 20 = .ok (.dup, 1) := by decide +kernel
theorem dX3_offer_21 : decode cX3_offer 21 = .ok (.ldc 76, 2) := by decide +kernel
theorem dX3_offer_23 : decode cX3_offer 23 = .ok (.invokespecial 78, 3) := by decide +kernel
theorem dX3_offer_26 : decode cX3_offer 26 = .ok (.athrow, 1) := by decide +kernel
theorem dX3_offer_27 : decode cX3_offer 27 = .ok (.iload_n 2, 1) := by decide +kernel
theorem dX3_offer_28 : decode cX3_offer 28 = .ok (.invokestatic 79, 3) := by decide +kernel
theorem dX3_offer_31 : decode cX3_offer 31 = .ok (.aload_n 0, 1) := by decide +kernel
theorem dX3_offer_32 : decode cX3_offer 32 = .ok (.getfield 40, 3) := by decide +kernel
theorem dX3_offer_35 : decode cX3_offer 35 = .ok (.iload_n 2, 1) := by decide +kernel
theorem dX3_offer_36 : decode cX3_offer 36 = .ok (.baload, 1) := by decide +kernel
theorem dX3_offer_37 : decode cX3_offer 37 = .ok (.ifCond .ne 12, 3) := by decide +kernel
theorem dX3_offer_40 : decode cX3_offer 40 = .ok (.aload_n 0, 1) := by decide +kernel
theorem dX3_offer_41 : decode cX3_offer 41 = .ok (.iload_n 3, 1) := by decide +kernel
theorem dX3_offer_42 : decode cX3_offer 42 = .ok (.iload_n 2, 1) := by decide +kernel
theorem dX3_offer_43 : decode cX3_offer 43 = .ok (.invokevirtual 82, 3) := by decide +kernel
theorem dX3_offer_46 : decode cX3_offer 46 = .ok (.ifCond .eq 13, 3) := by decide +kernel
theorem dX3_offer_49 : decode cX3_offer 49 = .ok (.new 86, 3) := by decide +kernel
theorem dX3_offer_52 : decode cX3_offer 52 = .ok (.dup, 1) := by decide +kernel
theorem dX3_offer_53 : decode cX3_offer 53 = .ok (.ldc 88, 2) := by decide +kernel
theorem dX3_offer_55 : decode cX3_offer 55 = .ok (.invokespecial 90, 3) := by decide +kernel
theorem dX3_offer_58 : decode cX3_offer 58 = .ok (.athrow, 1) := by decide +kernel
theorem dX3_offer_59 : decode cX3_offer 59 = .ok (.aload_n 0, 1) := by decide +kernel
theorem dX3_offer_60 : decode cX3_offer 60 = .ok (.getfield 91, 3) := by decide +kernel
theorem dX3_offer_63 : decode cX3_offer 63 = .ok (.bipush 12, 2) := by decide +kernel
theorem dX3_offer_65 : decode cX3_offer 65 = .ok (.if_icmp .lt 13, 3) := by decide +kernel
theorem dX3_offer_68 : decode cX3_offer 68 = .ok (.new 55, 3) := by decide +kernel
theorem dX3_offer_71 : decode cX3_offer 71 = .ok (.dup, 1) := by decide +kernel
theorem dX3_offer_72 : decode cX3_offer 72 = .ok (.ldc 94, 2) := by decide +kernel
theorem dX3_offer_74 : decode cX3_offer 74 = .ok (.invokespecial 59, 3) := by decide +kernel
theorem dX3_offer_77 : decode cX3_offer 77 = .ok (.athrow, 1) := by decide +kernel
theorem dX3_offer_78 : decode cX3_offer 78 = .ok (.aload_n 0, 1) := by decide +kernel
theorem dX3_offer_79 : decode cX3_offer 79 = .ok (.getfield 25, 3) := by decide +kernel
theorem dX3_offer_82 : decode cX3_offer 82 = .ok (.aload_n 0, 1) := by decide +kernel
theorem dX3_offer_83 : decode cX3_offer 83 = .ok (.getfield 91, 3) := by decide +kernel
theorem dX3_offer_86 : decode cX3_offer 86 = .ok (.aaload, 1) := by decide +kernel
theorem dX3_offer_87 : decode cX3_offer 87 = .ok (.iload_n 1, 1) := by decide +kernel
theorem dX3_offer_88 : decode cX3_offer 88 = .ok (.iload_n 2, 1) := by decide +kernel
theorem dX3_offer_89 : decode cX3_offer 89 = .ok (.iload_n 3, 1) := by decide +kernel
theorem dX3_offer_90 : decode cX3_offer 90 = .ok (.aload_n 0, 1) := by decide +kernel
theorem dX3_offer_91 : decode cX3_offer 91 = .ok (.getfield 30, 3) := by decide +kernel
theorem dX3_offer_94 : decode cX3_offer 94 = .ok (.iload_n 3, 1) := by decide +kernel
theorem dX3_offer_95 : decode cX3_offer 95 = .ok (.iaload, 1) := by decide +kernel
theorem dX3_offer_96 : decode cX3_offer 96 = .ok (.iload 4, 2) := by decide +kernel
theorem dX3_offer_98 : decode cX3_offer 98 = .ok (.invokevirtual 96, 3) := by decide +kernel
theorem dX3_offer_101 : decode cX3_offer 101 = .ok (.aload_n 0, 1) := by decide +kernel
theorem dX3_offer_102 : decode cX3_offer 102 = .ok (.dup, 1) := by decide +kernel
theorem dX3_offer_103 : decode cX3_offer 103 = .ok (.getfield 91, 3) := by decide +kernel
theorem dX3_offer_106 : decode cX3_offer 106 = .ok (.iconst 1, 1) := by decide +kernel
theorem dX3_offer_107 : decode cX3_offer 107 = .ok (.iadd, 1) := by decide +kernel
theorem dX3_offer_108 : decode cX3_offer 108 = .ok (.putfield 91, 3) := by decide +kernel
theorem dX3_offer_111 : decode cX3_offer 111 = .ok (.aload_n 0, 1) := by decide +kernel
theorem dX3_offer_112 : decode cX3_offer 112 = .ok (.getfield 91, 3) := by decide +kernel
theorem dX3_offer_115 : decode cX3_offer 115 = .ok (.iconst 1, 1) := by decide +kernel
theorem dX3_offer_116 : decode cX3_offer 116 = .ok (.isub, 1) := by decide +kernel
theorem dX3_offer_117 : decode cX3_offer 117 = .ok (.ireturn, 1) := by decide +kernel
theorem dX3_slotOf_0 : decode cX3_slotOf 0 = .ok (.aload_n 0, 1) := by decide +kernel
theorem dX3_slotOf_1 : decode cX3_slotOf 1 = .ok (.iload_n 1, 1) := by decide +kernel
theorem dX3_slotOf_2 : decode cX3_slotOf 2 = .ok (.invokevirtual 100, 3) := by decide +kernel
theorem dX3_slotOf_5 : decode cX3_slotOf 5 = .ok (.getfield 104, 3) := by decide +kernel
theorem dX3_slotOf_8 : decode cX3_slotOf 8 = .ok (.ireturn, 1) := by decide +kernel
theorem dX3_bid_0 : decode cX3_bid 0 = .ok (.aload_n 0, 1) := by decide +kernel
theorem dX3_bid_1 : decode cX3_bid 1 = .ok (.iload_n 1, 1) := by decide +kernel
theorem dX3_bid_2 : decode cX3_bid 2 = .ok (.invokevirtual 107, 3) := by decide +kernel
theorem dX3_bid_5 : decode cX3_bid 5 = .ok (.aload_n 0, 1) := by decide +kernel
theorem dX3_bid_6 : decode cX3_bid 6 = .ok (.iload_n 2, 1) := by decide +kernel
theorem dX3_bid_7 : decode cX3_bid 7 = .ok (.invokevirtual 100, 3) := by decide +kernel
theorem dX3_bid_10 : decode cX3_bid 10 = .ok (.astore 4, 2) := by decide +kernel
theorem dX3_bid_12 : decode cX3_bid 12 = .ok (.iload_n 3, 1) := by decide +kernel
theorem dX3_bid_13 : decode cX3_bid 13 = .ok (.iconst 1, 1) := by decide +kernel
theorem dX3_bid_14 : decode cX3_bid 14 = .ok (.if_icmp .lt 9, 3) := by decide +kernel
theorem dX3_bid_17 : decode cX3_bid 17 = .ok (.iload_n 3, 1) := by decide +kernel
theorem dX3_bid_18 : decode cX3_bid 18 = .ok (.bipush 100, 2) := by decide +kernel
theorem dX3_bid_20 : decode cX3_bid 20 = .ok (.if_icmp .le 13, 3) := by decide +kernel
theorem dX3_bid_23 : decode cX3_bid 23 = .ok (.new 44, 3) := by decide +kernel
theorem dX3_bid_26 : decode cX3_bid 26 = .ok (.dup, 1) := by decide +kernel
theorem dX3_bid_27 : decode cX3_bid 27 = .ok (.ldc 110, 2) := by decide +kernel
theorem dX3_bid_29 : decode cX3_bid 29 = .ok (.invokespecial 48, 3) := by decide +kernel
theorem dX3_bid_32 : decode cX3_bid 32 = .ok (.athrow, 1) := by decide +kernel
theorem dX3_bid_33 : decode cX3_bid 33 = .ok (.aload_n 0, 1) := by decide +kernel
theorem dX3_bid_34 : decode cX3_bid 34 = .ok (.getfield 19, 3) := by decide +kernel
theorem dX3_bid_37 : decode cX3_bid 37 = .ok (.iload_n 1, 1) := by decide +kernel
theorem dX3_bid_38 : decode cX3_bid 38 = .ok (.invokevirtual 112, 3) := by decide +kernel
theorem dX3_bid_41 : decode cX3_bid 41 = .ok (.aload_n 0, 1) := by decide +kernel
theorem dX3_bid_42 : decode cX3_bid 42 = .ok (.getfield 19, 3) := by decide +kernel
theorem dX3_bid_45 : decode cX3_bid 45 = .ok (.iload_n 1, 1) := by decide +kernel
theorem dX3_bid_46 : decode cX3_bid 46 = .ok (.iload_n 2, 1) := by decide +kernel
theorem dX3_bid_47 : decode cX3_bid 47 = .ok (.invokevirtual 116, 3) := by decide +kernel
theorem dX3_bid_50 : decode cX3_bid 50 = .ok (.isub, 1) := by decide +kernel
theorem dX3_bid_51 : decode cX3_bid 51 = .ok (.iload_n 3, 1) := by decide +kernel
theorem dX3_bid_52 : decode cX3_bid 52 = .ok (.iadd, 1) := by decide +kernel
theorem dX3_bid_53 : decode cX3_bid 53 = .ok (.istore 5, 2) := by decide +kernel
theorem dX3_bid_55 : decode cX3_bid 55 = .ok (.aload_n 0, 1) := by decide +kernel
theorem dX3_bid_56 : decode cX3_bid 56 = .ok (.aload 4, 2) := by decide +kernel
theorem dX3_bid_58 : decode cX3_bid 58 = .ok (.invokevirtual 120, 3) := by decide +kernel
theorem dX3_bid_61 : decode cX3_bid 61 = .ok (.ifCond .ne 14, 3) := by decide +kernel
theorem dX3_bid_64 : decode cX3_bid 64 = .ok (.iload 5, 2) := by decide +kernel
theorem dX3_bid_66 : decode cX3_bid 66 = .ok (.aload_n 0, 1) := by decide +kernel
theorem dX3_bid_67 : decode cX3_bid 67 = .ok (.getfield 34, 3) := by decide +kernel
theorem dX3_bid_70 : decode cX3_bid 70 = .ok (.iload_n 1, 1) := by decide +kernel
theorem dX3_bid_71 : decode cX3_bid 71 = .ok (.iaload, 1) := by decide +kernel
theorem dX3_bid_72 : decode cX3_bid 72 = .ok (.if_icmp .le 13, 3) := by decide +kernel
theorem dX3_bid_75 : decode cX3_bid 75 = .ok (.new 86, 3) := by decide +kernel
theorem dX3_bid_78 : decode cX3_bid 78 = .ok (.dup, 1) := by decide +kernel
theorem dX3_bid_79 : decode cX3_bid 79 = .ok (.ldc 124, 2) := by decide +kernel
theorem dX3_bid_81 : decode cX3_bid 81 = .ok (.invokespecial 90, 3) := by decide +kernel
theorem dX3_bid_84 : decode cX3_bid 84 = .ok (.athrow, 1) := by decide +kernel
theorem dX3_bid_85 : decode cX3_bid 85 = .ok (.aload_n 0, 1) := by decide +kernel
theorem dX3_bid_86 : decode cX3_bid 86 = .ok (.getfield 19, 3) := by decide +kernel
theorem dX3_bid_89 : decode cX3_bid 89 = .ok (.iload_n 1, 1) := by decide +kernel
theorem dX3_bid_90 : decode cX3_bid 90 = .ok (.iload_n 2, 1) := by decide +kernel
theorem dX3_bid_91 : decode cX3_bid 91 = .ok (.invokevirtual 126, 3) := by decide +kernel
theorem dX3_bid_94 : decode cX3_bid 94 = .ok (.aload_n 0, 1) := by decide +kernel
theorem dX3_bid_95 : decode cX3_bid 95 = .ok (.getfield 19, 3) := by decide +kernel
theorem dX3_bid_98 : decode cX3_bid 98 = .ok (.iload_n 1, 1) := by decide +kernel
theorem dX3_bid_99 : decode cX3_bid 99 = .ok (.iload_n 2, 1) := by decide +kernel
theorem dX3_bid_100 : decode cX3_bid 100 = .ok (.iload_n 3, 1) := by decide +kernel
theorem dX3_bid_101 : decode cX3_bid 101 = .ok (.invokevirtual 130, 3) := by decide +kernel
theorem dX3_bid_104 : decode cX3_bid 104 = .ok (.iload 5, 2) := by decide +kernel
theorem dX3_bid_106 : decode cX3_bid 106 = .ok (.ireturn, 1) := by decide +kernel
theorem dX3_unbid_0 : decode cX3_unbid 0 = .ok (.aload_n 0, 1) := by decide +kernel
theorem dX3_unbid_1 : decode cX3_unbid 1 = .ok (.iload_n 1, 1) := by decide +kernel
theorem dX3_unbid_2 : decode cX3_unbid 2 = .ok (.invokevirtual 107, 3) := by decide +kernel
theorem dX3_unbid_5 : decode cX3_unbid 5 = .ok (.aload_n 0, 1) := by decide +kernel
theorem dX3_unbid_6 : decode cX3_unbid 6 = .ok (.iload_n 2, 1) := by decide +kernel
theorem dX3_unbid_7 : decode cX3_unbid 7 = .ok (.invokevirtual 134, 3) := by decide +kernel
theorem dX3_unbid_10 : decode cX3_unbid 10 = .ok (.aload_n 0, 1) := by decide +kernel
theorem dX3_unbid_11 : decode cX3_unbid 11 = .ok (.getfield 19, 3) := by decide +kernel
theorem dX3_unbid_14 : decode cX3_unbid 14 = .ok (.iload_n 1, 1) := by decide +kernel
theorem dX3_unbid_15 : decode cX3_unbid 15 = .ok (.iload_n 2, 1) := by decide +kernel
theorem dX3_unbid_16 : decode cX3_unbid 16 = .ok (.invokevirtual 116, 3) := by decide +kernel
theorem dX3_unbid_19 : decode cX3_unbid 19 = .ok (.istore_n 3, 1) := by decide +kernel
theorem dX3_unbid_20 : decode cX3_unbid 20 = .ok (.iload_n 3, 1) := by decide +kernel
theorem dX3_unbid_21 : decode cX3_unbid 21 = .ok (.ifCond .ne 13, 3) := by decide +kernel
theorem dX3_unbid_24 : decode cX3_unbid 24 = .ok (.new 137, 3) := by decide +kernel
theorem dX3_unbid_27 : decode cX3_unbid 27 = .ok (.dup, 1) := by decide +kernel
theorem dX3_unbid_28 : decode cX3_unbid 28 = .ok (.ldc 139, 2) := by decide +kernel
theorem dX3_unbid_30 : decode cX3_unbid 30 = .ok (.invokespecial 141, 3) := by decide +kernel
theorem dX3_unbid_33 : decode cX3_unbid 33 = .ok (.athrow, 1) := by decide +kernel
theorem dX3_unbid_34 : decode cX3_unbid 34 = .ok (.aload_n 0, 1) := by decide +kernel
theorem dX3_unbid_35 : decode cX3_unbid 35 = .ok (.getfield 19, 3) := by decide +kernel
theorem dX3_unbid_38 : decode cX3_unbid 38 = .ok (.iload_n 1, 1) := by decide +kernel
theorem dX3_unbid_39 : decode cX3_unbid 39 = .ok (.iload_n 2, 1) := by decide +kernel
theorem dX3_unbid_40 : decode cX3_unbid 40 = .ok (.invokevirtual 126, 3) := by decide +kernel
theorem dX3_unbid_43 : decode cX3_unbid 43 = .ok (.iload_n 3, 1) := by decide +kernel
theorem dX3_unbid_44 : decode cX3_unbid 44 = .ok (.ireturn, 1) := by decide +kernel
theorem dX3_bids_0 : decode cX3_bids 0 = .ok (.aload_n 0, 1) := by decide +kernel
theorem dX3_bids_1 : decode cX3_bids 1 = .ok (.getfield 19, 3) := by decide +kernel
theorem dX3_bids_4 : decode cX3_bids 4 = .ok (.getfield 142, 3) := by decide +kernel
theorem dX3_bids_7 : decode cX3_bids 7 = .ok (.ireturn, 1) := by decide +kernel
theorem dX3_settle_0 : decode cX3_settle 0 = .ok (.iconst 0, 1) := by decide +kernel
theorem dX3_settle_1 : decode cX3_settle 1 = .ok (.istore_n 1, 1) := by decide +kernel
theorem dX3_settle_2 : decode cX3_settle 2 = .ok (.iconst 0, 1) := by decide +kernel
theorem dX3_settle_3 : decode cX3_settle 3 = .ok (.istore_n 2, 1) := by decide +kernel
theorem dX3_settle_4 : decode cX3_settle 4 = .ok (.iload_n 2, 1) := by decide +kernel
theorem dX3_settle_5 : decode cX3_settle 5 = .ok (.aload_n 0, 1) := by decide +kernel
theorem dX3_settle_6 : decode cX3_settle 6 = .ok (.getfield 19, 3) := by decide +kernel
theorem dX3_settle_9 : decode cX3_settle 9 = .ok (.getfield 142, 3) := by decide +kernel
theorem dX3_settle_12 : decode cX3_settle 12 = .ok (.if_icmp .ge 51, 3) := by decide +kernel
theorem dX3_settle_15 : decode cX3_settle 15 = .ok (.aload_n 0, 1) := by decide +kernel
theorem dX3_settle_16 : decode cX3_settle 16 = .ok (.aload_n 0, 1) := by decide +kernel
theorem dX3_settle_17 : decode cX3_settle 17 = .ok (.getfield 19, 3) := by decide +kernel
theorem dX3_settle_20 : decode cX3_settle 20 = .ok (.getfield 145, 3) := by decide +kernel
theorem dX3_settle_23 : decode cX3_settle 23 = .ok (.iload_n 2, 1) := by decide +kernel
theorem dX3_settle_24 : decode cX3_settle 24 = .ok (.iaload, 1) := by decide +kernel
theorem dX3_settle_25 : decode cX3_settle 25 = .ok (.aload_n 0, 1) := by decide +kernel
theorem dX3_settle_26 : decode cX3_settle 26 = .ok (.getfield 25, 3) := by decide +kernel
theorem dX3_settle_29 : decode cX3_settle 29 = .ok (.aload_n 0, 1) := by decide +kernel
theorem dX3_settle_30 : decode cX3_settle 30 = .ok (.getfield 19, 3) := by decide +kernel
theorem dX3_settle_33 : decode cX3_settle 33 = .ok (.getfield 148, 3) := by decide +kernel
theorem dX3_settle_36 : decode cX3_settle 36 = .ok (.iload_n 2, 1) := by decide +kernel
theorem dX3_settle_37 : decode cX3_settle 37 = .ok (.iaload, 1) := by decide +kernel
theorem dX3_settle_38 : decode cX3_settle 38 = .ok (.aaload, 1) := by decide +kernel
theorem dX3_settle_39 : decode cX3_settle 39 = .ok (.aload_n 0, 1) := by decide +kernel
theorem dX3_settle_40 : decode cX3_settle 40 = .ok (.getfield 19, 3) := by decide +kernel
theorem dX3_settle_43 : decode cX3_settle 43 = .ok (.getfield 150, 3) := by decide +kernel
theorem dX3_settle_46 : decode cX3_settle 46 = .ok (.iload_n 2, 1) := by decide +kernel
theorem dX3_settle_47 : decode cX3_settle 47 = .ok (.iaload, 1) := by decide +kernel
theorem dX3_settle_48 : decode cX3_settle 48 = .ok (.invokevirtual 153, 3) := by decide +kernel
theorem dX3_settle_51 : decode cX3_settle 51 = .ok (.ifCond .eq 6, 3) := by decide +kernel
theorem dX3_settle_54 : decode cX3_settle 54 = .ok (.iinc 1 1, 3) := by decide +kernel
theorem dX3_settle_57 : decode cX3_settle 57 = .ok (.iinc 2 1, 3) := by decide +kernel
theorem dX3_settle_60 : decode cX3_settle 60 = .ok (.goto (-56), 3) := by decide +kernel
theorem dX3_settle_63 : decode cX3_settle 63 = .ok (.aload_n 0, 1) := by decide +kernel
theorem dX3_settle_64 : decode cX3_settle 64 = .ok (.getfield 19, 3) := by decide +kernel
theorem dX3_settle_67 : decode cX3_settle 67 = .ok (.iconst 0, 1) := by decide +kernel
theorem dX3_settle_68 : decode cX3_settle 68 = .ok (.putfield 142, 3) := by decide +kernel
theorem dX3_settle_71 : decode cX3_settle 71 = .ok (.aload_n 0, 1) := by decide +kernel
theorem dX3_settle_72 : decode cX3_settle 72 = .ok (.dup, 1) := by decide +kernel
theorem dX3_settle_73 : decode cX3_settle 73 = .ok (.getfield 157, 3) := by decide +kernel
theorem dX3_settle_76 : decode cX3_settle 76 = .ok (.iconst 1, 1) := by decide +kernel
theorem dX3_settle_77 : decode cX3_settle 77 = .ok (.iadd, 1) := by decide +kernel
theorem dX3_settle_78 : decode cX3_settle 78 = .ok (.putfield 157, 3) := by decide +kernel
theorem dX3_settle_81 : decode cX3_settle 81 = .ok (.iload_n 1, 1) := by decide +kernel
theorem dX3_settle_82 : decode cX3_settle 82 = .ok (.ireturn, 1) := by decide +kernel
theorem dX3_rounds_0 : decode cX3_rounds 0 = .ok (.aload_n 0, 1) := by decide +kernel
theorem dX3_rounds_1 : decode cX3_rounds 1 = .ok (.getfield 157, 3) := by decide +kernel
theorem dX3_rounds_4 : decode cX3_rounds 4 = .ok (.ireturn, 1) := by decide +kernel
theorem dX3_points_0 : decode cX3_points 0 = .ok (.aload_n 0, 1) := by decide +kernel
theorem dX3_points_1 : decode cX3_points 1 = .ok (.iload_n 1, 1) := by decide +kernel
theorem dX3_points_2 : decode cX3_points 2 = .ok (.invokevirtual 107, 3) := by decide +kernel
theorem dX3_points_5 : decode cX3_points 5 = .ok (.aload_n 0, 1) := by decide +kernel
theorem dX3_points_6 : decode cX3_points 6 = .ok (.getfield 34, 3) := by decide +kernel
theorem dX3_points_9 : decode cX3_points 9 = .ok (.iload_n 1, 1) := by decide +kernel
theorem dX3_points_10 : decode cX3_points 10 = .ok (.iaload, 1) := by decide +kernel
theorem dX3_points_11 : decode cX3_points 11 = .ok (.ireturn, 1) := by decide +kernel
theorem dX3_seat_0 : decode cX3_seat 0 = .ok (.aload_n 0, 1) := by decide +kernel
theorem dX3_seat_1 : decode cX3_seat 1 = .ok (.iload_n 1, 1) := by decide +kernel
theorem dX3_seat_2 : decode cX3_seat 2 = .ok (.invokevirtual 107, 3) := by decide +kernel
theorem dX3_seat_5 : decode cX3_seat 5 = .ok (.aload_n 0, 1) := by decide +kernel
theorem dX3_seat_6 : decode cX3_seat 6 = .ok (.iload_n 2, 1) := by decide +kernel
theorem dX3_seat_7 : decode cX3_seat 7 = .ok (.invokevirtual 70, 3) := by decide +kernel
theorem dX3_seat_10 : decode cX3_seat 10 = .ok (.aload_n 0, 1) := by decide +kernel
theorem dX3_seat_11 : decode cX3_seat 11 = .ok (.iload_n 1, 1) := by decide +kernel
theorem dX3_seat_12 : decode cX3_seat 12 = .ok (.iload_n 2, 1) := by decide +kernel
theorem dX3_seat_13 : decode cX3_seat 13 = .ok (.iload_n 3, 1) := by decide +kernel
theorem dX3_seat_14 : decode cX3_seat 14 = .ok (.invokevirtual 160, 3) := by decide +kernel
theorem dX3_seat_17 : decode cX3_seat 17 = .ok (.istore 4, 2) := by decide +kernel
theorem dX3_seat_19 : decode cX3_seat 19 = .ok (.iload 4, 2) := by decide +kernel
theorem dX3_seat_21 : decode cX3_seat 21 = .ok (.iconst (-1), 1) := by decide +kernel
theorem dX3_seat_22 : decode cX3_seat 22 = .ok (.if_icmp .ne 13, 3) := by decide +kernel
theorem dX3_seat_25 : decode cX3_seat 25 = .ok (.new 137, 3) := by decide +kernel
theorem dX3_seat_28 : decode cX3_seat 28 = .ok (.dup, 1) := by decide +kernel
theorem dX3_seat_29 : decode cX3_seat 29 = .ok (.ldc 164, 2) := by decide +kernel
theorem dX3_seat_31 : decode cX3_seat 31 = .ok (.invokespecial 141, 3) := by decide +kernel
theorem dX3_seat_34 : decode cX3_seat 34 = .ok (.athrow, 1) := by decide +kernel
theorem dX3_seat_35 : decode cX3_seat 35 = .ok (.iload 4, 2) := by decide +kernel
theorem dX3_seat_37 : decode cX3_seat 37 = .ok (.ireturn, 1) := by decide +kernel
theorem dX3_at_0 : decode cX3_at 0 = .ok (.aload_n 0, 1) := by decide +kernel
theorem dX3_at_1 : decode cX3_at 1 = .ok (.iload_n 1, 1) := by decide +kernel
theorem dX3_at_2 : decode cX3_at 2 = .ok (.invokevirtual 107, 3) := by decide +kernel
theorem dX3_at_5 : decode cX3_at 5 = .ok (.iload_n 2, 1) := by decide +kernel
theorem dX3_at_6 : decode cX3_at 6 = .ok (.invokestatic 79, 3) := by decide +kernel
theorem dX3_at_9 : decode cX3_at 9 = .ok (.aload_n 0, 1) := by decide +kernel
theorem dX3_at_10 : decode cX3_at 10 = .ok (.iload_n 1, 1) := by decide +kernel
theorem dX3_at_11 : decode cX3_at 11 = .ok (.iload_n 2, 1) := by decide +kernel
theorem dX3_at_12 : decode cX3_at 12 = .ok (.invokevirtual 166, 3) := by decide +kernel
theorem dX3_at_15 : decode cX3_at 15 = .ok (.ireturn, 1) := by decide +kernel
theorem dX3_holders_0 : decode cX3_holders 0 = .ok (.aload_n 0, 1) := by decide +kernel
theorem dX3_holders_1 : decode cX3_holders 1 = .ok (.iload_n 1, 1) := by decide +kernel
theorem dX3_holders_2 : decode cX3_holders 2 = .ok (.invokevirtual 100, 3) := by decide +kernel
theorem dX3_holders_5 : decode cX3_holders 5 = .ok (.invokevirtual 169, 3) := by decide +kernel
theorem dX3_holders_8 : decode cX3_holders 8 = .ok (.ireturn, 1) := by decide +kernel
theorem dX3_holder_0 : decode cX3_holder 0 = .ok (.aload_n 0, 1) := by decide +kernel
theorem dX3_holder_1 : decode cX3_holder 1 = .ok (.iload_n 1, 1) := by decide +kernel
theorem dX3_holder_2 : decode cX3_holder 2 = .ok (.invokevirtual 100, 3) := by decide +kernel
theorem dX3_holder_5 : decode cX3_holder 5 = .ok (.iload_n 2, 1) := by decide +kernel
theorem dX3_holder_6 : decode cX3_holder 6 = .ok (.invokevirtual 173, 3) := by decide +kernel
theorem dX3_holder_9 : decode cX3_holder 9 = .ok (.istore_n 3, 1) := by decide +kernel
theorem dX3_holder_10 : decode cX3_holder 10 = .ok (.iload_n 3, 1) := by decide +kernel
theorem dX3_holder_11 : decode cX3_holder 11 = .ok (.iconst (-1), 1) := by decide +kernel
theorem dX3_holder_12 : decode cX3_holder 12 = .ok (.if_icmp .ne 13, 3) := by decide +kernel
theorem dX3_holder_15 : decode cX3_holder 15 = .ok (.new 137, 3) := by decide +kernel
theorem dX3_holder_18 : decode cX3_holder 18 = .ok (.dup, 1) := by decide +kernel
theorem dX3_holder_19 : decode cX3_holder 19 = .ok (.ldc 176, 2) := by decide +kernel
theorem dX3_holder_21 : decode cX3_holder 21 = .ok (.invokespecial 141, 3) := by decide +kernel
theorem dX3_holder_24 : decode cX3_holder 24 = .ok (.athrow, 1) := by decide +kernel
theorem dX3_holder_25 : decode cX3_holder 25 = .ok (.iload_n 3, 1) := by decide +kernel
theorem dX3_holder_26 : decode cX3_holder 26 = .ok (.ireturn, 1) := by decide +kernel
theorem dX3_paid_0 : decode cX3_paid 0 = .ok (.aload_n 0, 1) := by decide +kernel
theorem dX3_paid_1 : decode cX3_paid 1 = .ok (.iload_n 1, 1) := by decide +kernel
theorem dX3_paid_2 : decode cX3_paid 2 = .ok (.invokevirtual 107, 3) := by decide +kernel
theorem dX3_paid_5 : decode cX3_paid 5 = .ok (.aload_n 0, 1) := by decide +kernel
theorem dX3_paid_6 : decode cX3_paid 6 = .ok (.iload_n 2, 1) := by decide +kernel
theorem dX3_paid_7 : decode cX3_paid 7 = .ok (.invokevirtual 100, 3) := by decide +kernel
theorem dX3_paid_10 : decode cX3_paid 10 = .ok (.astore_n 3, 1) := by decide +kernel
theorem dX3_paid_11 : decode cX3_paid 11 = .ok (.aload_n 3, 1) := by decide +kernel
theorem dX3_paid_12 : decode cX3_paid 12 = .ok (.iload_n 1, 1) := by decide +kernel
theorem dX3_paid_13 : decode cX3_paid 13 = .ok (.invokevirtual 178, 3) := by decide +kernel
theorem dX3_paid_16 : decode cX3_paid 16 = .ok (.ifCond .ne 13, 3) := by decide +kernel
theorem dX3_paid_19 : decode cX3_paid 19 = .ok (.new 137, 3) := by decide +kernel
theorem dX3_paid_22 : decode cX3_paid 22 = .ok (.dup, 1) := by decide +kernel
theorem dX3_paid_23 : decode cX3_paid 23 = .ok (.ldc 182, 2) := by decide +kernel
theorem dX3_paid_25 : decode cX3_paid 25 = .ok (.invokespecial 141, 3) := by decide +kernel
theorem dX3_paid_28 : decode cX3_paid 28 = .ok (.athrow, 1) := by decide +kernel
theorem dX3_paid_29 : decode cX3_paid 29 = .ok (.aload_n 3, 1) := by decide +kernel
theorem dX3_paid_30 : decode cX3_paid 30 = .ok (.getfield 184, 3) := by decide +kernel
theorem dX3_paid_33 : decode cX3_paid 33 = .ok (.iload_n 1, 1) := by decide +kernel
theorem dX3_paid_34 : decode cX3_paid 34 = .ok (.iaload, 1) := by decide +kernel
theorem dX3_paid_35 : decode cX3_paid 35 = .ok (.ireturn, 1) := by decide +kernel
theorem dX3_waiting_0 : decode cX3_waiting 0 = .ok (.aload_n 0, 1) := by decide +kernel
theorem dX3_waiting_1 : decode cX3_waiting 1 = .ok (.iload_n 1, 1) := by decide +kernel
theorem dX3_waiting_2 : decode cX3_waiting 2 = .ok (.invokevirtual 100, 3) := by decide +kernel
theorem dX3_waiting_5 : decode cX3_waiting 5 = .ok (.getfield 187, 3) := by decide +kernel
theorem dX3_waiting_8 : decode cX3_waiting 8 = .ok (.ireturn, 1) := by decide +kernel
theorem dX3_waiter_0 : decode cX3_waiter 0 = .ok (.aload_n 0, 1) := by decide +kernel
theorem dX3_waiter_1 : decode cX3_waiter 1 = .ok (.iload_n 1, 1) := by decide +kernel
theorem dX3_waiter_2 : decode cX3_waiter 2 = .ok (.invokevirtual 100, 3) := by decide +kernel
theorem dX3_waiter_5 : decode cX3_waiter 5 = .ok (.astore_n 3, 1) := by decide +kernel
theorem dX3_waiter_6 : decode cX3_waiter 6 = .ok (.iload_n 2, 1) := by decide +kernel
theorem dX3_waiter_7 : decode cX3_waiter 7 = .ok (.ifCond .lt 11, 3) := by decide +kernel
theorem dX3_waiter_10 : decode cX3_waiter 10 = .ok (.iload_n 2, 1) := by decide +kernel
theorem dX3_waiter_11 : decode cX3_waiter 11 = .ok (.aload_n 3, 1) := by decide +kernel
theorem dX3_waiter_12 : decode cX3_waiter 12 = .ok (.getfield 187, 3) := by decide +kernel
theorem dX3_waiter_15 : decode cX3_waiter 15 = .ok (.if_icmp .lt 13, 3) := by decide +kernel
theorem dX3_waiter_18 : decode cX3_waiter 18 = .ok (.new 137, 3) := by decide +kernel
theorem dX3_waiter_21 : decode cX3_waiter 21 = .ok (.dup, 1) := by decide +kernel
theorem dX3_waiter_22 : decode cX3_waiter 22 = .ok (.ldc 190, 2) := by decide +kernel
theorem dX3_waiter_24 : decode cX3_waiter 24 = .ok (.invokespecial 141, 3) := by decide +kernel
theorem dX3_waiter_27 : decode cX3_waiter 27 = .ok (.athrow, 1) := by decide +kernel
theorem dX3_waiter_28 : decode cX3_waiter 28 = .ok (.aload_n 3, 1) := by decide +kernel
theorem dX3_waiter_29 : decode cX3_waiter 29 = .ok (.getfield 192, 3) := by decide +kernel
theorem dX3_waiter_32 : decode cX3_waiter 32 = .ok (.iload_n 2, 1) := by decide +kernel
theorem dX3_waiter_33 : decode cX3_waiter 33 = .ok (.iaload, 1) := by decide +kernel
theorem dX3_waiter_34 : decode cX3_waiter 34 = .ok (.ireturn, 1) := by decide +kernel
theorem dX3_giveUp_0 : decode cX3_giveUp 0 = .ok (.aload_n 0, 1) := by decide +kernel
theorem dX3_giveUp_1 : decode cX3_giveUp 1 = .ok (.iload_n 1, 1) := by decide +kernel
theorem dX3_giveUp_2 : decode cX3_giveUp 2 = .ok (.invokevirtual 107, 3) := by decide +kernel
theorem dX3_giveUp_5 : decode cX3_giveUp 5 = .ok (.aload_n 0, 1) := by decide +kernel
theorem dX3_giveUp_6 : decode cX3_giveUp 6 = .ok (.iload_n 2, 1) := by decide +kernel
theorem dX3_giveUp_7 : decode cX3_giveUp 7 = .ok (.invokevirtual 100, 3) := by decide +kernel
theorem dX3_giveUp_10 : decode cX3_giveUp 10 = .ok (.astore_n 3, 1) := by decide +kernel
theorem dX3_giveUp_11 : decode cX3_giveUp 11 = .ok (.aload_n 0, 1) := by decide +kernel
theorem dX3_giveUp_12 : decode cX3_giveUp 12 = .ok (.aload_n 3, 1) := by decide +kernel
theorem dX3_giveUp_13 : decode cX3_giveUp 13 = .ok (.invokevirtual 120, 3) := by decide +kernel
theorem dX3_giveUp_16 : decode cX3_giveUp 16 = .ok (.ifCond .ne 11, 3) := by decide +kernel
theorem dX3_giveUp_19 : decode cX3_giveUp 19 = .ok (.aload_n 3, 1) := by decide +kernel
theorem dX3_giveUp_20 : decode cX3_giveUp 20 = .ok (.iload_n 1, 1) := by decide +kernel
theorem dX3_giveUp_21 : decode cX3_giveUp 21 = .ok (.invokevirtual 178, 3) := by decide +kernel
theorem dX3_giveUp_24 : decode cX3_giveUp 24 = .ok (.ifCond .ne 13, 3) := by decide +kernel
theorem dX3_giveUp_27 : decode cX3_giveUp 27 = .ok (.new 86, 3) := by decide +kernel
theorem dX3_giveUp_30 : decode cX3_giveUp 30 = .ok (.dup, 1) := by decide +kernel
theorem dX3_giveUp_31 : decode cX3_giveUp 31 = .ok (.ldc 195, 2) := by decide +kernel
theorem dX3_giveUp_33 : decode cX3_giveUp 33 = .ok (.invokespecial 90, 3) := by decide +kernel
theorem dX3_giveUp_36 : decode cX3_giveUp 36 = .ok (.athrow, 1) := by decide +kernel
theorem dX3_giveUp_37 : decode cX3_giveUp 37 = .ok (.aload_n 3, 1) := by decide +kernel
theorem dX3_giveUp_38 : decode cX3_giveUp 38 = .ok (.iload_n 1, 1) := by decide +kernel
theorem dX3_giveUp_39 : decode cX3_giveUp 39 = .ok (.invokevirtual 197, 3) := by decide +kernel
theorem dX3_giveUp_42 : decode cX3_giveUp 42 = .ok (.istore 4, 2) := by decide +kernel
theorem dX3_giveUp_44 : decode cX3_giveUp 44 = .ok (.iload 4, 2) := by decide +kernel
theorem dX3_giveUp_46 : decode cX3_giveUp 46 = .ok (.iconst 2, 1) := by decide +kernel
theorem dX3_giveUp_47 : decode cX3_giveUp 47 = .ok (.idiv, 1) := by decide +kernel
theorem dX3_giveUp_48 : decode cX3_giveUp 48 = .ok (.istore 5, 2) := by decide +kernel
theorem dX3_giveUp_50 : decode cX3_giveUp 50 = .ok (.aload_n 0, 1) := by decide +kernel
theorem dX3_giveUp_51 : decode cX3_giveUp 51 = .ok (.iload_n 1, 1) := by decide +kernel
theorem dX3_giveUp_52 : decode cX3_giveUp 52 = .ok (.iload 5, 2) := by decide +kernel
theorem dX3_giveUp_54 : decode cX3_giveUp 54 = .ok (.invokevirtual 200, 3) := by decide +kernel
theorem dX3_giveUp_57 : decode cX3_giveUp 57 = .ok (.aload_n 0, 1) := by decide +kernel
theorem dX3_giveUp_58 : decode cX3_giveUp 58 = .ok (.getfield 37, 3) := by decide +kernel
theorem dX3_giveUp_61 : decode cX3_giveUp 61 = .ok (.iload_n 1, 1) := by decide +kernel
theorem dX3_giveUp_62 : decode cX3_giveUp 62 = .ok (.dup2, 1) := by decide +kernel
theorem dX3_giveUp_63 : decode cX3_giveUp 63 = .ok (.iaload, 1) := by decide +kernel
theorem dX3_giveUp_64 : decode cX3_giveUp 64 = .ok (.iload 4, 2) := by decide +kernel
theorem dX3_giveUp_66 : decode cX3_giveUp 66 = .ok (.iload 5, 2) := by decide +kernel
theorem dX3_giveUp_68 : decode cX3_giveUp 68 = .ok (.isub, 1) := by decide +kernel
theorem dX3_giveUp_69 : decode cX3_giveUp 69 = .ok (.iadd, 1) := by decide +kernel
theorem dX3_giveUp_70 : decode cX3_giveUp 70 = .ok (.iastore, 1) := by decide +kernel
theorem dX3_giveUp_71 : decode cX3_giveUp 71 = .ok (.aload_n 0, 1) := by decide +kernel
theorem dX3_giveUp_72 : decode cX3_giveUp 72 = .ok (.aload_n 3, 1) := by decide +kernel
theorem dX3_giveUp_73 : decode cX3_giveUp 73 = .ok (.invokevirtual 203, 3) := by decide +kernel
theorem dX3_giveUp_76 : decode cX3_giveUp 76 = .ok (.ireturn, 1) := by decide +kernel
theorem dX3_move_0 : decode cX3_move 0 = .ok (.aload_n 0, 1) := by decide +kernel
theorem dX3_move_1 : decode cX3_move 1 = .ok (.iload_n 1, 1) := by decide +kernel
theorem dX3_move_2 : decode cX3_move 2 = .ok (.invokevirtual 100, 3) := by decide +kernel
theorem dX3_move_5 : decode cX3_move 5 = .ok (.astore_n 3, 1) := by decide +kernel
theorem dX3_move_6 : decode cX3_move 6 = .ok (.iload_n 2, 1) := by decide +kernel
theorem dX3_move_7 : decode cX3_move 7 = .ok (.invokestatic 79, 3) := by decide +kernel
theorem dX3_move_10 : decode cX3_move 10 = .ok (.aload_n 0, 1) := by decide +kernel
theorem dX3_move_11 : decode cX3_move 11 = .ok (.aload_n 3, 1) := by decide +kernel
theorem dX3_move_12 : decode cX3_move 12 = .ok (.invokevirtual 120, 3) := by decide +kernel
theorem dX3_move_15 : decode cX3_move 15 = .ok (.ifCond .ne 24, 3) := by decide +kernel
theorem dX3_move_18 : decode cX3_move 18 = .ok (.aload_n 0, 1) := by decide +kernel
theorem dX3_move_19 : decode cX3_move 19 = .ok (.getfield 40, 3) := by decide +kernel
theorem dX3_move_22 : decode cX3_move 22 = .ok (.iload_n 2, 1) := by decide +kernel
theorem dX3_move_23 : decode cX3_move 23 = .ok (.baload, 1) := by decide +kernel
theorem dX3_move_24 : decode cX3_move 24 = .ok (.ifCond .ne 15, 3) := by decide +kernel
theorem dX3_move_27 : decode cX3_move 27 = .ok (.aload_n 0, 1) := by decide +kernel
theorem dX3_move_28 : decode cX3_move 28 = .ok (.aload_n 3, 1) := by decide +kernel
theorem dX3_move_29 : decode cX3_move 29 = .ok (.getfield 207, 3) := by decide +kernel
theorem dX3_move_32 : decode cX3_move 32 = .ok (.iload_n 2, 1) := by decide +kernel
theorem dX3_move_33 : decode cX3_move 33 = .ok (.invokevirtual 82, 3) := by decide +kernel
theorem dX3_move_36 : decode cX3_move 36 = .ok (.ifCond .eq 13, 3) := by decide +kernel
theorem dX3_move_39 : decode cX3_move 39 = .ok (.new 86, 3) := by decide +kernel
theorem dX3_move_42 : decode cX3_move 42 = .ok (.dup, 1) := by decide +kernel
theorem dX3_move_43 : decode cX3_move 43 = .ok (.ldc 210, 2) := by decide +kernel
theorem dX3_move_45 : decode cX3_move 45 = .ok (.invokespecial 90, 3) := by decide +kernel
theorem dX3_move_48 : decode cX3_move 48 = .ok (.athrow, 1) := by decide +kernel
theorem dX3_move_49 : decode cX3_move 49 = .ok (.iconst 0, 1) := by decide +kernel
theorem dX3_move_50 : decode cX3_move 50 = .ok (.istore 4, 2) := by decide +kernel
theorem dX3_move_52 : decode cX3_move 52 = .ok (.iconst 0, 1) := by decide +kernel
theorem dX3_move_53 : decode cX3_move 53 = .ok (.istore 5, 2) := by decide +kernel
theorem dX3_move_55 : decode cX3_move 55 = .ok (.iload 5, 2) := by decide +kernel
theorem dX3_move_57 : decode cX3_move 57 = .ok (.aload_n 0, 1) := by decide +kernel
theorem dX3_move_58 : decode cX3_move 58 = .ok (.getfield 65, 3) := by decide +kernel
theorem dX3_move_61 : decode cX3_move 61 = .ok (.if_icmp .ge 32, 3) := by decide +kernel
theorem dX3_move_64 : decode cX3_move 64 = .ok (.aload_n 3, 1) := by decide +kernel
theorem dX3_move_65 : decode cX3_move 65 = .ok (.iload 5, 2) := by decide +kernel
theorem dX3_move_67 : decode cX3_move 67 = .ok (.invokevirtual 178, 3) := by decide +kernel
theorem dX3_move_70 : decode cX3_move 70 = .ok (.ifCond .eq 17, 3) := by decide +kernel
theorem dX3_move_73 : decode cX3_move 73 = .ok (.aload_n 0, 1) := by decide +kernel
theorem dX3_move_74 : decode cX3_move 74 = .ok (.iload 5, 2) := by decide +kernel
theorem dX3_move_76 : decode cX3_move 76 = .ok (.aload_n 3, 1) := by decide +kernel
theorem dX3_move_77 : decode cX3_move 77 = .ok (.iload_n 2, 1) := by decide +kernel
theorem dX3_move_78 : decode cX3_move 78 = .ok (.invokevirtual 212, 3) := by decide +kernel
theorem dX3_move_81 : decode cX3_move 81 = .ok (.ifCond .eq 6, 3) := by decide +kernel
theorem dX3_move_84 : decode cX3_move 84 = .ok (.iinc 4 1, 3) := by decide +kernel
theorem dX3_move_87 : decode cX3_move 87 = .ok (.iinc 5 1, 3) := by decide +kernel
theorem dX3_move_90 : decode cX3_move 90 = .ok (.goto (-35), 3) := by decide +kernel
theorem dX3_move_93 : decode cX3_move 93 = .ok (.aload_n 3, 1) := by decide +kernel
theorem dX3_move_94 : decode cX3_move 94 = .ok (.iload_n 2, 1) := by decide +kernel
theorem dX3_move_95 : decode cX3_move 95 = .ok (.putfield 104, 3) := by decide +kernel
theorem dX3_move_98 : decode cX3_move 98 = .ok (.iconst 0, 1) := by decide +kernel
theorem dX3_move_99 : decode cX3_move 99 = .ok (.istore 5, 2) := by decide +kernel
theorem dX3_move_101 : decode cX3_move 101 = .ok (.iload 5, 2) := by decide +kernel
theorem dX3_move_103 : decode cX3_move 103 = .ok (.aload_n 3, 1) := by decide +kernel
theorem dX3_move_104 : decode cX3_move 104 = .ok (.getfield 215, 3) := by decide +kernel
theorem dX3_move_107 : decode cX3_move 107 = .ok (.if_icmp .ge 18, 3) := by decide +kernel
theorem dX3_move_110 : decode cX3_move 110 = .ok (.aload_n 0, 1) := by decide +kernel
theorem dX3_move_111 : decode cX3_move 111 = .ok (.aload_n 3, 1) := by decide +kernel
theorem dX3_move_112 : decode cX3_move 112 = .ok (.invokevirtual 203, 3) := by decide +kernel
theorem dX3_move_115 : decode cX3_move 115 = .ok (.iconst (-1), 1) := by decide +kernel
theorem dX3_move_116 : decode cX3_move 116 = .ok (.if_icmp .eq 9, 3) := by decide +kernel
theorem dX3_move_119 : decode cX3_move 119 = .ok (.iinc 5 1, 3) := by decide +kernel
theorem dX3_move_122 : decode cX3_move 122 = .ok (.goto (-21), 3) := by decide +kernel
theorem dX3_move_125 : decode cX3_move 125 = .ok (.iload 4, 2) := by decide +kernel
theorem dX3_move_127 : decode cX3_move 127 = .ok (.ireturn, 1) := by decide +kernel
theorem dX3_refunds_0 : decode cX3_refunds 0 = .ok (.aload_n 0, 1) := by decide +kernel
theorem dX3_refunds_1 : decode cX3_refunds 1 = .ok (.getfield 218, 3) := by decide +kernel
theorem dX3_refunds_4 : decode cX3_refunds 4 = .ok (.ireturn, 1) := by decide +kernel
theorem dX3_write_0 : decode cX3_write 0 = .ok (.iload_n 1, 1) := by decide +kernel
theorem dX3_write_1 : decode cX3_write 1 = .ok (.invokestatic 221, 3) := by decide +kernel
theorem dX3_write_4 : decode cX3_write 4 = .ok (.aload_n 0, 1) := by decide +kernel
theorem dX3_write_5 : decode cX3_write 5 = .ok (.iload_n 2, 1) := by decide +kernel
theorem dX3_write_6 : decode cX3_write 6 = .ok (.invokevirtual 107, 3) := by decide +kernel
theorem dX3_write_9 : decode cX3_write 9 = .ok (.aload_n 0, 1) := by decide +kernel
theorem dX3_write_10 : decode cX3_write 10 = .ok (.iload_n 3, 1) := by decide +kernel
theorem dX3_write_11 : decode cX3_write 11 = .ok (.invokevirtual 70, 3) := by decide +kernel
theorem dX3_write_14 : decode cX3_write 14 = .ok (.iload 4, 2) := by decide +kernel
theorem dX3_write_16 : decode cX3_write 16 = .ok (.invokestatic 224, 3) := by decide +kernel
theorem dX3_write_19 : decode cX3_write 19 = .ok (.istore 6, 2) := by decide +kernel
theorem dX3_write_21 : decode cX3_write 21 = .ok (.iload 6, 2) := by decide +kernel
theorem dX3_write_23 : decode cX3_write 23 = .ok (.iload 5, 2) := by decide +kernel
theorem dX3_write_25 : decode cX3_write 25 = .ok (.invokestatic 228, 3) := by decide +kernel
theorem dX3_write_28 : decode cX3_write 28 = .ok (.ifCond .ne 13, 3) := by decide +kernel
theorem dX3_write_31 : decode cX3_write 31 = .ok (.new 44, 3) := by decide +kernel
theorem dX3_write_34 : decode cX3_write 34 = .ok (.dup, 1) := by decide +kernel
theorem dX3_write_35 : decode cX3_write 35 = .ok (.ldc 231, 2) := by decide +kernel
theorem dX3_write_37 : decode cX3_write 37 = .ok (.invokespecial 48, 3) := by decide +kernel
theorem dX3_write_40 : decode cX3_write 40 = .ok (.athrow, 1) := by decide +kernel
theorem dX3_write_41 : decode cX3_write 41 = .ok (.aload_n 0, 1) := by decide +kernel
theorem dX3_write_42 : decode cX3_write 42 = .ok (.getfield 10, 3) := by decide +kernel
theorem dX3_write_45 : decode cX3_write 45 = .ok (.iload_n 1, 1) := by decide +kernel
theorem dX3_write_46 : decode cX3_write 46 = .ok (.iload 6, 2) := by decide +kernel
theorem dX3_write_48 : decode cX3_write 48 = .ok (.iload_n 2, 1) := by decide +kernel
theorem dX3_write_49 : decode cX3_write 49 = .ok (.iload_n 3, 1) := by decide +kernel
theorem dX3_write_50 : decode cX3_write 50 = .ok (.invokevirtual 233, 3) := by decide +kernel
theorem dX3_write_53 : decode cX3_write 53 = .ok (.istore 7, 2) := by decide +kernel
theorem dX3_write_55 : decode cX3_write 55 = .ok (.aload_n 0, 1) := by decide +kernel
theorem dX3_write_56 : decode cX3_write 56 = .ok (.getfield 10, 3) := by decide +kernel
theorem dX3_write_59 : decode cX3_write 59 = .ok (.iload_n 1, 1) := by decide +kernel
theorem dX3_write_60 : decode cX3_write 60 = .ok (.iload 6, 2) := by decide +kernel
theorem dX3_write_62 : decode cX3_write 62 = .ok (.iload_n 2, 1) := by decide +kernel
theorem dX3_write_63 : decode cX3_write 63 = .ok (.iload_n 3, 1) := by decide +kernel
theorem dX3_write_64 : decode cX3_write 64 = .ok (.iload 5, 2) := by decide +kernel
theorem dX3_write_66 : decode cX3_write 66 = .ok (.invokevirtual 237, 3) := by decide +kernel
theorem dX3_write_69 : decode cX3_write 69 = .ok (.iload 7, 2) := by decide +kernel
theorem dX3_write_71 : decode cX3_write 71 = .ok (.ireturn, 1) := by decide +kernel
theorem dX3_read_0 : decode cX3_read 0 = .ok (.iload_n 1, 1) := by decide +kernel
theorem dX3_read_1 : decode cX3_read 1 = .ok (.invokestatic 221, 3) := by decide +kernel
theorem dX3_read_4 : decode cX3_read 4 = .ok (.aload_n 0, 1) := by decide +kernel
theorem dX3_read_5 : decode cX3_read 5 = .ok (.iload_n 2, 1) := by decide +kernel
theorem dX3_read_6 : decode cX3_read 6 = .ok (.invokevirtual 107, 3) := by decide +kernel
theorem dX3_read_9 : decode cX3_read 9 = .ok (.aload_n 0, 1) := by decide +kernel
theorem dX3_read_10 : decode cX3_read 10 = .ok (.iload_n 3, 1) := by decide +kernel
theorem dX3_read_11 : decode cX3_read 11 = .ok (.invokevirtual 70, 3) := by decide +kernel
theorem dX3_read_14 : decode cX3_read 14 = .ok (.aload_n 0, 1) := by decide +kernel
theorem dX3_read_15 : decode cX3_read 15 = .ok (.getfield 10, 3) := by decide +kernel
theorem dX3_read_18 : decode cX3_read 18 = .ok (.iload_n 1, 1) := by decide +kernel
theorem dX3_read_19 : decode cX3_read 19 = .ok (.iload 4, 2) := by decide +kernel
theorem dX3_read_21 : decode cX3_read 21 = .ok (.invokestatic 224, 3) := by decide +kernel
theorem dX3_read_24 : decode cX3_read 24 = .ok (.iload_n 2, 1) := by decide +kernel
theorem dX3_read_25 : decode cX3_read 25 = .ok (.iload_n 3, 1) := by decide +kernel
theorem dX3_read_26 : decode cX3_read 26 = .ok (.invokevirtual 233, 3) := by decide +kernel
theorem dX3_read_29 : decode cX3_read 29 = .ok (.ireturn, 1) := by decide +kernel
theorem dX3_sync_0 : decode cX3_sync 0 = .ok (.iload_n 1, 1) := by decide +kernel
theorem dX3_sync_1 : decode cX3_sync 1 = .ok (.invokestatic 221, 3) := by decide +kernel
theorem dX3_sync_4 : decode cX3_sync 4 = .ok (.iload_n 2, 1) := by decide +kernel
theorem dX3_sync_5 : decode cX3_sync 5 = .ok (.invokestatic 221, 3) := by decide +kernel
theorem dX3_sync_8 : decode cX3_sync 8 = .ok (.iload_n 1, 1) := by decide +kernel
theorem dX3_sync_9 : decode cX3_sync 9 = .ok (.iload_n 2, 1) := by decide +kernel
theorem dX3_sync_10 : decode cX3_sync 10 = .ok (.if_icmp .ne 13, 3) := by decide +kernel
theorem dX3_sync_13 : decode cX3_sync 13 = .ok (.new 44, 3) := by decide +kernel
theorem dX3_sync_16 : decode cX3_sync 16 = .ok (.dup, 1) := by decide +kernel
theorem dX3_sync_17 : decode cX3_sync 17 = .ok (.ldc 241, 2) := by decide +kernel
theorem dX3_sync_19 : decode cX3_sync 19 = .ok (.invokespecial 48, 3) := by decide +kernel
theorem dX3_sync_22 : decode cX3_sync 22 = .ok (.athrow, 1) := by decide +kernel
theorem dX3_sync_23 : decode cX3_sync 23 = .ok (.aload_n 0, 1) := by decide +kernel
theorem dX3_sync_24 : decode cX3_sync 24 = .ok (.getfield 10, 3) := by decide +kernel
theorem dX3_sync_27 : decode cX3_sync 27 = .ok (.iload_n 1, 1) := by decide +kernel
theorem dX3_sync_28 : decode cX3_sync 28 = .ok (.iload_n 2, 1) := by decide +kernel
theorem dX3_sync_29 : decode cX3_sync 29 = .ok (.invokevirtual 243, 3) := by decide +kernel
theorem dX3_sync_32 : decode cX3_sync 32 = .ok (.ireturn, 1) := by decide +kernel
theorem dX3_owner_0 : decode cX3_owner 0 = .ok (.aload_n 0, 1) := by decide +kernel
theorem dX3_owner_1 : decode cX3_owner 1 = .ok (.getfield 10, 3) := by decide +kernel
theorem dX3_owner_4 : decode cX3_owner 4 = .ok (.getfield 246, 3) := by decide +kernel
theorem dX3_owner_7 : decode cX3_owner 7 = .ok (.iload_n 1, 1) := by decide +kernel
theorem dX3_owner_8 : decode cX3_owner 8 = .ok (.invokestatic 224, 3) := by decide +kernel
theorem dX3_owner_11 : decode cX3_owner 11 = .ok (.iaload, 1) := by decide +kernel
theorem dX3_owner_12 : decode cX3_owner 12 = .ok (.ireturn, 1) := by decide +kernel
theorem dX3_setOwner_0 : decode cX3_setOwner 0 = .ok (.iload_n 1, 1) := by decide +kernel
theorem dX3_setOwner_1 : decode cX3_setOwner 1 = .ok (.invokestatic 224, 3) := by decide +kernel
theorem dX3_setOwner_4 : decode cX3_setOwner 4 = .ok (.istore_n 3, 1) := by decide +kernel
theorem dX3_setOwner_5 : decode cX3_setOwner 5 = .ok (.iload_n 2, 1) := by decide +kernel
theorem dX3_setOwner_6 : decode cX3_setOwner 6 = .ok (.invokestatic 221, 3) := by decide +kernel
theorem dX3_setOwner_9 : decode cX3_setOwner 9 = .ok (.aload_n 0, 1) := by decide +kernel
theorem dX3_setOwner_10 : decode cX3_setOwner 10 = .ok (.getfield 10, 3) := by decide +kernel
theorem dX3_setOwner_13 : decode cX3_setOwner 13 = .ok (.getfield 246, 3) := by decide +kernel
theorem dX3_setOwner_16 : decode cX3_setOwner 16 = .ok (.iload_n 3, 1) := by decide +kernel
theorem dX3_setOwner_17 : decode cX3_setOwner 17 = .ok (.iaload, 1) := by decide +kernel
theorem dX3_setOwner_18 : decode cX3_setOwner 18 = .ok (.istore 4, 2) := by decide +kernel
theorem dX3_setOwner_20 : decode cX3_setOwner 20 = .ok (.aload_n 0, 1) := by decide +kernel
theorem dX3_setOwner_21 : decode cX3_setOwner 21 = .ok (.getfield 10, 3) := by decide +kernel
theorem dX3_setOwner_24 : decode cX3_setOwner 24 = .ok (.iload_n 3, 1) := by decide +kernel
theorem dX3_setOwner_25 : decode cX3_setOwner 25 = .ok (.iload 4, 2) := by decide +kernel
theorem dX3_setOwner_27 : decode cX3_setOwner 27 = .ok (.iload_n 2, 1) := by decide +kernel
theorem dX3_setOwner_28 : decode cX3_setOwner 28 = .ok (.invokevirtual 249, 3) := by decide +kernel
theorem dX3_setOwner_31 : decode cX3_setOwner 31 = .ok (.ifCond .ne 13, 3) := by decide +kernel
theorem dX3_setOwner_34 : decode cX3_setOwner 34 = .ok (.new 86, 3) := by decide +kernel
theorem dX3_setOwner_37 : decode cX3_setOwner 37 = .ok (.dup, 1) := by decide +kernel
theorem dX3_setOwner_38 : decode cX3_setOwner 38 = .ok (.ldc 253, 2) := by decide +kernel
theorem dX3_setOwner_40 : decode cX3_setOwner 40 = .ok (.invokespecial 90, 3) := by decide +kernel
theorem dX3_setOwner_43 : decode cX3_setOwner 43 = .ok (.athrow, 1) := by decide +kernel
theorem dX3_setOwner_44 : decode cX3_setOwner 44 = .ok (.aload_n 0, 1) := by decide +kernel
theorem dX3_setOwner_45 : decode cX3_setOwner 45 = .ok (.getfield 10, 3) := by decide +kernel
theorem dX3_setOwner_48 : decode cX3_setOwner 48 = .ok (.getfield 246, 3) := by decide +kernel
theorem dX3_setOwner_51 : decode cX3_setOwner 51 = .ok (.iload_n 3, 1) := by decide +kernel
theorem dX3_setOwner_52 : decode cX3_setOwner 52 = .ok (.iload_n 2, 1) := by decide +kernel
theorem dX3_setOwner_53 : decode cX3_setOwner 53 = .ok (.iastore, 1) := by decide +kernel
theorem dX3_setOwner_54 : decode cX3_setOwner 54 = .ok (.iload 4, 2) := by decide +kernel
theorem dX3_setOwner_56 : decode cX3_setOwner 56 = .ok (.ireturn, 1) := by decide +kernel
theorem dX3_apart_0 : decode cX3_apart 0 = .ok (.aload_n 0, 1) := by decide +kernel
theorem dX3_apart_1 : decode cX3_apart 1 = .ok (.getfield 10, 3) := by decide +kernel
theorem dX3_apart_4 : decode cX3_apart 4 = .ok (.iload_n 1, 1) := by decide +kernel
theorem dX3_apart_5 : decode cX3_apart 5 = .ok (.invokestatic 224, 3) := by decide +kernel
theorem dX3_apart_8 : decode cX3_apart 8 = .ok (.invokevirtual 255, 3) := by decide +kernel
theorem dX3_apart_11 : decode cX3_apart 11 = .ok (.ireturn, 1) := by decide +kernel
theorem dX3_maySit_0 : decode cX3_maySit 0 = .ok (.aload_n 0, 1) := by decide +kernel
theorem dX3_maySit_1 : decode cX3_maySit 1 = .ok (.iload_n 1, 1) := by decide +kernel
theorem dX3_maySit_2 : decode cX3_maySit 2 = .ok (.invokevirtual 107, 3) := by decide +kernel
theorem dX3_maySit_5 : decode cX3_maySit 5 = .ok (.aload_n 0, 1) := by decide +kernel
theorem dX3_maySit_6 : decode cX3_maySit 6 = .ok (.iload_n 2, 1) := by decide +kernel
theorem dX3_maySit_7 : decode cX3_maySit 7 = .ok (.invokevirtual 70, 3) := by decide +kernel
theorem dX3_maySit_10 : decode cX3_maySit 10 = .ok (.aload_n 0, 1) := by decide +kernel
theorem dX3_maySit_11 : decode cX3_maySit 11 = .ok (.getfield 10, 3) := by decide +kernel
theorem dX3_maySit_14 : decode cX3_maySit 14 = .ok (.iload_n 1, 1) := by decide +kernel
theorem dX3_maySit_15 : decode cX3_maySit 15 = .ok (.iload_n 2, 1) := by decide +kernel
theorem dX3_maySit_16 : decode cX3_maySit 16 = .ok (.invokevirtual 258, 3) := by decide +kernel
theorem dX3_maySit_19 : decode cX3_maySit 19 = .ok (.ireturn, 1) := by decide +kernel
theorem dX3_isOpen_0 : decode cX3_isOpen 0 = .ok (.aload_n 0, 1) := by decide +kernel
theorem dX3_isOpen_1 : decode cX3_isOpen 1 = .ok (.iload_n 1, 1) := by decide +kernel
theorem dX3_isOpen_2 : decode cX3_isOpen 2 = .ok (.invokevirtual 107, 3) := by decide +kernel
theorem dX3_isOpen_5 : decode cX3_isOpen 5 = .ok (.aload_n 0, 1) := by decide +kernel
theorem dX3_isOpen_6 : decode cX3_isOpen 6 = .ok (.iload_n 2, 1) := by decide +kernel
theorem dX3_isOpen_7 : decode cX3_isOpen 7 = .ok (.invokevirtual 70, 3) := by decide +kernel
theorem dX3_isOpen_10 : decode cX3_isOpen 10 = .ok (.aload_n 0, 1) := by decide +kernel
theorem dX3_isOpen_11 : decode cX3_isOpen 11 = .ok (.getfield 10, 3) := by decide +kernel
theorem dX3_isOpen_14 : decode cX3_isOpen 14 = .ok (.iload_n 1, 1) := by decide +kernel
theorem dX3_isOpen_15 : decode cX3_isOpen 15 = .ok (.iload_n 2, 1) := by decide +kernel
theorem dX3_isOpen_16 : decode cX3_isOpen 16 = .ok (.invokevirtual 261, 3) := by decide +kernel
theorem dX3_isOpen_19 : decode cX3_isOpen 19 = .ok (.ireturn, 1) := by decide +kernel
theorem dX3_sit_0 : decode cX3_sit 0 = .ok (.iload_n 1, 1) := by decide +kernel
theorem dX3_sit_1 : decode cX3_sit 1 = .ok (.invokestatic 79, 3) := by decide +kernel
theorem dX3_sit_4 : decode cX3_sit 4 = .ok (.aload_n 0, 1) := by decide +kernel
theorem dX3_sit_5 : decode cX3_sit 5 = .ok (.getfield 40, 3) := by decide +kernel
theorem dX3_sit_8 : decode cX3_sit 8 = .ok (.iload_n 1, 1) := by decide +kernel
theorem dX3_sit_9 : decode cX3_sit 9 = .ok (.baload, 1) := by decide +kernel
theorem dX3_sit_10 : decode cX3_sit 10 = .ok (.ifCond .eq 14, 3) := by decide +kernel
theorem dX3_sit_13 : decode cX3_sit 13 = .ok (.new 86, 3) := by decide +kernel
theorem dX3_sit_16 : decode cX3_sit 16 = .ok (.dup, 1) := by decide +kernel
theorem dX3_sit_17 : decode cX3_sit 17 = .ok (.ldc_w 264, 3) := by decide +kernel
theorem dX3_sit_20 : decode cX3_sit 20 = .ok (.invokespecial 90, 3) := by decide +kernel
theorem dX3_sit_23 : decode cX3_sit 23 = .ok (.athrow, 1) := by decide +kernel
theorem dX3_sit_24 : decode cX3_sit 24 = .ok (.iconst 0, 1) := by decide +kernel
theorem dX3_sit_25 : decode cX3_sit 25 = .ok (.istore_n 2, 1) := by decide +kernel
theorem dX3_sit_26 : decode cX3_sit 26 = .ok (.iconst 0, 1) := by decide +kernel
theorem dX3_sit_27 : decode cX3_sit 27 = .ok (.istore_n 3, 1) := by decide +kernel
theorem dX3_sit_28 : decode cX3_sit 28 = .ok (.iload_n 3, 1) := by decide +kernel
theorem dX3_sit_29 : decode cX3_sit 29 = .ok (.aload_n 0, 1) := by decide +kernel
theorem dX3_sit_30 : decode cX3_sit 30 = .ok (.getfield 91, 3) := by decide +kernel
theorem dX3_sit_33 : decode cX3_sit 33 = .ok (.if_icmp .ge 35, 3) := by decide +kernel
theorem dX3_sit_36 : decode cX3_sit 36 = .ok (.aload_n 0, 1) := by decide +kernel
theorem dX3_sit_37 : decode cX3_sit 37 = .ok (.getfield 25, 3) := by decide +kernel
theorem dX3_sit_40 : decode cX3_sit 40 = .ok (.iload_n 3, 1) := by decide +kernel
theorem dX3_sit_41 : decode cX3_sit 41 = .ok (.aaload, 1) := by decide +kernel
theorem dX3_sit_42 : decode cX3_sit 42 = .ok (.getfield 104, 3) := by decide +kernel
theorem dX3_sit_45 : decode cX3_sit 45 = .ok (.iload_n 1, 1) := by decide +kernel
theorem dX3_sit_46 : decode cX3_sit 46 = .ok (.if_icmp .ne 16, 3) := by decide +kernel
theorem dX3_sit_49 : decode cX3_sit 49 = .ok (.iload_n 2, 1) := by decide +kernel
theorem dX3_sit_50 : decode cX3_sit 50 = .ok (.aload_n 0, 1) := by decide +kernel
theorem dX3_sit_51 : decode cX3_sit 51 = .ok (.aload_n 0, 1) := by decide +kernel
theorem dX3_sit_52 : decode cX3_sit 52 = .ok (.getfield 25, 3) := by decide +kernel
theorem dX3_sit_55 : decode cX3_sit 55 = .ok (.iload_n 3, 1) := by decide +kernel
theorem dX3_sit_56 : decode cX3_sit 56 = .ok (.aaload, 1) := by decide +kernel
theorem dX3_sit_57 : decode cX3_sit 57 = .ok (.invokevirtual 266, 3) := by decide +kernel
theorem dX3_sit_60 : decode cX3_sit 60 = .ok (.iadd, 1) := by decide +kernel
theorem dX3_sit_61 : decode cX3_sit 61 = .ok (.istore_n 2, 1) := by decide +kernel
theorem dX3_sit_62 : decode cX3_sit 62 = .ok (.iinc 3 1, 3) := by decide +kernel
theorem dX3_sit_65 : decode cX3_sit 65 = .ok (.goto (-37), 3) := by decide +kernel
theorem dX3_sit_68 : decode cX3_sit 68 = .ok (.aload_n 0, 1) := by decide +kernel
theorem dX3_sit_69 : decode cX3_sit 69 = .ok (.getfield 40, 3) := by decide +kernel
theorem dX3_sit_72 : decode cX3_sit 72 = .ok (.iload_n 1, 1) := by decide +kernel
theorem dX3_sit_73 : decode cX3_sit 73 = .ok (.iconst 1, 1) := by decide +kernel
theorem dX3_sit_74 : decode cX3_sit 74 = .ok (.bastore, 1) := by decide +kernel
theorem dX3_sit_75 : decode cX3_sit 75 = .ok (.iload_n 2, 1) := by decide +kernel
theorem dX3_sit_76 : decode cX3_sit 76 = .ok (.ireturn, 1) := by decide +kernel
theorem dX3_hasSat_0 : decode cX3_hasSat 0 = .ok (.aload_n 0, 1) := by decide +kernel
theorem dX3_hasSat_1 : decode cX3_hasSat 1 = .ok (.iload_n 1, 1) := by decide +kernel
theorem dX3_hasSat_2 : decode cX3_hasSat 2 = .ok (.invokevirtual 107, 3) := by decide +kernel
theorem dX3_hasSat_5 : decode cX3_hasSat 5 = .ok (.aload_n 0, 1) := by decide +kernel
theorem dX3_hasSat_6 : decode cX3_hasSat 6 = .ok (.iload_n 2, 1) := by decide +kernel
theorem dX3_hasSat_7 : decode cX3_hasSat 7 = .ok (.invokevirtual 70, 3) := by decide +kernel
theorem dX3_hasSat_10 : decode cX3_hasSat 10 = .ok (.aload_n 0, 1) := by decide +kernel
theorem dX3_hasSat_11 : decode cX3_hasSat 11 = .ok (.iload_n 1, 1) := by decide +kernel
theorem dX3_hasSat_12 : decode cX3_hasSat 12 = .ok (.iload_n 2, 1) := by decide +kernel
theorem dX3_hasSat_13 : decode cX3_hasSat 13 = .ok (.iload_n 3, 1) := by decide +kernel
theorem dX3_hasSat_14 : decode cX3_hasSat 14 = .ok (.invokevirtual 160, 3) := by decide +kernel
theorem dX3_hasSat_17 : decode cX3_hasSat 17 = .ok (.istore 4, 2) := by decide +kernel
theorem dX3_hasSat_19 : decode cX3_hasSat 19 = .ok (.iload 4, 2) := by decide +kernel
theorem dX3_hasSat_21 : decode cX3_hasSat 21 = .ok (.iconst (-1), 1) := by decide +kernel
theorem dX3_hasSat_22 : decode cX3_hasSat 22 = .ok (.if_icmp .eq 21, 3) := by decide +kernel
theorem dX3_hasSat_25 : decode cX3_hasSat 25 = .ok (.aload_n 0, 1) := by decide +kernel
theorem dX3_hasSat_26 : decode cX3_hasSat 26 = .ok (.aload_n 0, 1) := by decide +kernel
theorem dX3_hasSat_27 : decode cX3_hasSat 27 = .ok (.getfield 25, 3) := by decide +kernel
theorem dX3_hasSat_30 : decode cX3_hasSat 30 = .ok (.iload 4, 2) := by decide +kernel
theorem dX3_hasSat_32 : decode cX3_hasSat 32 = .ok (.aaload, 1) := by decide +kernel
theorem dX3_hasSat_33 : decode cX3_hasSat 33 = .ok (.invokevirtual 120, 3) := by decide +kernel
theorem dX3_hasSat_36 : decode cX3_hasSat 36 = .ok (.ifCond .eq 7, 3) := by decide +kernel
theorem dX3_hasSat_39 : decode cX3_hasSat 39 = .ok (.iconst 1, 1) := by decide +kernel
theorem dX3_hasSat_40 : decode cX3_hasSat 40 = .ok (.goto 4, 3) := by decide +kernel
theorem dX3_hasSat_43 : decode cX3_hasSat 43 = .ok (.iconst 0, 1) := by decide +kernel
theorem dX3_hasSat_44 : decode cX3_hasSat 44 = .ok (.ireturn, 1) := by decide +kernel
theorem dX3_more_0 : decode cX3_more 0 = .ok (.aload_n 0, 1) := by decide +kernel
theorem dX3_more_1 : decode cX3_more 1 = .ok (.iload_n 1, 1) := by decide +kernel
theorem dX3_more_2 : decode cX3_more 2 = .ok (.invokevirtual 107, 3) := by decide +kernel
theorem dX3_more_5 : decode cX3_more 5 = .ok (.iload_n 2, 1) := by decide +kernel
theorem dX3_more_6 : decode cX3_more 6 = .ok (.invokestatic 79, 3) := by decide +kernel
theorem dX3_more_9 : decode cX3_more 9 = .ok (.aload_n 0, 1) := by decide +kernel
theorem dX3_more_10 : decode cX3_more 10 = .ok (.getfield 10, 3) := by decide +kernel
theorem dX3_more_13 : decode cX3_more 13 = .ok (.iconst 2, 1) := by decide +kernel
theorem dX3_more_14 : decode cX3_more 14 = .ok (.iload_n 1, 1) := by decide +kernel
theorem dX3_more_15 : decode cX3_more 15 = .ok (.aload_n 0, 1) := by decide +kernel
theorem dX3_more_16 : decode cX3_more 16 = .ok (.iload_n 1, 1) := by decide +kernel
theorem dX3_more_17 : decode cX3_more 17 = .ok (.iload_n 2, 1) := by decide +kernel
theorem dX3_more_18 : decode cX3_more 18 = .ok (.invokevirtual 166, 3) := by decide +kernel
theorem dX3_more_21 : decode cX3_more 21 = .ok (.invokevirtual 269, 3) := by decide +kernel
theorem dX3_more_24 : decode cX3_more 24 = .ok (.ireturn, 1) := by decide +kernel
theorem dX3_takenShare_0 : decode cX3_takenShare 0 = .ok (.aload_n 0, 1) := by decide +kernel
theorem dX3_takenShare_1 : decode cX3_takenShare 1 = .ok (.getfield 91, 3) := by decide +kernel
theorem dX3_takenShare_4 : decode cX3_takenShare 4 = .ok (.ifCond .ne 14, 3) := by decide +kernel
theorem dX3_takenShare_7 : decode cX3_takenShare 7 = .ok (.new 273, 3) := by decide +kernel
theorem dX3_takenShare_10 : decode cX3_takenShare 10 = .ok (.dup, 1) := by decide +kernel
theorem dX3_takenShare_11 : decode cX3_takenShare 11 = .ok (.ldc_w 275, 3) := by decide +kernel
theorem dX3_takenShare_14 : decode cX3_takenShare 14 = .ok (.invokespecial 277, 3) := by decide +kernel
theorem dX3_takenShare_17 : decode cX3_takenShare 17 = .ok (.athrow, 1) := by decide +kernel
theorem dX3_takenShare_18 : decode cX3_takenShare 18 = .ok (.iconst 0, 1) := by decide +kernel
theorem dX3_takenShare_19 : decode cX3_takenShare 19 = .ok (.istore_n 1, 1) := by decide +kernel
theorem dX3_takenShare_20 : decode cX3_takenShare 20 = .ok (.iconst 0, 1) := by decide +kernel
theorem dX3_takenShare_21 : decode cX3_takenShare 21 = .ok (.istore_n 2, 1) := by decide +kernel
theorem dX3_takenShare_22 : decode cX3_takenShare 22 = .ok (.iconst 0, 1) := by decide +kernel
theorem dX3_takenShare_23 : decode cX3_takenShare 23 = .ok (.istore_n 3, 1) := by decide +kernel
theorem dX3_takenShare_24 : decode cX3_takenShare 24 = .ok (.iload_n 3, 1) := by decide +kernel
theorem dX3_takenShare_25 : decode cX3_takenShare 25 = .ok (.aload_n 0, 1) := by decide +kernel
theorem dX3_takenShare_26 : decode cX3_takenShare 26 = .ok (.getfield 91, 3) := by decide +kernel
theorem dX3_takenShare_29 : decode cX3_takenShare 29 = .ok (.if_icmp .ge 33, 3) := by decide +kernel
theorem dX3_takenShare_32 : decode cX3_takenShare 32 = .ok (.iload_n 1, 1) := by decide +kernel
theorem dX3_takenShare_33 : decode cX3_takenShare 33 = .ok (.aload_n 0, 1) := by decide +kernel
theorem dX3_takenShare_34 : decode cX3_takenShare 34 = .ok (.getfield 25, 3) := by decide +kernel
theorem dX3_takenShare_37 : decode cX3_takenShare 37 = .ok (.iload_n 3, 1) := by decide +kernel
theorem dX3_takenShare_38 : decode cX3_takenShare 38 = .ok (.aaload, 1) := by decide +kernel
theorem dX3_takenShare_39 : decode cX3_takenShare 39 = .ok (.invokevirtual 169, 3) := by decide +kernel
theorem dX3_takenShare_42 : decode cX3_takenShare 42 = .ok (.iadd, 1) := by decide +kernel
theorem dX3_takenShare_43 : decode cX3_takenShare 43 = .ok (.istore_n 1, 1) := by decide +kernel
theorem dX3_takenShare_44 : decode cX3_takenShare 44 = .ok (.iload_n 2, 1) := by decide +kernel
theorem dX3_takenShare_45 : decode cX3_takenShare 45 = .ok (.aload_n 0, 1) := by decide +kernel
theorem dX3_takenShare_46 : decode cX3_takenShare 46 = .ok (.getfield 25, 3) := by decide +kernel
theorem dX3_takenShare_49 : decode cX3_takenShare 49 = .ok (.iload_n 3, 1) := by decide +kernel
theorem dX3_takenShare_50 : decode cX3_takenShare 50 = .ok (.aaload, 1) := by decide +kernel
theorem dX3_takenShare_51 : decode cX3_takenShare 51 = .ok (.getfield 215, 3) := by decide +kernel
theorem dX3_takenShare_54 : decode cX3_takenShare 54 = .ok (.iadd, 1) := by decide +kernel
theorem dX3_takenShare_55 : decode cX3_takenShare 55 = .ok (.istore_n 2, 1) := by decide +kernel
theorem dX3_takenShare_56 : decode cX3_takenShare 56 = .ok (.iinc 3 1, 3) := by decide +kernel
theorem dX3_takenShare_59 : decode cX3_takenShare 59 = .ok (.goto (-35), 3) := by decide +kernel
theorem dX3_takenShare_62 : decode cX3_takenShare 62 = .ok (.iload_n 1, 1) := by decide +kernel
theorem dX3_takenShare_63 : decode cX3_takenShare 63 = .ok (.i2f, 1) := by decide +kernel
theorem dX3_takenShare_64 : decode cX3_takenShare 64 = .ok (.iload_n 2, 1) := by decide +kernel
theorem dX3_takenShare_65 : decode cX3_takenShare 65 = .ok (.i2f, 1) := by decide +kernel
theorem dX3_takenShare_66 : decode cX3_takenShare 66 = .ok (.fdiv, 1) := by decide +kernel
theorem dX3_takenShare_67 : decode cX3_takenShare 67 = .ok (.freturn, 1) := by decide +kernel
theorem dX3_meanPoints_0 : decode cX3_meanPoints 0 = .ok (.aload_n 0, 1) := by decide +kernel
theorem dX3_meanPoints_1 : decode cX3_meanPoints 1 = .ok (.getfield 65, 3) := by decide +kernel
theorem dX3_meanPoints_4 : decode cX3_meanPoints 4 = .ok (.ifCond .ne 14, 3) := by decide +kernel
theorem dX3_meanPoints_7 : decode cX3_meanPoints 7 = .ok (.new 273, 3) := by decide +kernel
theorem dX3_meanPoints_10 : decode cX3_meanPoints 10 = .ok (.dup, 1) := by decide +kernel
theorem dX3_meanPoints_11 : decode cX3_meanPoints 11 = .ok (.ldc_w 278, 3) := by decide +kernel
theorem dX3_meanPoints_14 : decode cX3_meanPoints 14 = .ok (.invokespecial 277, 3) := by decide +kernel
theorem dX3_meanPoints_17 : decode cX3_meanPoints 17 = .ok (.athrow, 1) := by decide +kernel
theorem dX3_meanPoints_18 : decode cX3_meanPoints 18 = .ok (.iconst 0, 1) := by decide +kernel
theorem dX3_meanPoints_19 : decode cX3_meanPoints 19 = .ok (.istore_n 1, 1) := by decide +kernel
theorem dX3_meanPoints_20 : decode cX3_meanPoints 20 = .ok (.iconst 0, 1) := by decide +kernel
theorem dX3_meanPoints_21 : decode cX3_meanPoints 21 = .ok (.istore_n 2, 1) := by decide +kernel
theorem dX3_meanPoints_22 : decode cX3_meanPoints 22 = .ok (.iload_n 2, 1) := by decide +kernel
theorem dX3_meanPoints_23 : decode cX3_meanPoints 23 = .ok (.aload_n 0, 1) := by decide +kernel
theorem dX3_meanPoints_24 : decode cX3_meanPoints 24 = .ok (.getfield 65, 3) := by decide +kernel
theorem dX3_meanPoints_27 : decode cX3_meanPoints 27 = .ok (.if_icmp .ge 18, 3) := by decide +kernel
theorem dX3_meanPoints_30 : decode cX3_meanPoints 30 = .ok (.iload_n 1, 1) := by decide +kernel
theorem dX3_meanPoints_31 : decode cX3_meanPoints 31 = .ok (.aload_n 0, 1) := by decide +kernel
theorem dX3_meanPoints_32 : decode cX3_meanPoints 32 = .ok (.getfield 34, 3) := by decide +kernel
theorem dX3_meanPoints_35 : decode cX3_meanPoints 35 = .ok (.iload_n 2, 1) := by decide +kernel
theorem dX3_meanPoints_36 : decode cX3_meanPoints 36 = .ok (.iaload, 1) := by decide +kernel
theorem dX3_meanPoints_37 : decode cX3_meanPoints 37 = .ok (.iadd, 1) := by decide +kernel
theorem dX3_meanPoints_38 : decode cX3_meanPoints 38 = .ok (.istore_n 1, 1) := by decide +kernel
theorem dX3_meanPoints_39 : decode cX3_meanPoints 39 = .ok (.iinc 2 1, 3) := by decide +kernel
theorem dX3_meanPoints_42 : decode cX3_meanPoints 42 = .ok (.goto (-20), 3) := by decide +kernel
theorem dX3_meanPoints_45 : decode cX3_meanPoints 45 = .ok (.iload_n 1, 1) := by decide +kernel
theorem dX3_meanPoints_46 : decode cX3_meanPoints 46 = .ok (.i2d, 1) := by decide +kernel
theorem dX3_meanPoints_47 : decode cX3_meanPoints 47 = .ok (.aload_n 0, 1) := by decide +kernel
theorem dX3_meanPoints_48 : decode cX3_meanPoints 48 = .ok (.getfield 65, 3) := by decide +kernel
theorem dX3_meanPoints_51 : decode cX3_meanPoints 51 = .ok (.i2d, 1) := by decide +kernel
theorem dX3_meanPoints_52 : decode cX3_meanPoints 52 = .ok (.ddiv, 1) := by decide +kernel
theorem dX3_meanPoints_53 : decode cX3_meanPoints 53 = .ok (.dreturn, 1) := by decide +kernel
theorem dX3_isTrue_0 : decode cX3_isTrue 0 = .ok (.iconst 0, 1) := by decide +kernel
theorem dX3_isTrue_1 : decode cX3_isTrue 1 = .ok (.istore_n 1, 1) := by decide +kernel
theorem dX3_isTrue_2 : decode cX3_isTrue 2 = .ok (.iload_n 1, 1) := by decide +kernel
theorem dX3_isTrue_3 : decode cX3_isTrue 3 = .ok (.aload_n 0, 1) := by decide +kernel
theorem dX3_isTrue_4 : decode cX3_isTrue 4 = .ok (.getfield 65, 3) := by decide +kernel
theorem dX3_isTrue_7 : decode cX3_isTrue 7 = .ok (.if_icmp .ge 27, 3) := by decide +kernel
theorem dX3_isTrue_10 : decode cX3_isTrue 10 = .ok (.aload_n 0, 1) := by decide +kernel
theorem dX3_isTrue_11 : decode cX3_isTrue 11 = .ok (.iload_n 1, 1) := by decide +kernel
theorem dX3_isTrue_12 : decode cX3_isTrue 12 = .ok (.invokevirtual 280, 3) := by decide +kernel
theorem dX3_isTrue_15 : decode cX3_isTrue 15 = .ok (.ifCond .ne 11, 3) := by decide +kernel
theorem dX3_isTrue_18 : decode cX3_isTrue 18 = .ok (.aload_n 0, 1) := by decide +kernel
theorem dX3_isTrue_19 : decode cX3_isTrue 19 = .ok (.iload_n 1, 1) := by decide +kernel
theorem dX3_isTrue_20 : decode cX3_isTrue 20 = .ok (.invokevirtual 283, 3) := by decide +kernel
theorem dX3_isTrue_23 : decode cX3_isTrue 23 = .ok (.ifCond .ne 5, 3) := by decide +kernel
theorem dX3_isTrue_26 : decode cX3_isTrue 26 = .ok (.iconst 0, 1) := by decide +kernel
theorem dX3_isTrue_27 : decode cX3_isTrue 27 = .ok (.ireturn, 1) := by decide +kernel
theorem dX3_isTrue_28 : decode cX3_isTrue 28 = .ok (.iinc 1 1, 3) := by decide +kernel
theorem dX3_isTrue_31 : decode cX3_isTrue 31 = .ok (.goto (-29), 3) := by decide +kernel
theorem dX3_isTrue_34 : decode cX3_isTrue 34 = .ok (.iconst 0, 1) := by decide +kernel
theorem dX3_isTrue_35 : decode cX3_isTrue 35 = .ok (.istore_n 1, 1) := by decide +kernel
theorem dX3_isTrue_36 : decode cX3_isTrue 36 = .ok (.iload_n 1, 1) := by decide +kernel
theorem dX3_isTrue_37 : decode cX3_isTrue 37 = .ok (.aload_n 0, 1) := by decide +kernel
theorem dX3_isTrue_38 : decode cX3_isTrue 38 = .ok (.getfield 91, 3) := by decide +kernel
theorem dX3_isTrue_41 : decode cX3_isTrue 41 = .ok (.if_icmp .ge 52, 3) := by decide +kernel
theorem dX3_isTrue_44 : decode cX3_isTrue 44 = .ok (.aload_n 0, 1) := by decide +kernel
theorem dX3_isTrue_45 : decode cX3_isTrue 45 = .ok (.getfield 25, 3) := by decide +kernel
theorem dX3_isTrue_48 : decode cX3_isTrue 48 = .ok (.iload_n 1, 1) := by decide +kernel
theorem dX3_isTrue_49 : decode cX3_isTrue 49 = .ok (.aaload, 1) := by decide +kernel
theorem dX3_isTrue_50 : decode cX3_isTrue 50 = .ok (.invokevirtual 169, 3) := by decide +kernel
theorem dX3_isTrue_53 : decode cX3_isTrue 53 = .ok (.aload_n 0, 1) := by decide +kernel
theorem dX3_isTrue_54 : decode cX3_isTrue 54 = .ok (.getfield 25, 3) := by decide +kernel
theorem dX3_isTrue_57 : decode cX3_isTrue 57 = .ok (.iload_n 1, 1) := by decide +kernel
theorem dX3_isTrue_58 : decode cX3_isTrue 58 = .ok (.aaload, 1) := by decide +kernel
theorem dX3_isTrue_59 : decode cX3_isTrue 59 = .ok (.getfield 215, 3) := by decide +kernel
theorem dX3_isTrue_62 : decode cX3_isTrue 62 = .ok (.if_icmp .gt 23, 3) := by decide +kernel
theorem dX3_isTrue_65 : decode cX3_isTrue 65 = .ok (.aload_n 0, 1) := by decide +kernel
theorem dX3_isTrue_66 : decode cX3_isTrue 66 = .ok (.getfield 25, 3) := by decide +kernel
theorem dX3_isTrue_69 : decode cX3_isTrue 69 = .ok (.iload_n 1, 1) := by decide +kernel
theorem dX3_isTrue_70 : decode cX3_isTrue 70 = .ok (.aaload, 1) := by decide +kernel
theorem dX3_isTrue_71 : decode cX3_isTrue 71 = .ok (.invokevirtual 286, 3) := by decide +kernel
theorem dX3_isTrue_74 : decode cX3_isTrue 74 = .ok (.ifCond .ne 11, 3) := by decide +kernel
theorem dX3_isTrue_77 : decode cX3_isTrue 77 = .ok (.aload_n 0, 1) := by decide +kernel
theorem dX3_isTrue_78 : decode cX3_isTrue 78 = .ok (.iload_n 1, 1) := by decide +kernel
theorem dX3_isTrue_79 : decode cX3_isTrue 79 = .ok (.invokevirtual 290, 3) := by decide +kernel
theorem dX3_isTrue_82 : decode cX3_isTrue 82 = .ok (.ifCond .eq 5, 3) := by decide +kernel
theorem dX3_isTrue_85 : decode cX3_isTrue 85 = .ok (.iconst 0, 1) := by decide +kernel
theorem dX3_isTrue_86 : decode cX3_isTrue 86 = .ok (.ireturn, 1) := by decide +kernel
theorem dX3_isTrue_87 : decode cX3_isTrue 87 = .ok (.iinc 1 1, 3) := by decide +kernel
theorem dX3_isTrue_90 : decode cX3_isTrue 90 = .ok (.goto (-54), 3) := by decide +kernel
theorem dX3_isTrue_93 : decode cX3_isTrue 93 = .ok (.iconst 1, 1) := by decide +kernel
theorem dX3_isTrue_94 : decode cX3_isTrue 94 = .ok (.ireturn, 1) := by decide +kernel
theorem dX3_needPupil_0 : decode cX3_needPupil 0 = .ok (.iload_n 1, 1) := by decide +kernel
theorem dX3_needPupil_1 : decode cX3_needPupil 1 = .ok (.ifCond .lt 11, 3) := by decide +kernel
theorem dX3_needPupil_4 : decode cX3_needPupil 4 = .ok (.iload_n 1, 1) := by decide +kernel
theorem dX3_needPupil_5 : decode cX3_needPupil 5 = .ok (.aload_n 0, 1) := by decide +kernel
theorem dX3_needPupil_6 : decode cX3_needPupil 6 = .ok (.getfield 65, 3) := by decide +kernel
theorem dX3_needPupil_9 : decode cX3_needPupil 9 = .ok (.if_icmp .lt 14, 3) := by decide +kernel
theorem dX3_needPupil_12 : decode cX3_needPupil 12 = .ok (.new 74, 3) := by decide +kernel
theorem dX3_needPupil_15 : decode cX3_needPupil 15 = .ok (.dup, 1) := by decide +kernel
theorem dX3_needPupil_16 : decode cX3_needPupil 16 = .ok (.ldc_w 293, 3) := by decide +kernel
theorem dX3_needPupil_19 : decode cX3_needPupil 19 = .ok (.invokespecial 78, 3) := by decide +kernel
theorem dX3_needPupil_22 : decode cX3_needPupil 22 = .ok (.athrow, 1) := by decide +kernel
theorem dX3_needPupil_23 : decode cX3_needPupil 23 = .ok (.return_, 1) := by decide +kernel
theorem dX3_needExam_0 : decode cX3_needExam 0 = .ok (.iload_n 1, 1) := by decide +kernel
theorem dX3_needExam_1 : decode cX3_needExam 1 = .ok (.ifCond .lt 11, 3) := by decide +kernel
theorem dX3_needExam_4 : decode cX3_needExam 4 = .ok (.iload_n 1, 1) := by decide +kernel
theorem dX3_needExam_5 : decode cX3_needExam 5 = .ok (.aload_n 0, 1) := by decide +kernel
theorem dX3_needExam_6 : decode cX3_needExam 6 = .ok (.getfield 60, 3) := by decide +kernel
theorem dX3_needExam_9 : decode cX3_needExam 9 = .ok (.if_icmp .lt 14, 3) := by decide +kernel
theorem dX3_needExam_12 : decode cX3_needExam 12 = .ok (.new 74, 3) := by decide +kernel
theorem dX3_needExam_15 : decode cX3_needExam 15 = .ok (.dup, 1) := by decide +kernel
theorem dX3_needExam_16 : decode cX3_needExam 16 = .ok (.ldc_w 295, 3) := by decide +kernel
theorem dX3_needExam_19 : decode cX3_needExam 19 = .ok (.invokespecial 78, 3) := by decide +kernel
theorem dX3_needExam_22 : decode cX3_needExam 22 = .ok (.athrow, 1) := by decide +kernel
theorem dX3_needExam_23 : decode cX3_needExam 23 = .ok (.return_, 1) := by decide +kernel
theorem dX3_needOffer_0 : decode cX3_needOffer 0 = .ok (.iload_n 1, 1) := by decide +kernel
theorem dX3_needOffer_1 : decode cX3_needOffer 1 = .ok (.ifCond .lt 11, 3) := by decide +kernel
theorem dX3_needOffer_4 : decode cX3_needOffer 4 = .ok (.iload_n 1, 1) := by decide +kernel
theorem dX3_needOffer_5 : decode cX3_needOffer 5 = .ok (.aload_n 0, 1) := by decide +kernel
theorem dX3_needOffer_6 : decode cX3_needOffer 6 = .ok (.getfield 91, 3) := by decide +kernel
theorem dX3_needOffer_9 : decode cX3_needOffer 9 = .ok (.if_icmp .lt 14, 3) := by decide +kernel
theorem dX3_needOffer_12 : decode cX3_needOffer 12 = .ok (.new 74, 3) := by decide +kernel
theorem dX3_needOffer_15 : decode cX3_needOffer 15 = .ok (.dup, 1) := by decide +kernel
theorem dX3_needOffer_16 : decode cX3_needOffer 16 = .ok (.ldc_w 297, 3) := by decide +kernel
theorem dX3_needOffer_19 : decode cX3_needOffer 19 = .ok (.invokespecial 78, 3) := by decide +kernel
theorem dX3_needOffer_22 : decode cX3_needOffer 22 = .ok (.athrow, 1) := by decide +kernel
theorem dX3_needOffer_23 : decode cX3_needOffer 23 = .ok (.return_, 1) := by decide +kernel
theorem dX3_offerNumbered_0 : decode cX3_offerNumbered 0 = .ok (.aload_n 0, 1) := by decide +kernel
theorem dX3_offerNumbered_1 : decode cX3_offerNumbered 1 = .ok (.iload_n 1, 1) := by decide +kernel
theorem dX3_offerNumbered_2 : decode cX3_offerNumbered 2 = .ok (.invokevirtual 134, 3) := by decide +kernel
theorem dX3_offerNumbered_5 : decode cX3_offerNumbered 5 = .ok (.aload_n 0, 1) := by decide +kernel
theorem dX3_offerNumbered_6 : decode cX3_offerNumbered 6 = .ok (.getfield 25, 3) := by decide +kernel
theorem dX3_offerNumbered_9 : decode cX3_offerNumbered 9 = .ok (.iload_n 1, 1) := by decide +kernel
theorem dX3_offerNumbered_10 : decode cX3_offerNumbered 10 = .ok (.aaload, 1) := by decide +kernel
theorem dX3_offerNumbered_11 : decode cX3_offerNumbered 11 = .ok (.areturn, 1) := by decide +kernel
theorem dX3_needStore_0 : decode cX3_needStore 0 = .ok (.iload_n 0, 1) := by decide +kernel
theorem dX3_needStore_1 : decode cX3_needStore 1 = .ok (.ifCond .lt 8, 3) := by decide +kernel
theorem dX3_needStore_4 : decode cX3_needStore 4 = .ok (.iload_n 0, 1) := by decide +kernel
theorem dX3_needStore_5 : decode cX3_needStore 5 = .ok (.iconst 3, 1) := by decide +kernel
theorem dX3_needStore_6 : decode cX3_needStore 6 = .ok (.if_icmp .lt 14, 3) := by decide +kernel
theorem dX3_needStore_9 : decode cX3_needStore 9 = .ok (.new 74, 3) := by decide +kernel
theorem dX3_needStore_12 : decode cX3_needStore 12 = .ok (.dup, 1) := by decide +kernel
theorem dX3_needStore_13 : decode cX3_needStore 13 = .ok (.ldc_w 299, 3) := by decide +kernel
theorem dX3_needStore_16 : decode cX3_needStore 16 = .ok (.invokespecial 78, 3) := by decide +kernel
theorem dX3_needStore_19 : decode cX3_needStore 19 = .ok (.athrow, 1) := by decide +kernel
theorem dX3_needStore_20 : decode cX3_needStore 20 = .ok (.return_, 1) := by decide +kernel
theorem dX3_needSlot_0 : decode cX3_needSlot 0 = .ok (.iload_n 0, 1) := by decide +kernel
theorem dX3_needSlot_1 : decode cX3_needSlot 1 = .ok (.ifCond .lt 9, 3) := by decide +kernel
theorem dX3_needSlot_4 : decode cX3_needSlot 4 = .ok (.iload_n 0, 1) := by decide +kernel
theorem dX3_needSlot_5 : decode cX3_needSlot 5 = .ok (.bipush 6, 2) := by decide +kernel
theorem dX3_needSlot_7 : decode cX3_needSlot 7 = .ok (.if_icmp .lt 14, 3) := by decide +kernel
theorem dX3_needSlot_10 : decode cX3_needSlot 10 = .ok (.new 44, 3) := by decide +kernel
theorem dX3_needSlot_13 : decode cX3_needSlot 13 = .ok (.dup, 1) := by decide +kernel
theorem dX3_needSlot_14 : decode cX3_needSlot 14 = .ok (.ldc_w 301, 3) := by decide +kernel
theorem dX3_needSlot_17 : decode cX3_needSlot 17 = .ok (.invokespecial 48, 3) := by decide +kernel
theorem dX3_needSlot_20 : decode cX3_needSlot 20 = .ok (.athrow, 1) := by decide +kernel
theorem dX3_needSlot_21 : decode cX3_needSlot 21 = .ok (.return_, 1) := by decide +kernel
theorem dX3_fieldNumbered_0 : decode cX3_fieldNumbered 0 = .ok (.iload_n 0, 1) := by decide +kernel
theorem dX3_fieldNumbered_1 : decode cX3_fieldNumbered 1 = .ok (.bipush 114, 2) := by decide +kernel
theorem dX3_fieldNumbered_3 : decode cX3_fieldNumbered 3 = .ok (.if_icmp .ne 5, 3) := by decide +kernel
theorem dX3_fieldNumbered_6 : decode cX3_fieldNumbered 6 = .ok (.iconst 0, 1) := by decide +kernel
theorem dX3_fieldNumbered_7 : decode cX3_fieldNumbered 7 = .ok (.ireturn, 1) := by decide +kernel
theorem dX3_fieldNumbered_8 : decode cX3_fieldNumbered 8 = .ok (.iload_n 0, 1) := by decide +kernel
theorem dX3_fieldNumbered_9 : decode cX3_fieldNumbered 9 = .ok (.bipush 109, 2) := by decide +kernel
theorem dX3_fieldNumbered_11 : decode cX3_fieldNumbered 11 = .ok (.if_icmp .ne 5, 3) := by decide +kernel
theorem dX3_fieldNumbered_14 : decode cX3_fieldNumbered 14 = .ok (.iconst 1, 1) := by decide +kernel
theorem dX3_fieldNumbered_15 : decode cX3_fieldNumbered 15 = .ok (.ireturn, 1) := by decide +kernel
theorem dX3_fieldNumbered_16 : decode cX3_fieldNumbered 16 = .ok (.iload_n 0, 1) := by decide +kernel
theorem dX3_fieldNumbered_17 : decode cX3_fieldNumbered 17 = .ok (.bipush 120, 2) := by decide +kernel
theorem dX3_fieldNumbered_19 : decode cX3_fieldNumbered 19 = .ok (.if_icmp .ne 5, 3) := by decide +kernel
theorem dX3_fieldNumbered_22 : decode cX3_fieldNumbered 22 = .ok (.iconst 2, 1) := by decide +kernel
theorem dX3_fieldNumbered_23 : decode cX3_fieldNumbered 23 = .ok (.ireturn, 1) := by decide +kernel
theorem dX3_fieldNumbered_24 : decode cX3_fieldNumbered 24 = .ok (.new 44, 3) := by decide +kernel
theorem dX3_fieldNumbered_27 : decode cX3_fieldNumbered 27 = .ok (.dup, 1) := by decide +kernel
theorem dX3_fieldNumbered_28 : decode cX3_fieldNumbered 28 = .ok (.ldc_w 303, 3) := by decide +kernel
theorem dX3_fieldNumbered_31 : decode cX3_fieldNumbered 31 = .ok (.invokespecial 48, 3) := by decide +kernel
theorem dX3_fieldNumbered_34 : decode cX3_fieldNumbered 34 = .ok (.athrow, 1) := by decide +kernel
theorem dX3_isClosed_0 : decode cX3_isClosed 0 = .ok (.aload_n 0, 1) := by decide +kernel
theorem dX3_isClosed_1 : decode cX3_isClosed 1 = .ok (.getfield 40, 3) := by decide +kernel
theorem dX3_isClosed_4 : decode cX3_isClosed 4 = .ok (.aload_n 1, 1) := by decide +kernel
theorem dX3_isClosed_5 : decode cX3_isClosed 5 = .ok (.getfield 104, 3) := by decide +kernel
theorem dX3_isClosed_8 : decode cX3_isClosed 8 = .ok (.baload, 1) := by decide +kernel
theorem dX3_isClosed_9 : decode cX3_isClosed 9 = .ok (.ireturn, 1) := by decide +kernel
theorem dX3_isRoomTaken_0 : decode cX3_isRoomTaken 0 = .ok (.iconst 0, 1) := by decide +kernel
theorem dX3_isRoomTaken_1 : decode cX3_isRoomTaken 1 = .ok (.istore_n 3, 1) := by decide +kernel
theorem dX3_isRoomTaken_2 : decode cX3_isRoomTaken 2 = .ok (.iload_n 3, 1) := by decide +kernel
theorem dX3_isRoomTaken_3 : decode cX3_isRoomTaken 3 = .ok (.aload_n 0, 1) := by decide +kernel
theorem dX3_isRoomTaken_4 : decode cX3_isRoomTaken 4 = .ok (.getfield 91, 3) := by decide +kernel
theorem dX3_isRoomTaken_7 : decode cX3_isRoomTaken 7 = .ok (.if_icmp .ge 37, 3) := by decide +kernel
theorem dX3_isRoomTaken_10 : decode cX3_isRoomTaken 10 = .ok (.aload_n 0, 1) := by decide +kernel
theorem dX3_isRoomTaken_11 : decode cX3_isRoomTaken 11 = .ok (.getfield 25, 3) := by decide +kernel
theorem dX3_isRoomTaken_14 : decode cX3_isRoomTaken 14 = .ok (.iload_n 3, 1) := by decide +kernel
theorem dX3_isRoomTaken_15 : decode cX3_isRoomTaken 15 = .ok (.aaload, 1) := by decide +kernel
theorem dX3_isRoomTaken_16 : decode cX3_isRoomTaken 16 = .ok (.getfield 207, 3) := by decide +kernel
theorem dX3_isRoomTaken_19 : decode cX3_isRoomTaken 19 = .ok (.iload_n 1, 1) := by decide +kernel
theorem dX3_isRoomTaken_20 : decode cX3_isRoomTaken 20 = .ok (.if_icmp .ne 18, 3) := by decide +kernel
theorem dX3_isRoomTaken_23 : decode cX3_isRoomTaken 23 = .ok (.aload_n 0, 1) := by decide +kernel
theorem dX3_isRoomTaken_24 : decode cX3_isRoomTaken 24 = .ok (.getfield 25, 3) := by decide +kernel
theorem dX3_isRoomTaken_27 : decode cX3_isRoomTaken 27 = .ok (.iload_n 3, 1) := by decide +kernel
theorem dX3_isRoomTaken_28 : decode cX3_isRoomTaken 28 = .ok (.aaload, 1) := by decide +kernel
theorem dX3_isRoomTaken_29 : decode cX3_isRoomTaken 29 = .ok (.getfield 104, 3) := by decide +kernel
theorem dX3_isRoomTaken_32 : decode cX3_isRoomTaken 32 = .ok (.iload_n 2, 1) := by decide +kernel
theorem dX3_isRoomTaken_33 : decode cX3_isRoomTaken 33 = .ok (.if_icmp .ne 5, 3) := by decide +kernel
theorem dX3_isRoomTaken_36 : decode cX3_isRoomTaken 36 = .ok (.iconst 1, 1) := by decide +kernel
theorem dX3_isRoomTaken_37 : decode cX3_isRoomTaken 37 = .ok (.ireturn, 1) := by decide +kernel
theorem dX3_isRoomTaken_38 : decode cX3_isRoomTaken 38 = .ok (.iinc 3 1, 3) := by decide +kernel
theorem dX3_isRoomTaken_41 : decode cX3_isRoomTaken 41 = .ok (.goto (-39), 3) := by decide +kernel
theorem dX3_isRoomTaken_44 : decode cX3_isRoomTaken 44 = .ok (.iconst 0, 1) := by decide +kernel
theorem dX3_isRoomTaken_45 : decode cX3_isRoomTaken 45 = .ok (.ireturn, 1) := by decide +kernel
theorem dX3_offerHeldFor_0 : decode cX3_offerHeldFor 0 = .ok (.iconst 0, 1) := by decide +kernel
theorem dX3_offerHeldFor_1 : decode cX3_offerHeldFor 1 = .ok (.istore 4, 2) := by decide +kernel
theorem dX3_offerHeldFor_3 : decode cX3_offerHeldFor 3 = .ok (.iload 4, 2) := by decide +kernel
theorem dX3_offerHeldFor_5 : decode cX3_offerHeldFor 5 = .ok (.aload_n 0, 1) := by decide +kernel
theorem dX3_offerHeldFor_6 : decode cX3_offerHeldFor 6 = .ok (.getfield 91, 3) := by decide +kernel
theorem dX3_offerHeldFor_9 : decode cX3_offerHeldFor 9 = .ok (.if_icmp .ge 41, 3) := by decide +kernel
theorem dX3_offerHeldFor_12 : decode cX3_offerHeldFor 12 = .ok (.aload_n 0, 1) := by decide +kernel
theorem dX3_offerHeldFor_13 : decode cX3_offerHeldFor 13 = .ok (.getfield 25, 3) := by decide +kernel
theorem dX3_offerHeldFor_16 : decode cX3_offerHeldFor 16 = .ok (.iload 4, 2) := by decide +kernel
theorem dX3_offerHeldFor_18 : decode cX3_offerHeldFor 18 = .ok (.aaload, 1) := by decide +kernel
theorem dX3_offerHeldFor_19 : decode cX3_offerHeldFor 19 = .ok (.iload_n 2, 1) := by decide +kernel
theorem dX3_offerHeldFor_20 : decode cX3_offerHeldFor 20 = .ok (.iload_n 3, 1) := by decide +kernel
theorem dX3_offerHeldFor_21 : decode cX3_offerHeldFor 21 = .ok (.invokevirtual 305, 3) := by decide +kernel
theorem dX3_offerHeldFor_24 : decode cX3_offerHeldFor 24 = .ok (.ifCond .eq 20, 3) := by decide +kernel
theorem dX3_offerHeldFor_27 : decode cX3_offerHeldFor 27 = .ok (.aload_n 0, 1) := by decide +kernel
theorem dX3_offerHeldFor_28 : decode cX3_offerHeldFor 28 = .ok (.getfield 25, 3) := by decide +kernel
theorem dX3_offerHeldFor_31 : decode cX3_offerHeldFor 31 = .ok (.iload 4, 2) := by decide +kernel
theorem dX3_offerHeldFor_33 : decode cX3_offerHeldFor 33 = .ok (.aaload, 1) := by decide +kernel
theorem dX3_offerHeldFor_34 : decode cX3_offerHeldFor 34 = .ok (.iload_n 1, 1) := by decide +kernel
theorem dX3_offerHeldFor_35 : decode cX3_offerHeldFor 35 = .ok (.invokevirtual 178, 3) := by decide +kernel
theorem dX3_offerHeldFor_38 : decode cX3_offerHeldFor 38 = .ok (.ifCond .eq 6, 3) := by decide +kernel
theorem dX3_offerHeldFor_41 : decode cX3_offerHeldFor 41 = .ok (.iload 4, 2) := by decide +kernel
theorem dX3_offerHeldFor_43 : decode cX3_offerHeldFor 43 = .ok (.ireturn, 1) := by decide +kernel
theorem dX3_offerHeldFor_44 : decode cX3_offerHeldFor 44 = .ok (.iinc 4 1, 3) := by decide +kernel
theorem dX3_offerHeldFor_47 : decode cX3_offerHeldFor 47 = .ok (.goto (-44), 3) := by decide +kernel
theorem dX3_offerHeldFor_50 : decode cX3_offerHeldFor 50 = .ok (.iconst (-1), 1) := by decide +kernel
theorem dX3_offerHeldFor_51 : decode cX3_offerHeldFor 51 = .ok (.ireturn, 1) := by decide +kernel
theorem dX3_offerHeldAt_0 : decode cX3_offerHeldAt 0 = .ok (.iconst 0, 1) := by decide +kernel
theorem dX3_offerHeldAt_1 : decode cX3_offerHeldAt 1 = .ok (.istore_n 3, 1) := by decide +kernel
theorem dX3_offerHeldAt_2 : decode cX3_offerHeldAt 2 = .ok (.iload_n 3, 1) := by decide +kernel
theorem dX3_offerHeldAt_3 : decode cX3_offerHeldAt 3 = .ok (.aload_n 0, 1) := by decide +kernel
theorem dX3_offerHeldAt_4 : decode cX3_offerHeldAt 4 = .ok (.getfield 91, 3) := by decide +kernel
theorem dX3_offerHeldAt_7 : decode cX3_offerHeldAt 7 = .ok (.if_icmp .ge 37, 3) := by decide +kernel
theorem dX3_offerHeldAt_10 : decode cX3_offerHeldAt 10 = .ok (.aload_n 0, 1) := by decide +kernel
theorem dX3_offerHeldAt_11 : decode cX3_offerHeldAt 11 = .ok (.getfield 25, 3) := by decide +kernel
theorem dX3_offerHeldAt_14 : decode cX3_offerHeldAt 14 = .ok (.iload_n 3, 1) := by decide +kernel
theorem dX3_offerHeldAt_15 : decode cX3_offerHeldAt 15 = .ok (.aaload, 1) := by decide +kernel
theorem dX3_offerHeldAt_16 : decode cX3_offerHeldAt 16 = .ok (.getfield 104, 3) := by decide +kernel
theorem dX3_offerHeldAt_19 : decode cX3_offerHeldAt 19 = .ok (.iload_n 2, 1) := by decide +kernel
theorem dX3_offerHeldAt_20 : decode cX3_offerHeldAt 20 = .ok (.if_icmp .ne 18, 3) := by decide +kernel
theorem dX3_offerHeldAt_23 : decode cX3_offerHeldAt 23 = .ok (.aload_n 0, 1) := by decide +kernel
theorem dX3_offerHeldAt_24 : decode cX3_offerHeldAt 24 = .ok (.getfield 25, 3) := by decide +kernel
theorem dX3_offerHeldAt_27 : decode cX3_offerHeldAt 27 = .ok (.iload_n 3, 1) := by decide +kernel
theorem dX3_offerHeldAt_28 : decode cX3_offerHeldAt 28 = .ok (.aaload, 1) := by decide +kernel
theorem dX3_offerHeldAt_29 : decode cX3_offerHeldAt 29 = .ok (.iload_n 1, 1) := by decide +kernel
theorem dX3_offerHeldAt_30 : decode cX3_offerHeldAt 30 = .ok (.invokevirtual 178, 3) := by decide +kernel
theorem dX3_offerHeldAt_33 : decode cX3_offerHeldAt 33 = .ok (.ifCond .eq 5, 3) := by decide +kernel
theorem dX3_offerHeldAt_36 : decode cX3_offerHeldAt 36 = .ok (.iload_n 3, 1) := by decide +kernel
theorem dX3_offerHeldAt_37 : decode cX3_offerHeldAt 37 = .ok (.ireturn, 1) := by decide +kernel
theorem dX3_offerHeldAt_38 : decode cX3_offerHeldAt 38 = .ok (.iinc 3 1, 3) := by decide +kernel
theorem dX3_offerHeldAt_41 : decode cX3_offerHeldAt 41 = .ok (.goto (-39), 3) := by decide +kernel
theorem dX3_offerHeldAt_44 : decode cX3_offerHeldAt 44 = .ok (.iconst (-1), 1) := by decide +kernel
theorem dX3_offerHeldAt_45 : decode cX3_offerHeldAt 45 = .ok (.ireturn, 1) := by decide +kernel
theorem dX3_examHeldAt_0 : decode cX3_examHeldAt 0 = .ok (.aload_n 0, 1) := by decide +kernel
theorem dX3_examHeldAt_1 : decode cX3_examHeldAt 1 = .ok (.iload_n 1, 1) := by decide +kernel
theorem dX3_examHeldAt_2 : decode cX3_examHeldAt 2 = .ok (.iload_n 2, 1) := by decide +kernel
theorem dX3_examHeldAt_3 : decode cX3_examHeldAt 3 = .ok (.invokevirtual 309, 3) := by decide +kernel
theorem dX3_examHeldAt_6 : decode cX3_examHeldAt 6 = .ok (.istore_n 3, 1) := by decide +kernel
theorem dX3_examHeldAt_7 : decode cX3_examHeldAt 7 = .ok (.iload_n 3, 1) := by decide +kernel
theorem dX3_examHeldAt_8 : decode cX3_examHeldAt 8 = .ok (.iconst (-1), 1) := by decide +kernel
theorem dX3_examHeldAt_9 : decode cX3_examHeldAt 9 = .ok (.if_icmp .ne 14, 3) := by decide +kernel
theorem dX3_examHeldAt_12 : decode cX3_examHeldAt 12 = .ok (.new 137, 3) := by decide +kernel
theorem dX3_examHeldAt_15 : decode cX3_examHeldAt 15 = .ok (.dup, 1) := by decide +kernel
theorem dX3_examHeldAt_16 : decode cX3_examHeldAt 16 = .ok (.ldc_w 312, 3) := by decide +kernel
theorem dX3_examHeldAt_19 : decode cX3_examHeldAt 19 = .ok (.invokespecial 141, 3) := by decide +kernel
theorem dX3_examHeldAt_22 : decode cX3_examHeldAt 22 = .ok (.athrow, 1) := by decide +kernel
theorem dX3_examHeldAt_23 : decode cX3_examHeldAt 23 = .ok (.aload_n 0, 1) := by decide +kernel
theorem dX3_examHeldAt_24 : decode cX3_examHeldAt 24 = .ok (.getfield 25, 3) := by decide +kernel
theorem dX3_examHeldAt_27 : decode cX3_examHeldAt 27 = .ok (.iload_n 3, 1) := by decide +kernel
theorem dX3_examHeldAt_28 : decode cX3_examHeldAt 28 = .ok (.aaload, 1) := by decide +kernel
theorem dX3_examHeldAt_29 : decode cX3_examHeldAt 29 = .ok (.getfield 314, 3) := by decide +kernel
theorem dX3_examHeldAt_32 : decode cX3_examHeldAt 32 = .ok (.ireturn, 1) := by decide +kernel
theorem dX3_mayHaveSeat_0 : decode cX3_mayHaveSeat 0 = .ok (.aload_n 0, 1) := by decide +kernel
theorem dX3_mayHaveSeat_1 : decode cX3_mayHaveSeat 1 = .ok (.getfield 10, 3) := by decide +kernel
theorem dX3_mayHaveSeat_4 : decode cX3_mayHaveSeat 4 = .ok (.iload_n 1, 1) := by decide +kernel
theorem dX3_mayHaveSeat_5 : decode cX3_mayHaveSeat 5 = .ok (.aload_n 2, 1) := by decide +kernel
theorem dX3_mayHaveSeat_6 : decode cX3_mayHaveSeat 6 = .ok (.getfield 314, 3) := by decide +kernel
theorem dX3_mayHaveSeat_9 : decode cX3_mayHaveSeat 9 = .ok (.invokevirtual 258, 3) := by decide +kernel
theorem dX3_mayHaveSeat_12 : decode cX3_mayHaveSeat 12 = .ok (.ifCond .ne 5, 3) := by decide +kernel
theorem dX3_mayHaveSeat_15 : decode cX3_mayHaveSeat 15 = .ok (.iconst 0, 1) := by decide +kernel
theorem dX3_mayHaveSeat_16 : decode cX3_mayHaveSeat 16 = .ok (.ireturn, 1) := by decide +kernel
theorem dX3_mayHaveSeat_17 : decode cX3_mayHaveSeat 17 = .ok (.aload_n 2, 1) := by decide +kernel
theorem dX3_mayHaveSeat_18 : decode cX3_mayHaveSeat 18 = .ok (.getfield 317, 3) := by decide +kernel
theorem dX3_mayHaveSeat_21 : decode cX3_mayHaveSeat 21 = .ok (.ifCond .eq 16, 3) := by decide +kernel
theorem dX3_mayHaveSeat_24 : decode cX3_mayHaveSeat 24 = .ok (.aload_n 0, 1) := by decide +kernel
theorem dX3_mayHaveSeat_25 : decode cX3_mayHaveSeat 25 = .ok (.getfield 10, 3) := by decide +kernel
theorem dX3_mayHaveSeat_28 : decode cX3_mayHaveSeat 28 = .ok (.iload_n 1, 1) := by decide +kernel
theorem dX3_mayHaveSeat_29 : decode cX3_mayHaveSeat 29 = .ok (.aload_n 2, 1) := by decide +kernel
theorem dX3_mayHaveSeat_30 : decode cX3_mayHaveSeat 30 = .ok (.getfield 314, 3) := by decide +kernel
theorem dX3_mayHaveSeat_33 : decode cX3_mayHaveSeat 33 = .ok (.invokevirtual 261, 3) := by decide +kernel
theorem dX3_mayHaveSeat_36 : decode cX3_mayHaveSeat 36 = .ok (.ireturn, 1) := by decide +kernel
theorem dX3_mayHaveSeat_37 : decode cX3_mayHaveSeat 37 = .ok (.aload_n 0, 1) := by decide +kernel
theorem dX3_mayHaveSeat_38 : decode cX3_mayHaveSeat 38 = .ok (.getfield 10, 3) := by decide +kernel
theorem dX3_mayHaveSeat_41 : decode cX3_mayHaveSeat 41 = .ok (.iconst 1, 1) := by decide +kernel
theorem dX3_mayHaveSeat_42 : decode cX3_mayHaveSeat 42 = .ok (.iload_n 1, 1) := by decide +kernel
theorem dX3_mayHaveSeat_43 : decode cX3_mayHaveSeat 43 = .ok (.aload_n 2, 1) := by decide +kernel
theorem dX3_mayHaveSeat_44 : decode cX3_mayHaveSeat 44 = .ok (.getfield 314, 3) := by decide +kernel
theorem dX3_mayHaveSeat_47 : decode cX3_mayHaveSeat 47 = .ok (.invokevirtual 269, 3) := by decide +kernel
theorem dX3_mayHaveSeat_50 : decode cX3_mayHaveSeat 50 = .ok (.iconst (-1), 1) := by decide +kernel
theorem dX3_mayHaveSeat_51 : decode cX3_mayHaveSeat 51 = .ok (.if_icmp .ne 7, 3) := by decide +kernel
theorem dX3_mayHaveSeat_54 : decode cX3_mayHaveSeat 54 = .ok (.iconst 1, 1) := by decide +kernel
theorem dX3_mayHaveSeat_55 : decode cX3_mayHaveSeat 55 = .ok (.goto 4, 3) := by decide +kernel
theorem dX3_mayHaveSeat_58 : decode cX3_mayHaveSeat 58 = .ok (.iconst 0, 1) := by decide +kernel
theorem dX3_mayHaveSeat_59 : decode cX3_mayHaveSeat 59 = .ok (.ireturn, 1) := by decide +kernel
theorem dX3_needsOnlySeat_0 : decode cX3_needsOnlySeat 0 = .ok (.aload_n 0, 1) := by decide +kernel
theorem dX3_needsOnlySeat_1 : decode cX3_needsOnlySeat 1 = .ok (.aload_n 2, 1) := by decide +kernel
theorem dX3_needsOnlySeat_2 : decode cX3_needsOnlySeat 2 = .ok (.invokevirtual 120, 3) := by decide +kernel
theorem dX3_needsOnlySeat_5 : decode cX3_needsOnlySeat 5 = .ok (.ifCond .ne 56, 3) := by decide +kernel
theorem dX3_needsOnlySeat_8 : decode cX3_needsOnlySeat 8 = .ok (.aload_n 0, 1) := by decide +kernel
theorem dX3_needsOnlySeat_9 : decode cX3_needsOnlySeat 9 = .ok (.getfield 34, 3) := by decide +kernel
theorem dX3_needsOnlySeat_12 : decode cX3_needsOnlySeat 12 = .ok (.iload_n 1, 1) := by decide +kernel
theorem dX3_needsOnlySeat_13 : decode cX3_needsOnlySeat 13 = .ok (.iaload, 1) := by decide +kernel
theorem dX3_needsOnlySeat_14 : decode cX3_needsOnlySeat 14 = .ok (.iload_n 3, 1) := by decide +kernel
theorem dX3_needsOnlySeat_15 : decode cX3_needsOnlySeat 15 = .ok (.if_icmp .lt 46, 3) := by decide +kernel
theorem dX3_needsOnlySeat_18 : decode cX3_needsOnlySeat 18 = .ok (.aload_n 0, 1) := by decide +kernel
theorem dX3_needsOnlySeat_19 : decode cX3_needsOnlySeat 19 = .ok (.iload_n 1, 1) := by decide +kernel
theorem dX3_needsOnlySeat_20 : decode cX3_needsOnlySeat 20 = .ok (.aload_n 2, 1) := by decide +kernel
theorem dX3_needsOnlySeat_21 : decode cX3_needsOnlySeat 21 = .ok (.invokevirtual 321, 3) := by decide +kernel
theorem dX3_needsOnlySeat_24 : decode cX3_needsOnlySeat 24 = .ok (.ifCond .eq 37, 3) := by decide +kernel
theorem dX3_needsOnlySeat_27 : decode cX3_needsOnlySeat 27 = .ok (.aload_n 0, 1) := by decide +kernel
theorem dX3_needsOnlySeat_28 : decode cX3_needsOnlySeat 28 = .ok (.iload_n 1, 1) := by decide +kernel
theorem dX3_needsOnlySeat_29 : decode cX3_needsOnlySeat 29 = .ok (.aload_n 2, 1) := by decide +kernel
theorem dX3_needsOnlySeat_30 : decode cX3_needsOnlySeat 30 = .ok (.getfield 314, 3) := by decide +kernel
theorem dX3_needsOnlySeat_33 : decode cX3_needsOnlySeat 33 = .ok (.aload_n 2, 1) := by decide +kernel
theorem dX3_needsOnlySeat_34 : decode cX3_needsOnlySeat 34 = .ok (.getfield 317, 3) := by decide +kernel
theorem dX3_needsOnlySeat_37 : decode cX3_needsOnlySeat 37 = .ok (.invokevirtual 160, 3) := by decide +kernel
theorem dX3_needsOnlySeat_40 : decode cX3_needsOnlySeat 40 = .ok (.iconst (-1), 1) := by decide +kernel
theorem dX3_needsOnlySeat_41 : decode cX3_needsOnlySeat 41 = .ok (.if_icmp .ne 20, 3) := by decide +kernel
theorem dX3_needsOnlySeat_44 : decode cX3_needsOnlySeat 44 = .ok (.aload_n 0, 1) := by decide +kernel
theorem dX3_needsOnlySeat_45 : decode cX3_needsOnlySeat 45 = .ok (.iload_n 1, 1) := by decide +kernel
theorem dX3_needsOnlySeat_46 : decode cX3_needsOnlySeat 46 = .ok (.aload_n 2, 1) := by decide +kernel
theorem dX3_needsOnlySeat_47 : decode cX3_needsOnlySeat 47 = .ok (.getfield 104, 3) := by decide +kernel
theorem dX3_needsOnlySeat_50 : decode cX3_needsOnlySeat 50 = .ok (.invokevirtual 309, 3) := by decide +kernel
theorem dX3_needsOnlySeat_53 : decode cX3_needsOnlySeat 53 = .ok (.iconst (-1), 1) := by decide +kernel
theorem dX3_needsOnlySeat_54 : decode cX3_needsOnlySeat 54 = .ok (.if_icmp .ne 7, 3) := by decide +kernel
theorem dX3_needsOnlySeat_57 : decode cX3_needsOnlySeat 57 = .ok (.iconst 1, 1) := by decide +kernel
theorem dX3_needsOnlySeat_58 : decode cX3_needsOnlySeat 58 = .ok (.goto 4, 3) := by decide +kernel
theorem dX3_needsOnlySeat_61 : decode cX3_needsOnlySeat 61 = .ok (.iconst 0, 1) := by decide +kernel
theorem dX3_needsOnlySeat_62 : decode cX3_needsOnlySeat 62 = .ok (.ireturn, 1) := by decide +kernel
theorem dX3_isSeatWon_0 : decode cX3_isSeatWon 0 = .ok (.aload_n 0, 1) := by decide +kernel
theorem dX3_isSeatWon_1 : decode cX3_isSeatWon 1 = .ok (.iload_n 1, 1) := by decide +kernel
theorem dX3_isSeatWon_2 : decode cX3_isSeatWon 2 = .ok (.aload_n 2, 1) := by decide +kernel
theorem dX3_isSeatWon_3 : decode cX3_isSeatWon 3 = .ok (.iload_n 3, 1) := by decide +kernel
theorem dX3_isSeatWon_4 : decode cX3_isSeatWon 4 = .ok (.invokevirtual 325, 3) := by decide +kernel
theorem dX3_isSeatWon_7 : decode cX3_isSeatWon 7 = .ok (.ifCond .ne 5, 3) := by decide +kernel
theorem dX3_isSeatWon_10 : decode cX3_isSeatWon 10 = .ok (.iconst 0, 1) := by decide +kernel
theorem dX3_isSeatWon_11 : decode cX3_isSeatWon 11 = .ok (.ireturn, 1) := by decide +kernel
theorem dX3_isSeatWon_12 : decode cX3_isSeatWon 12 = .ok (.aload_n 2, 1) := by decide +kernel
theorem dX3_isSeatWon_13 : decode cX3_isSeatWon 13 = .ok (.invokevirtual 328, 3) := by decide +kernel
theorem dX3_isSeatWon_16 : decode cX3_isSeatWon 16 = .ok (.ifCond .eq 11, 3) := by decide +kernel
theorem dX3_isSeatWon_19 : decode cX3_isSeatWon 19 = .ok (.aload_n 2, 1) := by decide +kernel
theorem dX3_isSeatWon_20 : decode cX3_isSeatWon 20 = .ok (.iload_n 1, 1) := by decide +kernel
theorem dX3_isSeatWon_21 : decode cX3_isSeatWon 21 = .ok (.iload_n 3, 1) := by decide +kernel
theorem dX3_isSeatWon_22 : decode cX3_isSeatWon 22 = .ok (.invokevirtual 331, 3) := by decide +kernel
theorem dX3_isSeatWon_25 : decode cX3_isSeatWon 25 = .ok (.iconst 0, 1) := by decide +kernel
theorem dX3_isSeatWon_26 : decode cX3_isSeatWon 26 = .ok (.ireturn, 1) := by decide +kernel
theorem dX3_isSeatWon_27 : decode cX3_isSeatWon 27 = .ok (.aload_n 0, 1) := by decide +kernel
theorem dX3_isSeatWon_28 : decode cX3_isSeatWon 28 = .ok (.iload_n 1, 1) := by decide +kernel
theorem dX3_isSeatWon_29 : decode cX3_isSeatWon 29 = .ok (.aload_n 2, 1) := by decide +kernel
theorem dX3_isSeatWon_30 : decode cX3_isSeatWon 30 = .ok (.iload_n 3, 1) := by decide +kernel
theorem dX3_isSeatWon_31 : decode cX3_isSeatWon 31 = .ok (.invokevirtual 334, 3) := by decide +kernel
theorem dX3_isSeatWon_34 : decode cX3_isSeatWon 34 = .ok (.iconst 1, 1) := by decide +kernel
theorem dX3_isSeatWon_35 : decode cX3_isSeatWon 35 = .ok (.ireturn, 1) := by decide +kernel
theorem dX3_giveSeat_0 : decode cX3_giveSeat 0 = .ok (.aload_n 0, 1) := by decide +kernel
theorem dX3_giveSeat_1 : decode cX3_giveSeat 1 = .ok (.getfield 34, 3) := by decide +kernel
theorem dX3_giveSeat_4 : decode cX3_giveSeat 4 = .ok (.iload_n 1, 1) := by decide +kernel
theorem dX3_giveSeat_5 : decode cX3_giveSeat 5 = .ok (.dup2, 1) := by decide +kernel
theorem dX3_giveSeat_6 : decode cX3_giveSeat 6 = .ok (.iaload, 1) := by decide +kernel
theorem dX3_giveSeat_7 : decode cX3_giveSeat 7 = .ok (.iload_n 3, 1) := by decide +kernel
theorem dX3_giveSeat_8 : decode cX3_giveSeat 8 = .ok (.isub, 1) := by decide +kernel
theorem dX3_giveSeat_9 : decode cX3_giveSeat 9 = .ok (.iastore, 1) := by decide +kernel
theorem dX3_giveSeat_10 : decode cX3_giveSeat 10 = .ok (.aload_n 2, 1) := by decide +kernel
theorem dX3_giveSeat_11 : decode cX3_giveSeat 11 = .ok (.getfield 184, 3) := by decide +kernel
theorem dX3_giveSeat_14 : decode cX3_giveSeat 14 = .ok (.iload_n 1, 1) := by decide +kernel
theorem dX3_giveSeat_15 : decode cX3_giveSeat 15 = .ok (.iload_n 3, 1) := by decide +kernel
theorem dX3_giveSeat_16 : decode cX3_giveSeat 16 = .ok (.iastore, 1) := by decide +kernel
theorem dX3_giveSeat_17 : decode cX3_giveSeat 17 = .ok (.iconst 0, 1) := by decide +kernel
theorem dX3_giveSeat_18 : decode cX3_giveSeat 18 = .ok (.istore 4, 2) := by decide +kernel
theorem dX3_giveSeat_20 : decode cX3_giveSeat 20 = .ok (.iload 4, 2) := by decide +kernel
theorem dX3_giveSeat_22 : decode cX3_giveSeat 22 = .ok (.aload_n 0, 1) := by decide +kernel
theorem dX3_giveSeat_23 : decode cX3_giveSeat 23 = .ok (.getfield 91, 3) := by decide +kernel
theorem dX3_giveSeat_26 : decode cX3_giveSeat 26 = .ok (.if_icmp .ge 41, 3) := by decide +kernel
theorem dX3_giveSeat_29 : decode cX3_giveSeat 29 = .ok (.aload_n 0, 1) := by decide +kernel
theorem dX3_giveSeat_30 : decode cX3_giveSeat 30 = .ok (.getfield 25, 3) := by decide +kernel
theorem dX3_giveSeat_33 : decode cX3_giveSeat 33 = .ok (.iload 4, 2) := by decide +kernel
theorem dX3_giveSeat_35 : decode cX3_giveSeat 35 = .ok (.aaload, 1) := by decide +kernel
theorem dX3_giveSeat_36 : decode cX3_giveSeat 36 = .ok (.aload_n 2, 1) := by decide +kernel
theorem dX3_giveSeat_37 : decode cX3_giveSeat 37 = .ok (.getfield 314, 3) := by decide +kernel
theorem dX3_giveSeat_40 : decode cX3_giveSeat 40 = .ok (.aload_n 2, 1) := by decide +kernel
theorem dX3_giveSeat_41 : decode cX3_giveSeat 41 = .ok (.getfield 317, 3) := by decide +kernel
theorem dX3_giveSeat_44 : decode cX3_giveSeat 44 = .ok (.invokevirtual 305, 3) := by decide +kernel
theorem dX3_giveSeat_47 : decode cX3_giveSeat 47 = .ok (.ifCond .eq 14, 3) := by decide +kernel
theorem dX3_giveSeat_50 : decode cX3_giveSeat 50 = .ok (.aload_n 0, 1) := by decide +kernel
theorem dX3_giveSeat_51 : decode cX3_giveSeat 51 = .ok (.getfield 25, 3) := by decide +kernel
theorem dX3_giveSeat_54 : decode cX3_giveSeat 54 = .ok (.iload 4, 2) := by decide +kernel
theorem dX3_giveSeat_56 : decode cX3_giveSeat 56 = .ok (.aaload, 1) := by decide +kernel
theorem dX3_giveSeat_57 : decode cX3_giveSeat 57 = .ok (.iload_n 1, 1) := by decide +kernel
theorem dX3_giveSeat_58 : decode cX3_giveSeat 58 = .ok (.invokevirtual 338, 3) := by decide +kernel
theorem dX3_giveSeat_61 : decode cX3_giveSeat 61 = .ok (.iinc 4 1, 3) := by decide +kernel
theorem dX3_giveSeat_64 : decode cX3_giveSeat 64 = .ok (.goto (-44), 3) := by decide +kernel
theorem dX3_giveSeat_67 : decode cX3_giveSeat 67 = .ok (.return_, 1) := by decide +kernel
theorem dX3_payBack_0 : decode cX3_payBack 0 = .ok (.aload_n 0, 1) := by decide +kernel
theorem dX3_payBack_1 : decode cX3_payBack 1 = .ok (.getfield 34, 3) := by decide +kernel
theorem dX3_payBack_4 : decode cX3_payBack 4 = .ok (.iload_n 1, 1) := by decide +kernel
theorem dX3_payBack_5 : decode cX3_payBack 5 = .ok (.dup2, 1) := by decide +kernel
theorem dX3_payBack_6 : decode cX3_payBack 6 = .ok (.iaload, 1) := by decide +kernel
theorem dX3_payBack_7 : decode cX3_payBack 7 = .ok (.iload_n 2, 1) := by decide +kernel
theorem dX3_payBack_8 : decode cX3_payBack 8 = .ok (.iadd, 1) := by decide +kernel
theorem dX3_payBack_9 : decode cX3_payBack 9 = .ok (.iastore, 1) := by decide +kernel
theorem dX3_payBack_10 : decode cX3_payBack 10 = .ok (.aload_n 0, 1) := by decide +kernel
theorem dX3_payBack_11 : decode cX3_payBack 11 = .ok (.dup, 1) := by decide +kernel
theorem dX3_payBack_12 : decode cX3_payBack 12 = .ok (.getfield 218, 3) := by decide +kernel
theorem dX3_payBack_15 : decode cX3_payBack 15 = .ok (.iload_n 2, 1) := by decide +kernel
theorem dX3_payBack_16 : decode cX3_payBack 16 = .ok (.iadd, 1) := by decide +kernel
theorem dX3_payBack_17 : decode cX3_payBack 17 = .ok (.putfield 218, 3) := by decide +kernel
theorem dX3_payBack_20 : decode cX3_payBack 20 = .ok (.return_, 1) := by decide +kernel
theorem dX3_moveOneUp_0 : decode cX3_moveOneUp 0 = .ok (.aload_n 1, 1) := by decide +kernel
theorem dX3_moveOneUp_1 : decode cX3_moveOneUp 1 = .ok (.invokevirtual 328, 3) := by decide +kernel
theorem dX3_moveOneUp_4 : decode cX3_moveOneUp 4 = .ok (.ifCond .eq 5, 3) := by decide +kernel
theorem dX3_moveOneUp_7 : decode cX3_moveOneUp 7 = .ok (.iconst (-1), 1) := by decide +kernel
theorem dX3_moveOneUp_8 : decode cX3_moveOneUp 8 = .ok (.ireturn, 1) := by decide +kernel
theorem dX3_moveOneUp_9 : decode cX3_moveOneUp 9 = .ok (.iconst 0, 1) := by decide +kernel
theorem dX3_moveOneUp_10 : decode cX3_moveOneUp 10 = .ok (.istore_n 2, 1) := by decide +kernel
theorem dX3_moveOneUp_11 : decode cX3_moveOneUp 11 = .ok (.iload_n 2, 1) := by decide +kernel
theorem dX3_moveOneUp_12 : decode cX3_moveOneUp 12 = .ok (.aload_n 1, 1) := by decide +kernel
theorem dX3_moveOneUp_13 : decode cX3_moveOneUp 13 = .ok (.getfield 187, 3) := by decide +kernel
theorem dX3_moveOneUp_16 : decode cX3_moveOneUp 16 = .ok (.if_icmp .ge 45, 3) := by decide +kernel
theorem dX3_moveOneUp_19 : decode cX3_moveOneUp 19 = .ok (.aload_n 1, 1) := by decide +kernel
theorem dX3_moveOneUp_20 : decode cX3_moveOneUp 20 = .ok (.getfield 192, 3) := by decide +kernel
theorem dX3_moveOneUp_23 : decode cX3_moveOneUp 23 = .ok (.iload_n 2, 1) := by decide +kernel
theorem dX3_moveOneUp_24 : decode cX3_moveOneUp 24 = .ok (.iaload, 1) := by decide +kernel
theorem dX3_moveOneUp_25 : decode cX3_moveOneUp 25 = .ok (.istore_n 3, 1) := by decide +kernel
theorem dX3_moveOneUp_26 : decode cX3_moveOneUp 26 = .ok (.aload_n 1, 1) := by decide +kernel
theorem dX3_moveOneUp_27 : decode cX3_moveOneUp 27 = .ok (.getfield 341, 3) := by decide +kernel
theorem dX3_moveOneUp_30 : decode cX3_moveOneUp 30 = .ok (.iload_n 2, 1) := by decide +kernel
theorem dX3_moveOneUp_31 : decode cX3_moveOneUp 31 = .ok (.iaload, 1) := by decide +kernel
theorem dX3_moveOneUp_32 : decode cX3_moveOneUp 32 = .ok (.istore 4, 2) := by decide +kernel
theorem dX3_moveOneUp_34 : decode cX3_moveOneUp 34 = .ok (.aload_n 0, 1) := by decide +kernel
theorem dX3_moveOneUp_35 : decode cX3_moveOneUp 35 = .ok (.iload_n 3, 1) := by decide +kernel
theorem dX3_moveOneUp_36 : decode cX3_moveOneUp 36 = .ok (.aload_n 1, 1) := by decide +kernel
theorem dX3_moveOneUp_37 : decode cX3_moveOneUp 37 = .ok (.iload 4, 2) := by decide +kernel
theorem dX3_moveOneUp_39 : decode cX3_moveOneUp 39 = .ok (.invokevirtual 325, 3) := by decide +kernel
theorem dX3_moveOneUp_42 : decode cX3_moveOneUp 42 = .ok (.ifCond .eq 13, 3) := by decide +kernel
theorem dX3_moveOneUp_45 : decode cX3_moveOneUp 45 = .ok (.aload_n 0, 1) := by decide +kernel
theorem dX3_moveOneUp_46 : decode cX3_moveOneUp 46 = .ok (.iload_n 3, 1) := by decide +kernel
theorem dX3_moveOneUp_47 : decode cX3_moveOneUp 47 = .ok (.aload_n 1, 1) := by decide +kernel
theorem dX3_moveOneUp_48 : decode cX3_moveOneUp 48 = .ok (.iload 4, 2) := by decide +kernel
theorem dX3_moveOneUp_50 : decode cX3_moveOneUp 50 = .ok (.invokevirtual 334, 3) := by decide +kernel
theorem dX3_moveOneUp_53 : decode cX3_moveOneUp 53 = .ok (.iload_n 3, 1) := by decide +kernel
theorem dX3_moveOneUp_54 : decode cX3_moveOneUp 54 = .ok (.ireturn, 1) := by decide +kernel
theorem dX3_moveOneUp_55 : decode cX3_moveOneUp 55 = .ok (.iinc 2 1, 3) := by decide +kernel
theorem dX3_moveOneUp_58 : decode cX3_moveOneUp 58 = .ok (.goto (-47), 3) := by decide +kernel
theorem dX3_moveOneUp_61 : decode cX3_moveOneUp 61 = .ok (.iconst (-1), 1) := by decide +kernel
theorem dX3_moveOneUp_62 : decode cX3_moveOneUp 62 = .ok (.ireturn, 1) := by decide +kernel
theorem dX3_isSeatLostByMove_0 : decode cX3_isSeatLostByMove 0 = .ok (.aload_n 0, 1) := by decide +kernel
theorem dX3_isSeatLostByMove_1 : decode cX3_isSeatLostByMove 1 = .ok (.iload_n 1, 1) := by decide +kernel
theorem dX3_isSeatLostByMove_2 : decode cX3_isSeatLostByMove 2 = .ok (.iload_n 3, 1) := by decide +kernel
theorem dX3_isSeatLostByMove_3 : decode cX3_isSeatLostByMove 3 = .ok (.invokevirtual 309, 3) := by decide +kernel
theorem dX3_isSeatLostByMove_6 : decode cX3_isSeatLostByMove 6 = .ok (.iconst (-1), 1) := by decide +kernel
theorem dX3_isSeatLostByMove_7 : decode cX3_isSeatLostByMove 7 = .ok (.if_icmp .eq 15, 3) := by decide +kernel
theorem dX3_isSeatLostByMove_10 : decode cX3_isSeatLostByMove 10 = .ok (.aload_n 0, 1) := by decide +kernel
theorem dX3_isSeatLostByMove_11 : decode cX3_isSeatLostByMove 11 = .ok (.iload_n 1, 1) := by decide +kernel
theorem dX3_isSeatLostByMove_12 : decode cX3_isSeatLostByMove 12 = .ok (.aload_n 2, 1) := by decide +kernel
theorem dX3_isSeatLostByMove_13 : decode cX3_isSeatLostByMove 13 = .ok (.iload_n 1, 1) := by decide +kernel
theorem dX3_isSeatLostByMove_14 : decode cX3_isSeatLostByMove 14 = .ok (.invokevirtual 197, 3) := by decide +kernel
theorem dX3_isSeatLostByMove_17 : decode cX3_isSeatLostByMove 17 = .ok (.invokevirtual 200, 3) := by decide +kernel
theorem dX3_isSeatLostByMove_20 : decode cX3_isSeatLostByMove 20 = .ok (.iconst 1, 1) := by decide +kernel
theorem dX3_isSeatLostByMove_21 : decode cX3_isSeatLostByMove 21 = .ok (.ireturn, 1) := by decide +kernel
theorem dX3_isSeatLostByMove_22 : decode cX3_isSeatLostByMove 22 = .ok (.aload_n 2, 1) := by decide +kernel
theorem dX3_isSeatLostByMove_23 : decode cX3_isSeatLostByMove 23 = .ok (.getfield 184, 3) := by decide +kernel
theorem dX3_isSeatLostByMove_26 : decode cX3_isSeatLostByMove 26 = .ok (.iload_n 1, 1) := by decide +kernel
theorem dX3_isSeatLostByMove_27 : decode cX3_isSeatLostByMove 27 = .ok (.iaload, 1) := by decide +kernel
theorem dX3_isSeatLostByMove_28 : decode cX3_isSeatLostByMove 28 = .ok (.iconst 2, 1) := by decide +kernel
theorem dX3_isSeatLostByMove_29 : decode cX3_isSeatLostByMove 29 = .ok (.idiv, 1) := by decide +kernel
theorem dX3_isSeatLostByMove_30 : decode cX3_isSeatLostByMove 30 = .ok (.istore 4, 2) := by decide +kernel
theorem dX3_isSeatLostByMove_32 : decode cX3_isSeatLostByMove 32 = .ok (.aload_n 2, 1) := by decide +kernel
theorem dX3_isSeatLostByMove_33 : decode cX3_isSeatLostByMove 33 = .ok (.getfield 184, 3) := by decide +kernel
theorem dX3_isSeatLostByMove_36 : decode cX3_isSeatLostByMove 36 = .ok (.iload_n 1, 1) := by decide +kernel
theorem dX3_isSeatLostByMove_37 : decode cX3_isSeatLostByMove 37 = .ok (.dup2, 1) := by decide +kernel
theorem dX3_isSeatLostByMove_38 : decode cX3_isSeatLostByMove 38 = .ok (.iaload, 1) := by decide +kernel
theorem dX3_isSeatLostByMove_39 : decode cX3_isSeatLostByMove 39 = .ok (.iload 4, 2) := by decide +kernel
theorem dX3_isSeatLostByMove_41 : decode cX3_isSeatLostByMove 41 = .ok (.isub, 1) := by decide +kernel
theorem dX3_isSeatLostByMove_42 : decode cX3_isSeatLostByMove 42 = .ok (.iastore, 1) := by decide +kernel
theorem dX3_isSeatLostByMove_43 : decode cX3_isSeatLostByMove 43 = .ok (.aload_n 0, 1) := by decide +kernel
theorem dX3_isSeatLostByMove_44 : decode cX3_isSeatLostByMove 44 = .ok (.iload_n 1, 1) := by decide +kernel
theorem dX3_isSeatLostByMove_45 : decode cX3_isSeatLostByMove 45 = .ok (.iload 4, 2) := by decide +kernel
theorem dX3_isSeatLostByMove_47 : decode cX3_isSeatLostByMove 47 = .ok (.invokevirtual 200, 3) := by decide +kernel
theorem dX3_isSeatLostByMove_50 : decode cX3_isSeatLostByMove 50 = .ok (.iconst 0, 1) := by decide +kernel
theorem dX3_isSeatLostByMove_51 : decode cX3_isSeatLostByMove 51 = .ok (.ireturn, 1) := by decide +kernel
theorem dX3_letSit_0 : decode cX3_letSit 0 = .ok (.iconst 0, 1) := by decide +kernel
theorem dX3_letSit_1 : decode cX3_letSit 1 = .ok (.istore_n 2, 1) := by decide +kernel
theorem dX3_letSit_2 : decode cX3_letSit 2 = .ok (.iconst 0, 1) := by decide +kernel
theorem dX3_letSit_3 : decode cX3_letSit 3 = .ok (.istore_n 3, 1) := by decide +kernel
theorem dX3_letSit_4 : decode cX3_letSit 4 = .ok (.iload_n 3, 1) := by decide +kernel
theorem dX3_letSit_5 : decode cX3_letSit 5 = .ok (.aload_n 0, 1) := by decide +kernel
theorem dX3_letSit_6 : decode cX3_letSit 6 = .ok (.getfield 65, 3) := by decide +kernel
theorem dX3_letSit_9 : decode cX3_letSit 9 = .ok (.if_icmp .ge 51, 3) := by decide +kernel
theorem dX3_letSit_12 : decode cX3_letSit 12 = .ok (.aload_n 1, 1) := by decide +kernel
theorem dX3_letSit_13 : decode cX3_letSit 13 = .ok (.iload_n 3, 1) := by decide +kernel
theorem dX3_letSit_14 : decode cX3_letSit 14 = .ok (.invokevirtual 178, 3) := by decide +kernel
theorem dX3_letSit_17 : decode cX3_letSit 17 = .ok (.ifCond .ne 6, 3) := by decide +kernel
theorem dX3_letSit_20 : decode cX3_letSit 20 = .ok (.goto 34, 3) := by decide +kernel
theorem dX3_letSit_23 : decode cX3_letSit 23 = .ok (.aload_n 0, 1) := by decide +kernel
theorem dX3_letSit_24 : decode cX3_letSit 24 = .ok (.getfield 10, 3) := by decide +kernel
theorem dX3_letSit_27 : decode cX3_letSit 27 = .ok (.iload_n 3, 1) := by decide +kernel
theorem dX3_letSit_28 : decode cX3_letSit 28 = .ok (.aload_n 1, 1) := by decide +kernel
theorem dX3_letSit_29 : decode cX3_letSit 29 = .ok (.getfield 314, 3) := by decide +kernel
theorem dX3_letSit_32 : decode cX3_letSit 32 = .ok (.invokevirtual 258, 3) := by decide +kernel
theorem dX3_letSit_35 : decode cX3_letSit 35 = .ok (.ifCond .eq 9, 3) := by decide +kernel
theorem dX3_letSit_38 : decode cX3_letSit 38 = .ok (.iinc 2 1, 3) := by decide +kernel
theorem dX3_letSit_41 : decode cX3_letSit 41 = .ok (.goto 13, 3) := by decide +kernel
theorem dX3_letSit_44 : decode cX3_letSit 44 = .ok (.aload_n 0, 1) := by decide +kernel
theorem dX3_letSit_45 : decode cX3_letSit 45 = .ok (.iload_n 3, 1) := by decide +kernel
theorem dX3_letSit_46 : decode cX3_letSit 46 = .ok (.aload_n 1, 1) := by decide +kernel
theorem dX3_letSit_47 : decode cX3_letSit 47 = .ok (.iload_n 3, 1) := by decide +kernel
theorem dX3_letSit_48 : decode cX3_letSit 48 = .ok (.invokevirtual 197, 3) := by decide +kernel
theorem dX3_letSit_51 : decode cX3_letSit 51 = .ok (.invokevirtual 200, 3) := by decide +kernel
theorem dX3_letSit_54 : decode cX3_letSit 54 = .ok (.iinc 3 1, 3) := by decide +kernel
theorem dX3_letSit_57 : decode cX3_letSit 57 = .ok (.goto (-53), 3) := by decide +kernel
theorem dX3_letSit_60 : decode cX3_letSit 60 = .ok (.iload_n 2, 1) := by decide +kernel
theorem dX3_letSit_61 : decode cX3_letSit 61 = .ok (.ireturn, 1) := by decide +kernel
theorem dX3_hasSeatsThatClash_0 : decode cX3_hasSeatsThatClash 0 = .ok (.iconst 0, 1) := by decide +kernel
theorem dX3_hasSeatsThatClash_1 : decode cX3_hasSeatsThatClash 1 = .ok (.istore_n 2, 1) := by decide +kernel
theorem dX3_hasSeatsThatClash_2 : decode cX3_hasSeatsThatClash 2 = .ok (.iconst 0, 1) := by decide +kernel
theorem dX3_hasSeatsThatClash_3 : decode cX3_hasSeatsThatClash 3 = .ok (.istore_n 3, 1) := by decide +kernel
theorem dX3_hasSeatsThatClash_4 : decode cX3_hasSeatsThatClash 4 = .ok (.iconst 0, 1) := by decide +kernel
theorem dX3_hasSeatsThatClash_5 : decode cX3_hasSeatsThatClash 5 = .ok (.istore 4, 2) := by decide +kernel
theorem dX3_hasSeatsThatClash_7 : decode cX3_hasSeatsThatClash 7 = .ok (.iload 4, 2) := by decide +kernel
theorem dX3_hasSeatsThatClash_9 : decode cX3_hasSeatsThatClash 9 = .ok (.aload_n 0, 1) := by decide +kernel
theorem dX3_hasSeatsThatClash_10 : decode cX3_hasSeatsThatClash 10 = .ok (.getfield 91, 3) := by decide +kernel
theorem dX3_hasSeatsThatClash_13 : decode cX3_hasSeatsThatClash 13 = .ok (.if_icmp .ge 101, 3) := by decide +kernel
theorem dX3_hasSeatsThatClash_16 : decode cX3_hasSeatsThatClash 16 = .ok (.aload_n 0, 1) := by decide +kernel
theorem dX3_hasSeatsThatClash_17 : decode cX3_hasSeatsThatClash 17 = .ok (.getfield 25, 3) := by decide +kernel
theorem dX3_hasSeatsThatClash_20 : decode cX3_hasSeatsThatClash 20 = .ok (.iload 4, 2) := by decide +kernel
theorem dX3_hasSeatsThatClash_22 : decode cX3_hasSeatsThatClash 22 = .ok (.aaload, 1) := by decide +kernel
theorem dX3_hasSeatsThatClash_23 : decode cX3_hasSeatsThatClash 23 = .ok (.iload_n 1, 1) := by decide +kernel
theorem dX3_hasSeatsThatClash_24 : decode cX3_hasSeatsThatClash 24 = .ok (.invokevirtual 178, 3) := by decide +kernel
theorem dX3_hasSeatsThatClash_27 : decode cX3_hasSeatsThatClash 27 = .ok (.ifCond .ne 6, 3) := by decide +kernel
theorem dX3_hasSeatsThatClash_30 : decode cX3_hasSeatsThatClash 30 = .ok (.goto 78, 3) := by decide +kernel
theorem dX3_hasSeatsThatClash_33 : decode cX3_hasSeatsThatClash 33 = .ok (.iconst 1, 1) := by decide +kernel
theorem dX3_hasSeatsThatClash_34 : decode cX3_hasSeatsThatClash 34 = .ok (.aload_n 0, 1) := by decide +kernel
theorem dX3_hasSeatsThatClash_35 : decode cX3_hasSeatsThatClash 35 = .ok (.getfield 25, 3) := by decide +kernel
theorem dX3_hasSeatsThatClash_38 : decode cX3_hasSeatsThatClash 38 = .ok (.iload 4, 2) := by decide +kernel
theorem dX3_hasSeatsThatClash_40 : decode cX3_hasSeatsThatClash 40 = .ok (.aaload, 1) := by decide +kernel
theorem dX3_hasSeatsThatClash_41 : decode cX3_hasSeatsThatClash 41 = .ok (.getfield 104, 3) := by decide +kernel
theorem dX3_hasSeatsThatClash_44 : decode cX3_hasSeatsThatClash 44 = .ok (.ishl, 1) := by decide +kernel
theorem dX3_hasSeatsThatClash_45 : decode cX3_hasSeatsThatClash 45 = .ok (.istore 5, 2) := by decide +kernel
theorem dX3_hasSeatsThatClash_47 : decode cX3_hasSeatsThatClash 47 = .ok (.iconst 1, 1) := by decide +kernel
theorem dX3_hasSeatsThatClash_48 : decode cX3_hasSeatsThatClash 48 = .ok (.iconst 2, 1) := by decide +kernel
theorem dX3_hasSeatsThatClash_49 : decode cX3_hasSeatsThatClash 49 = .ok (.aload_n 0, 1) := by decide +kernel
theorem dX3_hasSeatsThatClash_50 : decode cX3_hasSeatsThatClash 50 = .ok (.getfield 25, 3) := by decide +kernel
theorem dX3_hasSeatsThatClash_53 : decode cX3_hasSeatsThatClash 53 = .ok (.iload 4, 2) := by decide +kernel
theorem dX3_hasSeatsThatClash_55 : decode cX3_hasSeatsThatClash 55 = .ok (.aaload, 1) := by decide +kernel
theorem dX3_hasSeatsThatClash_56 : decode cX3_hasSeatsThatClash 56 = .ok (.getfield 314, 3) := by decide +kernel
theorem dX3_hasSeatsThatClash_59 : decode cX3_hasSeatsThatClash 59 = .ok (.imul, 1) := by decide +kernel
theorem dX3_hasSeatsThatClash_60 : decode cX3_hasSeatsThatClash 60 = .ok (.aload_n 0, 1) := by decide +kernel
theorem dX3_hasSeatsThatClash_61 : decode cX3_hasSeatsThatClash 61 = .ok (.getfield 25, 3) := by decide +kernel
theorem dX3_hasSeatsThatClash_64 : decode cX3_hasSeatsThatClash 64 = .ok (.iload 4, 2) := by decide +kernel
theorem dX3_hasSeatsThatClash_66 : decode cX3_hasSeatsThatClash 66 = .ok (.aaload, 1) := by decide +kernel
theorem dX3_hasSeatsThatClash_67 : decode cX3_hasSeatsThatClash 67 = .ok (.getfield 317, 3) := by decide +kernel
theorem dX3_hasSeatsThatClash_70 : decode cX3_hasSeatsThatClash 70 = .ok (.ifCond .eq 7, 3) := by decide +kernel
theorem dX3_hasSeatsThatClash_73 : decode cX3_hasSeatsThatClash 73 = .ok (.iconst 1, 1) := by decide +kernel
theorem dX3_hasSeatsThatClash_74 : decode cX3_hasSeatsThatClash 74 = .ok (.goto 4, 3) := by decide +kernel
theorem dX3_hasSeatsThatClash_77 : decode cX3_hasSeatsThatClash 77 = .ok (.iconst 0, 1) := by decide +kernel
theorem dX3_hasSeatsThatClash_78 : decode cX3_hasSeatsThatClash 78 = .ok (.iadd, 1) := by decide +kernel
theorem dX3_hasSeatsThatClash_79 : decode cX3_hasSeatsThatClash 79 = .ok (.ishl, 1) := by decide +kernel
theorem dX3_hasSeatsThatClash_80 : decode cX3_hasSeatsThatClash 80 = .ok (.istore 6, 2) := by decide +kernel
theorem dX3_hasSeatsThatClash_82 : decode cX3_hasSeatsThatClash 82 = .ok (.iload_n 2, 1) := by decide +kernel
theorem dX3_hasSeatsThatClash_83 : decode cX3_hasSeatsThatClash 83 = .ok (.iload 5, 2) := by decide +kernel
theorem dX3_hasSeatsThatClash_85 : decode cX3_hasSeatsThatClash 85 = .ok (.iand, 1) := by decide +kernel
theorem dX3_hasSeatsThatClash_86 : decode cX3_hasSeatsThatClash 86 = .ok (.ifCond .ne 10, 3) := by decide +kernel
theorem dX3_hasSeatsThatClash_89 : decode cX3_hasSeatsThatClash 89 = .ok (.iload_n 3, 1) := by decide +kernel
theorem dX3_hasSeatsThatClash_90 : decode cX3_hasSeatsThatClash 90 = .ok (.iload 6, 2) := by decide +kernel
theorem dX3_hasSeatsThatClash_92 : decode cX3_hasSeatsThatClash 92 = .ok (.iand, 1) := by decide +kernel
theorem dX3_hasSeatsThatClash_93 : decode cX3_hasSeatsThatClash 93 = .ok (.ifCond .eq 5, 3) := by decide +kernel
theorem dX3_hasSeatsThatClash_96 : decode cX3_hasSeatsThatClash 96 = .ok (.iconst 1, 1) := by decide +kernel
theorem dX3_hasSeatsThatClash_97 : decode cX3_hasSeatsThatClash 97 = .ok (.ireturn, 1) := by decide +kernel
theorem dX3_hasSeatsThatClash_98 : decode cX3_hasSeatsThatClash 98 = .ok (.iload_n 2, 1) := by decide +kernel
theorem dX3_hasSeatsThatClash_99 : decode cX3_hasSeatsThatClash 99 = .ok (.iload 5, 2) := by decide +kernel
theorem dX3_hasSeatsThatClash_101 : decode cX3_hasSeatsThatClash 101 = .ok (.ior, 1) := by decide +kernel
theorem dX3_hasSeatsThatClash_102 : decode cX3_hasSeatsThatClash 102 = .ok (.istore_n 2, 1) := by decide +kernel
theorem dX3_hasSeatsThatClash_103 : decode cX3_hasSeatsThatClash 103 = .ok (.iload_n 3, 1) := by decide +kernel
theorem dX3_hasSeatsThatClash_104 : decode cX3_hasSeatsThatClash 104 = .ok (.iload 6, 2) := by decide +kernel
theorem dX3_hasSeatsThatClash_106 : decode cX3_hasSeatsThatClash 106 = .ok (.ior, 1) := by decide +kernel
theorem dX3_hasSeatsThatClash_107 : decode cX3_hasSeatsThatClash 107 = .ok (.istore_n 3, 1) := by decide +kernel
theorem dX3_hasSeatsThatClash_108 : decode cX3_hasSeatsThatClash 108 = .ok (.iinc 4 1, 3) := by decide +kernel
theorem dX3_hasSeatsThatClash_111 : decode cX3_hasSeatsThatClash 111 = .ok (.goto (-104), 3) := by decide +kernel
theorem dX3_hasSeatsThatClash_114 : decode cX3_hasSeatsThatClash 114 = .ok (.iconst 0, 1) := by decide +kernel
theorem dX3_hasSeatsThatClash_115 : decode cX3_hasSeatsThatClash 115 = .ok (.ireturn, 1) := by decide +kernel
theorem dX3_arePointsWhole_0 : decode cX3_arePointsWhole 0 = .ok (.aload_n 0, 1) := by decide +kernel
theorem dX3_arePointsWhole_1 : decode cX3_arePointsWhole 1 = .ok (.getfield 34, 3) := by decide +kernel
theorem dX3_arePointsWhole_4 : decode cX3_arePointsWhole 4 = .ok (.iload_n 1, 1) := by decide +kernel
theorem dX3_arePointsWhole_5 : decode cX3_arePointsWhole 5 = .ok (.iaload, 1) := by decide +kernel
theorem dX3_arePointsWhole_6 : decode cX3_arePointsWhole 6 = .ok (.aload_n 0, 1) := by decide +kernel
theorem dX3_arePointsWhole_7 : decode cX3_arePointsWhole 7 = .ok (.getfield 37, 3) := by decide +kernel
theorem dX3_arePointsWhole_10 : decode cX3_arePointsWhole 10 = .ok (.iload_n 1, 1) := by decide +kernel
theorem dX3_arePointsWhole_11 : decode cX3_arePointsWhole 11 = .ok (.iaload, 1) := by decide +kernel
theorem dX3_arePointsWhole_12 : decode cX3_arePointsWhole 12 = .ok (.iadd, 1) := by decide +kernel
theorem dX3_arePointsWhole_13 : decode cX3_arePointsWhole 13 = .ok (.istore_n 2, 1) := by decide +kernel
theorem dX3_arePointsWhole_14 : decode cX3_arePointsWhole 14 = .ok (.iconst 0, 1) := by decide +kernel
theorem dX3_arePointsWhole_15 : decode cX3_arePointsWhole 15 = .ok (.istore_n 3, 1) := by decide +kernel
theorem dX3_arePointsWhole_16 : decode cX3_arePointsWhole 16 = .ok (.iload_n 3, 1) := by decide +kernel
theorem dX3_arePointsWhole_17 : decode cX3_arePointsWhole 17 = .ok (.aload_n 0, 1) := by decide +kernel
theorem dX3_arePointsWhole_18 : decode cX3_arePointsWhole 18 = .ok (.getfield 91, 3) := by decide +kernel
theorem dX3_arePointsWhole_21 : decode cX3_arePointsWhole 21 = .ok (.if_icmp .ge 36, 3) := by decide +kernel
theorem dX3_arePointsWhole_24 : decode cX3_arePointsWhole 24 = .ok (.aload_n 0, 1) := by decide +kernel
theorem dX3_arePointsWhole_25 : decode cX3_arePointsWhole 25 = .ok (.getfield 25, 3) := by decide +kernel
theorem dX3_arePointsWhole_28 : decode cX3_arePointsWhole 28 = .ok (.iload_n 3, 1) := by decide +kernel
theorem dX3_arePointsWhole_29 : decode cX3_arePointsWhole 29 = .ok (.aaload, 1) := by decide +kernel
theorem dX3_arePointsWhole_30 : decode cX3_arePointsWhole 30 = .ok (.iload_n 1, 1) := by decide +kernel
theorem dX3_arePointsWhole_31 : decode cX3_arePointsWhole 31 = .ok (.invokevirtual 178, 3) := by decide +kernel
theorem dX3_arePointsWhole_34 : decode cX3_arePointsWhole 34 = .ok (.ifCond .eq 17, 3) := by decide +kernel
theorem dX3_arePointsWhole_37 : decode cX3_arePointsWhole 37 = .ok (.iload_n 2, 1) := by decide +kernel
theorem dX3_arePointsWhole_38 : decode cX3_arePointsWhole 38 = .ok (.aload_n 0, 1) := by decide +kernel
theorem dX3_arePointsWhole_39 : decode cX3_arePointsWhole 39 = .ok (.getfield 25, 3) := by decide +kernel
theorem dX3_arePointsWhole_42 : decode cX3_arePointsWhole 42 = .ok (.iload_n 3, 1) := by decide +kernel
theorem dX3_arePointsWhole_43 : decode cX3_arePointsWhole 43 = .ok (.aaload, 1) := by decide +kernel
theorem dX3_arePointsWhole_44 : decode cX3_arePointsWhole 44 = .ok (.getfield 184, 3) := by decide +kernel
theorem dX3_arePointsWhole_47 : decode cX3_arePointsWhole 47 = .ok (.iload_n 1, 1) := by decide +kernel
theorem dX3_arePointsWhole_48 : decode cX3_arePointsWhole 48 = .ok (.iaload, 1) := by decide +kernel
theorem dX3_arePointsWhole_49 : decode cX3_arePointsWhole 49 = .ok (.iadd, 1) := by decide +kernel
theorem dX3_arePointsWhole_50 : decode cX3_arePointsWhole 50 = .ok (.istore_n 2, 1) := by decide +kernel
theorem dX3_arePointsWhole_51 : decode cX3_arePointsWhole 51 = .ok (.iinc 3 1, 3) := by decide +kernel
theorem dX3_arePointsWhole_54 : decode cX3_arePointsWhole 54 = .ok (.goto (-38), 3) := by decide +kernel
theorem dX3_arePointsWhole_57 : decode cX3_arePointsWhole 57 = .ok (.iload_n 2, 1) := by decide +kernel
theorem dX3_arePointsWhole_58 : decode cX3_arePointsWhole 58 = .ok (.bipush 100, 2) := by decide +kernel
theorem dX3_arePointsWhole_60 : decode cX3_arePointsWhole 60 = .ok (.if_icmp .ne 7, 3) := by decide +kernel
theorem dX3_arePointsWhole_63 : decode cX3_arePointsWhole 63 = .ok (.iconst 1, 1) := by decide +kernel
theorem dX3_arePointsWhole_64 : decode cX3_arePointsWhole 64 = .ok (.goto 4, 3) := by decide +kernel
theorem dX3_arePointsWhole_67 : decode cX3_arePointsWhole 67 = .ok (.iconst 0, 1) := by decide +kernel
theorem dX3_arePointsWhole_68 : decode cX3_arePointsWhole 68 = .ok (.ireturn, 1) := by decide +kernel
theorem dX3_isRoomShared_0 : decode cX3_isRoomShared 0 = .ok (.iconst 0, 1) := by decide +kernel
theorem dX3_isRoomShared_1 : decode cX3_isRoomShared 1 = .ok (.istore_n 2, 1) := by decide +kernel
theorem dX3_isRoomShared_2 : decode cX3_isRoomShared 2 = .ok (.iload_n 2, 1) := by decide +kernel
theorem dX3_isRoomShared_3 : decode cX3_isRoomShared 3 = .ok (.aload_n 0, 1) := by decide +kernel
theorem dX3_isRoomShared_4 : decode cX3_isRoomShared 4 = .ok (.getfield 91, 3) := by decide +kernel
theorem dX3_isRoomShared_7 : decode cX3_isRoomShared 7 = .ok (.if_icmp .ge 58, 3) := by decide +kernel
theorem dX3_isRoomShared_10 : decode cX3_isRoomShared 10 = .ok (.iload_n 2, 1) := by decide +kernel
theorem dX3_isRoomShared_11 : decode cX3_isRoomShared 11 = .ok (.iload_n 1, 1) := by decide +kernel
theorem dX3_isRoomShared_12 : decode cX3_isRoomShared 12 = .ok (.if_icmp .eq 47, 3) := by decide +kernel
theorem dX3_isRoomShared_15 : decode cX3_isRoomShared 15 = .ok (.aload_n 0, 1) := by decide +kernel
theorem dX3_isRoomShared_16 : decode cX3_isRoomShared 16 = .ok (.getfield 25, 3) := by decide +kernel
theorem dX3_isRoomShared_19 : decode cX3_isRoomShared 19 = .ok (.iload_n 2, 1) := by decide +kernel
theorem dX3_isRoomShared_20 : decode cX3_isRoomShared 20 = .ok (.aaload, 1) := by decide +kernel
theorem dX3_isRoomShared_21 : decode cX3_isRoomShared 21 = .ok (.getfield 207, 3) := by decide +kernel
theorem dX3_isRoomShared_24 : decode cX3_isRoomShared 24 = .ok (.aload_n 0, 1) := by decide +kernel
theorem dX3_isRoomShared_25 : decode cX3_isRoomShared 25 = .ok (.getfield 25, 3) := by decide +kernel
theorem dX3_isRoomShared_28 : decode cX3_isRoomShared 28 = .ok (.iload_n 1, 1) := by decide +kernel
theorem dX3_isRoomShared_29 : decode cX3_isRoomShared 29 = .ok (.aaload, 1) := by decide +kernel
theorem dX3_isRoomShared_30 : decode cX3_isRoomShared 30 = .ok (.getfield 207, 3) := by decide +kernel
theorem dX3_isRoomShared_33 : decode cX3_isRoomShared 33 = .ok (.if_icmp .ne 26, 3) := by decide +kernel
theorem dX3_isRoomShared_36 : decode cX3_isRoomShared 36 = .ok (.aload_n 0, 1) := by decide +kernel
theorem dX3_isRoomShared_37 : decode cX3_isRoomShared 37 = .ok (.getfield 25, 3) := by decide +kernel
theorem dX3_isRoomShared_40 : decode cX3_isRoomShared 40 = .ok (.iload_n 2, 1) := by decide +kernel
theorem dX3_isRoomShared_41 : decode cX3_isRoomShared 41 = .ok (.aaload, 1) := by decide +kernel
theorem dX3_isRoomShared_42 : decode cX3_isRoomShared 42 = .ok (.getfield 104, 3) := by decide +kernel
theorem dX3_isRoomShared_45 : decode cX3_isRoomShared 45 = .ok (.aload_n 0, 1) := by decide +kernel
theorem dX3_isRoomShared_46 : decode cX3_isRoomShared 46 = .ok (.getfield 25, 3) := by decide +kernel
theorem dX3_isRoomShared_49 : decode cX3_isRoomShared 49 = .ok (.iload_n 1, 1) := by decide +kernel
theorem dX3_isRoomShared_50 : decode cX3_isRoomShared 50 = .ok (.aaload, 1) := by decide +kernel
theorem dX3_isRoomShared_51 : decode cX3_isRoomShared 51 = .ok (.getfield 104, 3) := by decide +kernel
theorem dX3_isRoomShared_54 : decode cX3_isRoomShared 54 = .ok (.if_icmp .ne 5, 3) := by decide +kernel
theorem dX3_isRoomShared_57 : decode cX3_isRoomShared 57 = .ok (.iconst 1, 1) := by decide +kernel
theorem dX3_isRoomShared_58 : decode cX3_isRoomShared 58 = .ok (.ireturn, 1) := by decide +kernel
theorem dX3_isRoomShared_59 : decode cX3_isRoomShared 59 = .ok (.iinc 2 1, 3) := by decide +kernel
theorem dX3_isRoomShared_62 : decode cX3_isRoomShared 62 = .ok (.goto (-60), 3) := by decide +kernel
theorem dX3_isRoomShared_65 : decode cX3_isRoomShared 65 = .ok (.iconst 0, 1) := by decide +kernel
theorem dX3_isRoomShared_66 : decode cX3_isRoomShared 66 = .ok (.ireturn, 1) := by decide +kernel
