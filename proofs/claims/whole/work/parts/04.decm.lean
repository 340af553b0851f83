theorem dX8_init_0 : decode cX8_init 0 = .ok (.aload_n 0, 1) := by decide +kernel
theorem dX8_init_1 : decode cX8_init 1 = .ok (.invokespecial 1, 3) := by decide +kernel
theorem dX8_init_4 : decode cX8_init 4 = .ok (.aload_n 0, 1) := by decide +kernel
theorem dX8_init_5 : decode cX8_init 5 = .ok (.bipush 108, 2) := by decide +kernel
theorem dX8_init_7 : decode cX8_init 7 = .ok (.newarray .int, 2) := by decide +kernel
theorem dX8_init_9 : decode cX8_init 9 = .ok (.putfield 7, 3) := by decide +kernel
theorem dX8_init_12 : decode cX8_init 12 = .ok (.aload_n 0, 1) := by decide +kernel
theorem dX8_init_13 : decode cX8_init 13 = .ok (.sipush 540, 3) := by decide +kernel
theorem dX8_init_16 : decode cX8_init 16 = .ok (.newarray .int, 2) := by decide +kernel
theorem dX8_init_18 : decode cX8_init 18 = .ok (.putfield 13, 3) := by decide +kernel
theorem dX8_init_21 : decode cX8_init 21 = .ok (.aload_n 0, 1) := by decide +kernel
theorem dX8_init_22 : decode cX8_init 22 = .ok (.bipush 108, 2) := by decide +kernel
theorem dX8_init_24 : decode cX8_init 24 = .ok (.newarray .int, 2) := by decide +kernel
theorem dX8_init_26 : decode cX8_init 26 = .ok (.putfield 16, 3) := by decide +kernel
theorem dX8_init_29 : decode cX8_init 29 = .ok (.aload_n 0, 1) := by decide +kernel
theorem dX8_init_30 : decode cX8_init 30 = .ok (.bipush 60, 2) := by decide +kernel
theorem dX8_init_32 : decode cX8_init 32 = .ok (.newarray .char, 2) := by decide +kernel
theorem dX8_init_34 : decode cX8_init 34 = .ok (.putfield 19, 3) := by decide +kernel
theorem dX8_init_37 : decode cX8_init 37 = .ok (.aload_n 0, 1) := by decide +kernel
theorem dX8_init_38 : decode cX8_init 38 = .ok (.bipush 93, 2) := by decide +kernel
theorem dX8_init_40 : decode cX8_init 40 = .ok (.newarray .int, 2) := by decide +kernel
theorem dX8_init_42 : decode cX8_init 42 = .ok (.putfield 23, 3) := by decide +kernel
theorem dX8_init_45 : decode cX8_init 45 = .ok (.aload_n 0, 1) := by decide +kernel
theorem dX8_init_46 : decode cX8_init 46 = .ok (.getfield 7, 3) := by decide +kernel
theorem dX8_init_49 : decode cX8_init 49 = .ok (.iconst 0, 1) := by decide +kernel
theorem dX8_init_50 : decode cX8_init 50 = .ok (.iconst 1, 1) := by decide +kernel
theorem dX8_init_51 : decode cX8_init 51 = .ok (.iastore, 1) := by decide +kernel
theorem dX8_init_52 : decode cX8_init 52 = .ok (.aload_n 0, 1) := by decide +kernel
theorem dX8_init_53 : decode cX8_init 53 = .ok (.getfield 7, 3) := by decide +kernel
theorem dX8_init_56 : decode cX8_init 56 = .ok (.iconst 1, 1) := by decide +kernel
theorem dX8_init_57 : decode cX8_init 57 = .ok (.iconst 2, 1) := by decide +kernel
theorem dX8_init_58 : decode cX8_init 58 = .ok (.iastore, 1) := by decide +kernel
theorem dX8_init_59 : decode cX8_init 59 = .ok (.aload_n 0, 1) := by decide +kernel
theorem dX8_init_60 : decode cX8_init 60 = .ok (.getfield 7, 3) := by decide +kernel
theorem dX8_init_63 : decode cX8_init 63 = .ok (.iconst 2, 1) := by decide +kernel
theorem dX8_init_64 : decode cX8_init 64 = .ok (.iconst 2, 1) := by decide +kernel
theorem dX8_init_65 : decode cX8_init 65 = .ok (.iastore, 1) := by decide +kernel
theorem dX8_init_66 : decode cX8_init 66 = .ok (.aload_n 0, 1) := by decide +kernel
theorem dX8_init_67 : decode cX8_init 67 = .ok (.getfield 7, 3) := by decide +kernel
theorem dX8_init_70 : decode cX8_init 70 = .ok (.iconst 3, 1) := by decide +kernel
theorem dX8_init_71 : decode cX8_init 71 = .ok (.iconst 2, 1) := by decide +kernel
theorem dX8_init_72 : decode cX8_init 72 = .ok (.iastore, 1) := by decide +kernel
theorem dX8_init_73 : decode cX8_init 73 = .ok (.return_, 1) := by decide +kernel
theorem dX8_in_0 : decode cX8_in 0 = .ok (.iload_n 0, 1) := by decide +kernel
theorem dX8_in_1 : decode cX8_in 1 = .ok (.iload_n 1, 1) := by decide +kernel
theorem dX8_in_2 : decode cX8_in 2 = .ok (.if_icmp .lt 12, 3) := by decide +kernel
theorem dX8_in_5 : decode cX8_in 5 = .ok (.iload_n 0, 1) := by decide +kernel
theorem dX8_in_6 : decode cX8_in 6 = .ok (.iload_n 2, 1) := by decide +kernel
theorem dX8_in_7 : decode cX8_in 7 = .ok (.if_icmp .gt 7, 3) := by decide +kernel
theorem dX8_in_10 : decode cX8_in 10 = .ok (.iconst 1, 1) := by decide +kernel
theorem dX8_in_11 : decode cX8_in 11 = .ok (.goto 4, 3) := by decide +kernel
theorem dX8_in_14 : decode cX8_in 14 = .ok (.iconst 0, 1) := by decide +kernel
theorem dX8_in_15 : decode cX8_in 15 = .ok (.ireturn, 1) := by decide +kernel
theorem dX8_isSpot_0 : decode cX8_isSpot 0 = .ok (.iload_n 0, 1) := by decide +kernel
theorem dX8_isSpot_1 : decode cX8_isSpot 1 = .ok (.iconst 0, 1) := by decide +kernel
theorem dX8_isSpot_2 : decode cX8_isSpot 2 = .ok (.bipush 15, 2) := by decide +kernel
theorem dX8_isSpot_4 : decode cX8_isSpot 4 = .ok (.invokestatic 26, 3) := by decide +kernel
theorem dX8_isSpot_7 : decode cX8_isSpot 7 = .ok (.ireturn, 1) := by decide +kernel
theorem dX8_isPlayer_0 : decode cX8_isPlayer 0 = .ok (.iload_n 1, 1) := by decide +kernel
theorem dX8_isPlayer_1 : decode cX8_isPlayer 1 = .ok (.iconst 0, 1) := by decide +kernel
theorem dX8_isPlayer_2 : decode cX8_isPlayer 2 = .ok (.aload_n 0, 1) := by decide +kernel
theorem dX8_isPlayer_3 : decode cX8_isPlayer 3 = .ok (.getfield 7, 3) := by decide +kernel
theorem dX8_isPlayer_6 : decode cX8_isPlayer 6 = .ok (.iconst 4, 1) := by decide +kernel
theorem dX8_isPlayer_7 : decode cX8_isPlayer 7 = .ok (.iaload, 1) := by decide +kernel
theorem dX8_isPlayer_8 : decode cX8_isPlayer 8 = .ok (.iconst 1, 1) := by decide +kernel
theorem dX8_isPlayer_9 : decode cX8_isPlayer 9 = .ok (.isub, 1) := by decide +kernel
theorem dX8_isPlayer_10 : decode cX8_isPlayer 10 = .ok (.invokestatic 26, 3) := by decide +kernel
theorem dX8_isPlayer_13 : decode cX8_isPlayer 13 = .ok (.ireturn, 1) := by decide +kernel
theorem dX8_of_0 : decode cX8_of 0 = .ok (.aload_n 0, 1) := by decide +kernel
theorem dX8_of_1 : decode cX8_of 1 = .ok (.getfield 7, 3) := by decide +kernel
theorem dX8_of_4 : decode cX8_of 4 = .ok (.bipush 12, 2) := by decide +kernel
theorem dX8_of_6 : decode cX8_of 6 = .ok (.bipush 6, 2) := by decide +kernel
theorem dX8_of_8 : decode cX8_of 8 = .ok (.iload_n 1, 1) := by decide +kernel
theorem dX8_of_9 : decode cX8_of 9 = .ok (.imul, 1) := by decide +kernel
theorem dX8_of_10 : decode cX8_of 10 = .ok (.iadd, 1) := by decide +kernel
theorem dX8_of_11 : decode cX8_of 11 = .ok (.iload_n 2, 1) := by decide +kernel
theorem dX8_of_12 : decode cX8_of 12 = .ok (.iadd, 1) := by decide +kernel
theorem dX8_of_13 : decode cX8_of 13 = .ok (.iaload, 1) := by decide +kernel
theorem dX8_of_14 : decode cX8_of 14 = .ok (.ireturn, 1) := by decide +kernel
theorem dX8_adds_0 : decode cX8_adds 0 = .ok (.aload_n 0, 1) := by decide +kernel
theorem dX8_adds_1 : decode cX8_adds 1 = .ok (.getfield 7, 3) := by decide +kernel
theorem dX8_adds_4 : decode cX8_adds 4 = .ok (.bipush 12, 2) := by decide +kernel
theorem dX8_adds_6 : decode cX8_adds 6 = .ok (.bipush 6, 2) := by decide +kernel
theorem dX8_adds_8 : decode cX8_adds 8 = .ok (.iload_n 1, 1) := by decide +kernel
theorem dX8_adds_9 : decode cX8_adds 9 = .ok (.imul, 1) := by decide +kernel
theorem dX8_adds_10 : decode cX8_adds 10 = .ok (.iadd, 1) := by decide +kernel
theorem dX8_adds_11 : decode cX8_adds 11 = .ok (.iload_n 2, 1) := by decide +kernel
theorem dX8_adds_12 : decode cX8_adds 12 = .ok (.iadd, 1) := by decide +kernel
theorem dX8_adds_13 : decode cX8_adds 13 = .ok (.dup2, 1) := by decide +kernel
theorem dX8_adds_14 : decode cX8_adds 14 = .ok (.iaload, 1) := by decide +kernel
theorem dX8_adds_15 : decode cX8_adds 15 = .ok (.iload_n 3, 1) := by decide +kernel
theorem dX8_adds_16 : decode cX8_adds 16 = .ok (.iadd, 1) := by decide +kernel
theorem dX8_adds_17 : decode cX8_adds 17 = .ok (.iastore, 1) := by decide +kernel
theorem dX8_adds_18 : decode cX8_adds 18 = .ok (.return_, 1) := by decide +kernel
theorem dX8_hides_0 : decode cX8_hides 0 = .ok (.aload_n 0, 1) := by decide +kernel
theorem dX8_hides_1 : decode cX8_hides 1 = .ok (.getfield 7, 3) := by decide +kernel
theorem dX8_hides_4 : decode cX8_hides 4 = .ok (.bipush 12, 2) := by decide +kernel
theorem dX8_hides_6 : decode cX8_hides 6 = .ok (.bipush 6, 2) := by decide +kernel
theorem dX8_hides_8 : decode cX8_hides 8 = .ok (.iload_n 1, 1) := by decide +kernel
theorem dX8_hides_9 : decode cX8_hides 9 = .ok (.imul, 1) := by decide +kernel
theorem dX8_hides_10 : decode cX8_hides 10 = .ok (.iadd, 1) := by decide +kernel
theorem dX8_hides_11 : decode cX8_hides 11 = .ok (.iconst 5, 1) := by decide +kernel
theorem dX8_hides_12 : decode cX8_hides 12 = .ok (.iadd, 1) := by decide +kernel
theorem dX8_hides_13 : decode cX8_hides 13 = .ok (.iload_n 2, 1) := by decide +kernel
theorem dX8_hides_14 : decode cX8_hides 14 = .ok (.iastore, 1) := by decide +kernel
theorem dX8_hides_15 : decode cX8_hides 15 = .ok (.return_, 1) := by decide +kernel
theorem dX8_ofSpot_0 : decode cX8_ofSpot 0 = .ok (.aload_n 0, 1) := by decide +kernel
theorem dX8_ofSpot_1 : decode cX8_ofSpot 1 = .ok (.getfield 7, 3) := by decide +kernel
theorem dX8_ofSpot_4 : decode cX8_ofSpot 4 = .ok (.bipush 60, 2) := by decide +kernel
theorem dX8_ofSpot_6 : decode cX8_ofSpot 6 = .ok (.iconst 3, 1) := by decide +kernel
theorem dX8_ofSpot_7 : decode cX8_ofSpot 7 = .ok (.iload_n 1, 1) := by decide +kernel
theorem dX8_ofSpot_8 : decode cX8_ofSpot 8 = .ok (.imul, 1) := by decide +kernel
theorem dX8_ofSpot_9 : decode cX8_ofSpot 9 = .ok (.iadd, 1) := by decide +kernel
theorem dX8_ofSpot_10 : decode cX8_ofSpot 10 = .ok (.iload_n 2, 1) := by decide +kernel
theorem dX8_ofSpot_11 : decode cX8_ofSpot 11 = .ok (.iadd, 1) := by decide +kernel
theorem dX8_ofSpot_12 : decode cX8_ofSpot 12 = .ok (.iaload, 1) := by decide +kernel
theorem dX8_ofSpot_13 : decode cX8_ofSpot 13 = .ok (.ireturn, 1) := by decide +kernel
theorem dX8_isRetired_0 : decode cX8_isRetired 0 = .ok (.aload_n 0, 1) := by decide +kernel
theorem dX8_isRetired_1 : decode cX8_isRetired 1 = .ok (.iload_n 1, 1) := by decide +kernel
theorem dX8_isRetired_2 : decode cX8_isRetired 2 = .ok (.iconst 1, 1) := by decide +kernel
theorem dX8_isRetired_3 : decode cX8_isRetired 3 = .ok (.invokevirtual 30, 3) := by decide +kernel
theorem dX8_isRetired_6 : decode cX8_isRetired 6 = .ok (.iconst 1, 1) := by decide +kernel
theorem dX8_isRetired_7 : decode cX8_isRetired 7 = .ok (.if_icmp .ne 7, 3) := by decide +kernel
theorem dX8_isRetired_10 : decode cX8_isRetired 10 = .ok (.iconst 1, 1) := by decide +kernel
theorem dX8_isRetired_11 : decode cX8_isRetired 11 = .ok (.goto 4, 3) := by decide +kernel
theorem dX8_isRetired_14 : decode cX8_isRetired 14 = .ok (.iconst 0, 1) := by decide +kernel
theorem dX8_isRetired_15 : decode cX8_isRetired 15 = .ok (.ireturn, 1) := by decide +kernel
theorem dX8_distance_0 : decode cX8_distance 0 = .ok (.iload_n 0, 1) := by decide +kernel
theorem dX8_distance_1 : decode cX8_distance 1 = .ok (.iload_n 1, 1) := by decide +kernel
theorem dX8_distance_2 : decode cX8_distance 2 = .ok (.if_icmp .ge 9, 3) := by decide +kernel
theorem dX8_distance_5 : decode cX8_distance 5 = .ok (.iload_n 1, 1) := by decide +kernel
theorem dX8_distance_6 : decode cX8_distance 6 = .ok (.iload_n 0, 1) := by decide +kernel
theorem dX8_distance_7 : decode cX8_distance 7 = .ok (.isub, 1) := by decide +kernel
theorem dX8_distance_8 : decode cX8_distance 8 = .ok (.goto 6, 3) := by decide +kernel
theorem dX8_distance_11 : decode cX8_distance 11 = .ok (.iload_n 0, 1) := by decide +kernel
theorem dX8_distance_12 : decode cX8_distance 12 = .ok (.iload_n 1, 1) := by decide +kernel
theorem dX8_distance_13 : decode cX8_distance 13 = .ok (.isub, 1) := by decide +kernel
theorem dX8_distance_14 : decode cX8_distance 14 = .ok (.istore_n 2, 1) := by decide +kernel
theorem dX8_distance_15 : decode cX8_distance 15 = .ok (.iload_n 2, 1) := by decide +kernel
theorem dX8_distance_16 : decode cX8_distance 16 = .ok (.bipush 8, 2) := by decide +kernel
theorem dX8_distance_18 : decode cX8_distance 18 = .ok (.if_icmp .gt 7, 3) := by decide +kernel
theorem dX8_distance_21 : decode cX8_distance 21 = .ok (.iload_n 2, 1) := by decide +kernel
theorem dX8_distance_22 : decode cX8_distance 22 = .ok (.goto 7, 3) := by decide +kernel
theorem dX8_distance_25 : decode cX8_distance 25 = .ok (.bipush 16, 2) := by decide +kernel
theorem dX8_distance_27 : decode cX8_distance 27 = .ok (.iload_n 2, 1) := by decide +kernel
theorem dX8_distance_28 : decode cX8_distance 28 = .ok (.isub, 1) := by decide +kernel
theorem dX8_distance_29 : decode cX8_distance 29 = .ok (.ireturn, 1) := by decide +kernel
theorem dX8_record_0 : decode cX8_record 0 = .ok (.aload_n 0, 1) := by decide +kernel
theorem dX8_record_1 : decode cX8_record 1 = .ok (.getfield 34, 3) := by decide +kernel
theorem dX8_record_4 : decode cX8_record 4 = .ok (.iconst 5, 1) := by decide +kernel
theorem dX8_record_5 : decode cX8_record 5 = .ok (.if_icmp .ne 43, 3) := by decide +kernel
theorem dX8_record_8 : decode cX8_record 8 = .ok (.iconst 0, 1) := by decide +kernel
theorem dX8_record_9 : decode cX8_record 9 = .ok (.istore_n 1, 1) := by decide +kernel
theorem dX8_record_10 : decode cX8_record 10 = .ok (.iload_n 1, 1) := by decide +kernel
theorem dX8_record_11 : decode cX8_record 11 = .ok (.sipush 432, 3) := by decide +kernel
theorem dX8_record_14 : decode cX8_record 14 = .ok (.if_icmp .ge 24, 3) := by decide +kernel
theorem dX8_record_17 : decode cX8_record 17 = .ok (.aload_n 0, 1) := by decide +kernel
theorem dX8_record_18 : decode cX8_record 18 = .ok (.getfield 13, 3) := by decide +kernel
theorem dX8_record_21 : decode cX8_record 21 = .ok (.iload_n 1, 1) := by decide +kernel
theorem dX8_record_22 : decode cX8_record 22 = .ok (.aload_n 0, 1) := by decide +kernel
theorem dX8_record_23 : decode cX8_record 23 = .ok (.getfield 13, 3) := by decide +kernel
theorem dX8_record_26 : decode cX8_record 26 = .ok (.iload_n 1, 1) := by decide +kernel
theorem dX8_record_27 : decode cX8_record 27 = .ok (.bipush 108, 2) := by decide +kernel
theorem dX8_record_29 : decode cX8_record 29 = .ok (.iadd, 1) := by decide +kernel
theorem dX8_record_30 : decode cX8_record 30 = .ok (.iaload, 1) := by decide +kernel
theorem dX8_record_31 : decode cX8_record 31 = .ok (.iastore, 1) := by decide +kernel
theorem dX8_record_32 : decode cX8_record 32 = .ok (.iinc 1 1, 3) := by decide +kernel
theorem dX8_record_35 : decode cX8_record 35 = .ok (.goto (-25), 3) := by decide +kernel
theorem dX8_record_38 : decode cX8_record 38 = .ok (.aload_n 0, 1) := by decide +kernel
theorem dX8_record_39 : decode cX8_record 39 = .ok (.dup, 1) := by decide +kernel
theorem dX8_record_40 : decode cX8_record 40 = .ok (.getfield 34, 3) := by decide +kernel
theorem dX8_record_43 : decode cX8_record 43 = .ok (.iconst 1, 1) := by decide +kernel
theorem dX8_record_44 : decode cX8_record 44 = .ok (.isub, 1) := by decide +kernel
theorem dX8_record_45 : decode cX8_record 45 = .ok (.putfield 34, 3) := by decide +kernel
theorem dX8_record_48 : decode cX8_record 48 = .ok (.iconst 0, 1) := by decide +kernel
theorem dX8_record_49 : decode cX8_record 49 = .ok (.istore_n 1, 1) := by decide +kernel
theorem dX8_record_50 : decode cX8_record 50 = .ok (.iload_n 1, 1) := by decide +kernel
theorem dX8_record_51 : decode cX8_record 51 = .ok (.bipush 108, 2) := by decide +kernel
theorem dX8_record_53 : decode cX8_record 53 = .ok (.if_icmp .ge 29, 3) := by decide +kernel
theorem dX8_record_56 : decode cX8_record 56 = .ok (.aload_n 0, 1) := by decide +kernel
theorem dX8_record_57 : decode cX8_record 57 = .ok (.getfield 13, 3) := by decide +kernel
theorem dX8_record_60 : decode cX8_record 60 = .ok (.aload_n 0, 1) := by decide +kernel
theorem dX8_record_61 : decode cX8_record 61 = .ok (.getfield 34, 3) := by decide +kernel
theorem dX8_record_64 : decode cX8_record 64 = .ok (.bipush 108, 2) := by decide +kernel
theorem dX8_record_66 : decode cX8_record 66 = .ok (.imul, 1) := by decide +kernel
theorem dX8_record_67 : decode cX8_record 67 = .ok (.iload_n 1, 1) := by decide +kernel
theorem dX8_record_68 : decode cX8_record 68 = .ok (.iadd, 1) := by decide +kernel
theorem dX8_record_69 : decode cX8_record 69 = .ok (.aload_n 0, 1) := by decide +kernel
theorem dX8_record_70 : decode cX8_record 70 = .ok (.getfield 7, 3) := by decide +kernel
theorem dX8_record_73 : decode cX8_record 73 = .ok (.iload_n 1, 1) := by decide +kernel
theorem dX8_record_74 : decode cX8_record 74 = .ok (.iaload, 1) := by decide +kernel
theorem dX8_record_75 : decode cX8_record 75 = .ok (.iastore, 1) := by decide +kernel
theorem dX8_record_76 : decode cX8_record 76 = .ok (.iinc 1 1, 3) := by decide +kernel
theorem dX8_record_79 : decode cX8_record 79 = .ok (.goto (-29), 3) := by decide +kernel
theorem dX8_record_82 : decode cX8_record 82 = .ok (.aload_n 0, 1) := by decide +kernel
theorem dX8_record_83 : decode cX8_record 83 = .ok (.dup, 1) := by decide +kernel
theorem dX8_record_84 : decode cX8_record 84 = .ok (.getfield 34, 3) := by decide +kernel
theorem dX8_record_87 : decode cX8_record 87 = .ok (.iconst 1, 1) := by decide +kernel
theorem dX8_record_88 : decode cX8_record 88 = .ok (.iadd, 1) := by decide +kernel
theorem dX8_record_89 : decode cX8_record 89 = .ok (.putfield 34, 3) := by decide +kernel
theorem dX8_record_92 : decode cX8_record 92 = .ok (.return_, 1) := by decide +kernel
theorem dX8_undo_0 : decode cX8_undo 0 = .ok (.aload_n 0, 1) := by decide +kernel
theorem dX8_undo_1 : decode cX8_undo 1 = .ok (.getfield 34, 3) := by decide +kernel
theorem dX8_undo_4 : decode cX8_undo 4 = .ok (.ifCond .ne 7, 3) := by decide +kernel
theorem dX8_undo_7 : decode cX8_undo 7 = .ok (.sipush (-10003), 3) := by decide +kernel
theorem dX8_undo_10 : decode cX8_undo 10 = .ok (.ireturn, 1) := by decide +kernel
theorem dX8_undo_11 : decode cX8_undo 11 = .ok (.aload_n 0, 1) := by decide +kernel
theorem dX8_undo_12 : decode cX8_undo 12 = .ok (.dup, 1) := by decide +kernel
theorem dX8_undo_13 : decode cX8_undo 13 = .ok (.getfield 34, 3) := by decide +kernel
theorem dX8_undo_16 : decode cX8_undo 16 = .ok (.iconst 1, 1) := by decide +kernel
theorem dX8_undo_17 : decode cX8_undo 17 = .ok (.isub, 1) := by decide +kernel
theorem dX8_undo_18 : decode cX8_undo 18 = .ok (.putfield 34, 3) := by decide +kernel
theorem dX8_undo_21 : decode cX8_undo 21 = .ok (.iconst 0, 1) := by decide +kernel
theorem dX8_undo_22 : decode cX8_undo 22 = .ok (.istore_n 1, 1) := by decide +kernel
theorem dX8_undo_23 : decode cX8_undo 23 = .ok (.iload_n 1, 1) := by decide +kernel
theorem dX8_undo_24 : decode cX8_undo 24 = .ok (.bipush 108, 2) := by decide +kernel
theorem dX8_undo_26 : decode cX8_undo 26 = .ok (.if_icmp .ge 29, 3) := by decide +kernel
theorem dX8_undo_29 : decode cX8_undo 29 = .ok (.aload_n 0, 1) := by decide +kernel
theorem dX8_undo_30 : decode cX8_undo 30 = .ok (.getfield 7, 3) := by decide +kernel
theorem dX8_undo_33 : decode cX8_undo 33 = .ok (.iload_n 1, 1) := by decide +kernel
theorem dX8_undo_34 : decode cX8_undo 34 = .ok (.aload_n 0, 1) := by decide +kernel
theorem dX8_undo_35 : decode cX8_undo 35 = .ok (.getfield 13, 3) := by decide +kernel
theorem dX8_undo_38 : decode cX8_undo 38 = .ok (.aload_n 0, 1) := by decide +kernel
theorem dX8_undo_39 : decode cX8_undo 39 = .ok (.getfield 34, 3) := by decide +kernel
theorem dX8_undo_42 : decode cX8_undo 42 = .ok (.bipush 108, 2) := by decide +kernel
theorem dX8_undo_44 : decode cX8_undo 44 = .ok (.imul, 1) := by decide +kernel
theorem dX8_undo_45 : decode cX8_undo 45 = .ok (.iload_n 1, 1) := by decide +kernel
theorem dX8_undo_46 : decode cX8_undo 46 = .ok (.iadd, 1) := by decide +kernel
theorem dX8_undo_47 : decode cX8_undo 47 = .ok (.iaload, 1) := by decide +kernel
theorem dX8_undo_48 : decode cX8_undo 48 = .ok (.iastore, 1) := by decide +kernel
theorem dX8_undo_49 : decode cX8_undo 49 = .ok (.iinc 1 1, 3) := by decide +kernel
theorem dX8_undo_52 : decode cX8_undo 52 = .ok (.goto (-29), 3) := by decide +kernel
theorem dX8_undo_55 : decode cX8_undo 55 = .ok (.aload_n 0, 1) := by decide +kernel
theorem dX8_undo_56 : decode cX8_undo 56 = .ok (.getfield 34, 3) := by decide +kernel
theorem dX8_undo_59 : decode cX8_undo 59 = .ok (.ireturn, 1) := by decide +kernel
theorem dX8_save_0 : decode cX8_save 0 = .ok (.aload_n 0, 1) := by decide +kernel
theorem dX8_save_1 : decode cX8_save 1 = .ok (.iconst 1, 1) := by decide +kernel
theorem dX8_save_2 : decode cX8_save 2 = .ok (.putfield 38, 3) := by decide +kernel
theorem dX8_save_5 : decode cX8_save 5 = .ok (.iconst 0, 1) := by decide +kernel
theorem dX8_save_6 : decode cX8_save 6 = .ok (.istore_n 1, 1) := by decide +kernel
theorem dX8_save_7 : decode cX8_save 7 = .ok (.iload_n 1, 1) := by decide +kernel
theorem dX8_save_8 : decode cX8_save 8 = .ok (.bipush 108, 2) := by decide +kernel
theorem dX8_save_10 : decode cX8_save 10 = .ok (.if_icmp .ge 21, 3) := by decide +kernel
theorem dX8_save_13 : decode cX8_save 13 = .ok (.aload_n 0, 1) := by decide +kernel
theorem dX8_save_14 : decode cX8_save 14 = .ok (.getfield 16, 3) := by decide +kernel
theorem dX8_save_17 : decode cX8_save 17 = .ok (.iload_n 1, 1) := by decide +kernel
theorem dX8_save_18 : decode cX8_save 18 = .ok (.aload_n 0, 1) := by decide +kernel
theorem dX8_save_19 : decode cX8_save 19 = .ok (.getfield 7, 3) := by decide +kernel
theorem dX8_save_22 : decode cX8_save 22 = .ok (.iload_n 1, 1) := by decide +kernel
theorem dX8_save_23 : decode cX8_save 23 = .ok (.iaload, 1) := by decide +kernel
theorem dX8_save_24 : decode cX8_save 24 = .ok (.iastore, 1) := by decide +kernel
theorem dX8_save_25 : decode cX8_save 25 = .ok (.iinc 1 1, 3) := by decide +kernel
theorem dX8_save_28 : decode cX8_save 28 = .ok (.goto (-21), 3) := by decide +kernel
theorem dX8_save_31 : decode cX8_save 31 = .ok (.aload_n 0, 1) := by decide +kernel
theorem dX8_save_32 : decode cX8_save 32 = .ok (.getfield 7, 3) := by decide +kernel
theorem dX8_save_35 : decode cX8_save 35 = .ok (.iconst 4, 1) := by decide +kernel
theorem dX8_save_36 : decode cX8_save 36 = .ok (.iaload, 1) := by decide +kernel
theorem dX8_save_37 : decode cX8_save 37 = .ok (.ireturn, 1) := by decide +kernel
theorem dX8_restore_0 : decode cX8_restore 0 = .ok (.aload_n 0, 1) := by decide +kernel
theorem dX8_restore_1 : decode cX8_restore 1 = .ok (.getfield 38, 3) := by decide +kernel
theorem dX8_restore_4 : decode cX8_restore 4 = .ok (.ifCond .ne 7, 3) := by decide +kernel
theorem dX8_restore_7 : decode cX8_restore 7 = .ok (.sipush (-10003), 3) := by decide +kernel
theorem dX8_restore_10 : decode cX8_restore 10 = .ok (.ireturn, 1) := by decide +kernel
theorem dX8_restore_11 : decode cX8_restore 11 = .ok (.aload_n 0, 1) := by decide +kernel
theorem dX8_restore_12 : decode cX8_restore 12 = .ok (.invokevirtual 42, 3) := by decide +kernel
theorem dX8_restore_15 : decode cX8_restore 15 = .ok (.iconst 0, 1) := by decide +kernel
theorem dX8_restore_16 : decode cX8_restore 16 = .ok (.istore_n 1, 1) := by decide +kernel
theorem dX8_restore_17 : decode cX8_restore 17 = .ok (.iload_n 1, 1) := by decide +kernel
theorem dX8_restore_18 : decode cX8_restore 18 = .ok (.bipush 108, 2) := by decide +kernel
theorem dX8_restore_20 : decode cX8_restore 20 = .ok (.if_icmp .ge 21, 3) := by decide +kernel
theorem dX8_restore_23 : decode cX8_restore 23 = .ok (.aload_n 0, 1) := by decide +kernel
theorem dX8_restore_24 : decode cX8_restore 24 = .ok (.getfield 7, 3) := by decide +kernel
theorem dX8_restore_27 : decode cX8_restore 27 = .ok (.iload_n 1, 1) := by decide +kernel
theorem dX8_restore_28 : decode cX8_restore 28 = .ok (.aload_n 0, 1) := by decide +kernel
theorem dX8_restore_29 : decode cX8_restore 29 = .ok (.getfield 16, 3) := by decide +kernel
theorem dX8_restore_32 : decode cX8_restore 32 = .ok (.iload_n 1, 1) := by decide +kernel
theorem dX8_restore_33 : decode cX8_restore 33 = .ok (.iaload, 1) := by decide +kernel
theorem dX8_restore_34 : decode cX8_restore 34 = .ok (.iastore, 1) := by decide +kernel
theorem dX8_restore_35 : decode cX8_restore 35 = .ok (.iinc 1 1, 3) := by decide +kernel
theorem dX8_restore_38 : decode cX8_restore 38 = .ok (.goto (-21), 3) := by decide +kernel
theorem dX8_restore_41 : decode cX8_restore 41 = .ok (.aload_n 0, 1) := by decide +kernel
theorem dX8_restore_42 : decode cX8_restore 42 = .ok (.getfield 7, 3) := by decide +kernel
theorem dX8_restore_45 : decode cX8_restore 45 = .ok (.iconst 4, 1) := by decide +kernel
theorem dX8_restore_46 : decode cX8_restore 46 = .ok (.iaload, 1) := by decide +kernel
theorem dX8_restore_47 : decode cX8_restore 47 = .ok (.ireturn, 1) := by decide +kernel
theorem dX8_isInRange_0 : decode cX8_isInRange 0 = .ok (.iload_n 0, 1) := by decide +kernel
theorem dX8_isInRange_1 : decode cX8_isInRange 1 = .ok (.ifCond .ne 12, 3) := by decide +kernel
theorem dX8_isInRange_4 : decode cX8_isInRange 4 = .ok (.iload_n 1, 1) := by decide +kernel
theorem dX8_isInRange_5 : decode cX8_isInRange 5 = .ok (.iconst 0, 1) := by decide +kernel
theorem dX8_isInRange_6 : decode cX8_isInRange 6 = .ok (.iconst 3, 1) := by decide +kernel
theorem dX8_isInRange_7 : decode cX8_isInRange 7 = .ok (.invokestatic 26, 3) := by decide +kernel
theorem dX8_isInRange_10 : decode cX8_isInRange 10 = .ok (.goto 43, 3) := by decide +kernel
theorem dX8_isInRange_13 : decode cX8_isInRange 13 = .ok (.iload_n 0, 1) := by decide +kernel
theorem dX8_isInRange_14 : decode cX8_isInRange 14 = .ok (.iconst 2, 1) := by decide +kernel
theorem dX8_isInRange_15 : decode cX8_isInRange 15 = .ok (.if_icmp .ne 13, 3) := by decide +kernel
theorem dX8_isInRange_18 : decode cX8_isInRange 18 = .ok (.iload_n 1, 1) := by decide +kernel
theorem dX8_isInRange_19 : decode cX8_isInRange 19 = .ok (.iconst 0, 1) := by decide +kernel
theorem dX8_isInRange_20 : decode cX8_isInRange 20 = .ok (.bipush 9, 2) := by decide +kernel
theorem dX8_isInRange_22 : decode cX8_isInRange 22 = .ok (.invokestatic 26, 3) := by decide +kernel
theorem dX8_isInRange_25 : decode cX8_isInRange 25 = .ok (.goto 28, 3) := by decide +kernel
theorem dX8_isInRange_28 : decode cX8_isInRange 28 = .ok (.iload_n 0, 1) := by decide +kernel
theorem dX8_isInRange_29 : decode cX8_isInRange 29 = .ok (.iconst 1, 1) := by decide +kernel
theorem dX8_isInRange_30 : decode cX8_isInRange 30 = .ok (.if_icmp .eq 8, 3) := by decide +kernel
theorem dX8_isInRange_33 : decode cX8_isInRange 33 = .ok (.iload_n 0, 1) := by decide +kernel
theorem dX8_isInRange_34 : decode cX8_isInRange 34 = .ok (.iconst 3, 1) := by decide +kernel
theorem dX8_isInRange_35 : decode cX8_isInRange 35 = .ok (.if_icmp .ne 17, 3) := by decide +kernel
theorem dX8_isInRange_38 : decode cX8_isInRange 38 = .ok (.iload_n 1, 1) := by decide +kernel
theorem dX8_isInRange_39 : decode cX8_isInRange 39 = .ok (.iconst 1, 1) := by decide +kernel
theorem dX8_isInRange_40 : decode cX8_isInRange 40 = .ok (.bipush 9, 2) := by decide +kernel
theorem dX8_isInRange_42 : decode cX8_isInRange 42 = .ok (.invokestatic 26, 3) := by decide +kernel
theorem dX8_isInRange_45 : decode cX8_isInRange 45 = .ok (.ifCond .eq 7, 3) := by decide +kernel
theorem dX8_isInRange_48 : decode cX8_isInRange 48 = .ok (.iconst 1, 1) := by decide +kernel
theorem dX8_isInRange_49 : decode cX8_isInRange 49 = .ok (.goto 4, 3) := by decide +kernel
theorem dX8_isInRange_52 : decode cX8_isInRange 52 = .ok (.iconst 0, 1) := by decide +kernel
theorem dX8_isInRange_53 : decode cX8_isInRange 53 = .ok (.ireturn, 1) := by decide +kernel
theorem dX8_set_0 : decode cX8_set 0 = .ok (.iload_n 1, 1) := by decide +kernel
theorem dX8_set_1 : decode cX8_set 1 = .ok (.iload_n 2, 1) := by decide +kernel
theorem dX8_set_2 : decode cX8_set 2 = .ok (.invokestatic 45, 3) := by decide +kernel
theorem dX8_set_5 : decode cX8_set 5 = .ok (.ifCond .ne 7, 3) := by decide +kernel
theorem dX8_set_8 : decode cX8_set 8 = .ok (.sipush (-10002), 3) := by decide +kernel
theorem dX8_set_11 : decode cX8_set 11 = .ok (.ireturn, 1) := by decide +kernel
theorem dX8_set_12 : decode cX8_set 12 = .ok (.aload_n 0, 1) := by decide +kernel
theorem dX8_set_13 : decode cX8_set 13 = .ok (.invokevirtual 42, 3) := by decide +kernel
theorem dX8_set_16 : decode cX8_set 16 = .ok (.aload_n 0, 1) := by decide +kernel
theorem dX8_set_17 : decode cX8_set 17 = .ok (.getfield 7, 3) := by decide +kernel
theorem dX8_set_20 : decode cX8_set 20 = .ok (.iconst 0, 1) := by decide +kernel
theorem dX8_set_21 : decode cX8_set 21 = .ok (.iload_n 1, 1) := by decide +kernel
theorem dX8_set_22 : decode cX8_set 22 = .ok (.iadd, 1) := by decide +kernel
theorem dX8_set_23 : decode cX8_set 23 = .ok (.iaload, 1) := by decide +kernel
theorem dX8_set_24 : decode cX8_set 24 = .ok (.istore_n 3, 1) := by decide +kernel
theorem dX8_set_25 : decode cX8_set 25 = .ok (.aload_n 0, 1) := by decide +kernel
theorem dX8_set_26 : decode cX8_set 26 = .ok (.getfield 7, 3) := by decide +kernel
theorem dX8_set_29 : decode cX8_set 29 = .ok (.iconst 0, 1) := by decide +kernel
theorem dX8_set_30 : decode cX8_set 30 = .ok (.iload_n 1, 1) := by decide +kernel
theorem dX8_set_31 : decode cX8_set 31 = .ok (.iadd, 1) := by decide +kernel
theorem dX8_set_32 : decode cX8_set 32 = .ok (.iload_n 2, 1) := by decide +kernel
theorem dX8_set_33 : decode cX8_set 33 = .ok (.iastore, 1) := by decide +kernel
theorem dX8_set_34 : decode cX8_set 34 = .ok (.iload_n 3, 1) := by decide +kernel
theorem dX8_set_35 : decode cX8_set 35 = .ok (.ireturn, 1) := by decide +kernel
theorem dX8_setting_0 : decode cX8_setting 0 = .ok (.iload_n 1, 1) := by decide +kernel
theorem dX8_setting_1 : decode cX8_setting 1 = .ok (.iconst 0, 1) := by decide +kernel
theorem dX8_setting_2 : decode cX8_setting 2 = .ok (.iconst 3, 1) := by decide +kernel
theorem dX8_setting_3 : decode cX8_setting 3 = .ok (.invokestatic 26, 3) := by decide +kernel
theorem dX8_setting_6 : decode cX8_setting 6 = .ok (.ifCond .eq 14, 3) := by decide +kernel
theorem dX8_setting_9 : decode cX8_setting 9 = .ok (.aload_n 0, 1) := by decide +kernel
theorem dX8_setting_10 : decode cX8_setting 10 = .ok (.getfield 7, 3) := by decide +kernel
theorem dX8_setting_13 : decode cX8_setting 13 = .ok (.iconst 0, 1) := by decide +kernel
theorem dX8_setting_14 : decode cX8_setting 14 = .ok (.iload_n 1, 1) := by decide +kernel
theorem dX8_setting_15 : decode cX8_setting 15 = .ok (.iadd, 1) := by decide +kernel
theorem dX8_setting_16 : decode cX8_setting 16 = .ok (.iaload, 1) := by decide +kernel
theorem dX8_setting_17 : decode cX8_setting 17 = .ok (.goto 6, 3) := by decide +kernel
theorem dX8_setting_20 : decode cX8_setting 20 = .ok (.sipush (-10002), 3) := by decide +kernel
theorem dX8_setting_23 : decode cX8_setting 23 = .ok (.ireturn, 1) := by decide +kernel
theorem dX8_join_0 : decode cX8_join 0 = .ok (.aload_n 0, 1) := by decide +kernel
theorem dX8_join_1 : decode cX8_join 1 = .ok (.getfield 7, 3) := by decide +kernel
theorem dX8_join_4 : decode cX8_join 4 = .ok (.bipush 6, 2) := by decide +kernel
theorem dX8_join_6 : decode cX8_join 6 = .ok (.iaload, 1) := by decide +kernel
theorem dX8_join_7 : decode cX8_join 7 = .ok (.ifCond .le 7, 3) := by decide +kernel
theorem dX8_join_10 : decode cX8_join 10 = .ok (.sipush (-10003), 3) := by decide +kernel
theorem dX8_join_13 : decode cX8_join 13 = .ok (.ireturn, 1) := by decide +kernel
theorem dX8_join_14 : decode cX8_join 14 = .ok (.aload_n 0, 1) := by decide +kernel
theorem dX8_join_15 : decode cX8_join 15 = .ok (.getfield 7, 3) := by decide +kernel
theorem dX8_join_18 : decode cX8_join 18 = .ok (.iconst 4, 1) := by decide +kernel
theorem dX8_join_19 : decode cX8_join 19 = .ok (.iaload, 1) := by decide +kernel
theorem dX8_join_20 : decode cX8_join 20 = .ok (.bipush 8, 2) := by decide +kernel
theorem dX8_join_22 : decode cX8_join 22 = .ok (.if_icmp .ne 7, 3) := by decide +kernel
theorem dX8_join_25 : decode cX8_join 25 = .ok (.sipush (-10004), 3) := by decide +kernel
theorem dX8_join_28 : decode cX8_join 28 = .ok (.ireturn, 1) := by decide +kernel
theorem dX8_join_29 : decode cX8_join 29 = .ok (.aload_n 0, 1) := by decide +kernel
theorem dX8_join_30 : decode cX8_join 30 = .ok (.invokevirtual 42, 3) := by decide +kernel
theorem dX8_join_33 : decode cX8_join 33 = .ok (.iconst 0, 1) := by decide +kernel
theorem dX8_join_34 : decode cX8_join 34 = .ok (.istore_n 1, 1) := by decide +kernel
theorem dX8_join_35 : decode cX8_join 35 = .ok (.iload_n 1, 1) := by decide +kernel
theorem dX8_join_36 : decode cX8_join 36 = .ok (.iconst 5, 1) := by decide +kernel
theorem dX8_join_37 : decode cX8_join 37 = .ok (.if_icmp .ge 29, 3) := by decide +kernel
theorem dX8_join_40 : decode cX8_join 40 = .ok (.aload_n 0, 1) := by decide +kernel
theorem dX8_join_41 : decode cX8_join 41 = .ok (.getfield 7, 3) := by decide +kernel
theorem dX8_join_44 : decode cX8_join 44 = .ok (.bipush 12, 2) := by decide +kernel
theorem dX8_join_46 : decode cX8_join 46 = .ok (.bipush 6, 2) := by decide +kernel
theorem dX8_join_48 : decode cX8_join 48 = .ok (.aload_n 0, 1) := by decide +kernel
theorem dX8_join_49 : decode cX8_join 49 = .ok (.getfield 7, 3) := by decide +kernel
theorem dX8_join_52 : decode cX8_join 52 = .ok (.iconst 4, 1) := by decide +kernel
theorem dX8_join_53 : decode cX8_join 53 = .ok (.iaload, 1) := by decide +kernel
theorem dX8_join_54 : decode cX8_join 54 = .ok (.imul, 1) := by decide +kernel
theorem dX8_join_55 : decode cX8_join 55 = .ok (.iadd, 1) := by decide +kernel
theorem dX8_join_56 : decode cX8_join 56 = .ok (.iload_n 1, 1) := by decide +kernel
theorem dX8_join_57 : decode cX8_join 57 = .ok (.iadd, 1) := by decide +kernel
theorem dX8_join_58 : decode cX8_join 58 = .ok (.iconst 0, 1) := by decide +kernel
theorem dX8_join_59 : decode cX8_join 59 = .ok (.iastore, 1) := by decide +kernel
theorem dX8_join_60 : decode cX8_join 60 = .ok (.iinc 1 1, 3) := by decide +kernel
theorem dX8_join_63 : decode cX8_join 63 = .ok (.goto (-28), 3) := by decide +kernel
theorem dX8_join_66 : decode cX8_join 66 = .ok (.aload_n 0, 1) := by decide +kernel
theorem dX8_join_67 : decode cX8_join 67 = .ok (.aload_n 0, 1) := by decide +kernel
theorem dX8_join_68 : decode cX8_join 68 = .ok (.getfield 7, 3) := by decide +kernel
theorem dX8_join_71 : decode cX8_join 71 = .ok (.iconst 4, 1) := by decide +kernel
theorem dX8_join_72 : decode cX8_join 72 = .ok (.iaload, 1) := by decide +kernel
theorem dX8_join_73 : decode cX8_join 73 = .ok (.sipush (-10006), 3) := by decide +kernel
theorem dX8_join_76 : decode cX8_join 76 = .ok (.invokevirtual 49, 3) := by decide +kernel
theorem dX8_join_79 : decode cX8_join 79 = .ok (.aload_n 0, 1) := by decide +kernel
theorem dX8_join_80 : decode cX8_join 80 = .ok (.getfield 7, 3) := by decide +kernel
theorem dX8_join_83 : decode cX8_join 83 = .ok (.iconst 4, 1) := by decide +kernel
theorem dX8_join_84 : decode cX8_join 84 = .ok (.dup2, 1) := by decide +kernel
theorem dX8_join_85 : decode cX8_join 85 = .ok (.iaload, 1) := by decide +kernel
theorem dX8_join_86 : decode cX8_join 86 = .ok (.iconst 1, 1) := by decide +kernel
theorem dX8_join_87 : decode cX8_join 87 = .ok (.iadd, 1) := by decide +kernel
theorem dX8_join_88 : decode cX8_join 88 = .ok (.iastore, 1) := by decide +kernel
theorem dX8_join_89 : decode cX8_join 89 = .ok (.aload_n 0, 1) := by decide +kernel
theorem dX8_join_90 : decode cX8_join 90 = .ok (.getfield 7, 3) := by decide +kernel
theorem dX8_join_93 : decode cX8_join 93 = .ok (.iconst 4, 1) := by decide +kernel
theorem dX8_join_94 : decode cX8_join 94 = .ok (.iaload, 1) := by decide +kernel
theorem dX8_join_95 : decode cX8_join 95 = .ok (.iconst 1, 1) := by decide +kernel
theorem dX8_join_96 : decode cX8_join 96 = .ok (.isub, 1) := by decide +kernel
theorem dX8_join_97 : decode cX8_join 97 = .ok (.ireturn, 1) := by decide +kernel
theorem dX8_hidersAt_0 : decode cX8_hidersAt 0 = .ok (.iconst 0, 1) := by decide +kernel
theorem dX8_hidersAt_1 : decode cX8_hidersAt 1 = .ok (.istore_n 2, 1) := by decide +kernel
theorem dX8_hidersAt_2 : decode cX8_hidersAt 2 = .ok (.iconst 0, 1) := by decide +kernel
theorem dX8_hidersAt_3 : decode cX8_hidersAt 3 = .ok (.istore_n 3, 1) := by decide +kernel
theorem dX8_hidersAt_4 : decode cX8_hidersAt 4 = .ok (.iload_n 3, 1) := by decide +kernel
theorem dX8_hidersAt_5 : decode cX8_hidersAt 5 = .ok (.aload_n 0, 1) := by decide +kernel
theorem dX8_hidersAt_6 : decode cX8_hidersAt 6 = .ok (.getfield 7, 3) := by decide +kernel
theorem dX8_hidersAt_9 : decode cX8_hidersAt 9 = .ok (.iconst 4, 1) := by decide +kernel
theorem dX8_hidersAt_10 : decode cX8_hidersAt 10 = .ok (.iaload, 1) := by decide +kernel
theorem dX8_hidersAt_11 : decode cX8_hidersAt 11 = .ok (.if_icmp .ge 29, 3) := by decide +kernel
theorem dX8_hidersAt_14 : decode cX8_hidersAt 14 = .ok (.iload_n 2, 1) := by decide +kernel
theorem dX8_hidersAt_15 : decode cX8_hidersAt 15 = .ok (.aload_n 0, 1) := by decide +kernel
theorem dX8_hidersAt_16 : decode cX8_hidersAt 16 = .ok (.iload_n 3, 1) := by decide +kernel
theorem dX8_hidersAt_17 : decode cX8_hidersAt 17 = .ok (.iconst 5, 1) := by decide +kernel
theorem dX8_hidersAt_18 : decode cX8_hidersAt 18 = .ok (.invokevirtual 53, 3) := by decide +kernel
theorem dX8_hidersAt_21 : decode cX8_hidersAt 21 = .ok (.iload_n 1, 1) := by decide +kernel
theorem dX8_hidersAt_22 : decode cX8_hidersAt 22 = .ok (.if_icmp .ne 9, 3) := by decide +kernel
theorem dX8_hidersAt_25 : decode cX8_hidersAt 25 = .ok (.iconst 1, 1) := by decide +kernel
theorem dX8_hidersAt_26 : decode cX8_hidersAt 26 = .ok (.iload_n 3, 1) := by decide +kernel
theorem dX8_hidersAt_27 : decode cX8_hidersAt 27 = .ok (.ishl, 1) := by decide +kernel
theorem dX8_hidersAt_28 : decode cX8_hidersAt 28 = .ok (.goto 4, 3) := by decide +kernel
theorem dX8_hidersAt_31 : decode cX8_hidersAt 31 = .ok (.iconst 0, 1) := by decide +kernel
theorem dX8_hidersAt_32 : decode cX8_hidersAt 32 = .ok (.ior, 1) := by decide +kernel
theorem dX8_hidersAt_33 : decode cX8_hidersAt 33 = .ok (.istore_n 2, 1) := by decide +kernel
theorem dX8_hidersAt_34 : decode cX8_hidersAt 34 = .ok (.iinc 3 1, 3) := by decide +kernel
theorem dX8_hidersAt_37 : decode cX8_hidersAt 37 = .ok (.goto (-33), 3) := by decide +kernel
theorem dX8_hidersAt_40 : decode cX8_hidersAt 40 = .ok (.iload_n 2, 1) := by decide +kernel
theorem dX8_hidersAt_41 : decode cX8_hidersAt 41 = .ok (.ireturn, 1) := by decide +kernel
theorem dX8_bits_0 : decode cX8_bits 0 = .ok (.iconst 0, 1) := by decide +kernel
theorem dX8_bits_1 : decode cX8_bits 1 = .ok (.istore_n 1, 1) := by decide +kernel
theorem dX8_bits_2 : decode cX8_bits 2 = .ok (.iconst 0, 1) := by decide +kernel
theorem dX8_bits_3 : decode cX8_bits 3 = .ok (.istore_n 2, 1) := by decide +kernel
theorem dX8_bits_4 : decode cX8_bits 4 = .ok (.iload_n 2, 1) := by decide +kernel
theorem dX8_bits_5 : decode cX8_bits 5 = .ok (.bipush 16, 2) := by decide +kernel
theorem dX8_bits_7 : decode cX8_bits 7 = .ok (.if_icmp .ge 17, 3) := by decide +kernel
theorem dX8_bits_10 : decode cX8_bits 10 = .ok (.iload_n 1, 1) := by decide +kernel
theorem dX8_bits_11 : decode cX8_bits 11 = .ok (.iload_n 0, 1) := by decide +kernel
theorem dX8_bits_12 : decode cX8_bits 12 = .ok (.iload_n 2, 1) := by decide +kernel
theorem dX8_bits_13 : decode cX8_bits 13 = .ok (.ishr, 1) := by decide +kernel
theorem dX8_bits_14 : decode cX8_bits 14 = .ok (.iconst 1, 1) := by decide +kernel
theorem dX8_bits_15 : decode cX8_bits 15 = .ok (.iand, 1) := by decide +kernel
theorem dX8_bits_16 : decode cX8_bits 16 = .ok (.iadd, 1) := by decide +kernel
theorem dX8_bits_17 : decode cX8_bits 17 = .ok (.istore_n 1, 1) := by decide +kernel
theorem dX8_bits_18 : decode cX8_bits 18 = .ok (.iinc 2 1, 3) := by decide +kernel
theorem dX8_bits_21 : decode cX8_bits 21 = .ok (.goto (-17), 3) := by decide +kernel
theorem dX8_bits_24 : decode cX8_bits 24 = .ok (.iload_n 1, 1) := by decide +kernel
theorem dX8_bits_25 : decode cX8_bits 25 = .ok (.ireturn, 1) := by decide +kernel
theorem dX8_hidden_0 : decode cX8_hidden 0 = .ok (.iconst 0, 1) := by decide +kernel
theorem dX8_hidden_1 : decode cX8_hidden 1 = .ok (.istore_n 1, 1) := by decide +kernel
theorem dX8_hidden_2 : decode cX8_hidden 2 = .ok (.iconst 0, 1) := by decide +kernel
theorem dX8_hidden_3 : decode cX8_hidden 3 = .ok (.istore_n 2, 1) := by decide +kernel
theorem dX8_hidden_4 : decode cX8_hidden 4 = .ok (.iload_n 2, 1) := by decide +kernel
theorem dX8_hidden_5 : decode cX8_hidden 5 = .ok (.aload_n 0, 1) := by decide +kernel
theorem dX8_hidden_6 : decode cX8_hidden 6 = .ok (.getfield 7, 3) := by decide +kernel
theorem dX8_hidden_9 : decode cX8_hidden 9 = .ok (.iconst 4, 1) := by decide +kernel
theorem dX8_hidden_10 : decode cX8_hidden 10 = .ok (.iaload, 1) := by decide +kernel
theorem dX8_hidden_11 : decode cX8_hidden 11 = .ok (.if_icmp .ge 29, 3) := by decide +kernel
theorem dX8_hidden_14 : decode cX8_hidden 14 = .ok (.iload_n 1, 1) := by decide +kernel
theorem dX8_hidden_15 : decode cX8_hidden 15 = .ok (.aload_n 0, 1) := by decide +kernel
theorem dX8_hidden_16 : decode cX8_hidden 16 = .ok (.iload_n 2, 1) := by decide +kernel
theorem dX8_hidden_17 : decode cX8_hidden 17 = .ok (.iconst 5, 1) := by decide +kernel
theorem dX8_hidden_18 : decode cX8_hidden 18 = .ok (.invokevirtual 53, 3) := by decide +kernel
theorem dX8_hidden_21 : decode cX8_hidden 21 = .ok (.sipush (-10006), 3) := by decide +kernel
theorem dX8_hidden_24 : decode cX8_hidden 24 = .ok (.if_icmp .ne 7, 3) := by decide +kernel
theorem dX8_hidden_27 : decode cX8_hidden 27 = .ok (.iconst 0, 1) := by decide +kernel
theorem dX8_hidden_28 : decode cX8_hidden 28 = .ok (.goto 4, 3) := by decide +kernel
theorem dX8_hidden_31 : decode cX8_hidden 31 = .ok (.iconst 1, 1) := by decide +kernel
theorem dX8_hidden_32 : decode cX8_hidden 32 = .ok (.iadd, 1) := by decide +kernel
theorem dX8_hidden_33 : decode cX8_hidden 33 = .ok (.istore_n 1, 1) := by decide +kernel
theorem dX8_hidden_34 : decode cX8_hidden 34 = .ok (.iinc 2 1, 3) := by decide +kernel
theorem dX8_hidden_37 : decode cX8_hidden 37 = .ok (.goto (-33), 3) := by decide +kernel
theorem dX8_hidden_40 : decode cX8_hidden 40 = .ok (.iload_n 1, 1) := by decide +kernel
theorem dX8_hidden_41 : decode cX8_hidden 41 = .ok (.ireturn, 1) := by decide +kernel
theorem dX8_isGood_0 : decode cX8_isGood 0 = .ok (.iload_n 1, 1) := by decide +kernel
theorem dX8_isGood_1 : decode cX8_isGood 1 = .ok (.ifCond .le 30, 3) := by decide +kernel
theorem dX8_isGood_4 : decode cX8_isGood 4 = .ok (.iload_n 1, 1) := by decide +kernel
theorem dX8_isGood_5 : decode cX8_isGood 5 = .ok (.iconst 0, 1) := by decide +kernel
theorem dX8_isGood_6 : decode cX8_isGood 6 = .ok (.invokestatic 56, 3) := by decide +kernel
theorem dX8_isGood_9 : decode cX8_isGood 9 = .ok (.aload_n 0, 1) := by decide +kernel
theorem dX8_isGood_10 : decode cX8_isGood 10 = .ok (.getfield 7, 3) := by decide +kernel
theorem dX8_isGood_13 : decode cX8_isGood 13 = .ok (.bipush 8, 2) := by decide +kernel
theorem dX8_isGood_15 : decode cX8_isGood 15 = .ok (.iaload, 1) := by decide +kernel
theorem dX8_isGood_16 : decode cX8_isGood 16 = .ok (.if_icmp .gt 15, 3) := by decide +kernel
theorem dX8_isGood_19 : decode cX8_isGood 19 = .ok (.aload_n 0, 1) := by decide +kernel
theorem dX8_isGood_20 : decode cX8_isGood 20 = .ok (.iload_n 1, 1) := by decide +kernel
theorem dX8_isGood_21 : decode cX8_isGood 21 = .ok (.invokevirtual 59, 3) := by decide +kernel
theorem dX8_isGood_24 : decode cX8_isGood 24 = .ok (.ifCond .ne 7, 3) := by decide +kernel
theorem dX8_isGood_27 : decode cX8_isGood 27 = .ok (.iconst 1, 1) := by decide +kernel
theorem dX8_isGood_28 : decode cX8_isGood 28 = .ok (.goto 4, 3) := by decide +kernel
theorem dX8_isGood_31 : decode cX8_isGood 31 = .ok (.iconst 0, 1) := by decide +kernel
theorem dX8_isGood_32 : decode cX8_isGood 32 = .ok (.ireturn, 1) := by decide +kernel
theorem dX8_isOpen_0 : decode cX8_isOpen 0 = .ok (.aload_n 0, 1) := by decide +kernel
theorem dX8_isOpen_1 : decode cX8_isOpen 1 = .ok (.iload_n 1, 1) := by decide +kernel
theorem dX8_isOpen_2 : decode cX8_isOpen 2 = .ok (.invokevirtual 63, 3) := by decide +kernel
theorem dX8_isOpen_5 : decode cX8_isOpen 5 = .ok (.ifCond .eq 19, 3) := by decide +kernel
theorem dX8_isOpen_8 : decode cX8_isOpen 8 = .ok (.aload_n 0, 1) := by decide +kernel
theorem dX8_isOpen_9 : decode cX8_isOpen 9 = .ok (.iload_n 1, 1) := by decide +kernel
theorem dX8_isOpen_10 : decode cX8_isOpen 10 = .ok (.invokevirtual 66, 3) := by decide +kernel
theorem dX8_isOpen_13 : decode cX8_isOpen 13 = .ok (.invokestatic 70, 3) := by decide +kernel
theorem dX8_isOpen_16 : decode cX8_isOpen 16 = .ok (.iconst 2, 1) := by decide +kernel
theorem dX8_isOpen_17 : decode cX8_isOpen 17 = .ok (.if_icmp .ge 7, 3) := by decide +kernel
theorem dX8_isOpen_20 : decode cX8_isOpen 20 = .ok (.iconst 1, 1) := by decide +kernel
theorem dX8_isOpen_21 : decode cX8_isOpen 21 = .ok (.goto 4, 3) := by decide +kernel
theorem dX8_isOpen_24 : decode cX8_isOpen 24 = .ok (.iconst 0, 1) := by decide +kernel
theorem dX8_isOpen_25 : decode cX8_isOpen 25 = .ok (.ireturn, 1) := by decide +kernel
theorem dX8_start_0 : decode cX8_start 0 = .ok (.aload_n 0, 1) := by decide +kernel
theorem dX8_start_1 : decode cX8_start 1 = .ok (.iload_n 1, 1) := by decide +kernel
theorem dX8_start_2 : decode cX8_start 2 = .ok (.invokevirtual 73, 3) := by decide +kernel
theorem dX8_start_5 : decode cX8_start 5 = .ok (.ifCond .ne 7, 3) := by decide +kernel
theorem dX8_start_8 : decode cX8_start 8 = .ok (.sipush (-10001), 3) := by decide +kernel
theorem dX8_start_11 : decode cX8_start 11 = .ok (.ireturn, 1) := by decide +kernel
theorem dX8_start_12 : decode cX8_start 12 = .ok (.iload_n 2, 1) := by decide +kernel
theorem dX8_start_13 : decode cX8_start 13 = .ok (.iconst 1, 1) := by decide +kernel
theorem dX8_start_14 : decode cX8_start 14 = .ok (.bipush 8, 2) := by decide +kernel
theorem dX8_start_16 : decode cX8_start 16 = .ok (.invokestatic 26, 3) := by decide +kernel
theorem dX8_start_19 : decode cX8_start 19 = .ok (.ifCond .ne 7, 3) := by decide +kernel
theorem dX8_start_22 : decode cX8_start 22 = .ok (.sipush (-10002), 3) := by decide +kernel
theorem dX8_start_25 : decode cX8_start 25 = .ok (.ireturn, 1) := by decide +kernel
theorem dX8_start_26 : decode cX8_start 26 = .ok (.aload_n 0, 1) := by decide +kernel
theorem dX8_start_27 : decode cX8_start 27 = .ok (.getfield 7, 3) := by decide +kernel
theorem dX8_start_30 : decode cX8_start 30 = .ok (.bipush 6, 2) := by decide +kernel
theorem dX8_start_32 : decode cX8_start 32 = .ok (.iaload, 1) := by decide +kernel
theorem dX8_start_33 : decode cX8_start 33 = .ok (.ifCond .gt 13, 3) := by decide +kernel
theorem dX8_start_36 : decode cX8_start 36 = .ok (.aload_n 0, 1) := by decide +kernel
theorem dX8_start_37 : decode cX8_start 37 = .ok (.getfield 7, 3) := by decide +kernel
theorem dX8_start_40 : decode cX8_start 40 = .ok (.iconst 4, 1) := by decide +kernel
theorem dX8_start_41 : decode cX8_start 41 = .ok (.iaload, 1) := by decide +kernel
theorem dX8_start_42 : decode cX8_start 42 = .ok (.iconst 2, 1) := by decide +kernel
theorem dX8_start_43 : decode cX8_start 43 = .ok (.if_icmp .ge 7, 3) := by decide +kernel
theorem dX8_start_46 : decode cX8_start 46 = .ok (.sipush (-10003), 3) := by decide +kernel
theorem dX8_start_49 : decode cX8_start 49 = .ok (.ireturn, 1) := by decide +kernel
theorem dX8_start_50 : decode cX8_start 50 = .ok (.aload_n 0, 1) := by decide +kernel
theorem dX8_start_51 : decode cX8_start 51 = .ok (.invokevirtual 42, 3) := by decide +kernel
theorem dX8_start_54 : decode cX8_start 54 = .ok (.aload_n 0, 1) := by decide +kernel
theorem dX8_start_55 : decode cX8_start 55 = .ok (.getfield 7, 3) := by decide +kernel
theorem dX8_start_58 : decode cX8_start 58 = .ok (.bipush 6, 2) := by decide +kernel
theorem dX8_start_60 : decode cX8_start 60 = .ok (.iconst 1, 1) := by decide +kernel
theorem dX8_start_61 : decode cX8_start 61 = .ok (.iastore, 1) := by decide +kernel
theorem dX8_start_62 : decode cX8_start 62 = .ok (.aload_n 0, 1) := by decide +kernel
theorem dX8_start_63 : decode cX8_start 63 = .ok (.getfield 7, 3) := by decide +kernel
theorem dX8_start_66 : decode cX8_start 66 = .ok (.bipush 7, 2) := by decide +kernel
theorem dX8_start_68 : decode cX8_start 68 = .ok (.iload_n 1, 1) := by decide +kernel
theorem dX8_start_69 : decode cX8_start 69 = .ok (.iastore, 1) := by decide +kernel
theorem dX8_start_70 : decode cX8_start 70 = .ok (.aload_n 0, 1) := by decide +kernel
theorem dX8_start_71 : decode cX8_start 71 = .ok (.getfield 7, 3) := by decide +kernel
theorem dX8_start_74 : decode cX8_start 74 = .ok (.bipush 8, 2) := by decide +kernel
theorem dX8_start_76 : decode cX8_start 76 = .ok (.iload_n 2, 1) := by decide +kernel
theorem dX8_start_77 : decode cX8_start 77 = .ok (.iastore, 1) := by decide +kernel
theorem dX8_start_78 : decode cX8_start 78 = .ok (.aload_n 0, 1) := by decide +kernel
theorem dX8_start_79 : decode cX8_start 79 = .ok (.getfield 7, 3) := by decide +kernel
theorem dX8_start_82 : decode cX8_start 82 = .ok (.bipush 9, 2) := by decide +kernel
theorem dX8_start_84 : decode cX8_start 84 = .ok (.iconst 0, 1) := by decide +kernel
theorem dX8_start_85 : decode cX8_start 85 = .ok (.iastore, 1) := by decide +kernel
theorem dX8_start_86 : decode cX8_start 86 = .ok (.aload_n 0, 1) := by decide +kernel
theorem dX8_start_87 : decode cX8_start 87 = .ok (.getfield 7, 3) := by decide +kernel
theorem dX8_start_90 : decode cX8_start 90 = .ok (.bipush 10, 2) := by decide +kernel
theorem dX8_start_92 : decode cX8_start 92 = .ok (.iconst 0, 1) := by decide +kernel
theorem dX8_start_93 : decode cX8_start 93 = .ok (.iastore, 1) := by decide +kernel
theorem dX8_start_94 : decode cX8_start 94 = .ok (.aload_n 0, 1) := by decide +kernel
theorem dX8_start_95 : decode cX8_start 95 = .ok (.iload_n 1, 1) := by decide +kernel
theorem dX8_start_96 : decode cX8_start 96 = .ok (.iconst 1, 1) := by decide +kernel
theorem dX8_start_97 : decode cX8_start 97 = .ok (.iconst 1, 1) := by decide +kernel
theorem dX8_start_98 : decode cX8_start 98 = .ok (.invokevirtual 76, 3) := by decide +kernel
theorem dX8_start_101 : decode cX8_start 101 = .ok (.iconst 0, 1) := by decide +kernel
theorem dX8_start_102 : decode cX8_start 102 = .ok (.istore_n 3, 1) := by decide +kernel
theorem dX8_start_103 : decode cX8_start 103 = .ok (.iconst 0, 1) := by decide +kernel
theorem dX8_start_104 : decode cX8_start 104 = .ok (.istore 4, 2) := by decide +kernel
theorem dX8_start_106 : decode cX8_start 106 = .ok (.iload 4, 2) := by decide +kernel
theorem dX8_start_108 : decode cX8_start 108 = .ok (.bipush 16, 2) := by decide +kernel
theorem dX8_start_110 : decode cX8_start 110 = .ok (.if_icmp .ge 26, 3) := by decide +kernel
theorem dX8_start_113 : decode cX8_start 113 = .ok (.iload_n 3, 1) := by decide +kernel
theorem dX8_start_114 : decode cX8_start 114 = .ok (.aload_n 0, 1) := by decide +kernel
theorem dX8_start_115 : decode cX8_start 115 = .ok (.iload 4, 2) := by decide +kernel
theorem dX8_start_117 : decode cX8_start 117 = .ok (.invokevirtual 80, 3) := by decide +kernel
theorem dX8_start_120 : decode cX8_start 120 = .ok (.ifCond .eq 7, 3) := by decide +kernel
theorem dX8_start_123 : decode cX8_start 123 = .ok (.iconst 1, 1) := by decide +kernel
theorem dX8_start_124 : decode cX8_start 124 = .ok (.goto 4, 3) := by decide +kernel
theorem dX8_start_127 : decode cX8_start 127 = .ok (.iconst 0, 1) := by decide +kernel
theorem dX8_start_128 : decode cX8_start 128 = .ok (.iadd, 1) := by decide +kernel
theorem dX8_start_129 : decode cX8_start 129 = .ok (.istore_n 3, 1) := by decide +kernel
theorem dX8_start_130 : decode cX8_start 130 = .ok (.iinc 4 1, 3) := by decide +kernel
theorem dX8_start_133 : decode cX8_start 133 = .ok (.goto (-27), 3) := by decide +kernel
theorem dX8_start_136 : decode cX8_start 136 = .ok (.iload_n 3, 1) := by decide +kernel
theorem dX8_start_137 : decode cX8_start 137 = .ok (.ireturn, 1) := by decide +kernel
theorem dX8_whyNotHide_0 : decode cX8_whyNotHide 0 = .ok (.aload_n 0, 1) := by decide +kernel
theorem dX8_whyNotHide_1 : decode cX8_whyNotHide 1 = .ok (.iload_n 1, 1) := by decide +kernel
theorem dX8_whyNotHide_2 : decode cX8_whyNotHide 2 = .ok (.invokevirtual 73, 3) := by decide +kernel
theorem dX8_whyNotHide_5 : decode cX8_whyNotHide 5 = .ok (.ifCond .eq 10, 3) := by decide +kernel
theorem dX8_whyNotHide_8 : decode cX8_whyNotHide 8 = .ok (.iload_n 2, 1) := by decide +kernel
theorem dX8_whyNotHide_9 : decode cX8_whyNotHide 9 = .ok (.invokestatic 83, 3) := by decide +kernel
theorem dX8_whyNotHide_12 : decode cX8_whyNotHide 12 = .ok (.ifCond .ne 7, 3) := by decide +kernel
theorem dX8_whyNotHide_15 : decode cX8_whyNotHide 15 = .ok (.sipush (-10001), 3) := by decide +kernel
theorem dX8_whyNotHide_18 : decode cX8_whyNotHide 18 = .ok (.ireturn, 1) := by decide +kernel
theorem dX8_whyNotHide_19 : decode cX8_whyNotHide 19 = .ok (.aload_n 0, 1) := by decide +kernel
theorem dX8_whyNotHide_20 : decode cX8_whyNotHide 20 = .ok (.getfield 7, 3) := by decide +kernel
theorem dX8_whyNotHide_23 : decode cX8_whyNotHide 23 = .ok (.bipush 6, 2) := by decide +kernel
theorem dX8_whyNotHide_25 : decode cX8_whyNotHide 25 = .ok (.iaload, 1) := by decide +kernel
theorem dX8_whyNotHide_26 : decode cX8_whyNotHide 26 = .ok (.iconst 1, 1) := by decide +kernel
theorem dX8_whyNotHide_27 : decode cX8_whyNotHide 27 = .ok (.if_icmp .ne 34, 3) := by decide +kernel
theorem dX8_whyNotHide_30 : decode cX8_whyNotHide 30 = .ok (.iload_n 1, 1) := by decide +kernel
theorem dX8_whyNotHide_31 : decode cX8_whyNotHide 31 = .ok (.aload_n 0, 1) := by decide +kernel
theorem dX8_whyNotHide_32 : decode cX8_whyNotHide 32 = .ok (.getfield 7, 3) := by decide +kernel
theorem dX8_whyNotHide_35 : decode cX8_whyNotHide 35 = .ok (.bipush 7, 2) := by decide +kernel
theorem dX8_whyNotHide_37 : decode cX8_whyNotHide 37 = .ok (.iaload, 1) := by decide +kernel
theorem dX8_whyNotHide_38 : decode cX8_whyNotHide 38 = .ok (.if_icmp .eq 23, 3) := by decide +kernel
theorem dX8_whyNotHide_41 : decode cX8_whyNotHide 41 = .ok (.aload_n 0, 1) := by decide +kernel
theorem dX8_whyNotHide_42 : decode cX8_whyNotHide 42 = .ok (.iload_n 1, 1) := by decide +kernel
theorem dX8_whyNotHide_43 : decode cX8_whyNotHide 43 = .ok (.iconst 5, 1) := by decide +kernel
theorem dX8_whyNotHide_44 : decode cX8_whyNotHide 44 = .ok (.invokevirtual 53, 3) := by decide +kernel
theorem dX8_whyNotHide_47 : decode cX8_whyNotHide 47 = .ok (.sipush (-10006), 3) := by decide +kernel
theorem dX8_whyNotHide_50 : decode cX8_whyNotHide 50 = .ok (.if_icmp .ne 11, 3) := by decide +kernel
theorem dX8_whyNotHide_53 : decode cX8_whyNotHide 53 = .ok (.aload_n 0, 1) := by decide +kernel
theorem dX8_whyNotHide_54 : decode cX8_whyNotHide 54 = .ok (.iload_n 2, 1) := by decide +kernel
theorem dX8_whyNotHide_55 : decode cX8_whyNotHide 55 = .ok (.invokevirtual 63, 3) := by decide +kernel
theorem dX8_whyNotHide_58 : decode cX8_whyNotHide 58 = .ok (.ifCond .ne 7, 3) := by decide +kernel
theorem dX8_whyNotHide_61 : decode cX8_whyNotHide 61 = .ok (.sipush (-10003), 3) := by decide +kernel
theorem dX8_whyNotHide_64 : decode cX8_whyNotHide 64 = .ok (.ireturn, 1) := by decide +kernel
theorem dX8_whyNotHide_65 : decode cX8_whyNotHide 65 = .ok (.aload_n 0, 1) := by decide +kernel
theorem dX8_whyNotHide_66 : decode cX8_whyNotHide 66 = .ok (.iload_n 2, 1) := by decide +kernel
theorem dX8_whyNotHide_67 : decode cX8_whyNotHide 67 = .ok (.invokevirtual 66, 3) := by decide +kernel
theorem dX8_whyNotHide_70 : decode cX8_whyNotHide 70 = .ok (.invokestatic 70, 3) := by decide +kernel
theorem dX8_whyNotHide_73 : decode cX8_whyNotHide 73 = .ok (.iconst 2, 1) := by decide +kernel
theorem dX8_whyNotHide_74 : decode cX8_whyNotHide 74 = .ok (.if_icmp .ne 9, 3) := by decide +kernel
theorem dX8_whyNotHide_77 : decode cX8_whyNotHide 77 = .ok (.sipush (-10004), 3) := by decide +kernel
theorem dX8_whyNotHide_80 : decode cX8_whyNotHide 80 = .ok (.goto 4, 3) := by decide +kernel
theorem dX8_whyNotHide_83 : decode cX8_whyNotHide 83 = .ok (.iconst 0, 1) := by decide +kernel
theorem dX8_whyNotHide_84 : decode cX8_whyNotHide 84 = .ok (.ireturn, 1) := by decide +kernel
theorem dX8_hide_0 : decode cX8_hide 0 = .ok (.aload_n 0, 1) := by decide +kernel
theorem dX8_hide_1 : decode cX8_hide 1 = .ok (.iload_n 1, 1) := by decide +kernel
theorem dX8_hide_2 : decode cX8_hide 2 = .ok (.iload_n 2, 1) := by decide +kernel
theorem dX8_hide_3 : decode cX8_hide 3 = .ok (.invokevirtual 86, 3) := by decide +kernel
theorem dX8_hide_6 : decode cX8_hide 6 = .ok (.istore_n 3, 1) := by decide +kernel
theorem dX8_hide_7 : decode cX8_hide 7 = .ok (.iload_n 3, 1) := by decide +kernel
theorem dX8_hide_8 : decode cX8_hide 8 = .ok (.ifCond .ge 5, 3) := by decide +kernel
theorem dX8_hide_11 : decode cX8_hide 11 = .ok (.iload_n 3, 1) := by decide +kernel
theorem dX8_hide_12 : decode cX8_hide 12 = .ok (.ireturn, 1) := by decide +kernel
theorem dX8_hide_13 : decode cX8_hide 13 = .ok (.aload_n 0, 1) := by decide +kernel
theorem dX8_hide_14 : decode cX8_hide 14 = .ok (.invokevirtual 42, 3) := by decide +kernel
theorem dX8_hide_17 : decode cX8_hide 17 = .ok (.aload_n 0, 1) := by decide +kernel
theorem dX8_hide_18 : decode cX8_hide 18 = .ok (.iload_n 1, 1) := by decide +kernel
theorem dX8_hide_19 : decode cX8_hide 19 = .ok (.iload_n 2, 1) := by decide +kernel
theorem dX8_hide_20 : decode cX8_hide 20 = .ok (.invokevirtual 49, 3) := by decide +kernel
theorem dX8_hide_23 : decode cX8_hide 23 = .ok (.iload_n 2, 1) := by decide +kernel
theorem dX8_hide_24 : decode cX8_hide 24 = .ok (.iconst 0, 1) := by decide +kernel
theorem dX8_hide_25 : decode cX8_hide 25 = .ok (.invokestatic 56, 3) := by decide +kernel
theorem dX8_hide_28 : decode cX8_hide 28 = .ok (.ireturn, 1) := by decide +kernel
theorem dX8_ends_0 : decode cX8_ends 0 = .ok (.aload_n 0, 1) := by decide +kernel
theorem dX8_ends_1 : decode cX8_ends 1 = .ok (.getfield 7, 3) := by decide +kernel
theorem dX8_ends_4 : decode cX8_ends 4 = .ok (.bipush 6, 2) := by decide +kernel
theorem dX8_ends_6 : decode cX8_ends 6 = .ok (.iconst 0, 1) := by decide +kernel
theorem dX8_ends_7 : decode cX8_ends 7 = .ok (.iastore, 1) := by decide +kernel
theorem dX8_ends_8 : decode cX8_ends 8 = .ok (.aload_n 0, 1) := by decide +kernel
theorem dX8_ends_9 : decode cX8_ends 9 = .ok (.getfield 7, 3) := by decide +kernel
theorem dX8_ends_12 : decode cX8_ends 12 = .ok (.bipush 10, 2) := by decide +kernel
theorem dX8_ends_14 : decode cX8_ends 14 = .ok (.iconst 0, 1) := by decide +kernel
theorem dX8_ends_15 : decode cX8_ends 15 = .ok (.iastore, 1) := by decide +kernel
theorem dX8_ends_16 : decode cX8_ends 16 = .ok (.aload_n 0, 1) := by decide +kernel
theorem dX8_ends_17 : decode cX8_ends 17 = .ok (.getfield 7, 3) := by decide +kernel
theorem dX8_ends_20 : decode cX8_ends 20 = .ok (.iconst 5, 1) := by decide +kernel
theorem dX8_ends_21 : decode cX8_ends 21 = .ok (.dup2, 1) := by decide +kernel
theorem dX8_ends_22 : decode cX8_ends 22 = .ok (.iaload, 1) := by decide +kernel
theorem dX8_ends_23 : decode cX8_ends 23 = .ok (.iconst 1, 1) := by decide +kernel
theorem dX8_ends_24 : decode cX8_ends 24 = .ok (.iadd, 1) := by decide +kernel
theorem dX8_ends_25 : decode cX8_ends 25 = .ok (.iastore, 1) := by decide +kernel
theorem dX8_ends_26 : decode cX8_ends 26 = .ok (.iconst 0, 1) := by decide +kernel
theorem dX8_ends_27 : decode cX8_ends 27 = .ok (.istore_n 1, 1) := by decide +kernel
theorem dX8_ends_28 : decode cX8_ends 28 = .ok (.iload_n 1, 1) := by decide +kernel
theorem dX8_ends_29 : decode cX8_ends 29 = .ok (.aload_n 0, 1) := by decide +kernel
theorem dX8_ends_30 : decode cX8_ends 30 = .ok (.getfield 7, 3) := by decide +kernel
theorem dX8_ends_33 : decode cX8_ends 33 = .ok (.iconst 4, 1) := by decide +kernel
theorem dX8_ends_34 : decode cX8_ends 34 = .ok (.iaload, 1) := by decide +kernel
theorem dX8_ends_35 : decode cX8_ends 35 = .ok (.if_icmp .ge 17, 3) := by decide +kernel
theorem dX8_ends_38 : decode cX8_ends 38 = .ok (.aload_n 0, 1) := by decide +kernel
theorem dX8_ends_39 : decode cX8_ends 39 = .ok (.iload_n 1, 1) := by decide +kernel
theorem dX8_ends_40 : decode cX8_ends 40 = .ok (.sipush (-10006), 3) := by decide +kernel
theorem dX8_ends_43 : decode cX8_ends 43 = .ok (.invokevirtual 49, 3) := by decide +kernel
theorem dX8_ends_46 : decode cX8_ends 46 = .ok (.iinc 1 1, 3) := by decide +kernel
theorem dX8_ends_49 : decode cX8_ends 49 = .ok (.goto (-21), 3) := by decide +kernel
theorem dX8_ends_52 : decode cX8_ends 52 = .ok (.iconst 0, 1) := by decide +kernel
theorem dX8_ends_53 : decode cX8_ends 53 = .ok (.istore_n 1, 1) := by decide +kernel
theorem dX8_ends_54 : decode cX8_ends 54 = .ok (.iload_n 1, 1) := by decide +kernel
theorem dX8_ends_55 : decode cX8_ends 55 = .ok (.bipush 16, 2) := by decide +kernel
theorem dX8_ends_57 : decode cX8_ends 57 = .ok (.if_icmp .ge 74, 3) := by decide +kernel
theorem dX8_ends_60 : decode cX8_ends 60 = .ok (.aload_n 0, 1) := by decide +kernel
theorem dX8_ends_61 : decode cX8_ends 61 = .ok (.iload_n 1, 1) := by decide +kernel
theorem dX8_ends_62 : decode cX8_ends 62 = .ok (.invokevirtual 59, 3) := by decide +kernel
theorem dX8_ends_65 : decode cX8_ends 65 = .ok (.ifCond .eq 60, 3) := by decide +kernel
theorem dX8_ends_68 : decode cX8_ends 68 = .ok (.aload_n 0, 1) := by decide +kernel
theorem dX8_ends_69 : decode cX8_ends 69 = .ok (.getfield 7, 3) := by decide +kernel
theorem dX8_ends_72 : decode cX8_ends 72 = .ok (.iconst 2, 1) := by decide +kernel
theorem dX8_ends_73 : decode cX8_ends 73 = .ok (.iaload, 1) := by decide +kernel
theorem dX8_ends_74 : decode cX8_ends 74 = .ok (.ifCond .le 51, 3) := by decide +kernel
theorem dX8_ends_77 : decode cX8_ends 77 = .ok (.aload_n 0, 1) := by decide +kernel
theorem dX8_ends_78 : decode cX8_ends 78 = .ok (.getfield 7, 3) := by decide +kernel
theorem dX8_ends_81 : decode cX8_ends 81 = .ok (.iconst 5, 1) := by decide +kernel
theorem dX8_ends_82 : decode cX8_ends 82 = .ok (.iaload, 1) := by decide +kernel
theorem dX8_ends_83 : decode cX8_ends 83 = .ok (.aload_n 0, 1) := by decide +kernel
theorem dX8_ends_84 : decode cX8_ends 84 = .ok (.iload_n 1, 1) := by decide +kernel
theorem dX8_ends_85 : decode cX8_ends 85 = .ok (.iconst 2, 1) := by decide +kernel
theorem dX8_ends_86 : decode cX8_ends 86 = .ok (.invokevirtual 30, 3) := by decide +kernel
theorem dX8_ends_89 : decode cX8_ends 89 = .ok (.isub, 1) := by decide +kernel
theorem dX8_ends_90 : decode cX8_ends 90 = .ok (.aload_n 0, 1) := by decide +kernel
theorem dX8_ends_91 : decode cX8_ends 91 = .ok (.getfield 7, 3) := by decide +kernel
theorem dX8_ends_94 : decode cX8_ends 94 = .ok (.iconst 2, 1) := by decide +kernel
theorem dX8_ends_95 : decode cX8_ends 95 = .ok (.iaload, 1) := by decide +kernel
theorem dX8_ends_96 : decode cX8_ends 96 = .ok (.if_icmp .lt 29, 3) := by decide +kernel
theorem dX8_ends_99 : decode cX8_ends 99 = .ok (.aload_n 0, 1) := by decide +kernel
theorem dX8_ends_100 : decode cX8_ends 100 = .ok (.getfield 7, 3) := by decide +kernel
theorem dX8_ends_103 : decode cX8_ends 103 = .ok (.bipush 60, 2) := by decide +kernel
theorem dX8_ends_105 : decode cX8_ends 105 = .ok (.iconst 3, 1) := by decide +kernel
theorem dX8_ends_106 : decode cX8_ends 106 = .ok (.iload_n 1, 1) := by decide +kernel
theorem dX8_ends_107 : decode cX8_ends 107 = .ok (.imul, 1) := by decide +kernel
theorem dX8_ends_108 : decode cX8_ends 108 = .ok (.iadd, 1) := by decide +kernel
theorem dX8_ends_109 : decode cX8_ends 109 = .ok (.iconst 0, 1) := by decide +kernel
theorem dX8_ends_110 : decode cX8_ends 110 = .ok (.iastore, 1) := by decide +kernel
theorem dX8_ends_111 : decode cX8_ends 111 = .ok (.aload_n 0, 1) := by decide +kernel
theorem dX8_ends_112 : decode cX8_ends 112 = .ok (.getfield 7, 3) := by decide +kernel
theorem dX8_ends_115 : decode cX8_ends 115 = .ok (.bipush 60, 2) := by decide +kernel
theorem dX8_ends_117 : decode cX8_ends 117 = .ok (.iconst 3, 1) := by decide +kernel
theorem dX8_ends_118 : decode cX8_ends 118 = .ok (.iload_n 1, 1) := by decide +kernel
theorem dX8_ends_119 : decode cX8_ends 119 = .ok (.imul, 1) := by decide +kernel
theorem dX8_ends_120 : decode cX8_ends 120 = .ok (.iadd, 1) := by decide +kernel
theorem dX8_ends_121 : decode cX8_ends 121 = .ok (.iconst 1, 1) := by decide +kernel
theorem dX8_ends_122 : decode cX8_ends 122 = .ok (.iadd, 1) := by decide +kernel
theorem dX8_ends_123 : decode cX8_ends 123 = .ok (.iconst 0, 1) := by decide +kernel
theorem dX8_ends_124 : decode cX8_ends 124 = .ok (.iastore, 1) := by decide +kernel
theorem dX8_ends_125 : decode cX8_ends 125 = .ok (.iinc 1 1, 3) := by decide +kernel
theorem dX8_ends_128 : decode cX8_ends 128 = .ok (.goto (-74), 3) := by decide +kernel
theorem dX8_ends_131 : decode cX8_ends 131 = .ok (.return_, 1) := by decide +kernel
theorem dX8_endsIfEmpty_0 : decode cX8_endsIfEmpty 0 = .ok (.aload_n 0, 1) := by decide +kernel
theorem dX8_endsIfEmpty_1 : decode cX8_endsIfEmpty 1 = .ok (.invokevirtual 89, 3) := by decide +kernel
theorem dX8_endsIfEmpty_4 : decode cX8_endsIfEmpty 4 = .ok (.ifCond .ne 7, 3) := by decide +kernel
theorem dX8_endsIfEmpty_7 : decode cX8_endsIfEmpty 7 = .ok (.aload_n 0, 1) := by decide +kernel
theorem dX8_endsIfEmpty_8 : decode cX8_endsIfEmpty 8 = .ok (.invokevirtual 93, 3) := by decide +kernel
theorem dX8_endsIfEmpty_11 : decode cX8_endsIfEmpty 11 = .ok (.return_, 1) := by decide +kernel
theorem dX8_seeks_0 : decode cX8_seeks 0 = .ok (.aload_n 0, 1) := by decide +kernel
theorem dX8_seeks_1 : decode cX8_seeks 1 = .ok (.invokevirtual 89, 3) := by decide +kernel
theorem dX8_seeks_4 : decode cX8_seeks 4 = .ok (.istore_n 1, 1) := by decide +kernel
theorem dX8_seeks_5 : decode cX8_seeks 5 = .ok (.aload_n 0, 1) := by decide +kernel
theorem dX8_seeks_6 : decode cX8_seeks 6 = .ok (.getfield 7, 3) := by decide +kernel
theorem dX8_seeks_9 : decode cX8_seeks 9 = .ok (.bipush 6, 2) := by decide +kernel
theorem dX8_seeks_11 : decode cX8_seeks 11 = .ok (.iconst 2, 1) := by decide +kernel
theorem dX8_seeks_12 : decode cX8_seeks 12 = .ok (.iastore, 1) := by decide +kernel
theorem dX8_seeks_13 : decode cX8_seeks 13 = .ok (.aload_n 0, 1) := by decide +kernel
theorem dX8_seeks_14 : decode cX8_seeks 14 = .ok (.invokevirtual 96, 3) := by decide +kernel
theorem dX8_seeks_17 : decode cX8_seeks 17 = .ok (.iload_n 1, 1) := by decide +kernel
theorem dX8_seeks_18 : decode cX8_seeks 18 = .ok (.ireturn, 1) := by decide +kernel
theorem dX8_seek_0 : decode cX8_seek 0 = .ok (.aload_n 0, 1) := by decide +kernel
theorem dX8_seek_1 : decode cX8_seek 1 = .ok (.getfield 7, 3) := by decide +kernel
theorem dX8_seek_4 : decode cX8_seek 4 = .ok (.bipush 6, 2) := by decide +kernel
theorem dX8_seek_6 : decode cX8_seek 6 = .ok (.iaload, 1) := by decide +kernel
theorem dX8_seek_7 : decode cX8_seek 7 = .ok (.iconst 1, 1) := by decide +kernel
theorem dX8_seek_8 : decode cX8_seek 8 = .ok (.if_icmp .eq 7, 3) := by decide +kernel
theorem dX8_seek_11 : decode cX8_seek 11 = .ok (.sipush (-10003), 3) := by decide +kernel
theorem dX8_seek_14 : decode cX8_seek 14 = .ok (.ireturn, 1) := by decide +kernel
theorem dX8_seek_15 : decode cX8_seek 15 = .ok (.aload_n 0, 1) := by decide +kernel
theorem dX8_seek_16 : decode cX8_seek 16 = .ok (.invokevirtual 42, 3) := by decide +kernel
theorem dX8_seek_19 : decode cX8_seek 19 = .ok (.aload_n 0, 1) := by decide +kernel
theorem dX8_seek_20 : decode cX8_seek 20 = .ok (.invokevirtual 99, 3) := by decide +kernel
theorem dX8_seek_23 : decode cX8_seek 23 = .ok (.ireturn, 1) := by decide +kernel
theorem dX8_walks_0 : decode cX8_walks 0 = .ok (.aload_n 0, 1) := by decide +kernel
theorem dX8_walks_1 : decode cX8_walks 1 = .ok (.getfield 7, 3) := by decide +kernel
theorem dX8_walks_4 : decode cX8_walks 4 = .ok (.bipush 9, 2) := by decide +kernel
theorem dX8_walks_6 : decode cX8_walks 6 = .ok (.aload_n 0, 1) := by decide +kernel
theorem dX8_walks_7 : decode cX8_walks 7 = .ok (.getfield 7, 3) := by decide +kernel
theorem dX8_walks_10 : decode cX8_walks 10 = .ok (.bipush 9, 2) := by decide +kernel
theorem dX8_walks_12 : decode cX8_walks 12 = .ok (.iaload, 1) := by decide +kernel
theorem dX8_walks_13 : decode cX8_walks 13 = .ok (.iload_n 1, 1) := by decide +kernel
theorem dX8_walks_14 : decode cX8_walks 14 = .ok (.iadd, 1) := by decide +kernel
theorem dX8_walks_15 : decode cX8_walks 15 = .ok (.bipush 16, 2) := by decide +kernel
theorem dX8_walks_17 : decode cX8_walks 17 = .ok (.iadd, 1) := by decide +kernel
theorem dX8_walks_18 : decode cX8_walks 18 = .ok (.bipush 16, 2) := by decide +kernel
theorem dX8_walks_20 : decode cX8_walks 20 = .ok (.irem, 1) := by decide +kernel
theorem dX8_walks_21 : decode cX8_walks 21 = .ok (.iastore, 1) := by decide +kernel
theorem dX8_walks_22 : decode cX8_walks 22 = .ok (.aload_n 0, 1) := by decide +kernel
theorem dX8_walks_23 : decode cX8_walks 23 = .ok (.getfield 7, 3) := by decide +kernel
theorem dX8_walks_26 : decode cX8_walks 26 = .ok (.bipush 9, 2) := by decide +kernel
theorem dX8_walks_28 : decode cX8_walks 28 = .ok (.iaload, 1) := by decide +kernel
theorem dX8_walks_29 : decode cX8_walks 29 = .ok (.ireturn, 1) := by decide +kernel
theorem dX8_walk_0 : decode cX8_walk 0 = .ok (.iload_n 1, 1) := by decide +kernel
theorem dX8_walk_1 : decode cX8_walk 1 = .ok (.iconst (-1), 1) := by decide +kernel
theorem dX8_walk_2 : decode cX8_walk 2 = .ok (.iconst 1, 1) := by decide +kernel
theorem dX8_walk_3 : decode cX8_walk 3 = .ok (.invokestatic 26, 3) := by decide +kernel
theorem dX8_walk_6 : decode cX8_walk 6 = .ok (.ifCond .ne 7, 3) := by decide +kernel
theorem dX8_walk_9 : decode cX8_walk 9 = .ok (.sipush (-10002), 3) := by decide +kernel
theorem dX8_walk_12 : decode cX8_walk 12 = .ok (.ireturn, 1) := by decide +kernel
theorem dX8_walk_13 : decode cX8_walk 13 = .ok (.aload_n 0, 1) := by decide +kernel
theorem dX8_walk_14 : decode cX8_walk 14 = .ok (.getfield 7, 3) := by decide +kernel
theorem dX8_walk_17 : decode cX8_walk 17 = .ok (.bipush 6, 2) := by decide +kernel
theorem dX8_walk_19 : decode cX8_walk 19 = .ok (.iaload, 1) := by decide +kernel
theorem dX8_walk_20 : decode cX8_walk 20 = .ok (.iconst 2, 1) := by decide +kernel
theorem dX8_walk_21 : decode cX8_walk 21 = .ok (.if_icmp .eq 7, 3) := by decide +kernel
theorem dX8_walk_24 : decode cX8_walk 24 = .ok (.sipush (-10003), 3) := by decide +kernel
theorem dX8_walk_27 : decode cX8_walk 27 = .ok (.ireturn, 1) := by decide +kernel
theorem dX8_walk_28 : decode cX8_walk 28 = .ok (.aload_n 0, 1) := by decide +kernel
theorem dX8_walk_29 : decode cX8_walk 29 = .ok (.invokevirtual 42, 3) := by decide +kernel
theorem dX8_walk_32 : decode cX8_walk 32 = .ok (.aload_n 0, 1) := by decide +kernel
theorem dX8_walk_33 : decode cX8_walk 33 = .ok (.iload_n 1, 1) := by decide +kernel
theorem dX8_walk_34 : decode cX8_walk 34 = .ok (.invokevirtual 102, 3) := by decide +kernel
theorem dX8_walk_37 : decode cX8_walk 37 = .ok (.ireturn, 1) := by decide +kernel
theorem dX8_whyNotCry_0 : decode cX8_whyNotCry 0 = .ok (.aload_n 0, 1) := by decide +kernel
theorem dX8_whyNotCry_1 : decode cX8_whyNotCry 1 = .ok (.iload_n 1, 1) := by decide +kernel
theorem dX8_whyNotCry_2 : decode cX8_whyNotCry 2 = .ok (.invokevirtual 73, 3) := by decide +kernel
theorem dX8_whyNotCry_5 : decode cX8_whyNotCry 5 = .ok (.ifCond .eq 10, 3) := by decide +kernel
theorem dX8_whyNotCry_8 : decode cX8_whyNotCry 8 = .ok (.iload_n 2, 1) := by decide +kernel
theorem dX8_whyNotCry_9 : decode cX8_whyNotCry 9 = .ok (.invokestatic 83, 3) := by decide +kernel
theorem dX8_whyNotCry_12 : decode cX8_whyNotCry 12 = .ok (.ifCond .ne 7, 3) := by decide +kernel
theorem dX8_whyNotCry_15 : decode cX8_whyNotCry 15 = .ok (.sipush (-10001), 3) := by decide +kernel
theorem dX8_whyNotCry_18 : decode cX8_whyNotCry 18 = .ok (.ireturn, 1) := by decide +kernel
theorem dX8_whyNotCry_19 : decode cX8_whyNotCry 19 = .ok (.aload_n 0, 1) := by decide +kernel
theorem dX8_whyNotCry_20 : decode cX8_whyNotCry 20 = .ok (.getfield 7, 3) := by decide +kernel
theorem dX8_whyNotCry_23 : decode cX8_whyNotCry 23 = .ok (.bipush 6, 2) := by decide +kernel
theorem dX8_whyNotCry_25 : decode cX8_whyNotCry 25 = .ok (.iaload, 1) := by decide +kernel
theorem dX8_whyNotCry_26 : decode cX8_whyNotCry 26 = .ok (.iconst 2, 1) := by decide +kernel
theorem dX8_whyNotCry_27 : decode cX8_whyNotCry 27 = .ok (.if_icmp .ne 34, 3) := by decide +kernel
theorem dX8_whyNotCry_30 : decode cX8_whyNotCry 30 = .ok (.iload_n 1, 1) := by decide +kernel
theorem dX8_whyNotCry_31 : decode cX8_whyNotCry 31 = .ok (.aload_n 0, 1) := by decide +kernel
theorem dX8_whyNotCry_32 : decode cX8_whyNotCry 32 = .ok (.getfield 7, 3) := by decide +kernel
theorem dX8_whyNotCry_35 : decode cX8_whyNotCry 35 = .ok (.bipush 7, 2) := by decide +kernel
theorem dX8_whyNotCry_37 : decode cX8_whyNotCry 37 = .ok (.iaload, 1) := by decide +kernel
theorem dX8_whyNotCry_38 : decode cX8_whyNotCry 38 = .ok (.if_icmp .eq 23, 3) := by decide +kernel
theorem dX8_whyNotCry_41 : decode cX8_whyNotCry 41 = .ok (.iload_n 2, 1) := by decide +kernel
theorem dX8_whyNotCry_42 : decode cX8_whyNotCry 42 = .ok (.aload_n 0, 1) := by decide +kernel
theorem dX8_whyNotCry_43 : decode cX8_whyNotCry 43 = .ok (.getfield 7, 3) := by decide +kernel
theorem dX8_whyNotCry_46 : decode cX8_whyNotCry 46 = .ok (.bipush 9, 2) := by decide +kernel
theorem dX8_whyNotCry_48 : decode cX8_whyNotCry 48 = .ok (.iaload, 1) := by decide +kernel
theorem dX8_whyNotCry_49 : decode cX8_whyNotCry 49 = .ok (.invokestatic 56, 3) := by decide +kernel
theorem dX8_whyNotCry_52 : decode cX8_whyNotCry 52 = .ok (.aload_n 0, 1) := by decide +kernel
theorem dX8_whyNotCry_53 : decode cX8_whyNotCry 53 = .ok (.getfield 7, 3) := by decide +kernel
theorem dX8_whyNotCry_56 : decode cX8_whyNotCry 56 = .ok (.iconst 0, 1) := by decide +kernel
theorem dX8_whyNotCry_57 : decode cX8_whyNotCry 57 = .ok (.iaload, 1) := by decide +kernel
theorem dX8_whyNotCry_58 : decode cX8_whyNotCry 58 = .ok (.if_icmp .le 9, 3) := by decide +kernel
theorem dX8_whyNotCry_61 : decode cX8_whyNotCry 61 = .ok (.sipush (-10003), 3) := by decide +kernel
theorem dX8_whyNotCry_64 : decode cX8_whyNotCry 64 = .ok (.goto 4, 3) := by decide +kernel
theorem dX8_whyNotCry_67 : decode cX8_whyNotCry 67 = .ok (.iconst 0, 1) := by decide +kernel
theorem dX8_whyNotCry_68 : decode cX8_whyNotCry 68 = .ok (.ireturn, 1) := by decide +kernel
theorem dX8_finds_0 : decode cX8_finds 0 = .ok (.aload_n 0, 1) := by decide +kernel
theorem dX8_finds_1 : decode cX8_finds 1 = .ok (.getfield 7, 3) := by decide +kernel
theorem dX8_finds_4 : decode cX8_finds 4 = .ok (.bipush 60, 2) := by decide +kernel
theorem dX8_finds_6 : decode cX8_finds 6 = .ok (.iconst 3, 1) := by decide +kernel
theorem dX8_finds_7 : decode cX8_finds 7 = .ok (.iload_n 1, 1) := by decide +kernel
theorem dX8_finds_8 : decode cX8_finds 8 = .ok (.imul, 1) := by decide +kernel
theorem dX8_finds_9 : decode cX8_finds 9 = .ok (.iadd, 1) := by decide +kernel
theorem dX8_finds_10 : decode cX8_finds 10 = .ok (.dup2, 1) := by decide +kernel
theorem dX8_finds_11 : decode cX8_finds 11 = .ok (.iaload, 1) := by decide +kernel
theorem dX8_finds_12 : decode cX8_finds 12 = .ok (.iconst 1, 1) := by decide +kernel
theorem dX8_finds_13 : decode cX8_finds 13 = .ok (.iadd, 1) := by decide +kernel
theorem dX8_finds_14 : decode cX8_finds 14 = .ok (.iastore, 1) := by decide +kernel
theorem dX8_finds_15 : decode cX8_finds 15 = .ok (.aload_n 0, 1) := by decide +kernel
theorem dX8_finds_16 : decode cX8_finds 16 = .ok (.iload_n 1, 1) := by decide +kernel
theorem dX8_finds_17 : decode cX8_finds 17 = .ok (.invokevirtual 59, 3) := by decide +kernel
theorem dX8_finds_20 : decode cX8_finds 20 = .ok (.ifCond .ne 51, 3) := by decide +kernel
theorem dX8_finds_23 : decode cX8_finds 23 = .ok (.aload_n 0, 1) := by decide +kernel
theorem dX8_finds_24 : decode cX8_finds 24 = .ok (.iload_n 1, 1) := by decide +kernel
theorem dX8_finds_25 : decode cX8_finds 25 = .ok (.iconst 0, 1) := by decide +kernel
theorem dX8_finds_26 : decode cX8_finds 26 = .ok (.invokevirtual 30, 3) := by decide +kernel
theorem dX8_finds_29 : decode cX8_finds 29 = .ok (.aload_n 0, 1) := by decide +kernel
theorem dX8_finds_30 : decode cX8_finds 30 = .ok (.getfield 7, 3) := by decide +kernel
theorem dX8_finds_33 : decode cX8_finds 33 = .ok (.iconst 1, 1) := by decide +kernel
theorem dX8_finds_34 : decode cX8_finds 34 = .ok (.iaload, 1) := by decide +kernel
theorem dX8_finds_35 : decode cX8_finds 35 = .ok (.if_icmp .lt 36, 3) := by decide +kernel
theorem dX8_finds_38 : decode cX8_finds 38 = .ok (.aload_n 0, 1) := by decide +kernel
theorem dX8_finds_39 : decode cX8_finds 39 = .ok (.getfield 7, 3) := by decide +kernel
theorem dX8_finds_42 : decode cX8_finds 42 = .ok (.bipush 60, 2) := by decide +kernel
theorem dX8_finds_44 : decode cX8_finds 44 = .ok (.iconst 3, 1) := by decide +kernel
theorem dX8_finds_45 : decode cX8_finds 45 = .ok (.iload_n 1, 1) := by decide +kernel
theorem dX8_finds_46 : decode cX8_finds 46 = .ok (.imul, 1) := by decide +kernel
theorem dX8_finds_47 : decode cX8_finds 47 = .ok (.iadd, 1) := by decide +kernel
theorem dX8_finds_48 : decode cX8_finds 48 = .ok (.iconst 1, 1) := by decide +kernel
theorem dX8_finds_49 : decode cX8_finds 49 = .ok (.iadd, 1) := by decide +kernel
theorem dX8_finds_50 : decode cX8_finds 50 = .ok (.iconst 1, 1) := by decide +kernel
theorem dX8_finds_51 : decode cX8_finds 51 = .ok (.iastore, 1) := by decide +kernel
theorem dX8_finds_52 : decode cX8_finds 52 = .ok (.aload_n 0, 1) := by decide +kernel
theorem dX8_finds_53 : decode cX8_finds 53 = .ok (.getfield 7, 3) := by decide +kernel
theorem dX8_finds_56 : decode cX8_finds 56 = .ok (.bipush 60, 2) := by decide +kernel
theorem dX8_finds_58 : decode cX8_finds 58 = .ok (.iconst 3, 1) := by decide +kernel
theorem dX8_finds_59 : decode cX8_finds 59 = .ok (.iload_n 1, 1) := by decide +kernel
theorem dX8_finds_60 : decode cX8_finds 60 = .ok (.imul, 1) := by decide +kernel
theorem dX8_finds_61 : decode cX8_finds 61 = .ok (.iadd, 1) := by decide +kernel
theorem dX8_finds_62 : decode cX8_finds 62 = .ok (.iconst 2, 1) := by decide +kernel
theorem dX8_finds_63 : decode cX8_finds 63 = .ok (.iadd, 1) := by decide +kernel
theorem dX8_finds_64 : decode cX8_finds 64 = .ok (.aload_n 0, 1) := by decide +kernel
theorem dX8_finds_65 : decode cX8_finds 65 = .ok (.getfield 7, 3) := by decide +kernel
theorem dX8_finds_68 : decode cX8_finds 68 = .ok (.iconst 5, 1) := by decide +kernel
theorem dX8_finds_69 : decode cX8_finds 69 = .ok (.iaload, 1) := by decide +kernel
theorem dX8_finds_70 : decode cX8_finds 70 = .ok (.iastore, 1) := by decide +kernel
theorem dX8_finds_71 : decode cX8_finds 71 = .ok (.return_, 1) := by decide +kernel
theorem dX8_escapes_0 : decode cX8_escapes 0 = .ok (.aload_n 0, 1) := by decide +kernel
theorem dX8_escapes_1 : decode cX8_escapes 1 = .ok (.iload_n 1, 1) := by decide +kernel
theorem dX8_escapes_2 : decode cX8_escapes 2 = .ok (.sipush (-10006), 3) := by decide +kernel
theorem dX8_escapes_5 : decode cX8_escapes 5 = .ok (.invokevirtual 49, 3) := by decide +kernel
theorem dX8_escapes_8 : decode cX8_escapes 8 = .ok (.aload_n 0, 1) := by decide +kernel
theorem dX8_escapes_9 : decode cX8_escapes 9 = .ok (.iload_n 1, 1) := by decide +kernel
theorem dX8_escapes_10 : decode cX8_escapes 10 = .ok (.iconst 0, 1) := by decide +kernel
theorem dX8_escapes_11 : decode cX8_escapes 11 = .ok (.iload_n 2, 1) := by decide +kernel
theorem dX8_escapes_12 : decode cX8_escapes 12 = .ok (.invokevirtual 76, 3) := by decide +kernel
theorem dX8_escapes_15 : decode cX8_escapes 15 = .ok (.aload_n 0, 1) := by decide +kernel
theorem dX8_escapes_16 : decode cX8_escapes 16 = .ok (.iload_n 1, 1) := by decide +kernel
theorem dX8_escapes_17 : decode cX8_escapes 17 = .ok (.iconst 4, 1) := by decide +kernel
theorem dX8_escapes_18 : decode cX8_escapes 18 = .ok (.iconst 1, 1) := by decide +kernel
theorem dX8_escapes_19 : decode cX8_escapes 19 = .ok (.invokevirtual 76, 3) := by decide +kernel
theorem dX8_escapes_22 : decode cX8_escapes 22 = .ok (.return_, 1) := by decide +kernel
theorem dX8_cries_0 : decode cX8_cries 0 = .ok (.aload_n 0, 1) := by decide +kernel
theorem dX8_cries_1 : decode cX8_cries 1 = .ok (.getfield 7, 3) := by decide +kernel
theorem dX8_cries_4 : decode cX8_cries 4 = .ok (.bipush 7, 2) := by decide +kernel
theorem dX8_cries_6 : decode cX8_cries 6 = .ok (.iaload, 1) := by decide +kernel
theorem dX8_cries_7 : decode cX8_cries 7 = .ok (.istore_n 3, 1) := by decide +kernel
theorem dX8_cries_8 : decode cX8_cries 8 = .ok (.aload_n 0, 1) := by decide +kernel
theorem dX8_cries_9 : decode cX8_cries 9 = .ok (.iload_n 1, 1) := by decide +kernel
theorem dX8_cries_10 : decode cX8_cries 10 = .ok (.iconst 5, 1) := by decide +kernel
theorem dX8_cries_11 : decode cX8_cries 11 = .ok (.invokevirtual 53, 3) := by decide +kernel
theorem dX8_cries_14 : decode cX8_cries 14 = .ok (.iload_n 2, 1) := by decide +kernel
theorem dX8_cries_15 : decode cX8_cries 15 = .ok (.if_icmp .ne 36, 3) := by decide +kernel
theorem dX8_cries_18 : decode cX8_cries 18 = .ok (.aload_n 0, 1) := by decide +kernel
theorem dX8_cries_19 : decode cX8_cries 19 = .ok (.iload_n 1, 1) := by decide +kernel
theorem dX8_cries_20 : decode cX8_cries 20 = .ok (.sipush (-10006), 3) := by decide +kernel
theorem dX8_cries_23 : decode cX8_cries 23 = .ok (.invokevirtual 49, 3) := by decide +kernel
theorem dX8_cries_26 : decode cX8_cries 26 = .ok (.aload_n 0, 1) := by decide +kernel
theorem dX8_cries_27 : decode cX8_cries 27 = .ok (.iload_n 3, 1) := by decide +kernel
theorem dX8_cries_28 : decode cX8_cries 28 = .ok (.iconst 0, 1) := by decide +kernel
theorem dX8_cries_29 : decode cX8_cries 29 = .ok (.iconst 2, 1) := by decide +kernel
theorem dX8_cries_30 : decode cX8_cries 30 = .ok (.invokevirtual 76, 3) := by decide +kernel
theorem dX8_cries_33 : decode cX8_cries 33 = .ok (.aload_n 0, 1) := by decide +kernel
theorem dX8_cries_34 : decode cX8_cries 34 = .ok (.iload_n 3, 1) := by decide +kernel
theorem dX8_cries_35 : decode cX8_cries 35 = .ok (.iconst 2, 1) := by decide +kernel
theorem dX8_cries_36 : decode cX8_cries 36 = .ok (.iconst 1, 1) := by decide +kernel
theorem dX8_cries_37 : decode cX8_cries 37 = .ok (.invokevirtual 76, 3) := by decide +kernel
theorem dX8_cries_40 : decode cX8_cries 40 = .ok (.aload_n 0, 1) := by decide +kernel
theorem dX8_cries_41 : decode cX8_cries 41 = .ok (.iload_n 2, 1) := by decide +kernel
theorem dX8_cries_42 : decode cX8_cries 42 = .ok (.invokevirtual 105, 3) := by decide +kernel
theorem dX8_cries_45 : decode cX8_cries 45 = .ok (.aload_n 0, 1) := by decide +kernel
theorem dX8_cries_46 : decode cX8_cries 46 = .ok (.invokevirtual 96, 3) := by decide +kernel
theorem dX8_cries_49 : decode cX8_cries 49 = .ok (.iconst 1, 1) := by decide +kernel
theorem dX8_cries_50 : decode cX8_cries 50 = .ok (.ireturn, 1) := by decide +kernel
theorem dX8_cries_51 : decode cX8_cries 51 = .ok (.aload_n 0, 1) := by decide +kernel
theorem dX8_cries_52 : decode cX8_cries 52 = .ok (.iload_n 3, 1) := by decide +kernel
theorem dX8_cries_53 : decode cX8_cries 53 = .ok (.iconst 0, 1) := by decide +kernel
theorem dX8_cries_54 : decode cX8_cries 54 = .ok (.iconst (-1), 1) := by decide +kernel
theorem dX8_cries_55 : decode cX8_cries 55 = .ok (.invokevirtual 76, 3) := by decide +kernel
theorem dX8_cries_58 : decode cX8_cries 58 = .ok (.aload_n 0, 1) := by decide +kernel
theorem dX8_cries_59 : decode cX8_cries 59 = .ok (.iload_n 3, 1) := by decide +kernel
theorem dX8_cries_60 : decode cX8_cries 60 = .ok (.iconst 3, 1) := by decide +kernel
theorem dX8_cries_61 : decode cX8_cries 61 = .ok (.iconst 1, 1) := by decide +kernel
theorem dX8_cries_62 : decode cX8_cries 62 = .ok (.invokevirtual 76, 3) := by decide +kernel
theorem dX8_cries_65 : decode cX8_cries 65 = .ok (.aload_n 0, 1) := by decide +kernel
theorem dX8_cries_66 : decode cX8_cries 66 = .ok (.getfield 7, 3) := by decide +kernel
theorem dX8_cries_69 : decode cX8_cries 69 = .ok (.bipush 10, 2) := by decide +kernel
theorem dX8_cries_71 : decode cX8_cries 71 = .ok (.dup2, 1) := by decide +kernel
theorem dX8_cries_72 : decode cX8_cries 72 = .ok (.iaload, 1) := by decide +kernel
theorem dX8_cries_73 : decode cX8_cries 73 = .ok (.iconst 1, 1) := by decide +kernel
theorem dX8_cries_74 : decode cX8_cries 74 = .ok (.iadd, 1) := by decide +kernel
theorem dX8_cries_75 : decode cX8_cries 75 = .ok (.iastore, 1) := by decide +kernel
theorem dX8_cries_76 : decode cX8_cries 76 = .ok (.aload_n 0, 1) := by decide +kernel
theorem dX8_cries_77 : decode cX8_cries 77 = .ok (.getfield 7, 3) := by decide +kernel
theorem dX8_cries_80 : decode cX8_cries 80 = .ok (.bipush 10, 2) := by decide +kernel
theorem dX8_cries_82 : decode cX8_cries 82 = .ok (.iaload, 1) := by decide +kernel
theorem dX8_cries_83 : decode cX8_cries 83 = .ok (.aload_n 0, 1) := by decide +kernel
theorem dX8_cries_84 : decode cX8_cries 84 = .ok (.getfield 7, 3) := by decide +kernel
theorem dX8_cries_87 : decode cX8_cries 87 = .ok (.iconst 3, 1) := by decide +kernel
theorem dX8_cries_88 : decode cX8_cries 88 = .ok (.iaload, 1) := by decide +kernel
theorem dX8_cries_89 : decode cX8_cries 89 = .ok (.if_icmp .lt 47, 3) := by decide +kernel
theorem dX8_cries_92 : decode cX8_cries 92 = .ok (.iconst 0, 1) := by decide +kernel
theorem dX8_cries_93 : decode cX8_cries 93 = .ok (.istore 4, 2) := by decide +kernel
theorem dX8_cries_95 : decode cX8_cries 95 = .ok (.iload 4, 2) := by decide +kernel
theorem dX8_cries_97 : decode cX8_cries 97 = .ok (.aload_n 0, 1) := by decide +kernel
theorem dX8_cries_98 : decode cX8_cries 98 = .ok (.getfield 7, 3) := by decide +kernel
theorem dX8_cries_101 : decode cX8_cries 101 = .ok (.iconst 4, 1) := by decide +kernel
theorem dX8_cries_102 : decode cX8_cries 102 = .ok (.iaload, 1) := by decide +kernel
theorem dX8_cries_103 : decode cX8_cries 103 = .ok (.if_icmp .ge 29, 3) := by decide +kernel
theorem dX8_cries_106 : decode cX8_cries 106 = .ok (.aload_n 0, 1) := by decide +kernel
theorem dX8_cries_107 : decode cX8_cries 107 = .ok (.iload 4, 2) := by decide +kernel
theorem dX8_cries_109 : decode cX8_cries 109 = .ok (.iconst 5, 1) := by decide +kernel
theorem dX8_cries_110 : decode cX8_cries 110 = .ok (.invokevirtual 53, 3) := by decide +kernel
theorem dX8_cries_113 : decode cX8_cries 113 = .ok (.sipush (-10006), 3) := by decide +kernel
theorem dX8_cries_116 : decode cX8_cries 116 = .ok (.if_icmp .eq 10, 3) := by decide +kernel
theorem dX8_cries_119 : decode cX8_cries 119 = .ok (.aload_n 0, 1) := by decide +kernel
theorem dX8_cries_120 : decode cX8_cries 120 = .ok (.iload 4, 2) := by decide +kernel
theorem dX8_cries_122 : decode cX8_cries 122 = .ok (.iconst 1, 1) := by decide +kernel
theorem dX8_cries_123 : decode cX8_cries 123 = .ok (.invokevirtual 109, 3) := by decide +kernel
theorem dX8_cries_126 : decode cX8_cries 126 = .ok (.iinc 4 1, 3) := by decide +kernel
theorem dX8_cries_129 : decode cX8_cries 129 = .ok (.goto (-34), 3) := by decide +kernel
theorem dX8_cries_132 : decode cX8_cries 132 = .ok (.aload_n 0, 1) := by decide +kernel
theorem dX8_cries_133 : decode cX8_cries 133 = .ok (.invokevirtual 93, 3) := by decide +kernel
theorem dX8_cries_136 : decode cX8_cries 136 = .ok (.iconst 0, 1) := by decide +kernel
theorem dX8_cries_137 : decode cX8_cries 137 = .ok (.ireturn, 1) := by decide +kernel
theorem dX8_cry_0 : decode cX8_cry 0 = .ok (.aload_n 0, 1) := by decide +kernel
theorem dX8_cry_1 : decode cX8_cry 1 = .ok (.iload_n 1, 1) := by decide +kernel
theorem dX8_cry_2 : decode cX8_cry 2 = .ok (.iload_n 2, 1) := by decide +kernel
theorem dX8_cry_3 : decode cX8_cry 3 = .ok (.invokevirtual 112, 3) := by decide +kernel
theorem dX8_cry_6 : decode cX8_cry 6 = .ok (.istore_n 3, 1) := by decide +kernel
theorem dX8_cry_7 : decode cX8_cry 7 = .ok (.iload_n 3, 1) := by decide +kernel
theorem dX8_cry_8 : decode cX8_cry 8 = .ok (.ifCond .ge 5, 3) := by decide +kernel
theorem dX8_cry_11 : decode cX8_cry 11 = .ok (.iload_n 3, 1) := by decide +kernel
theorem dX8_cry_12 : decode cX8_cry 12 = .ok (.ireturn, 1) := by decide +kernel
theorem dX8_cry_13 : decode cX8_cry 13 = .ok (.aload_n 0, 1) := by decide +kernel
theorem dX8_cry_14 : decode cX8_cry 14 = .ok (.invokevirtual 42, 3) := by decide +kernel
theorem dX8_cry_17 : decode cX8_cry 17 = .ok (.aload_n 0, 1) := by decide +kernel
theorem dX8_cry_18 : decode cX8_cry 18 = .ok (.iload_n 1, 1) := by decide +kernel
theorem dX8_cry_19 : decode cX8_cry 19 = .ok (.iload_n 2, 1) := by decide +kernel
theorem dX8_cry_20 : decode cX8_cry 20 = .ok (.invokevirtual 115, 3) := by decide +kernel
theorem dX8_cry_23 : decode cX8_cry 23 = .ok (.ireturn, 1) := by decide +kernel
theorem dX8_whyNotDash_0 : decode cX8_whyNotDash 0 = .ok (.aload_n 0, 1) := by decide +kernel
theorem dX8_whyNotDash_1 : decode cX8_whyNotDash 1 = .ok (.iload_n 1, 1) := by decide +kernel
theorem dX8_whyNotDash_2 : decode cX8_whyNotDash 2 = .ok (.invokevirtual 73, 3) := by decide +kernel
theorem dX8_whyNotDash_5 : decode cX8_whyNotDash 5 = .ok (.ifCond .ne 7, 3) := by decide +kernel
theorem dX8_whyNotDash_8 : decode cX8_whyNotDash 8 = .ok (.sipush (-10001), 3) := by decide +kernel
theorem dX8_whyNotDash_11 : decode cX8_whyNotDash 11 = .ok (.ireturn, 1) := by decide +kernel
theorem dX8_whyNotDash_12 : decode cX8_whyNotDash 12 = .ok (.aload_n 0, 1) := by decide +kernel
theorem dX8_whyNotDash_13 : decode cX8_whyNotDash 13 = .ok (.getfield 7, 3) := by decide +kernel
theorem dX8_whyNotDash_16 : decode cX8_whyNotDash 16 = .ok (.bipush 6, 2) := by decide +kernel
theorem dX8_whyNotDash_18 : decode cX8_whyNotDash 18 = .ok (.iaload, 1) := by decide +kernel
theorem dX8_whyNotDash_19 : decode cX8_whyNotDash 19 = .ok (.iconst 2, 1) := by decide +kernel
theorem dX8_whyNotDash_20 : decode cX8_whyNotDash 20 = .ok (.if_icmp .ne 15, 3) := by decide +kernel
theorem dX8_whyNotDash_23 : decode cX8_whyNotDash 23 = .ok (.aload_n 0, 1) := by decide +kernel
theorem dX8_whyNotDash_24 : decode cX8_whyNotDash 24 = .ok (.iload_n 1, 1) := by decide +kernel
theorem dX8_whyNotDash_25 : decode cX8_whyNotDash 25 = .ok (.iconst 5, 1) := by decide +kernel
theorem dX8_whyNotDash_26 : decode cX8_whyNotDash 26 = .ok (.invokevirtual 53, 3) := by decide +kernel
theorem dX8_whyNotDash_29 : decode cX8_whyNotDash 29 = .ok (.sipush (-10006), 3) := by decide +kernel
theorem dX8_whyNotDash_32 : decode cX8_whyNotDash 32 = .ok (.if_icmp .ne 9, 3) := by decide +kernel
theorem dX8_whyNotDash_35 : decode cX8_whyNotDash 35 = .ok (.sipush (-10003), 3) := by decide +kernel
theorem dX8_whyNotDash_38 : decode cX8_whyNotDash 38 = .ok (.goto 4, 3) := by decide +kernel
theorem dX8_whyNotDash_41 : decode cX8_whyNotDash 41 = .ok (.iconst 0, 1) := by decide +kernel
theorem dX8_whyNotDash_42 : decode cX8_whyNotDash 42 = .ok (.ireturn, 1) := by decide +kernel
theorem dX8_isFaster_0 : decode cX8_isFaster 0 = .ok (.aload_n 0, 1) := by decide +kernel
theorem dX8_isFaster_1 : decode cX8_isFaster 1 = .ok (.iload_n 1, 1) := by decide +kernel
theorem dX8_isFaster_2 : decode cX8_isFaster 2 = .ok (.iconst 5, 1) := by decide +kernel
theorem dX8_isFaster_3 : decode cX8_isFaster 3 = .ok (.invokevirtual 53, 3) := by decide +kernel
theorem dX8_isFaster_6 : decode cX8_isFaster 6 = .ok (.iconst 0, 1) := by decide +kernel
theorem dX8_isFaster_7 : decode cX8_isFaster 7 = .ok (.invokestatic 56, 3) := by decide +kernel
theorem dX8_isFaster_10 : decode cX8_isFaster 10 = .ok (.aload_n 0, 1) := by decide +kernel
theorem dX8_isFaster_11 : decode cX8_isFaster 11 = .ok (.getfield 7, 3) := by decide +kernel
theorem dX8_isFaster_14 : decode cX8_isFaster 14 = .ok (.bipush 9, 2) := by decide +kernel
theorem dX8_isFaster_16 : decode cX8_isFaster 16 = .ok (.iaload, 1) := by decide +kernel
theorem dX8_isFaster_17 : decode cX8_isFaster 17 = .ok (.iconst 0, 1) := by decide +kernel
theorem dX8_isFaster_18 : decode cX8_isFaster 18 = .ok (.invokestatic 56, 3) := by decide +kernel
theorem dX8_isFaster_21 : decode cX8_isFaster 21 = .ok (.if_icmp .ge 7, 3) := by decide +kernel
theorem dX8_isFaster_24 : decode cX8_isFaster 24 = .ok (.iconst 1, 1) := by decide +kernel
theorem dX8_isFaster_25 : decode cX8_isFaster 25 = .ok (.goto 4, 3) := by decide +kernel
theorem dX8_isFaster_28 : decode cX8_isFaster 28 = .ok (.iconst 0, 1) := by decide +kernel
theorem dX8_isFaster_29 : decode cX8_isFaster 29 = .ok (.ireturn, 1) := by decide +kernel
theorem dX8_dashes_0 : decode cX8_dashes 0 = .ok (.aload_n 0, 1) := by decide +kernel
theorem dX8_dashes_1 : decode cX8_dashes 1 = .ok (.iload_n 1, 1) := by decide +kernel
theorem dX8_dashes_2 : decode cX8_dashes 2 = .ok (.invokevirtual 118, 3) := by decide +kernel
theorem dX8_dashes_5 : decode cX8_dashes 5 = .ok (.istore_n 2, 1) := by decide +kernel
theorem dX8_dashes_6 : decode cX8_dashes 6 = .ok (.iload_n 2, 1) := by decide +kernel
theorem dX8_dashes_7 : decode cX8_dashes 7 = .ok (.ifCond .eq 12, 3) := by decide +kernel
theorem dX8_dashes_10 : decode cX8_dashes 10 = .ok (.aload_n 0, 1) := by decide +kernel
theorem dX8_dashes_11 : decode cX8_dashes 11 = .ok (.iload_n 1, 1) := by decide +kernel
theorem dX8_dashes_12 : decode cX8_dashes 12 = .ok (.iconst 3, 1) := by decide +kernel
theorem dX8_dashes_13 : decode cX8_dashes 13 = .ok (.invokevirtual 109, 3) := by decide +kernel
theorem dX8_dashes_16 : decode cX8_dashes 16 = .ok (.goto 37, 3) := by decide +kernel
theorem dX8_dashes_19 : decode cX8_dashes 19 = .ok (.aload_n 0, 1) := by decide +kernel
theorem dX8_dashes_20 : decode cX8_dashes 20 = .ok (.iload_n 1, 1) := by decide +kernel
theorem dX8_dashes_21 : decode cX8_dashes 21 = .ok (.sipush (-10006), 3) := by decide +kernel
theorem dX8_dashes_24 : decode cX8_dashes 24 = .ok (.invokevirtual 49, 3) := by decide +kernel
theorem dX8_dashes_27 : decode cX8_dashes 27 = .ok (.aload_n 0, 1) := by decide +kernel
theorem dX8_dashes_28 : decode cX8_dashes 28 = .ok (.aload_n 0, 1) := by decide +kernel
theorem dX8_dashes_29 : decode cX8_dashes 29 = .ok (.getfield 7, 3) := by decide +kernel
theorem dX8_dashes_32 : decode cX8_dashes 32 = .ok (.bipush 7, 2) := by decide +kernel
theorem dX8_dashes_34 : decode cX8_dashes 34 = .ok (.iaload, 1) := by decide +kernel
theorem dX8_dashes_35 : decode cX8_dashes 35 = .ok (.iconst 0, 1) := by decide +kernel
theorem dX8_dashes_36 : decode cX8_dashes 36 = .ok (.iconst 1, 1) := by decide +kernel
theorem dX8_dashes_37 : decode cX8_dashes 37 = .ok (.invokevirtual 76, 3) := by decide +kernel
theorem dX8_dashes_40 : decode cX8_dashes 40 = .ok (.aload_n 0, 1) := by decide +kernel
theorem dX8_dashes_41 : decode cX8_dashes 41 = .ok (.aload_n 0, 1) := by decide +kernel
theorem dX8_dashes_42 : decode cX8_dashes 42 = .ok (.getfield 7, 3) := by decide +kernel
theorem dX8_dashes_45 : decode cX8_dashes 45 = .ok (.bipush 7, 2) := by decide +kernel
theorem dX8_dashes_47 : decode cX8_dashes 47 = .ok (.iaload, 1) := by decide +kernel
theorem dX8_dashes_48 : decode cX8_dashes 48 = .ok (.iconst 2, 1) := by decide +kernel
theorem dX8_dashes_49 : decode cX8_dashes 49 = .ok (.iconst 1, 1) := by decide +kernel
theorem dX8_dashes_50 : decode cX8_dashes 50 = .ok (.invokevirtual 76, 3) := by decide +kernel
theorem dX8_dashes_53 : decode cX8_dashes 53 = .ok (.aload_n 0, 1) := by decide +kernel
theorem dX8_dashes_54 : decode cX8_dashes 54 = .ok (.invokevirtual 96, 3) := by decide +kernel
theorem dX8_dashes_57 : decode cX8_dashes 57 = .ok (.iload_n 2, 1) := by decide +kernel
theorem dX8_dashes_58 : decode cX8_dashes 58 = .ok (.ifCond .eq 7, 3) := by decide +kernel
theorem dX8_dashes_61 : decode cX8_dashes 61 = .ok (.iconst 1, 1) := by decide +kernel
theorem dX8_dashes_62 : decode cX8_dashes 62 = .ok (.goto 4, 3) := by decide +kernel
theorem dX8_dashes_65 : decode cX8_dashes 65 = .ok (.iconst 0, 1) := by decide +kernel
theorem dX8_dashes_66 : decode cX8_dashes 66 = .ok (.ireturn, 1) := by decide +kernel
theorem dX8_dash_0 : decode cX8_dash 0 = .ok (.aload_n 0, 1) := by decide +kernel
theorem dX8_dash_1 : decode cX8_dash 1 = .ok (.iload_n 1, 1) := by decide +kernel
theorem dX8_dash_2 : decode cX8_dash 2 = .ok (.invokevirtual 121, 3) := by decide +kernel
theorem dX8_dash_5 : decode cX8_dash 5 = .ok (.istore_n 2, 1) := by decide +kernel
theorem dX8_dash_6 : decode cX8_dash 6 = .ok (.iload_n 2, 1) := by decide +kernel
theorem dX8_dash_7 : decode cX8_dash 7 = .ok (.ifCond .ge 5, 3) := by decide +kernel
theorem dX8_dash_10 : decode cX8_dash 10 = .ok (.iload_n 2, 1) := by decide +kernel
theorem dX8_dash_11 : decode cX8_dash 11 = .ok (.ireturn, 1) := by decide +kernel
theorem dX8_dash_12 : decode cX8_dash 12 = .ok (.aload_n 0, 1) := by decide +kernel
theorem dX8_dash_13 : decode cX8_dash 13 = .ok (.invokevirtual 42, 3) := by decide +kernel
theorem dX8_dash_16 : decode cX8_dash 16 = .ok (.aload_n 0, 1) := by decide +kernel
theorem dX8_dash_17 : decode cX8_dash 17 = .ok (.iload_n 1, 1) := by decide +kernel
theorem dX8_dash_18 : decode cX8_dash 18 = .ok (.invokevirtual 124, 3) := by decide +kernel
theorem dX8_dash_21 : decode cX8_dash 21 = .ok (.ireturn, 1) := by decide +kernel
theorem dX8_isBefore_0 : decode cX8_isBefore 0 = .ok (.aload_n 0, 1) := by decide +kernel
theorem dX8_isBefore_1 : decode cX8_isBefore 1 = .ok (.iload_n 1, 1) := by decide +kernel
theorem dX8_isBefore_2 : decode cX8_isBefore 2 = .ok (.iconst 0, 1) := by decide +kernel
theorem dX8_isBefore_3 : decode cX8_isBefore 3 = .ok (.invokevirtual 53, 3) := by decide +kernel
theorem dX8_isBefore_6 : decode cX8_isBefore 6 = .ok (.aload_n 0, 1) := by decide +kernel
theorem dX8_isBefore_7 : decode cX8_isBefore 7 = .ok (.iload_n 2, 1) := by decide +kernel
theorem dX8_isBefore_8 : decode cX8_isBefore 8 = .ok (.iconst 0, 1) := by decide +kernel
theorem dX8_isBefore_9 : decode cX8_isBefore 9 = .ok (.invokevirtual 53, 3) := by decide +kernel
theorem dX8_isBefore_12 : decode cX8_isBefore 12 = .ok (.if_icmp .eq 24, 3) := by decide +kernel
theorem dX8_isBefore_15 : decode cX8_isBefore 15 = .ok (.aload_n 0, 1) := by decide +kernel
theorem dX8_isBefore_16 : decode cX8_isBefore 16 = .ok (.iload_n 1, 1) := by decide +kernel
theorem dX8_isBefore_17 : decode cX8_isBefore 17 = .ok (.iconst 0, 1) := by decide +kernel
theorem dX8_isBefore_18 : decode cX8_isBefore 18 = .ok (.invokevirtual 53, 3) := by decide +kernel
theorem dX8_isBefore_21 : decode cX8_isBefore 21 = .ok (.aload_n 0, 1) := by decide +kernel
theorem dX8_isBefore_22 : decode cX8_isBefore 22 = .ok (.iload_n 2, 1) := by decide +kernel
theorem dX8_isBefore_23 : decode cX8_isBefore 23 = .ok (.iconst 0, 1) := by decide +kernel
theorem dX8_isBefore_24 : decode cX8_isBefore 24 = .ok (.invokevirtual 53, 3) := by decide +kernel
theorem dX8_isBefore_27 : decode cX8_isBefore 27 = .ok (.if_icmp .le 7, 3) := by decide +kernel
theorem dX8_isBefore_30 : decode cX8_isBefore 30 = .ok (.iconst 1, 1) := by decide +kernel
theorem dX8_isBefore_31 : decode cX8_isBefore 31 = .ok (.goto 4, 3) := by decide +kernel
theorem dX8_isBefore_34 : decode cX8_isBefore 34 = .ok (.iconst 0, 1) := by decide +kernel
theorem dX8_isBefore_35 : decode cX8_isBefore 35 = .ok (.ireturn, 1) := by decide +kernel
theorem dX8_isBefore_36 : decode cX8_isBefore 36 = .ok (.aload_n 0, 1) := by decide +kernel
theorem dX8_isBefore_37 : decode cX8_isBefore 37 = .ok (.iload_n 1, 1) := by decide +kernel
theorem dX8_isBefore_38 : decode cX8_isBefore 38 = .ok (.iconst 3, 1) := by decide +kernel
theorem dX8_isBefore_39 : decode cX8_isBefore 39 = .ok (.invokevirtual 53, 3) := by decide +kernel
theorem dX8_isBefore_42 : decode cX8_isBefore 42 = .ok (.aload_n 0, 1) := by decide +kernel
theorem dX8_isBefore_43 : decode cX8_isBefore 43 = .ok (.iload_n 2, 1) := by decide +kernel
theorem dX8_isBefore_44 : decode cX8_isBefore 44 = .ok (.iconst 3, 1) := by decide +kernel
theorem dX8_isBefore_45 : decode cX8_isBefore 45 = .ok (.invokevirtual 53, 3) := by decide +kernel
theorem dX8_isBefore_48 : decode cX8_isBefore 48 = .ok (.if_icmp .eq 26, 3) := by decide +kernel
theorem dX8_isBefore_51 : decode cX8_isBefore 51 = .ok (.aload_n 0, 1) := by decide +kernel
theorem dX8_isBefore_52 : decode cX8_isBefore 52 = .ok (.iload_n 1, 1) := by decide +kernel
theorem dX8_isBefore_53 : decode cX8_isBefore 53 = .ok (.iconst 3, 1) := by decide +kernel
theorem dX8_isBefore_54 : decode cX8_isBefore 54 = .ok (.invokevirtual 53, 3) := by decide +kernel
theorem dX8_isBefore_57 : decode cX8_isBefore 57 = .ok (.aload_n 0, 1) := by decide +kernel
theorem dX8_isBefore_58 : decode cX8_isBefore 58 = .ok (.iload_n 2, 1) := by decide +kernel
theorem dX8_isBefore_59 : decode cX8_isBefore 59 = .ok (.iconst 3, 1) := by decide +kernel
theorem dX8_isBefore_60 : decode cX8_isBefore 60 = .ok (.invokevirtual 53, 3) := by decide +kernel
theorem dX8_isBefore_63 : decode cX8_isBefore 63 = .ok (.if_icmp .ge 7, 3) := by decide +kernel
theorem dX8_isBefore_66 : decode cX8_isBefore 66 = .ok (.iconst 1, 1) := by decide +kernel
theorem dX8_isBefore_67 : decode cX8_isBefore 67 = .ok (.goto 17, 3) := by decide +kernel
theorem dX8_isBefore_70 : decode cX8_isBefore 70 = .ok (.iconst 0, 1) := by decide +kernel
theorem dX8_isBefore_71 : decode cX8_isBefore 71 = .ok (.goto 13, 3) := by decide +kernel
theorem dX8_isBefore_74 : decode cX8_isBefore 74 = .ok (.iload_n 1, 1) := by decide +kernel
theorem dX8_isBefore_75 : decode cX8_isBefore 75 = .ok (.iload_n 2, 1) := by decide +kernel
theorem dX8_isBefore_76 : decode cX8_isBefore 76 = .ok (.if_icmp .ge 7, 3) := by decide +kernel
theorem dX8_isBefore_79 : decode cX8_isBefore 79 = .ok (.iconst 1, 1) := by decide +kernel
theorem dX8_isBefore_80 : decode cX8_isBefore 80 = .ok (.goto 4, 3) := by decide +kernel
theorem dX8_isBefore_83 : decode cX8_isBefore 83 = .ok (.iconst 0, 1) := by decide +kernel
theorem dX8_isBefore_84 : decode cX8_isBefore 84 = .ok (.ireturn, 1) := by decide +kernel
theorem dX8_placeOf_0 : decode cX8_placeOf 0 = .ok (.iconst 0, 1) := by decide +kernel
theorem dX8_placeOf_1 : decode cX8_placeOf 1 = .ok (.istore_n 2, 1) := by decide +kernel
theorem dX8_placeOf_2 : decode cX8_placeOf 2 = .ok (.iconst 0, 1) := by decide +kernel
theorem dX8_placeOf_3 : decode cX8_placeOf 3 = .ok (.istore_n 3, 1) := by decide +kernel
theorem dX8_placeOf_4 : decode cX8_placeOf 4 = .ok (.iload_n 3, 1) := by decide +kernel
theorem dX8_placeOf_5 : decode cX8_placeOf 5 = .ok (.aload_n 0, 1) := by decide +kernel
theorem dX8_placeOf_6 : decode cX8_placeOf 6 = .ok (.getfield 7, 3) := by decide +kernel
theorem dX8_placeOf_9 : decode cX8_placeOf 9 = .ok (.iconst 4, 1) := by decide +kernel
theorem dX8_placeOf_10 : decode cX8_placeOf 10 = .ok (.iaload, 1) := by decide +kernel
theorem dX8_placeOf_11 : decode cX8_placeOf 11 = .ok (.if_icmp .ge 31, 3) := by decide +kernel
theorem dX8_placeOf_14 : decode cX8_placeOf 14 = .ok (.iload_n 2, 1) := by decide +kernel
theorem dX8_placeOf_15 : decode cX8_placeOf 15 = .ok (.iload_n 3, 1) := by decide +kernel
theorem dX8_placeOf_16 : decode cX8_placeOf 16 = .ok (.iload_n 1, 1) := by decide +kernel
theorem dX8_placeOf_17 : decode cX8_placeOf 17 = .ok (.if_icmp .eq 16, 3) := by decide +kernel
theorem dX8_placeOf_20 : decode cX8_placeOf 20 = .ok (.aload_n 0, 1) := by decide +kernel
theorem dX8_placeOf_21 : decode cX8_placeOf 21 = .ok (.iload_n 3, 1) := by decide +kernel
theorem dX8_placeOf_22 : decode cX8_placeOf 22 = .ok (.iload_n 1, 1) := by decide +kernel
theorem dX8_placeOf_23 : decode cX8_placeOf 23 = .ok (.invokevirtual 127, 3) := by decide +kernel
theorem dX8_placeOf_26 : decode cX8_placeOf 26 = .ok (.ifCond .eq 7, 3) := by decide +kernel
theorem dX8_placeOf_29 : decode cX8_placeOf 29 = .ok (.iconst 1, 1) := by decide +kernel
theorem dX8_placeOf_30 : decode cX8_placeOf 30 = .ok (.goto 4, 3) := by decide +kernel
theorem dX8_placeOf_33 : decode cX8_placeOf 33 = .ok (.iconst 0, 1) := by decide +kernel
theorem dX8_placeOf_34 : decode cX8_placeOf 34 = .ok (.iadd, 1) := by decide +kernel
theorem dX8_placeOf_35 : decode cX8_placeOf 35 = .ok (.istore_n 2, 1) := by decide +kernel
theorem dX8_placeOf_36 : decode cX8_placeOf 36 = .ok (.iinc 3 1, 3) := by decide +kernel
theorem dX8_placeOf_39 : decode cX8_placeOf 39 = .ok (.goto (-35), 3) := by decide +kernel
theorem dX8_placeOf_42 : decode cX8_placeOf 42 = .ok (.iload_n 2, 1) := by decide +kernel
theorem dX8_placeOf_43 : decode cX8_placeOf 43 = .ok (.ireturn, 1) := by decide +kernel
theorem dX8_player_0 : decode cX8_player 0 = .ok (.aload_n 0, 1) := by decide +kernel
theorem dX8_player_1 : decode cX8_player 1 = .ok (.iload_n 1, 1) := by decide +kernel
theorem dX8_player_2 : decode cX8_player 2 = .ok (.invokevirtual 73, 3) := by decide +kernel
theorem dX8_player_5 : decode cX8_player 5 = .ok (.ifCond .ne 7, 3) := by decide +kernel
theorem dX8_player_8 : decode cX8_player 8 = .ok (.sipush (-10001), 3) := by decide +kernel
theorem dX8_player_11 : decode cX8_player 11 = .ok (.ireturn, 1) := by decide +kernel
theorem dX8_player_12 : decode cX8_player 12 = .ok (.iload_n 2, 1) := by decide +kernel
theorem dX8_player_13 : decode cX8_player 13 = .ok (.iconst 5, 1) := by decide +kernel
theorem dX8_player_14 : decode cX8_player 14 = .ok (.if_icmp .ne 11, 3) := by decide +kernel
theorem dX8_player_17 : decode cX8_player 17 = .ok (.aload_n 0, 1) := by decide +kernel
theorem dX8_player_18 : decode cX8_player 18 = .ok (.iload_n 1, 1) := by decide +kernel
theorem dX8_player_19 : decode cX8_player 19 = .ok (.invokevirtual 130, 3) := by decide +kernel
theorem dX8_player_22 : decode cX8_player 22 = .ok (.goto 39, 3) := by decide +kernel
theorem dX8_player_25 : decode cX8_player 25 = .ok (.iload_n 2, 1) := by decide +kernel
theorem dX8_player_26 : decode cX8_player 26 = .ok (.bipush 6, 2) := by decide +kernel
theorem dX8_player_28 : decode cX8_player 28 = .ok (.if_icmp .ne 12, 3) := by decide +kernel
theorem dX8_player_31 : decode cX8_player 31 = .ok (.aload_n 0, 1) := by decide +kernel
theorem dX8_player_32 : decode cX8_player 32 = .ok (.iload_n 1, 1) := by decide +kernel
theorem dX8_player_33 : decode cX8_player 33 = .ok (.iconst 5, 1) := by decide +kernel
theorem dX8_player_34 : decode cX8_player 34 = .ok (.invokevirtual 53, 3) := by decide +kernel
theorem dX8_player_37 : decode cX8_player 37 = .ok (.goto 24, 3) := by decide +kernel
theorem dX8_player_40 : decode cX8_player 40 = .ok (.iload_n 2, 1) := by decide +kernel
theorem dX8_player_41 : decode cX8_player 41 = .ok (.iconst 0, 1) := by decide +kernel
theorem dX8_player_42 : decode cX8_player 42 = .ok (.iconst 4, 1) := by decide +kernel
theorem dX8_player_43 : decode cX8_player 43 = .ok (.invokestatic 26, 3) := by decide +kernel
theorem dX8_player_46 : decode cX8_player 46 = .ok (.ifCond .eq 12, 3) := by decide +kernel
theorem dX8_player_49 : decode cX8_player 49 = .ok (.aload_n 0, 1) := by decide +kernel
theorem dX8_player_50 : decode cX8_player 50 = .ok (.iload_n 1, 1) := by decide +kernel
theorem dX8_player_51 : decode cX8_player 51 = .ok (.iload_n 2, 1) := by decide +kernel
theorem dX8_player_52 : decode cX8_player 52 = .ok (.invokevirtual 53, 3) := by decide +kernel
theorem dX8_player_55 : decode cX8_player 55 = .ok (.goto 6, 3) := by decide +kernel
theorem dX8_player_58 : decode cX8_player 58 = .ok (.sipush (-10002), 3) := by decide +kernel
theorem dX8_player_61 : decode cX8_player 61 = .ok (.ireturn, 1) := by decide +kernel
theorem dX8_spot_0 : decode cX8_spot 0 = .ok (.iload_n 1, 1) := by decide +kernel
theorem dX8_spot_1 : decode cX8_spot 1 = .ok (.invokestatic 83, 3) := by decide +kernel
theorem dX8_spot_4 : decode cX8_spot 4 = .ok (.ifCond .ne 7, 3) := by decide +kernel
theorem dX8_spot_7 : decode cX8_spot 7 = .ok (.sipush (-10001), 3) := by decide +kernel
theorem dX8_spot_10 : decode cX8_spot 10 = .ok (.ireturn, 1) := by decide +kernel
theorem dX8_spot_11 : decode cX8_spot 11 = .ok (.iload_n 2, 1) := by decide +kernel
theorem dX8_spot_12 : decode cX8_spot 12 = .ok (.tableswitch 53 0 3 #[32, 38, 38, 47], 32) := by decide +kernel
theorem dX8_spot_44 : decode cX8_spot 44 = .ok (.iload_n 1, 1) := by decide +kernel
theorem dX8_spot_45 : decode cX8_spot 45 = .ok (.iconst 0, 1) := by decide +kernel
theorem dX8_spot_46 : decode cX8_spot 46 = .ok (.invokestatic 56, 3) := by decide +kernel
theorem dX8_spot_49 : decode cX8_spot 49 = .ok (.ireturn, 1) := by decide +kernel
theorem dX8_spot_50 : decode cX8_spot 50 = .ok (.aload_n 0, 1) := by decide +kernel
theorem dX8_spot_51 : decode cX8_spot 51 = .ok (.iload_n 1, 1) := by decide +kernel
theorem dX8_spot_52 : decode cX8_spot 52 = .ok (.iload_n 2, 1) := by decide +kernel
theorem dX8_spot_53 : decode cX8_spot 53 = .ok (.iconst 1, 1) := by decide +kernel
theorem dX8_spot_54 : decode cX8_spot 54 = .ok (.isub, 1) := by decide +kernel
theorem dX8_spot_55 : decode cX8_spot 55 = .ok (.invokevirtual 30, 3) := by decide +kernel
theorem dX8_spot_58 : decode cX8_spot 58 = .ok (.ireturn, 1) := by decide +kernel
theorem dX8_spot_59 : decode cX8_spot 59 = .ok (.aload_n 0, 1) := by decide +kernel
theorem dX8_spot_60 : decode cX8_spot 60 = .ok (.iload_n 1, 1) := by decide +kernel
theorem dX8_spot_61 : decode cX8_spot 61 = .ok (.invokevirtual 66, 3) := by decide +kernel
theorem dX8_spot_64 : decode cX8_spot 64 = .ok (.ireturn, 1) := by decide +kernel
theorem dX8_spot_65 : decode cX8_spot 65 = .ok (.sipush (-10002), 3) := by decide +kernel
theorem dX8_spot_68 : decode cX8_spot 68 = .ok (.ireturn, 1) := by decide +kernel
theorem dX8_ranked_0 : decode cX8_ranked 0 = .ok (.sipush (-10001), 3) := by decide +kernel
theorem dX8_ranked_3 : decode cX8_ranked 3 = .ok (.istore_n 2, 1) := by decide +kernel
theorem dX8_ranked_4 : decode cX8_ranked 4 = .ok (.iconst 0, 1) := by decide +kernel
theorem dX8_ranked_5 : decode cX8_ranked 5 = .ok (.istore_n 3, 1) := by decide +kernel
theorem dX8_ranked_6 : decode cX8_ranked 6 = .ok (.iload_n 3, 1) := by decide +kernel
theorem dX8_ranked_7 : decode cX8_ranked 7 = .ok (.aload_n 0, 1) := by decide +kernel
theorem dX8_ranked_8 : decode cX8_ranked 8 = .ok (.getfield 7, 3) := by decide +kernel
theorem dX8_ranked_11 : decode cX8_ranked 11 = .ok (.iconst 4, 1) := by decide +kernel
theorem dX8_ranked_12 : decode cX8_ranked 12 = .ok (.iaload, 1) := by decide +kernel
theorem dX8_ranked_13 : decode cX8_ranked 13 = .ok (.if_icmp .ge 24, 3) := by decide +kernel
theorem dX8_ranked_16 : decode cX8_ranked 16 = .ok (.aload_n 0, 1) := by decide +kernel
theorem dX8_ranked_17 : decode cX8_ranked 17 = .ok (.iload_n 3, 1) := by decide +kernel
theorem dX8_ranked_18 : decode cX8_ranked 18 = .ok (.invokevirtual 130, 3) := by decide +kernel
theorem dX8_ranked_21 : decode cX8_ranked 21 = .ok (.iload_n 1, 1) := by decide +kernel
theorem dX8_ranked_22 : decode cX8_ranked 22 = .ok (.if_icmp .ne 7, 3) := by decide +kernel
theorem dX8_ranked_25 : decode cX8_ranked 25 = .ok (.iload_n 3, 1) := by decide +kernel
theorem dX8_ranked_26 : decode cX8_ranked 26 = .ok (.goto 4, 3) := by decide +kernel
theorem dX8_ranked_29 : decode cX8_ranked 29 = .ok (.iload_n 2, 1) := by decide +kernel
theorem dX8_ranked_30 : decode cX8_ranked 30 = .ok (.istore_n 2, 1) := by decide +kernel
theorem dX8_ranked_31 : decode cX8_ranked 31 = .ok (.iinc 3 1, 3) := by decide +kernel
theorem dX8_ranked_34 : decode cX8_ranked 34 = .ok (.goto (-28), 3) := by decide +kernel
theorem dX8_ranked_37 : decode cX8_ranked 37 = .ok (.iload_n 2, 1) := by decide +kernel
theorem dX8_ranked_38 : decode cX8_ranked 38 = .ok (.ireturn, 1) := by decide +kernel
theorem dX8_nextSeeker_0 : decode cX8_nextSeeker 0 = .ok (.sipush (-10006), 3) := by decide +kernel
theorem dX8_nextSeeker_3 : decode cX8_nextSeeker 3 = .ok (.istore_n 1, 1) := by decide +kernel
theorem dX8_nextSeeker_4 : decode cX8_nextSeeker 4 = .ok (.iconst 0, 1) := by decide +kernel
theorem dX8_nextSeeker_5 : decode cX8_nextSeeker 5 = .ok (.istore_n 2, 1) := by decide +kernel
theorem dX8_nextSeeker_6 : decode cX8_nextSeeker 6 = .ok (.iload_n 2, 1) := by decide +kernel
theorem dX8_nextSeeker_7 : decode cX8_nextSeeker 7 = .ok (.aload_n 0, 1) := by decide +kernel
theorem dX8_nextSeeker_8 : decode cX8_nextSeeker 8 = .ok (.getfield 7, 3) := by decide +kernel
theorem dX8_nextSeeker_11 : decode cX8_nextSeeker 11 = .ok (.iconst 4, 1) := by decide +kernel
theorem dX8_nextSeeker_12 : decode cX8_nextSeeker 12 = .ok (.iaload, 1) := by decide +kernel
theorem dX8_nextSeeker_13 : decode cX8_nextSeeker 13 = .ok (.if_icmp .ge 71, 3) := by decide +kernel
theorem dX8_nextSeeker_16 : decode cX8_nextSeeker 16 = .ok (.iload_n 1, 1) := by decide +kernel
theorem dX8_nextSeeker_17 : decode cX8_nextSeeker 17 = .ok (.sipush (-10006), 3) := by decide +kernel
theorem dX8_nextSeeker_20 : decode cX8_nextSeeker 20 = .ok (.if_icmp .eq 42, 3) := by decide +kernel
theorem dX8_nextSeeker_23 : decode cX8_nextSeeker 23 = .ok (.aload_n 0, 1) := by decide +kernel
theorem dX8_nextSeeker_24 : decode cX8_nextSeeker 24 = .ok (.iload_n 2, 1) := by decide +kernel
theorem dX8_nextSeeker_25 : decode cX8_nextSeeker 25 = .ok (.iconst 1, 1) := by decide +kernel
theorem dX8_nextSeeker_26 : decode cX8_nextSeeker 26 = .ok (.invokevirtual 53, 3) := by decide +kernel
theorem dX8_nextSeeker_29 : decode cX8_nextSeeker 29 = .ok (.aload_n 0, 1) := by decide +kernel
theorem dX8_nextSeeker_30 : decode cX8_nextSeeker 30 = .ok (.iload_n 1, 1) := by decide +kernel
theorem dX8_nextSeeker_31 : decode cX8_nextSeeker 31 = .ok (.iconst 1, 1) := by decide +kernel
theorem dX8_nextSeeker_32 : decode cX8_nextSeeker 32 = .ok (.invokevirtual 53, 3) := by decide +kernel
theorem dX8_nextSeeker_35 : decode cX8_nextSeeker 35 = .ok (.if_icmp .lt 27, 3) := by decide +kernel
theorem dX8_nextSeeker_38 : decode cX8_nextSeeker 38 = .ok (.aload_n 0, 1) := by decide +kernel
theorem dX8_nextSeeker_39 : decode cX8_nextSeeker 39 = .ok (.iload_n 2, 1) := by decide +kernel
theorem dX8_nextSeeker_40 : decode cX8_nextSeeker 40 = .ok (.iconst 1, 1) := by decide +kernel
theorem dX8_nextSeeker_41 : decode cX8_nextSeeker 41 = .ok (.invokevirtual 53, 3) := by decide +kernel
theorem dX8_nextSeeker_44 : decode cX8_nextSeeker 44 = .ok (.aload_n 0, 1) := by decide +kernel
theorem dX8_nextSeeker_45 : decode cX8_nextSeeker 45 = .ok (.iload_n 1, 1) := by decide +kernel
theorem dX8_nextSeeker_46 : decode cX8_nextSeeker 46 = .ok (.iconst 1, 1) := by decide +kernel
theorem dX8_nextSeeker_47 : decode cX8_nextSeeker 47 = .ok (.invokevirtual 53, 3) := by decide +kernel
theorem dX8_nextSeeker_50 : decode cX8_nextSeeker 50 = .ok (.if_icmp .ne 16, 3) := by decide +kernel
theorem dX8_nextSeeker_53 : decode cX8_nextSeeker 53 = .ok (.aload_n 0, 1) := by decide +kernel
theorem dX8_nextSeeker_54 : decode cX8_nextSeeker 54 = .ok (.iload_n 1, 1) := by decide +kernel
theorem dX8_nextSeeker_55 : decode cX8_nextSeeker 55 = .ok (.iload_n 2, 1) := by decide +kernel
theorem dX8_nextSeeker_56 : decode cX8_nextSeeker 56 = .ok (.invokevirtual 127, 3) := by decide +kernel
theorem dX8_nextSeeker_59 : decode cX8_nextSeeker 59 = .ok (.ifCond .eq 7, 3) := by decide +kernel
theorem dX8_nextSeeker_62 : decode cX8_nextSeeker 62 = .ok (.iconst 1, 1) := by decide +kernel
theorem dX8_nextSeeker_63 : decode cX8_nextSeeker 63 = .ok (.goto 4, 3) := by decide +kernel
theorem dX8_nextSeeker_66 : decode cX8_nextSeeker 66 = .ok (.iconst 0, 1) := by decide +kernel
theorem dX8_nextSeeker_67 : decode cX8_nextSeeker 67 = .ok (.istore_n 3, 1) := by decide +kernel
theorem dX8_nextSeeker_68 : decode cX8_nextSeeker 68 = .ok (.iload_n 3, 1) := by decide +kernel
theorem dX8_nextSeeker_69 : decode cX8_nextSeeker 69 = .ok (.ifCond .eq 7, 3) := by decide +kernel
theorem dX8_nextSeeker_72 : decode cX8_nextSeeker 72 = .ok (.iload_n 2, 1) := by decide +kernel
theorem dX8_nextSeeker_73 : decode cX8_nextSeeker 73 = .ok (.goto 4, 3) := by decide +kernel
theorem dX8_nextSeeker_76 : decode cX8_nextSeeker 76 = .ok (.iload_n 1, 1) := by decide +kernel
theorem dX8_nextSeeker_77 : decode cX8_nextSeeker 77 = .ok (.istore_n 1, 1) := by decide +kernel
theorem dX8_nextSeeker_78 : decode cX8_nextSeeker 78 = .ok (.iinc 2 1, 3) := by decide +kernel
theorem dX8_nextSeeker_81 : decode cX8_nextSeeker 81 = .ok (.goto (-75), 3) := by decide +kernel
theorem dX8_nextSeeker_84 : decode cX8_nextSeeker 84 = .ok (.iload_n 1, 1) := by decide +kernel
theorem dX8_nextSeeker_85 : decode cX8_nextSeeker 85 = .ok (.ireturn, 1) := by decide +kernel
theorem dX8_sumOfPoints_0 : decode cX8_sumOfPoints 0 = .ok (.iconst 0, 1) := by decide +kernel
theorem dX8_sumOfPoints_1 : decode cX8_sumOfPoints 1 = .ok (.istore_n 1, 1) := by decide +kernel
theorem dX8_sumOfPoints_2 : decode cX8_sumOfPoints 2 = .ok (.iconst 0, 1) := by decide +kernel
theorem dX8_sumOfPoints_3 : decode cX8_sumOfPoints 3 = .ok (.istore_n 2, 1) := by decide +kernel
theorem dX8_sumOfPoints_4 : decode cX8_sumOfPoints 4 = .ok (.iload_n 2, 1) := by decide +kernel
theorem dX8_sumOfPoints_5 : decode cX8_sumOfPoints 5 = .ok (.aload_n 0, 1) := by decide +kernel
theorem dX8_sumOfPoints_6 : decode cX8_sumOfPoints 6 = .ok (.getfield 7, 3) := by decide +kernel
theorem dX8_sumOfPoints_9 : decode cX8_sumOfPoints 9 = .ok (.iconst 4, 1) := by decide +kernel
theorem dX8_sumOfPoints_10 : decode cX8_sumOfPoints 10 = .ok (.iaload, 1) := by decide +kernel
theorem dX8_sumOfPoints_11 : decode cX8_sumOfPoints 11 = .ok (.if_icmp .ge 18, 3) := by decide +kernel
theorem dX8_sumOfPoints_14 : decode cX8_sumOfPoints 14 = .ok (.iload_n 1, 1) := by decide +kernel
theorem dX8_sumOfPoints_15 : decode cX8_sumOfPoints 15 = .ok (.aload_n 0, 1) := by decide +kernel
theorem dX8_sumOfPoints_16 : decode cX8_sumOfPoints 16 = .ok (.iload_n 2, 1) := by decide +kernel
theorem dX8_sumOfPoints_17 : decode cX8_sumOfPoints 17 = .ok (.iconst 0, 1) := by decide +kernel
theorem dX8_sumOfPoints_18 : decode cX8_sumOfPoints 18 = .ok (.invokevirtual 53, 3) := by decide +kernel
theorem dX8_sumOfPoints_21 : decode cX8_sumOfPoints 21 = .ok (.iadd, 1) := by decide +kernel
theorem dX8_sumOfPoints_22 : decode cX8_sumOfPoints 22 = .ok (.istore_n 1, 1) := by decide +kernel
theorem dX8_sumOfPoints_23 : decode cX8_sumOfPoints 23 = .ok (.iinc 2 1, 3) := by decide +kernel
theorem dX8_sumOfPoints_26 : decode cX8_sumOfPoints 26 = .ok (.goto (-22), 3) := by decide +kernel
theorem dX8_sumOfPoints_29 : decode cX8_sumOfPoints 29 = .ok (.iload_n 1, 1) := by decide +kernel
theorem dX8_sumOfPoints_30 : decode cX8_sumOfPoints 30 = .ok (.ireturn, 1) := by decide +kernel
theorem dX8_retired_0 : decode cX8_retired 0 = .ok (.iconst 0, 1) := by decide +kernel
theorem dX8_retired_1 : decode cX8_retired 1 = .ok (.istore_n 1, 1) := by decide +kernel
theorem dX8_retired_2 : decode cX8_retired 2 = .ok (.iconst 0, 1) := by decide +kernel
theorem dX8_retired_3 : decode cX8_retired 3 = .ok (.istore_n 2, 1) := by decide +kernel
theorem dX8_retired_4 : decode cX8_retired 4 = .ok (.iload_n 2, 1) := by decide +kernel
theorem dX8_retired_5 : decode cX8_retired 5 = .ok (.bipush 16, 2) := by decide +kernel
theorem dX8_retired_7 : decode cX8_retired 7 = .ok (.if_icmp .ge 18, 3) := by decide +kernel
theorem dX8_retired_10 : decode cX8_retired 10 = .ok (.iload_n 1, 1) := by decide +kernel
theorem dX8_retired_11 : decode cX8_retired 11 = .ok (.aload_n 0, 1) := by decide +kernel
theorem dX8_retired_12 : decode cX8_retired 12 = .ok (.iload_n 2, 1) := by decide +kernel
theorem dX8_retired_13 : decode cX8_retired 13 = .ok (.iconst 1, 1) := by decide +kernel
theorem dX8_retired_14 : decode cX8_retired 14 = .ok (.invokevirtual 30, 3) := by decide +kernel
theorem dX8_retired_17 : decode cX8_retired 17 = .ok (.iadd, 1) := by decide +kernel
theorem dX8_retired_18 : decode cX8_retired 18 = .ok (.istore_n 1, 1) := by decide +kernel
theorem dX8_retired_19 : decode cX8_retired 19 = .ok (.iinc 2 1, 3) := by decide +kernel
theorem dX8_retired_22 : decode cX8_retired 22 = .ok (.goto (-18), 3) := by decide +kernel
theorem dX8_retired_25 : decode cX8_retired 25 = .ok (.iload_n 1, 1) := by decide +kernel
theorem dX8_retired_26 : decode cX8_retired 26 = .ok (.ireturn, 1) := by decide +kernel
theorem dX8_total_0 : decode cX8_total 0 = .ok (.iload_n 1, 1) := by decide +kernel
theorem dX8_total_1 : decode cX8_total 1 = .ok (.tableswitch 173 0 9 #[55, 62, 69, 77, 101, 125, 150, 158, 163, 168], 55) := by decide +kernel
theorem dX8_total_56 : decode cX8_total 56 = .ok (.aload_n 0, 1) := by decide +kernel
theorem dX8_total_57 : decode cX8_total 57 = .ok (.getfield 7, 3) := by decide +kernel
theorem dX8_total_60 : decode cX8_total 60 = .ok (.iconst 4, 1) := by decide +kernel
theorem dX8_total_61 : decode cX8_total 61 = .ok (.iaload, 1) := by decide +kernel
theorem dX8_total_62 : decode cX8_total 62 = .ok (.ireturn, 1) := by decide +kernel
theorem dX8_total_63 : decode cX8_total 63 = .ok (.aload_n 0, 1) := by decide +kernel
theorem dX8_total_64 : decode cX8_total 64 = .ok (.getfield 7, 3) := by decide +kernel
theorem dX8_total_67 : decode cX8_total 67 = .ok (.iconst 5, 1) := by decide +kernel
theorem dX8_total_68 : decode cX8_total 68 = .ok (.iaload, 1) := by decide +kernel
theorem dX8_total_69 : decode cX8_total 69 = .ok (.ireturn, 1) := by decide +kernel
theorem dX8_total_70 : decode cX8_total 70 = .ok (.aload_n 0, 1) := by decide +kernel
theorem dX8_total_71 : decode cX8_total 71 = .ok (.getfield 7, 3) := by decide +kernel
theorem dX8_total_74 : decode cX8_total 74 = .ok (.bipush 6, 2) := by decide +kernel
theorem dX8_total_76 : decode cX8_total 76 = .ok (.iaload, 1) := by decide +kernel
theorem dX8_total_77 : decode cX8_total 77 = .ok (.ireturn, 1) := by decide +kernel
theorem dX8_total_78 : decode cX8_total 78 = .ok (.aload_n 0, 1) := by decide +kernel
theorem dX8_total_79 : decode cX8_total 79 = .ok (.getfield 7, 3) := by decide +kernel
theorem dX8_total_82 : decode cX8_total 82 = .ok (.bipush 6, 2) := by decide +kernel
theorem dX8_total_84 : decode cX8_total 84 = .ok (.iaload, 1) := by decide +kernel
theorem dX8_total_85 : decode cX8_total 85 = .ok (.ifCond .ne 9, 3) := by decide +kernel
theorem dX8_total_88 : decode cX8_total 88 = .ok (.sipush (-10006), 3) := by decide +kernel
theorem dX8_total_91 : decode cX8_total 91 = .ok (.goto 10, 3) := by decide +kernel
theorem dX8_total_94 : decode cX8_total 94 = .ok (.aload_n 0, 1) := by decide +kernel
theorem dX8_total_95 : decode cX8_total 95 = .ok (.getfield 7, 3) := by decide +kernel
theorem dX8_total_98 : decode cX8_total 98 = .ok (.bipush 7, 2) := by decide +kernel
theorem dX8_total_100 : decode cX8_total 100 = .ok (.iaload, 1) := by decide +kernel
theorem dX8_total_101 : decode cX8_total 101 = .ok (.ireturn, 1) := by decide +kernel
theorem dX8_total_102 : decode cX8_total 102 = .ok (.aload_n 0, 1) := by decide +kernel
theorem dX8_total_103 : decode cX8_total 103 = .ok (.getfield 7, 3) := by decide +kernel
theorem dX8_total_106 : decode cX8_total 106 = .ok (.bipush 6, 2) := by decide +kernel
theorem dX8_total_108 : decode cX8_total 108 = .ok (.iaload, 1) := by decide +kernel
theorem dX8_total_109 : decode cX8_total 109 = .ok (.ifCond .ne 9, 3) := by decide +kernel
theorem dX8_total_112 : decode cX8_total 112 = .ok (.sipush (-10006), 3) := by decide +kernel
theorem dX8_total_115 : decode cX8_total 115 = .ok (.goto 10, 3) := by decide +kernel
theorem dX8_total_118 : decode cX8_total 118 = .ok (.aload_n 0, 1) := by decide +kernel
theorem dX8_total_119 : decode cX8_total 119 = .ok (.getfield 7, 3) := by decide +kernel
theorem dX8_total_122 : decode cX8_total 122 = .ok (.bipush 8, 2) := by decide +kernel
theorem dX8_total_124 : decode cX8_total 124 = .ok (.iaload, 1) := by decide +kernel
theorem dX8_total_125 : decode cX8_total 125 = .ok (.ireturn, 1) := by decide +kernel
theorem dX8_total_126 : decode cX8_total 126 = .ok (.aload_n 0, 1) := by decide +kernel
theorem dX8_total_127 : decode cX8_total 127 = .ok (.getfield 7, 3) := by decide +kernel
theorem dX8_total_130 : decode cX8_total 130 = .ok (.bipush 6, 2) := by decide +kernel
theorem dX8_total_132 : decode cX8_total 132 = .ok (.iaload, 1) := by decide +kernel
theorem dX8_total_133 : decode cX8_total 133 = .ok (.iconst 2, 1) := by decide +kernel
theorem dX8_total_134 : decode cX8_total 134 = .ok (.if_icmp .ne 13, 3) := by decide +kernel
theorem dX8_total_137 : decode cX8_total 137 = .ok (.aload_n 0, 1) := by decide +kernel
theorem dX8_total_138 : decode cX8_total 138 = .ok (.getfield 7, 3) := by decide +kernel
theorem dX8_total_141 : decode cX8_total 141 = .ok (.bipush 9, 2) := by decide +kernel
theorem dX8_total_143 : decode cX8_total 143 = .ok (.iaload, 1) := by decide +kernel
theorem dX8_total_144 : decode cX8_total 144 = .ok (.goto 6, 3) := by decide +kernel
theorem dX8_total_147 : decode cX8_total 147 = .ok (.sipush (-10006), 3) := by decide +kernel
theorem dX8_total_150 : decode cX8_total 150 = .ok (.ireturn, 1) := by decide +kernel
theorem dX8_total_151 : decode cX8_total 151 = .ok (.aload_n 0, 1) := by decide +kernel
theorem dX8_total_152 : decode cX8_total 152 = .ok (.getfield 7, 3) := by decide +kernel
theorem dX8_total_155 : decode cX8_total 155 = .ok (.bipush 10, 2) := by decide +kernel
theorem dX8_total_157 : decode cX8_total 157 = .ok (.iaload, 1) := by decide +kernel
theorem dX8_total_158 : decode cX8_total 158 = .ok (.ireturn, 1) := by decide +kernel
theorem dX8_total_159 : decode cX8_total 159 = .ok (.aload_n 0, 1) := by decide +kernel
theorem dX8_total_160 : decode cX8_total 160 = .ok (.invokevirtual 89, 3) := by decide +kernel
theorem dX8_total_163 : decode cX8_total 163 = .ok (.ireturn, 1) := by decide +kernel
theorem dX8_total_164 : decode cX8_total 164 = .ok (.aload_n 0, 1) := by decide +kernel
theorem dX8_total_165 : decode cX8_total 165 = .ok (.invokevirtual 133, 3) := by decide +kernel
theorem dX8_total_168 : decode cX8_total 168 = .ok (.ireturn, 1) := by decide +kernel
theorem dX8_total_169 : decode cX8_total 169 = .ok (.aload_n 0, 1) := by decide +kernel
theorem dX8_total_170 : decode cX8_total 170 = .ok (.invokevirtual 136, 3) := by decide +kernel
theorem dX8_total_173 : decode cX8_total 173 = .ok (.ireturn, 1) := by decide +kernel
theorem dX8_total_174 : decode cX8_total 174 = .ok (.sipush (-10002), 3) := by decide +kernel
theorem dX8_total_177 : decode cX8_total 177 = .ok (.ireturn, 1) := by decide +kernel
theorem dX8_inSight_0 : decode cX8_inSight 0 = .ok (.aload_n 0, 1) := by decide +kernel
theorem dX8_inSight_1 : decode cX8_inSight 1 = .ok (.getfield 7, 3) := by decide +kernel
theorem dX8_inSight_4 : decode cX8_inSight 4 = .ok (.bipush 6, 2) := by decide +kernel
theorem dX8_inSight_6 : decode cX8_inSight 6 = .ok (.iaload, 1) := by decide +kernel
theorem dX8_inSight_7 : decode cX8_inSight 7 = .ok (.iconst 2, 1) := by decide +kernel
theorem dX8_inSight_8 : decode cX8_inSight 8 = .ok (.if_icmp .eq 7, 3) := by decide +kernel
theorem dX8_inSight_11 : decode cX8_inSight 11 = .ok (.sipush (-10003), 3) := by decide +kernel
theorem dX8_inSight_14 : decode cX8_inSight 14 = .ok (.ireturn, 1) := by decide +kernel
theorem dX8_inSight_15 : decode cX8_inSight 15 = .ok (.iconst 0, 1) := by decide +kernel
theorem dX8_inSight_16 : decode cX8_inSight 16 = .ok (.istore_n 1, 1) := by decide +kernel
theorem dX8_inSight_17 : decode cX8_inSight 17 = .ok (.iconst 0, 1) := by decide +kernel
theorem dX8_inSight_18 : decode cX8_inSight 18 = .ok (.istore_n 2, 1) := by decide +kernel
theorem dX8_inSight_19 : decode cX8_inSight 19 = .ok (.iload_n 2, 1) := by decide +kernel
theorem dX8_inSight_20 : decode cX8_inSight 20 = .ok (.bipush 16, 2) := by decide +kernel
theorem dX8_inSight_22 : decode cX8_inSight 22 = .ok (.if_icmp .ge 39, 3) := by decide +kernel
theorem dX8_inSight_25 : decode cX8_inSight 25 = .ok (.iload_n 1, 1) := by decide +kernel
theorem dX8_inSight_26 : decode cX8_inSight 26 = .ok (.iload_n 2, 1) := by decide +kernel
theorem dX8_inSight_27 : decode cX8_inSight 27 = .ok (.aload_n 0, 1) := by decide +kernel
theorem dX8_inSight_28 : decode cX8_inSight 28 = .ok (.getfield 7, 3) := by decide +kernel
theorem dX8_inSight_31 : decode cX8_inSight 31 = .ok (.bipush 9, 2) := by decide +kernel
theorem dX8_inSight_33 : decode cX8_inSight 33 = .ok (.iaload, 1) := by decide +kernel
theorem dX8_inSight_34 : decode cX8_inSight 34 = .ok (.invokestatic 56, 3) := by decide +kernel
theorem dX8_inSight_37 : decode cX8_inSight 37 = .ok (.aload_n 0, 1) := by decide +kernel
theorem dX8_inSight_38 : decode cX8_inSight 38 = .ok (.getfield 7, 3) := by decide +kernel
theorem dX8_inSight_41 : decode cX8_inSight 41 = .ok (.iconst 0, 1) := by decide +kernel
theorem dX8_inSight_42 : decode cX8_inSight 42 = .ok (.iaload, 1) := by decide +kernel
theorem dX8_inSight_43 : decode cX8_inSight 43 = .ok (.if_icmp .gt 9, 3) := by decide +kernel
theorem dX8_inSight_46 : decode cX8_inSight 46 = .ok (.iconst 1, 1) := by decide +kernel
theorem dX8_inSight_47 : decode cX8_inSight 47 = .ok (.iload_n 2, 1) := by decide +kernel
theorem dX8_inSight_48 : decode cX8_inSight 48 = .ok (.ishl, 1) := by decide +kernel
theorem dX8_inSight_49 : decode cX8_inSight 49 = .ok (.goto 4, 3) := by decide +kernel
theorem dX8_inSight_52 : decode cX8_inSight 52 = .ok (.iconst 0, 1) := by decide +kernel
theorem dX8_inSight_53 : decode cX8_inSight 53 = .ok (.ior, 1) := by decide +kernel
theorem dX8_inSight_54 : decode cX8_inSight 54 = .ok (.istore_n 1, 1) := by decide +kernel
theorem dX8_inSight_55 : decode cX8_inSight 55 = .ok (.iinc 2 1, 3) := by decide +kernel
theorem dX8_inSight_58 : decode cX8_inSight 58 = .ok (.goto (-39), 3) := by decide +kernel
theorem dX8_inSight_61 : decode cX8_inSight 61 = .ok (.iload_n 1, 1) := by decide +kernel
theorem dX8_inSight_62 : decode cX8_inSight 62 = .ok (.ireturn, 1) := by decide +kernel
theorem dX8_couldDash_0 : decode cX8_couldDash 0 = .ok (.aload_n 0, 1) := by decide +kernel
theorem dX8_couldDash_1 : decode cX8_couldDash 1 = .ok (.getfield 7, 3) := by decide +kernel
theorem dX8_couldDash_4 : decode cX8_couldDash 4 = .ok (.bipush 6, 2) := by decide +kernel
theorem dX8_couldDash_6 : decode cX8_couldDash 6 = .ok (.iaload, 1) := by decide +kernel
theorem dX8_couldDash_7 : decode cX8_couldDash 7 = .ok (.iconst 2, 1) := by decide +kernel
theorem dX8_couldDash_8 : decode cX8_couldDash 8 = .ok (.if_icmp .eq 7, 3) := by decide +kernel
theorem dX8_couldDash_11 : decode cX8_couldDash 11 = .ok (.sipush (-10003), 3) := by decide +kernel
theorem dX8_couldDash_14 : decode cX8_couldDash 14 = .ok (.ireturn, 1) := by decide +kernel
theorem dX8_couldDash_15 : decode cX8_couldDash 15 = .ok (.iconst 0, 1) := by decide +kernel
theorem dX8_couldDash_16 : decode cX8_couldDash 16 = .ok (.istore_n 1, 1) := by decide +kernel
theorem dX8_couldDash_17 : decode cX8_couldDash 17 = .ok (.iconst 0, 1) := by decide +kernel
theorem dX8_couldDash_18 : decode cX8_couldDash 18 = .ok (.istore_n 2, 1) := by decide +kernel
theorem dX8_couldDash_19 : decode cX8_couldDash 19 = .ok (.iload_n 2, 1) := by decide +kernel
theorem dX8_couldDash_20 : decode cX8_couldDash 20 = .ok (.aload_n 0, 1) := by decide +kernel
theorem dX8_couldDash_21 : decode cX8_couldDash 21 = .ok (.getfield 7, 3) := by decide +kernel
theorem dX8_couldDash_24 : decode cX8_couldDash 24 = .ok (.iconst 4, 1) := by decide +kernel
theorem dX8_couldDash_25 : decode cX8_couldDash 25 = .ok (.iaload, 1) := by decide +kernel
theorem dX8_couldDash_26 : decode cX8_couldDash 26 = .ok (.if_icmp .ge 39, 3) := by decide +kernel
theorem dX8_couldDash_29 : decode cX8_couldDash 29 = .ok (.iload_n 1, 1) := by decide +kernel
theorem dX8_couldDash_30 : decode cX8_couldDash 30 = .ok (.aload_n 0, 1) := by decide +kernel
theorem dX8_couldDash_31 : decode cX8_couldDash 31 = .ok (.iload_n 2, 1) := by decide +kernel
theorem dX8_couldDash_32 : decode cX8_couldDash 32 = .ok (.iconst 5, 1) := by decide +kernel
theorem dX8_couldDash_33 : decode cX8_couldDash 33 = .ok (.invokevirtual 53, 3) := by decide +kernel
theorem dX8_couldDash_36 : decode cX8_couldDash 36 = .ok (.sipush (-10006), 3) := by decide +kernel
theorem dX8_couldDash_39 : decode cX8_couldDash 39 = .ok (.if_icmp .eq 17, 3) := by decide +kernel
theorem dX8_couldDash_42 : decode cX8_couldDash 42 = .ok (.aload_n 0, 1) := by decide +kernel
theorem dX8_couldDash_43 : decode cX8_couldDash 43 = .ok (.iload_n 2, 1) := by decide +kernel
theorem dX8_couldDash_44 : decode cX8_couldDash 44 = .ok (.invokevirtual 118, 3) := by decide +kernel
theorem dX8_couldDash_47 : decode cX8_couldDash 47 = .ok (.ifCond .eq 9, 3) := by decide +kernel
theorem dX8_couldDash_50 : decode cX8_couldDash 50 = .ok (.iconst 1, 1) := by decide +kernel
theorem dX8_couldDash_51 : decode cX8_couldDash 51 = .ok (.iload_n 2, 1) := by decide +kernel
theorem dX8_couldDash_52 : decode cX8_couldDash 52 = .ok (.ishl, 1) := by decide +kernel
theorem dX8_couldDash_53 : decode cX8_couldDash 53 = .ok (.goto 4, 3) := by decide +kernel
theorem dX8_couldDash_56 : decode cX8_couldDash 56 = .ok (.iconst 0, 1) := by decide +kernel
theorem dX8_couldDash_57 : decode cX8_couldDash 57 = .ok (.ior, 1) := by decide +kernel
theorem dX8_couldDash_58 : decode cX8_couldDash 58 = .ok (.istore_n 1, 1) := by decide +kernel
theorem dX8_couldDash_59 : decode cX8_couldDash 59 = .ok (.iinc 2 1, 3) := by decide +kernel
theorem dX8_couldDash_62 : decode cX8_couldDash 62 = .ok (.goto (-43), 3) := by decide +kernel
theorem dX8_couldDash_65 : decode cX8_couldDash 65 = .ok (.iload_n 1, 1) := by decide +kernel
theorem dX8_couldDash_66 : decode cX8_couldDash 66 = .ok (.ireturn, 1) := by decide +kernel
theorem dX8_isBetter_0 : decode cX8_isBetter 0 = .ok (.iload_n 1, 1) := by decide +kernel
theorem dX8_isBetter_1 : decode cX8_isBetter 1 = .ok (.iconst 0, 1) := by decide +kernel
theorem dX8_isBetter_2 : decode cX8_isBetter 2 = .ok (.invokestatic 56, 3) := by decide +kernel
theorem dX8_isBetter_5 : decode cX8_isBetter 5 = .ok (.iload_n 2, 1) := by decide +kernel
theorem dX8_isBetter_6 : decode cX8_isBetter 6 = .ok (.iconst 0, 1) := by decide +kernel
theorem dX8_isBetter_7 : decode cX8_isBetter 7 = .ok (.invokestatic 56, 3) := by decide +kernel
theorem dX8_isBetter_10 : decode cX8_isBetter 10 = .ok (.if_icmp .eq 22, 3) := by decide +kernel
theorem dX8_isBetter_13 : decode cX8_isBetter 13 = .ok (.iload_n 1, 1) := by decide +kernel
theorem dX8_isBetter_14 : decode cX8_isBetter 14 = .ok (.iconst 0, 1) := by decide +kernel
theorem dX8_isBetter_15 : decode cX8_isBetter 15 = .ok (.invokestatic 56, 3) := by decide +kernel
theorem dX8_isBetter_18 : decode cX8_isBetter 18 = .ok (.iload_n 2, 1) := by decide +kernel
theorem dX8_isBetter_19 : decode cX8_isBetter 19 = .ok (.iconst 0, 1) := by decide +kernel
theorem dX8_isBetter_20 : decode cX8_isBetter 20 = .ok (.invokestatic 56, 3) := by decide +kernel
theorem dX8_isBetter_23 : decode cX8_isBetter 23 = .ok (.if_icmp .le 7, 3) := by decide +kernel
theorem dX8_isBetter_26 : decode cX8_isBetter 26 = .ok (.iconst 1, 1) := by decide +kernel
theorem dX8_isBetter_27 : decode cX8_isBetter 27 = .ok (.goto 4, 3) := by decide +kernel
theorem dX8_isBetter_30 : decode cX8_isBetter 30 = .ok (.iconst 0, 1) := by decide +kernel
theorem dX8_isBetter_31 : decode cX8_isBetter 31 = .ok (.ireturn, 1) := by decide +kernel
theorem dX8_isBetter_32 : decode cX8_isBetter 32 = .ok (.aload_n 0, 1) := by decide +kernel
theorem dX8_isBetter_33 : decode cX8_isBetter 33 = .ok (.iload_n 1, 1) := by decide +kernel
theorem dX8_isBetter_34 : decode cX8_isBetter 34 = .ok (.iconst 0, 1) := by decide +kernel
theorem dX8_isBetter_35 : decode cX8_isBetter 35 = .ok (.invokevirtual 30, 3) := by decide +kernel
theorem dX8_isBetter_38 : decode cX8_isBetter 38 = .ok (.aload_n 0, 1) := by decide +kernel
theorem dX8_isBetter_39 : decode cX8_isBetter 39 = .ok (.iload_n 2, 1) := by decide +kernel
theorem dX8_isBetter_40 : decode cX8_isBetter 40 = .ok (.iconst 0, 1) := by decide +kernel
theorem dX8_isBetter_41 : decode cX8_isBetter 41 = .ok (.invokevirtual 30, 3) := by decide +kernel
theorem dX8_isBetter_44 : decode cX8_isBetter 44 = .ok (.if_icmp .eq 24, 3) := by decide +kernel
theorem dX8_isBetter_47 : decode cX8_isBetter 47 = .ok (.aload_n 0, 1) := by decide +kernel
theorem dX8_isBetter_48 : decode cX8_isBetter 48 = .ok (.iload_n 1, 1) := by decide +kernel
theorem dX8_isBetter_49 : decode cX8_isBetter 49 = .ok (.iconst 0, 1) := by decide +kernel
theorem dX8_isBetter_50 : decode cX8_isBetter 50 = .ok (.invokevirtual 30, 3) := by decide +kernel
theorem dX8_isBetter_53 : decode cX8_isBetter 53 = .ok (.aload_n 0, 1) := by decide +kernel
theorem dX8_isBetter_54 : decode cX8_isBetter 54 = .ok (.iload_n 2, 1) := by decide +kernel
theorem dX8_isBetter_55 : decode cX8_isBetter 55 = .ok (.iconst 0, 1) := by decide +kernel
theorem dX8_isBetter_56 : decode cX8_isBetter 56 = .ok (.invokevirtual 30, 3) := by decide +kernel
theorem dX8_isBetter_59 : decode cX8_isBetter 59 = .ok (.if_icmp .ge 7, 3) := by decide +kernel
theorem dX8_isBetter_62 : decode cX8_isBetter 62 = .ok (.iconst 1, 1) := by decide +kernel
theorem dX8_isBetter_63 : decode cX8_isBetter 63 = .ok (.goto 4, 3) := by decide +kernel
theorem dX8_isBetter_66 : decode cX8_isBetter 66 = .ok (.iconst 0, 1) := by decide +kernel
theorem dX8_isBetter_67 : decode cX8_isBetter 67 = .ok (.ireturn, 1) := by decide +kernel
theorem dX8_isBetter_68 : decode cX8_isBetter 68 = .ok (.aload_n 0, 1) := by decide +kernel
theorem dX8_isBetter_69 : decode cX8_isBetter 69 = .ok (.iload_n 1, 1) := by decide +kernel
theorem dX8_isBetter_70 : decode cX8_isBetter 70 = .ok (.invokevirtual 66, 3) := by decide +kernel
theorem dX8_isBetter_73 : decode cX8_isBetter 73 = .ok (.invokestatic 70, 3) := by decide +kernel
theorem dX8_isBetter_76 : decode cX8_isBetter 76 = .ok (.aload_n 0, 1) := by decide +kernel
theorem dX8_isBetter_77 : decode cX8_isBetter 77 = .ok (.iload_n 2, 1) := by decide +kernel
theorem dX8_isBetter_78 : decode cX8_isBetter 78 = .ok (.invokevirtual 66, 3) := by decide +kernel
theorem dX8_isBetter_81 : decode cX8_isBetter 81 = .ok (.invokestatic 70, 3) := by decide +kernel
theorem dX8_isBetter_84 : decode cX8_isBetter 84 = .ok (.if_icmp .ge 7, 3) := by decide +kernel
theorem dX8_isBetter_87 : decode cX8_isBetter 87 = .ok (.iconst 1, 1) := by decide +kernel
theorem dX8_isBetter_88 : decode cX8_isBetter 88 = .ok (.goto 4, 3) := by decide +kernel
theorem dX8_isBetter_91 : decode cX8_isBetter 91 = .ok (.iconst 0, 1) := by decide +kernel
theorem dX8_isBetter_92 : decode cX8_isBetter 92 = .ok (.ireturn, 1) := by decide +kernel
theorem dX8_bestSpot_0 : decode cX8_bestSpot 0 = .ok (.aload_n 0, 1) := by decide +kernel
theorem dX8_bestSpot_1 : decode cX8_bestSpot 1 = .ok (.getfield 7, 3) := by decide +kernel
theorem dX8_bestSpot_4 : decode cX8_bestSpot 4 = .ok (.bipush 6, 2) := by decide +kernel
theorem dX8_bestSpot_6 : decode cX8_bestSpot 6 = .ok (.iaload, 1) := by decide +kernel
theorem dX8_bestSpot_7 : decode cX8_bestSpot 7 = .ok (.iconst 1, 1) := by decide +kernel
theorem dX8_bestSpot_8 : decode cX8_bestSpot 8 = .ok (.if_icmp .eq 7, 3) := by decide +kernel
theorem dX8_bestSpot_11 : decode cX8_bestSpot 11 = .ok (.sipush (-10003), 3) := by decide +kernel
theorem dX8_bestSpot_14 : decode cX8_bestSpot 14 = .ok (.ireturn, 1) := by decide +kernel
theorem dX8_bestSpot_15 : decode cX8_bestSpot 15 = .ok (.sipush (-10006), 3) := by decide +kernel
theorem dX8_bestSpot_18 : decode cX8_bestSpot 18 = .ok (.istore_n 1, 1) := by decide +kernel
theorem dX8_bestSpot_19 : decode cX8_bestSpot 19 = .ok (.iconst 1, 1) := by decide +kernel
theorem dX8_bestSpot_20 : decode cX8_bestSpot 20 = .ok (.istore_n 2, 1) := by decide +kernel
theorem dX8_bestSpot_21 : decode cX8_bestSpot 21 = .ok (.iload_n 2, 1) := by decide +kernel
theorem dX8_bestSpot_22 : decode cX8_bestSpot 22 = .ok (.bipush 16, 2) := by decide +kernel
theorem dX8_bestSpot_24 : decode cX8_bestSpot 24 = .ok (.if_icmp .ge 39, 3) := by decide +kernel
theorem dX8_bestSpot_27 : decode cX8_bestSpot 27 = .ok (.aload_n 0, 1) := by decide +kernel
theorem dX8_bestSpot_28 : decode cX8_bestSpot 28 = .ok (.iload_n 2, 1) := by decide +kernel
theorem dX8_bestSpot_29 : decode cX8_bestSpot 29 = .ok (.invokevirtual 80, 3) := by decide +kernel
theorem dX8_bestSpot_32 : decode cX8_bestSpot 32 = .ok (.ifCond .eq 23, 3) := by decide +kernel
theorem dX8_bestSpot_35 : decode cX8_bestSpot 35 = .ok (.iload_n 1, 1) := by decide +kernel
theorem dX8_bestSpot_36 : decode cX8_bestSpot 36 = .ok (.sipush (-10006), 3) := by decide +kernel
theorem dX8_bestSpot_39 : decode cX8_bestSpot 39 = .ok (.if_icmp .eq 12, 3) := by decide +kernel
theorem dX8_bestSpot_42 : decode cX8_bestSpot 42 = .ok (.aload_n 0, 1) := by decide +kernel
theorem dX8_bestSpot_43 : decode cX8_bestSpot 43 = .ok (.iload_n 2, 1) := by decide +kernel
theorem dX8_bestSpot_44 : decode cX8_bestSpot 44 = .ok (.iload_n 1, 1) := by decide +kernel
theorem dX8_bestSpot_45 : decode cX8_bestSpot 45 = .ok (.invokevirtual 139, 3) := by decide +kernel
theorem dX8_bestSpot_48 : decode cX8_bestSpot 48 = .ok (.ifCond .eq 7, 3) := by decide +kernel
theorem dX8_bestSpot_51 : decode cX8_bestSpot 51 = .ok (.iload_n 2, 1) := by decide +kernel
theorem dX8_bestSpot_52 : decode cX8_bestSpot 52 = .ok (.goto 4, 3) := by decide +kernel
theorem dX8_bestSpot_55 : decode cX8_bestSpot 55 = .ok (.iload_n 1, 1) := by decide +kernel
theorem dX8_bestSpot_56 : decode cX8_bestSpot 56 = .ok (.istore_n 1, 1) := by decide +kernel
theorem dX8_bestSpot_57 : decode cX8_bestSpot 57 = .ok (.iinc 2 1, 3) := by decide +kernel
theorem dX8_bestSpot_60 : decode cX8_bestSpot 60 = .ok (.goto (-39), 3) := by decide +kernel
theorem dX8_bestSpot_63 : decode cX8_bestSpot 63 = .ok (.iload_n 1, 1) := by decide +kernel
theorem dX8_bestSpot_64 : decode cX8_bestSpot 64 = .ok (.ireturn, 1) := by decide +kernel
theorem dX8_seesAll_0 : decode cX8_seesAll 0 = .ok (.iconst 1, 1) := by decide +kernel
theorem dX8_seesAll_1 : decode cX8_seesAll 1 = .ok (.istore_n 3, 1) := by decide +kernel
theorem dX8_seesAll_2 : decode cX8_seesAll 2 = .ok (.iconst 0, 1) := by decide +kernel
theorem dX8_seesAll_3 : decode cX8_seesAll 3 = .ok (.istore 4, 2) := by decide +kernel
theorem dX8_seesAll_5 : decode cX8_seesAll 5 = .ok (.iload 4, 2) := by decide +kernel
theorem dX8_seesAll_7 : decode cX8_seesAll 7 = .ok (.aload_n 0, 1) := by decide +kernel
theorem dX8_seesAll_8 : decode cX8_seesAll 8 = .ok (.getfield 7, 3) := by decide +kernel
theorem dX8_seesAll_11 : decode cX8_seesAll 11 = .ok (.iconst 4, 1) := by decide +kernel
theorem dX8_seesAll_12 : decode cX8_seesAll 12 = .ok (.iaload, 1) := by decide +kernel
theorem dX8_seesAll_13 : decode cX8_seesAll 13 = .ok (.if_icmp .ge 107, 3) := by decide +kernel
theorem dX8_seesAll_16 : decode cX8_seesAll 16 = .ok (.aload_n 0, 1) := by decide +kernel
theorem dX8_seesAll_17 : decode cX8_seesAll 17 = .ok (.iload 4, 2) := by decide +kernel
theorem dX8_seesAll_19 : decode cX8_seesAll 19 = .ok (.iconst 5, 1) := by decide +kernel
theorem dX8_seesAll_20 : decode cX8_seesAll 20 = .ok (.invokevirtual 53, 3) := by decide +kernel
theorem dX8_seesAll_23 : decode cX8_seesAll 23 = .ok (.sipush (-10006), 3) := by decide +kernel
theorem dX8_seesAll_26 : decode cX8_seesAll 26 = .ok (.if_icmp .ne 7, 3) := by decide +kernel
theorem dX8_seesAll_29 : decode cX8_seesAll 29 = .ok (.iconst 1, 1) := by decide +kernel
theorem dX8_seesAll_30 : decode cX8_seesAll 30 = .ok (.goto 4, 3) := by decide +kernel
theorem dX8_seesAll_33 : decode cX8_seesAll 33 = .ok (.iconst 0, 1) := by decide +kernel
theorem dX8_seesAll_34 : decode cX8_seesAll 34 = .ok (.istore 5, 2) := by decide +kernel
theorem dX8_seesAll_36 : decode cX8_seesAll 36 = .ok (.iload_n 2, 1) := by decide +kernel
theorem dX8_seesAll_37 : decode cX8_seesAll 37 = .ok (.ineg, 1) := by decide +kernel
theorem dX8_seesAll_38 : decode cX8_seesAll 38 = .ok (.istore 6, 2) := by decide +kernel
theorem dX8_seesAll_40 : decode cX8_seesAll 40 = .ok (.iload 6, 2) := by decide +kernel
theorem dX8_seesAll_42 : decode cX8_seesAll 42 = .ok (.iload_n 1, 1) := by decide +kernel
theorem dX8_seesAll_43 : decode cX8_seesAll 43 = .ok (.if_icmp .gt 56, 3) := by decide +kernel
theorem dX8_seesAll_46 : decode cX8_seesAll 46 = .ok (.iload 5, 2) := by decide +kernel
theorem dX8_seesAll_48 : decode cX8_seesAll 48 = .ok (.ifCond .ne 38, 3) := by decide +kernel
theorem dX8_seesAll_51 : decode cX8_seesAll 51 = .ok (.aload_n 0, 1) := by decide +kernel
theorem dX8_seesAll_52 : decode cX8_seesAll 52 = .ok (.iload 4, 2) := by decide +kernel
theorem dX8_seesAll_54 : decode cX8_seesAll 54 = .ok (.iconst 5, 1) := by decide +kernel
theorem dX8_seesAll_55 : decode cX8_seesAll 55 = .ok (.invokevirtual 53, 3) := by decide +kernel
theorem dX8_seesAll_58 : decode cX8_seesAll 58 = .ok (.aload_n 0, 1) := by decide +kernel
theorem dX8_seesAll_59 : decode cX8_seesAll 59 = .ok (.getfield 7, 3) := by decide +kernel
theorem dX8_seesAll_62 : decode cX8_seesAll 62 = .ok (.bipush 9, 2) := by decide +kernel
theorem dX8_seesAll_64 : decode cX8_seesAll 64 = .ok (.iaload, 1) := by decide +kernel
theorem dX8_seesAll_65 : decode cX8_seesAll 65 = .ok (.iload 6, 2) := by decide +kernel
theorem dX8_seesAll_67 : decode cX8_seesAll 67 = .ok (.iadd, 1) := by decide +kernel
theorem dX8_seesAll_68 : decode cX8_seesAll 68 = .ok (.bipush 32, 2) := by decide +kernel
theorem dX8_seesAll_70 : decode cX8_seesAll 70 = .ok (.iadd, 1) := by decide +kernel
theorem dX8_seesAll_71 : decode cX8_seesAll 71 = .ok (.bipush 16, 2) := by decide +kernel
theorem dX8_seesAll_73 : decode cX8_seesAll 73 = .ok (.irem, 1) := by decide +kernel
theorem dX8_seesAll_74 : decode cX8_seesAll 74 = .ok (.invokestatic 56, 3) := by decide +kernel
theorem dX8_seesAll_77 : decode cX8_seesAll 77 = .ok (.aload_n 0, 1) := by decide +kernel
theorem dX8_seesAll_78 : decode cX8_seesAll 78 = .ok (.getfield 7, 3) := by decide +kernel
theorem dX8_seesAll_81 : decode cX8_seesAll 81 = .ok (.iconst 0, 1) := by decide +kernel
theorem dX8_seesAll_82 : decode cX8_seesAll 82 = .ok (.iaload, 1) := by decide +kernel
theorem dX8_seesAll_83 : decode cX8_seesAll 83 = .ok (.if_icmp .gt 7, 3) := by decide +kernel
theorem dX8_seesAll_86 : decode cX8_seesAll 86 = .ok (.iconst 1, 1) := by decide +kernel
theorem dX8_seesAll_87 : decode cX8_seesAll 87 = .ok (.goto 4, 3) := by decide +kernel
theorem dX8_seesAll_90 : decode cX8_seesAll 90 = .ok (.iconst 0, 1) := by decide +kernel
theorem dX8_seesAll_91 : decode cX8_seesAll 91 = .ok (.istore 5, 2) := by decide +kernel
theorem dX8_seesAll_93 : decode cX8_seesAll 93 = .ok (.iinc 6 1, 3) := by decide +kernel
theorem dX8_seesAll_96 : decode cX8_seesAll 96 = .ok (.goto (-56), 3) := by decide +kernel
theorem dX8_seesAll_99 : decode cX8_seesAll 99 = .ok (.iload_n 3, 1) := by decide +kernel
theorem dX8_seesAll_100 : decode cX8_seesAll 100 = .ok (.ifCond .eq 12, 3) := by decide +kernel
theorem dX8_seesAll_103 : decode cX8_seesAll 103 = .ok (.iload 5, 2) := by decide +kernel
theorem dX8_seesAll_105 : decode cX8_seesAll 105 = .ok (.ifCond .eq 7, 3) := by decide +kernel
theorem dX8_seesAll_108 : decode cX8_seesAll 108 = .ok (.iconst 1, 1) := by decide +kernel
theorem dX8_seesAll_109 : decode cX8_seesAll 109 = .ok (.goto 4, 3) := by decide +kernel
theorem dX8_seesAll_112 : decode cX8_seesAll 112 = .ok (.iconst 0, 1) := by decide +kernel
theorem dX8_seesAll_113 : decode cX8_seesAll 113 = .ok (.istore_n 3, 1) := by decide +kernel
theorem dX8_seesAll_114 : decode cX8_seesAll 114 = .ok (.iinc 4 1, 3) := by decide +kernel
theorem dX8_seesAll_117 : decode cX8_seesAll 117 = .ok (.goto (-112), 3) := by decide +kernel
theorem dX8_seesAll_120 : decode cX8_seesAll 120 = .ok (.iload_n 3, 1) := by decide +kernel
theorem dX8_seesAll_121 : decode cX8_seesAll 121 = .ok (.ireturn, 1) := by decide +kernel
theorem dX8_fewestSteps_0 : decode cX8_fewestSteps 0 = .ok (.aload_n 0, 1) := by decide +kernel
theorem dX8_fewestSteps_1 : decode cX8_fewestSteps 1 = .ok (.getfield 7, 3) := by decide +kernel
theorem dX8_fewestSteps_4 : decode cX8_fewestSteps 4 = .ok (.bipush 6, 2) := by decide +kernel
theorem dX8_fewestSteps_6 : decode cX8_fewestSteps 6 = .ok (.iaload, 1) := by decide +kernel
theorem dX8_fewestSteps_7 : decode cX8_fewestSteps 7 = .ok (.iconst 2, 1) := by decide +kernel
theorem dX8_fewestSteps_8 : decode cX8_fewestSteps 8 = .ok (.if_icmp .eq 7, 3) := by decide +kernel
theorem dX8_fewestSteps_11 : decode cX8_fewestSteps 11 = .ok (.sipush (-10003), 3) := by decide +kernel
theorem dX8_fewestSteps_14 : decode cX8_fewestSteps 14 = .ok (.ireturn, 1) := by decide +kernel
theorem dX8_fewestSteps_15 : decode cX8_fewestSteps 15 = .ok (.bipush 32, 2) := by decide +kernel
theorem dX8_fewestSteps_17 : decode cX8_fewestSteps 17 = .ok (.istore_n 1, 1) := by decide +kernel
theorem dX8_fewestSteps_18 : decode cX8_fewestSteps 18 = .ok (.iconst 0, 1) := by decide +kernel
theorem dX8_fewestSteps_19 : decode cX8_fewestSteps 19 = .ok (.istore_n 2, 1) := by decide +kernel
theorem dX8_fewestSteps_20 : decode cX8_fewestSteps 20 = .ok (.iload_n 2, 1) := by decide +kernel
theorem dX8_fewestSteps_21 : decode cX8_fewestSteps 21 = .ok (.bipush 16, 2) := by decide +kernel
theorem dX8_fewestSteps_23 : decode cX8_fewestSteps 23 = .ok (.if_icmp .ge 63, 3) := by decide +kernel
theorem dX8_fewestSteps_26 : decode cX8_fewestSteps 26 = .ok (.iconst 0, 1) := by decide +kernel
theorem dX8_fewestSteps_27 : decode cX8_fewestSteps 27 = .ok (.istore_n 3, 1) := by decide +kernel
theorem dX8_fewestSteps_28 : decode cX8_fewestSteps 28 = .ok (.iload_n 2, 1) := by decide +kernel
theorem dX8_fewestSteps_29 : decode cX8_fewestSteps 29 = .ok (.iload_n 3, 1) := by decide +kernel
theorem dX8_fewestSteps_30 : decode cX8_fewestSteps 30 = .ok (.iadd, 1) := by decide +kernel
theorem dX8_fewestSteps_31 : decode cX8_fewestSteps 31 = .ok (.bipush 16, 2) := by decide +kernel
theorem dX8_fewestSteps_33 : decode cX8_fewestSteps 33 = .ok (.if_icmp .ge 47, 3) := by decide +kernel
theorem dX8_fewestSteps_36 : decode cX8_fewestSteps 36 = .ok (.iload_n 2, 1) := by decide +kernel
theorem dX8_fewestSteps_37 : decode cX8_fewestSteps 37 = .ok (.iload_n 3, 1) := by decide +kernel
theorem dX8_fewestSteps_38 : decode cX8_fewestSteps 38 = .ok (.iadd, 1) := by decide +kernel
theorem dX8_fewestSteps_39 : decode cX8_fewestSteps 39 = .ok (.iload_n 2, 1) := by decide +kernel
theorem dX8_fewestSteps_40 : decode cX8_fewestSteps 40 = .ok (.iload_n 3, 1) := by decide +kernel
theorem dX8_fewestSteps_41 : decode cX8_fewestSteps 41 = .ok (.if_icmp .ge 7, 3) := by decide +kernel
theorem dX8_fewestSteps_44 : decode cX8_fewestSteps 44 = .ok (.iload_n 2, 1) := by decide +kernel
theorem dX8_fewestSteps_45 : decode cX8_fewestSteps 45 = .ok (.goto 4, 3) := by decide +kernel
theorem dX8_fewestSteps_48 : decode cX8_fewestSteps 48 = .ok (.iload_n 3, 1) := by decide +kernel
theorem dX8_fewestSteps_49 : decode cX8_fewestSteps 49 = .ok (.iadd, 1) := by decide +kernel
theorem dX8_fewestSteps_50 : decode cX8_fewestSteps 50 = .ok (.istore 4, 2) := by decide +kernel
theorem dX8_fewestSteps_52 : decode cX8_fewestSteps 52 = .ok (.iload 4, 2) := by decide +kernel
theorem dX8_fewestSteps_54 : decode cX8_fewestSteps 54 = .ok (.iload_n 1, 1) := by decide +kernel
theorem dX8_fewestSteps_55 : decode cX8_fewestSteps 55 = .ok (.if_icmp .ge 17, 3) := by decide +kernel
theorem dX8_fewestSteps_58 : decode cX8_fewestSteps 58 = .ok (.aload_n 0, 1) := by decide +kernel
theorem dX8_fewestSteps_59 : decode cX8_fewestSteps 59 = .ok (.iload_n 2, 1) := by decide +kernel
theorem dX8_fewestSteps_60 : decode cX8_fewestSteps 60 = .ok (.iload_n 3, 1) := by decide +kernel
theorem dX8_fewestSteps_61 : decode cX8_fewestSteps 61 = .ok (.invokevirtual 142, 3) := by decide +kernel
theorem dX8_fewestSteps_64 : decode cX8_fewestSteps 64 = .ok (.ifCond .eq 8, 3) := by decide +kernel
theorem dX8_fewestSteps_67 : decode cX8_fewestSteps 67 = .ok (.iload 4, 2) := by decide +kernel
theorem dX8_fewestSteps_69 : decode cX8_fewestSteps 69 = .ok (.goto 4, 3) := by decide +kernel
theorem dX8_fewestSteps_72 : decode cX8_fewestSteps 72 = .ok (.iload_n 1, 1) := by decide +kernel
theorem dX8_fewestSteps_73 : decode cX8_fewestSteps 73 = .ok (.istore_n 1, 1) := by decide +kernel
theorem dX8_fewestSteps_74 : decode cX8_fewestSteps 74 = .ok (.iinc 3 1, 3) := by decide +kernel
theorem dX8_fewestSteps_77 : decode cX8_fewestSteps 77 = .ok (.goto (-49), 3) := by decide +kernel
theorem dX8_fewestSteps_80 : decode cX8_fewestSteps 80 = .ok (.iinc 2 1, 3) := by decide +kernel
theorem dX8_fewestSteps_83 : decode cX8_fewestSteps 83 = .ok (.goto (-63), 3) := by decide +kernel
theorem dX8_fewestSteps_86 : decode cX8_fewestSteps 86 = .ok (.iload_n 1, 1) := by decide +kernel
theorem dX8_fewestSteps_87 : decode cX8_fewestSteps 87 = .ok (.ireturn, 1) := by decide +kernel
theorem dX8_append_0 : decode cX8_append 0 = .ok (.iload_n 1, 1) := by decide +kernel
theorem dX8_append_1 : decode cX8_append 1 = .ok (.bipush 33, 2) := by decide +kernel
theorem dX8_append_3 : decode cX8_append 3 = .ok (.bipush 126, 2) := by decide +kernel
theorem dX8_append_5 : decode cX8_append 5 = .ok (.invokestatic 26, 3) := by decide +kernel
theorem dX8_append_8 : decode cX8_append 8 = .ok (.ifCond .ne 7, 3) := by decide +kernel
theorem dX8_append_11 : decode cX8_append 11 = .ok (.sipush (-10002), 3) := by decide +kernel
theorem dX8_append_14 : decode cX8_append 14 = .ok (.ireturn, 1) := by decide +kernel
theorem dX8_append_15 : decode cX8_append 15 = .ok (.aload_n 0, 1) := by decide +kernel
theorem dX8_append_16 : decode cX8_append 16 = .ok (.getfield 145, 3) := by decide +kernel
theorem dX8_append_19 : decode cX8_append 19 = .ok (.bipush 60, 2) := by decide +kernel
theorem dX8_append_21 : decode cX8_append 21 = .ok (.if_icmp .ne 7, 3) := by decide +kernel
theorem dX8_append_24 : decode cX8_append 24 = .ok (.sipush (-10004), 3) := by decide +kernel
theorem dX8_append_27 : decode cX8_append 27 = .ok (.ireturn, 1) := by decide +kernel
theorem dX8_append_28 : decode cX8_append 28 = .ok (.aload_n 0, 1) := by decide +kernel
theorem dX8_append_29 : decode cX8_append 29 = .ok (.getfield 19, 3) := by decide +kernel
theorem dX8_append_32 : decode cX8_append 32 = .ok (.aload_n 0, 1) := by decide +kernel
theorem dX8_append_33 : decode cX8_append 33 = .ok (.getfield 145, 3) := by decide +kernel
theorem dX8_append_36 : decode cX8_append 36 = .ok (.iload_n 1, 1) := by decide +kernel
theorem dX8_append_37 : decode cX8_append 37 = .ok (.i2c, 1) := by decide +kernel
theorem dX8_append_38 : decode cX8_append 38 = .ok (.castore, 1) := by decide +kernel
theorem dX8_append_39 : decode cX8_append 39 = .ok (.aload_n 0, 1) := by decide +kernel
theorem dX8_append_40 : decode cX8_append 40 = .ok (.dup, 1) := by decide +kernel
theorem dX8_append_41 : decode cX8_append 41 = .ok (.getfield 145, 3) := by decide +kernel
theorem dX8_append_44 : decode cX8_append 44 = .ok (.iconst 1, 1) := by decide +kernel
theorem dX8_append_45 : decode cX8_append 45 = .ok (.iadd, 1) := by decide +kernel
theorem dX8_append_46 : decode cX8_append 46 = .ok (.putfield 145, 3) := by decide +kernel
theorem dX8_append_49 : decode cX8_append 49 = .ok (.aload_n 0, 1) := by decide +kernel
theorem dX8_append_50 : decode cX8_append 50 = .ok (.getfield 145, 3) := by decide +kernel
theorem dX8_append_53 : decode cX8_append 53 = .ok (.ireturn, 1) := by decide +kernel
theorem dX8_clearText_0 : decode cX8_clearText 0 = .ok (.aload_n 0, 1) := by decide +kernel
theorem dX8_clearText_1 : decode cX8_clearText 1 = .ok (.getfield 145, 3) := by decide +kernel
theorem dX8_clearText_4 : decode cX8_clearText 4 = .ok (.istore_n 1, 1) := by decide +kernel
theorem dX8_clearText_5 : decode cX8_clearText 5 = .ok (.aload_n 0, 1) := by decide +kernel
theorem dX8_clearText_6 : decode cX8_clearText 6 = .ok (.iconst 0, 1) := by decide +kernel
theorem dX8_clearText_7 : decode cX8_clearText 7 = .ok (.putfield 145, 3) := by decide +kernel
theorem dX8_clearText_10 : decode cX8_clearText 10 = .ok (.iload_n 1, 1) := by decide +kernel
theorem dX8_clearText_11 : decode cX8_clearText 11 = .ok (.ireturn, 1) := by decide +kernel
theorem dX8_letter_0 : decode cX8_letter 0 = .ok (.aload_n 0, 1) := by decide +kernel
theorem dX8_letter_1 : decode cX8_letter 1 = .ok (.getfield 148, 3) := by decide +kernel
theorem dX8_letter_4 : decode cX8_letter 4 = .ok (.aload_n 0, 1) := by decide +kernel
theorem dX8_letter_5 : decode cX8_letter 5 = .ok (.getfield 145, 3) := by decide +kernel
theorem dX8_letter_8 : decode cX8_letter 8 = .ok (.if_icmp .ge 15, 3) := by decide +kernel
theorem dX8_letter_11 : decode cX8_letter 11 = .ok (.aload_n 0, 1) := by decide +kernel
theorem dX8_letter_12 : decode cX8_letter 12 = .ok (.getfield 19, 3) := by decide +kernel
theorem dX8_letter_15 : decode cX8_letter 15 = .ok (.aload_n 0, 1) := by decide +kernel
theorem dX8_letter_16 : decode cX8_letter 16 = .ok (.getfield 148, 3) := by decide +kernel
theorem dX8_letter_19 : decode cX8_letter 19 = .ok (.caload, 1) := by decide +kernel
theorem dX8_letter_20 : decode cX8_letter 20 = .ok (.goto 6, 3) := by decide +kernel
theorem dX8_letter_23 : decode cX8_letter 23 = .ok (.sipush (-10006), 3) := by decide +kernel
theorem dX8_letter_26 : decode cX8_letter 26 = .ok (.ireturn, 1) := by decide +kernel
theorem dX8_wants_0 : decode cX8_wants 0 = .ok (.aload_n 0, 1) := by decide +kernel
theorem dX8_wants_1 : decode cX8_wants 1 = .ok (.getfield 151, 3) := by decide +kernel
theorem dX8_wants_4 : decode cX8_wants 4 = .ok (.sipush (-10006), 3) := by decide +kernel
theorem dX8_wants_7 : decode cX8_wants 7 = .ok (.if_icmp .ne 31, 3) := by decide +kernel
theorem dX8_wants_10 : decode cX8_wants 10 = .ok (.aload_n 0, 1) := by decide +kernel
theorem dX8_wants_11 : decode cX8_wants 11 = .ok (.iload_n 1, 1) := by decide +kernel
theorem dX8_wants_12 : decode cX8_wants 12 = .ok (.ifCond .eq 9, 3) := by decide +kernel
theorem dX8_wants_15 : decode cX8_wants 15 = .ok (.sipush (-10006), 3) := by decide +kernel
theorem dX8_wants_18 : decode cX8_wants 18 = .ok (.goto 7, 3) := by decide +kernel
theorem dX8_wants_21 : decode cX8_wants 21 = .ok (.aload_n 0, 1) := by decide +kernel
theorem dX8_wants_22 : decode cX8_wants 22 = .ok (.getfield 148, 3) := by decide +kernel
theorem dX8_wants_25 : decode cX8_wants 25 = .ok (.putfield 151, 3) := by decide +kernel
theorem dX8_wants_28 : decode cX8_wants 28 = .ok (.aload_n 0, 1) := by decide +kernel
theorem dX8_wants_29 : decode cX8_wants 29 = .ok (.dup, 1) := by decide +kernel
theorem dX8_wants_30 : decode cX8_wants 30 = .ok (.getfield 148, 3) := by decide +kernel
theorem dX8_wants_33 : decode cX8_wants 33 = .ok (.iconst 1, 1) := by decide +kernel
theorem dX8_wants_34 : decode cX8_wants 34 = .ok (.iadd, 1) := by decide +kernel
theorem dX8_wants_35 : decode cX8_wants 35 = .ok (.putfield 148, 3) := by decide +kernel
theorem dX8_wants_38 : decode cX8_wants 38 = .ok (.return_, 1) := by decide +kernel
theorem dX8_readMove_0 : decode cX8_readMove 0 = .ok (.aload_n 0, 1) := by decide +kernel
theorem dX8_readMove_1 : decode cX8_readMove 1 = .ok (.invokevirtual 154, 3) := by decide +kernel
theorem dX8_readMove_4 : decode cX8_readMove 4 = .ok (.istore_n 1, 1) := by decide +kernel
theorem dX8_readMove_5 : decode cX8_readMove 5 = .ok (.aload_n 0, 1) := by decide +kernel
theorem dX8_readMove_6 : decode cX8_readMove 6 = .ok (.iload_n 1, 1) := by decide +kernel
theorem dX8_readMove_7 : decode cX8_readMove 7 = .ok (.bipush 104, 2) := by decide +kernel
theorem dX8_readMove_9 : decode cX8_readMove 9 = .ok (.if_icmp .eq 33, 3) := by decide +kernel
theorem dX8_readMove_12 : decode cX8_readMove 12 = .ok (.iload_n 1, 1) := by decide +kernel
theorem dX8_readMove_13 : decode cX8_readMove 13 = .ok (.bipush 98, 2) := by decide +kernel
theorem dX8_readMove_15 : decode cX8_readMove 15 = .ok (.if_icmp .eq 27, 3) := by decide +kernel
theorem dX8_readMove_18 : decode cX8_readMove 18 = .ok (.iload_n 1, 1) := by decide +kernel
theorem dX8_readMove_19 : decode cX8_readMove 19 = .ok (.bipush 43, 2) := by decide +kernel
theorem dX8_readMove_21 : decode cX8_readMove 21 = .ok (.if_icmp .eq 21, 3) := by decide +kernel
theorem dX8_readMove_24 : decode cX8_readMove 24 = .ok (.iload_n 1, 1) := by decide +kernel
theorem dX8_readMove_25 : decode cX8_readMove 25 = .ok (.bipush 45, 2) := by decide +kernel
theorem dX8_readMove_27 : decode cX8_readMove 27 = .ok (.if_icmp .eq 15, 3) := by decide +kernel
theorem dX8_readMove_30 : decode cX8_readMove 30 = .ok (.iload_n 1, 1) := by decide +kernel
theorem dX8_readMove_31 : decode cX8_readMove 31 = .ok (.bipush 99, 2) := by decide +kernel
theorem dX8_readMove_33 : decode cX8_readMove 33 = .ok (.if_icmp .eq 9, 3) := by decide +kernel
theorem dX8_readMove_36 : decode cX8_readMove 36 = .ok (.iload_n 1, 1) := by decide +kernel
theorem dX8_readMove_37 : decode cX8_readMove 37 = .ok (.bipush 100, 2) := by decide +kernel
theorem dX8_readMove_39 : decode cX8_readMove 39 = .ok (.if_icmp .ne 7, 3) := by decide +kernel
theorem dX8_readMove_42 : decode cX8_readMove 42 = .ok (.iconst 1, 1) := by decide +kernel
theorem dX8_readMove_43 : decode cX8_readMove 43 = .ok (.goto 4, 3) := by decide +kernel
theorem dX8_readMove_46 : decode cX8_readMove 46 = .ok (.iconst 0, 1) := by decide +kernel
theorem dX8_readMove_47 : decode cX8_readMove 47 = .ok (.invokevirtual 157, 3) := by decide +kernel
theorem dX8_readMove_50 : decode cX8_readMove 50 = .ok (.iconst 3, 1) := by decide +kernel
theorem dX8_readMove_51 : decode cX8_readMove 51 = .ok (.aload_n 0, 1) := by decide +kernel
theorem dX8_readMove_52 : decode cX8_readMove 52 = .ok (.getfield 161, 3) := by decide +kernel
theorem dX8_readMove_55 : decode cX8_readMove 55 = .ok (.imul, 1) := by decide +kernel
theorem dX8_readMove_56 : decode cX8_readMove 56 = .ok (.istore_n 2, 1) := by decide +kernel
theorem dX8_readMove_57 : decode cX8_readMove 57 = .ok (.aload_n 0, 1) := by decide +kernel
theorem dX8_readMove_58 : decode cX8_readMove 58 = .ok (.getfield 23, 3) := by decide +kernel
theorem dX8_readMove_61 : decode cX8_readMove 61 = .ok (.iload_n 2, 1) := by decide +kernel
theorem dX8_readMove_62 : decode cX8_readMove 62 = .ok (.iload_n 1, 1) := by decide +kernel
theorem dX8_readMove_63 : decode cX8_readMove 63 = .ok (.iastore, 1) := by decide +kernel
theorem dX8_readMove_64 : decode cX8_readMove 64 = .ok (.iload_n 1, 1) := by decide +kernel
theorem dX8_readMove_65 : decode cX8_readMove 65 = .ok (.bipush 104, 2) := by decide +kernel
theorem dX8_readMove_67 : decode cX8_readMove 67 = .ok (.if_icmp .eq 15, 3) := by decide +kernel
theorem dX8_readMove_70 : decode cX8_readMove 70 = .ok (.iload_n 1, 1) := by decide +kernel
theorem dX8_readMove_71 : decode cX8_readMove 71 = .ok (.bipush 99, 2) := by decide +kernel
theorem dX8_readMove_73 : decode cX8_readMove 73 = .ok (.if_icmp .eq 9, 3) := by decide +kernel
theorem dX8_readMove_76 : decode cX8_readMove 76 = .ok (.iload_n 1, 1) := by decide +kernel
theorem dX8_readMove_77 : decode cX8_readMove 77 = .ok (.bipush 100, 2) := by decide +kernel
theorem dX8_readMove_79 : decode cX8_readMove 79 = .ok (.if_icmp .ne 33, 3) := by decide +kernel
theorem dX8_readMove_82 : decode cX8_readMove 82 = .ok (.aload_n 0, 1) := by decide +kernel
theorem dX8_readMove_83 : decode cX8_readMove 83 = .ok (.getfield 23, 3) := by decide +kernel
theorem dX8_readMove_86 : decode cX8_readMove 86 = .ok (.iload_n 2, 1) := by decide +kernel
theorem dX8_readMove_87 : decode cX8_readMove 87 = .ok (.iconst 1, 1) := by decide +kernel
theorem dX8_readMove_88 : decode cX8_readMove 88 = .ok (.iadd, 1) := by decide +kernel
theorem dX8_readMove_89 : decode cX8_readMove 89 = .ok (.aload_n 0, 1) := by decide +kernel
theorem dX8_readMove_90 : decode cX8_readMove 90 = .ok (.invokevirtual 154, 3) := by decide +kernel
theorem dX8_readMove_93 : decode cX8_readMove 93 = .ok (.bipush 48, 2) := by decide +kernel
theorem dX8_readMove_95 : decode cX8_readMove 95 = .ok (.isub, 1) := by decide +kernel
theorem dX8_readMove_96 : decode cX8_readMove 96 = .ok (.iastore, 1) := by decide +kernel
theorem dX8_readMove_97 : decode cX8_readMove 97 = .ok (.aload_n 0, 1) := by decide +kernel
theorem dX8_readMove_98 : decode cX8_readMove 98 = .ok (.aload_n 0, 1) := by decide +kernel
theorem dX8_readMove_99 : decode cX8_readMove 99 = .ok (.invokevirtual 154, 3) := by decide +kernel
theorem dX8_readMove_102 : decode cX8_readMove 102 = .ok (.bipush 48, 2) := by decide +kernel
theorem dX8_readMove_104 : decode cX8_readMove 104 = .ok (.bipush 55, 2) := by decide +kernel
theorem dX8_readMove_106 : decode cX8_readMove 106 = .ok (.invokestatic 26, 3) := by decide +kernel
theorem dX8_readMove_109 : decode cX8_readMove 109 = .ok (.invokevirtual 157, 3) := by decide +kernel
theorem dX8_readMove_112 : decode cX8_readMove 112 = .ok (.iload_n 1, 1) := by decide +kernel
theorem dX8_readMove_113 : decode cX8_readMove 113 = .ok (.bipush 104, 2) := by decide +kernel
theorem dX8_readMove_115 : decode cX8_readMove 115 = .ok (.if_icmp .eq 9, 3) := by decide +kernel
theorem dX8_readMove_118 : decode cX8_readMove 118 = .ok (.iload_n 1, 1) := by decide +kernel
theorem dX8_readMove_119 : decode cX8_readMove 119 = .ok (.bipush 99, 2) := by decide +kernel
theorem dX8_readMove_121 : decode cX8_readMove 121 = .ok (.if_icmp .ne 33, 3) := by decide +kernel
theorem dX8_readMove_124 : decode cX8_readMove 124 = .ok (.aload_n 0, 1) := by decide +kernel
theorem dX8_readMove_125 : decode cX8_readMove 125 = .ok (.getfield 23, 3) := by decide +kernel
theorem dX8_readMove_128 : decode cX8_readMove 128 = .ok (.iload_n 2, 1) := by decide +kernel
theorem dX8_readMove_129 : decode cX8_readMove 129 = .ok (.iconst 2, 1) := by decide +kernel
theorem dX8_readMove_130 : decode cX8_readMove 130 = .ok (.iadd, 1) := by decide +kernel
theorem dX8_readMove_131 : decode cX8_readMove 131 = .ok (.aload_n 0, 1) := by decide +kernel
theorem dX8_readMove_132 : decode cX8_readMove 132 = .ok (.invokevirtual 154, 3) := by decide +kernel
theorem dX8_readMove_135 : decode cX8_readMove 135 = .ok (.bipush 97, 2) := by decide +kernel
theorem dX8_readMove_137 : decode cX8_readMove 137 = .ok (.isub, 1) := by decide +kernel
theorem dX8_readMove_138 : decode cX8_readMove 138 = .ok (.iastore, 1) := by decide +kernel
theorem dX8_readMove_139 : decode cX8_readMove 139 = .ok (.aload_n 0, 1) := by decide +kernel
theorem dX8_readMove_140 : decode cX8_readMove 140 = .ok (.aload_n 0, 1) := by decide +kernel
theorem dX8_readMove_141 : decode cX8_readMove 141 = .ok (.invokevirtual 154, 3) := by decide +kernel
theorem dX8_readMove_144 : decode cX8_readMove 144 = .ok (.bipush 97, 2) := by decide +kernel
theorem dX8_readMove_146 : decode cX8_readMove 146 = .ok (.bipush 112, 2) := by decide +kernel
theorem dX8_readMove_148 : decode cX8_readMove 148 = .ok (.invokestatic 26, 3) := by decide +kernel
theorem dX8_readMove_151 : decode cX8_readMove 151 = .ok (.invokevirtual 157, 3) := by decide +kernel
theorem dX8_readMove_154 : decode cX8_readMove 154 = .ok (.aload_n 0, 1) := by decide +kernel
theorem dX8_readMove_155 : decode cX8_readMove 155 = .ok (.dup, 1) := by decide +kernel
theorem dX8_readMove_156 : decode cX8_readMove 156 = .ok (.getfield 161, 3) := by decide +kernel
theorem dX8_readMove_159 : decode cX8_readMove 159 = .ok (.iconst 1, 1) := by decide +kernel
theorem dX8_readMove_160 : decode cX8_readMove 160 = .ok (.iadd, 1) := by decide +kernel
theorem dX8_readMove_161 : decode cX8_readMove 161 = .ok (.putfield 161, 3) := by decide +kernel
theorem dX8_readMove_164 : decode cX8_readMove 164 = .ok (.return_, 1) := by decide +kernel
theorem dX8_errorPosition_0 : decode cX8_errorPosition 0 = .ok (.aload_n 0, 1) := by decide +kernel
theorem dX8_errorPosition_1 : decode cX8_errorPosition 1 = .ok (.iconst 0, 1) := by decide +kernel
theorem dX8_errorPosition_2 : decode cX8_errorPosition 2 = .ok (.putfield 161, 3) := by decide +kernel
theorem dX8_errorPosition_5 : decode cX8_errorPosition 5 = .ok (.aload_n 0, 1) := by decide +kernel
theorem dX8_errorPosition_6 : decode cX8_errorPosition 6 = .ok (.iconst 0, 1) := by decide +kernel
theorem dX8_errorPosition_7 : decode cX8_errorPosition 7 = .ok (.putfield 148, 3) := by decide +kernel
theorem dX8_errorPosition_10 : decode cX8_errorPosition 10 = .ok (.aload_n 0, 1) := by decide +kernel
theorem dX8_errorPosition_11 : decode cX8_errorPosition 11 = .ok (.sipush (-10006), 3) := by decide +kernel
theorem dX8_errorPosition_14 : decode cX8_errorPosition 14 = .ok (.putfield 151, 3) := by decide +kernel
theorem dX8_errorPosition_17 : decode cX8_errorPosition 17 = .ok (.iconst 1, 1) := by decide +kernel
theorem dX8_errorPosition_18 : decode cX8_errorPosition 18 = .ok (.istore_n 1, 1) := by decide +kernel
theorem dX8_errorPosition_19 : decode cX8_errorPosition 19 = .ok (.iload_n 1, 1) := by decide +kernel
theorem dX8_errorPosition_20 : decode cX8_errorPosition 20 = .ok (.ifCond .eq 75, 3) := by decide +kernel
theorem dX8_errorPosition_23 : decode cX8_errorPosition 23 = .ok (.aload_n 0, 1) := by decide +kernel
theorem dX8_errorPosition_24 : decode cX8_errorPosition 24 = .ok (.invokevirtual 164, 3) := by decide +kernel
theorem dX8_errorPosition_27 : decode cX8_errorPosition 27 = .ok (.aload_n 0, 1) := by decide +kernel
theorem dX8_errorPosition_28 : decode cX8_errorPosition 28 = .ok (.getfield 151, 3) := by decide +kernel
theorem dX8_errorPosition_31 : decode cX8_errorPosition 31 = .ok (.sipush (-10006), 3) := by decide +kernel
theorem dX8_errorPosition_34 : decode cX8_errorPosition 34 = .ok (.if_icmp .ne 18, 3) := by decide +kernel
theorem dX8_errorPosition_37 : decode cX8_errorPosition 37 = .ok (.aload_n 0, 1) := by decide +kernel
theorem dX8_errorPosition_38 : decode cX8_errorPosition 38 = .ok (.getfield 148, 3) := by decide +kernel
theorem dX8_errorPosition_41 : decode cX8_errorPosition 41 = .ok (.aload_n 0, 1) := by decide +kernel
theorem dX8_errorPosition_42 : decode cX8_errorPosition 42 = .ok (.getfield 145, 3) := by decide +kernel
theorem dX8_errorPosition_45 : decode cX8_errorPosition 45 = .ok (.if_icmp .ge 7, 3) := by decide +kernel
theorem dX8_errorPosition_48 : decode cX8_errorPosition 48 = .ok (.iconst 1, 1) := by decide +kernel
theorem dX8_errorPosition_49 : decode cX8_errorPosition 49 = .ok (.goto 4, 3) := by decide +kernel
theorem dX8_errorPosition_52 : decode cX8_errorPosition 52 = .ok (.iconst 0, 1) := by decide +kernel
theorem dX8_errorPosition_53 : decode cX8_errorPosition 53 = .ok (.istore_n 1, 1) := by decide +kernel
theorem dX8_errorPosition_54 : decode cX8_errorPosition 54 = .ok (.iload_n 1, 1) := by decide +kernel
theorem dX8_errorPosition_55 : decode cX8_errorPosition 55 = .ok (.ifCond .eq (-36), 3) := by decide +kernel
theorem dX8_errorPosition_58 : decode cX8_errorPosition 58 = .ok (.aload_n 0, 1) := by decide +kernel
theorem dX8_errorPosition_59 : decode cX8_errorPosition 59 = .ok (.aload_n 0, 1) := by decide +kernel
theorem dX8_errorPosition_60 : decode cX8_errorPosition 60 = .ok (.invokevirtual 154, 3) := by decide +kernel
theorem dX8_errorPosition_63 : decode cX8_errorPosition 63 = .ok (.bipush 44, 2) := by decide +kernel
theorem dX8_errorPosition_65 : decode cX8_errorPosition 65 = .ok (.if_icmp .ne 7, 3) := by decide +kernel
theorem dX8_errorPosition_68 : decode cX8_errorPosition 68 = .ok (.iconst 1, 1) := by decide +kernel
theorem dX8_errorPosition_69 : decode cX8_errorPosition 69 = .ok (.goto 4, 3) := by decide +kernel
theorem dX8_errorPosition_72 : decode cX8_errorPosition 72 = .ok (.iconst 0, 1) := by decide +kernel
theorem dX8_errorPosition_73 : decode cX8_errorPosition 73 = .ok (.invokevirtual 157, 3) := by decide +kernel
theorem dX8_errorPosition_76 : decode cX8_errorPosition 76 = .ok (.aload_n 0, 1) := by decide +kernel
theorem dX8_errorPosition_77 : decode cX8_errorPosition 77 = .ok (.getfield 151, 3) := by decide +kernel
theorem dX8_errorPosition_80 : decode cX8_errorPosition 80 = .ok (.sipush (-10006), 3) := by decide +kernel
theorem dX8_errorPosition_83 : decode cX8_errorPosition 83 = .ok (.if_icmp .ne 7, 3) := by decide +kernel
theorem dX8_errorPosition_86 : decode cX8_errorPosition 86 = .ok (.iconst 1, 1) := by decide +kernel
theorem dX8_errorPosition_87 : decode cX8_errorPosition 87 = .ok (.goto 4, 3) := by decide +kernel
theorem dX8_errorPosition_90 : decode cX8_errorPosition 90 = .ok (.iconst 0, 1) := by decide +kernel
theorem dX8_errorPosition_91 : decode cX8_errorPosition 91 = .ok (.istore_n 1, 1) := by decide +kernel
theorem dX8_errorPosition_92 : decode cX8_errorPosition 92 = .ok (.goto (-73), 3) := by decide +kernel
theorem dX8_errorPosition_95 : decode cX8_errorPosition 95 = .ok (.aload_n 0, 1) := by decide +kernel
theorem dX8_errorPosition_96 : decode cX8_errorPosition 96 = .ok (.getfield 151, 3) := by decide +kernel
theorem dX8_errorPosition_99 : decode cX8_errorPosition 99 = .ok (.ireturn, 1) := by decide +kernel
theorem dX8_makeOne_0 : decode cX8_makeOne 0 = .ok (.aload_n 0, 1) := by decide +kernel
theorem dX8_makeOne_1 : decode cX8_makeOne 1 = .ok (.getfield 23, 3) := by decide +kernel
theorem dX8_makeOne_4 : decode cX8_makeOne 4 = .ok (.iload_n 1, 1) := by decide +kernel
theorem dX8_makeOne_5 : decode cX8_makeOne 5 = .ok (.iconst 1, 1) := by decide +kernel
theorem dX8_makeOne_6 : decode cX8_makeOne 6 = .ok (.iadd, 1) := by decide +kernel
theorem dX8_makeOne_7 : decode cX8_makeOne 7 = .ok (.iaload, 1) := by decide +kernel
theorem dX8_makeOne_8 : decode cX8_makeOne 8 = .ok (.istore_n 2, 1) := by decide +kernel
theorem dX8_makeOne_9 : decode cX8_makeOne 9 = .ok (.aload_n 0, 1) := by decide +kernel
theorem dX8_makeOne_10 : decode cX8_makeOne 10 = .ok (.getfield 23, 3) := by decide +kernel
theorem dX8_makeOne_13 : decode cX8_makeOne 13 = .ok (.iload_n 1, 1) := by decide +kernel
theorem dX8_makeOne_14 : decode cX8_makeOne 14 = .ok (.iconst 2, 1) := by decide +kernel
theorem dX8_makeOne_15 : decode cX8_makeOne 15 = .ok (.iadd, 1) := by decide +kernel
theorem dX8_makeOne_16 : decode cX8_makeOne 16 = .ok (.iaload, 1) := by decide +kernel
theorem dX8_makeOne_17 : decode cX8_makeOne 17 = .ok (.istore_n 3, 1) := by decide +kernel
theorem dX8_makeOne_18 : decode cX8_makeOne 18 = .ok (.iconst 0, 1) := by decide +kernel
theorem dX8_makeOne_19 : decode cX8_makeOne 19 = .ok (.istore 4, 2) := by decide +kernel
theorem dX8_makeOne_21 : decode cX8_makeOne 21 = .ok (.aload_n 0, 1) := by decide +kernel
theorem dX8_makeOne_22 : decode cX8_makeOne 22 = .ok (.getfield 23, 3) := by decide +kernel
theorem dX8_makeOne_25 : decode cX8_makeOne 25 = .ok (.iload_n 1, 1) := by decide +kernel
theorem dX8_makeOne_26 : decode cX8_makeOne 26 = .ok (.iaload, 1) := by decide +kernel
theorem dX8_makeOne_27 : decode cX8_makeOne 27 = .ok (.tableswitch 140 98 104 #[63, 96, 119, 140, 140, 140, 41], 41) := by decide +kernel
theorem dX8_makeOne_68 : decode cX8_makeOne 68 = .ok (.aload_n 0, 1) := by decide +kernel
theorem dX8_makeOne_69 : decode cX8_makeOne 69 = .ok (.iload_n 2, 1) := by decide +kernel
theorem dX8_makeOne_70 : decode cX8_makeOne 70 = .ok (.iload_n 3, 1) := by decide +kernel
theorem dX8_makeOne_71 : decode cX8_makeOne 71 = .ok (.invokevirtual 86, 3) := by decide +kernel
theorem dX8_makeOne_74 : decode cX8_makeOne 74 = .ok (.istore 4, 2) := by decide +kernel
theorem dX8_makeOne_76 : decode cX8_makeOne 76 = .ok (.iload 4, 2) := by decide +kernel
theorem dX8_makeOne_78 : decode cX8_makeOne 78 = .ok (.ifCond .ne 135, 3) := by decide +kernel
theorem dX8_makeOne_81 : decode cX8_makeOne 81 = .ok (.aload_n 0, 1) := by decide +kernel
theorem dX8_makeOne_82 : decode cX8_makeOne 82 = .ok (.iload_n 2, 1) := by decide +kernel
theorem dX8_makeOne_83 : decode cX8_makeOne 83 = .ok (.iload_n 3, 1) := by decide +kernel
theorem dX8_makeOne_84 : decode cX8_makeOne 84 = .ok (.invokevirtual 49, 3) := by decide +kernel
theorem dX8_makeOne_87 : decode cX8_makeOne 87 = .ok (.goto 126, 3) := by decide +kernel
theorem dX8_makeOne_90 : decode cX8_makeOne 90 = .ok (.aload_n 0, 1) := by decide +kernel
theorem dX8_makeOne_91 : decode cX8_makeOne 91 = .ok (.getfield 7, 3) := by decide +kernel
theorem dX8_makeOne_94 : decode cX8_makeOne 94 = .ok (.bipush 6, 2) := by decide +kernel
theorem dX8_makeOne_96 : decode cX8_makeOne 96 = .ok (.iaload, 1) := by decide +kernel
theorem dX8_makeOne_97 : decode cX8_makeOne 97 = .ok (.iconst 1, 1) := by decide +kernel
theorem dX8_makeOne_98 : decode cX8_makeOne 98 = .ok (.if_icmp .ne 7, 3) := by decide +kernel
theorem dX8_makeOne_101 : decode cX8_makeOne 101 = .ok (.iconst 0, 1) := by decide +kernel
theorem dX8_makeOne_102 : decode cX8_makeOne 102 = .ok (.goto 6, 3) := by decide +kernel
theorem dX8_makeOne_105 : decode cX8_makeOne 105 = .ok (.sipush (-10003), 3) := by decide +kernel
theorem dX8_makeOne_108 : decode cX8_makeOne 108 = .ok (.istore 4, 2) := by decide +kernel
theorem dX8_makeOne_110 : decode cX8_makeOne 110 = .ok (.iload 4, 2) := by decide +kernel
theorem dX8_makeOne_112 : decode cX8_makeOne 112 = .ok (.ifCond .ne 101, 3) := by decide +kernel
theorem dX8_makeOne_115 : decode cX8_makeOne 115 = .ok (.aload_n 0, 1) := by decide +kernel
theorem dX8_makeOne_116 : decode cX8_makeOne 116 = .ok (.invokevirtual 99, 3) := by decide +kernel
theorem dX8_makeOne_119 : decode cX8_makeOne 119 = .ok (.pop, 1) := by decide +kernel
theorem dX8_makeOne_120 : decode cX8_makeOne 120 = .ok (.goto 93, 3) := by decide +kernel
theorem dX8_makeOne_123 : decode cX8_makeOne 123 = .ok (.aload_n 0, 1) := by decide +kernel
theorem dX8_makeOne_124 : decode cX8_makeOne 124 = .ok (.iload_n 2, 1) := by decide +kernel
theorem dX8_makeOne_125 : decode cX8_makeOne 125 = .ok (.iload_n 3, 1) := by decide +kernel
theorem dX8_makeOne_126 : decode cX8_makeOne 126 = .ok (.invokevirtual 112, 3) := by decide +kernel
theorem dX8_makeOne_129 : decode cX8_makeOne 129 = .ok (.istore 4, 2) := by decide +kernel
theorem dX8_makeOne_131 : decode cX8_makeOne 131 = .ok (.iload 4, 2) := by decide +kernel
theorem dX8_makeOne_133 : decode cX8_makeOne 133 = .ok (.ifCond .ne 80, 3) := by decide +kernel
theorem dX8_makeOne_136 : decode cX8_makeOne 136 = .ok (.aload_n 0, 1) := by decide +kernel
theorem dX8_makeOne_137 : decode cX8_makeOne 137 = .ok (.iload_n 2, 1) := by decide +kernel
theorem dX8_makeOne_138 : decode cX8_makeOne 138 = .ok (.iload_n 3, 1) := by decide +kernel
theorem dX8_makeOne_139 : decode cX8_makeOne 139 = .ok (.invokevirtual 115, 3) := by decide +kernel
theorem dX8_makeOne_142 : decode cX8_makeOne 142 = .ok (.pop, 1) := by decide +kernel
theorem dX8_makeOne_143 : decode cX8_makeOne 143 = .ok (.goto 70, 3) := by decide +kernel
theorem dX8_makeOne_146 : decode cX8_makeOne 146 = .ok (.aload_n 0, 1) := by decide +kernel
theorem dX8_makeOne_147 : decode cX8_makeOne 147 = .ok (.iload_n 2, 1) := by decide +kernel
theorem dX8_makeOne_148 : decode cX8_makeOne 148 = .ok (.invokevirtual 121, 3) := by decide +kernel
theorem dX8_makeOne_151 : decode cX8_makeOne 151 = .ok (.istore 4, 2) := by decide +kernel
theorem dX8_makeOne_153 : decode cX8_makeOne 153 = .ok (.iload 4, 2) := by decide +kernel
theorem dX8_makeOne_155 : decode cX8_makeOne 155 = .ok (.ifCond .ne 58, 3) := by decide +kernel
theorem dX8_makeOne_158 : decode cX8_makeOne 158 = .ok (.aload_n 0, 1) := by decide +kernel
theorem dX8_makeOne_159 : decode cX8_makeOne 159 = .ok (.iload_n 2, 1) := by decide +kernel
theorem dX8_makeOne_160 : decode cX8_makeOne 160 = .ok (.invokevirtual 124, 3) := by decide +kernel
theorem dX8_makeOne_163 : decode cX8_makeOne 163 = .ok (.pop, 1) := by decide +kernel
theorem dX8_makeOne_164 : decode cX8_makeOne 164 = .ok (.goto 49, 3) := by decide +kernel
theorem dX8_makeOne_167 : decode cX8_makeOne 167 = .ok (.aload_n 0, 1) := by decide +kernel
theorem dX8_makeOne_168 : decode cX8_makeOne 168 = .ok (.getfield 7, 3) := by decide +kernel
theorem dX8_makeOne_171 : decode cX8_makeOne 171 = .ok (.bipush 6, 2) := by decide +kernel
theorem dX8_makeOne_173 : decode cX8_makeOne 173 = .ok (.iaload, 1) := by decide +kernel
theorem dX8_makeOne_174 : decode cX8_makeOne 174 = .ok (.iconst 2, 1) := by decide +kernel
theorem dX8_makeOne_175 : decode cX8_makeOne 175 = .ok (.if_icmp .ne 7, 3) := by decide +kernel
theorem dX8_makeOne_178 : decode cX8_makeOne 178 = .ok (.iconst 0, 1) := by decide +kernel
theorem dX8_makeOne_179 : decode cX8_makeOne 179 = .ok (.goto 6, 3) := by decide +kernel
theorem dX8_makeOne_182 : decode cX8_makeOne 182 = .ok (.sipush (-10003), 3) := by decide +kernel
theorem dX8_makeOne_185 : decode cX8_makeOne 185 = .ok (.istore 4, 2) := by decide +kernel
theorem dX8_makeOne_187 : decode cX8_makeOne 187 = .ok (.iload 4, 2) := by decide +kernel
theorem dX8_makeOne_189 : decode cX8_makeOne 189 = .ok (.ifCond .ne 24, 3) := by decide +kernel
theorem dX8_makeOne_192 : decode cX8_makeOne 192 = .ok (.aload_n 0, 1) := by decide +kernel
theorem dX8_makeOne_193 : decode cX8_makeOne 193 = .ok (.aload_n 0, 1) := by decide +kernel
theorem dX8_makeOne_194 : decode cX8_makeOne 194 = .ok (.getfield 23, 3) := by decide +kernel
theorem dX8_makeOne_197 : decode cX8_makeOne 197 = .ok (.iload_n 1, 1) := by decide +kernel
theorem dX8_makeOne_198 : decode cX8_makeOne 198 = .ok (.iaload, 1) := by decide +kernel
theorem dX8_makeOne_199 : decode cX8_makeOne 199 = .ok (.bipush 43, 2) := by decide +kernel
theorem dX8_makeOne_201 : decode cX8_makeOne 201 = .ok (.if_icmp .ne 7, 3) := by decide +kernel
theorem dX8_makeOne_204 : decode cX8_makeOne 204 = .ok (.iconst 1, 1) := by decide +kernel
theorem dX8_makeOne_205 : decode cX8_makeOne 205 = .ok (.goto 4, 3) := by decide +kernel
theorem dX8_makeOne_208 : decode cX8_makeOne 208 = .ok (.iconst (-1), 1) := by decide +kernel
theorem dX8_makeOne_209 : decode cX8_makeOne 209 = .ok (.invokevirtual 102, 3) := by decide +kernel
theorem dX8_makeOne_212 : decode cX8_makeOne 212 = .ok (.pop, 1) := by decide +kernel
theorem dX8_makeOne_213 : decode cX8_makeOne 213 = .ok (.iload 4, 2) := by decide +kernel
theorem dX8_makeOne_215 : decode cX8_makeOne 215 = .ok (.ireturn, 1) := by decide +kernel
theorem dX8_play_0 : decode cX8_play 0 = .ok (.aload_n 0, 1) := by decide +kernel
theorem dX8_play_1 : decode cX8_play 1 = .ok (.invokevirtual 167, 3) := by decide +kernel
theorem dX8_play_4 : decode cX8_play 4 = .ok (.sipush (-10006), 3) := by decide +kernel
theorem dX8_play_7 : decode cX8_play 7 = .ok (.if_icmp .eq 7, 3) := by decide +kernel
theorem dX8_play_10 : decode cX8_play 10 = .ok (.sipush (-10005), 3) := by decide +kernel
theorem dX8_play_13 : decode cX8_play 13 = .ok (.ireturn, 1) := by decide +kernel
theorem dX8_play_14 : decode cX8_play 14 = .ok (.aload_n 0, 1) := by decide +kernel
theorem dX8_play_15 : decode cX8_play 15 = .ok (.invokevirtual 42, 3) := by decide +kernel
theorem dX8_play_18 : decode cX8_play 18 = .ok (.iconst 0, 1) := by decide +kernel
theorem dX8_play_19 : decode cX8_play 19 = .ok (.istore_n 1, 1) := by decide +kernel
theorem dX8_play_20 : decode cX8_play 20 = .ok (.iload_n 1, 1) := by decide +kernel
theorem dX8_play_21 : decode cX8_play 21 = .ok (.aload_n 0, 1) := by decide +kernel
theorem dX8_play_22 : decode cX8_play 22 = .ok (.getfield 161, 3) := by decide +kernel
theorem dX8_play_25 : decode cX8_play 25 = .ok (.if_icmp .ge 19, 3) := by decide +kernel
theorem dX8_play_28 : decode cX8_play 28 = .ok (.aload_n 0, 1) := by decide +kernel
theorem dX8_play_29 : decode cX8_play 29 = .ok (.iconst 3, 1) := by decide +kernel
theorem dX8_play_30 : decode cX8_play 30 = .ok (.iload_n 1, 1) := by decide +kernel
theorem dX8_play_31 : decode cX8_play 31 = .ok (.imul, 1) := by decide +kernel
theorem dX8_play_32 : decode cX8_play 32 = .ok (.invokevirtual 170, 3) := by decide +kernel
theorem dX8_play_35 : decode cX8_play 35 = .ok (.ifCond .ne 9, 3) := by decide +kernel
theorem dX8_play_38 : decode cX8_play 38 = .ok (.iinc 1 1, 3) := by decide +kernel
theorem dX8_play_41 : decode cX8_play 41 = .ok (.goto (-21), 3) := by decide +kernel
theorem dX8_play_44 : decode cX8_play 44 = .ok (.aload_n 0, 1) := by decide +kernel
theorem dX8_play_45 : decode cX8_play 45 = .ok (.iconst 0, 1) := by decide +kernel
theorem dX8_play_46 : decode cX8_play 46 = .ok (.putfield 145, 3) := by decide +kernel
theorem dX8_play_49 : decode cX8_play 49 = .ok (.iload_n 1, 1) := by decide +kernel
theorem dX8_play_50 : decode cX8_play 50 = .ok (.ireturn, 1) := by decide +kernel
