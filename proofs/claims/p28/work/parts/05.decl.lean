theorem dL_cell_0 : decode cL_cell 0 = .ok (.iload_n 1, 1) := by decide +kernel
theorem dL_cell_1 : decode cL_cell 1 = .ok (.aload_n 0, 1) := by decide +kernel
theorem dL_cell_2 : decode cL_cell 2 = .ok (.arraylength, 1) := by decide +kernel
theorem dL_cell_3 : decode cL_cell 3 = .ok (.if_icmp .ge 9, 3) := by decide +kernel
theorem dL_cell_6 : decode cL_cell 6 = .ok (.aload_n 0, 1) := by decide +kernel
theorem dL_cell_7 : decode cL_cell 7 = .ok (.iload_n 1, 1) := by decide +kernel
theorem dL_cell_8 : decode cL_cell 8 = .ok (.iaload, 1) := by decide +kernel
theorem dL_cell_9 : decode cL_cell 9 = .ok (.goto 10, 3) := by decide +kernel
theorem dL_cell_12 : decode cL_cell 12 = .ok (.ldc 7, 2) := by decide +kernel
theorem dL_cell_14 : decode cL_cell 14 = .ok (.iload_n 1, 1) := by decide +kernel
theorem dL_cell_15 : decode cL_cell 15 = .ok (.imul, 1) := by decide +kernel
theorem dL_cell_16 : decode cL_cell 16 = .ok (.ldc 8, 2) := by decide +kernel
theorem dL_cell_18 : decode cL_cell 18 = .ok (.iadd, 1) := by decide +kernel
theorem dL_cell_19 : decode cL_cell 19 = .ok (.ireturn, 1) := by decide +kernel
theorem dL_low_0 : decode cL_low 0 = .ok (.iload_n 0, 1) := by decide +kernel
theorem dL_low_1 : decode cL_low 1 = .ok (.ldc 9, 2) := by decide +kernel
theorem dL_low_3 : decode cL_low 3 = .ok (.iand, 1) := by decide +kernel
theorem dL_low_4 : decode cL_low 4 = .ok (.iload_n 1, 1) := by decide +kernel
theorem dL_low_5 : decode cL_low 5 = .ok (.irem, 1) := by decide +kernel
theorem dL_low_6 : decode cL_low 6 = .ok (.ireturn, 1) := by decide +kernel
theorem dL_apart_0 : decode cL_apart 0 = .ok (.iconst 0, 1) := by decide +kernel
theorem dL_apart_1 : decode cL_apart 1 = .ok (.istore_n 2, 1) := by decide +kernel
theorem dL_apart_2 : decode cL_apart 2 = .ok (.iload_n 0, 1) := by decide +kernel
theorem dL_apart_3 : decode cL_apart 3 = .ok (.iload_n 2, 1) := by decide +kernel
theorem dL_apart_4 : decode cL_apart 4 = .ok (.iadd, 1) := by decide +kernel
theorem dL_apart_5 : decode cL_apart 5 = .ok (.bipush 16, 2) := by decide +kernel
theorem dL_apart_7 : decode cL_apart 7 = .ok (.irem, 1) := by decide +kernel
theorem dL_apart_8 : decode cL_apart 8 = .ok (.iload_n 1, 1) := by decide +kernel
theorem dL_apart_9 : decode cL_apart 9 = .ok (.if_icmp .eq 9, 3) := by decide +kernel
theorem dL_apart_12 : decode cL_apart 12 = .ok (.iinc 2 1, 3) := by decide +kernel
theorem dL_apart_15 : decode cL_apart 15 = .ok (.goto (-13), 3) := by decide +kernel
theorem dL_apart_18 : decode cL_apart 18 = .ok (.iload_n 2, 1) := by decide +kernel
theorem dL_apart_19 : decode cL_apart 19 = .ok (.bipush 16, 2) := by decide +kernel
theorem dL_apart_21 : decode cL_apart 21 = .ok (.iload_n 2, 1) := by decide +kernel
theorem dL_apart_22 : decode cL_apart 22 = .ok (.isub, 1) := by decide +kernel
theorem dL_apart_23 : decode cL_apart 23 = .ok (.if_icmp .ge 7, 3) := by decide +kernel
theorem dL_apart_26 : decode cL_apart 26 = .ok (.iload_n 2, 1) := by decide +kernel
theorem dL_apart_27 : decode cL_apart 27 = .ok (.goto 7, 3) := by decide +kernel
theorem dL_apart_30 : decode cL_apart 30 = .ok (.bipush 16, 2) := by decide +kernel
theorem dL_apart_32 : decode cL_apart 32 = .ok (.iload_n 2, 1) := by decide +kernel
theorem dL_apart_33 : decode cL_apart 33 = .ok (.isub, 1) := by decide +kernel
theorem dL_apart_34 : decode cL_apart 34 = .ok (.ireturn, 1) := by decide +kernel
theorem dL_here_0 : decode cL_here 0 = .ok (.iconst 0, 1) := by decide +kernel
theorem dL_here_1 : decode cL_here 1 = .ok (.istore_n 2, 1) := by decide +kernel
theorem dL_here_2 : decode cL_here 2 = .ok (.iconst 0, 1) := by decide +kernel
theorem dL_here_3 : decode cL_here 3 = .ok (.istore_n 3, 1) := by decide +kernel
theorem dL_here_4 : decode cL_here 4 = .ok (.iload_n 3, 1) := by decide +kernel
theorem dL_here_5 : decode cL_here 5 = .ok (.bipush 8, 2) := by decide +kernel
theorem dL_here_7 : decode cL_here 7 = .ok (.if_icmp .ge 31, 3) := by decide +kernel
theorem dL_here_10 : decode cL_here 10 = .ok (.iload_n 2, 1) := by decide +kernel
theorem dL_here_11 : decode cL_here 11 = .ok (.aload_n 0, 1) := by decide +kernel
theorem dL_here_12 : decode cL_here 12 = .ok (.bipush 6, 2) := by decide +kernel
theorem dL_here_14 : decode cL_here 14 = .ok (.iload_n 3, 1) := by decide +kernel
theorem dL_here_15 : decode cL_here 15 = .ok (.imul, 1) := by decide +kernel
theorem dL_here_16 : decode cL_here 16 = .ok (.iconst 5, 1) := by decide +kernel
theorem dL_here_17 : decode cL_here 17 = .ok (.iadd, 1) := by decide +kernel
theorem dL_here_18 : decode cL_here 18 = .ok (.iaload, 1) := by decide +kernel
theorem dL_here_19 : decode cL_here 19 = .ok (.iload_n 1, 1) := by decide +kernel
theorem dL_here_20 : decode cL_here 20 = .ok (.if_icmp .ne 9, 3) := by decide +kernel
theorem dL_here_23 : decode cL_here 23 = .ok (.iconst 1, 1) := by decide +kernel
theorem dL_here_24 : decode cL_here 24 = .ok (.iload_n 3, 1) := by decide +kernel
theorem dL_here_25 : decode cL_here 25 = .ok (.ishl, 1) := by decide +kernel
theorem dL_here_26 : decode cL_here 26 = .ok (.goto 4, 3) := by decide +kernel
theorem dL_here_29 : decode cL_here 29 = .ok (.iconst 0, 1) := by decide +kernel
theorem dL_here_30 : decode cL_here 30 = .ok (.ior, 1) := by decide +kernel
theorem dL_here_31 : decode cL_here 31 = .ok (.istore_n 2, 1) := by decide +kernel
theorem dL_here_32 : decode cL_here 32 = .ok (.iinc 3 1, 3) := by decide +kernel
theorem dL_here_35 : decode cL_here 35 = .ok (.goto (-31), 3) := by decide +kernel
theorem dL_here_38 : decode cL_here 38 = .ok (.iload_n 2, 1) := by decide +kernel
theorem dL_here_39 : decode cL_here 39 = .ok (.ireturn, 1) := by decide +kernel
theorem dL_count_0 : decode cL_count 0 = .ok (.iconst 0, 1) := by decide +kernel
theorem dL_count_1 : decode cL_count 1 = .ok (.istore_n 1, 1) := by decide +kernel
theorem dL_count_2 : decode cL_count 2 = .ok (.iload_n 0, 1) := by decide +kernel
theorem dL_count_3 : decode cL_count 3 = .ok (.istore_n 2, 1) := by decide +kernel
theorem dL_count_4 : decode cL_count 4 = .ok (.iload_n 2, 1) := by decide +kernel
theorem dL_count_5 : decode cL_count 5 = .ok (.ifCond .le 16, 3) := by decide +kernel
theorem dL_count_8 : decode cL_count 8 = .ok (.iload_n 1, 1) := by decide +kernel
theorem dL_count_9 : decode cL_count 9 = .ok (.iload_n 2, 1) := by decide +kernel
theorem dL_count_10 : decode cL_count 10 = .ok (.iconst 2, 1) := by decide +kernel
theorem dL_count_11 : decode cL_count 11 = .ok (.irem, 1) := by decide +kernel
theorem dL_count_12 : decode cL_count 12 = .ok (.iadd, 1) := by decide +kernel
theorem dL_count_13 : decode cL_count 13 = .ok (.istore_n 1, 1) := by decide +kernel
theorem dL_count_14 : decode cL_count 14 = .ok (.iload_n 2, 1) := by decide +kernel
theorem dL_count_15 : decode cL_count 15 = .ok (.iconst 2, 1) := by decide +kernel
theorem dL_count_16 : decode cL_count 16 = .ok (.idiv, 1) := by decide +kernel
theorem dL_count_17 : decode cL_count 17 = .ok (.istore_n 2, 1) := by decide +kernel
theorem dL_count_18 : decode cL_count 18 = .ok (.goto (-14), 3) := by decide +kernel
theorem dL_count_21 : decode cL_count 21 = .ok (.iload_n 1, 1) := by decide +kernel
theorem dL_count_22 : decode cL_count 22 = .ok (.ireturn, 1) := by decide +kernel
theorem dL_hidden_0 : decode cL_hidden 0 = .ok (.iconst 0, 1) := by decide +kernel
theorem dL_hidden_1 : decode cL_hidden 1 = .ok (.istore_n 1, 1) := by decide +kernel
theorem dL_hidden_2 : decode cL_hidden 2 = .ok (.iconst 0, 1) := by decide +kernel
theorem dL_hidden_3 : decode cL_hidden 3 = .ok (.istore_n 2, 1) := by decide +kernel
theorem dL_hidden_4 : decode cL_hidden 4 = .ok (.iload_n 2, 1) := by decide +kernel
theorem dL_hidden_5 : decode cL_hidden 5 = .ok (.bipush 8, 2) := by decide +kernel
theorem dL_hidden_7 : decode cL_hidden 7 = .ok (.if_icmp .ge 28, 3) := by decide +kernel
theorem dL_hidden_10 : decode cL_hidden 10 = .ok (.iload_n 1, 1) := by decide +kernel
theorem dL_hidden_11 : decode cL_hidden 11 = .ok (.aload_n 0, 1) := by decide +kernel
theorem dL_hidden_12 : decode cL_hidden 12 = .ok (.bipush 6, 2) := by decide +kernel
theorem dL_hidden_14 : decode cL_hidden 14 = .ok (.iload_n 2, 1) := by decide +kernel
theorem dL_hidden_15 : decode cL_hidden 15 = .ok (.imul, 1) := by decide +kernel
theorem dL_hidden_16 : decode cL_hidden 16 = .ok (.iconst 5, 1) := by decide +kernel
theorem dL_hidden_17 : decode cL_hidden 17 = .ok (.iadd, 1) := by decide +kernel
theorem dL_hidden_18 : decode cL_hidden 18 = .ok (.iaload, 1) := by decide +kernel
theorem dL_hidden_19 : decode cL_hidden 19 = .ok (.ifCond .le 7, 3) := by decide +kernel
theorem dL_hidden_22 : decode cL_hidden 22 = .ok (.iconst 1, 1) := by decide +kernel
theorem dL_hidden_23 : decode cL_hidden 23 = .ok (.goto 4, 3) := by decide +kernel
theorem dL_hidden_26 : decode cL_hidden 26 = .ok (.iconst 0, 1) := by decide +kernel
theorem dL_hidden_27 : decode cL_hidden 27 = .ok (.iadd, 1) := by decide +kernel
theorem dL_hidden_28 : decode cL_hidden 28 = .ok (.istore_n 1, 1) := by decide +kernel
theorem dL_hidden_29 : decode cL_hidden 29 = .ok (.iinc 2 1, 3) := by decide +kernel
theorem dL_hidden_32 : decode cL_hidden 32 = .ok (.goto (-28), 3) := by decide +kernel
theorem dL_hidden_35 : decode cL_hidden 35 = .ok (.iload_n 1, 1) := by decide +kernel
theorem dL_hidden_36 : decode cL_hidden 36 = .ok (.ireturn, 1) := by decide +kernel
theorem dL_good_0 : decode cL_good 0 = .ok (.iload_n 2, 1) := by decide +kernel
theorem dL_good_1 : decode cL_good 1 = .ok (.ifCond .eq 27, 3) := by decide +kernel
theorem dL_good_4 : decode cL_good 4 = .ok (.iconst 0, 1) := by decide +kernel
theorem dL_good_5 : decode cL_good 5 = .ok (.iload_n 2, 1) := by decide +kernel
theorem dL_good_6 : decode cL_good 6 = .ok (.invokestatic 10, 3) := by decide +kernel
theorem dL_good_9 : decode cL_good 9 = .ok (.aload_n 1, 1) := by decide +kernel
theorem dL_good_10 : decode cL_good 10 = .ok (.bipush 8, 2) := by decide +kernel
theorem dL_good_12 : decode cL_good 12 = .ok (.iaload, 1) := by decide +kernel
theorem dL_good_13 : decode cL_good 13 = .ok (.if_icmp .gt 15, 3) := by decide +kernel
theorem dL_good_16 : decode cL_good 16 = .ok (.aload_n 0, 1) := by decide +kernel
theorem dL_good_17 : decode cL_good 17 = .ok (.iconst 2, 1) := by decide +kernel
theorem dL_good_18 : decode cL_good 18 = .ok (.iload_n 2, 1) := by decide +kernel
theorem dL_good_19 : decode cL_good 19 = .ok (.imul, 1) := by decide +kernel
theorem dL_good_20 : decode cL_good 20 = .ok (.iaload, 1) := by decide +kernel
theorem dL_good_21 : decode cL_good 21 = .ok (.ifCond .ne 7, 3) := by decide +kernel
theorem dL_good_24 : decode cL_good 24 = .ok (.iconst 1, 1) := by decide +kernel
theorem dL_good_25 : decode cL_good 25 = .ok (.goto 4, 3) := by decide +kernel
theorem dL_good_28 : decode cL_good 28 = .ok (.iconst 0, 1) := by decide +kernel
theorem dL_good_29 : decode cL_good 29 = .ok (.ireturn, 1) := by decide +kernel
theorem dL_end_0 : decode cL_end 0 = .ok (.aload_n 3, 1) := by decide +kernel
theorem dL_end_1 : decode cL_end 1 = .ok (.iconst 5, 1) := by decide +kernel
theorem dL_end_2 : decode cL_end 2 = .ok (.dup2, 1) := by decide +kernel
theorem dL_end_3 : decode cL_end 3 = .ok (.iaload, 1) := by decide +kernel
theorem dL_end_4 : decode cL_end 4 = .ok (.iconst 1, 1) := by decide +kernel
theorem dL_end_5 : decode cL_end 5 = .ok (.iadd, 1) := by decide +kernel
theorem dL_end_6 : decode cL_end 6 = .ok (.iastore, 1) := by decide +kernel
theorem dL_end_7 : decode cL_end 7 = .ok (.aload_n 3, 1) := by decide +kernel
theorem dL_end_8 : decode cL_end 8 = .ok (.bipush 6, 2) := by decide +kernel
theorem dL_end_10 : decode cL_end 10 = .ok (.iconst 0, 1) := by decide +kernel
theorem dL_end_11 : decode cL_end 11 = .ok (.iastore, 1) := by decide +kernel
theorem dL_end_12 : decode cL_end 12 = .ok (.aload_n 3, 1) := by decide +kernel
theorem dL_end_13 : decode cL_end 13 = .ok (.bipush 10, 2) := by decide +kernel
theorem dL_end_15 : decode cL_end 15 = .ok (.iconst 0, 1) := by decide +kernel
theorem dL_end_16 : decode cL_end 16 = .ok (.iastore, 1) := by decide +kernel
theorem dL_end_17 : decode cL_end 17 = .ok (.iconst 0, 1) := by decide +kernel
theorem dL_end_18 : decode cL_end 18 = .ok (.istore 4, 2) := by decide +kernel
theorem dL_end_20 : decode cL_end 20 = .ok (.iload 4, 2) := by decide +kernel
theorem dL_end_22 : decode cL_end 22 = .ok (.bipush 8, 2) := by decide +kernel
theorem dL_end_24 : decode cL_end 24 = .ok (.if_icmp .ge 19, 3) := by decide +kernel
theorem dL_end_27 : decode cL_end 27 = .ok (.aload_n 0, 1) := by decide +kernel
theorem dL_end_28 : decode cL_end 28 = .ok (.bipush 6, 2) := by decide +kernel
theorem dL_end_30 : decode cL_end 30 = .ok (.iload 4, 2) := by decide +kernel
theorem dL_end_32 : decode cL_end 32 = .ok (.imul, 1) := by decide +kernel
theorem dL_end_33 : decode cL_end 33 = .ok (.iconst 5, 1) := by decide +kernel
theorem dL_end_34 : decode cL_end 34 = .ok (.iadd, 1) := by decide +kernel
theorem dL_end_35 : decode cL_end 35 = .ok (.iconst (-1), 1) := by decide +kernel
theorem dL_end_36 : decode cL_end 36 = .ok (.iastore, 1) := by decide +kernel
theorem dL_end_37 : decode cL_end 37 = .ok (.iinc 4 1, 3) := by decide +kernel
theorem dL_end_40 : decode cL_end 40 = .ok (.goto (-20), 3) := by decide +kernel
theorem dL_end_43 : decode cL_end 43 = .ok (.iconst 0, 1) := by decide +kernel
theorem dL_end_44 : decode cL_end 44 = .ok (.istore 4, 2) := by decide +kernel
theorem dL_end_46 : decode cL_end 46 = .ok (.iload 4, 2) := by decide +kernel
theorem dL_end_48 : decode cL_end 48 = .ok (.bipush 16, 2) := by decide +kernel
theorem dL_end_50 : decode cL_end 50 = .ok (.if_icmp .ge 77, 3) := by decide +kernel
theorem dL_end_53 : decode cL_end 53 = .ok (.aload_n 2, 1) := by decide +kernel
theorem dL_end_54 : decode cL_end 54 = .ok (.iconst 2, 1) := by decide +kernel
theorem dL_end_55 : decode cL_end 55 = .ok (.iload 4, 2) := by decide +kernel
theorem dL_end_57 : decode cL_end 57 = .ok (.imul, 1) := by decide +kernel
theorem dL_end_58 : decode cL_end 58 = .ok (.iconst 1, 1) := by decide +kernel
theorem dL_end_59 : decode cL_end 59 = .ok (.iadd, 1) := by decide +kernel
theorem dL_end_60 : decode cL_end 60 = .ok (.dup2, 1) := by decide +kernel
theorem dL_end_61 : decode cL_end 61 = .ok (.iaload, 1) := by decide +kernel
theorem dL_end_62 : decode cL_end 62 = .ok (.aload_n 2, 1) := by decide +kernel
theorem dL_end_63 : decode cL_end 63 = .ok (.iconst 2, 1) := by decide +kernel
theorem dL_end_64 : decode cL_end 64 = .ok (.iload 4, 2) := by decide +kernel
theorem dL_end_66 : decode cL_end 66 = .ok (.imul, 1) := by decide +kernel
theorem dL_end_67 : decode cL_end 67 = .ok (.iaload, 1) := by decide +kernel
theorem dL_end_68 : decode cL_end 68 = .ok (.iadd, 1) := by decide +kernel
theorem dL_end_69 : decode cL_end 69 = .ok (.iastore, 1) := by decide +kernel
theorem dL_end_70 : decode cL_end 70 = .ok (.aload_n 2, 1) := by decide +kernel
theorem dL_end_71 : decode cL_end 71 = .ok (.iconst 2, 1) := by decide +kernel
theorem dL_end_72 : decode cL_end 72 = .ok (.iload 4, 2) := by decide +kernel
theorem dL_end_74 : decode cL_end 74 = .ok (.imul, 1) := by decide +kernel
theorem dL_end_75 : decode cL_end 75 = .ok (.iaload, 1) := by decide +kernel
theorem dL_end_76 : decode cL_end 76 = .ok (.iconst 1, 1) := by decide +kernel
theorem dL_end_77 : decode cL_end 77 = .ok (.if_icmp .ne 44, 3) := by decide +kernel
theorem dL_end_80 : decode cL_end 80 = .ok (.aload_n 3, 1) := by decide +kernel
theorem dL_end_81 : decode cL_end 81 = .ok (.iconst 2, 1) := by decide +kernel
theorem dL_end_82 : decode cL_end 82 = .ok (.iaload, 1) := by decide +kernel
theorem dL_end_83 : decode cL_end 83 = .ok (.ifCond .le 38, 3) := by decide +kernel
theorem dL_end_86 : decode cL_end 86 = .ok (.aload_n 2, 1) := by decide +kernel
theorem dL_end_87 : decode cL_end 87 = .ok (.iconst 2, 1) := by decide +kernel
theorem dL_end_88 : decode cL_end 88 = .ok (.iload 4, 2) := by decide +kernel
theorem dL_end_90 : decode cL_end 90 = .ok (.imul, 1) := by decide +kernel
theorem dL_end_91 : decode cL_end 91 = .ok (.iconst 1, 1) := by decide +kernel
theorem dL_end_92 : decode cL_end 92 = .ok (.iadd, 1) := by decide +kernel
theorem dL_end_93 : decode cL_end 93 = .ok (.iaload, 1) := by decide +kernel
theorem dL_end_94 : decode cL_end 94 = .ok (.aload_n 3, 1) := by decide +kernel
theorem dL_end_95 : decode cL_end 95 = .ok (.iconst 2, 1) := by decide +kernel
theorem dL_end_96 : decode cL_end 96 = .ok (.iaload, 1) := by decide +kernel
theorem dL_end_97 : decode cL_end 97 = .ok (.if_icmp .lt 24, 3) := by decide +kernel
theorem dL_end_100 : decode cL_end 100 = .ok (.aload_n 2, 1) := by decide +kernel
theorem dL_end_101 : decode cL_end 101 = .ok (.iconst 2, 1) := by decide +kernel
theorem dL_end_102 : decode cL_end 102 = .ok (.iload 4, 2) := by decide +kernel
theorem dL_end_104 : decode cL_end 104 = .ok (.imul, 1) := by decide +kernel
theorem dL_end_105 : decode cL_end 105 = .ok (.iconst 0, 1) := by decide +kernel
theorem dL_end_106 : decode cL_end 106 = .ok (.iastore, 1) := by decide +kernel
theorem dL_end_107 : decode cL_end 107 = .ok (.aload_n 2, 1) := by decide +kernel
theorem dL_end_108 : decode cL_end 108 = .ok (.iconst 2, 1) := by decide +kernel
theorem dL_end_109 : decode cL_end 109 = .ok (.iload 4, 2) := by decide +kernel
theorem dL_end_111 : decode cL_end 111 = .ok (.imul, 1) := by decide +kernel
theorem dL_end_112 : decode cL_end 112 = .ok (.iconst 1, 1) := by decide +kernel
theorem dL_end_113 : decode cL_end 113 = .ok (.iadd, 1) := by decide +kernel
theorem dL_end_114 : decode cL_end 114 = .ok (.iconst 0, 1) := by decide +kernel
theorem dL_end_115 : decode cL_end 115 = .ok (.iastore, 1) := by decide +kernel
theorem dL_end_116 : decode cL_end 116 = .ok (.aload_n 1, 1) := by decide +kernel
theorem dL_end_117 : decode cL_end 117 = .ok (.iload 4, 2) := by decide +kernel
theorem dL_end_119 : decode cL_end 119 = .ok (.iconst 0, 1) := by decide +kernel
theorem dL_end_120 : decode cL_end 120 = .ok (.iastore, 1) := by decide +kernel
theorem dL_end_121 : decode cL_end 121 = .ok (.iinc 4 1, 3) := by decide +kernel
theorem dL_end_124 : decode cL_end 124 = .ok (.goto (-78), 3) := by decide +kernel
theorem dL_end_127 : decode cL_end 127 = .ok (.return_, 1) := by decide +kernel
theorem dL_ahead_0 : decode cL_ahead 0 = .ok (.aload_n 0, 1) := by decide +kernel
theorem dL_ahead_1 : decode cL_ahead 1 = .ok (.bipush 6, 2) := by decide +kernel
theorem dL_ahead_3 : decode cL_ahead 3 = .ok (.iload_n 1, 1) := by decide +kernel
theorem dL_ahead_4 : decode cL_ahead 4 = .ok (.imul, 1) := by decide +kernel
theorem dL_ahead_5 : decode cL_ahead 5 = .ok (.iaload, 1) := by decide +kernel
theorem dL_ahead_6 : decode cL_ahead 6 = .ok (.aload_n 0, 1) := by decide +kernel
theorem dL_ahead_7 : decode cL_ahead 7 = .ok (.bipush 6, 2) := by decide +kernel
theorem dL_ahead_9 : decode cL_ahead 9 = .ok (.iload_n 2, 1) := by decide +kernel
theorem dL_ahead_10 : decode cL_ahead 10 = .ok (.imul, 1) := by decide +kernel
theorem dL_ahead_11 : decode cL_ahead 11 = .ok (.iaload, 1) := by decide +kernel
theorem dL_ahead_12 : decode cL_ahead 12 = .ok (.isub, 1) := by decide +kernel
theorem dL_ahead_13 : decode cL_ahead 13 = .ok (.istore_n 3, 1) := by decide +kernel
theorem dL_ahead_14 : decode cL_ahead 14 = .ok (.aload_n 0, 1) := by decide +kernel
theorem dL_ahead_15 : decode cL_ahead 15 = .ok (.bipush 6, 2) := by decide +kernel
theorem dL_ahead_17 : decode cL_ahead 17 = .ok (.iload_n 2, 1) := by decide +kernel
theorem dL_ahead_18 : decode cL_ahead 18 = .ok (.imul, 1) := by decide +kernel
theorem dL_ahead_19 : decode cL_ahead 19 = .ok (.iconst 3, 1) := by decide +kernel
theorem dL_ahead_20 : decode cL_ahead 20 = .ok (.iadd, 1) := by decide +kernel
theorem dL_ahead_21 : decode cL_ahead 21 = .ok (.iaload, 1) := by decide +kernel
theorem dL_ahead_22 : decode cL_ahead 22 = .ok (.aload_n 0, 1) := by decide +kernel
theorem dL_ahead_23 : decode cL_ahead 23 = .ok (.bipush 6, 2) := by decide +kernel
theorem dL_ahead_25 : decode cL_ahead 25 = .ok (.iload_n 1, 1) := by decide +kernel
theorem dL_ahead_26 : decode cL_ahead 26 = .ok (.imul, 1) := by decide +kernel
theorem dL_ahead_27 : decode cL_ahead 27 = .ok (.iconst 3, 1) := by decide +kernel
theorem dL_ahead_28 : decode cL_ahead 28 = .ok (.iadd, 1) := by decide +kernel
theorem dL_ahead_29 : decode cL_ahead 29 = .ok (.iaload, 1) := by decide +kernel
theorem dL_ahead_30 : decode cL_ahead 30 = .ok (.isub, 1) := by decide +kernel
theorem dL_ahead_31 : decode cL_ahead 31 = .ok (.istore 4, 2) := by decide +kernel
theorem dL_ahead_33 : decode cL_ahead 33 = .ok (.iload_n 3, 1) := by decide +kernel
theorem dL_ahead_34 : decode cL_ahead 34 = .ok (.ifCond .gt 22, 3) := by decide +kernel
theorem dL_ahead_37 : decode cL_ahead 37 = .ok (.iload_n 3, 1) := by decide +kernel
theorem dL_ahead_38 : decode cL_ahead 38 = .ok (.ifCond .ne 22, 3) := by decide +kernel
theorem dL_ahead_41 : decode cL_ahead 41 = .ok (.iload 4, 2) := by decide +kernel
theorem dL_ahead_43 : decode cL_ahead 43 = .ok (.ifCond .gt 13, 3) := by decide +kernel
theorem dL_ahead_46 : decode cL_ahead 46 = .ok (.iload 4, 2) := by decide +kernel
theorem dL_ahead_48 : decode cL_ahead 48 = .ok (.ifCond .ne 12, 3) := by decide +kernel
theorem dL_ahead_51 : decode cL_ahead 51 = .ok (.iload_n 1, 1) := by decide +kernel
theorem dL_ahead_52 : decode cL_ahead 52 = .ok (.iload_n 2, 1) := by decide +kernel
theorem dL_ahead_53 : decode cL_ahead 53 = .ok (.if_icmp .ge 7, 3) := by decide +kernel
theorem dL_ahead_56 : decode cL_ahead 56 = .ok (.iconst 1, 1) := by decide +kernel
theorem dL_ahead_57 : decode cL_ahead 57 = .ok (.goto 4, 3) := by decide +kernel
theorem dL_ahead_60 : decode cL_ahead 60 = .ok (.iconst 0, 1) := by decide +kernel
theorem dL_ahead_61 : decode cL_ahead 61 = .ok (.ireturn, 1) := by decide +kernel
theorem dL_steps_0 : decode cL_steps 0 = .ok (.bipush 99, 2) := by decide +kernel
theorem dL_steps_2 : decode cL_steps 2 = .ok (.istore_n 2, 1) := by decide +kernel
theorem dL_steps_3 : decode cL_steps 3 = .ok (.iconst (-1), 1) := by decide +kernel
theorem dL_steps_4 : decode cL_steps 4 = .ok (.istore_n 3, 1) := by decide +kernel
theorem dL_steps_5 : decode cL_steps 5 = .ok (.iload_n 3, 1) := by decide +kernel
theorem dL_steps_6 : decode cL_steps 6 = .ok (.iconst 2, 1) := by decide +kernel
theorem dL_steps_7 : decode cL_steps 7 = .ok (.if_icmp .ge 222, 3) := by decide +kernel
theorem dL_steps_10 : decode cL_steps 10 = .ok (.iconst 0, 1) := by decide +kernel
theorem dL_steps_11 : decode cL_steps 11 = .ok (.istore 4, 2) := by decide +kernel
theorem dL_steps_13 : decode cL_steps 13 = .ok (.iload 4, 2) := by decide +kernel
theorem dL_steps_15 : decode cL_steps 15 = .ok (.bipush 17, 2) := by decide +kernel
theorem dL_steps_17 : decode cL_steps 17 = .ok (.if_icmp .ge 206, 3) := by decide +kernel
theorem dL_steps_20 : decode cL_steps 20 = .ok (.iconst 0, 1) := by decide +kernel
theorem dL_steps_21 : decode cL_steps 21 = .ok (.istore 5, 2) := by decide +kernel
theorem dL_steps_23 : decode cL_steps 23 = .ok (.iload 5, 2) := by decide +kernel
theorem dL_steps_25 : decode cL_steps 25 = .ok (.bipush 34, 2) := by decide +kernel
theorem dL_steps_27 : decode cL_steps 27 = .ok (.if_icmp .ge 190, 3) := by decide +kernel
theorem dL_steps_30 : decode cL_steps 30 = .ok (.iconst 1, 1) := by decide +kernel
theorem dL_steps_31 : decode cL_steps 31 = .ok (.istore 6, 2) := by decide +kernel
theorem dL_steps_33 : decode cL_steps 33 = .ok (.iconst 0, 1) := by decide +kernel
theorem dL_steps_34 : decode cL_steps 34 = .ok (.istore 7, 2) := by decide +kernel
theorem dL_steps_36 : decode cL_steps 36 = .ok (.iload 7, 2) := by decide +kernel
theorem dL_steps_38 : decode cL_steps 38 = .ok (.bipush 8, 2) := by decide +kernel
theorem dL_steps_40 : decode cL_steps 40 = .ok (.if_icmp .ge 133, 3) := by decide +kernel
theorem dL_steps_43 : decode cL_steps 43 = .ok (.aload_n 0, 1) := by decide +kernel
theorem dL_steps_44 : decode cL_steps 44 = .ok (.bipush 6, 2) := by decide +kernel
theorem dL_steps_46 : decode cL_steps 46 = .ok (.iload 7, 2) := by decide +kernel
theorem dL_steps_48 : decode cL_steps 48 = .ok (.imul, 1) := by decide +kernel
theorem dL_steps_49 : decode cL_steps 49 = .ok (.iconst 5, 1) := by decide +kernel
theorem dL_steps_50 : decode cL_steps 50 = .ok (.iadd, 1) := by decide +kernel
theorem dL_steps_51 : decode cL_steps 51 = .ok (.iaload, 1) := by decide +kernel
theorem dL_steps_52 : decode cL_steps 52 = .ok (.ifCond .ge 7, 3) := by decide +kernel
theorem dL_steps_55 : decode cL_steps 55 = .ok (.iconst 1, 1) := by decide +kernel
theorem dL_steps_56 : decode cL_steps 56 = .ok (.goto 4, 3) := by decide +kernel
theorem dL_steps_59 : decode cL_steps 59 = .ok (.iconst 0, 1) := by decide +kernel
theorem dL_steps_60 : decode cL_steps 60 = .ok (.istore 8, 2) := by decide +kernel
theorem dL_steps_62 : decode cL_steps 62 = .ok (.iconst 0, 1) := by decide +kernel
theorem dL_steps_63 : decode cL_steps 63 = .ok (.istore 9, 2) := by decide +kernel
theorem dL_steps_65 : decode cL_steps 65 = .ok (.iload 9, 2) := by decide +kernel
theorem dL_steps_67 : decode cL_steps 67 = .ok (.iload 4, 2) := by decide +kernel
theorem dL_steps_69 : decode cL_steps 69 = .ok (.iload 5, 2) := by decide +kernel
theorem dL_steps_71 : decode cL_steps 71 = .ok (.iadd, 1) := by decide +kernel
theorem dL_steps_72 : decode cL_steps 72 = .ok (.if_icmp .gt 78, 3) := by decide +kernel
theorem dL_steps_75 : decode cL_steps 75 = .ok (.iload 9, 2) := by decide +kernel
theorem dL_steps_77 : decode cL_steps 77 = .ok (.iload 4, 2) := by decide +kernel
theorem dL_steps_79 : decode cL_steps 79 = .ok (.if_icmp .gt 10, 3) := by decide +kernel
theorem dL_steps_82 : decode cL_steps 82 = .ok (.iload_n 3, 1) := by decide +kernel
theorem dL_steps_83 : decode cL_steps 83 = .ok (.iload 9, 2) := by decide +kernel
theorem dL_steps_85 : decode cL_steps 85 = .ok (.imul, 1) := by decide +kernel
theorem dL_steps_86 : decode cL_steps 86 = .ok (.goto 13, 3) := by decide +kernel
theorem dL_steps_89 : decode cL_steps 89 = .ok (.iload_n 3, 1) := by decide +kernel
theorem dL_steps_90 : decode cL_steps 90 = .ok (.iload 4, 2) := by decide +kernel
theorem dL_steps_92 : decode cL_steps 92 = .ok (.iload 9, 2) := by decide +kernel
theorem dL_steps_94 : decode cL_steps 94 = .ok (.iload 4, 2) := by decide +kernel
theorem dL_steps_96 : decode cL_steps 96 = .ok (.isub, 1) := by decide +kernel
theorem dL_steps_97 : decode cL_steps 97 = .ok (.isub, 1) := by decide +kernel
theorem dL_steps_98 : decode cL_steps 98 = .ok (.imul, 1) := by decide +kernel
theorem dL_steps_99 : decode cL_steps 99 = .ok (.istore 10, 2) := by decide +kernel
theorem dL_steps_101 : decode cL_steps 101 = .ok (.iload 8, 2) := by decide +kernel
theorem dL_steps_103 : decode cL_steps 103 = .ok (.ifCond .ne 34, 3) := by decide +kernel
theorem dL_steps_106 : decode cL_steps 106 = .ok (.aload_n 1, 1) := by decide +kernel
theorem dL_steps_107 : decode cL_steps 107 = .ok (.bipush 9, 2) := by decide +kernel
theorem dL_steps_109 : decode cL_steps 109 = .ok (.iaload, 1) := by decide +kernel
theorem dL_steps_110 : decode cL_steps 110 = .ok (.iload 10, 2) := by decide +kernel
theorem dL_steps_112 : decode cL_steps 112 = .ok (.iadd, 1) := by decide +kernel
theorem dL_steps_113 : decode cL_steps 113 = .ok (.bipush 64, 2) := by decide +kernel
theorem dL_steps_115 : decode cL_steps 115 = .ok (.iadd, 1) := by decide +kernel
theorem dL_steps_116 : decode cL_steps 116 = .ok (.bipush 16, 2) := by decide +kernel
theorem dL_steps_118 : decode cL_steps 118 = .ok (.irem, 1) := by decide +kernel
theorem dL_steps_119 : decode cL_steps 119 = .ok (.aload_n 0, 1) := by decide +kernel
theorem dL_steps_120 : decode cL_steps 120 = .ok (.bipush 6, 2) := by decide +kernel
theorem dL_steps_122 : decode cL_steps 122 = .ok (.iload 7, 2) := by decide +kernel
theorem dL_steps_124 : decode cL_steps 124 = .ok (.imul, 1) := by decide +kernel
theorem dL_steps_125 : decode cL_steps 125 = .ok (.iconst 5, 1) := by decide +kernel
theorem dL_steps_126 : decode cL_steps 126 = .ok (.iadd, 1) := by decide +kernel
theorem dL_steps_127 : decode cL_steps 127 = .ok (.iaload, 1) := by decide +kernel
theorem dL_steps_128 : decode cL_steps 128 = .ok (.invokestatic 10, 3) := by decide +kernel
theorem dL_steps_131 : decode cL_steps 131 = .ok (.aload_n 1, 1) := by decide +kernel
theorem dL_steps_132 : decode cL_steps 132 = .ok (.iconst 0, 1) := by decide +kernel
theorem dL_steps_133 : decode cL_steps 133 = .ok (.iaload, 1) := by decide +kernel
theorem dL_steps_134 : decode cL_steps 134 = .ok (.if_icmp .gt 7, 3) := by decide +kernel
theorem dL_steps_137 : decode cL_steps 137 = .ok (.iconst 1, 1) := by decide +kernel
theorem dL_steps_138 : decode cL_steps 138 = .ok (.goto 4, 3) := by decide +kernel
theorem dL_steps_141 : decode cL_steps 141 = .ok (.iconst 0, 1) := by decide +kernel
theorem dL_steps_142 : decode cL_steps 142 = .ok (.istore 8, 2) := by decide +kernel
theorem dL_steps_144 : decode cL_steps 144 = .ok (.iinc 9 1, 3) := by decide +kernel
theorem dL_steps_147 : decode cL_steps 147 = .ok (.goto (-82), 3) := by decide +kernel
theorem dL_steps_150 : decode cL_steps 150 = .ok (.iload 6, 2) := by decide +kernel
theorem dL_steps_152 : decode cL_steps 152 = .ok (.ifCond .eq 12, 3) := by decide +kernel
theorem dL_steps_155 : decode cL_steps 155 = .ok (.iload 8, 2) := by decide +kernel
theorem dL_steps_157 : decode cL_steps 157 = .ok (.ifCond .eq 7, 3) := by decide +kernel
theorem dL_steps_160 : decode cL_steps 160 = .ok (.iconst 1, 1) := by decide +kernel
theorem dL_steps_161 : decode cL_steps 161 = .ok (.goto 4, 3) := by decide +kernel
theorem dL_steps_164 : decode cL_steps 164 = .ok (.iconst 0, 1) := by decide +kernel
theorem dL_steps_165 : decode cL_steps 165 = .ok (.istore 6, 2) := by decide +kernel
theorem dL_steps_167 : decode cL_steps 167 = .ok (.iinc 7 1, 3) := by decide +kernel
theorem dL_steps_170 : decode cL_steps 170 = .ok (.goto (-134), 3) := by decide +kernel
theorem dL_steps_173 : decode cL_steps 173 = .ok (.iload 6, 2) := by decide +kernel
theorem dL_steps_175 : decode cL_steps 175 = .ok (.ifCond .eq 20, 3) := by decide +kernel
theorem dL_steps_178 : decode cL_steps 178 = .ok (.iload 4, 2) := by decide +kernel
theorem dL_steps_180 : decode cL_steps 180 = .ok (.iload 5, 2) := by decide +kernel
theorem dL_steps_182 : decode cL_steps 182 = .ok (.iadd, 1) := by decide +kernel
theorem dL_steps_183 : decode cL_steps 183 = .ok (.iload_n 2, 1) := by decide +kernel
theorem dL_steps_184 : decode cL_steps 184 = .ok (.if_icmp .ge 11, 3) := by decide +kernel
theorem dL_steps_187 : decode cL_steps 187 = .ok (.iload 4, 2) := by decide +kernel
theorem dL_steps_189 : decode cL_steps 189 = .ok (.iload 5, 2) := by decide +kernel
theorem dL_steps_191 : decode cL_steps 191 = .ok (.iadd, 1) := by decide +kernel
theorem dL_steps_192 : decode cL_steps 192 = .ok (.goto 4, 3) := by decide +kernel
theorem dL_steps_195 : decode cL_steps 195 = .ok (.iload_n 2, 1) := by decide +kernel
theorem dL_steps_196 : decode cL_steps 196 = .ok (.istore_n 2, 1) := by decide +kernel
theorem dL_steps_197 : decode cL_steps 197 = .ok (.iload 6, 2) := by decide +kernel
theorem dL_steps_199 : decode cL_steps 199 = .ok (.ifCond .eq 8, 3) := by decide +kernel
theorem dL_steps_202 : decode cL_steps 202 = .ok (.bipush 34, 2) := by decide +kernel
theorem dL_steps_204 : decode cL_steps 204 = .ok (.goto 5, 3) := by decide +kernel
theorem dL_steps_207 : decode cL_steps 207 = .ok (.iload 5, 2) := by decide +kernel
theorem dL_steps_209 : decode cL_steps 209 = .ok (.istore 5, 2) := by decide +kernel
theorem dL_steps_211 : decode cL_steps 211 = .ok (.iinc 5 1, 3) := by decide +kernel
theorem dL_steps_214 : decode cL_steps 214 = .ok (.goto (-191), 3) := by decide +kernel
theorem dL_steps_217 : decode cL_steps 217 = .ok (.iinc 4 1, 3) := by decide +kernel
theorem dL_steps_220 : decode cL_steps 220 = .ok (.goto (-207), 3) := by decide +kernel
theorem dL_steps_223 : decode cL_steps 223 = .ok (.iinc 3 2, 3) := by decide +kernel
theorem dL_steps_226 : decode cL_steps 226 = .ok (.goto (-221), 3) := by decide +kernel
theorem dL_steps_229 : decode cL_steps 229 = .ok (.iload_n 2, 1) := by decide +kernel
theorem dL_steps_230 : decode cL_steps 230 = .ok (.ireturn, 1) := by decide +kernel
theorem dL_league_0 : decode cL_league 0 = .ok (.sipush (-10006), 3) := by decide +kernel
theorem dL_league_3 : decode cL_league 3 = .ok (.istore 5, 2) := by decide +kernel
theorem dL_league_5 : decode cL_league 5 = .ok (.iconst 0, 1) := by decide +kernel
theorem dL_league_6 : decode cL_league 6 = .ok (.istore 6, 2) := by decide +kernel
theorem dL_league_8 : decode cL_league 8 = .ok (.iconst 0, 1) := by decide +kernel
theorem dL_league_9 : decode cL_league 9 = .ok (.istore 7, 2) := by decide +kernel
theorem dL_league_11 : decode cL_league 11 = .ok (.iconst (-1), 1) := by decide +kernel
theorem dL_league_12 : decode cL_league 12 = .ok (.istore 8, 2) := by decide +kernel
theorem dL_league_14 : decode cL_league 14 = .ok (.iconst 0, 1) := by decide +kernel
theorem dL_league_15 : decode cL_league 15 = .ok (.istore 9, 2) := by decide +kernel
theorem dL_league_17 : decode cL_league 17 = .ok (.iload 9, 2) := by decide +kernel
theorem dL_league_19 : decode cL_league 19 = .ok (.aload 4, 2) := by decide +kernel
theorem dL_league_21 : decode cL_league 21 = .ok (.iconst 4, 1) := by decide +kernel
theorem dL_league_22 : decode cL_league 22 = .ok (.iaload, 1) := by decide +kernel
theorem dL_league_23 : decode cL_league 23 = .ok (.if_icmp .ge 237, 3) := by decide +kernel
theorem dL_league_26 : decode cL_league 26 = .ok (.iconst 0, 1) := by decide +kernel
theorem dL_league_27 : decode cL_league 27 = .ok (.istore 10, 2) := by decide +kernel
theorem dL_league_29 : decode cL_league 29 = .ok (.iconst 0, 1) := by decide +kernel
theorem dL_league_30 : decode cL_league 30 = .ok (.istore 11, 2) := by decide +kernel
theorem dL_league_32 : decode cL_league 32 = .ok (.iload 11, 2) := by decide +kernel
theorem dL_league_34 : decode cL_league 34 = .ok (.aload 4, 2) := by decide +kernel
theorem dL_league_36 : decode cL_league 36 = .ok (.iconst 4, 1) := by decide +kernel
theorem dL_league_37 : decode cL_league 37 = .ok (.iaload, 1) := by decide +kernel
theorem dL_league_38 : decode cL_league 38 = .ok (.if_icmp .ge 37, 3) := by decide +kernel
theorem dL_league_41 : decode cL_league 41 = .ok (.iload 10, 2) := by decide +kernel
theorem dL_league_43 : decode cL_league 43 = .ok (.iload 11, 2) := by decide +kernel
theorem dL_league_45 : decode cL_league 45 = .ok (.iload 9, 2) := by decide +kernel
theorem dL_league_47 : decode cL_league 47 = .ok (.if_icmp .eq 18, 3) := by decide +kernel
theorem dL_league_50 : decode cL_league 50 = .ok (.aload_n 1, 1) := by decide +kernel
theorem dL_league_51 : decode cL_league 51 = .ok (.iload 11, 2) := by decide +kernel
theorem dL_league_53 : decode cL_league 53 = .ok (.iload 9, 2) := by decide +kernel
theorem dL_league_55 : decode cL_league 55 = .ok (.invokestatic 18, 3) := by decide +kernel
theorem dL_league_58 : decode cL_league 58 = .ok (.ifCond .eq 7, 3) := by decide +kernel
theorem dL_league_61 : decode cL_league 61 = .ok (.iconst 1, 1) := by decide +kernel
theorem dL_league_62 : decode cL_league 62 = .ok (.goto 4, 3) := by decide +kernel
theorem dL_league_65 : decode cL_league 65 = .ok (.iconst 0, 1) := by decide +kernel
theorem dL_league_66 : decode cL_league 66 = .ok (.iadd, 1) := by decide +kernel
theorem dL_league_67 : decode cL_league 67 = .ok (.istore 10, 2) := by decide +kernel
theorem dL_league_69 : decode cL_league 69 = .ok (.iinc 11 1, 3) := by decide +kernel
theorem dL_league_72 : decode cL_league 72 = .ok (.goto (-40), 3) := by decide +kernel
theorem dL_league_75 : decode cL_league 75 = .ok (.iload 6, 2) := by decide +kernel
theorem dL_league_77 : decode cL_league 77 = .ok (.aload_n 1, 1) := by decide +kernel
theorem dL_league_78 : decode cL_league 78 = .ok (.bipush 6, 2) := by decide +kernel
theorem dL_league_80 : decode cL_league 80 = .ok (.iload 9, 2) := by decide +kernel
theorem dL_league_82 : decode cL_league 82 = .ok (.imul, 1) := by decide +kernel
theorem dL_league_83 : decode cL_league 83 = .ok (.iaload, 1) := by decide +kernel
theorem dL_league_84 : decode cL_league 84 = .ok (.iadd, 1) := by decide +kernel
theorem dL_league_85 : decode cL_league 85 = .ok (.istore 6, 2) := by decide +kernel
theorem dL_league_87 : decode cL_league 87 = .ok (.iload 8, 2) := by decide +kernel
theorem dL_league_89 : decode cL_league 89 = .ok (.ifCond .lt 56, 3) := by decide +kernel
theorem dL_league_92 : decode cL_league 92 = .ok (.aload_n 1, 1) := by decide +kernel
theorem dL_league_93 : decode cL_league 93 = .ok (.bipush 6, 2) := by decide +kernel
theorem dL_league_95 : decode cL_league 95 = .ok (.iload 9, 2) := by decide +kernel
theorem dL_league_97 : decode cL_league 97 = .ok (.imul, 1) := by decide +kernel
theorem dL_league_98 : decode cL_league 98 = .ok (.iconst 1, 1) := by decide +kernel
theorem dL_league_99 : decode cL_league 99 = .ok (.iadd, 1) := by decide +kernel
theorem dL_league_100 : decode cL_league 100 = .ok (.iaload, 1) := by decide +kernel
theorem dL_league_101 : decode cL_league 101 = .ok (.aload_n 1, 1) := by decide +kernel
theorem dL_league_102 : decode cL_league 102 = .ok (.bipush 6, 2) := by decide +kernel
theorem dL_league_104 : decode cL_league 104 = .ok (.iload 8, 2) := by decide +kernel
theorem dL_league_106 : decode cL_league 106 = .ok (.imul, 1) := by decide +kernel
theorem dL_league_107 : decode cL_league 107 = .ok (.iconst 1, 1) := by decide +kernel
theorem dL_league_108 : decode cL_league 108 = .ok (.iadd, 1) := by decide +kernel
theorem dL_league_109 : decode cL_league 109 = .ok (.iaload, 1) := by decide +kernel
theorem dL_league_110 : decode cL_league 110 = .ok (.if_icmp .lt 35, 3) := by decide +kernel
theorem dL_league_113 : decode cL_league 113 = .ok (.aload_n 1, 1) := by decide +kernel
theorem dL_league_114 : decode cL_league 114 = .ok (.bipush 6, 2) := by decide +kernel
theorem dL_league_116 : decode cL_league 116 = .ok (.iload 9, 2) := by decide +kernel
theorem dL_league_118 : decode cL_league 118 = .ok (.imul, 1) := by decide +kernel
theorem dL_league_119 : decode cL_league 119 = .ok (.iconst 1, 1) := by decide +kernel
theorem dL_league_120 : decode cL_league 120 = .ok (.iadd, 1) := by decide +kernel
theorem dL_league_121 : decode cL_league 121 = .ok (.iaload, 1) := by decide +kernel
theorem dL_league_122 : decode cL_league 122 = .ok (.aload_n 1, 1) := by decide +kernel
theorem dL_league_123 : decode cL_league 123 = .ok (.bipush 6, 2) := by decide +kernel
theorem dL_league_125 : decode cL_league 125 = .ok (.iload 8, 2) := by decide +kernel
theorem dL_league_127 : decode cL_league 127 = .ok (.imul, 1) := by decide +kernel
theorem dL_league_128 : decode cL_league 128 = .ok (.iconst 1, 1) := by decide +kernel
theorem dL_league_129 : decode cL_league 129 = .ok (.iadd, 1) := by decide +kernel
theorem dL_league_130 : decode cL_league 130 = .ok (.iaload, 1) := by decide +kernel
theorem dL_league_131 : decode cL_league 131 = .ok (.if_icmp .ne 19, 3) := by decide +kernel
theorem dL_league_134 : decode cL_league 134 = .ok (.aload_n 1, 1) := by decide +kernel
theorem dL_league_135 : decode cL_league 135 = .ok (.iload 8, 2) := by decide +kernel
theorem dL_league_137 : decode cL_league 137 = .ok (.iload 9, 2) := by decide +kernel
theorem dL_league_139 : decode cL_league 139 = .ok (.invokestatic 18, 3) := by decide +kernel
theorem dL_league_142 : decode cL_league 142 = .ok (.ifCond .eq 8, 3) := by decide +kernel
theorem dL_league_145 : decode cL_league 145 = .ok (.iload 9, 2) := by decide +kernel
theorem dL_league_147 : decode cL_league 147 = .ok (.goto 5, 3) := by decide +kernel
theorem dL_league_150 : decode cL_league 150 = .ok (.iload 8, 2) := by decide +kernel
theorem dL_league_152 : decode cL_league 152 = .ok (.istore 8, 2) := by decide +kernel
theorem dL_league_154 : decode cL_league 154 = .ok (.iconst 0, 1) := by decide +kernel
theorem dL_league_155 : decode cL_league 155 = .ok (.istore 11, 2) := by decide +kernel
theorem dL_league_157 : decode cL_league 157 = .ok (.iload 11, 2) := by decide +kernel
theorem dL_league_159 : decode cL_league 159 = .ok (.iconst 5, 1) := by decide +kernel
theorem dL_league_160 : decode cL_league 160 = .ok (.if_icmp .ge 32, 3) := by decide +kernel
theorem dL_league_163 : decode cL_league 163 = .ok (.aload_n 0, 1) := by decide +kernel
theorem dL_league_164 : decode cL_league 164 = .ok (.iload 9, 2) := by decide +kernel
theorem dL_league_166 : decode cL_league 166 = .ok (.iload 11, 2) := by decide +kernel
theorem dL_league_168 : decode cL_league 168 = .ok (.invokevirtual 22, 3) := by decide +kernel
theorem dL_league_171 : decode cL_league 171 = .ok (.aload_n 1, 1) := by decide +kernel
theorem dL_league_172 : decode cL_league 172 = .ok (.bipush 6, 2) := by decide +kernel
theorem dL_league_174 : decode cL_league 174 = .ok (.iload 9, 2) := by decide +kernel
theorem dL_league_176 : decode cL_league 176 = .ok (.imul, 1) := by decide +kernel
theorem dL_league_177 : decode cL_league 177 = .ok (.iload 11, 2) := by decide +kernel
theorem dL_league_179 : decode cL_league 179 = .ok (.iadd, 1) := by decide +kernel
theorem dL_league_180 : decode cL_league 180 = .ok (.iaload, 1) := by decide +kernel
theorem dL_league_181 : decode cL_league 181 = .ok (.if_icmp .eq 5, 3) := by decide +kernel
theorem dL_league_184 : decode cL_league 184 = .ok (.iconst 0, 1) := by decide +kernel
theorem dL_league_185 : decode cL_league 185 = .ok (.ireturn, 1) := by decide +kernel
theorem dL_league_186 : decode cL_league 186 = .ok (.iinc 11 1, 3) := by decide +kernel
theorem dL_league_189 : decode cL_league 189 = .ok (.goto (-32), 3) := by decide +kernel
theorem dL_league_192 : decode cL_league 192 = .ok (.aload_n 0, 1) := by decide +kernel
theorem dL_league_193 : decode cL_league 193 = .ok (.iload 9, 2) := by decide +kernel
theorem dL_league_195 : decode cL_league 195 = .ok (.iconst 5, 1) := by decide +kernel
theorem dL_league_196 : decode cL_league 196 = .ok (.invokevirtual 22, 3) := by decide +kernel
theorem dL_league_199 : decode cL_league 199 = .ok (.iload 10, 2) := by decide +kernel
theorem dL_league_201 : decode cL_league 201 = .ok (.if_icmp .ne 51, 3) := by decide +kernel
theorem dL_league_204 : decode cL_league 204 = .ok (.aload_n 0, 1) := by decide +kernel
theorem dL_league_205 : decode cL_league 205 = .ok (.iload 10, 2) := by decide +kernel
theorem dL_league_207 : decode cL_league 207 = .ok (.invokevirtual 25, 3) := by decide +kernel
theorem dL_league_210 : decode cL_league 210 = .ok (.iload 9, 2) := by decide +kernel
theorem dL_league_212 : decode cL_league 212 = .ok (.if_icmp .ne 40, 3) := by decide +kernel
theorem dL_league_215 : decode cL_league 215 = .ok (.aload_n 0, 1) := by decide +kernel
theorem dL_league_216 : decode cL_league 216 = .ok (.iload 9, 2) := by decide +kernel
theorem dL_league_218 : decode cL_league 218 = .ok (.bipush 6, 2) := by decide +kernel
theorem dL_league_220 : decode cL_league 220 = .ok (.invokevirtual 22, 3) := by decide +kernel
theorem dL_league_223 : decode cL_league 223 = .ok (.aload_n 1, 1) := by decide +kernel
theorem dL_league_224 : decode cL_league 224 = .ok (.bipush 6, 2) := by decide +kernel
theorem dL_league_226 : decode cL_league 226 = .ok (.iload 9, 2) := by decide +kernel
theorem dL_league_228 : decode cL_league 228 = .ok (.imul, 1) := by decide +kernel
theorem dL_league_229 : decode cL_league 229 = .ok (.iconst 5, 1) := by decide +kernel
theorem dL_league_230 : decode cL_league 230 = .ok (.iadd, 1) := by decide +kernel
theorem dL_league_231 : decode cL_league 231 = .ok (.iaload, 1) := by decide +kernel
theorem dL_league_232 : decode cL_league 232 = .ok (.ifCond .ge 8, 3) := by decide +kernel
theorem dL_league_235 : decode cL_league 235 = .ok (.iload 5, 2) := by decide +kernel
theorem dL_league_237 : decode cL_league 237 = .ok (.goto 12, 3) := by decide +kernel
theorem dL_league_240 : decode cL_league 240 = .ok (.aload_n 1, 1) := by decide +kernel
theorem dL_league_241 : decode cL_league 241 = .ok (.bipush 6, 2) := by decide +kernel
theorem dL_league_243 : decode cL_league 243 = .ok (.iload 9, 2) := by decide +kernel
theorem dL_league_245 : decode cL_league 245 = .ok (.imul, 1) := by decide +kernel
theorem dL_league_246 : decode cL_league 246 = .ok (.iconst 5, 1) := by decide +kernel
theorem dL_league_247 : decode cL_league 247 = .ok (.iadd, 1) := by decide +kernel
theorem dL_league_248 : decode cL_league 248 = .ok (.iaload, 1) := by decide +kernel
theorem dL_league_249 : decode cL_league 249 = .ok (.if_icmp .eq 5, 3) := by decide +kernel
theorem dL_league_252 : decode cL_league 252 = .ok (.iconst 0, 1) := by decide +kernel
theorem dL_league_253 : decode cL_league 253 = .ok (.ireturn, 1) := by decide +kernel
theorem dL_league_254 : decode cL_league 254 = .ok (.iinc 9 1, 3) := by decide +kernel
theorem dL_league_257 : decode cL_league 257 = .ok (.goto (-240), 3) := by decide +kernel
theorem dL_league_260 : decode cL_league 260 = .ok (.iconst (-1), 1) := by decide +kernel
theorem dL_league_261 : decode cL_league 261 = .ok (.istore 9, 2) := by decide +kernel
theorem dL_league_263 : decode cL_league 263 = .ok (.iconst 0, 1) := by decide +kernel
theorem dL_league_264 : decode cL_league 264 = .ok (.istore 10, 2) := by decide +kernel
theorem dL_league_266 : decode cL_league 266 = .ok (.iload 10, 2) := by decide +kernel
theorem dL_league_268 : decode cL_league 268 = .ok (.bipush 16, 2) := by decide +kernel
theorem dL_league_270 : decode cL_league 270 = .ok (.if_icmp .ge 192, 3) := by decide +kernel
theorem dL_league_273 : decode cL_league 273 = .ok (.iload 7, 2) := by decide +kernel
theorem dL_league_275 : decode cL_league 275 = .ok (.aload_n 3, 1) := by decide +kernel
theorem dL_league_276 : decode cL_league 276 = .ok (.iconst 2, 1) := by decide +kernel
theorem dL_league_277 : decode cL_league 277 = .ok (.iload 10, 2) := by decide +kernel
theorem dL_league_279 : decode cL_league 279 = .ok (.imul, 1) := by decide +kernel
theorem dL_league_280 : decode cL_league 280 = .ok (.iaload, 1) := by decide +kernel
theorem dL_league_281 : decode cL_league 281 = .ok (.iadd, 1) := by decide +kernel
theorem dL_league_282 : decode cL_league 282 = .ok (.istore 7, 2) := by decide +kernel
theorem dL_league_284 : decode cL_league 284 = .ok (.aload_n 0, 1) := by decide +kernel
theorem dL_league_285 : decode cL_league 285 = .ok (.iload 10, 2) := by decide +kernel
theorem dL_league_287 : decode cL_league 287 = .ok (.iconst 0, 1) := by decide +kernel
theorem dL_league_288 : decode cL_league 288 = .ok (.invokevirtual 29, 3) := by decide +kernel
theorem dL_league_291 : decode cL_league 291 = .ok (.iconst 0, 1) := by decide +kernel
theorem dL_league_292 : decode cL_league 292 = .ok (.iload 10, 2) := by decide +kernel
theorem dL_league_294 : decode cL_league 294 = .ok (.invokestatic 10, 3) := by decide +kernel
theorem dL_league_297 : decode cL_league 297 = .ok (.if_icmp .ne 49, 3) := by decide +kernel
theorem dL_league_300 : decode cL_league 300 = .ok (.aload_n 0, 1) := by decide +kernel
theorem dL_league_301 : decode cL_league 301 = .ok (.iload 10, 2) := by decide +kernel
theorem dL_league_303 : decode cL_league 303 = .ok (.iconst 1, 1) := by decide +kernel
theorem dL_league_304 : decode cL_league 304 = .ok (.invokevirtual 29, 3) := by decide +kernel
theorem dL_league_307 : decode cL_league 307 = .ok (.aload_n 2, 1) := by decide +kernel
theorem dL_league_308 : decode cL_league 308 = .ok (.iload 10, 2) := by decide +kernel
theorem dL_league_310 : decode cL_league 310 = .ok (.iaload, 1) := by decide +kernel
theorem dL_league_311 : decode cL_league 311 = .ok (.if_icmp .ne 35, 3) := by decide +kernel
theorem dL_league_314 : decode cL_league 314 = .ok (.aload_n 0, 1) := by decide +kernel
theorem dL_league_315 : decode cL_league 315 = .ok (.iload 10, 2) := by decide +kernel
theorem dL_league_317 : decode cL_league 317 = .ok (.iconst 2, 1) := by decide +kernel
theorem dL_league_318 : decode cL_league 318 = .ok (.invokevirtual 29, 3) := by decide +kernel
theorem dL_league_321 : decode cL_league 321 = .ok (.aload_n 3, 1) := by decide +kernel
theorem dL_league_322 : decode cL_league 322 = .ok (.iconst 2, 1) := by decide +kernel
theorem dL_league_323 : decode cL_league 323 = .ok (.iload 10, 2) := by decide +kernel
theorem dL_league_325 : decode cL_league 325 = .ok (.imul, 1) := by decide +kernel
theorem dL_league_326 : decode cL_league 326 = .ok (.iaload, 1) := by decide +kernel
theorem dL_league_327 : decode cL_league 327 = .ok (.if_icmp .ne 19, 3) := by decide +kernel
theorem dL_league_330 : decode cL_league 330 = .ok (.aload_n 0, 1) := by decide +kernel
theorem dL_league_331 : decode cL_league 331 = .ok (.iload 10, 2) := by decide +kernel
theorem dL_league_333 : decode cL_league 333 = .ok (.iconst 3, 1) := by decide +kernel
theorem dL_league_334 : decode cL_league 334 = .ok (.invokevirtual 29, 3) := by decide +kernel
theorem dL_league_337 : decode cL_league 337 = .ok (.aload_n 1, 1) := by decide +kernel
theorem dL_league_338 : decode cL_league 338 = .ok (.iload 10, 2) := by decide +kernel
theorem dL_league_340 : decode cL_league 340 = .ok (.invokestatic 32, 3) := by decide +kernel
theorem dL_league_343 : decode cL_league 343 = .ok (.if_icmp .eq 5, 3) := by decide +kernel
theorem dL_league_346 : decode cL_league 346 = .ok (.iconst 0, 1) := by decide +kernel
theorem dL_league_347 : decode cL_league 347 = .ok (.ireturn, 1) := by decide +kernel
theorem dL_league_348 : decode cL_league 348 = .ok (.aload 4, 2) := by decide +kernel
theorem dL_league_350 : decode cL_league 350 = .ok (.bipush 6, 2) := by decide +kernel
theorem dL_league_352 : decode cL_league 352 = .ok (.iaload, 1) := by decide +kernel
theorem dL_league_353 : decode cL_league 353 = .ok (.iconst 1, 1) := by decide +kernel
theorem dL_league_354 : decode cL_league 354 = .ok (.if_icmp .ne 102, 3) := by decide +kernel
theorem dL_league_357 : decode cL_league 357 = .ok (.aload_n 3, 1) := by decide +kernel
theorem dL_league_358 : decode cL_league 358 = .ok (.aload 4, 2) := by decide +kernel
theorem dL_league_360 : decode cL_league 360 = .ok (.iload 10, 2) := by decide +kernel
theorem dL_league_362 : decode cL_league 362 = .ok (.invokestatic 36, 3) := by decide +kernel
theorem dL_league_365 : decode cL_league 365 = .ok (.ifCond .eq 91, 3) := by decide +kernel
theorem dL_league_368 : decode cL_league 368 = .ok (.aload_n 1, 1) := by decide +kernel
theorem dL_league_369 : decode cL_league 369 = .ok (.iload 10, 2) := by decide +kernel
theorem dL_league_371 : decode cL_league 371 = .ok (.invokestatic 32, 3) := by decide +kernel
theorem dL_league_374 : decode cL_league 374 = .ok (.invokestatic 40, 3) := by decide +kernel
theorem dL_league_377 : decode cL_league 377 = .ok (.iconst 2, 1) := by decide +kernel
theorem dL_league_378 : decode cL_league 378 = .ok (.if_icmp .ge 78, 3) := by decide +kernel
theorem dL_league_381 : decode cL_league 381 = .ok (.iload 9, 2) := by decide +kernel
theorem dL_league_383 : decode cL_league 383 = .ok (.ifCond .ge 7, 3) := by decide +kernel
theorem dL_league_386 : decode cL_league 386 = .ok (.iconst 1, 1) := by decide +kernel
theorem dL_league_387 : decode cL_league 387 = .ok (.goto 53, 3) := by decide +kernel
theorem dL_league_390 : decode cL_league 390 = .ok (.sipush 1000, 3) := by decide +kernel
theorem dL_league_393 : decode cL_league 393 = .ok (.iconst 0, 1) := by decide +kernel
theorem dL_league_394 : decode cL_league 394 = .ok (.iload 10, 2) := by decide +kernel
theorem dL_league_396 : decode cL_league 396 = .ok (.invokestatic 10, 3) := by decide +kernel
theorem dL_league_399 : decode cL_league 399 = .ok (.iconst 0, 1) := by decide +kernel
theorem dL_league_400 : decode cL_league 400 = .ok (.iload 9, 2) := by decide +kernel
theorem dL_league_402 : decode cL_league 402 = .ok (.invokestatic 10, 3) := by decide +kernel
theorem dL_league_405 : decode cL_league 405 = .ok (.isub, 1) := by decide +kernel
theorem dL_league_406 : decode cL_league 406 = .ok (.imul, 1) := by decide +kernel
theorem dL_league_407 : decode cL_league 407 = .ok (.bipush 10, 2) := by decide +kernel
theorem dL_league_409 : decode cL_league 409 = .ok (.aload_n 2, 1) := by decide +kernel
theorem dL_league_410 : decode cL_league 410 = .ok (.iload 10, 2) := by decide +kernel
theorem dL_league_412 : decode cL_league 412 = .ok (.iaload, 1) := by decide +kernel
theorem dL_league_413 : decode cL_league 413 = .ok (.aload_n 2, 1) := by decide +kernel
theorem dL_league_414 : decode cL_league 414 = .ok (.iload 9, 2) := by decide +kernel
theorem dL_league_416 : decode cL_league 416 = .ok (.iaload, 1) := by decide +kernel
theorem dL_league_417 : decode cL_league 417 = .ok (.isub, 1) := by decide +kernel
theorem dL_league_418 : decode cL_league 418 = .ok (.imul, 1) := by decide +kernel
theorem dL_league_419 : decode cL_league 419 = .ok (.isub, 1) := by decide +kernel
theorem dL_league_420 : decode cL_league 420 = .ok (.aload_n 1, 1) := by decide +kernel
theorem dL_league_421 : decode cL_league 421 = .ok (.iload 10, 2) := by decide +kernel
theorem dL_league_423 : decode cL_league 423 = .ok (.invokestatic 32, 3) := by decide +kernel
theorem dL_league_426 : decode cL_league 426 = .ok (.invokestatic 40, 3) := by decide +kernel
theorem dL_league_429 : decode cL_league 429 = .ok (.aload_n 1, 1) := by decide +kernel
theorem dL_league_430 : decode cL_league 430 = .ok (.iload 9, 2) := by decide +kernel
theorem dL_league_432 : decode cL_league 432 = .ok (.invokestatic 32, 3) := by decide +kernel
theorem dL_league_435 : decode cL_league 435 = .ok (.invokestatic 40, 3) := by decide +kernel
theorem dL_league_438 : decode cL_league 438 = .ok (.isub, 1) := by decide +kernel
theorem dL_league_439 : decode cL_league 439 = .ok (.isub, 1) := by decide +kernel
theorem dL_league_440 : decode cL_league 440 = .ok (.istore 11, 2) := by decide +kernel
theorem dL_league_442 : decode cL_league 442 = .ok (.iload 11, 2) := by decide +kernel
theorem dL_league_444 : decode cL_league 444 = .ok (.ifCond .le 8, 3) := by decide +kernel
theorem dL_league_447 : decode cL_league 447 = .ok (.iload 10, 2) := by decide +kernel
theorem dL_league_449 : decode cL_league 449 = .ok (.goto 5, 3) := by decide +kernel
theorem dL_league_452 : decode cL_league 452 = .ok (.iload 9, 2) := by decide +kernel
theorem dL_league_454 : decode cL_league 454 = .ok (.istore 9, 2) := by decide +kernel
theorem dL_league_456 : decode cL_league 456 = .ok (.iinc 10 1, 3) := by decide +kernel
theorem dL_league_459 : decode cL_league 459 = .ok (.goto (-193), 3) := by decide +kernel
theorem dL_league_462 : decode cL_league 462 = .ok (.sipush (-10003), 3) := by decide +kernel
theorem dL_league_465 : decode cL_league 465 = .ok (.istore 10, 2) := by decide +kernel
theorem dL_league_467 : decode cL_league 467 = .ok (.iconst 0, 1) := by decide +kernel
theorem dL_league_468 : decode cL_league 468 = .ok (.istore 11, 2) := by decide +kernel
theorem dL_league_470 : decode cL_league 470 = .ok (.iconst 0, 1) := by decide +kernel
theorem dL_league_471 : decode cL_league 471 = .ok (.istore 12, 2) := by decide +kernel
theorem dL_league_473 : decode cL_league 473 = .ok (.iconst 0, 1) := by decide +kernel
theorem dL_league_474 : decode cL_league 474 = .ok (.istore 13, 2) := by decide +kernel
theorem dL_league_476 : decode cL_league 476 = .ok (.iload 13, 2) := by decide +kernel
theorem dL_league_478 : decode cL_league 478 = .ok (.bipush 16, 2) := by decide +kernel
theorem dL_league_480 : decode cL_league 480 = .ok (.if_icmp .ge 81, 3) := by decide +kernel
theorem dL_league_483 : decode cL_league 483 = .ok (.aload 4, 2) := by decide +kernel
theorem dL_league_485 : decode cL_league 485 = .ok (.bipush 6, 2) := by decide +kernel
theorem dL_league_487 : decode cL_league 487 = .ok (.iaload, 1) := by decide +kernel
theorem dL_league_488 : decode cL_league 488 = .ok (.iconst 2, 1) := by decide +kernel
theorem dL_league_489 : decode cL_league 489 = .ok (.if_icmp .ne 72, 3) := by decide +kernel
theorem dL_league_492 : decode cL_league 492 = .ok (.iload 11, 2) := by decide +kernel
theorem dL_league_494 : decode cL_league 494 = .ok (.iload 13, 2) := by decide +kernel
theorem dL_league_496 : decode cL_league 496 = .ok (.aload 4, 2) := by decide +kernel
theorem dL_league_498 : decode cL_league 498 = .ok (.bipush 9, 2) := by decide +kernel
theorem dL_league_500 : decode cL_league 500 = .ok (.iaload, 1) := by decide +kernel
theorem dL_league_501 : decode cL_league 501 = .ok (.invokestatic 10, 3) := by decide +kernel
theorem dL_league_504 : decode cL_league 504 = .ok (.aload 4, 2) := by decide +kernel
theorem dL_league_506 : decode cL_league 506 = .ok (.iconst 0, 1) := by decide +kernel
theorem dL_league_507 : decode cL_league 507 = .ok (.iaload, 1) := by decide +kernel
theorem dL_league_508 : decode cL_league 508 = .ok (.if_icmp .gt 10, 3) := by decide +kernel
theorem dL_league_511 : decode cL_league 511 = .ok (.iconst 1, 1) := by decide +kernel
theorem dL_league_512 : decode cL_league 512 = .ok (.iload 13, 2) := by decide +kernel
theorem dL_league_514 : decode cL_league 514 = .ok (.ishl, 1) := by decide +kernel
theorem dL_league_515 : decode cL_league 515 = .ok (.goto 4, 3) := by decide +kernel
theorem dL_league_518 : decode cL_league 518 = .ok (.iconst 0, 1) := by decide +kernel
theorem dL_league_519 : decode cL_league 519 = .ok (.ior, 1) := by decide +kernel
theorem dL_league_520 : decode cL_league 520 = .ok (.istore 11, 2) := by decide +kernel
theorem dL_league_522 : decode cL_league 522 = .ok (.iload 12, 2) := by decide +kernel
theorem dL_league_524 : decode cL_league 524 = .ok (.iconst 0, 1) := by decide +kernel
theorem dL_league_525 : decode cL_league 525 = .ok (.iload 13, 2) := by decide +kernel
theorem dL_league_527 : decode cL_league 527 = .ok (.invokestatic 10, 3) := by decide +kernel
theorem dL_league_530 : decode cL_league 530 = .ok (.iconst 0, 1) := by decide +kernel
theorem dL_league_531 : decode cL_league 531 = .ok (.aload 4, 2) := by decide +kernel
theorem dL_league_533 : decode cL_league 533 = .ok (.bipush 9, 2) := by decide +kernel
theorem dL_league_535 : decode cL_league 535 = .ok (.iaload, 1) := by decide +kernel
theorem dL_league_536 : decode cL_league 536 = .ok (.invokestatic 10, 3) := by decide +kernel
theorem dL_league_539 : decode cL_league 539 = .ok (.if_icmp .ge 12, 3) := by decide +kernel
theorem dL_league_542 : decode cL_league 542 = .ok (.aload_n 1, 1) := by decide +kernel
theorem dL_league_543 : decode cL_league 543 = .ok (.iload 13, 2) := by decide +kernel
theorem dL_league_545 : decode cL_league 545 = .ok (.invokestatic 32, 3) := by decide +kernel
theorem dL_league_548 : decode cL_league 548 = .ok (.goto 4, 3) := by decide +kernel
theorem dL_league_551 : decode cL_league 551 = .ok (.iconst 0, 1) := by decide +kernel
theorem dL_league_552 : decode cL_league 552 = .ok (.ior, 1) := by decide +kernel
theorem dL_league_553 : decode cL_league 553 = .ok (.istore 12, 2) := by decide +kernel
theorem dL_league_555 : decode cL_league 555 = .ok (.iinc 13 1, 3) := by decide +kernel
theorem dL_league_558 : decode cL_league 558 = .ok (.goto (-82), 3) := by decide +kernel
theorem dL_league_561 : decode cL_league 561 = .ok (.aload_n 0, 1) := by decide +kernel
theorem dL_league_562 : decode cL_league 562 = .ok (.invokevirtual 43, 3) := by decide +kernel
theorem dL_league_565 : decode cL_league 565 = .ok (.aload 4, 2) := by decide +kernel
theorem dL_league_567 : decode cL_league 567 = .ok (.bipush 6, 2) := by decide +kernel
theorem dL_league_569 : decode cL_league 569 = .ok (.iaload, 1) := by decide +kernel
theorem dL_league_570 : decode cL_league 570 = .ok (.iconst 1, 1) := by decide +kernel
theorem dL_league_571 : decode cL_league 571 = .ok (.if_icmp .eq 8, 3) := by decide +kernel
theorem dL_league_574 : decode cL_league 574 = .ok (.iload 10, 2) := by decide +kernel
theorem dL_league_576 : decode cL_league 576 = .ok (.goto 15, 3) := by decide +kernel
theorem dL_league_579 : decode cL_league 579 = .ok (.iload 9, 2) := by decide +kernel
theorem dL_league_581 : decode cL_league 581 = .ok (.ifCond .ge 8, 3) := by decide +kernel
theorem dL_league_584 : decode cL_league 584 = .ok (.iload 5, 2) := by decide +kernel
theorem dL_league_586 : decode cL_league 586 = .ok (.goto 5, 3) := by decide +kernel
theorem dL_league_589 : decode cL_league 589 = .ok (.iload 9, 2) := by decide +kernel
theorem dL_league_591 : decode cL_league 591 = .ok (.if_icmp .ne 113, 3) := by decide +kernel
theorem dL_league_594 : decode cL_league 594 = .ok (.aload_n 0, 1) := by decide +kernel
theorem dL_league_595 : decode cL_league 595 = .ok (.invokevirtual 47, 3) := by decide +kernel
theorem dL_league_598 : decode cL_league 598 = .ok (.aload 4, 2) := by decide +kernel
theorem dL_league_600 : decode cL_league 600 = .ok (.bipush 6, 2) := by decide +kernel
theorem dL_league_602 : decode cL_league 602 = .ok (.iaload, 1) := by decide +kernel
theorem dL_league_603 : decode cL_league 603 = .ok (.iconst 2, 1) := by decide +kernel
theorem dL_league_604 : decode cL_league 604 = .ok (.if_icmp .ne 8, 3) := by decide +kernel
theorem dL_league_607 : decode cL_league 607 = .ok (.iload 11, 2) := by decide +kernel
theorem dL_league_609 : decode cL_league 609 = .ok (.goto 5, 3) := by decide +kernel
theorem dL_league_612 : decode cL_league 612 = .ok (.iload 10, 2) := by decide +kernel
theorem dL_league_614 : decode cL_league 614 = .ok (.if_icmp .ne 90, 3) := by decide +kernel
theorem dL_league_617 : decode cL_league 617 = .ok (.aload_n 0, 1) := by decide +kernel
theorem dL_league_618 : decode cL_league 618 = .ok (.invokevirtual 50, 3) := by decide +kernel
theorem dL_league_621 : decode cL_league 621 = .ok (.aload 4, 2) := by decide +kernel
theorem dL_league_623 : decode cL_league 623 = .ok (.bipush 6, 2) := by decide +kernel
theorem dL_league_625 : decode cL_league 625 = .ok (.iaload, 1) := by decide +kernel
theorem dL_league_626 : decode cL_league 626 = .ok (.iconst 2, 1) := by decide +kernel
theorem dL_league_627 : decode cL_league 627 = .ok (.if_icmp .ne 8, 3) := by decide +kernel
theorem dL_league_630 : decode cL_league 630 = .ok (.iload 12, 2) := by decide +kernel
theorem dL_league_632 : decode cL_league 632 = .ok (.goto 5, 3) := by decide +kernel
theorem dL_league_635 : decode cL_league 635 = .ok (.iload 10, 2) := by decide +kernel
theorem dL_league_637 : decode cL_league 637 = .ok (.if_icmp .ne 67, 3) := by decide +kernel
theorem dL_league_640 : decode cL_league 640 = .ok (.aload_n 0, 1) := by decide +kernel
theorem dL_league_641 : decode cL_league 641 = .ok (.invokevirtual 53, 3) := by decide +kernel
theorem dL_league_644 : decode cL_league 644 = .ok (.aload 4, 2) := by decide +kernel
theorem dL_league_646 : decode cL_league 646 = .ok (.bipush 6, 2) := by decide +kernel
theorem dL_league_648 : decode cL_league 648 = .ok (.iaload, 1) := by decide +kernel
theorem dL_league_649 : decode cL_league 649 = .ok (.iconst 2, 1) := by decide +kernel
theorem dL_league_650 : decode cL_league 650 = .ok (.if_icmp .ne 12, 3) := by decide +kernel
theorem dL_league_653 : decode cL_league 653 = .ok (.aload_n 1, 1) := by decide +kernel
theorem dL_league_654 : decode cL_league 654 = .ok (.aload 4, 2) := by decide +kernel
theorem dL_league_656 : decode cL_league 656 = .ok (.invokestatic 56, 3) := by decide +kernel
theorem dL_league_659 : decode cL_league 659 = .ok (.goto 5, 3) := by decide +kernel
theorem dL_league_662 : decode cL_league 662 = .ok (.iload 10, 2) := by decide +kernel
theorem dL_league_664 : decode cL_league 664 = .ok (.if_icmp .ne 40, 3) := by decide +kernel
theorem dL_league_667 : decode cL_league 667 = .ok (.aload_n 0, 1) := by decide +kernel
theorem dL_league_668 : decode cL_league 668 = .ok (.invokevirtual 60, 3) := by decide +kernel
theorem dL_league_671 : decode cL_league 671 = .ok (.iload 8, 2) := by decide +kernel
theorem dL_league_673 : decode cL_league 673 = .ok (.ifCond .ge 8, 3) := by decide +kernel
theorem dL_league_676 : decode cL_league 676 = .ok (.iload 5, 2) := by decide +kernel
theorem dL_league_678 : decode cL_league 678 = .ok (.goto 5, 3) := by decide +kernel
theorem dL_league_681 : decode cL_league 681 = .ok (.iload 8, 2) := by decide +kernel
theorem dL_league_683 : decode cL_league 683 = .ok (.if_icmp .ne 21, 3) := by decide +kernel
theorem dL_league_686 : decode cL_league 686 = .ok (.aload_n 0, 1) := by decide +kernel
theorem dL_league_687 : decode cL_league 687 = .ok (.aload 4, 2) := by decide +kernel
theorem dL_league_689 : decode cL_league 689 = .ok (.iconst 4, 1) := by decide +kernel
theorem dL_league_690 : decode cL_league 690 = .ok (.iaload, 1) := by decide +kernel
theorem dL_league_691 : decode cL_league 691 = .ok (.invokevirtual 25, 3) := by decide +kernel
theorem dL_league_694 : decode cL_league 694 = .ok (.sipush (-10001), 3) := by decide +kernel
theorem dL_league_697 : decode cL_league 697 = .ok (.if_icmp .ne 7, 3) := by decide +kernel
theorem dL_league_700 : decode cL_league 700 = .ok (.iconst 1, 1) := by decide +kernel
theorem dL_league_701 : decode cL_league 701 = .ok (.goto 4, 3) := by decide +kernel
theorem dL_league_704 : decode cL_league 704 = .ok (.iconst 0, 1) := by decide +kernel
theorem dL_league_705 : decode cL_league 705 = .ok (.istore 13, 2) := by decide +kernel
theorem dL_league_707 : decode cL_league 707 = .ok (.iload 13, 2) := by decide +kernel
theorem dL_league_709 : decode cL_league 709 = .ok (.ifCond .eq 172, 3) := by decide +kernel
theorem dL_league_712 : decode cL_league 712 = .ok (.aload_n 0, 1) := by decide +kernel
theorem dL_league_713 : decode cL_league 713 = .ok (.iconst 0, 1) := by decide +kernel
theorem dL_league_714 : decode cL_league 714 = .ok (.invokevirtual 63, 3) := by decide +kernel
theorem dL_league_717 : decode cL_league 717 = .ok (.aload 4, 2) := by decide +kernel
theorem dL_league_719 : decode cL_league 719 = .ok (.iconst 4, 1) := by decide +kernel
theorem dL_league_720 : decode cL_league 720 = .ok (.iaload, 1) := by decide +kernel
theorem dL_league_721 : decode cL_league 721 = .ok (.if_icmp .ne 160, 3) := by decide +kernel
theorem dL_league_724 : decode cL_league 724 = .ok (.aload_n 0, 1) := by decide +kernel
theorem dL_league_725 : decode cL_league 725 = .ok (.iconst 1, 1) := by decide +kernel
theorem dL_league_726 : decode cL_league 726 = .ok (.invokevirtual 63, 3) := by decide +kernel
theorem dL_league_729 : decode cL_league 729 = .ok (.aload 4, 2) := by decide +kernel
theorem dL_league_731 : decode cL_league 731 = .ok (.iconst 5, 1) := by decide +kernel
theorem dL_league_732 : decode cL_league 732 = .ok (.iaload, 1) := by decide +kernel
theorem dL_league_733 : decode cL_league 733 = .ok (.if_icmp .ne 148, 3) := by decide +kernel
theorem dL_league_736 : decode cL_league 736 = .ok (.aload_n 0, 1) := by decide +kernel
theorem dL_league_737 : decode cL_league 737 = .ok (.iconst 2, 1) := by decide +kernel
theorem dL_league_738 : decode cL_league 738 = .ok (.invokevirtual 63, 3) := by decide +kernel
theorem dL_league_741 : decode cL_league 741 = .ok (.aload 4, 2) := by decide +kernel
theorem dL_league_743 : decode cL_league 743 = .ok (.bipush 6, 2) := by decide +kernel
theorem dL_league_745 : decode cL_league 745 = .ok (.iaload, 1) := by decide +kernel
theorem dL_league_746 : decode cL_league 746 = .ok (.if_icmp .ne 135, 3) := by decide +kernel
theorem dL_league_749 : decode cL_league 749 = .ok (.aload_n 0, 1) := by decide +kernel
theorem dL_league_750 : decode cL_league 750 = .ok (.iconst 3, 1) := by decide +kernel
theorem dL_league_751 : decode cL_league 751 = .ok (.invokevirtual 63, 3) := by decide +kernel
theorem dL_league_754 : decode cL_league 754 = .ok (.aload 4, 2) := by decide +kernel
theorem dL_league_756 : decode cL_league 756 = .ok (.bipush 6, 2) := by decide +kernel
theorem dL_league_758 : decode cL_league 758 = .ok (.iaload, 1) := by decide +kernel
theorem dL_league_759 : decode cL_league 759 = .ok (.ifCond .ne 8, 3) := by decide +kernel
theorem dL_league_762 : decode cL_league 762 = .ok (.iload 5, 2) := by decide +kernel
theorem dL_league_764 : decode cL_league 764 = .ok (.goto 8, 3) := by decide +kernel
theorem dL_league_767 : decode cL_league 767 = .ok (.aload 4, 2) := by decide +kernel
theorem dL_league_769 : decode cL_league 769 = .ok (.bipush 7, 2) := by decide +kernel
theorem dL_league_771 : decode cL_league 771 = .ok (.iaload, 1) := by decide +kernel
theorem dL_league_772 : decode cL_league 772 = .ok (.if_icmp .ne 109, 3) := by decide +kernel
theorem dL_league_775 : decode cL_league 775 = .ok (.aload_n 0, 1) := by decide +kernel
theorem dL_league_776 : decode cL_league 776 = .ok (.iconst 4, 1) := by decide +kernel
theorem dL_league_777 : decode cL_league 777 = .ok (.invokevirtual 63, 3) := by decide +kernel
theorem dL_league_780 : decode cL_league 780 = .ok (.aload 4, 2) := by decide +kernel
theorem dL_league_782 : decode cL_league 782 = .ok (.bipush 6, 2) := by decide +kernel
theorem dL_league_784 : decode cL_league 784 = .ok (.iaload, 1) := by decide +kernel
theorem dL_league_785 : decode cL_league 785 = .ok (.ifCond .ne 8, 3) := by decide +kernel
theorem dL_league_788 : decode cL_league 788 = .ok (.iload 5, 2) := by decide +kernel
theorem dL_league_790 : decode cL_league 790 = .ok (.goto 8, 3) := by decide +kernel
theorem dL_league_793 : decode cL_league 793 = .ok (.aload 4, 2) := by decide +kernel
theorem dL_league_795 : decode cL_league 795 = .ok (.bipush 8, 2) := by decide +kernel
theorem dL_league_797 : decode cL_league 797 = .ok (.iaload, 1) := by decide +kernel
theorem dL_league_798 : decode cL_league 798 = .ok (.if_icmp .ne 83, 3) := by decide +kernel
theorem dL_league_801 : decode cL_league 801 = .ok (.aload_n 0, 1) := by decide +kernel
theorem dL_league_802 : decode cL_league 802 = .ok (.iconst 5, 1) := by decide +kernel
theorem dL_league_803 : decode cL_league 803 = .ok (.invokevirtual 63, 3) := by decide +kernel
theorem dL_league_806 : decode cL_league 806 = .ok (.aload 4, 2) := by decide +kernel
theorem dL_league_808 : decode cL_league 808 = .ok (.bipush 6, 2) := by decide +kernel
theorem dL_league_810 : decode cL_league 810 = .ok (.iaload, 1) := by decide +kernel
theorem dL_league_811 : decode cL_league 811 = .ok (.iconst 2, 1) := by decide +kernel
theorem dL_league_812 : decode cL_league 812 = .ok (.if_icmp .ne 11, 3) := by decide +kernel
theorem dL_league_815 : decode cL_league 815 = .ok (.aload 4, 2) := by decide +kernel
theorem dL_league_817 : decode cL_league 817 = .ok (.bipush 9, 2) := by decide +kernel
theorem dL_league_819 : decode cL_league 819 = .ok (.iaload, 1) := by decide +kernel
theorem dL_league_820 : decode cL_league 820 = .ok (.goto 5, 3) := by decide +kernel
theorem dL_league_823 : decode cL_league 823 = .ok (.iload 5, 2) := by decide +kernel
theorem dL_league_825 : decode cL_league 825 = .ok (.if_icmp .ne 56, 3) := by decide +kernel
theorem dL_league_828 : decode cL_league 828 = .ok (.aload_n 0, 1) := by decide +kernel
theorem dL_league_829 : decode cL_league 829 = .ok (.bipush 6, 2) := by decide +kernel
theorem dL_league_831 : decode cL_league 831 = .ok (.invokevirtual 63, 3) := by decide +kernel
theorem dL_league_834 : decode cL_league 834 = .ok (.aload 4, 2) := by decide +kernel
theorem dL_league_836 : decode cL_league 836 = .ok (.bipush 10, 2) := by decide +kernel
theorem dL_league_838 : decode cL_league 838 = .ok (.iaload, 1) := by decide +kernel
theorem dL_league_839 : decode cL_league 839 = .ok (.if_icmp .ne 42, 3) := by decide +kernel
theorem dL_league_842 : decode cL_league 842 = .ok (.aload_n 0, 1) := by decide +kernel
theorem dL_league_843 : decode cL_league 843 = .ok (.bipush 7, 2) := by decide +kernel
theorem dL_league_845 : decode cL_league 845 = .ok (.invokevirtual 63, 3) := by decide +kernel
theorem dL_league_848 : decode cL_league 848 = .ok (.aload_n 1, 1) := by decide +kernel
theorem dL_league_849 : decode cL_league 849 = .ok (.invokestatic 66, 3) := by decide +kernel
theorem dL_league_852 : decode cL_league 852 = .ok (.if_icmp .ne 29, 3) := by decide +kernel
theorem dL_league_855 : decode cL_league 855 = .ok (.aload_n 0, 1) := by decide +kernel
theorem dL_league_856 : decode cL_league 856 = .ok (.bipush 8, 2) := by decide +kernel
theorem dL_league_858 : decode cL_league 858 = .ok (.invokevirtual 63, 3) := by decide +kernel
theorem dL_league_861 : decode cL_league 861 = .ok (.iload 7, 2) := by decide +kernel
theorem dL_league_863 : decode cL_league 863 = .ok (.if_icmp .ne 18, 3) := by decide +kernel
theorem dL_league_866 : decode cL_league 866 = .ok (.aload_n 0, 1) := by decide +kernel
theorem dL_league_867 : decode cL_league 867 = .ok (.bipush 9, 2) := by decide +kernel
theorem dL_league_869 : decode cL_league 869 = .ok (.invokevirtual 63, 3) := by decide +kernel
theorem dL_league_872 : decode cL_league 872 = .ok (.iload 6, 2) := by decide +kernel
theorem dL_league_874 : decode cL_league 874 = .ok (.if_icmp .ne 7, 3) := by decide +kernel
theorem dL_league_877 : decode cL_league 877 = .ok (.iconst 1, 1) := by decide +kernel
theorem dL_league_878 : decode cL_league 878 = .ok (.goto 4, 3) := by decide +kernel
theorem dL_league_881 : decode cL_league 881 = .ok (.iconst 0, 1) := by decide +kernel
theorem dL_league_882 : decode cL_league 882 = .ok (.ireturn, 1) := by decide +kernel
theorem dL_law_0 : decode cL_law 0 = .ok (.new 16, 3) := by decide +kernel
theorem dL_law_3 : decode cL_law 3 = .ok (.dup, 1) := by decide +kernel
theorem dL_law_4 : decode cL_law 4 = .ok (.invokespecial 70, 3) := by decide +kernel
theorem dL_law_7 : decode cL_law 7 = .ok (.astore_n 1, 1) := by decide +kernel
theorem dL_law_8 : decode cL_law 8 = .ok (.bipush 48, 2) := by decide +kernel
theorem dL_law_10 : decode cL_law 10 = .ok (.newarray .int, 2) := by decide +kernel
theorem dL_law_12 : decode cL_law 12 = .ok (.astore_n 2, 1) := by decide +kernel
theorem dL_law_13 : decode cL_law 13 = .ok (.bipush 16, 2) := by decide +kernel
theorem dL_law_15 : decode cL_law 15 = .ok (.newarray .int, 2) := by decide +kernel
theorem dL_law_17 : decode cL_law 17 = .ok (.astore_n 3, 1) := by decide +kernel
theorem dL_law_18 : decode cL_law 18 = .ok (.bipush 32, 2) := by decide +kernel
theorem dL_law_20 : decode cL_law 20 = .ok (.newarray .int, 2) := by decide +kernel
theorem dL_law_22 : decode cL_law 22 = .ok (.astore 4, 2) := by decide +kernel
theorem dL_law_24 : decode cL_law 24 = .ok (.bipush 11, 2) := by decide +kernel
theorem dL_law_26 : decode cL_law 26 = .ok (.newarray .int, 2) := by decide +kernel
theorem dL_law_28 : decode cL_law 28 = .ok (.astore 5, 2) := by decide +kernel
theorem dL_law_30 : decode cL_law 30 = .ok (.aload 5, 2) := by decide +kernel
theorem dL_law_32 : decode cL_law 32 = .ok (.iconst 0, 1) := by decide +kernel
theorem dL_law_33 : decode cL_law 33 = .ok (.iconst 1, 1) := by decide +kernel
theorem dL_law_34 : decode cL_law 34 = .ok (.iastore, 1) := by decide +kernel
theorem dL_law_35 : decode cL_law 35 = .ok (.aload 5, 2) := by decide +kernel
theorem dL_law_37 : decode cL_law 37 = .ok (.iconst 1, 1) := by decide +kernel
theorem dL_law_38 : decode cL_law 38 = .ok (.iconst 2, 1) := by decide +kernel
theorem dL_law_39 : decode cL_law 39 = .ok (.iastore, 1) := by decide +kernel
theorem dL_law_40 : decode cL_law 40 = .ok (.aload 5, 2) := by decide +kernel
theorem dL_law_42 : decode cL_law 42 = .ok (.iconst 2, 1) := by decide +kernel
theorem dL_law_43 : decode cL_law 43 = .ok (.iconst 2, 1) := by decide +kernel
theorem dL_law_44 : decode cL_law 44 = .ok (.iastore, 1) := by decide +kernel
theorem dL_law_45 : decode cL_law 45 = .ok (.aload 5, 2) := by decide +kernel
theorem dL_law_47 : decode cL_law 47 = .ok (.iconst 3, 1) := by decide +kernel
theorem dL_law_48 : decode cL_law 48 = .ok (.iconst 2, 1) := by decide +kernel
theorem dL_law_49 : decode cL_law 49 = .ok (.iastore, 1) := by decide +kernel
theorem dL_law_50 : decode cL_law 50 = .ok (.iconst 0, 1) := by decide +kernel
theorem dL_law_51 : decode cL_law 51 = .ok (.istore 6, 2) := by decide +kernel
theorem dL_law_53 : decode cL_law 53 = .ok (.iload 6, 2) := by decide +kernel
theorem dL_law_55 : decode cL_law 55 = .ok (.bipush 8, 2) := by decide +kernel
theorem dL_law_57 : decode cL_law 57 = .ok (.if_icmp .ge 19, 3) := by decide +kernel
theorem dL_law_60 : decode cL_law 60 = .ok (.aload_n 2, 1) := by decide +kernel
theorem dL_law_61 : decode cL_law 61 = .ok (.bipush 6, 2) := by decide +kernel
theorem dL_law_63 : decode cL_law 63 = .ok (.iload 6, 2) := by decide +kernel
theorem dL_law_65 : decode cL_law 65 = .ok (.imul, 1) := by decide +kernel
theorem dL_law_66 : decode cL_law 66 = .ok (.iconst 5, 1) := by decide +kernel
theorem dL_law_67 : decode cL_law 67 = .ok (.iadd, 1) := by decide +kernel
theorem dL_law_68 : decode cL_law 68 = .ok (.iconst (-1), 1) := by decide +kernel
theorem dL_law_69 : decode cL_law 69 = .ok (.iastore, 1) := by decide +kernel
theorem dL_law_70 : decode cL_law 70 = .ok (.iinc 6 1, 3) := by decide +kernel
theorem dL_law_73 : decode cL_law 73 = .ok (.goto (-20), 3) := by decide +kernel
theorem dL_law_76 : decode cL_law 76 = .ok (.iconst 0, 1) := by decide +kernel
theorem dL_law_77 : decode cL_law 77 = .ok (.istore 6, 2) := by decide +kernel
theorem dL_law_79 : decode cL_law 79 = .ok (.iload 6, 2) := by decide +kernel
theorem dL_law_81 : decode cL_law 81 = .ok (.bipush 80, 2) := by decide +kernel
theorem dL_law_83 : decode cL_law 83 = .ok (.if_icmp .ge 1316, 3) := by decide +kernel
theorem dL_law_86 : decode cL_law 86 = .ok (.aload_n 0, 1) := by decide +kernel
theorem dL_law_87 : decode cL_law 87 = .ok (.iload 6, 2) := by decide +kernel
theorem dL_law_89 : decode cL_law 89 = .ok (.invokestatic 71, 3) := by decide +kernel
theorem dL_law_92 : decode cL_law 92 = .ok (.istore 7, 2) := by decide +kernel
theorem dL_law_94 : decode cL_law 94 = .ok (.iload 7, 2) := by decide +kernel
theorem dL_law_96 : decode cL_law 96 = .ok (.bipush 20, 2) := by decide +kernel
theorem dL_law_98 : decode cL_law 98 = .ok (.invokestatic 74, 3) := by decide +kernel
theorem dL_law_101 : decode cL_law 101 = .ok (.istore 8, 2) := by decide +kernel
theorem dL_law_103 : decode cL_law 103 = .ok (.iload 7, 2) := by decide +kernel
theorem dL_law_105 : decode cL_law 105 = .ok (.iconst 5, 1) := by decide +kernel
theorem dL_law_106 : decode cL_law 106 = .ok (.ishr, 1) := by decide +kernel
theorem dL_law_107 : decode cL_law 107 = .ok (.iload 7, 2) := by decide +kernel
theorem dL_law_109 : decode cL_law 109 = .ok (.bipush 25, 2) := by decide +kernel
theorem dL_law_111 : decode cL_law 111 = .ok (.ishr, 1) := by decide +kernel
theorem dL_law_112 : decode cL_law 112 = .ok (.iconst 2, 1) := by decide +kernel
theorem dL_law_113 : decode cL_law 113 = .ok (.invokestatic 74, 3) := by decide +kernel
theorem dL_law_116 : decode cL_law 116 = .ok (.ifCond .ne 8, 3) := by decide +kernel
theorem dL_law_119 : decode cL_law 119 = .ok (.bipush 16, 2) := by decide +kernel
theorem dL_law_121 : decode cL_law 121 = .ok (.goto 4, 3) := by decide +kernel
theorem dL_law_124 : decode cL_law 124 = .ok (.iconst 5, 1) := by decide +kernel
theorem dL_law_125 : decode cL_law 125 = .ok (.invokestatic 74, 3) := by decide +kernel
theorem dL_law_128 : decode cL_law 128 = .ok (.istore 9, 2) := by decide +kernel
theorem dL_law_130 : decode cL_law 130 = .ok (.iload 7, 2) := by decide +kernel
theorem dL_law_132 : decode cL_law 132 = .ok (.bipush 9, 2) := by decide +kernel
theorem dL_law_134 : decode cL_law 134 = .ok (.ishr, 1) := by decide +kernel
theorem dL_law_135 : decode cL_law 135 = .ok (.aload 5, 2) := by decide +kernel
theorem dL_law_137 : decode cL_law 137 = .ok (.iconst 4, 1) := by decide +kernel
theorem dL_law_138 : decode cL_law 138 = .ok (.iaload, 1) := by decide +kernel
theorem dL_law_139 : decode cL_law 139 = .ok (.ifCond .ne 7, 3) := by decide +kernel
theorem dL_law_142 : decode cL_law 142 = .ok (.iconst 1, 1) := by decide +kernel
theorem dL_law_143 : decode cL_law 143 = .ok (.goto 7, 3) := by decide +kernel
theorem dL_law_146 : decode cL_law 146 = .ok (.aload 5, 2) := by decide +kernel
theorem dL_law_148 : decode cL_law 148 = .ok (.iconst 4, 1) := by decide +kernel
theorem dL_law_149 : decode cL_law 149 = .ok (.iaload, 1) := by decide +kernel
theorem dL_law_150 : decode cL_law 150 = .ok (.invokestatic 74, 3) := by decide +kernel
theorem dL_law_153 : decode cL_law 153 = .ok (.istore 10, 2) := by decide +kernel
theorem dL_law_155 : decode cL_law 155 = .ok (.sipush (-10003), 3) := by decide +kernel
theorem dL_law_158 : decode cL_law 158 = .ok (.istore 11, 2) := by decide +kernel
theorem dL_law_160 : decode cL_law 160 = .ok (.iconst 1, 1) := by decide +kernel
theorem dL_law_161 : decode cL_law 161 = .ok (.istore 12, 2) := by decide +kernel
theorem dL_law_163 : decode cL_law 163 = .ok (.iload 6, 2) := by decide +kernel
theorem dL_law_165 : decode cL_law 165 = .ok (.iconst 3, 1) := by decide +kernel
theorem dL_law_166 : decode cL_law 166 = .ok (.if_icmp .lt 16, 3) := by decide +kernel
theorem dL_law_169 : decode cL_law 169 = .ok (.iload 8, 2) := by decide +kernel
theorem dL_law_171 : decode cL_law 171 = .ok (.ifCond .ne 76, 3) := by decide +kernel
theorem dL_law_174 : decode cL_law 174 = .ok (.aload 5, 2) := by decide +kernel
theorem dL_law_176 : decode cL_law 176 = .ok (.bipush 6, 2) := by decide +kernel
theorem dL_law_178 : decode cL_law 178 = .ok (.iaload, 1) := by decide +kernel
theorem dL_law_179 : decode cL_law 179 = .ok (.ifCond .ne 68, 3) := by decide +kernel
theorem dL_law_182 : decode cL_law 182 = .ok (.aload 5, 2) := by decide +kernel
theorem dL_law_184 : decode cL_law 184 = .ok (.iconst 4, 1) := by decide +kernel
theorem dL_law_185 : decode cL_law 185 = .ok (.iaload, 1) := by decide +kernel
theorem dL_law_186 : decode cL_law 186 = .ok (.bipush 8, 2) := by decide +kernel
theorem dL_law_188 : decode cL_law 188 = .ok (.if_icmp .ge 7, 3) := by decide +kernel
theorem dL_law_191 : decode cL_law 191 = .ok (.iconst 1, 1) := by decide +kernel
theorem dL_law_192 : decode cL_law 192 = .ok (.goto 4, 3) := by decide +kernel
theorem dL_law_195 : decode cL_law 195 = .ok (.iconst 0, 1) := by decide +kernel
theorem dL_law_196 : decode cL_law 196 = .ok (.istore 13, 2) := by decide +kernel
theorem dL_law_198 : decode cL_law 198 = .ok (.aload_n 1, 1) := by decide +kernel
theorem dL_law_199 : decode cL_law 199 = .ok (.invokevirtual 77, 3) := by decide +kernel
theorem dL_law_202 : decode cL_law 202 = .ok (.iload 13, 2) := by decide +kernel
theorem dL_law_204 : decode cL_law 204 = .ok (.ifCond .eq 10, 3) := by decide +kernel
theorem dL_law_207 : decode cL_law 207 = .ok (.aload 5, 2) := by decide +kernel
theorem dL_law_209 : decode cL_law 209 = .ok (.iconst 4, 1) := by decide +kernel
theorem dL_law_210 : decode cL_law 210 = .ok (.iaload, 1) := by decide +kernel
theorem dL_law_211 : decode cL_law 211 = .ok (.goto 6, 3) := by decide +kernel
theorem dL_law_214 : decode cL_law 214 = .ok (.sipush (-10004), 3) := by decide +kernel
theorem dL_law_217 : decode cL_law 217 = .ok (.if_icmp .ne 7, 3) := by decide +kernel
theorem dL_law_220 : decode cL_law 220 = .ok (.iconst 1, 1) := by decide +kernel
theorem dL_law_221 : decode cL_law 221 = .ok (.goto 4, 3) := by decide +kernel
theorem dL_law_224 : decode cL_law 224 = .ok (.iconst 0, 1) := by decide +kernel
theorem dL_law_225 : decode cL_law 225 = .ok (.istore 12, 2) := by decide +kernel
theorem dL_law_227 : decode cL_law 227 = .ok (.aload 5, 2) := by decide +kernel
theorem dL_law_229 : decode cL_law 229 = .ok (.iconst 4, 1) := by decide +kernel
theorem dL_law_230 : decode cL_law 230 = .ok (.dup2, 1) := by decide +kernel
theorem dL_law_231 : decode cL_law 231 = .ok (.iaload, 1) := by decide +kernel
theorem dL_law_232 : decode cL_law 232 = .ok (.iload 13, 2) := by decide +kernel
theorem dL_law_234 : decode cL_law 234 = .ok (.ifCond .eq 7, 3) := by decide +kernel
theorem dL_law_237 : decode cL_law 237 = .ok (.iconst 1, 1) := by decide +kernel
theorem dL_law_238 : decode cL_law 238 = .ok (.goto 4, 3) := by decide +kernel
theorem dL_law_241 : decode cL_law 241 = .ok (.iconst 0, 1) := by decide +kernel
theorem dL_law_242 : decode cL_law 242 = .ok (.iadd, 1) := by decide +kernel
theorem dL_law_243 : decode cL_law 243 = .ok (.iastore, 1) := by decide +kernel
theorem dL_law_244 : decode cL_law 244 = .ok (.goto 1129, 3) := by decide +kernel
theorem dL_law_247 : decode cL_law 247 = .ok (.iload 8, 2) := by decide +kernel
theorem dL_law_249 : decode cL_law 249 = .ok (.iconst 1, 1) := by decide +kernel
theorem dL_law_250 : decode cL_law 250 = .ok (.if_icmp .ne 106, 3) := by decide +kernel
theorem dL_law_253 : decode cL_law 253 = .ok (.iload 7, 2) := by decide +kernel
theorem dL_law_255 : decode cL_law 255 = .ok (.bipush 9, 2) := by decide +kernel
theorem dL_law_257 : decode cL_law 257 = .ok (.ishr, 1) := by decide +kernel
theorem dL_law_258 : decode cL_law 258 = .ok (.iconst 4, 1) := by decide +kernel
theorem dL_law_259 : decode cL_law 259 = .ok (.invokestatic 74, 3) := by decide +kernel
theorem dL_law_262 : decode cL_law 262 = .ok (.istore 13, 2) := by decide +kernel
theorem dL_law_264 : decode cL_law 264 = .ok (.iload 13, 2) := by decide +kernel
theorem dL_law_266 : decode cL_law 266 = .ok (.ifCond .ne 15, 3) := by decide +kernel
theorem dL_law_269 : decode cL_law 269 = .ok (.iload 7, 2) := by decide +kernel
theorem dL_law_271 : decode cL_law 271 = .ok (.bipush 12, 2) := by decide +kernel
theorem dL_law_273 : decode cL_law 273 = .ok (.ishr, 1) := by decide +kernel
theorem dL_law_274 : decode cL_law 274 = .ok (.iconst 4, 1) := by decide +kernel
theorem dL_law_275 : decode cL_law 275 = .ok (.invokestatic 74, 3) := by decide +kernel
theorem dL_law_278 : decode cL_law 278 = .ok (.goto 32, 3) := by decide +kernel
theorem dL_law_281 : decode cL_law 281 = .ok (.iload 13, 2) := by decide +kernel
theorem dL_law_283 : decode cL_law 283 = .ok (.iconst 2, 1) := by decide +kernel
theorem dL_law_284 : decode cL_law 284 = .ok (.if_icmp .ne 15, 3) := by decide +kernel
theorem dL_law_287 : decode cL_law 287 = .ok (.iload 7, 2) := by decide +kernel
theorem dL_law_289 : decode cL_law 289 = .ok (.bipush 12, 2) := by decide +kernel
theorem dL_law_291 : decode cL_law 291 = .ok (.ishr, 1) := by decide +kernel
theorem dL_law_292 : decode cL_law 292 = .ok (.iconst 5, 1) := by decide +kernel
theorem dL_law_293 : decode cL_law 293 = .ok (.invokestatic 74, 3) := by decide +kernel
theorem dL_law_296 : decode cL_law 296 = .ok (.goto 14, 3) := by decide +kernel
theorem dL_law_299 : decode cL_law 299 = .ok (.iconst 1, 1) := by decide +kernel
theorem dL_law_300 : decode cL_law 300 = .ok (.iload 7, 2) := by decide +kernel
theorem dL_law_302 : decode cL_law 302 = .ok (.bipush 12, 2) := by decide +kernel
theorem dL_law_304 : decode cL_law 304 = .ok (.ishr, 1) := by decide +kernel
theorem dL_law_305 : decode cL_law 305 = .ok (.iconst 4, 1) := by decide +kernel
theorem dL_law_306 : decode cL_law 306 = .ok (.invokestatic 74, 3) := by decide +kernel
theorem dL_law_309 : decode cL_law 309 = .ok (.iadd, 1) := by decide +kernel
theorem dL_law_310 : decode cL_law 310 = .ok (.istore 14, 2) := by decide +kernel
theorem dL_law_312 : decode cL_law 312 = .ok (.aload_n 1, 1) := by decide +kernel
theorem dL_law_313 : decode cL_law 313 = .ok (.iload 13, 2) := by decide +kernel
theorem dL_law_315 : decode cL_law 315 = .ok (.iload 14, 2) := by decide +kernel
theorem dL_law_317 : decode cL_law 317 = .ok (.invokevirtual 80, 3) := by decide +kernel
theorem dL_law_320 : decode cL_law 320 = .ok (.aload 5, 2) := by decide +kernel
theorem dL_law_322 : decode cL_law 322 = .ok (.iload 13, 2) := by decide +kernel
theorem dL_law_324 : decode cL_law 324 = .ok (.iaload, 1) := by decide +kernel
theorem dL_law_325 : decode cL_law 325 = .ok (.if_icmp .ne 18, 3) := by decide +kernel
theorem dL_law_328 : decode cL_law 328 = .ok (.aload_n 1, 1) := by decide +kernel
theorem dL_law_329 : decode cL_law 329 = .ok (.iload 13, 2) := by decide +kernel
theorem dL_law_331 : decode cL_law 331 = .ok (.invokevirtual 83, 3) := by decide +kernel
theorem dL_law_334 : decode cL_law 334 = .ok (.iload 14, 2) := by decide +kernel
theorem dL_law_336 : decode cL_law 336 = .ok (.if_icmp .ne 7, 3) := by decide +kernel
theorem dL_law_339 : decode cL_law 339 = .ok (.iconst 1, 1) := by decide +kernel
theorem dL_law_340 : decode cL_law 340 = .ok (.goto 4, 3) := by decide +kernel
theorem dL_law_343 : decode cL_law 343 = .ok (.iconst 0, 1) := by decide +kernel
theorem dL_law_344 : decode cL_law 344 = .ok (.istore 12, 2) := by decide +kernel
theorem dL_law_346 : decode cL_law 346 = .ok (.aload 5, 2) := by decide +kernel
theorem dL_law_348 : decode cL_law 348 = .ok (.iload 13, 2) := by decide +kernel
theorem dL_law_350 : decode cL_law 350 = .ok (.iload 14, 2) := by decide +kernel
theorem dL_law_352 : decode cL_law 352 = .ok (.iastore, 1) := by decide +kernel
theorem dL_law_353 : decode cL_law 353 = .ok (.goto 1020, 3) := by decide +kernel
theorem dL_law_356 : decode cL_law 356 = .ok (.aload 5, 2) := by decide +kernel
theorem dL_law_358 : decode cL_law 358 = .ok (.bipush 6, 2) := by decide +kernel
theorem dL_law_360 : decode cL_law 360 = .ok (.iaload, 1) := by decide +kernel
theorem dL_law_361 : decode cL_law 361 = .ok (.ifCond .ne 160, 3) := by decide +kernel
theorem dL_law_364 : decode cL_law 364 = .ok (.iconst 1, 1) := by decide +kernel
theorem dL_law_365 : decode cL_law 365 = .ok (.iload 7, 2) := by decide +kernel
theorem dL_law_367 : decode cL_law 367 = .ok (.bipush 12, 2) := by decide +kernel
theorem dL_law_369 : decode cL_law 369 = .ok (.ishr, 1) := by decide +kernel
theorem dL_law_370 : decode cL_law 370 = .ok (.bipush 8, 2) := by decide +kernel
theorem dL_law_372 : decode cL_law 372 = .ok (.invokestatic 74, 3) := by decide +kernel
theorem dL_law_375 : decode cL_law 375 = .ok (.iadd, 1) := by decide +kernel
theorem dL_law_376 : decode cL_law 376 = .ok (.istore 13, 2) := by decide +kernel
theorem dL_law_378 : decode cL_law 378 = .ok (.aload 5, 2) := by decide +kernel
theorem dL_law_380 : decode cL_law 380 = .ok (.bipush 6, 2) := by decide +kernel
theorem dL_law_382 : decode cL_law 382 = .ok (.iconst 1, 1) := by decide +kernel
theorem dL_law_383 : decode cL_law 383 = .ok (.iastore, 1) := by decide +kernel
theorem dL_law_384 : decode cL_law 384 = .ok (.aload 5, 2) := by decide +kernel
theorem dL_law_386 : decode cL_law 386 = .ok (.bipush 7, 2) := by decide +kernel
theorem dL_law_388 : decode cL_law 388 = .ok (.iload 10, 2) := by decide +kernel
theorem dL_law_390 : decode cL_law 390 = .ok (.iastore, 1) := by decide +kernel
theorem dL_law_391 : decode cL_law 391 = .ok (.aload 5, 2) := by decide +kernel
theorem dL_law_393 : decode cL_law 393 = .ok (.bipush 8, 2) := by decide +kernel
theorem dL_law_395 : decode cL_law 395 = .ok (.iload 13, 2) := by decide +kernel
theorem dL_law_397 : decode cL_law 397 = .ok (.iastore, 1) := by decide +kernel
theorem dL_law_398 : decode cL_law 398 = .ok (.aload 5, 2) := by decide +kernel
theorem dL_law_400 : decode cL_law 400 = .ok (.bipush 9, 2) := by decide +kernel
theorem dL_law_402 : decode cL_law 402 = .ok (.iconst 0, 1) := by decide +kernel
theorem dL_law_403 : decode cL_law 403 = .ok (.iastore, 1) := by decide +kernel
theorem dL_law_404 : decode cL_law 404 = .ok (.aload_n 2, 1) := by decide +kernel
theorem dL_law_405 : decode cL_law 405 = .ok (.bipush 6, 2) := by decide +kernel
theorem dL_law_407 : decode cL_law 407 = .ok (.iload 10, 2) := by decide +kernel
theorem dL_law_409 : decode cL_law 409 = .ok (.imul, 1) := by decide +kernel
theorem dL_law_410 : decode cL_law 410 = .ok (.iconst 1, 1) := by decide +kernel
theorem dL_law_411 : decode cL_law 411 = .ok (.iadd, 1) := by decide +kernel
theorem dL_law_412 : decode cL_law 412 = .ok (.dup2, 1) := by decide +kernel
theorem dL_law_413 : decode cL_law 413 = .ok (.iaload, 1) := by decide +kernel
theorem dL_law_414 : decode cL_law 414 = .ok (.iconst 1, 1) := by decide +kernel
theorem dL_law_415 : decode cL_law 415 = .ok (.iadd, 1) := by decide +kernel
theorem dL_law_416 : decode cL_law 416 = .ok (.iastore, 1) := by decide +kernel
theorem dL_law_417 : decode cL_law 417 = .ok (.iconst 0, 1) := by decide +kernel
theorem dL_law_418 : decode cL_law 418 = .ok (.istore 14, 2) := by decide +kernel
theorem dL_law_420 : decode cL_law 420 = .ok (.iconst 0, 1) := by decide +kernel
theorem dL_law_421 : decode cL_law 421 = .ok (.istore 15, 2) := by decide +kernel
theorem dL_law_423 : decode cL_law 423 = .ok (.iload 15, 2) := by decide +kernel
theorem dL_law_425 : decode cL_law 425 = .ok (.bipush 16, 2) := by decide +kernel
theorem dL_law_427 : decode cL_law 427 = .ok (.if_icmp .ge 31, 3) := by decide +kernel
theorem dL_law_430 : decode cL_law 430 = .ok (.iload 14, 2) := by decide +kernel
theorem dL_law_432 : decode cL_law 432 = .ok (.aload 4, 2) := by decide +kernel
theorem dL_law_434 : decode cL_law 434 = .ok (.aload 5, 2) := by decide +kernel
theorem dL_law_436 : decode cL_law 436 = .ok (.iload 15, 2) := by decide +kernel
theorem dL_law_438 : decode cL_law 438 = .ok (.invokestatic 36, 3) := by decide +kernel
theorem dL_law_441 : decode cL_law 441 = .ok (.ifCond .eq 7, 3) := by decide +kernel
theorem dL_law_444 : decode cL_law 444 = .ok (.iconst 1, 1) := by decide +kernel
theorem dL_law_445 : decode cL_law 445 = .ok (.goto 4, 3) := by decide +kernel
theorem dL_law_448 : decode cL_law 448 = .ok (.iconst 0, 1) := by decide +kernel
theorem dL_law_449 : decode cL_law 449 = .ok (.iadd, 1) := by decide +kernel
theorem dL_law_450 : decode cL_law 450 = .ok (.istore 14, 2) := by decide +kernel
theorem dL_law_452 : decode cL_law 452 = .ok (.iinc 15 1, 3) := by decide +kernel
theorem dL_law_455 : decode cL_law 455 = .ok (.goto (-32), 3) := by decide +kernel
theorem dL_law_458 : decode cL_law 458 = .ok (.aload_n 1, 1) := by decide +kernel
theorem dL_law_459 : decode cL_law 459 = .ok (.iconst 1, 1) := by decide +kernel
theorem dL_law_460 : decode cL_law 460 = .ok (.invokevirtual 86, 3) := by decide +kernel
theorem dL_law_463 : decode cL_law 463 = .ok (.iload 11, 2) := by decide +kernel
theorem dL_law_465 : decode cL_law 465 = .ok (.if_icmp .ne 50, 3) := by decide +kernel
theorem dL_law_468 : decode cL_law 468 = .ok (.aload_n 1, 1) := by decide +kernel
theorem dL_law_469 : decode cL_law 469 = .ok (.invokevirtual 89, 3) := by decide +kernel
theorem dL_law_472 : decode cL_law 472 = .ok (.iload 11, 2) := by decide +kernel
theorem dL_law_474 : decode cL_law 474 = .ok (.if_icmp .ne 41, 3) := by decide +kernel
theorem dL_law_477 : decode cL_law 477 = .ok (.aload_n 1, 1) := by decide +kernel
theorem dL_law_478 : decode cL_law 478 = .ok (.iload 10, 2) := by decide +kernel
theorem dL_law_480 : decode cL_law 480 = .ok (.iload 13, 2) := by decide +kernel
theorem dL_law_482 : decode cL_law 482 = .ok (.invokevirtual 92, 3) := by decide +kernel
theorem dL_law_485 : decode cL_law 485 = .ok (.iload 14, 2) := by decide +kernel
theorem dL_law_487 : decode cL_law 487 = .ok (.if_icmp .ne 28, 3) := by decide +kernel
theorem dL_law_490 : decode cL_law 490 = .ok (.aload_n 1, 1) := by decide +kernel
theorem dL_law_491 : decode cL_law 491 = .ok (.iload 10, 2) := by decide +kernel
theorem dL_law_493 : decode cL_law 493 = .ok (.iconst 1, 1) := by decide +kernel
theorem dL_law_494 : decode cL_law 494 = .ok (.invokevirtual 92, 3) := by decide +kernel
theorem dL_law_497 : decode cL_law 497 = .ok (.iload 11, 2) := by decide +kernel
theorem dL_law_499 : decode cL_law 499 = .ok (.if_icmp .ne 16, 3) := by decide +kernel
theorem dL_law_502 : decode cL_law 502 = .ok (.aload_n 1, 1) := by decide +kernel
theorem dL_law_503 : decode cL_law 503 = .ok (.invokevirtual 77, 3) := by decide +kernel
theorem dL_law_506 : decode cL_law 506 = .ok (.iload 11, 2) := by decide +kernel
theorem dL_law_508 : decode cL_law 508 = .ok (.if_icmp .ne 7, 3) := by decide +kernel
theorem dL_law_511 : decode cL_law 511 = .ok (.iconst 1, 1) := by decide +kernel
theorem dL_law_512 : decode cL_law 512 = .ok (.goto 4, 3) := by decide +kernel
theorem dL_law_515 : decode cL_law 515 = .ok (.iconst 0, 1) := by decide +kernel
theorem dL_law_516 : decode cL_law 516 = .ok (.istore 12, 2) := by decide +kernel
theorem dL_law_518 : decode cL_law 518 = .ok (.goto 855, 3) := by decide +kernel
theorem dL_law_521 : decode cL_law 521 = .ok (.aload 5, 2) := by decide +kernel
theorem dL_law_523 : decode cL_law 523 = .ok (.bipush 6, 2) := by decide +kernel
theorem dL_law_525 : decode cL_law 525 = .ok (.iaload, 1) := by decide +kernel
theorem dL_law_526 : decode cL_law 526 = .ok (.iconst 1, 1) := by decide +kernel
theorem dL_law_527 : decode cL_law 527 = .ok (.if_icmp .ne 152, 3) := by decide +kernel
theorem dL_law_530 : decode cL_law 530 = .ok (.iload 8, 2) := by decide +kernel
theorem dL_law_532 : decode cL_law 532 = .ok (.bipush 15, 2) := by decide +kernel
theorem dL_law_534 : decode cL_law 534 = .ok (.if_icmp .ge 145, 3) := by decide +kernel
theorem dL_law_537 : decode cL_law 537 = .ok (.iload 10, 2) := by decide +kernel
theorem dL_law_539 : decode cL_law 539 = .ok (.aload 5, 2) := by decide +kernel
theorem dL_law_541 : decode cL_law 541 = .ok (.bipush 7, 2) := by decide +kernel
theorem dL_law_543 : decode cL_law 543 = .ok (.iaload, 1) := by decide +kernel
theorem dL_law_544 : decode cL_law 544 = .ok (.if_icmp .eq 31, 3) := by decide +kernel
theorem dL_law_547 : decode cL_law 547 = .ok (.aload_n 2, 1) := by decide +kernel
theorem dL_law_548 : decode cL_law 548 = .ok (.bipush 6, 2) := by decide +kernel
theorem dL_law_550 : decode cL_law 550 = .ok (.iload 10, 2) := by decide +kernel
theorem dL_law_552 : decode cL_law 552 = .ok (.imul, 1) := by decide +kernel
theorem dL_law_553 : decode cL_law 553 = .ok (.iconst 5, 1) := by decide +kernel
theorem dL_law_554 : decode cL_law 554 = .ok (.iadd, 1) := by decide +kernel
theorem dL_law_555 : decode cL_law 555 = .ok (.iaload, 1) := by decide +kernel
theorem dL_law_556 : decode cL_law 556 = .ok (.ifCond .ge 19, 3) := by decide +kernel
theorem dL_law_559 : decode cL_law 559 = .ok (.aload 4, 2) := by decide +kernel
theorem dL_law_561 : decode cL_law 561 = .ok (.aload 5, 2) := by decide +kernel
theorem dL_law_563 : decode cL_law 563 = .ok (.iload 9, 2) := by decide +kernel
theorem dL_law_565 : decode cL_law 565 = .ok (.invokestatic 36, 3) := by decide +kernel
theorem dL_law_568 : decode cL_law 568 = .ok (.ifCond .eq 7, 3) := by decide +kernel
theorem dL_law_571 : decode cL_law 571 = .ok (.iconst 1, 1) := by decide +kernel
theorem dL_law_572 : decode cL_law 572 = .ok (.goto 4, 3) := by decide +kernel
theorem dL_law_575 : decode cL_law 575 = .ok (.iconst 0, 1) := by decide +kernel
theorem dL_law_576 : decode cL_law 576 = .ok (.istore 13, 2) := by decide +kernel
theorem dL_law_578 : decode cL_law 578 = .ok (.aload_n 2, 1) := by decide +kernel
theorem dL_law_579 : decode cL_law 579 = .ok (.iload 9, 2) := by decide +kernel
theorem dL_law_581 : decode cL_law 581 = .ok (.invokestatic 32, 3) := by decide +kernel
theorem dL_law_584 : decode cL_law 584 = .ok (.invokestatic 40, 3) := by decide +kernel
theorem dL_law_587 : decode cL_law 587 = .ok (.iconst 2, 1) := by decide +kernel
theorem dL_law_588 : decode cL_law 588 = .ok (.if_icmp .ne 7, 3) := by decide +kernel
theorem dL_law_591 : decode cL_law 591 = .ok (.iconst 1, 1) := by decide +kernel
theorem dL_law_592 : decode cL_law 592 = .ok (.goto 4, 3) := by decide +kernel
theorem dL_law_595 : decode cL_law 595 = .ok (.iconst 0, 1) := by decide +kernel
theorem dL_law_596 : decode cL_law 596 = .ok (.istore 14, 2) := by decide +kernel
theorem dL_law_598 : decode cL_law 598 = .ok (.aload_n 1, 1) := by decide +kernel
theorem dL_law_599 : decode cL_law 599 = .ok (.iload 10, 2) := by decide +kernel
theorem dL_law_601 : decode cL_law 601 = .ok (.iload 9, 2) := by decide +kernel
theorem dL_law_603 : decode cL_law 603 = .ok (.invokevirtual 95, 3) := by decide +kernel
theorem dL_law_606 : decode cL_law 606 = .ok (.iload 13, 2) := by decide +kernel
theorem dL_law_608 : decode cL_law 608 = .ok (.ifCond .ne 8, 3) := by decide +kernel
theorem dL_law_611 : decode cL_law 611 = .ok (.iload 11, 2) := by decide +kernel
theorem dL_law_613 : decode cL_law 613 = .ok (.goto 20, 3) := by decide +kernel
theorem dL_law_616 : decode cL_law 616 = .ok (.iload 14, 2) := by decide +kernel
theorem dL_law_618 : decode cL_law 618 = .ok (.ifCond .eq 9, 3) := by decide +kernel
theorem dL_law_621 : decode cL_law 621 = .ok (.sipush (-10004), 3) := by decide +kernel
theorem dL_law_624 : decode cL_law 624 = .ok (.goto 9, 3) := by decide +kernel
theorem dL_law_627 : decode cL_law 627 = .ok (.iconst 0, 1) := by decide +kernel
theorem dL_law_628 : decode cL_law 628 = .ok (.iload 9, 2) := by decide +kernel
theorem dL_law_630 : decode cL_law 630 = .ok (.invokestatic 10, 3) := by decide +kernel
theorem dL_law_633 : decode cL_law 633 = .ok (.if_icmp .ne 7, 3) := by decide +kernel
theorem dL_law_636 : decode cL_law 636 = .ok (.iconst 1, 1) := by decide +kernel
theorem dL_law_637 : decode cL_law 637 = .ok (.goto 4, 3) := by decide +kernel
theorem dL_law_640 : decode cL_law 640 = .ok (.iconst 0, 1) := by decide +kernel
theorem dL_law_641 : decode cL_law 641 = .ok (.istore 12, 2) := by decide +kernel
theorem dL_law_643 : decode cL_law 643 = .ok (.aload_n 2, 1) := by decide +kernel
theorem dL_law_644 : decode cL_law 644 = .ok (.bipush 6, 2) := by decide +kernel
theorem dL_law_646 : decode cL_law 646 = .ok (.iload 10, 2) := by decide +kernel
theorem dL_law_648 : decode cL_law 648 = .ok (.imul, 1) := by decide +kernel
theorem dL_law_649 : decode cL_law 649 = .ok (.iconst 5, 1) := by decide +kernel
theorem dL_law_650 : decode cL_law 650 = .ok (.iadd, 1) := by decide +kernel
theorem dL_law_651 : decode cL_law 651 = .ok (.iload 13, 2) := by decide +kernel
theorem dL_law_653 : decode cL_law 653 = .ok (.ifCond .eq 13, 3) := by decide +kernel
theorem dL_law_656 : decode cL_law 656 = .ok (.iload 14, 2) := by decide +kernel
theorem dL_law_658 : decode cL_law 658 = .ok (.ifCond .ne 8, 3) := by decide +kernel
theorem dL_law_661 : decode cL_law 661 = .ok (.iload 9, 2) := by decide +kernel
theorem dL_law_663 : decode cL_law 663 = .ok (.goto 12, 3) := by decide +kernel
theorem dL_law_666 : decode cL_law 666 = .ok (.aload_n 2, 1) := by decide +kernel
theorem dL_law_667 : decode cL_law 667 = .ok (.bipush 6, 2) := by decide +kernel
theorem dL_law_669 : decode cL_law 669 = .ok (.iload 10, 2) := by decide +kernel
theorem dL_law_671 : decode cL_law 671 = .ok (.imul, 1) := by decide +kernel
theorem dL_law_672 : decode cL_law 672 = .ok (.iconst 5, 1) := by decide +kernel
theorem dL_law_673 : decode cL_law 673 = .ok (.iadd, 1) := by decide +kernel
theorem dL_law_674 : decode cL_law 674 = .ok (.iaload, 1) := by decide +kernel
theorem dL_law_675 : decode cL_law 675 = .ok (.iastore, 1) := by decide +kernel
theorem dL_law_676 : decode cL_law 676 = .ok (.goto 697, 3) := by decide +kernel
theorem dL_law_679 : decode cL_law 679 = .ok (.aload 5, 2) := by decide +kernel
theorem dL_law_681 : decode cL_law 681 = .ok (.bipush 6, 2) := by decide +kernel
theorem dL_law_683 : decode cL_law 683 = .ok (.iaload, 1) := by decide +kernel
theorem dL_law_684 : decode cL_law 684 = .ok (.iconst 1, 1) := by decide +kernel
theorem dL_law_685 : decode cL_law 685 = .ok (.if_icmp .ne 48, 3) := by decide +kernel
theorem dL_law_688 : decode cL_law 688 = .ok (.aload_n 2, 1) := by decide +kernel
theorem dL_law_689 : decode cL_law 689 = .ok (.invokestatic 66, 3) := by decide +kernel
theorem dL_law_692 : decode cL_law 692 = .ok (.istore 13, 2) := by decide +kernel
theorem dL_law_694 : decode cL_law 694 = .ok (.aload 5, 2) := by decide +kernel
theorem dL_law_696 : decode cL_law 696 = .ok (.bipush 6, 2) := by decide +kernel
theorem dL_law_698 : decode cL_law 698 = .ok (.iconst 2, 1) := by decide +kernel
theorem dL_law_699 : decode cL_law 699 = .ok (.iastore, 1) := by decide +kernel
theorem dL_law_700 : decode cL_law 700 = .ok (.aload_n 1, 1) := by decide +kernel
theorem dL_law_701 : decode cL_law 701 = .ok (.invokevirtual 89, 3) := by decide +kernel
theorem dL_law_704 : decode cL_law 704 = .ok (.iload 13, 2) := by decide +kernel
theorem dL_law_706 : decode cL_law 706 = .ok (.if_icmp .ne 7, 3) := by decide +kernel
theorem dL_law_709 : decode cL_law 709 = .ok (.iconst 1, 1) := by decide +kernel
theorem dL_law_710 : decode cL_law 710 = .ok (.goto 4, 3) := by decide +kernel
theorem dL_law_713 : decode cL_law 713 = .ok (.iconst 0, 1) := by decide +kernel
theorem dL_law_714 : decode cL_law 714 = .ok (.istore 12, 2) := by decide +kernel
theorem dL_law_716 : decode cL_law 716 = .ok (.iload 13, 2) := by decide +kernel
theorem dL_law_718 : decode cL_law 718 = .ok (.ifCond .ne 12, 3) := by decide +kernel
theorem dL_law_721 : decode cL_law 721 = .ok (.aload_n 2, 1) := by decide +kernel
theorem dL_law_722 : decode cL_law 722 = .ok (.aload_n 3, 1) := by decide +kernel
theorem dL_law_723 : decode cL_law 723 = .ok (.aload 4, 2) := by decide +kernel
theorem dL_law_725 : decode cL_law 725 = .ok (.aload 5, 2) := by decide +kernel
theorem dL_law_727 : decode cL_law 727 = .ok (.invokestatic 98, 3) := by decide +kernel
theorem dL_law_730 : decode cL_law 730 = .ok (.goto 643, 3) := by decide +kernel
theorem dL_law_733 : decode cL_law 733 = .ok (.iload 8, 2) := by decide +kernel
theorem dL_law_735 : decode cL_law 735 = .ok (.bipush 7, 2) := by decide +kernel
theorem dL_law_737 : decode cL_law 737 = .ok (.if_icmp .ge 59, 3) := by decide +kernel
theorem dL_law_740 : decode cL_law 740 = .ok (.iload 7, 2) := by decide +kernel
theorem dL_law_742 : decode cL_law 742 = .ok (.bipush 12, 2) := by decide +kernel
theorem dL_law_744 : decode cL_law 744 = .ok (.ishr, 1) := by decide +kernel
theorem dL_law_745 : decode cL_law 745 = .ok (.iconst 3, 1) := by decide +kernel
theorem dL_law_746 : decode cL_law 746 = .ok (.invokestatic 74, 3) := by decide +kernel
theorem dL_law_749 : decode cL_law 749 = .ok (.iconst 1, 1) := by decide +kernel
theorem dL_law_750 : decode cL_law 750 = .ok (.isub, 1) := by decide +kernel
theorem dL_law_751 : decode cL_law 751 = .ok (.istore 13, 2) := by decide +kernel
theorem dL_law_753 : decode cL_law 753 = .ok (.aload 5, 2) := by decide +kernel
theorem dL_law_755 : decode cL_law 755 = .ok (.bipush 9, 2) := by decide +kernel
theorem dL_law_757 : decode cL_law 757 = .ok (.aload 5, 2) := by decide +kernel
theorem dL_law_759 : decode cL_law 759 = .ok (.bipush 9, 2) := by decide +kernel
theorem dL_law_761 : decode cL_law 761 = .ok (.iaload, 1) := by decide +kernel
theorem dL_law_762 : decode cL_law 762 = .ok (.iload 13, 2) := by decide +kernel
theorem dL_law_764 : decode cL_law 764 = .ok (.iadd, 1) := by decide +kernel
theorem dL_law_765 : decode cL_law 765 = .ok (.bipush 16, 2) := by decide +kernel
theorem dL_law_767 : decode cL_law 767 = .ok (.iadd, 1) := by decide +kernel
theorem dL_law_768 : decode cL_law 768 = .ok (.bipush 16, 2) := by decide +kernel
theorem dL_law_770 : decode cL_law 770 = .ok (.irem, 1) := by decide +kernel
theorem dL_law_771 : decode cL_law 771 = .ok (.iastore, 1) := by decide +kernel
theorem dL_law_772 : decode cL_law 772 = .ok (.aload_n 1, 1) := by decide +kernel
theorem dL_law_773 : decode cL_law 773 = .ok (.iload 13, 2) := by decide +kernel
theorem dL_law_775 : decode cL_law 775 = .ok (.invokevirtual 86, 3) := by decide +kernel
theorem dL_law_778 : decode cL_law 778 = .ok (.aload 5, 2) := by decide +kernel
theorem dL_law_780 : decode cL_law 780 = .ok (.bipush 9, 2) := by decide +kernel
theorem dL_law_782 : decode cL_law 782 = .ok (.iaload, 1) := by decide +kernel
theorem dL_law_783 : decode cL_law 783 = .ok (.if_icmp .ne 7, 3) := by decide +kernel
theorem dL_law_786 : decode cL_law 786 = .ok (.iconst 1, 1) := by decide +kernel
theorem dL_law_787 : decode cL_law 787 = .ok (.goto 4, 3) := by decide +kernel
theorem dL_law_790 : decode cL_law 790 = .ok (.iconst 0, 1) := by decide +kernel
theorem dL_law_791 : decode cL_law 791 = .ok (.istore 12, 2) := by decide +kernel
theorem dL_law_793 : decode cL_law 793 = .ok (.goto 580, 3) := by decide +kernel
theorem dL_law_796 : decode cL_law 796 = .ok (.iload 8, 2) := by decide +kernel
theorem dL_law_798 : decode cL_law 798 = .ok (.bipush 16, 2) := by decide +kernel
theorem dL_law_800 : decode cL_law 800 = .ok (.if_icmp .ge 386, 3) := by decide +kernel
theorem dL_law_803 : decode cL_law 803 = .ok (.iload 7, 2) := by decide +kernel
theorem dL_law_805 : decode cL_law 805 = .ok (.bipush 13, 2) := by decide +kernel
theorem dL_law_807 : decode cL_law 807 = .ok (.ishr, 1) := by decide +kernel
theorem dL_law_808 : decode cL_law 808 = .ok (.iconst 3, 1) := by decide +kernel
theorem dL_law_809 : decode cL_law 809 = .ok (.invokestatic 74, 3) := by decide +kernel
theorem dL_law_812 : decode cL_law 812 = .ok (.ifCond .eq 15, 3) := by decide +kernel
theorem dL_law_815 : decode cL_law 815 = .ok (.aload_n 2, 1) := by decide +kernel
theorem dL_law_816 : decode cL_law 816 = .ok (.bipush 6, 2) := by decide +kernel
theorem dL_law_818 : decode cL_law 818 = .ok (.iload 10, 2) := by decide +kernel
theorem dL_law_820 : decode cL_law 820 = .ok (.imul, 1) := by decide +kernel
theorem dL_law_821 : decode cL_law 821 = .ok (.iconst 5, 1) := by decide +kernel
theorem dL_law_822 : decode cL_law 822 = .ok (.iadd, 1) := by decide +kernel
theorem dL_law_823 : decode cL_law 823 = .ok (.iaload, 1) := by decide +kernel
theorem dL_law_824 : decode cL_law 824 = .ok (.ifCond .ge 8, 3) := by decide +kernel
theorem dL_law_827 : decode cL_law 827 = .ok (.iload 9, 2) := by decide +kernel
theorem dL_law_829 : decode cL_law 829 = .ok (.goto 12, 3) := by decide +kernel
theorem dL_law_832 : decode cL_law 832 = .ok (.aload_n 2, 1) := by decide +kernel
theorem dL_law_833 : decode cL_law 833 = .ok (.bipush 6, 2) := by decide +kernel
theorem dL_law_835 : decode cL_law 835 = .ok (.iload 10, 2) := by decide +kernel
theorem dL_law_837 : decode cL_law 837 = .ok (.imul, 1) := by decide +kernel
theorem dL_law_838 : decode cL_law 838 = .ok (.iconst 5, 1) := by decide +kernel
theorem dL_law_839 : decode cL_law 839 = .ok (.iadd, 1) := by decide +kernel
theorem dL_law_840 : decode cL_law 840 = .ok (.iaload, 1) := by decide +kernel
theorem dL_law_841 : decode cL_law 841 = .ok (.istore 13, 2) := by decide +kernel
theorem dL_law_843 : decode cL_law 843 = .ok (.iload 10, 2) := by decide +kernel
theorem dL_law_845 : decode cL_law 845 = .ok (.aload 5, 2) := by decide +kernel
theorem dL_law_847 : decode cL_law 847 = .ok (.bipush 7, 2) := by decide +kernel
theorem dL_law_849 : decode cL_law 849 = .ok (.iaload, 1) := by decide +kernel
theorem dL_law_850 : decode cL_law 850 = .ok (.if_icmp .eq 24, 3) := by decide +kernel
theorem dL_law_853 : decode cL_law 853 = .ok (.iload 13, 2) := by decide +kernel
theorem dL_law_855 : decode cL_law 855 = .ok (.aload 5, 2) := by decide +kernel
theorem dL_law_857 : decode cL_law 857 = .ok (.bipush 9, 2) := by decide +kernel
theorem dL_law_859 : decode cL_law 859 = .ok (.iaload, 1) := by decide +kernel
theorem dL_law_860 : decode cL_law 860 = .ok (.invokestatic 10, 3) := by decide +kernel
theorem dL_law_863 : decode cL_law 863 = .ok (.aload 5, 2) := by decide +kernel
theorem dL_law_865 : decode cL_law 865 = .ok (.iconst 0, 1) := by decide +kernel
theorem dL_law_866 : decode cL_law 866 = .ok (.iaload, 1) := by decide +kernel
theorem dL_law_867 : decode cL_law 867 = .ok (.if_icmp .gt 7, 3) := by decide +kernel
theorem dL_law_870 : decode cL_law 870 = .ok (.iconst 1, 1) := by decide +kernel
theorem dL_law_871 : decode cL_law 871 = .ok (.goto 4, 3) := by decide +kernel
theorem dL_law_874 : decode cL_law 874 = .ok (.iconst 0, 1) := by decide +kernel
theorem dL_law_875 : decode cL_law 875 = .ok (.istore 14, 2) := by decide +kernel
theorem dL_law_877 : decode cL_law 877 = .ok (.iload 14, 2) := by decide +kernel
theorem dL_law_879 : decode cL_law 879 = .ok (.ifCond .eq 21, 3) := by decide +kernel
theorem dL_law_882 : decode cL_law 882 = .ok (.aload_n 2, 1) := by decide +kernel
theorem dL_law_883 : decode cL_law 883 = .ok (.bipush 6, 2) := by decide +kernel
theorem dL_law_885 : decode cL_law 885 = .ok (.iload 10, 2) := by decide +kernel
theorem dL_law_887 : decode cL_law 887 = .ok (.imul, 1) := by decide +kernel
theorem dL_law_888 : decode cL_law 888 = .ok (.iconst 5, 1) := by decide +kernel
theorem dL_law_889 : decode cL_law 889 = .ok (.iadd, 1) := by decide +kernel
theorem dL_law_890 : decode cL_law 890 = .ok (.iaload, 1) := by decide +kernel
theorem dL_law_891 : decode cL_law 891 = .ok (.iload 13, 2) := by decide +kernel
theorem dL_law_893 : decode cL_law 893 = .ok (.if_icmp .ne 7, 3) := by decide +kernel
theorem dL_law_896 : decode cL_law 896 = .ok (.iconst 1, 1) := by decide +kernel
theorem dL_law_897 : decode cL_law 897 = .ok (.goto 4, 3) := by decide +kernel
theorem dL_law_900 : decode cL_law 900 = .ok (.iconst 0, 1) := by decide +kernel
theorem dL_law_901 : decode cL_law 901 = .ok (.istore 15, 2) := by decide +kernel
theorem dL_law_903 : decode cL_law 903 = .ok (.bipush 6, 2) := by decide +kernel
theorem dL_law_905 : decode cL_law 905 = .ok (.aload 5, 2) := by decide +kernel
theorem dL_law_907 : decode cL_law 907 = .ok (.bipush 7, 2) := by decide +kernel
theorem dL_law_909 : decode cL_law 909 = .ok (.iaload, 1) := by decide +kernel
theorem dL_law_910 : decode cL_law 910 = .ok (.imul, 1) := by decide +kernel
theorem dL_law_911 : decode cL_law 911 = .ok (.istore 16, 2) := by decide +kernel
theorem dL_law_913 : decode cL_law 913 = .ok (.iload 15, 2) := by decide +kernel
theorem dL_law_915 : decode cL_law 915 = .ok (.ifCond .eq 71, 3) := by decide +kernel
theorem dL_law_918 : decode cL_law 918 = .ok (.aload_n 2, 1) := by decide +kernel
theorem dL_law_919 : decode cL_law 919 = .ok (.bipush 6, 2) := by decide +kernel
theorem dL_law_921 : decode cL_law 921 = .ok (.iload 10, 2) := by decide +kernel
theorem dL_law_923 : decode cL_law 923 = .ok (.imul, 1) := by decide +kernel
theorem dL_law_924 : decode cL_law 924 = .ok (.iconst 5, 1) := by decide +kernel
theorem dL_law_925 : decode cL_law 925 = .ok (.iadd, 1) := by decide +kernel
theorem dL_law_926 : decode cL_law 926 = .ok (.iconst (-1), 1) := by decide +kernel
theorem dL_law_927 : decode cL_law 927 = .ok (.iastore, 1) := by decide +kernel
theorem dL_law_928 : decode cL_law 928 = .ok (.aload_n 2, 1) := by decide +kernel
theorem dL_law_929 : decode cL_law 929 = .ok (.iload 16, 2) := by decide +kernel
theorem dL_law_931 : decode cL_law 931 = .ok (.dup2, 1) := by decide +kernel
theorem dL_law_932 : decode cL_law 932 = .ok (.iaload, 1) := by decide +kernel
theorem dL_law_933 : decode cL_law 933 = .ok (.iconst 2, 1) := by decide +kernel
theorem dL_law_934 : decode cL_law 934 = .ok (.iadd, 1) := by decide +kernel
theorem dL_law_935 : decode cL_law 935 = .ok (.iastore, 1) := by decide +kernel
theorem dL_law_936 : decode cL_law 936 = .ok (.aload_n 2, 1) := by decide +kernel
theorem dL_law_937 : decode cL_law 937 = .ok (.iload 16, 2) := by decide +kernel
theorem dL_law_939 : decode cL_law 939 = .ok (.iconst 2, 1) := by decide +kernel
theorem dL_law_940 : decode cL_law 940 = .ok (.iadd, 1) := by decide +kernel
theorem dL_law_941 : decode cL_law 941 = .ok (.dup2, 1) := by decide +kernel
theorem dL_law_942 : decode cL_law 942 = .ok (.iaload, 1) := by decide +kernel
theorem dL_law_943 : decode cL_law 943 = .ok (.iconst 1, 1) := by decide +kernel
theorem dL_law_944 : decode cL_law 944 = .ok (.iadd, 1) := by decide +kernel
theorem dL_law_945 : decode cL_law 945 = .ok (.iastore, 1) := by decide +kernel
theorem dL_law_946 : decode cL_law 946 = .ok (.aload_n 3, 1) := by decide +kernel
theorem dL_law_947 : decode cL_law 947 = .ok (.iload 13, 2) := by decide +kernel
theorem dL_law_949 : decode cL_law 949 = .ok (.dup2, 1) := by decide +kernel
theorem dL_law_950 : decode cL_law 950 = .ok (.iaload, 1) := by decide +kernel
theorem dL_law_951 : decode cL_law 951 = .ok (.iconst 1, 1) := by decide +kernel
theorem dL_law_952 : decode cL_law 952 = .ok (.iadd, 1) := by decide +kernel
theorem dL_law_953 : decode cL_law 953 = .ok (.iastore, 1) := by decide +kernel
theorem dL_law_954 : decode cL_law 954 = .ok (.aload 4, 2) := by decide +kernel
theorem dL_law_956 : decode cL_law 956 = .ok (.iconst 2, 1) := by decide +kernel
theorem dL_law_957 : decode cL_law 957 = .ok (.iload 13, 2) := by decide +kernel
theorem dL_law_959 : decode cL_law 959 = .ok (.imul, 1) := by decide +kernel
theorem dL_law_960 : decode cL_law 960 = .ok (.aload_n 3, 1) := by decide +kernel
theorem dL_law_961 : decode cL_law 961 = .ok (.iload 13, 2) := by decide +kernel
theorem dL_law_963 : decode cL_law 963 = .ok (.iaload, 1) := by decide +kernel
theorem dL_law_964 : decode cL_law 964 = .ok (.aload 5, 2) := by decide +kernel
theorem dL_law_966 : decode cL_law 966 = .ok (.iconst 1, 1) := by decide +kernel
theorem dL_law_967 : decode cL_law 967 = .ok (.iaload, 1) := by decide +kernel
theorem dL_law_968 : decode cL_law 968 = .ok (.if_icmp .lt 7, 3) := by decide +kernel
theorem dL_law_971 : decode cL_law 971 = .ok (.iconst 1, 1) := by decide +kernel
theorem dL_law_972 : decode cL_law 972 = .ok (.goto 10, 3) := by decide +kernel
theorem dL_law_975 : decode cL_law 975 = .ok (.aload 4, 2) := by decide +kernel
theorem dL_law_977 : decode cL_law 977 = .ok (.iconst 2, 1) := by decide +kernel
theorem dL_law_978 : decode cL_law 978 = .ok (.iload 13, 2) := by decide +kernel
theorem dL_law_980 : decode cL_law 980 = .ok (.imul, 1) := by decide +kernel
theorem dL_law_981 : decode cL_law 981 = .ok (.iaload, 1) := by decide +kernel
theorem dL_law_982 : decode cL_law 982 = .ok (.iastore, 1) := by decide +kernel
theorem dL_law_983 : decode cL_law 983 = .ok (.goto 35, 3) := by decide +kernel
theorem dL_law_986 : decode cL_law 986 = .ok (.iload 14, 2) := by decide +kernel
theorem dL_law_988 : decode cL_law 988 = .ok (.ifCond .eq 30, 3) := by decide +kernel
theorem dL_law_991 : decode cL_law 991 = .ok (.aload_n 2, 1) := by decide +kernel
theorem dL_law_992 : decode cL_law 992 = .ok (.iload 16, 2) := by decide +kernel
theorem dL_law_994 : decode cL_law 994 = .ok (.dup2, 1) := by decide +kernel
theorem dL_law_995 : decode cL_law 995 = .ok (.iaload, 1) := by decide +kernel
theorem dL_law_996 : decode cL_law 996 = .ok (.iconst 1, 1) := by decide +kernel
theorem dL_law_997 : decode cL_law 997 = .ok (.isub, 1) := by decide +kernel
theorem dL_law_998 : decode cL_law 998 = .ok (.iastore, 1) := by decide +kernel
theorem dL_law_999 : decode cL_law 999 = .ok (.aload_n 2, 1) := by decide +kernel
theorem dL_law_1000 : decode cL_law 1000 = .ok (.iload 16, 2) := by decide +kernel
theorem dL_law_1002 : decode cL_law 1002 = .ok (.iconst 3, 1) := by decide +kernel
theorem dL_law_1003 : decode cL_law 1003 = .ok (.iadd, 1) := by decide +kernel
theorem dL_law_1004 : decode cL_law 1004 = .ok (.dup2, 1) := by decide +kernel
theorem dL_law_1005 : decode cL_law 1005 = .ok (.iaload, 1) := by decide +kernel
theorem dL_law_1006 : decode cL_law 1006 = .ok (.iconst 1, 1) := by decide +kernel
theorem dL_law_1007 : decode cL_law 1007 = .ok (.iadd, 1) := by decide +kernel
theorem dL_law_1008 : decode cL_law 1008 = .ok (.iastore, 1) := by decide +kernel
theorem dL_law_1009 : decode cL_law 1009 = .ok (.aload 5, 2) := by decide +kernel
theorem dL_law_1011 : decode cL_law 1011 = .ok (.bipush 10, 2) := by decide +kernel
theorem dL_law_1013 : decode cL_law 1013 = .ok (.dup2, 1) := by decide +kernel
theorem dL_law_1014 : decode cL_law 1014 = .ok (.iaload, 1) := by decide +kernel
theorem dL_law_1015 : decode cL_law 1015 = .ok (.iconst 1, 1) := by decide +kernel
theorem dL_law_1016 : decode cL_law 1016 = .ok (.iadd, 1) := by decide +kernel
theorem dL_law_1017 : decode cL_law 1017 = .ok (.iastore, 1) := by decide +kernel
theorem dL_law_1018 : decode cL_law 1018 = .ok (.aload_n 1, 1) := by decide +kernel
theorem dL_law_1019 : decode cL_law 1019 = .ok (.iload 10, 2) := by decide +kernel
theorem dL_law_1021 : decode cL_law 1021 = .ok (.iload 13, 2) := by decide +kernel
theorem dL_law_1023 : decode cL_law 1023 = .ok (.invokevirtual 102, 3) := by decide +kernel
theorem dL_law_1026 : decode cL_law 1026 = .ok (.iload 14, 2) := by decide +kernel
theorem dL_law_1028 : decode cL_law 1028 = .ok (.ifCond .ne 8, 3) := by decide +kernel
theorem dL_law_1031 : decode cL_law 1031 = .ok (.iload 11, 2) := by decide +kernel
theorem dL_law_1033 : decode cL_law 1033 = .ok (.goto 13, 3) := by decide +kernel
theorem dL_law_1036 : decode cL_law 1036 = .ok (.iload 15, 2) := by decide +kernel
theorem dL_law_1038 : decode cL_law 1038 = .ok (.ifCond .eq 7, 3) := by decide +kernel
theorem dL_law_1041 : decode cL_law 1041 = .ok (.iconst 1, 1) := by decide +kernel
theorem dL_law_1042 : decode cL_law 1042 = .ok (.goto 4, 3) := by decide +kernel
theorem dL_law_1045 : decode cL_law 1045 = .ok (.iconst 0, 1) := by decide +kernel
theorem dL_law_1046 : decode cL_law 1046 = .ok (.if_icmp .ne 7, 3) := by decide +kernel
theorem dL_law_1049 : decode cL_law 1049 = .ok (.iconst 1, 1) := by decide +kernel
theorem dL_law_1050 : decode cL_law 1050 = .ok (.goto 4, 3) := by decide +kernel
theorem dL_law_1053 : decode cL_law 1053 = .ok (.iconst 0, 1) := by decide +kernel
theorem dL_law_1054 : decode cL_law 1054 = .ok (.istore 12, 2) := by decide +kernel
theorem dL_law_1056 : decode cL_law 1056 = .ok (.iload 14, 2) := by decide +kernel
theorem dL_law_1058 : decode cL_law 1058 = .ok (.ifCond .eq 104, 3) := by decide +kernel
theorem dL_law_1061 : decode cL_law 1061 = .ok (.iload 15, 2) := by decide +kernel
theorem dL_law_1063 : decode cL_law 1063 = .ok (.ifCond .ne 99, 3) := by decide +kernel
theorem dL_law_1066 : decode cL_law 1066 = .ok (.aload 5, 2) := by decide +kernel
theorem dL_law_1068 : decode cL_law 1068 = .ok (.bipush 10, 2) := by decide +kernel
theorem dL_law_1070 : decode cL_law 1070 = .ok (.iaload, 1) := by decide +kernel
theorem dL_law_1071 : decode cL_law 1071 = .ok (.aload 5, 2) := by decide +kernel
theorem dL_law_1073 : decode cL_law 1073 = .ok (.iconst 3, 1) := by decide +kernel
theorem dL_law_1074 : decode cL_law 1074 = .ok (.iaload, 1) := by decide +kernel
theorem dL_law_1075 : decode cL_law 1075 = .ok (.if_icmp .lt 87, 3) := by decide +kernel
theorem dL_law_1078 : decode cL_law 1078 = .ok (.iconst 0, 1) := by decide +kernel
theorem dL_law_1079 : decode cL_law 1079 = .ok (.istore 17, 2) := by decide +kernel
theorem dL_law_1081 : decode cL_law 1081 = .ok (.iload 17, 2) := by decide +kernel
theorem dL_law_1083 : decode cL_law 1083 = .ok (.bipush 8, 2) := by decide +kernel
theorem dL_law_1085 : decode cL_law 1085 = .ok (.if_icmp .ge 65, 3) := by decide +kernel
theorem dL_law_1088 : decode cL_law 1088 = .ok (.aload_n 2, 1) := by decide +kernel
theorem dL_law_1089 : decode cL_law 1089 = .ok (.bipush 6, 2) := by decide +kernel
theorem dL_law_1091 : decode cL_law 1091 = .ok (.iload 17, 2) := by decide +kernel
theorem dL_law_1093 : decode cL_law 1093 = .ok (.imul, 1) := by decide +kernel
theorem dL_law_1094 : decode cL_law 1094 = .ok (.dup2, 1) := by decide +kernel
theorem dL_law_1095 : decode cL_law 1095 = .ok (.iaload, 1) := by decide +kernel
theorem dL_law_1096 : decode cL_law 1096 = .ok (.aload_n 2, 1) := by decide +kernel
theorem dL_law_1097 : decode cL_law 1097 = .ok (.bipush 6, 2) := by decide +kernel
theorem dL_law_1099 : decode cL_law 1099 = .ok (.iload 17, 2) := by decide +kernel
theorem dL_law_1101 : decode cL_law 1101 = .ok (.imul, 1) := by decide +kernel
theorem dL_law_1102 : decode cL_law 1102 = .ok (.iconst 5, 1) := by decide +kernel
theorem dL_law_1103 : decode cL_law 1103 = .ok (.iadd, 1) := by decide +kernel
theorem dL_law_1104 : decode cL_law 1104 = .ok (.iaload, 1) := by decide +kernel
theorem dL_law_1105 : decode cL_law 1105 = .ok (.ifCond .le 7, 3) := by decide +kernel
theorem dL_law_1108 : decode cL_law 1108 = .ok (.iconst 1, 1) := by decide +kernel
theorem dL_law_1109 : decode cL_law 1109 = .ok (.goto 4, 3) := by decide +kernel
theorem dL_law_1112 : decode cL_law 1112 = .ok (.iconst 0, 1) := by decide +kernel
theorem dL_law_1113 : decode cL_law 1113 = .ok (.iadd, 1) := by decide +kernel
theorem dL_law_1114 : decode cL_law 1114 = .ok (.iastore, 1) := by decide +kernel
theorem dL_law_1115 : decode cL_law 1115 = .ok (.aload_n 2, 1) := by decide +kernel
theorem dL_law_1116 : decode cL_law 1116 = .ok (.bipush 6, 2) := by decide +kernel
theorem dL_law_1118 : decode cL_law 1118 = .ok (.iload 17, 2) := by decide +kernel
theorem dL_law_1120 : decode cL_law 1120 = .ok (.imul, 1) := by decide +kernel
theorem dL_law_1121 : decode cL_law 1121 = .ok (.iconst 4, 1) := by decide +kernel
theorem dL_law_1122 : decode cL_law 1122 = .ok (.iadd, 1) := by decide +kernel
theorem dL_law_1123 : decode cL_law 1123 = .ok (.dup2, 1) := by decide +kernel
theorem dL_law_1124 : decode cL_law 1124 = .ok (.iaload, 1) := by decide +kernel
theorem dL_law_1125 : decode cL_law 1125 = .ok (.aload_n 2, 1) := by decide +kernel
theorem dL_law_1126 : decode cL_law 1126 = .ok (.bipush 6, 2) := by decide +kernel
theorem dL_law_1128 : decode cL_law 1128 = .ok (.iload 17, 2) := by decide +kernel
theorem dL_law_1130 : decode cL_law 1130 = .ok (.imul, 1) := by decide +kernel
theorem dL_law_1131 : decode cL_law 1131 = .ok (.iconst 5, 1) := by decide +kernel
theorem dL_law_1132 : decode cL_law 1132 = .ok (.iadd, 1) := by decide +kernel
theorem dL_law_1133 : decode cL_law 1133 = .ok (.iaload, 1) := by decide +kernel
theorem dL_law_1134 : decode cL_law 1134 = .ok (.ifCond .le 7, 3) := by decide +kernel
theorem dL_law_1137 : decode cL_law 1137 = .ok (.iconst 1, 1) := by decide +kernel
theorem dL_law_1138 : decode cL_law 1138 = .ok (.goto 4, 3) := by decide +kernel
theorem dL_law_1141 : decode cL_law 1141 = .ok (.iconst 0, 1) := by decide +kernel
theorem dL_law_1142 : decode cL_law 1142 = .ok (.iadd, 1) := by decide +kernel
theorem dL_law_1143 : decode cL_law 1143 = .ok (.iastore, 1) := by decide +kernel
theorem dL_law_1144 : decode cL_law 1144 = .ok (.iinc 17 1, 3) := by decide +kernel
theorem dL_law_1147 : decode cL_law 1147 = .ok (.goto (-66), 3) := by decide +kernel
theorem dL_law_1150 : decode cL_law 1150 = .ok (.aload_n 2, 1) := by decide +kernel
theorem dL_law_1151 : decode cL_law 1151 = .ok (.aload_n 3, 1) := by decide +kernel
theorem dL_law_1152 : decode cL_law 1152 = .ok (.aload 4, 2) := by decide +kernel
theorem dL_law_1154 : decode cL_law 1154 = .ok (.aload 5, 2) := by decide +kernel
theorem dL_law_1156 : decode cL_law 1156 = .ok (.invokestatic 98, 3) := by decide +kernel
theorem dL_law_1159 : decode cL_law 1159 = .ok (.goto 24, 3) := by decide +kernel
theorem dL_law_1162 : decode cL_law 1162 = .ok (.iload 15, 2) := by decide +kernel
theorem dL_law_1164 : decode cL_law 1164 = .ok (.ifCond .eq 19, 3) := by decide +kernel
theorem dL_law_1167 : decode cL_law 1167 = .ok (.aload_n 2, 1) := by decide +kernel
theorem dL_law_1168 : decode cL_law 1168 = .ok (.invokestatic 66, 3) := by decide +kernel
theorem dL_law_1171 : decode cL_law 1171 = .ok (.ifCond .ne 12, 3) := by decide +kernel
theorem dL_law_1174 : decode cL_law 1174 = .ok (.aload_n 2, 1) := by decide +kernel
theorem dL_law_1175 : decode cL_law 1175 = .ok (.aload_n 3, 1) := by decide +kernel
theorem dL_law_1176 : decode cL_law 1176 = .ok (.aload 4, 2) := by decide +kernel
theorem dL_law_1178 : decode cL_law 1178 = .ok (.aload 5, 2) := by decide +kernel
theorem dL_law_1180 : decode cL_law 1180 = .ok (.invokestatic 98, 3) := by decide +kernel
theorem dL_law_1183 : decode cL_law 1183 = .ok (.goto 190, 3) := by decide +kernel
theorem dL_law_1186 : decode cL_law 1186 = .ok (.aload_n 2, 1) := by decide +kernel
theorem dL_law_1187 : decode cL_law 1187 = .ok (.bipush 6, 2) := by decide +kernel
theorem dL_law_1189 : decode cL_law 1189 = .ok (.iload 10, 2) := by decide +kernel
theorem dL_law_1191 : decode cL_law 1191 = .ok (.imul, 1) := by decide +kernel
theorem dL_law_1192 : decode cL_law 1192 = .ok (.iconst 5, 1) := by decide +kernel
theorem dL_law_1193 : decode cL_law 1193 = .ok (.iadd, 1) := by decide +kernel
theorem dL_law_1194 : decode cL_law 1194 = .ok (.iaload, 1) := by decide +kernel
theorem dL_law_1195 : decode cL_law 1195 = .ok (.ifCond .le 7, 3) := by decide +kernel
theorem dL_law_1198 : decode cL_law 1198 = .ok (.iconst 1, 1) := by decide +kernel
theorem dL_law_1199 : decode cL_law 1199 = .ok (.goto 4, 3) := by decide +kernel
theorem dL_law_1202 : decode cL_law 1202 = .ok (.iconst 0, 1) := by decide +kernel
theorem dL_law_1203 : decode cL_law 1203 = .ok (.istore 13, 2) := by decide +kernel
theorem dL_law_1205 : decode cL_law 1205 = .ok (.iload 13, 2) := by decide +kernel
theorem dL_law_1207 : decode cL_law 1207 = .ok (.ifCond .eq 32, 3) := by decide +kernel
theorem dL_law_1210 : decode cL_law 1210 = .ok (.iconst 0, 1) := by decide +kernel
theorem dL_law_1211 : decode cL_law 1211 = .ok (.aload_n 2, 1) := by decide +kernel
theorem dL_law_1212 : decode cL_law 1212 = .ok (.bipush 6, 2) := by decide +kernel
theorem dL_law_1214 : decode cL_law 1214 = .ok (.iload 10, 2) := by decide +kernel
theorem dL_law_1216 : decode cL_law 1216 = .ok (.imul, 1) := by decide +kernel
theorem dL_law_1217 : decode cL_law 1217 = .ok (.iconst 5, 1) := by decide +kernel
theorem dL_law_1218 : decode cL_law 1218 = .ok (.iadd, 1) := by decide +kernel
theorem dL_law_1219 : decode cL_law 1219 = .ok (.iaload, 1) := by decide +kernel
theorem dL_law_1220 : decode cL_law 1220 = .ok (.invokestatic 10, 3) := by decide +kernel
theorem dL_law_1223 : decode cL_law 1223 = .ok (.iconst 0, 1) := by decide +kernel
theorem dL_law_1224 : decode cL_law 1224 = .ok (.aload 5, 2) := by decide +kernel
theorem dL_law_1226 : decode cL_law 1226 = .ok (.bipush 9, 2) := by decide +kernel
theorem dL_law_1228 : decode cL_law 1228 = .ok (.iaload, 1) := by decide +kernel
theorem dL_law_1229 : decode cL_law 1229 = .ok (.invokestatic 10, 3) := by decide +kernel
theorem dL_law_1232 : decode cL_law 1232 = .ok (.if_icmp .ge 7, 3) := by decide +kernel
theorem dL_law_1235 : decode cL_law 1235 = .ok (.iconst 1, 1) := by decide +kernel
theorem dL_law_1236 : decode cL_law 1236 = .ok (.goto 4, 3) := by decide +kernel
theorem dL_law_1239 : decode cL_law 1239 = .ok (.iconst 0, 1) := by decide +kernel
theorem dL_law_1240 : decode cL_law 1240 = .ok (.istore 14, 2) := by decide +kernel
theorem dL_law_1242 : decode cL_law 1242 = .ok (.iload 14, 2) := by decide +kernel
theorem dL_law_1244 : decode cL_law 1244 = .ok (.ifCond .eq 11, 3) := by decide +kernel
theorem dL_law_1247 : decode cL_law 1247 = .ok (.bipush 6, 2) := by decide +kernel
theorem dL_law_1249 : decode cL_law 1249 = .ok (.iload 10, 2) := by decide +kernel
theorem dL_law_1251 : decode cL_law 1251 = .ok (.imul, 1) := by decide +kernel
theorem dL_law_1252 : decode cL_law 1252 = .ok (.goto 11, 3) := by decide +kernel
theorem dL_law_1255 : decode cL_law 1255 = .ok (.bipush 6, 2) := by decide +kernel
theorem dL_law_1257 : decode cL_law 1257 = .ok (.aload 5, 2) := by decide +kernel
theorem dL_law_1259 : decode cL_law 1259 = .ok (.bipush 7, 2) := by decide +kernel
theorem dL_law_1261 : decode cL_law 1261 = .ok (.iaload, 1) := by decide +kernel
theorem dL_law_1262 : decode cL_law 1262 = .ok (.imul, 1) := by decide +kernel
theorem dL_law_1263 : decode cL_law 1263 = .ok (.istore 15, 2) := by decide +kernel
theorem dL_law_1265 : decode cL_law 1265 = .ok (.iload 13, 2) := by decide +kernel
theorem dL_law_1267 : decode cL_law 1267 = .ok (.ifCond .eq 49, 3) := by decide +kernel
theorem dL_law_1270 : decode cL_law 1270 = .ok (.aload_n 2, 1) := by decide +kernel
theorem dL_law_1271 : decode cL_law 1271 = .ok (.bipush 6, 2) := by decide +kernel
theorem dL_law_1273 : decode cL_law 1273 = .ok (.iload 10, 2) := by decide +kernel
theorem dL_law_1275 : decode cL_law 1275 = .ok (.imul, 1) := by decide +kernel
theorem dL_law_1276 : decode cL_law 1276 = .ok (.iconst 5, 1) := by decide +kernel
theorem dL_law_1277 : decode cL_law 1277 = .ok (.iadd, 1) := by decide +kernel
theorem dL_law_1278 : decode cL_law 1278 = .ok (.iconst (-1), 1) := by decide +kernel
theorem dL_law_1279 : decode cL_law 1279 = .ok (.iastore, 1) := by decide +kernel
theorem dL_law_1280 : decode cL_law 1280 = .ok (.aload_n 2, 1) := by decide +kernel
theorem dL_law_1281 : decode cL_law 1281 = .ok (.iload 15, 2) := by decide +kernel
theorem dL_law_1283 : decode cL_law 1283 = .ok (.dup2, 1) := by decide +kernel
theorem dL_law_1284 : decode cL_law 1284 = .ok (.iaload, 1) := by decide +kernel
theorem dL_law_1285 : decode cL_law 1285 = .ok (.iload 14, 2) := by decide +kernel
theorem dL_law_1287 : decode cL_law 1287 = .ok (.ifCond .eq 7, 3) := by decide +kernel
theorem dL_law_1290 : decode cL_law 1290 = .ok (.iconst 3, 1) := by decide +kernel
theorem dL_law_1291 : decode cL_law 1291 = .ok (.goto 4, 3) := by decide +kernel
theorem dL_law_1294 : decode cL_law 1294 = .ok (.iconst 1, 1) := by decide +kernel
theorem dL_law_1295 : decode cL_law 1295 = .ok (.iadd, 1) := by decide +kernel
theorem dL_law_1296 : decode cL_law 1296 = .ok (.iastore, 1) := by decide +kernel
theorem dL_law_1297 : decode cL_law 1297 = .ok (.aload_n 2, 1) := by decide +kernel
theorem dL_law_1298 : decode cL_law 1298 = .ok (.iload 15, 2) := by decide +kernel
theorem dL_law_1300 : decode cL_law 1300 = .ok (.iload 14, 2) := by decide +kernel
theorem dL_law_1302 : decode cL_law 1302 = .ok (.ifCond .eq 7, 3) := by decide +kernel
theorem dL_law_1305 : decode cL_law 1305 = .ok (.iconst 4, 1) := by decide +kernel
theorem dL_law_1306 : decode cL_law 1306 = .ok (.goto 4, 3) := by decide +kernel
theorem dL_law_1309 : decode cL_law 1309 = .ok (.iconst 2, 1) := by decide +kernel
theorem dL_law_1310 : decode cL_law 1310 = .ok (.iadd, 1) := by decide +kernel
theorem dL_law_1311 : decode cL_law 1311 = .ok (.dup2, 1) := by decide +kernel
theorem dL_law_1312 : decode cL_law 1312 = .ok (.iaload, 1) := by decide +kernel
theorem dL_law_1313 : decode cL_law 1313 = .ok (.iconst 1, 1) := by decide +kernel
theorem dL_law_1314 : decode cL_law 1314 = .ok (.iadd, 1) := by decide +kernel
theorem dL_law_1315 : decode cL_law 1315 = .ok (.iastore, 1) := by decide +kernel
theorem dL_law_1316 : decode cL_law 1316 = .ok (.aload_n 1, 1) := by decide +kernel
theorem dL_law_1317 : decode cL_law 1317 = .ok (.iload 10, 2) := by decide +kernel
theorem dL_law_1319 : decode cL_law 1319 = .ok (.invokevirtual 105, 3) := by decide +kernel
theorem dL_law_1322 : decode cL_law 1322 = .ok (.iload 13, 2) := by decide +kernel
theorem dL_law_1324 : decode cL_law 1324 = .ok (.ifCond .ne 8, 3) := by decide +kernel
theorem dL_law_1327 : decode cL_law 1327 = .ok (.iload 11, 2) := by decide +kernel
theorem dL_law_1329 : decode cL_law 1329 = .ok (.goto 13, 3) := by decide +kernel
theorem dL_law_1332 : decode cL_law 1332 = .ok (.iload 14, 2) := by decide +kernel
theorem dL_law_1334 : decode cL_law 1334 = .ok (.ifCond .eq 7, 3) := by decide +kernel
theorem dL_law_1337 : decode cL_law 1337 = .ok (.iconst 1, 1) := by decide +kernel
theorem dL_law_1338 : decode cL_law 1338 = .ok (.goto 4, 3) := by decide +kernel
theorem dL_law_1341 : decode cL_law 1341 = .ok (.iconst 0, 1) := by decide +kernel
theorem dL_law_1342 : decode cL_law 1342 = .ok (.if_icmp .ne 7, 3) := by decide +kernel
theorem dL_law_1345 : decode cL_law 1345 = .ok (.iconst 1, 1) := by decide +kernel
theorem dL_law_1346 : decode cL_law 1346 = .ok (.goto 4, 3) := by decide +kernel
theorem dL_law_1349 : decode cL_law 1349 = .ok (.iconst 0, 1) := by decide +kernel
theorem dL_law_1350 : decode cL_law 1350 = .ok (.istore 12, 2) := by decide +kernel
theorem dL_law_1352 : decode cL_law 1352 = .ok (.iload 13, 2) := by decide +kernel
theorem dL_law_1354 : decode cL_law 1354 = .ok (.ifCond .eq 19, 3) := by decide +kernel
theorem dL_law_1357 : decode cL_law 1357 = .ok (.aload_n 2, 1) := by decide +kernel
theorem dL_law_1358 : decode cL_law 1358 = .ok (.invokestatic 66, 3) := by decide +kernel
theorem dL_law_1361 : decode cL_law 1361 = .ok (.ifCond .ne 12, 3) := by decide +kernel
theorem dL_law_1364 : decode cL_law 1364 = .ok (.aload_n 2, 1) := by decide +kernel
theorem dL_law_1365 : decode cL_law 1365 = .ok (.aload_n 3, 1) := by decide +kernel
theorem dL_law_1366 : decode cL_law 1366 = .ok (.aload 4, 2) := by decide +kernel
theorem dL_law_1368 : decode cL_law 1368 = .ok (.aload 5, 2) := by decide +kernel
theorem dL_law_1370 : decode cL_law 1370 = .ok (.invokestatic 98, 3) := by decide +kernel
theorem dL_law_1373 : decode cL_law 1373 = .ok (.iload 12, 2) := by decide +kernel
theorem dL_law_1375 : decode cL_law 1375 = .ok (.ifCond .eq 16, 3) := by decide +kernel
theorem dL_law_1378 : decode cL_law 1378 = .ok (.aload_n 1, 1) := by decide +kernel
theorem dL_law_1379 : decode cL_law 1379 = .ok (.aload_n 2, 1) := by decide +kernel
theorem dL_law_1380 : decode cL_law 1380 = .ok (.aload_n 3, 1) := by decide +kernel
theorem dL_law_1381 : decode cL_law 1381 = .ok (.aload 4, 2) := by decide +kernel
theorem dL_law_1383 : decode cL_law 1383 = .ok (.aload 5, 2) := by decide +kernel
theorem dL_law_1385 : decode cL_law 1385 = .ok (.invokestatic 108, 3) := by decide +kernel
theorem dL_law_1388 : decode cL_law 1388 = .ok (.ifCond .ne 5, 3) := by decide +kernel
theorem dL_law_1391 : decode cL_law 1391 = .ok (.iconst 0, 1) := by decide +kernel
theorem dL_law_1392 : decode cL_law 1392 = .ok (.ireturn, 1) := by decide +kernel
theorem dL_law_1393 : decode cL_law 1393 = .ok (.iinc 6 1, 3) := by decide +kernel
theorem dL_law_1396 : decode cL_law 1396 = .ok (.goto (-1317), 3) := by decide +kernel
theorem dL_law_1399 : decode cL_law 1399 = .ok (.iconst 1, 1) := by decide +kernel
theorem dL_law_1400 : decode cL_law 1400 = .ok (.ireturn, 1) := by decide +kernel
