theorem dX0_spotsInSight_0 : decode cX0_spotsInSight 0 = .ok (.aload_n 0, 1) := by decide +kernel
theorem dX0_spotsInSight_1 : decode cX0_spotsInSight 1 = .ok (.getfield 9, 3) := by decide +kernel
theorem dX0_spotsInSight_4 : decode cX0_spotsInSight 4 = .ok (.iconst 2, 1) := by decide +kernel
theorem dX0_spotsInSight_5 : decode cX0_spotsInSight 5 = .ok (.if_icmp .eq 7, 3) := by decide +kernel
theorem dX0_spotsInSight_8 : decode cX0_spotsInSight 8 = .ok (.sipush (-10003), 3) := by decide +kernel
theorem dX0_spotsInSight_11 : decode cX0_spotsInSight 11 = .ok (.ireturn, 1) := by decide +kernel
theorem dX0_spotsInSight_12 : decode cX0_spotsInSight 12 = .ok (.iconst 0, 1) := by decide +kernel
theorem dX0_spotsInSight_13 : decode cX0_spotsInSight 13 = .ok (.istore_n 1, 1) := by decide +kernel
theorem dX0_spotsInSight_14 : decode cX0_spotsInSight 14 = .ok (.iconst 0, 1) := by decide +kernel
theorem dX0_spotsInSight_15 : decode cX0_spotsInSight 15 = .ok (.istore_n 2, 1) := by decide +kernel
theorem dX0_spotsInSight_16 : decode cX0_spotsInSight 16 = .ok (.iload_n 2, 1) := by decide +kernel
theorem dX0_spotsInSight_17 : decode cX0_spotsInSight 17 = .ok (.bipush 16, 2) := by decide +kernel
theorem dX0_spotsInSight_19 : decode cX0_spotsInSight 19 = .ok (.if_icmp .ge 23, 3) := by decide +kernel
theorem dX0_spotsInSight_22 : decode cX0_spotsInSight 22 = .ok (.aload_n 0, 1) := by decide +kernel
theorem dX0_spotsInSight_23 : decode cX0_spotsInSight 23 = .ok (.iload_n 2, 1) := by decide +kernel
theorem dX0_spotsInSight_24 : decode cX0_spotsInSight 24 = .ok (.invokevirtual 17, 3) := by decide +kernel
theorem dX0_spotsInSight_27 : decode cX0_spotsInSight 27 = .ok (.ifCond .eq 9, 3) := by decide +kernel
theorem dX0_spotsInSight_30 : decode cX0_spotsInSight 30 = .ok (.iload_n 1, 1) := by decide +kernel
theorem dX0_spotsInSight_31 : decode cX0_spotsInSight 31 = .ok (.iconst 1, 1) := by decide +kernel
theorem dX0_spotsInSight_32 : decode cX0_spotsInSight 32 = .ok (.iload_n 2, 1) := by decide +kernel
theorem dX0_spotsInSight_33 : decode cX0_spotsInSight 33 = .ok (.ishl, 1) := by decide +kernel
theorem dX0_spotsInSight_34 : decode cX0_spotsInSight 34 = .ok (.ior, 1) := by decide +kernel
theorem dX0_spotsInSight_35 : decode cX0_spotsInSight 35 = .ok (.istore_n 1, 1) := by decide +kernel
theorem dX0_spotsInSight_36 : decode cX0_spotsInSight 36 = .ok (.iinc 2 1, 3) := by decide +kernel
theorem dX0_spotsInSight_39 : decode cX0_spotsInSight 39 = .ok (.goto (-23), 3) := by decide +kernel
theorem dX0_spotsInSight_42 : decode cX0_spotsInSight 42 = .ok (.iload_n 1, 1) := by decide +kernel
theorem dX0_spotsInSight_43 : decode cX0_spotsInSight 43 = .ok (.ireturn, 1) := by decide +kernel
theorem dX0_playersWhoWouldEscape_0 : decode cX0_playersWhoWouldEscape 0 = .ok (.aload_n 0, 1) := by decide +kernel
theorem dX0_playersWhoWouldEscape_1 : decode cX0_playersWhoWouldEscape 1 = .ok (.getfield 9, 3) := by decide +kernel
theorem dX0_playersWhoWouldEscape_4 : decode cX0_playersWhoWouldEscape 4 = .ok (.iconst 2, 1) := by decide +kernel
theorem dX0_playersWhoWouldEscape_5 : decode cX0_playersWhoWouldEscape 5 = .ok (.if_icmp .eq 7, 3) := by decide +kernel
theorem dX0_playersWhoWouldEscape_8 : decode cX0_playersWhoWouldEscape 8 = .ok (.sipush (-10003), 3) := by decide +kernel
theorem dX0_playersWhoWouldEscape_11 : decode cX0_playersWhoWouldEscape 11 = .ok (.ireturn, 1) := by decide +kernel
theorem dX0_playersWhoWouldEscape_12 : decode cX0_playersWhoWouldEscape 12 = .ok (.iconst 0, 1) := by decide +kernel
theorem dX0_playersWhoWouldEscape_13 : decode cX0_playersWhoWouldEscape 13 = .ok (.istore_n 1, 1) := by decide +kernel
theorem dX0_playersWhoWouldEscape_14 : decode cX0_playersWhoWouldEscape 14 = .ok (.iconst 0, 1) := by decide +kernel
theorem dX0_playersWhoWouldEscape_15 : decode cX0_playersWhoWouldEscape 15 = .ok (.istore_n 2, 1) := by decide +kernel
theorem dX0_playersWhoWouldEscape_16 : decode cX0_playersWhoWouldEscape 16 = .ok (.iload_n 2, 1) := by decide +kernel
theorem dX0_playersWhoWouldEscape_17 : decode cX0_playersWhoWouldEscape 17 = .ok (.aload_n 0, 1) := by decide +kernel
theorem dX0_playersWhoWouldEscape_18 : decode cX0_playersWhoWouldEscape 18 = .ok (.getfield 21, 3) := by decide +kernel
theorem dX0_playersWhoWouldEscape_21 : decode cX0_playersWhoWouldEscape 21 = .ok (.if_icmp .ge 23, 3) := by decide +kernel
theorem dX0_playersWhoWouldEscape_24 : decode cX0_playersWhoWouldEscape 24 = .ok (.aload_n 0, 1) := by decide +kernel
theorem dX0_playersWhoWouldEscape_25 : decode cX0_playersWhoWouldEscape 25 = .ok (.iload_n 2, 1) := by decide +kernel
theorem dX0_playersWhoWouldEscape_26 : decode cX0_playersWhoWouldEscape 26 = .ok (.invokevirtual 24, 3) := by decide +kernel
theorem dX0_playersWhoWouldEscape_29 : decode cX0_playersWhoWouldEscape 29 = .ok (.ifCond .eq 9, 3) := by decide +kernel
theorem dX0_playersWhoWouldEscape_32 : decode cX0_playersWhoWouldEscape 32 = .ok (.iload_n 1, 1) := by decide +kernel
theorem dX0_playersWhoWouldEscape_33 : decode cX0_playersWhoWouldEscape 33 = .ok (.iconst 1, 1) := by decide +kernel
theorem dX0_playersWhoWouldEscape_34 : decode cX0_playersWhoWouldEscape 34 = .ok (.iload_n 2, 1) := by decide +kernel
theorem dX0_playersWhoWouldEscape_35 : decode cX0_playersWhoWouldEscape 35 = .ok (.ishl, 1) := by decide +kernel
theorem dX0_playersWhoWouldEscape_36 : decode cX0_playersWhoWouldEscape 36 = .ok (.ior, 1) := by decide +kernel
theorem dX0_playersWhoWouldEscape_37 : decode cX0_playersWhoWouldEscape 37 = .ok (.istore_n 1, 1) := by decide +kernel
theorem dX0_playersWhoWouldEscape_38 : decode cX0_playersWhoWouldEscape 38 = .ok (.iinc 2 1, 3) := by decide +kernel
theorem dX0_playersWhoWouldEscape_41 : decode cX0_playersWhoWouldEscape 41 = .ok (.goto (-25), 3) := by decide +kernel
theorem dX0_playersWhoWouldEscape_44 : decode cX0_playersWhoWouldEscape 44 = .ok (.iload_n 1, 1) := by decide +kernel
theorem dX0_playersWhoWouldEscape_45 : decode cX0_playersWhoWouldEscape 45 = .ok (.ireturn, 1) := by decide +kernel
theorem dX0_bestHidingSpot_0 : decode cX0_bestHidingSpot 0 = .ok (.aload_n 0, 1) := by decide +kernel
theorem dX0_bestHidingSpot_1 : decode cX0_bestHidingSpot 1 = .ok (.getfield 9, 3) := by decide +kernel
theorem dX0_bestHidingSpot_4 : decode cX0_bestHidingSpot 4 = .ok (.iconst 1, 1) := by decide +kernel
theorem dX0_bestHidingSpot_5 : decode cX0_bestHidingSpot 5 = .ok (.if_icmp .eq 7, 3) := by decide +kernel
theorem dX0_bestHidingSpot_8 : decode cX0_bestHidingSpot 8 = .ok (.sipush (-10003), 3) := by decide +kernel
theorem dX0_bestHidingSpot_11 : decode cX0_bestHidingSpot 11 = .ok (.ireturn, 1) := by decide +kernel
theorem dX0_bestHidingSpot_12 : decode cX0_bestHidingSpot 12 = .ok (.sipush (-10006), 3) := by decide +kernel
theorem dX0_bestHidingSpot_15 : decode cX0_bestHidingSpot 15 = .ok (.istore_n 1, 1) := by decide +kernel
theorem dX0_bestHidingSpot_16 : decode cX0_bestHidingSpot 16 = .ok (.iconst 0, 1) := by decide +kernel
theorem dX0_bestHidingSpot_17 : decode cX0_bestHidingSpot 17 = .ok (.istore_n 2, 1) := by decide +kernel
theorem dX0_bestHidingSpot_18 : decode cX0_bestHidingSpot 18 = .ok (.iload_n 2, 1) := by decide +kernel
theorem dX0_bestHidingSpot_19 : decode cX0_bestHidingSpot 19 = .ok (.bipush 16, 2) := by decide +kernel
theorem dX0_bestHidingSpot_21 : decode cX0_bestHidingSpot 21 = .ok (.if_icmp .ge 35, 3) := by decide +kernel
theorem dX0_bestHidingSpot_24 : decode cX0_bestHidingSpot 24 = .ok (.aload_n 0, 1) := by decide +kernel
theorem dX0_bestHidingSpot_25 : decode cX0_bestHidingSpot 25 = .ok (.iload_n 2, 1) := by decide +kernel
theorem dX0_bestHidingSpot_26 : decode cX0_bestHidingSpot 26 = .ok (.invokevirtual 27, 3) := by decide +kernel
theorem dX0_bestHidingSpot_29 : decode cX0_bestHidingSpot 29 = .ok (.ifCond .eq 21, 3) := by decide +kernel
theorem dX0_bestHidingSpot_32 : decode cX0_bestHidingSpot 32 = .ok (.iload_n 1, 1) := by decide +kernel
theorem dX0_bestHidingSpot_33 : decode cX0_bestHidingSpot 33 = .ok (.invokestatic 30, 3) := by decide +kernel
theorem dX0_bestHidingSpot_36 : decode cX0_bestHidingSpot 36 = .ok (.ifCond .eq 12, 3) := by decide +kernel
theorem dX0_bestHidingSpot_39 : decode cX0_bestHidingSpot 39 = .ok (.aload_n 0, 1) := by decide +kernel
theorem dX0_bestHidingSpot_40 : decode cX0_bestHidingSpot 40 = .ok (.iload_n 2, 1) := by decide +kernel
theorem dX0_bestHidingSpot_41 : decode cX0_bestHidingSpot 41 = .ok (.iload_n 1, 1) := by decide +kernel
theorem dX0_bestHidingSpot_42 : decode cX0_bestHidingSpot 42 = .ok (.invokestatic 33, 3) := by decide +kernel
theorem dX0_bestHidingSpot_45 : decode cX0_bestHidingSpot 45 = .ok (.ifCond .eq 5, 3) := by decide +kernel
theorem dX0_bestHidingSpot_48 : decode cX0_bestHidingSpot 48 = .ok (.iload_n 2, 1) := by decide +kernel
theorem dX0_bestHidingSpot_49 : decode cX0_bestHidingSpot 49 = .ok (.istore_n 1, 1) := by decide +kernel
theorem dX0_bestHidingSpot_50 : decode cX0_bestHidingSpot 50 = .ok (.iinc 2 1, 3) := by decide +kernel
theorem dX0_bestHidingSpot_53 : decode cX0_bestHidingSpot 53 = .ok (.goto (-35), 3) := by decide +kernel
theorem dX0_bestHidingSpot_56 : decode cX0_bestHidingSpot 56 = .ok (.iload_n 1, 1) := by decide +kernel
theorem dX0_bestHidingSpot_57 : decode cX0_bestHidingSpot 57 = .ok (.ireturn, 1) := by decide +kernel
theorem dX0_isBetterToHide_0 : decode cX0_isBetterToHide 0 = .ok (.iload_n 1, 1) := by decide +kernel
theorem dX0_isBetterToHide_1 : decode cX0_isBetterToHide 1 = .ok (.invokestatic 39, 3) := by decide +kernel
theorem dX0_isBetterToHide_4 : decode cX0_isBetterToHide 4 = .ok (.iload_n 2, 1) := by decide +kernel
theorem dX0_isBetterToHide_5 : decode cX0_isBetterToHide 5 = .ok (.invokestatic 39, 3) := by decide +kernel
theorem dX0_isBetterToHide_8 : decode cX0_isBetterToHide 8 = .ok (.if_icmp .eq 20, 3) := by decide +kernel
theorem dX0_isBetterToHide_11 : decode cX0_isBetterToHide 11 = .ok (.iload_n 1, 1) := by decide +kernel
theorem dX0_isBetterToHide_12 : decode cX0_isBetterToHide 12 = .ok (.invokestatic 39, 3) := by decide +kernel
theorem dX0_isBetterToHide_15 : decode cX0_isBetterToHide 15 = .ok (.iload_n 2, 1) := by decide +kernel
theorem dX0_isBetterToHide_16 : decode cX0_isBetterToHide 16 = .ok (.invokestatic 39, 3) := by decide +kernel
theorem dX0_isBetterToHide_19 : decode cX0_isBetterToHide 19 = .ok (.if_icmp .le 7, 3) := by decide +kernel
theorem dX0_isBetterToHide_22 : decode cX0_isBetterToHide 22 = .ok (.iconst 1, 1) := by decide +kernel
theorem dX0_isBetterToHide_23 : decode cX0_isBetterToHide 23 = .ok (.goto 4, 3) := by decide +kernel
theorem dX0_isBetterToHide_26 : decode cX0_isBetterToHide 26 = .ok (.iconst 0, 1) := by decide +kernel
theorem dX0_isBetterToHide_27 : decode cX0_isBetterToHide 27 = .ok (.ireturn, 1) := by decide +kernel
theorem dX0_isBetterToHide_28 : decode cX0_isBetterToHide 28 = .ok (.aload_n 0, 1) := by decide +kernel
theorem dX0_isBetterToHide_29 : decode cX0_isBetterToHide 29 = .ok (.getfield 43, 3) := by decide +kernel
theorem dX0_isBetterToHide_32 : decode cX0_isBetterToHide 32 = .ok (.iload_n 1, 1) := by decide +kernel
theorem dX0_isBetterToHide_33 : decode cX0_isBetterToHide 33 = .ok (.iaload, 1) := by decide +kernel
theorem dX0_isBetterToHide_34 : decode cX0_isBetterToHide 34 = .ok (.aload_n 0, 1) := by decide +kernel
theorem dX0_isBetterToHide_35 : decode cX0_isBetterToHide 35 = .ok (.getfield 43, 3) := by decide +kernel
theorem dX0_isBetterToHide_38 : decode cX0_isBetterToHide 38 = .ok (.iload_n 2, 1) := by decide +kernel
theorem dX0_isBetterToHide_39 : decode cX0_isBetterToHide 39 = .ok (.iaload, 1) := by decide +kernel
theorem dX0_isBetterToHide_40 : decode cX0_isBetterToHide 40 = .ok (.if_icmp .eq 24, 3) := by decide +kernel
theorem dX0_isBetterToHide_43 : decode cX0_isBetterToHide 43 = .ok (.aload_n 0, 1) := by decide +kernel
theorem dX0_isBetterToHide_44 : decode cX0_isBetterToHide 44 = .ok (.getfield 43, 3) := by decide +kernel
theorem dX0_isBetterToHide_47 : decode cX0_isBetterToHide 47 = .ok (.iload_n 1, 1) := by decide +kernel
theorem dX0_isBetterToHide_48 : decode cX0_isBetterToHide 48 = .ok (.iaload, 1) := by decide +kernel
theorem dX0_isBetterToHide_49 : decode cX0_isBetterToHide 49 = .ok (.aload_n 0, 1) := by decide +kernel
theorem dX0_isBetterToHide_50 : decode cX0_isBetterToHide 50 = .ok (.getfield 43, 3) := by decide +kernel
theorem dX0_isBetterToHide_53 : decode cX0_isBetterToHide 53 = .ok (.iload_n 2, 1) := by decide +kernel
theorem dX0_isBetterToHide_54 : decode cX0_isBetterToHide 54 = .ok (.iaload, 1) := by decide +kernel
theorem dX0_isBetterToHide_55 : decode cX0_isBetterToHide 55 = .ok (.if_icmp .ge 7, 3) := by decide +kernel
theorem dX0_isBetterToHide_58 : decode cX0_isBetterToHide 58 = .ok (.iconst 1, 1) := by decide +kernel
theorem dX0_isBetterToHide_59 : decode cX0_isBetterToHide 59 = .ok (.goto 4, 3) := by decide +kernel
theorem dX0_isBetterToHide_62 : decode cX0_isBetterToHide 62 = .ok (.iconst 0, 1) := by decide +kernel
theorem dX0_isBetterToHide_63 : decode cX0_isBetterToHide 63 = .ok (.ireturn, 1) := by decide +kernel
theorem dX0_isBetterToHide_64 : decode cX0_isBetterToHide 64 = .ok (.aload_n 0, 1) := by decide +kernel
theorem dX0_isBetterToHide_65 : decode cX0_isBetterToHide 65 = .ok (.iload_n 1, 1) := by decide +kernel
theorem dX0_isBetterToHide_66 : decode cX0_isBetterToHide 66 = .ok (.invokevirtual 47, 3) := by decide +kernel
theorem dX0_isBetterToHide_69 : decode cX0_isBetterToHide 69 = .ok (.aload_n 0, 1) := by decide +kernel
theorem dX0_isBetterToHide_70 : decode cX0_isBetterToHide 70 = .ok (.iload_n 2, 1) := by decide +kernel
theorem dX0_isBetterToHide_71 : decode cX0_isBetterToHide 71 = .ok (.invokevirtual 47, 3) := by decide +kernel
theorem dX0_isBetterToHide_74 : decode cX0_isBetterToHide 74 = .ok (.if_icmp .eq 22, 3) := by decide +kernel
theorem dX0_isBetterToHide_77 : decode cX0_isBetterToHide 77 = .ok (.aload_n 0, 1) := by decide +kernel
theorem dX0_isBetterToHide_78 : decode cX0_isBetterToHide 78 = .ok (.iload_n 1, 1) := by decide +kernel
theorem dX0_isBetterToHide_79 : decode cX0_isBetterToHide 79 = .ok (.invokevirtual 47, 3) := by decide +kernel
theorem dX0_isBetterToHide_82 : decode cX0_isBetterToHide 82 = .ok (.aload_n 0, 1) := by decide +kernel
theorem dX0_isBetterToHide_83 : decode cX0_isBetterToHide 83 = .ok (.iload_n 2, 1) := by decide +kernel
theorem dX0_isBetterToHide_84 : decode cX0_isBetterToHide 84 = .ok (.invokevirtual 47, 3) := by decide +kernel
theorem dX0_isBetterToHide_87 : decode cX0_isBetterToHide 87 = .ok (.if_icmp .ge 7, 3) := by decide +kernel
theorem dX0_isBetterToHide_90 : decode cX0_isBetterToHide 90 = .ok (.iconst 1, 1) := by decide +kernel
theorem dX0_isBetterToHide_91 : decode cX0_isBetterToHide 91 = .ok (.goto 4, 3) := by decide +kernel
theorem dX0_isBetterToHide_94 : decode cX0_isBetterToHide 94 = .ok (.iconst 0, 1) := by decide +kernel
theorem dX0_isBetterToHide_95 : decode cX0_isBetterToHide 95 = .ok (.ireturn, 1) := by decide +kernel
theorem dX0_isBetterToHide_96 : decode cX0_isBetterToHide 96 = .ok (.iload_n 1, 1) := by decide +kernel
theorem dX0_isBetterToHide_97 : decode cX0_isBetterToHide 97 = .ok (.iload_n 2, 1) := by decide +kernel
theorem dX0_isBetterToHide_98 : decode cX0_isBetterToHide 98 = .ok (.if_icmp .ge 7, 3) := by decide +kernel
theorem dX0_isBetterToHide_101 : decode cX0_isBetterToHide 101 = .ok (.iconst 1, 1) := by decide +kernel
theorem dX0_isBetterToHide_102 : decode cX0_isBetterToHide 102 = .ok (.goto 4, 3) := by decide +kernel
theorem dX0_isBetterToHide_105 : decode cX0_isBetterToHide 105 = .ok (.iconst 0, 1) := by decide +kernel
theorem dX0_isBetterToHide_106 : decode cX0_isBetterToHide 106 = .ok (.ireturn, 1) := by decide +kernel
theorem dX0_stepsToSeeAll_0 : decode cX0_stepsToSeeAll 0 = .ok (.aload_n 0, 1) := by decide +kernel
theorem dX0_stepsToSeeAll_1 : decode cX0_stepsToSeeAll 1 = .ok (.getfield 9, 3) := by decide +kernel
theorem dX0_stepsToSeeAll_4 : decode cX0_stepsToSeeAll 4 = .ok (.iconst 2, 1) := by decide +kernel
theorem dX0_stepsToSeeAll_5 : decode cX0_stepsToSeeAll 5 = .ok (.if_icmp .eq 7, 3) := by decide +kernel
theorem dX0_stepsToSeeAll_8 : decode cX0_stepsToSeeAll 8 = .ok (.sipush (-10003), 3) := by decide +kernel
theorem dX0_stepsToSeeAll_11 : decode cX0_stepsToSeeAll 11 = .ok (.ireturn, 1) := by decide +kernel
theorem dX0_stepsToSeeAll_12 : decode cX0_stepsToSeeAll 12 = .ok (.bipush 16, 2) := by decide +kernel
theorem dX0_stepsToSeeAll_14 : decode cX0_stepsToSeeAll 14 = .ok (.istore_n 1, 1) := by decide +kernel
theorem dX0_stepsToSeeAll_15 : decode cX0_stepsToSeeAll 15 = .ok (.iconst 0, 1) := by decide +kernel
theorem dX0_stepsToSeeAll_16 : decode cX0_stepsToSeeAll 16 = .ok (.istore_n 2, 1) := by decide +kernel
theorem dX0_stepsToSeeAll_17 : decode cX0_stepsToSeeAll 17 = .ok (.iload_n 2, 1) := by decide +kernel
theorem dX0_stepsToSeeAll_18 : decode cX0_stepsToSeeAll 18 = .ok (.bipush 16, 2) := by decide +kernel
theorem dX0_stepsToSeeAll_20 : decode cX0_stepsToSeeAll 20 = .ok (.if_icmp .ge 29, 3) := by decide +kernel
theorem dX0_stepsToSeeAll_23 : decode cX0_stepsToSeeAll 23 = .ok (.aload_n 0, 1) := by decide +kernel
theorem dX0_stepsToSeeAll_24 : decode cX0_stepsToSeeAll 24 = .ok (.iload_n 2, 1) := by decide +kernel
theorem dX0_stepsToSeeAll_25 : decode cX0_stepsToSeeAll 25 = .ok (.invokestatic 50, 3) := by decide +kernel
theorem dX0_stepsToSeeAll_28 : decode cX0_stepsToSeeAll 28 = .ok (.istore_n 3, 1) := by decide +kernel
theorem dX0_stepsToSeeAll_29 : decode cX0_stepsToSeeAll 29 = .ok (.iload_n 1, 1) := by decide +kernel
theorem dX0_stepsToSeeAll_30 : decode cX0_stepsToSeeAll 30 = .ok (.iload_n 2, 1) := by decide +kernel
theorem dX0_stepsToSeeAll_31 : decode cX0_stepsToSeeAll 31 = .ok (.iload_n 3, 1) := by decide +kernel
theorem dX0_stepsToSeeAll_32 : decode cX0_stepsToSeeAll 32 = .ok (.iadd, 1) := by decide +kernel
theorem dX0_stepsToSeeAll_33 : decode cX0_stepsToSeeAll 33 = .ok (.iload_n 2, 1) := by decide +kernel
theorem dX0_stepsToSeeAll_34 : decode cX0_stepsToSeeAll 34 = .ok (.iload_n 3, 1) := by decide +kernel
theorem dX0_stepsToSeeAll_35 : decode cX0_stepsToSeeAll 35 = .ok (.invokestatic 54, 3) := by decide +kernel
theorem dX0_stepsToSeeAll_38 : decode cX0_stepsToSeeAll 38 = .ok (.iadd, 1) := by decide +kernel
theorem dX0_stepsToSeeAll_39 : decode cX0_stepsToSeeAll 39 = .ok (.invokestatic 54, 3) := by decide +kernel
theorem dX0_stepsToSeeAll_42 : decode cX0_stepsToSeeAll 42 = .ok (.istore_n 1, 1) := by decide +kernel
theorem dX0_stepsToSeeAll_43 : decode cX0_stepsToSeeAll 43 = .ok (.iinc 2 1, 3) := by decide +kernel
theorem dX0_stepsToSeeAll_46 : decode cX0_stepsToSeeAll 46 = .ok (.goto (-29), 3) := by decide +kernel
theorem dX0_stepsToSeeAll_49 : decode cX0_stepsToSeeAll 49 = .ok (.iload_n 1, 1) := by decide +kernel
theorem dX0_stepsToSeeAll_50 : decode cX0_stepsToSeeAll 50 = .ok (.ireturn, 1) := by decide +kernel
theorem dX0_stepsDownForTheRest_0 : decode cX0_stepsDownForTheRest 0 = .ok (.iconst 0, 1) := by decide +kernel
theorem dX0_stepsDownForTheRest_1 : decode cX0_stepsDownForTheRest 1 = .ok (.istore_n 2, 1) := by decide +kernel
theorem dX0_stepsDownForTheRest_2 : decode cX0_stepsDownForTheRest 2 = .ok (.iconst 0, 1) := by decide +kernel
theorem dX0_stepsDownForTheRest_3 : decode cX0_stepsDownForTheRest 3 = .ok (.istore_n 3, 1) := by decide +kernel
theorem dX0_stepsDownForTheRest_4 : decode cX0_stepsDownForTheRest 4 = .ok (.iload_n 3, 1) := by decide +kernel
theorem dX0_stepsDownForTheRest_5 : decode cX0_stepsDownForTheRest 5 = .ok (.aload_n 0, 1) := by decide +kernel
theorem dX0_stepsDownForTheRest_6 : decode cX0_stepsDownForTheRest 6 = .ok (.getfield 21, 3) := by decide +kernel
theorem dX0_stepsDownForTheRest_9 : decode cX0_stepsDownForTheRest 9 = .ok (.if_icmp .ge 79, 3) := by decide +kernel
theorem dX0_stepsDownForTheRest_12 : decode cX0_stepsDownForTheRest 12 = .ok (.aload_n 0, 1) := by decide +kernel
theorem dX0_stepsDownForTheRest_13 : decode cX0_stepsDownForTheRest 13 = .ok (.iload_n 3, 1) := by decide +kernel
theorem dX0_stepsDownForTheRest_14 : decode cX0_stepsDownForTheRest 14 = .ok (.invokevirtual 60, 3) := by decide +kernel
theorem dX0_stepsDownForTheRest_17 : decode cX0_stepsDownForTheRest 17 = .ok (.ifCond .eq 65, 3) := by decide +kernel
theorem dX0_stepsDownForTheRest_20 : decode cX0_stepsDownForTheRest 20 = .ok (.aload_n 0, 1) := by decide +kernel
theorem dX0_stepsDownForTheRest_21 : decode cX0_stepsDownForTheRest 21 = .ok (.aload_n 0, 1) := by decide +kernel
theorem dX0_stepsDownForTheRest_22 : decode cX0_stepsDownForTheRest 22 = .ok (.getfield 63, 3) := by decide +kernel
theorem dX0_stepsDownForTheRest_25 : decode cX0_stepsDownForTheRest 25 = .ok (.iload_n 3, 1) := by decide +kernel
theorem dX0_stepsDownForTheRest_26 : decode cX0_stepsDownForTheRest 26 = .ok (.iaload, 1) := by decide +kernel
theorem dX0_stepsDownForTheRest_27 : decode cX0_stepsDownForTheRest 27 = .ok (.invokevirtual 17, 3) := by decide +kernel
theorem dX0_stepsDownForTheRest_30 : decode cX0_stepsDownForTheRest 30 = .ok (.ifCond .ne 52, 3) := by decide +kernel
theorem dX0_stepsDownForTheRest_33 : decode cX0_stepsDownForTheRest 33 = .ok (.aload_n 0, 1) := by decide +kernel
theorem dX0_stepsDownForTheRest_34 : decode cX0_stepsDownForTheRest 34 = .ok (.getfield 66, 3) := by decide +kernel
theorem dX0_stepsDownForTheRest_37 : decode cX0_stepsDownForTheRest 37 = .ok (.aload_n 0, 1) := by decide +kernel
theorem dX0_stepsDownForTheRest_38 : decode cX0_stepsDownForTheRest 38 = .ok (.getfield 63, 3) := by decide +kernel
theorem dX0_stepsDownForTheRest_41 : decode cX0_stepsDownForTheRest 41 = .ok (.iload_n 3, 1) := by decide +kernel
theorem dX0_stepsDownForTheRest_42 : decode cX0_stepsDownForTheRest 42 = .ok (.iaload, 1) := by decide +kernel
theorem dX0_stepsDownForTheRest_43 : decode cX0_stepsDownForTheRest 43 = .ok (.invokestatic 69, 3) := by decide +kernel
theorem dX0_stepsDownForTheRest_46 : decode cX0_stepsDownForTheRest 46 = .ok (.istore 4, 2) := by decide +kernel
theorem dX0_stepsDownForTheRest_48 : decode cX0_stepsDownForTheRest 48 = .ok (.bipush 16, 2) := by decide +kernel
theorem dX0_stepsDownForTheRest_50 : decode cX0_stepsDownForTheRest 50 = .ok (.iload 4, 2) := by decide +kernel
theorem dX0_stepsDownForTheRest_52 : decode cX0_stepsDownForTheRest 52 = .ok (.isub, 1) := by decide +kernel
theorem dX0_stepsDownForTheRest_53 : decode cX0_stepsDownForTheRest 53 = .ok (.istore 5, 2) := by decide +kernel
theorem dX0_stepsDownForTheRest_55 : decode cX0_stepsDownForTheRest 55 = .ok (.iload 4, 2) := by decide +kernel
theorem dX0_stepsDownForTheRest_57 : decode cX0_stepsDownForTheRest 57 = .ok (.aload_n 0, 1) := by decide +kernel
theorem dX0_stepsDownForTheRest_58 : decode cX0_stepsDownForTheRest 58 = .ok (.getfield 72, 3) := by decide +kernel
theorem dX0_stepsDownForTheRest_61 : decode cX0_stepsDownForTheRest 61 = .ok (.iconst 0, 1) := by decide +kernel
theorem dX0_stepsDownForTheRest_62 : decode cX0_stepsDownForTheRest 62 = .ok (.iaload, 1) := by decide +kernel
theorem dX0_stepsDownForTheRest_63 : decode cX0_stepsDownForTheRest 63 = .ok (.isub, 1) := by decide +kernel
theorem dX0_stepsDownForTheRest_64 : decode cX0_stepsDownForTheRest 64 = .ok (.iload_n 1, 1) := by decide +kernel
theorem dX0_stepsDownForTheRest_65 : decode cX0_stepsDownForTheRest 65 = .ok (.if_icmp .le 17, 3) := by decide +kernel
theorem dX0_stepsDownForTheRest_68 : decode cX0_stepsDownForTheRest 68 = .ok (.iload_n 2, 1) := by decide +kernel
theorem dX0_stepsDownForTheRest_69 : decode cX0_stepsDownForTheRest 69 = .ok (.iload 5, 2) := by decide +kernel
theorem dX0_stepsDownForTheRest_71 : decode cX0_stepsDownForTheRest 71 = .ok (.aload_n 0, 1) := by decide +kernel
theorem dX0_stepsDownForTheRest_72 : decode cX0_stepsDownForTheRest 72 = .ok (.getfield 72, 3) := by decide +kernel
theorem dX0_stepsDownForTheRest_75 : decode cX0_stepsDownForTheRest 75 = .ok (.iconst 0, 1) := by decide +kernel
theorem dX0_stepsDownForTheRest_76 : decode cX0_stepsDownForTheRest 76 = .ok (.iaload, 1) := by decide +kernel
theorem dX0_stepsDownForTheRest_77 : decode cX0_stepsDownForTheRest 77 = .ok (.isub, 1) := by decide +kernel
theorem dX0_stepsDownForTheRest_78 : decode cX0_stepsDownForTheRest 78 = .ok (.invokestatic 75, 3) := by decide +kernel
theorem dX0_stepsDownForTheRest_81 : decode cX0_stepsDownForTheRest 81 = .ok (.istore_n 2, 1) := by decide +kernel
theorem dX0_stepsDownForTheRest_82 : decode cX0_stepsDownForTheRest 82 = .ok (.iinc 3 1, 3) := by decide +kernel
theorem dX0_stepsDownForTheRest_85 : decode cX0_stepsDownForTheRest 85 = .ok (.goto (-81), 3) := by decide +kernel
theorem dX0_stepsDownForTheRest_88 : decode cX0_stepsDownForTheRest 88 = .ok (.iload_n 2, 1) := by decide +kernel
theorem dX0_stepsDownForTheRest_89 : decode cX0_stepsDownForTheRest 89 = .ok (.ireturn, 1) := by decide +kernel
theorem dX1_init_0 : decode cX1_init 0 = .ok (.aload_n 0, 1) := by decide +kernel
theorem dX1_init_1 : decode cX1_init 1 = .ok (.invokespecial 3, 3) := by decide +kernel
theorem dX1_init_4 : decode cX1_init 4 = .ok (.aload_n 0, 1) := by decide +kernel
theorem dX1_init_5 : decode cX1_init 5 = .ok (.bipush 60, 2) := by decide +kernel
theorem dX1_init_7 : decode cX1_init 7 = .ok (.newarray .int, 2) := by decide +kernel
theorem dX1_init_9 : decode cX1_init 9 = .ok (.putfield 9, 3) := by decide +kernel
theorem dX1_init_12 : decode cX1_init 12 = .ok (.aload_n 0, 1) := by decide +kernel
theorem dX1_init_13 : decode cX1_init 13 = .ok (.iconst 0, 1) := by decide +kernel
theorem dX1_init_14 : decode cX1_init 14 = .ok (.putfield 15, 3) := by decide +kernel
theorem dX1_init_17 : decode cX1_init 17 = .ok (.return_, 1) := by decide +kernel
theorem dX2_changeSetting_0 : decode cX2_changeSetting 0 = .ok (.iload_n 1, 1) := by decide +kernel
theorem dX2_changeSetting_1 : decode cX2_changeSetting 1 = .ok (.invokestatic 9, 3) := by decide +kernel
theorem dX2_changeSetting_4 : decode cX2_changeSetting 4 = .ok (.ifCond .ne 7, 3) := by decide +kernel
theorem dX2_changeSetting_7 : decode cX2_changeSetting 7 = .ok (.sipush (-10002), 3) := by decide +kernel
theorem dX2_changeSetting_10 : decode cX2_changeSetting 10 = .ok (.ireturn, 1) := by decide +kernel
theorem dX2_changeSetting_11 : decode cX2_changeSetting 11 = .ok (.iload_n 2, 1) := by decide +kernel
theorem dX2_changeSetting_12 : decode cX2_changeSetting 12 = .ok (.getstatic 15, 3) := by decide +kernel
theorem dX2_changeSetting_15 : decode cX2_changeSetting 15 = .ok (.iload_n 1, 1) := by decide +kernel
theorem dX2_changeSetting_16 : decode cX2_changeSetting 16 = .ok (.iaload, 1) := by decide +kernel
theorem dX2_changeSetting_17 : decode cX2_changeSetting 17 = .ok (.if_icmp .lt 12, 3) := by decide +kernel
theorem dX2_changeSetting_20 : decode cX2_changeSetting 20 = .ok (.iload_n 2, 1) := by decide +kernel
theorem dX2_changeSetting_21 : decode cX2_changeSetting 21 = .ok (.getstatic 19, 3) := by decide +kernel
theorem dX2_changeSetting_24 : decode cX2_changeSetting 24 = .ok (.iload_n 1, 1) := by decide +kernel
theorem dX2_changeSetting_25 : decode cX2_changeSetting 25 = .ok (.iaload, 1) := by decide +kernel
theorem dX2_changeSetting_26 : decode cX2_changeSetting 26 = .ok (.if_icmp .le 7, 3) := by decide +kernel
theorem dX2_changeSetting_29 : decode cX2_changeSetting 29 = .ok (.sipush (-10002), 3) := by decide +kernel
theorem dX2_changeSetting_32 : decode cX2_changeSetting 32 = .ok (.ireturn, 1) := by decide +kernel
theorem dX2_changeSetting_33 : decode cX2_changeSetting 33 = .ok (.aload_n 0, 1) := by decide +kernel
theorem dX2_changeSetting_34 : decode cX2_changeSetting 34 = .ok (.getfield 22, 3) := by decide +kernel
theorem dX2_changeSetting_37 : decode cX2_changeSetting 37 = .ok (.iload_n 1, 1) := by decide +kernel
theorem dX2_changeSetting_38 : decode cX2_changeSetting 38 = .ok (.iaload, 1) := by decide +kernel
theorem dX2_changeSetting_39 : decode cX2_changeSetting 39 = .ok (.istore_n 3, 1) := by decide +kernel
theorem dX2_changeSetting_40 : decode cX2_changeSetting 40 = .ok (.aload_n 0, 1) := by decide +kernel
theorem dX2_changeSetting_41 : decode cX2_changeSetting 41 = .ok (.getfield 22, 3) := by decide +kernel
theorem dX2_changeSetting_44 : decode cX2_changeSetting 44 = .ok (.iload_n 1, 1) := by decide +kernel
theorem dX2_changeSetting_45 : decode cX2_changeSetting 45 = .ok (.iload_n 2, 1) := by decide +kernel
theorem dX2_changeSetting_46 : decode cX2_changeSetting 46 = .ok (.iastore, 1) := by decide +kernel
theorem dX2_changeSetting_47 : decode cX2_changeSetting 47 = .ok (.iload_n 3, 1) := by decide +kernel
theorem dX2_changeSetting_48 : decode cX2_changeSetting 48 = .ok (.ireturn, 1) := by decide +kernel
theorem dX2_addPlayer_0 : decode cX2_addPlayer 0 = .ok (.aload_n 0, 1) := by decide +kernel
theorem dX2_addPlayer_1 : decode cX2_addPlayer 1 = .ok (.getfield 25, 3) := by decide +kernel
theorem dX2_addPlayer_4 : decode cX2_addPlayer 4 = .ok (.ifCond .eq 7, 3) := by decide +kernel
theorem dX2_addPlayer_7 : decode cX2_addPlayer 7 = .ok (.sipush (-10003), 3) := by decide +kernel
theorem dX2_addPlayer_10 : decode cX2_addPlayer 10 = .ok (.ireturn, 1) := by decide +kernel
theorem dX2_addPlayer_11 : decode cX2_addPlayer 11 = .ok (.aload_n 0, 1) := by decide +kernel
theorem dX2_addPlayer_12 : decode cX2_addPlayer 12 = .ok (.getfield 29, 3) := by decide +kernel
theorem dX2_addPlayer_15 : decode cX2_addPlayer 15 = .ok (.bipush 8, 2) := by decide +kernel
theorem dX2_addPlayer_17 : decode cX2_addPlayer 17 = .ok (.if_icmp .lt 7, 3) := by decide +kernel
theorem dX2_addPlayer_20 : decode cX2_addPlayer 20 = .ok (.sipush (-10004), 3) := by decide +kernel
theorem dX2_addPlayer_23 : decode cX2_addPlayer 23 = .ok (.ireturn, 1) := by decide +kernel
theorem dX2_addPlayer_24 : decode cX2_addPlayer 24 = .ok (.aload_n 0, 1) := by decide +kernel
theorem dX2_addPlayer_25 : decode cX2_addPlayer 25 = .ok (.getfield 29, 3) := by decide +kernel
theorem dX2_addPlayer_28 : decode cX2_addPlayer 28 = .ok (.istore_n 1, 1) := by decide +kernel
theorem dX2_addPlayer_29 : decode cX2_addPlayer 29 = .ok (.aload_n 0, 1) := by decide +kernel
theorem dX2_addPlayer_30 : decode cX2_addPlayer 30 = .ok (.iload_n 1, 1) := by decide +kernel
theorem dX2_addPlayer_31 : decode cX2_addPlayer 31 = .ok (.iconst 1, 1) := by decide +kernel
theorem dX2_addPlayer_32 : decode cX2_addPlayer 32 = .ok (.iadd, 1) := by decide +kernel
theorem dX2_addPlayer_33 : decode cX2_addPlayer 33 = .ok (.putfield 29, 3) := by decide +kernel
theorem dX2_addPlayer_36 : decode cX2_addPlayer 36 = .ok (.iload_n 1, 1) := by decide +kernel
theorem dX2_addPlayer_37 : decode cX2_addPlayer 37 = .ok (.ireturn, 1) := by decide +kernel
theorem dX2_beginRound_0 : decode cX2_beginRound 0 = .ok (.aload_n 0, 1) := by decide +kernel
theorem dX2_beginRound_1 : decode cX2_beginRound 1 = .ok (.iload_n 1, 1) := by decide +kernel
theorem dX2_beginRound_2 : decode cX2_beginRound 2 = .ok (.invokevirtual 32, 3) := by decide +kernel
theorem dX2_beginRound_5 : decode cX2_beginRound 5 = .ok (.ifCond .ne 7, 3) := by decide +kernel
theorem dX2_beginRound_8 : decode cX2_beginRound 8 = .ok (.sipush (-10001), 3) := by decide +kernel
theorem dX2_beginRound_11 : decode cX2_beginRound 11 = .ok (.ireturn, 1) := by decide +kernel
theorem dX2_beginRound_12 : decode cX2_beginRound 12 = .ok (.iload_n 2, 1) := by decide +kernel
theorem dX2_beginRound_13 : decode cX2_beginRound 13 = .ok (.iconst 1, 1) := by decide +kernel
theorem dX2_beginRound_14 : decode cX2_beginRound 14 = .ok (.if_icmp .lt 9, 3) := by decide +kernel
theorem dX2_beginRound_17 : decode cX2_beginRound 17 = .ok (.iload_n 2, 1) := by decide +kernel
theorem dX2_beginRound_18 : decode cX2_beginRound 18 = .ok (.bipush 8, 2) := by decide +kernel
theorem dX2_beginRound_20 : decode cX2_beginRound 20 = .ok (.if_icmp .le 7, 3) := by decide +kernel
theorem dX2_beginRound_23 : decode cX2_beginRound 23 = .ok (.sipush (-10002), 3) := by decide +kernel
theorem dX2_beginRound_26 : decode cX2_beginRound 26 = .ok (.ireturn, 1) := by decide +kernel
theorem dX2_beginRound_27 : decode cX2_beginRound 27 = .ok (.aload_n 0, 1) := by decide +kernel
theorem dX2_beginRound_28 : decode cX2_beginRound 28 = .ok (.getfield 25, 3) := by decide +kernel
theorem dX2_beginRound_31 : decode cX2_beginRound 31 = .ok (.ifCond .ne 11, 3) := by decide +kernel
theorem dX2_beginRound_34 : decode cX2_beginRound 34 = .ok (.aload_n 0, 1) := by decide +kernel
theorem dX2_beginRound_35 : decode cX2_beginRound 35 = .ok (.getfield 29, 3) := by decide +kernel
theorem dX2_beginRound_38 : decode cX2_beginRound 38 = .ok (.iconst 2, 1) := by decide +kernel
theorem dX2_beginRound_39 : decode cX2_beginRound 39 = .ok (.if_icmp .ge 7, 3) := by decide +kernel
theorem dX2_beginRound_42 : decode cX2_beginRound 42 = .ok (.sipush (-10003), 3) := by decide +kernel
theorem dX2_beginRound_45 : decode cX2_beginRound 45 = .ok (.ireturn, 1) := by decide +kernel
theorem dX2_beginRound_46 : decode cX2_beginRound 46 = .ok (.aload_n 0, 1) := by decide +kernel
theorem dX2_beginRound_47 : decode cX2_beginRound 47 = .ok (.iconst 1, 1) := by decide +kernel
theorem dX2_beginRound_48 : decode cX2_beginRound 48 = .ok (.putfield 25, 3) := by decide +kernel
theorem dX2_beginRound_51 : decode cX2_beginRound 51 = .ok (.aload_n 0, 1) := by decide +kernel
theorem dX2_beginRound_52 : decode cX2_beginRound 52 = .ok (.iload_n 1, 1) := by decide +kernel
theorem dX2_beginRound_53 : decode cX2_beginRound 53 = .ok (.putfield 35, 3) := by decide +kernel
theorem dX2_beginRound_56 : decode cX2_beginRound 56 = .ok (.aload_n 0, 1) := by decide +kernel
theorem dX2_beginRound_57 : decode cX2_beginRound 57 = .ok (.iload_n 2, 1) := by decide +kernel
theorem dX2_beginRound_58 : decode cX2_beginRound 58 = .ok (.putfield 38, 3) := by decide +kernel
theorem dX2_beginRound_61 : decode cX2_beginRound 61 = .ok (.aload_n 0, 1) := by decide +kernel
theorem dX2_beginRound_62 : decode cX2_beginRound 62 = .ok (.getfield 41, 3) := by decide +kernel
theorem dX2_beginRound_65 : decode cX2_beginRound 65 = .ok (.iload_n 1, 1) := by decide +kernel
theorem dX2_beginRound_66 : decode cX2_beginRound 66 = .ok (.dup2, 1) := by decide +kernel
theorem dX2_beginRound_67 : decode cX2_beginRound 67 = .ok (.iaload, 1) := by decide +kernel
theorem dX2_beginRound_68 : decode cX2_beginRound 68 = .ok (.iconst 1, 1) := by decide +kernel
theorem dX2_beginRound_69 : decode cX2_beginRound 69 = .ok (.iadd, 1) := by decide +kernel
theorem dX2_beginRound_70 : decode cX2_beginRound 70 = .ok (.iastore, 1) := by decide +kernel
theorem dX2_beginRound_71 : decode cX2_beginRound 71 = .ok (.aload_n 0, 1) := by decide +kernel
theorem dX2_beginRound_72 : decode cX2_beginRound 72 = .ok (.invokestatic 44, 3) := by decide +kernel
theorem dX2_beginRound_75 : decode cX2_beginRound 75 = .ok (.ireturn, 1) := by decide +kernel
theorem dX2_countHidingSpots_0 : decode cX2_countHidingSpots 0 = .ok (.iconst 0, 1) := by decide +kernel
theorem dX2_countHidingSpots_1 : decode cX2_countHidingSpots 1 = .ok (.istore_n 1, 1) := by decide +kernel
theorem dX2_countHidingSpots_2 : decode cX2_countHidingSpots 2 = .ok (.iconst 0, 1) := by decide +kernel
theorem dX2_countHidingSpots_3 : decode cX2_countHidingSpots 3 = .ok (.istore_n 2, 1) := by decide +kernel
theorem dX2_countHidingSpots_4 : decode cX2_countHidingSpots 4 = .ok (.iload_n 2, 1) := by decide +kernel
theorem dX2_countHidingSpots_5 : decode cX2_countHidingSpots 5 = .ok (.bipush 16, 2) := by decide +kernel
theorem dX2_countHidingSpots_7 : decode cX2_countHidingSpots 7 = .ok (.if_icmp .ge 20, 3) := by decide +kernel
theorem dX2_countHidingSpots_10 : decode cX2_countHidingSpots 10 = .ok (.aload_n 0, 1) := by decide +kernel
theorem dX2_countHidingSpots_11 : decode cX2_countHidingSpots 11 = .ok (.iload_n 2, 1) := by decide +kernel
theorem dX2_countHidingSpots_12 : decode cX2_countHidingSpots 12 = .ok (.invokevirtual 52, 3) := by decide +kernel
theorem dX2_countHidingSpots_15 : decode cX2_countHidingSpots 15 = .ok (.ifCond .eq 6, 3) := by decide +kernel
theorem dX2_countHidingSpots_18 : decode cX2_countHidingSpots 18 = .ok (.iinc 1 1, 3) := by decide +kernel
theorem dX2_countHidingSpots_21 : decode cX2_countHidingSpots 21 = .ok (.iinc 2 1, 3) := by decide +kernel
theorem dX2_countHidingSpots_24 : decode cX2_countHidingSpots 24 = .ok (.goto (-20), 3) := by decide +kernel
theorem dX2_countHidingSpots_27 : decode cX2_countHidingSpots 27 = .ok (.iload_n 1, 1) := by decide +kernel
theorem dX2_countHidingSpots_28 : decode cX2_countHidingSpots 28 = .ok (.ireturn, 1) := by decide +kernel
theorem dX2_hidePlayer_0 : decode cX2_hidePlayer 0 = .ok (.aload_n 0, 1) := by decide +kernel
theorem dX2_hidePlayer_1 : decode cX2_hidePlayer 1 = .ok (.iload_n 1, 1) := by decide +kernel
theorem dX2_hidePlayer_2 : decode cX2_hidePlayer 2 = .ok (.invokevirtual 32, 3) := by decide +kernel
theorem dX2_hidePlayer_5 : decode cX2_hidePlayer 5 = .ok (.ifCond .eq 10, 3) := by decide +kernel
theorem dX2_hidePlayer_8 : decode cX2_hidePlayer 8 = .ok (.iload_n 2, 1) := by decide +kernel
theorem dX2_hidePlayer_9 : decode cX2_hidePlayer 9 = .ok (.invokestatic 55, 3) := by decide +kernel
theorem dX2_hidePlayer_12 : decode cX2_hidePlayer 12 = .ok (.ifCond .ne 7, 3) := by decide +kernel
theorem dX2_hidePlayer_15 : decode cX2_hidePlayer 15 = .ok (.sipush (-10001), 3) := by decide +kernel
theorem dX2_hidePlayer_18 : decode cX2_hidePlayer 18 = .ok (.ireturn, 1) := by decide +kernel
theorem dX2_hidePlayer_19 : decode cX2_hidePlayer 19 = .ok (.aload_n 0, 1) := by decide +kernel
theorem dX2_hidePlayer_20 : decode cX2_hidePlayer 20 = .ok (.getfield 25, 3) := by decide +kernel
theorem dX2_hidePlayer_23 : decode cX2_hidePlayer 23 = .ok (.iconst 1, 1) := by decide +kernel
theorem dX2_hidePlayer_24 : decode cX2_hidePlayer 24 = .ok (.if_icmp .ne 19, 3) := by decide +kernel
theorem dX2_hidePlayer_27 : decode cX2_hidePlayer 27 = .ok (.iload_n 1, 1) := by decide +kernel
theorem dX2_hidePlayer_28 : decode cX2_hidePlayer 28 = .ok (.aload_n 0, 1) := by decide +kernel
theorem dX2_hidePlayer_29 : decode cX2_hidePlayer 29 = .ok (.getfield 35, 3) := by decide +kernel
theorem dX2_hidePlayer_32 : decode cX2_hidePlayer 32 = .ok (.if_icmp .eq 11, 3) := by decide +kernel
theorem dX2_hidePlayer_35 : decode cX2_hidePlayer 35 = .ok (.aload_n 0, 1) := by decide +kernel
theorem dX2_hidePlayer_36 : decode cX2_hidePlayer 36 = .ok (.iload_n 1, 1) := by decide +kernel
theorem dX2_hidePlayer_37 : decode cX2_hidePlayer 37 = .ok (.invokevirtual 58, 3) := by decide +kernel
theorem dX2_hidePlayer_40 : decode cX2_hidePlayer 40 = .ok (.ifCond .eq 7, 3) := by decide +kernel
theorem dX2_hidePlayer_43 : decode cX2_hidePlayer 43 = .ok (.sipush (-10003), 3) := by decide +kernel
theorem dX2_hidePlayer_46 : decode cX2_hidePlayer 46 = .ok (.ireturn, 1) := by decide +kernel
theorem dX2_hidePlayer_47 : decode cX2_hidePlayer 47 = .ok (.aload_n 0, 1) := by decide +kernel
theorem dX2_hidePlayer_48 : decode cX2_hidePlayer 48 = .ok (.iload_n 2, 1) := by decide +kernel
theorem dX2_hidePlayer_49 : decode cX2_hidePlayer 49 = .ok (.invokevirtual 61, 3) := by decide +kernel
theorem dX2_hidePlayer_52 : decode cX2_hidePlayer 52 = .ok (.ifCond .ne 7, 3) := by decide +kernel
theorem dX2_hidePlayer_55 : decode cX2_hidePlayer 55 = .ok (.sipush (-10003), 3) := by decide +kernel
theorem dX2_hidePlayer_58 : decode cX2_hidePlayer 58 = .ok (.ireturn, 1) := by decide +kernel
theorem dX2_hidePlayer_59 : decode cX2_hidePlayer 59 = .ok (.aload_n 0, 1) := by decide +kernel
theorem dX2_hidePlayer_60 : decode cX2_hidePlayer 60 = .ok (.iload_n 2, 1) := by decide +kernel
theorem dX2_hidePlayer_61 : decode cX2_hidePlayer 61 = .ok (.invokevirtual 64, 3) := by decide +kernel
theorem dX2_hidePlayer_64 : decode cX2_hidePlayer 64 = .ok (.ifCond .eq 7, 3) := by decide +kernel
theorem dX2_hidePlayer_67 : decode cX2_hidePlayer 67 = .ok (.sipush (-10004), 3) := by decide +kernel
theorem dX2_hidePlayer_70 : decode cX2_hidePlayer 70 = .ok (.ireturn, 1) := by decide +kernel
theorem dX2_hidePlayer_71 : decode cX2_hidePlayer 71 = .ok (.aload_n 0, 1) := by decide +kernel
theorem dX2_hidePlayer_72 : decode cX2_hidePlayer 72 = .ok (.getfield 67, 3) := by decide +kernel
theorem dX2_hidePlayer_75 : decode cX2_hidePlayer 75 = .ok (.iload_n 1, 1) := by decide +kernel
theorem dX2_hidePlayer_76 : decode cX2_hidePlayer 76 = .ok (.iload_n 2, 1) := by decide +kernel
theorem dX2_hidePlayer_77 : decode cX2_hidePlayer 77 = .ok (.iastore, 1) := by decide +kernel
theorem dX2_hidePlayer_78 : decode cX2_hidePlayer 78 = .ok (.iload_n 2, 1) := by decide +kernel
theorem dX2_hidePlayer_79 : decode cX2_hidePlayer 79 = .ok (.invokestatic 70, 3) := by decide +kernel
theorem dX2_hidePlayer_82 : decode cX2_hidePlayer 82 = .ok (.ireturn, 1) := by decide +kernel
theorem dX2_beginSeeking_0 : decode cX2_beginSeeking 0 = .ok (.aload_n 0, 1) := by decide +kernel
theorem dX2_beginSeeking_1 : decode cX2_beginSeeking 1 = .ok (.getfield 25, 3) := by decide +kernel
theorem dX2_beginSeeking_4 : decode cX2_beginSeeking 4 = .ok (.iconst 1, 1) := by decide +kernel
theorem dX2_beginSeeking_5 : decode cX2_beginSeeking 5 = .ok (.if_icmp .eq 7, 3) := by decide +kernel
theorem dX2_beginSeeking_8 : decode cX2_beginSeeking 8 = .ok (.sipush (-10003), 3) := by decide +kernel
theorem dX2_beginSeeking_11 : decode cX2_beginSeeking 11 = .ok (.ireturn, 1) := by decide +kernel
theorem dX2_beginSeeking_12 : decode cX2_beginSeeking 12 = .ok (.aload_n 0, 1) := by decide +kernel
theorem dX2_beginSeeking_13 : decode cX2_beginSeeking 13 = .ok (.iconst 2, 1) := by decide +kernel
theorem dX2_beginSeeking_14 : decode cX2_beginSeeking 14 = .ok (.putfield 25, 3) := by decide +kernel
theorem dX2_beginSeeking_17 : decode cX2_beginSeeking 17 = .ok (.aload_n 0, 1) := by decide +kernel
theorem dX2_beginSeeking_18 : decode cX2_beginSeeking 18 = .ok (.iconst 0, 1) := by decide +kernel
theorem dX2_beginSeeking_19 : decode cX2_beginSeeking 19 = .ok (.putfield 74, 3) := by decide +kernel
theorem dX2_beginSeeking_22 : decode cX2_beginSeeking 22 = .ok (.aload_n 0, 1) := by decide +kernel
theorem dX2_beginSeeking_23 : decode cX2_beginSeeking 23 = .ok (.invokevirtual 77, 3) := by decide +kernel
theorem dX2_beginSeeking_26 : decode cX2_beginSeeking 26 = .ok (.istore_n 1, 1) := by decide +kernel
theorem dX2_beginSeeking_27 : decode cX2_beginSeeking 27 = .ok (.aload_n 0, 1) := by decide +kernel
theorem dX2_beginSeeking_28 : decode cX2_beginSeeking 28 = .ok (.invokestatic 81, 3) := by decide +kernel
theorem dX2_beginSeeking_31 : decode cX2_beginSeeking 31 = .ok (.iload_n 1, 1) := by decide +kernel
theorem dX2_beginSeeking_32 : decode cX2_beginSeeking 32 = .ok (.ireturn, 1) := by decide +kernel
theorem dX2_moveSeeker_0 : decode cX2_moveSeeker 0 = .ok (.iload_n 1, 1) := by decide +kernel
theorem dX2_moveSeeker_1 : decode cX2_moveSeeker 1 = .ok (.iconst (-1), 1) := by decide +kernel
theorem dX2_moveSeeker_2 : decode cX2_moveSeeker 2 = .ok (.if_icmp .lt 8, 3) := by decide +kernel
theorem dX2_moveSeeker_5 : decode cX2_moveSeeker 5 = .ok (.iload_n 1, 1) := by decide +kernel
theorem dX2_moveSeeker_6 : decode cX2_moveSeeker 6 = .ok (.iconst 1, 1) := by decide +kernel
theorem dX2_moveSeeker_7 : decode cX2_moveSeeker 7 = .ok (.if_icmp .le 7, 3) := by decide +kernel
theorem dX2_moveSeeker_10 : decode cX2_moveSeeker 10 = .ok (.sipush (-10002), 3) := by decide +kernel
theorem dX2_moveSeeker_13 : decode cX2_moveSeeker 13 = .ok (.ireturn, 1) := by decide +kernel
theorem dX2_moveSeeker_14 : decode cX2_moveSeeker 14 = .ok (.aload_n 0, 1) := by decide +kernel
theorem dX2_moveSeeker_15 : decode cX2_moveSeeker 15 = .ok (.getfield 25, 3) := by decide +kernel
theorem dX2_moveSeeker_18 : decode cX2_moveSeeker 18 = .ok (.iconst 2, 1) := by decide +kernel
theorem dX2_moveSeeker_19 : decode cX2_moveSeeker 19 = .ok (.if_icmp .eq 7, 3) := by decide +kernel
theorem dX2_moveSeeker_22 : decode cX2_moveSeeker 22 = .ok (.sipush (-10003), 3) := by decide +kernel
theorem dX2_moveSeeker_25 : decode cX2_moveSeeker 25 = .ok (.ireturn, 1) := by decide +kernel
theorem dX2_moveSeeker_26 : decode cX2_moveSeeker 26 = .ok (.aload_n 0, 1) := by decide +kernel
theorem dX2_moveSeeker_27 : decode cX2_moveSeeker 27 = .ok (.aload_n 0, 1) := by decide +kernel
theorem dX2_moveSeeker_28 : decode cX2_moveSeeker 28 = .ok (.getfield 74, 3) := by decide +kernel
theorem dX2_moveSeeker_31 : decode cX2_moveSeeker 31 = .ok (.iload_n 1, 1) := by decide +kernel
theorem dX2_moveSeeker_32 : decode cX2_moveSeeker 32 = .ok (.invokestatic 85, 3) := by decide +kernel
theorem dX2_moveSeeker_35 : decode cX2_moveSeeker 35 = .ok (.putfield 74, 3) := by decide +kernel
theorem dX2_moveSeeker_38 : decode cX2_moveSeeker 38 = .ok (.aload_n 0, 1) := by decide +kernel
theorem dX2_moveSeeker_39 : decode cX2_moveSeeker 39 = .ok (.getfield 74, 3) := by decide +kernel
theorem dX2_moveSeeker_42 : decode cX2_moveSeeker 42 = .ok (.ireturn, 1) := by decide +kernel
theorem dX2_cryName_0 : decode cX2_cryName 0 = .ok (.aload_n 0, 1) := by decide +kernel
theorem dX2_cryName_1 : decode cX2_cryName 1 = .ok (.iload_n 1, 1) := by decide +kernel
theorem dX2_cryName_2 : decode cX2_cryName 2 = .ok (.invokevirtual 32, 3) := by decide +kernel
theorem dX2_cryName_5 : decode cX2_cryName 5 = .ok (.ifCond .eq 10, 3) := by decide +kernel
theorem dX2_cryName_8 : decode cX2_cryName 8 = .ok (.iload_n 2, 1) := by decide +kernel
theorem dX2_cryName_9 : decode cX2_cryName 9 = .ok (.invokestatic 55, 3) := by decide +kernel
theorem dX2_cryName_12 : decode cX2_cryName 12 = .ok (.ifCond .ne 7, 3) := by decide +kernel
theorem dX2_cryName_15 : decode cX2_cryName 15 = .ok (.sipush (-10001), 3) := by decide +kernel
theorem dX2_cryName_18 : decode cX2_cryName 18 = .ok (.ireturn, 1) := by decide +kernel
theorem dX2_cryName_19 : decode cX2_cryName 19 = .ok (.aload_n 0, 1) := by decide +kernel
theorem dX2_cryName_20 : decode cX2_cryName 20 = .ok (.getfield 25, 3) := by decide +kernel
theorem dX2_cryName_23 : decode cX2_cryName 23 = .ok (.iconst 2, 1) := by decide +kernel
theorem dX2_cryName_24 : decode cX2_cryName 24 = .ok (.if_icmp .ne 19, 3) := by decide +kernel
theorem dX2_cryName_27 : decode cX2_cryName 27 = .ok (.iload_n 1, 1) := by decide +kernel
theorem dX2_cryName_28 : decode cX2_cryName 28 = .ok (.aload_n 0, 1) := by decide +kernel
theorem dX2_cryName_29 : decode cX2_cryName 29 = .ok (.getfield 35, 3) := by decide +kernel
theorem dX2_cryName_32 : decode cX2_cryName 32 = .ok (.if_icmp .eq 11, 3) := by decide +kernel
theorem dX2_cryName_35 : decode cX2_cryName 35 = .ok (.aload_n 0, 1) := by decide +kernel
theorem dX2_cryName_36 : decode cX2_cryName 36 = .ok (.iload_n 2, 1) := by decide +kernel
theorem dX2_cryName_37 : decode cX2_cryName 37 = .ok (.invokevirtual 89, 3) := by decide +kernel
theorem dX2_cryName_40 : decode cX2_cryName 40 = .ok (.ifCond .ne 7, 3) := by decide +kernel
theorem dX2_cryName_43 : decode cX2_cryName 43 = .ok (.sipush (-10003), 3) := by decide +kernel
theorem dX2_cryName_46 : decode cX2_cryName 46 = .ok (.ireturn, 1) := by decide +kernel
theorem dX2_cryName_47 : decode cX2_cryName 47 = .ok (.aload_n 0, 1) := by decide +kernel
theorem dX2_cryName_48 : decode cX2_cryName 48 = .ok (.getfield 67, 3) := by decide +kernel
theorem dX2_cryName_51 : decode cX2_cryName 51 = .ok (.iload_n 1, 1) := by decide +kernel
theorem dX2_cryName_52 : decode cX2_cryName 52 = .ok (.iaload, 1) := by decide +kernel
theorem dX2_cryName_53 : decode cX2_cryName 53 = .ok (.iload_n 2, 1) := by decide +kernel
theorem dX2_cryName_54 : decode cX2_cryName 54 = .ok (.if_icmp .eq 9, 3) := by decide +kernel
theorem dX2_cryName_57 : decode cX2_cryName 57 = .ok (.aload_n 0, 1) := by decide +kernel
theorem dX2_cryName_58 : decode cX2_cryName 58 = .ok (.invokestatic 92, 3) := by decide +kernel
theorem dX2_cryName_61 : decode cX2_cryName 61 = .ok (.iconst 0, 1) := by decide +kernel
theorem dX2_cryName_62 : decode cX2_cryName 62 = .ok (.ireturn, 1) := by decide +kernel
theorem dX2_cryName_63 : decode cX2_cryName 63 = .ok (.aload_n 0, 1) := by decide +kernel
theorem dX2_cryName_64 : decode cX2_cryName 64 = .ok (.iload_n 2, 1) := by decide +kernel
theorem dX2_cryName_65 : decode cX2_cryName 65 = .ok (.invokestatic 95, 3) := by decide +kernel
theorem dX2_cryName_68 : decode cX2_cryName 68 = .ok (.aload_n 0, 1) := by decide +kernel
theorem dX2_cryName_69 : decode cX2_cryName 69 = .ok (.iload_n 1, 1) := by decide +kernel
theorem dX2_cryName_70 : decode cX2_cryName 70 = .ok (.iconst 2, 1) := by decide +kernel
theorem dX2_cryName_71 : decode cX2_cryName 71 = .ok (.invokestatic 99, 3) := by decide +kernel
theorem dX2_cryName_74 : decode cX2_cryName 74 = .ok (.iconst 1, 1) := by decide +kernel
theorem dX2_cryName_75 : decode cX2_cryName 75 = .ok (.ireturn, 1) := by decide +kernel
theorem dX2_dashHome_0 : decode cX2_dashHome 0 = .ok (.aload_n 0, 1) := by decide +kernel
theorem dX2_dashHome_1 : decode cX2_dashHome 1 = .ok (.iload_n 1, 1) := by decide +kernel
theorem dX2_dashHome_2 : decode cX2_dashHome 2 = .ok (.invokevirtual 32, 3) := by decide +kernel
theorem dX2_dashHome_5 : decode cX2_dashHome 5 = .ok (.ifCond .ne 7, 3) := by decide +kernel
theorem dX2_dashHome_8 : decode cX2_dashHome 8 = .ok (.sipush (-10001), 3) := by decide +kernel
theorem dX2_dashHome_11 : decode cX2_dashHome 11 = .ok (.ireturn, 1) := by decide +kernel
theorem dX2_dashHome_12 : decode cX2_dashHome 12 = .ok (.aload_n 0, 1) := by decide +kernel
theorem dX2_dashHome_13 : decode cX2_dashHome 13 = .ok (.getfield 25, 3) := by decide +kernel
theorem dX2_dashHome_16 : decode cX2_dashHome 16 = .ok (.iconst 2, 1) := by decide +kernel
theorem dX2_dashHome_17 : decode cX2_dashHome 17 = .ok (.if_icmp .ne 11, 3) := by decide +kernel
theorem dX2_dashHome_20 : decode cX2_dashHome 20 = .ok (.aload_n 0, 1) := by decide +kernel
theorem dX2_dashHome_21 : decode cX2_dashHome 21 = .ok (.iload_n 1, 1) := by decide +kernel
theorem dX2_dashHome_22 : decode cX2_dashHome 22 = .ok (.invokevirtual 58, 3) := by decide +kernel
theorem dX2_dashHome_25 : decode cX2_dashHome 25 = .ok (.ifCond .ne 7, 3) := by decide +kernel
theorem dX2_dashHome_28 : decode cX2_dashHome 28 = .ok (.sipush (-10003), 3) := by decide +kernel
theorem dX2_dashHome_31 : decode cX2_dashHome 31 = .ok (.ireturn, 1) := by decide +kernel
theorem dX2_dashHome_32 : decode cX2_dashHome 32 = .ok (.aload_n 0, 1) := by decide +kernel
theorem dX2_dashHome_33 : decode cX2_dashHome 33 = .ok (.iload_n 1, 1) := by decide +kernel
theorem dX2_dashHome_34 : decode cX2_dashHome 34 = .ok (.invokevirtual 103, 3) := by decide +kernel
theorem dX2_dashHome_37 : decode cX2_dashHome 37 = .ok (.ifCond .ne 11, 3) := by decide +kernel
theorem dX2_dashHome_40 : decode cX2_dashHome 40 = .ok (.aload_n 0, 1) := by decide +kernel
theorem dX2_dashHome_41 : decode cX2_dashHome 41 = .ok (.iload_n 1, 1) := by decide +kernel
theorem dX2_dashHome_42 : decode cX2_dashHome 42 = .ok (.iconst 1, 1) := by decide +kernel
theorem dX2_dashHome_43 : decode cX2_dashHome 43 = .ok (.invokestatic 99, 3) := by decide +kernel
theorem dX2_dashHome_46 : decode cX2_dashHome 46 = .ok (.iconst 0, 1) := by decide +kernel
theorem dX2_dashHome_47 : decode cX2_dashHome 47 = .ok (.ireturn, 1) := by decide +kernel
theorem dX2_dashHome_48 : decode cX2_dashHome 48 = .ok (.aload_n 0, 1) := by decide +kernel
theorem dX2_dashHome_49 : decode cX2_dashHome 49 = .ok (.iload_n 1, 1) := by decide +kernel
theorem dX2_dashHome_50 : decode cX2_dashHome 50 = .ok (.iconst 3, 1) := by decide +kernel
theorem dX2_dashHome_51 : decode cX2_dashHome 51 = .ok (.invokestatic 106, 3) := by decide +kernel
theorem dX2_dashHome_54 : decode cX2_dashHome 54 = .ok (.aload_n 0, 1) := by decide +kernel
theorem dX2_dashHome_55 : decode cX2_dashHome 55 = .ok (.invokestatic 81, 3) := by decide +kernel
theorem dX2_dashHome_58 : decode cX2_dashHome 58 = .ok (.iconst 1, 1) := by decide +kernel
theorem dX2_dashHome_59 : decode cX2_dashHome 59 = .ok (.ireturn, 1) := by decide +kernel
theorem dX2_findPlayer_0 : decode cX2_findPlayer 0 = .ok (.aload_n 0, 1) := by decide +kernel
theorem dX2_findPlayer_1 : decode cX2_findPlayer 1 = .ok (.getfield 67, 3) := by decide +kernel
theorem dX2_findPlayer_4 : decode cX2_findPlayer 4 = .ok (.iload_n 1, 1) := by decide +kernel
theorem dX2_findPlayer_5 : decode cX2_findPlayer 5 = .ok (.sipush (-10006), 3) := by decide +kernel
theorem dX2_findPlayer_8 : decode cX2_findPlayer 8 = .ok (.iastore, 1) := by decide +kernel
theorem dX2_findPlayer_9 : decode cX2_findPlayer 9 = .ok (.aload_n 0, 1) := by decide +kernel
theorem dX2_findPlayer_10 : decode cX2_findPlayer 10 = .ok (.aload_n 0, 1) := by decide +kernel
theorem dX2_findPlayer_11 : decode cX2_findPlayer 11 = .ok (.getfield 35, 3) := by decide +kernel
theorem dX2_findPlayer_14 : decode cX2_findPlayer 14 = .ok (.invokevirtual 32, 3) := by decide +kernel
theorem dX2_findPlayer_17 : decode cX2_findPlayer 17 = .ok (.ifCond .eq 29, 3) := by decide +kernel
theorem dX2_findPlayer_20 : decode cX2_findPlayer 20 = .ok (.aload_n 0, 1) := by decide +kernel
theorem dX2_findPlayer_21 : decode cX2_findPlayer 21 = .ok (.getfield 109, 3) := by decide +kernel
theorem dX2_findPlayer_24 : decode cX2_findPlayer 24 = .ok (.aload_n 0, 1) := by decide +kernel
theorem dX2_findPlayer_25 : decode cX2_findPlayer 25 = .ok (.getfield 35, 3) := by decide +kernel
theorem dX2_findPlayer_28 : decode cX2_findPlayer 28 = .ok (.dup2, 1) := by decide +kernel
theorem dX2_findPlayer_29 : decode cX2_findPlayer 29 = .ok (.iaload, 1) := by decide +kernel
theorem dX2_findPlayer_30 : decode cX2_findPlayer 30 = .ok (.iload_n 2, 1) := by decide +kernel
theorem dX2_findPlayer_31 : decode cX2_findPlayer 31 = .ok (.iadd, 1) := by decide +kernel
theorem dX2_findPlayer_32 : decode cX2_findPlayer 32 = .ok (.iastore, 1) := by decide +kernel
theorem dX2_findPlayer_33 : decode cX2_findPlayer 33 = .ok (.aload_n 0, 1) := by decide +kernel
theorem dX2_findPlayer_34 : decode cX2_findPlayer 34 = .ok (.getfield 112, 3) := by decide +kernel
theorem dX2_findPlayer_37 : decode cX2_findPlayer 37 = .ok (.aload_n 0, 1) := by decide +kernel
theorem dX2_findPlayer_38 : decode cX2_findPlayer 38 = .ok (.getfield 35, 3) := by decide +kernel
theorem dX2_findPlayer_41 : decode cX2_findPlayer 41 = .ok (.dup2, 1) := by decide +kernel
theorem dX2_findPlayer_42 : decode cX2_findPlayer 42 = .ok (.iaload, 1) := by decide +kernel
theorem dX2_findPlayer_43 : decode cX2_findPlayer 43 = .ok (.iconst 1, 1) := by decide +kernel
theorem dX2_findPlayer_44 : decode cX2_findPlayer 44 = .ok (.iadd, 1) := by decide +kernel
theorem dX2_findPlayer_45 : decode cX2_findPlayer 45 = .ok (.iastore, 1) := by decide +kernel
theorem dX2_findPlayer_46 : decode cX2_findPlayer 46 = .ok (.aload_n 0, 1) := by decide +kernel
theorem dX2_findPlayer_47 : decode cX2_findPlayer 47 = .ok (.invokestatic 81, 3) := by decide +kernel
theorem dX2_findPlayer_50 : decode cX2_findPlayer 50 = .ok (.return_, 1) := by decide +kernel
theorem dX2_countFindOfSpot_0 : decode cX2_countFindOfSpot 0 = .ok (.aload_n 0, 1) := by decide +kernel
theorem dX2_countFindOfSpot_1 : decode cX2_countFindOfSpot 1 = .ok (.getfield 115, 3) := by decide +kernel
theorem dX2_countFindOfSpot_4 : decode cX2_countFindOfSpot 4 = .ok (.iload_n 1, 1) := by decide +kernel
theorem dX2_countFindOfSpot_5 : decode cX2_countFindOfSpot 5 = .ok (.dup2, 1) := by decide +kernel
theorem dX2_countFindOfSpot_6 : decode cX2_countFindOfSpot 6 = .ok (.iaload, 1) := by decide +kernel
theorem dX2_countFindOfSpot_7 : decode cX2_countFindOfSpot 7 = .ok (.iconst 1, 1) := by decide +kernel
theorem dX2_countFindOfSpot_8 : decode cX2_countFindOfSpot 8 = .ok (.iadd, 1) := by decide +kernel
theorem dX2_countFindOfSpot_9 : decode cX2_countFindOfSpot 9 = .ok (.iastore, 1) := by decide +kernel
theorem dX2_countFindOfSpot_10 : decode cX2_countFindOfSpot 10 = .ok (.aload_n 0, 1) := by decide +kernel
theorem dX2_countFindOfSpot_11 : decode cX2_countFindOfSpot 11 = .ok (.getfield 115, 3) := by decide +kernel
theorem dX2_countFindOfSpot_14 : decode cX2_countFindOfSpot 14 = .ok (.iload_n 1, 1) := by decide +kernel
theorem dX2_countFindOfSpot_15 : decode cX2_countFindOfSpot 15 = .ok (.iaload, 1) := by decide +kernel
theorem dX2_countFindOfSpot_16 : decode cX2_countFindOfSpot 16 = .ok (.aload_n 0, 1) := by decide +kernel
theorem dX2_countFindOfSpot_17 : decode cX2_countFindOfSpot 17 = .ok (.getfield 22, 3) := by decide +kernel
theorem dX2_countFindOfSpot_20 : decode cX2_countFindOfSpot 20 = .ok (.iconst 1, 1) := by decide +kernel
theorem dX2_countFindOfSpot_21 : decode cX2_countFindOfSpot 21 = .ok (.iaload, 1) := by decide +kernel
theorem dX2_countFindOfSpot_22 : decode cX2_countFindOfSpot 22 = .ok (.if_icmp .lt 7, 3) := by decide +kernel
theorem dX2_countFindOfSpot_25 : decode cX2_countFindOfSpot 25 = .ok (.iconst 1, 1) := by decide +kernel
theorem dX2_countFindOfSpot_26 : decode cX2_countFindOfSpot 26 = .ok (.goto 4, 3) := by decide +kernel
theorem dX2_countFindOfSpot_29 : decode cX2_countFindOfSpot 29 = .ok (.iconst 0, 1) := by decide +kernel
theorem dX2_countFindOfSpot_30 : decode cX2_countFindOfSpot 30 = .ok (.istore_n 2, 1) := by decide +kernel
theorem dX2_countFindOfSpot_31 : decode cX2_countFindOfSpot 31 = .ok (.iload_n 2, 1) := by decide +kernel
theorem dX2_countFindOfSpot_32 : decode cX2_countFindOfSpot 32 = .ok (.ifCond .eq 18, 3) := by decide +kernel
theorem dX2_countFindOfSpot_35 : decode cX2_countFindOfSpot 35 = .ok (.aload_n 0, 1) := by decide +kernel
theorem dX2_countFindOfSpot_36 : decode cX2_countFindOfSpot 36 = .ok (.iload_n 1, 1) := by decide +kernel
theorem dX2_countFindOfSpot_37 : decode cX2_countFindOfSpot 37 = .ok (.invokevirtual 118, 3) := by decide +kernel
theorem dX2_countFindOfSpot_40 : decode cX2_countFindOfSpot 40 = .ok (.ifCond .ne 10, 3) := by decide +kernel
theorem dX2_countFindOfSpot_43 : decode cX2_countFindOfSpot 43 = .ok (.aload_n 0, 1) := by decide +kernel
theorem dX2_countFindOfSpot_44 : decode cX2_countFindOfSpot 44 = .ok (.getfield 121, 3) := by decide +kernel
theorem dX2_countFindOfSpot_47 : decode cX2_countFindOfSpot 47 = .ok (.iload_n 1, 1) := by decide +kernel
theorem dX2_countFindOfSpot_48 : decode cX2_countFindOfSpot 48 = .ok (.iconst 0, 1) := by decide +kernel
theorem dX2_countFindOfSpot_49 : decode cX2_countFindOfSpot 49 = .ok (.iastore, 1) := by decide +kernel
theorem dX2_countFindOfSpot_50 : decode cX2_countFindOfSpot 50 = .ok (.return_, 1) := by decide +kernel
theorem dX2_countFalseCry_0 : decode cX2_countFalseCry 0 = .ok (.aload_n 0, 1) := by decide +kernel
theorem dX2_countFalseCry_1 : decode cX2_countFalseCry 1 = .ok (.dup, 1) := by decide +kernel
theorem dX2_countFalseCry_2 : decode cX2_countFalseCry 2 = .ok (.getfield 124, 3) := by decide +kernel
theorem dX2_countFalseCry_5 : decode cX2_countFalseCry 5 = .ok (.iconst 1, 1) := by decide +kernel
theorem dX2_countFalseCry_6 : decode cX2_countFalseCry 6 = .ok (.iadd, 1) := by decide +kernel
theorem dX2_countFalseCry_7 : decode cX2_countFalseCry 7 = .ok (.putfield 124, 3) := by decide +kernel
theorem dX2_countFalseCry_10 : decode cX2_countFalseCry 10 = .ok (.aload_n 0, 1) := by decide +kernel
theorem dX2_countFalseCry_11 : decode cX2_countFalseCry 11 = .ok (.aload_n 0, 1) := by decide +kernel
theorem dX2_countFalseCry_12 : decode cX2_countFalseCry 12 = .ok (.getfield 35, 3) := by decide +kernel
theorem dX2_countFalseCry_15 : decode cX2_countFalseCry 15 = .ok (.invokevirtual 32, 3) := by decide +kernel
theorem dX2_countFalseCry_18 : decode cX2_countFalseCry 18 = .ok (.ifCond .eq 29, 3) := by decide +kernel
theorem dX2_countFalseCry_21 : decode cX2_countFalseCry 21 = .ok (.aload_n 0, 1) := by decide +kernel
theorem dX2_countFalseCry_22 : decode cX2_countFalseCry 22 = .ok (.getfield 109, 3) := by decide +kernel
theorem dX2_countFalseCry_25 : decode cX2_countFalseCry 25 = .ok (.aload_n 0, 1) := by decide +kernel
theorem dX2_countFalseCry_26 : decode cX2_countFalseCry 26 = .ok (.getfield 35, 3) := by decide +kernel
theorem dX2_countFalseCry_29 : decode cX2_countFalseCry 29 = .ok (.dup2, 1) := by decide +kernel
theorem dX2_countFalseCry_30 : decode cX2_countFalseCry 30 = .ok (.iaload, 1) := by decide +kernel
theorem dX2_countFalseCry_31 : decode cX2_countFalseCry 31 = .ok (.iconst (-1), 1) := by decide +kernel
theorem dX2_countFalseCry_32 : decode cX2_countFalseCry 32 = .ok (.iadd, 1) := by decide +kernel
theorem dX2_countFalseCry_33 : decode cX2_countFalseCry 33 = .ok (.iastore, 1) := by decide +kernel
theorem dX2_countFalseCry_34 : decode cX2_countFalseCry 34 = .ok (.aload_n 0, 1) := by decide +kernel
theorem dX2_countFalseCry_35 : decode cX2_countFalseCry 35 = .ok (.getfield 127, 3) := by decide +kernel
theorem dX2_countFalseCry_38 : decode cX2_countFalseCry 38 = .ok (.aload_n 0, 1) := by decide +kernel
theorem dX2_countFalseCry_39 : decode cX2_countFalseCry 39 = .ok (.getfield 35, 3) := by decide +kernel
theorem dX2_countFalseCry_42 : decode cX2_countFalseCry 42 = .ok (.dup2, 1) := by decide +kernel
theorem dX2_countFalseCry_43 : decode cX2_countFalseCry 43 = .ok (.iaload, 1) := by decide +kernel
theorem dX2_countFalseCry_44 : decode cX2_countFalseCry 44 = .ok (.iconst 1, 1) := by decide +kernel
theorem dX2_countFalseCry_45 : decode cX2_countFalseCry 45 = .ok (.iadd, 1) := by decide +kernel
theorem dX2_countFalseCry_46 : decode cX2_countFalseCry 46 = .ok (.iastore, 1) := by decide +kernel
theorem dX2_countFalseCry_47 : decode cX2_countFalseCry 47 = .ok (.aload_n 0, 1) := by decide +kernel
theorem dX2_countFalseCry_48 : decode cX2_countFalseCry 48 = .ok (.getfield 124, 3) := by decide +kernel
theorem dX2_countFalseCry_51 : decode cX2_countFalseCry 51 = .ok (.aload_n 0, 1) := by decide +kernel
theorem dX2_countFalseCry_52 : decode cX2_countFalseCry 52 = .ok (.getfield 22, 3) := by decide +kernel
theorem dX2_countFalseCry_55 : decode cX2_countFalseCry 55 = .ok (.iconst 3, 1) := by decide +kernel
theorem dX2_countFalseCry_56 : decode cX2_countFalseCry 56 = .ok (.iaload, 1) := by decide +kernel
theorem dX2_countFalseCry_57 : decode cX2_countFalseCry 57 = .ok (.if_icmp .lt 11, 3) := by decide +kernel
theorem dX2_countFalseCry_60 : decode cX2_countFalseCry 60 = .ok (.aload_n 0, 1) := by decide +kernel
theorem dX2_countFalseCry_61 : decode cX2_countFalseCry 61 = .ok (.invokestatic 130, 3) := by decide +kernel
theorem dX2_countFalseCry_64 : decode cX2_countFalseCry 64 = .ok (.aload_n 0, 1) := by decide +kernel
theorem dX2_countFalseCry_65 : decode cX2_countFalseCry 65 = .ok (.invokestatic 133, 3) := by decide +kernel
theorem dX2_countFalseCry_68 : decode cX2_countFalseCry 68 = .ok (.return_, 1) := by decide +kernel
theorem dX2_letAllEscape_0 : decode cX2_letAllEscape 0 = .ok (.iconst 0, 1) := by decide +kernel
theorem dX2_letAllEscape_1 : decode cX2_letAllEscape 1 = .ok (.istore_n 1, 1) := by decide +kernel
theorem dX2_letAllEscape_2 : decode cX2_letAllEscape 2 = .ok (.iload_n 1, 1) := by decide +kernel
theorem dX2_letAllEscape_3 : decode cX2_letAllEscape 3 = .ok (.aload_n 0, 1) := by decide +kernel
theorem dX2_letAllEscape_4 : decode cX2_letAllEscape 4 = .ok (.getfield 29, 3) := by decide +kernel
theorem dX2_letAllEscape_7 : decode cX2_letAllEscape 7 = .ok (.if_icmp .ge 23, 3) := by decide +kernel
theorem dX2_letAllEscape_10 : decode cX2_letAllEscape 10 = .ok (.aload_n 0, 1) := by decide +kernel
theorem dX2_letAllEscape_11 : decode cX2_letAllEscape 11 = .ok (.iload_n 1, 1) := by decide +kernel
theorem dX2_letAllEscape_12 : decode cX2_letAllEscape 12 = .ok (.invokevirtual 58, 3) := by decide +kernel
theorem dX2_letAllEscape_15 : decode cX2_letAllEscape 15 = .ok (.ifCond .eq 9, 3) := by decide +kernel
theorem dX2_letAllEscape_18 : decode cX2_letAllEscape 18 = .ok (.aload_n 0, 1) := by decide +kernel
theorem dX2_letAllEscape_19 : decode cX2_letAllEscape 19 = .ok (.iload_n 1, 1) := by decide +kernel
theorem dX2_letAllEscape_20 : decode cX2_letAllEscape 20 = .ok (.iconst 1, 1) := by decide +kernel
theorem dX2_letAllEscape_21 : decode cX2_letAllEscape 21 = .ok (.invokestatic 106, 3) := by decide +kernel
theorem dX2_letAllEscape_24 : decode cX2_letAllEscape 24 = .ok (.iinc 1 1, 3) := by decide +kernel
theorem dX2_letAllEscape_27 : decode cX2_letAllEscape 27 = .ok (.goto (-25), 3) := by decide +kernel
theorem dX2_letAllEscape_30 : decode cX2_letAllEscape 30 = .ok (.return_, 1) := by decide +kernel
theorem dX2_escape_0 : decode cX2_escape 0 = .ok (.aload_n 0, 1) := by decide +kernel
theorem dX2_escape_1 : decode cX2_escape 1 = .ok (.getfield 67, 3) := by decide +kernel
theorem dX2_escape_4 : decode cX2_escape 4 = .ok (.iload_n 1, 1) := by decide +kernel
theorem dX2_escape_5 : decode cX2_escape 5 = .ok (.sipush (-10006), 3) := by decide +kernel
theorem dX2_escape_8 : decode cX2_escape 8 = .ok (.iastore, 1) := by decide +kernel
theorem dX2_escape_9 : decode cX2_escape 9 = .ok (.aload_n 0, 1) := by decide +kernel
theorem dX2_escape_10 : decode cX2_escape 10 = .ok (.getfield 109, 3) := by decide +kernel
theorem dX2_escape_13 : decode cX2_escape 13 = .ok (.iload_n 1, 1) := by decide +kernel
theorem dX2_escape_14 : decode cX2_escape 14 = .ok (.dup2, 1) := by decide +kernel
theorem dX2_escape_15 : decode cX2_escape 15 = .ok (.iaload, 1) := by decide +kernel
theorem dX2_escape_16 : decode cX2_escape 16 = .ok (.iload_n 2, 1) := by decide +kernel
theorem dX2_escape_17 : decode cX2_escape 17 = .ok (.iadd, 1) := by decide +kernel
theorem dX2_escape_18 : decode cX2_escape 18 = .ok (.iastore, 1) := by decide +kernel
theorem dX2_escape_19 : decode cX2_escape 19 = .ok (.aload_n 0, 1) := by decide +kernel
theorem dX2_escape_20 : decode cX2_escape 20 = .ok (.getfield 136, 3) := by decide +kernel
theorem dX2_escape_23 : decode cX2_escape 23 = .ok (.iload_n 1, 1) := by decide +kernel
theorem dX2_escape_24 : decode cX2_escape 24 = .ok (.dup2, 1) := by decide +kernel
theorem dX2_escape_25 : decode cX2_escape 25 = .ok (.iaload, 1) := by decide +kernel
theorem dX2_escape_26 : decode cX2_escape 26 = .ok (.iconst 1, 1) := by decide +kernel
theorem dX2_escape_27 : decode cX2_escape 27 = .ok (.iadd, 1) := by decide +kernel
theorem dX2_escape_28 : decode cX2_escape 28 = .ok (.iastore, 1) := by decide +kernel
theorem dX2_escape_29 : decode cX2_escape 29 = .ok (.return_, 1) := by decide +kernel
theorem dX2_endRoundIfNobodyIsHidden_0 : decode cX2_endRoundIfNobodyIsHidden 0 = .ok (.aload_n 0, 1) := by decide +kernel
theorem dX2_endRoundIfNobodyIsHidden_1 : decode cX2_endRoundIfNobodyIsHidden 1 = .ok (.invokevirtual 77, 3) := by decide +kernel
theorem dX2_endRoundIfNobodyIsHidden_4 : decode cX2_endRoundIfNobodyIsHidden 4 = .ok (.ifCond .ne 7, 3) := by decide +kernel
theorem dX2_endRoundIfNobodyIsHidden_7 : decode cX2_endRoundIfNobodyIsHidden 7 = .ok (.aload_n 0, 1) := by decide +kernel
theorem dX2_endRoundIfNobodyIsHidden_8 : decode cX2_endRoundIfNobodyIsHidden 8 = .ok (.invokestatic 133, 3) := by decide +kernel
theorem dX2_endRoundIfNobodyIsHidden_11 : decode cX2_endRoundIfNobodyIsHidden 11 = .ok (.return_, 1) := by decide +kernel
theorem dX2_endRound_0 : decode cX2_endRound 0 = .ok (.aload_n 0, 1) := by decide +kernel
theorem dX2_endRound_1 : decode cX2_endRound 1 = .ok (.iconst 0, 1) := by decide +kernel
theorem dX2_endRound_2 : decode cX2_endRound 2 = .ok (.putfield 25, 3) := by decide +kernel
theorem dX2_endRound_5 : decode cX2_endRound 5 = .ok (.aload_n 0, 1) := by decide +kernel
theorem dX2_endRound_6 : decode cX2_endRound 6 = .ok (.sipush (-10006), 3) := by decide +kernel
theorem dX2_endRound_9 : decode cX2_endRound 9 = .ok (.putfield 35, 3) := by decide +kernel
theorem dX2_endRound_12 : decode cX2_endRound 12 = .ok (.aload_n 0, 1) := by decide +kernel
theorem dX2_endRound_13 : decode cX2_endRound 13 = .ok (.sipush (-10006), 3) := by decide +kernel
theorem dX2_endRound_16 : decode cX2_endRound 16 = .ok (.putfield 38, 3) := by decide +kernel
theorem dX2_endRound_19 : decode cX2_endRound 19 = .ok (.aload_n 0, 1) := by decide +kernel
theorem dX2_endRound_20 : decode cX2_endRound 20 = .ok (.sipush (-10006), 3) := by decide +kernel
theorem dX2_endRound_23 : decode cX2_endRound 23 = .ok (.putfield 74, 3) := by decide +kernel
theorem dX2_endRound_26 : decode cX2_endRound 26 = .ok (.aload_n 0, 1) := by decide +kernel
theorem dX2_endRound_27 : decode cX2_endRound 27 = .ok (.iconst 0, 1) := by decide +kernel
theorem dX2_endRound_28 : decode cX2_endRound 28 = .ok (.putfield 124, 3) := by decide +kernel
theorem dX2_endRound_31 : decode cX2_endRound 31 = .ok (.aload_n 0, 1) := by decide +kernel
theorem dX2_endRound_32 : decode cX2_endRound 32 = .ok (.dup, 1) := by decide +kernel
theorem dX2_endRound_33 : decode cX2_endRound 33 = .ok (.getfield 139, 3) := by decide +kernel
theorem dX2_endRound_36 : decode cX2_endRound 36 = .ok (.iconst 1, 1) := by decide +kernel
theorem dX2_endRound_37 : decode cX2_endRound 37 = .ok (.iadd, 1) := by decide +kernel
theorem dX2_endRound_38 : decode cX2_endRound 38 = .ok (.putfield 139, 3) := by decide +kernel
theorem dX2_endRound_41 : decode cX2_endRound 41 = .ok (.iconst 0, 1) := by decide +kernel
theorem dX2_endRound_42 : decode cX2_endRound 42 = .ok (.istore_n 1, 1) := by decide +kernel
theorem dX2_endRound_43 : decode cX2_endRound 43 = .ok (.iload_n 1, 1) := by decide +kernel
theorem dX2_endRound_44 : decode cX2_endRound 44 = .ok (.bipush 16, 2) := by decide +kernel
theorem dX2_endRound_46 : decode cX2_endRound 46 = .ok (.if_icmp .ge 22, 3) := by decide +kernel
theorem dX2_endRound_49 : decode cX2_endRound 49 = .ok (.aload_n 0, 1) := by decide +kernel
theorem dX2_endRound_50 : decode cX2_endRound 50 = .ok (.iload_n 1, 1) := by decide +kernel
theorem dX2_endRound_51 : decode cX2_endRound 51 = .ok (.invokevirtual 118, 3) := by decide +kernel
theorem dX2_endRound_54 : decode cX2_endRound 54 = .ok (.ifCond .eq 8, 3) := by decide +kernel
theorem dX2_endRound_57 : decode cX2_endRound 57 = .ok (.aload_n 0, 1) := by decide +kernel
theorem dX2_endRound_58 : decode cX2_endRound 58 = .ok (.iload_n 1, 1) := by decide +kernel
theorem dX2_endRound_59 : decode cX2_endRound 59 = .ok (.invokestatic 142, 3) := by decide +kernel
theorem dX2_endRound_62 : decode cX2_endRound 62 = .ok (.iinc 1 1, 3) := by decide +kernel
theorem dX2_endRound_65 : decode cX2_endRound 65 = .ok (.goto (-22), 3) := by decide +kernel
theorem dX2_endRound_68 : decode cX2_endRound 68 = .ok (.return_, 1) := by decide +kernel
theorem dX2_restSpot_0 : decode cX2_restSpot 0 = .ok (.aload_n 0, 1) := by decide +kernel
theorem dX2_restSpot_1 : decode cX2_restSpot 1 = .ok (.getfield 121, 3) := by decide +kernel
theorem dX2_restSpot_4 : decode cX2_restSpot 4 = .ok (.iload_n 1, 1) := by decide +kernel
theorem dX2_restSpot_5 : decode cX2_restSpot 5 = .ok (.dup2, 1) := by decide +kernel
theorem dX2_restSpot_6 : decode cX2_restSpot 6 = .ok (.iaload, 1) := by decide +kernel
theorem dX2_restSpot_7 : decode cX2_restSpot 7 = .ok (.iconst 1, 1) := by decide +kernel
theorem dX2_restSpot_8 : decode cX2_restSpot 8 = .ok (.iadd, 1) := by decide +kernel
theorem dX2_restSpot_9 : decode cX2_restSpot 9 = .ok (.iastore, 1) := by decide +kernel
theorem dX2_restSpot_10 : decode cX2_restSpot 10 = .ok (.aload_n 0, 1) := by decide +kernel
theorem dX2_restSpot_11 : decode cX2_restSpot 11 = .ok (.getfield 22, 3) := by decide +kernel
theorem dX2_restSpot_14 : decode cX2_restSpot 14 = .ok (.iconst 2, 1) := by decide +kernel
theorem dX2_restSpot_15 : decode cX2_restSpot 15 = .ok (.iaload, 1) := by decide +kernel
theorem dX2_restSpot_16 : decode cX2_restSpot 16 = .ok (.istore_n 2, 1) := by decide +kernel
theorem dX2_restSpot_17 : decode cX2_restSpot 17 = .ok (.iload_n 2, 1) := by decide +kernel
theorem dX2_restSpot_18 : decode cX2_restSpot 18 = .ok (.ifCond .eq 27, 3) := by decide +kernel
theorem dX2_restSpot_21 : decode cX2_restSpot 21 = .ok (.aload_n 0, 1) := by decide +kernel
theorem dX2_restSpot_22 : decode cX2_restSpot 22 = .ok (.getfield 121, 3) := by decide +kernel
theorem dX2_restSpot_25 : decode cX2_restSpot 25 = .ok (.iload_n 1, 1) := by decide +kernel
theorem dX2_restSpot_26 : decode cX2_restSpot 26 = .ok (.iaload, 1) := by decide +kernel
theorem dX2_restSpot_27 : decode cX2_restSpot 27 = .ok (.iload_n 2, 1) := by decide +kernel
theorem dX2_restSpot_28 : decode cX2_restSpot 28 = .ok (.if_icmp .lt 17, 3) := by decide +kernel
theorem dX2_restSpot_31 : decode cX2_restSpot 31 = .ok (.aload_n 0, 1) := by decide +kernel
theorem dX2_restSpot_32 : decode cX2_restSpot 32 = .ok (.getfield 121, 3) := by decide +kernel
theorem dX2_restSpot_35 : decode cX2_restSpot 35 = .ok (.iload_n 1, 1) := by decide +kernel
theorem dX2_restSpot_36 : decode cX2_restSpot 36 = .ok (.iconst (-1), 1) := by decide +kernel
theorem dX2_restSpot_37 : decode cX2_restSpot 37 = .ok (.iastore, 1) := by decide +kernel
theorem dX2_restSpot_38 : decode cX2_restSpot 38 = .ok (.aload_n 0, 1) := by decide +kernel
theorem dX2_restSpot_39 : decode cX2_restSpot 39 = .ok (.getfield 115, 3) := by decide +kernel
theorem dX2_restSpot_42 : decode cX2_restSpot 42 = .ok (.iload_n 1, 1) := by decide +kernel
theorem dX2_restSpot_43 : decode cX2_restSpot 43 = .ok (.iconst 0, 1) := by decide +kernel
theorem dX2_restSpot_44 : decode cX2_restSpot 44 = .ok (.iastore, 1) := by decide +kernel
theorem dX2_restSpot_45 : decode cX2_restSpot 45 = .ok (.return_, 1) := by decide +kernel
theorem dX3_init_0 : decode cX3_init 0 = .ok (.aload_n 0, 1) := by decide +kernel
theorem dX3_init_1 : decode cX3_init 1 = .ok (.invokespecial 3, 3) := by decide +kernel
theorem dX3_init_4 : decode cX3_init 4 = .ok (.aload_n 0, 1) := by decide +kernel
theorem dX3_init_5 : decode cX3_init 5 = .ok (.bipush 6, 2) := by decide +kernel
theorem dX3_init_7 : decode cX3_init 7 = .ok (.anewarray 9, 3) := by decide +kernel
theorem dX3_init_10 : decode cX3_init 10 = .ok (.putfield 11, 3) := by decide +kernel
theorem dX3_init_13 : decode cX3_init 13 = .ok (.aload_n 0, 1) := by decide +kernel
theorem dX3_init_14 : decode cX3_init 14 = .ok (.iconst 0, 1) := by decide +kernel
theorem dX3_init_15 : decode cX3_init 15 = .ok (.putfield 17, 3) := by decide +kernel
theorem dX3_init_18 : decode cX3_init 18 = .ok (.iconst 0, 1) := by decide +kernel
theorem dX3_init_19 : decode cX3_init 19 = .ok (.istore_n 1, 1) := by decide +kernel
theorem dX3_init_20 : decode cX3_init 20 = .ok (.iload_n 1, 1) := by decide +kernel
theorem dX3_init_21 : decode cX3_init 21 = .ok (.aload_n 0, 1) := by decide +kernel
theorem dX3_init_22 : decode cX3_init 22 = .ok (.getfield 11, 3) := by decide +kernel
theorem dX3_init_25 : decode cX3_init 25 = .ok (.arraylength, 1) := by decide +kernel
theorem dX3_init_26 : decode cX3_init 26 = .ok (.if_icmp .ge 22, 3) := by decide +kernel
theorem dX3_init_29 : decode cX3_init 29 = .ok (.aload_n 0, 1) := by decide +kernel
theorem dX3_init_30 : decode cX3_init 30 = .ok (.getfield 11, 3) := by decide +kernel
theorem dX3_init_33 : decode cX3_init 33 = .ok (.iload_n 1, 1) := by decide +kernel
theorem dX3_init_34 : decode cX3_init 34 = .ok (.new 9, 3) := by decide +kernel
theorem dX3_init_37 : decode cX3_init 37 = .ok (.dup, 1) := by decide +kernel
theorem dX3_init_38 : decode cX3_init 38 = .ok (.invokespecial 21, 3) := by decide +kernel
theorem dX3_init_41 : decode cX3_init 41 = .ok (.aastore, 1) := by decide +kernel
theorem dX3_init_42 : decode cX3_init 42 = .ok (.iinc 1 1, 3) := by decide +kernel
theorem dX3_init_45 : decode cX3_init 45 = .ok (.goto (-25), 3) := by decide +kernel
theorem dX3_init_48 : decode cX3_init 48 = .ok (.return_, 1) := by decide +kernel
theorem dX3_draft_0 : decode cX3_draft 0 = .ok (.aload_n 0, 1) := by decide +kernel
theorem dX3_draft_1 : decode cX3_draft 1 = .ok (.getfield 11, 3) := by decide +kernel
theorem dX3_draft_4 : decode cX3_draft 4 = .ok (.aload_n 0, 1) := by decide +kernel
theorem dX3_draft_5 : decode cX3_draft 5 = .ok (.getfield 17, 3) := by decide +kernel
theorem dX3_draft_8 : decode cX3_draft 8 = .ok (.aaload, 1) := by decide +kernel
theorem dX3_draft_9 : decode cX3_draft 9 = .ok (.aload_n 1, 1) := by decide +kernel
theorem dX3_draft_10 : decode cX3_draft 10 = .ok (.invokevirtual 22, 3) := by decide +kernel
theorem dX3_draft_13 : decode cX3_draft 13 = .ok (.return_, 1) := by decide +kernel
theorem dX3_keep_0 : decode cX3_keep 0 = .ok (.iload_n 1, 1) := by decide +kernel
theorem dX3_keep_1 : decode cX3_keep 1 = .ok (.ifCond .ge 5, 3) := by decide +kernel
theorem dX3_keep_4 : decode cX3_keep 4 = .ok (.iload_n 1, 1) := by decide +kernel
theorem dX3_keep_5 : decode cX3_keep 5 = .ok (.ireturn, 1) := by decide +kernel
theorem dX3_keep_6 : decode cX3_keep 6 = .ok (.aload_n 0, 1) := by decide +kernel
theorem dX3_keep_7 : decode cX3_keep 7 = .ok (.getfield 17, 3) := by decide +kernel
theorem dX3_keep_10 : decode cX3_keep 10 = .ok (.iconst 5, 1) := by decide +kernel
theorem dX3_keep_11 : decode cX3_keep 11 = .ok (.if_icmp .ge 16, 3) := by decide +kernel
theorem dX3_keep_14 : decode cX3_keep 14 = .ok (.aload_n 0, 1) := by decide +kernel
theorem dX3_keep_15 : decode cX3_keep 15 = .ok (.dup, 1) := by decide +kernel
theorem dX3_keep_16 : decode cX3_keep 16 = .ok (.getfield 17, 3) := by decide +kernel
theorem dX3_keep_19 : decode cX3_keep 19 = .ok (.iconst 1, 1) := by decide +kernel
theorem dX3_keep_20 : decode cX3_keep 20 = .ok (.iadd, 1) := by decide +kernel
theorem dX3_keep_21 : decode cX3_keep 21 = .ok (.putfield 17, 3) := by decide +kernel
theorem dX3_keep_24 : decode cX3_keep 24 = .ok (.goto 7, 3) := by decide +kernel
theorem dX3_keep_27 : decode cX3_keep 27 = .ok (.aload_n 0, 1) := by decide +kernel
theorem dX3_keep_28 : decode cX3_keep 28 = .ok (.invokevirtual 26, 3) := by decide +kernel
theorem dX3_keep_31 : decode cX3_keep 31 = .ok (.iload_n 1, 1) := by decide +kernel
theorem dX3_keep_32 : decode cX3_keep 32 = .ok (.ireturn, 1) := by decide +kernel
theorem dX3_discardOldest_0 : decode cX3_discardOldest 0 = .ok (.aload_n 0, 1) := by decide +kernel
theorem dX3_discardOldest_1 : decode cX3_discardOldest 1 = .ok (.getfield 11, 3) := by decide +kernel
theorem dX3_discardOldest_4 : decode cX3_discardOldest 4 = .ok (.iconst 0, 1) := by decide +kernel
theorem dX3_discardOldest_5 : decode cX3_discardOldest 5 = .ok (.aaload, 1) := by decide +kernel
theorem dX3_discardOldest_6 : decode cX3_discardOldest 6 = .ok (.astore_n 1, 1) := by decide +kernel
theorem dX3_discardOldest_7 : decode cX3_discardOldest 7 = .ok (.iconst 0, 1) := by decide +kernel
theorem dX3_discardOldest_8 : decode cX3_discardOldest 8 = .ok (.istore_n 2, 1) := by decide +kernel
theorem dX3_discardOldest_9 : decode cX3_discardOldest 9 = .ok (.iload_n 2, 1) := by decide +kernel
theorem dX3_discardOldest_10 : decode cX3_discardOldest 10 = .ok (.iconst 5, 1) := by decide +kernel
theorem dX3_discardOldest_11 : decode cX3_discardOldest 11 = .ok (.if_icmp .ge 23, 3) := by decide +kernel
theorem dX3_discardOldest_14 : decode cX3_discardOldest 14 = .ok (.aload_n 0, 1) := by decide +kernel
theorem dX3_discardOldest_15 : decode cX3_discardOldest 15 = .ok (.getfield 11, 3) := by decide +kernel
theorem dX3_discardOldest_18 : decode cX3_discardOldest 18 = .ok (.iload_n 2, 1) := by decide +kernel
theorem dX3_discardOldest_19 : decode cX3_discardOldest 19 = .ok (.aload_n 0, 1) := by decide +kernel
theorem dX3_discardOldest_20 : decode cX3_discardOldest 20 = .ok (.getfield 11, 3) := by decide +kernel
theorem dX3_discardOldest_23 : decode cX3_discardOldest 23 = .ok (.iload_n 2, 1) := by decide +kernel
theorem dX3_discardOldest_24 : decode cX3_discardOldest 24 = .ok (.iconst 1, 1) := by decide +kernel
theorem dX3_discardOldest_25 : decode cX3_discardOldest 25 = .ok (.iadd, 1) := by decide +kernel
theorem dX3_discardOldest_26 : decode cX3_discardOldest 26 = .ok (.aaload, 1) := by decide +kernel
theorem dX3_discardOldest_27 : decode cX3_discardOldest 27 = .ok (.aastore, 1) := by decide +kernel
theorem dX3_discardOldest_28 : decode cX3_discardOldest 28 = .ok (.iinc 2 1, 3) := by decide +kernel
theorem dX3_discardOldest_31 : decode cX3_discardOldest 31 = .ok (.goto (-22), 3) := by decide +kernel
theorem dX3_discardOldest_34 : decode cX3_discardOldest 34 = .ok (.aload_n 0, 1) := by decide +kernel
theorem dX3_discardOldest_35 : decode cX3_discardOldest 35 = .ok (.getfield 11, 3) := by decide +kernel
theorem dX3_discardOldest_38 : decode cX3_discardOldest 38 = .ok (.iconst 5, 1) := by decide +kernel
theorem dX3_discardOldest_39 : decode cX3_discardOldest 39 = .ok (.aload_n 1, 1) := by decide +kernel
theorem dX3_discardOldest_40 : decode cX3_discardOldest 40 = .ok (.aastore, 1) := by decide +kernel
theorem dX3_discardOldest_41 : decode cX3_discardOldest 41 = .ok (.return_, 1) := by decide +kernel
theorem dX4_isAhead_0 : decode cX4_isAhead 0 = .ok (.aload_n 0, 1) := by decide +kernel
theorem dX4_isAhead_1 : decode cX4_isAhead 1 = .ok (.getfield 9, 3) := by decide +kernel
theorem dX4_isAhead_4 : decode cX4_isAhead 4 = .ok (.iload_n 1, 1) := by decide +kernel
theorem dX4_isAhead_5 : decode cX4_isAhead 5 = .ok (.iaload, 1) := by decide +kernel
theorem dX4_isAhead_6 : decode cX4_isAhead 6 = .ok (.aload_n 0, 1) := by decide +kernel
theorem dX4_isAhead_7 : decode cX4_isAhead 7 = .ok (.getfield 9, 3) := by decide +kernel
theorem dX4_isAhead_10 : decode cX4_isAhead 10 = .ok (.iload_n 2, 1) := by decide +kernel
theorem dX4_isAhead_11 : decode cX4_isAhead 11 = .ok (.iaload, 1) := by decide +kernel
theorem dX4_isAhead_12 : decode cX4_isAhead 12 = .ok (.if_icmp .eq 24, 3) := by decide +kernel
theorem dX4_isAhead_15 : decode cX4_isAhead 15 = .ok (.aload_n 0, 1) := by decide +kernel
theorem dX4_isAhead_16 : decode cX4_isAhead 16 = .ok (.getfield 9, 3) := by decide +kernel
theorem dX4_isAhead_19 : decode cX4_isAhead 19 = .ok (.iload_n 1, 1) := by decide +kernel
theorem dX4_isAhead_20 : decode cX4_isAhead 20 = .ok (.iaload, 1) := by decide +kernel
theorem dX4_isAhead_21 : decode cX4_isAhead 21 = .ok (.aload_n 0, 1) := by decide +kernel
theorem dX4_isAhead_22 : decode cX4_isAhead 22 = .ok (.getfield 9, 3) := by decide +kernel
theorem dX4_isAhead_25 : decode cX4_isAhead 25 = .ok (.iload_n 2, 1) := by decide +kernel
theorem dX4_isAhead_26 : decode cX4_isAhead 26 = .ok (.iaload, 1) := by decide +kernel
theorem dX4_isAhead_27 : decode cX4_isAhead 27 = .ok (.if_icmp .le 7, 3) := by decide +kernel
theorem dX4_isAhead_30 : decode cX4_isAhead 30 = .ok (.iconst 1, 1) := by decide +kernel
theorem dX4_isAhead_31 : decode cX4_isAhead 31 = .ok (.goto 4, 3) := by decide +kernel
theorem dX4_isAhead_34 : decode cX4_isAhead 34 = .ok (.iconst 0, 1) := by decide +kernel
theorem dX4_isAhead_35 : decode cX4_isAhead 35 = .ok (.ireturn, 1) := by decide +kernel
theorem dX4_isAhead_36 : decode cX4_isAhead 36 = .ok (.aload_n 0, 1) := by decide +kernel
theorem dX4_isAhead_37 : decode cX4_isAhead 37 = .ok (.getfield 15, 3) := by decide +kernel
theorem dX4_isAhead_40 : decode cX4_isAhead 40 = .ok (.iload_n 1, 1) := by decide +kernel
theorem dX4_isAhead_41 : decode cX4_isAhead 41 = .ok (.iaload, 1) := by decide +kernel
theorem dX4_isAhead_42 : decode cX4_isAhead 42 = .ok (.aload_n 0, 1) := by decide +kernel
theorem dX4_isAhead_43 : decode cX4_isAhead 43 = .ok (.getfield 15, 3) := by decide +kernel
theorem dX4_isAhead_46 : decode cX4_isAhead 46 = .ok (.iload_n 2, 1) := by decide +kernel
theorem dX4_isAhead_47 : decode cX4_isAhead 47 = .ok (.iaload, 1) := by decide +kernel
theorem dX4_isAhead_48 : decode cX4_isAhead 48 = .ok (.if_icmp .eq 24, 3) := by decide +kernel
theorem dX4_isAhead_51 : decode cX4_isAhead 51 = .ok (.aload_n 0, 1) := by decide +kernel
theorem dX4_isAhead_52 : decode cX4_isAhead 52 = .ok (.getfield 15, 3) := by decide +kernel
theorem dX4_isAhead_55 : decode cX4_isAhead 55 = .ok (.iload_n 1, 1) := by decide +kernel
theorem dX4_isAhead_56 : decode cX4_isAhead 56 = .ok (.iaload, 1) := by decide +kernel
theorem dX4_isAhead_57 : decode cX4_isAhead 57 = .ok (.aload_n 0, 1) := by decide +kernel
theorem dX4_isAhead_58 : decode cX4_isAhead 58 = .ok (.getfield 15, 3) := by decide +kernel
theorem dX4_isAhead_61 : decode cX4_isAhead 61 = .ok (.iload_n 2, 1) := by decide +kernel
theorem dX4_isAhead_62 : decode cX4_isAhead 62 = .ok (.iaload, 1) := by decide +kernel
theorem dX4_isAhead_63 : decode cX4_isAhead 63 = .ok (.if_icmp .ge 7, 3) := by decide +kernel
theorem dX4_isAhead_66 : decode cX4_isAhead 66 = .ok (.iconst 1, 1) := by decide +kernel
theorem dX4_isAhead_67 : decode cX4_isAhead 67 = .ok (.goto 4, 3) := by decide +kernel
theorem dX4_isAhead_70 : decode cX4_isAhead 70 = .ok (.iconst 0, 1) := by decide +kernel
theorem dX4_isAhead_71 : decode cX4_isAhead 71 = .ok (.ireturn, 1) := by decide +kernel
theorem dX4_isAhead_72 : decode cX4_isAhead 72 = .ok (.iload_n 1, 1) := by decide +kernel
theorem dX4_isAhead_73 : decode cX4_isAhead 73 = .ok (.iload_n 2, 1) := by decide +kernel
theorem dX4_isAhead_74 : decode cX4_isAhead 74 = .ok (.if_icmp .ge 7, 3) := by decide +kernel
theorem dX4_isAhead_77 : decode cX4_isAhead 77 = .ok (.iconst 1, 1) := by decide +kernel
theorem dX4_isAhead_78 : decode cX4_isAhead 78 = .ok (.goto 4, 3) := by decide +kernel
theorem dX4_isAhead_81 : decode cX4_isAhead 81 = .ok (.iconst 0, 1) := by decide +kernel
theorem dX4_isAhead_82 : decode cX4_isAhead 82 = .ok (.ireturn, 1) := by decide +kernel
theorem dX4_placeOf_0 : decode cX4_placeOf 0 = .ok (.iconst 0, 1) := by decide +kernel
theorem dX4_placeOf_1 : decode cX4_placeOf 1 = .ok (.istore_n 2, 1) := by decide +kernel
theorem dX4_placeOf_2 : decode cX4_placeOf 2 = .ok (.iconst 0, 1) := by decide +kernel
theorem dX4_placeOf_3 : decode cX4_placeOf 3 = .ok (.istore_n 3, 1) := by decide +kernel
theorem dX4_placeOf_4 : decode cX4_placeOf 4 = .ok (.iload_n 3, 1) := by decide +kernel
theorem dX4_placeOf_5 : decode cX4_placeOf 5 = .ok (.aload_n 0, 1) := by decide +kernel
theorem dX4_placeOf_6 : decode cX4_placeOf 6 = .ok (.getfield 18, 3) := by decide +kernel
theorem dX4_placeOf_9 : decode cX4_placeOf 9 = .ok (.if_icmp .ge 21, 3) := by decide +kernel
theorem dX4_placeOf_12 : decode cX4_placeOf 12 = .ok (.aload_n 0, 1) := by decide +kernel
theorem dX4_placeOf_13 : decode cX4_placeOf 13 = .ok (.iload_n 3, 1) := by decide +kernel
theorem dX4_placeOf_14 : decode cX4_placeOf 14 = .ok (.iload_n 1, 1) := by decide +kernel
theorem dX4_placeOf_15 : decode cX4_placeOf 15 = .ok (.invokestatic 22, 3) := by decide +kernel
theorem dX4_placeOf_18 : decode cX4_placeOf 18 = .ok (.ifCond .eq 6, 3) := by decide +kernel
theorem dX4_placeOf_21 : decode cX4_placeOf 21 = .ok (.iinc 2 1, 3) := by decide +kernel
theorem dX4_placeOf_24 : decode cX4_placeOf 24 = .ok (.iinc 3 1, 3) := by decide +kernel
theorem dX4_placeOf_27 : decode cX4_placeOf 27 = .ok (.goto (-23), 3) := by decide +kernel
theorem dX4_placeOf_30 : decode cX4_placeOf 30 = .ok (.iload_n 2, 1) := by decide +kernel
theorem dX4_placeOf_31 : decode cX4_placeOf 31 = .ok (.ireturn, 1) := by decide +kernel
theorem dX4_playerAt_0 : decode cX4_playerAt 0 = .ok (.iconst 0, 1) := by decide +kernel
theorem dX4_playerAt_1 : decode cX4_playerAt 1 = .ok (.istore_n 2, 1) := by decide +kernel
theorem dX4_playerAt_2 : decode cX4_playerAt 2 = .ok (.iload_n 2, 1) := by decide +kernel
theorem dX4_playerAt_3 : decode cX4_playerAt 3 = .ok (.aload_n 0, 1) := by decide +kernel
theorem dX4_playerAt_4 : decode cX4_playerAt 4 = .ok (.getfield 18, 3) := by decide +kernel
theorem dX4_playerAt_7 : decode cX4_playerAt 7 = .ok (.if_icmp .ge 20, 3) := by decide +kernel
theorem dX4_playerAt_10 : decode cX4_playerAt 10 = .ok (.aload_n 0, 1) := by decide +kernel
theorem dX4_playerAt_11 : decode cX4_playerAt 11 = .ok (.iload_n 2, 1) := by decide +kernel
theorem dX4_playerAt_12 : decode cX4_playerAt 12 = .ok (.invokestatic 28, 3) := by decide +kernel
theorem dX4_playerAt_15 : decode cX4_playerAt 15 = .ok (.iload_n 1, 1) := by decide +kernel
theorem dX4_playerAt_16 : decode cX4_playerAt 16 = .ok (.if_icmp .ne 5, 3) := by decide +kernel
theorem dX4_playerAt_19 : decode cX4_playerAt 19 = .ok (.iload_n 2, 1) := by decide +kernel
theorem dX4_playerAt_20 : decode cX4_playerAt 20 = .ok (.ireturn, 1) := by decide +kernel
theorem dX4_playerAt_21 : decode cX4_playerAt 21 = .ok (.iinc 2 1, 3) := by decide +kernel
theorem dX4_playerAt_24 : decode cX4_playerAt 24 = .ok (.goto (-22), 3) := by decide +kernel
theorem dX4_playerAt_27 : decode cX4_playerAt 27 = .ok (.sipush (-10001), 3) := by decide +kernel
theorem dX4_playerAt_30 : decode cX4_playerAt 30 = .ok (.ireturn, 1) := by decide +kernel
theorem dX4_seekerOfNextRound_0 : decode cX4_seekerOfNextRound 0 = .ok (.sipush (-10006), 3) := by decide +kernel
theorem dX4_seekerOfNextRound_3 : decode cX4_seekerOfNextRound 3 = .ok (.istore_n 1, 1) := by decide +kernel
theorem dX4_seekerOfNextRound_4 : decode cX4_seekerOfNextRound 4 = .ok (.iconst 0, 1) := by decide +kernel
theorem dX4_seekerOfNextRound_5 : decode cX4_seekerOfNextRound 5 = .ok (.istore_n 2, 1) := by decide +kernel
theorem dX4_seekerOfNextRound_6 : decode cX4_seekerOfNextRound 6 = .ok (.iload_n 2, 1) := by decide +kernel
theorem dX4_seekerOfNextRound_7 : decode cX4_seekerOfNextRound 7 = .ok (.aload_n 0, 1) := by decide +kernel
theorem dX4_seekerOfNextRound_8 : decode cX4_seekerOfNextRound 8 = .ok (.getfield 18, 3) := by decide +kernel
theorem dX4_seekerOfNextRound_11 : decode cX4_seekerOfNextRound 11 = .ok (.if_icmp .ge 28, 3) := by decide +kernel
theorem dX4_seekerOfNextRound_14 : decode cX4_seekerOfNextRound 14 = .ok (.aload_n 0, 1) := by decide +kernel
theorem dX4_seekerOfNextRound_15 : decode cX4_seekerOfNextRound 15 = .ok (.iload_n 1, 1) := by decide +kernel
theorem dX4_seekerOfNextRound_16 : decode cX4_seekerOfNextRound 16 = .ok (.invokevirtual 32, 3) := by decide +kernel
theorem dX4_seekerOfNextRound_19 : decode cX4_seekerOfNextRound 19 = .ok (.ifCond .eq 12, 3) := by decide +kernel
theorem dX4_seekerOfNextRound_22 : decode cX4_seekerOfNextRound 22 = .ok (.aload_n 0, 1) := by decide +kernel
theorem dX4_seekerOfNextRound_23 : decode cX4_seekerOfNextRound 23 = .ok (.iload_n 2, 1) := by decide +kernel
theorem dX4_seekerOfNextRound_24 : decode cX4_seekerOfNextRound 24 = .ok (.iload_n 1, 1) := by decide +kernel
theorem dX4_seekerOfNextRound_25 : decode cX4_seekerOfNextRound 25 = .ok (.invokestatic 36, 3) := by decide +kernel
theorem dX4_seekerOfNextRound_28 : decode cX4_seekerOfNextRound 28 = .ok (.ifCond .eq 5, 3) := by decide +kernel
theorem dX4_seekerOfNextRound_31 : decode cX4_seekerOfNextRound 31 = .ok (.iload_n 2, 1) := by decide +kernel
theorem dX4_seekerOfNextRound_32 : decode cX4_seekerOfNextRound 32 = .ok (.istore_n 1, 1) := by decide +kernel
theorem dX4_seekerOfNextRound_33 : decode cX4_seekerOfNextRound 33 = .ok (.iinc 2 1, 3) := by decide +kernel
theorem dX4_seekerOfNextRound_36 : decode cX4_seekerOfNextRound 36 = .ok (.goto (-30), 3) := by decide +kernel
theorem dX4_seekerOfNextRound_39 : decode cX4_seekerOfNextRound 39 = .ok (.iload_n 1, 1) := by decide +kernel
theorem dX4_seekerOfNextRound_40 : decode cX4_seekerOfNextRound 40 = .ok (.ireturn, 1) := by decide +kernel
theorem dX4_seeksSooner_0 : decode cX4_seeksSooner 0 = .ok (.aload_n 0, 1) := by decide +kernel
theorem dX4_seeksSooner_1 : decode cX4_seeksSooner 1 = .ok (.getfield 39, 3) := by decide +kernel
theorem dX4_seeksSooner_4 : decode cX4_seeksSooner 4 = .ok (.iload_n 1, 1) := by decide +kernel
theorem dX4_seeksSooner_5 : decode cX4_seeksSooner 5 = .ok (.iaload, 1) := by decide +kernel
theorem dX4_seeksSooner_6 : decode cX4_seeksSooner 6 = .ok (.aload_n 0, 1) := by decide +kernel
theorem dX4_seeksSooner_7 : decode cX4_seeksSooner 7 = .ok (.getfield 39, 3) := by decide +kernel
theorem dX4_seeksSooner_10 : decode cX4_seeksSooner 10 = .ok (.iload_n 2, 1) := by decide +kernel
theorem dX4_seeksSooner_11 : decode cX4_seeksSooner 11 = .ok (.iaload, 1) := by decide +kernel
theorem dX4_seeksSooner_12 : decode cX4_seeksSooner 12 = .ok (.if_icmp .eq 24, 3) := by decide +kernel
theorem dX4_seeksSooner_15 : decode cX4_seeksSooner 15 = .ok (.aload_n 0, 1) := by decide +kernel
theorem dX4_seeksSooner_16 : decode cX4_seeksSooner 16 = .ok (.getfield 39, 3) := by decide +kernel
theorem dX4_seeksSooner_19 : decode cX4_seeksSooner 19 = .ok (.iload_n 1, 1) := by decide +kernel
theorem dX4_seeksSooner_20 : decode cX4_seeksSooner 20 = .ok (.iaload, 1) := by decide +kernel
theorem dX4_seeksSooner_21 : decode cX4_seeksSooner 21 = .ok (.aload_n 0, 1) := by decide +kernel
theorem dX4_seeksSooner_22 : decode cX4_seeksSooner 22 = .ok (.getfield 39, 3) := by decide +kernel
theorem dX4_seeksSooner_25 : decode cX4_seeksSooner 25 = .ok (.iload_n 2, 1) := by decide +kernel
theorem dX4_seeksSooner_26 : decode cX4_seeksSooner 26 = .ok (.iaload, 1) := by decide +kernel
theorem dX4_seeksSooner_27 : decode cX4_seeksSooner 27 = .ok (.if_icmp .ge 7, 3) := by decide +kernel
theorem dX4_seeksSooner_30 : decode cX4_seeksSooner 30 = .ok (.iconst 1, 1) := by decide +kernel
theorem dX4_seeksSooner_31 : decode cX4_seeksSooner 31 = .ok (.goto 4, 3) := by decide +kernel
theorem dX4_seeksSooner_34 : decode cX4_seeksSooner 34 = .ok (.iconst 0, 1) := by decide +kernel
theorem dX4_seeksSooner_35 : decode cX4_seeksSooner 35 = .ok (.ireturn, 1) := by decide +kernel
theorem dX4_seeksSooner_36 : decode cX4_seeksSooner 36 = .ok (.aload_n 0, 1) := by decide +kernel
theorem dX4_seeksSooner_37 : decode cX4_seeksSooner 37 = .ok (.iload_n 2, 1) := by decide +kernel
theorem dX4_seeksSooner_38 : decode cX4_seeksSooner 38 = .ok (.iload_n 1, 1) := by decide +kernel
theorem dX4_seeksSooner_39 : decode cX4_seeksSooner 39 = .ok (.invokestatic 22, 3) := by decide +kernel
theorem dX4_seeksSooner_42 : decode cX4_seeksSooner 42 = .ok (.ireturn, 1) := by decide +kernel
theorem dX5_init_0 : decode cX5_init 0 = .ok (.aload_n 0, 1) := by decide +kernel
theorem dX5_init_1 : decode cX5_init 1 = .ok (.invokespecial 3, 3) := by decide +kernel
theorem dX5_init_4 : decode cX5_init 4 = .ok (.aload_n 0, 1) := by decide +kernel
theorem dX5_init_5 : decode cX5_init 5 = .ok (.iconst 4, 1) := by decide +kernel
theorem dX5_init_6 : decode cX5_init 6 = .ok (.newarray .int, 2) := by decide +kernel
theorem dX5_init_8 : decode cX5_init 8 = .ok (.dup, 1) := by decide +kernel
theorem dX5_init_9 : decode cX5_init 9 = .ok (.iconst 0, 1) := by decide +kernel
theorem dX5_init_10 : decode cX5_init 10 = .ok (.iconst 1, 1) := by decide +kernel
theorem dX5_init_11 : decode cX5_init 11 = .ok (.iastore, 1) := by decide +kernel
theorem dX5_init_12 : decode cX5_init 12 = .ok (.dup, 1) := by decide +kernel
theorem dX5_init_13 : decode cX5_init 13 = .ok (.iconst 1, 1) := by decide +kernel
theorem dX5_init_14 : decode cX5_init 14 = .ok (.iconst 2, 1) := by decide +kernel
theorem dX5_init_15 : decode cX5_init 15 = .ok (.iastore, 1) := by decide +kernel
theorem dX5_init_16 : decode cX5_init 16 = .ok (.dup, 1) := by decide +kernel
theorem dX5_init_17 : decode cX5_init 17 = .ok (.iconst 2, 1) := by decide +kernel
theorem dX5_init_18 : decode cX5_init 18 = .ok (.iconst 2, 1) := by decide +kernel
theorem dX5_init_19 : decode cX5_init 19 = .ok (.iastore, 1) := by decide +kernel
theorem dX5_init_20 : decode cX5_init 20 = .ok (.dup, 1) := by decide +kernel
theorem dX5_init_21 : decode cX5_init 21 = .ok (.iconst 3, 1) := by decide +kernel
theorem dX5_init_22 : decode cX5_init 22 = .ok (.iconst 2, 1) := by decide +kernel
theorem dX5_init_23 : decode cX5_init 23 = .ok (.iastore, 1) := by decide +kernel
theorem dX5_init_24 : decode cX5_init 24 = .ok (.putfield 9, 3) := by decide +kernel
theorem dX5_init_27 : decode cX5_init 27 = .ok (.aload_n 0, 1) := by decide +kernel
theorem dX5_init_28 : decode cX5_init 28 = .ok (.bipush 8, 2) := by decide +kernel
theorem dX5_init_30 : decode cX5_init 30 = .ok (.newarray .int, 2) := by decide +kernel
theorem dX5_init_32 : decode cX5_init 32 = .ok (.putfield 15, 3) := by decide +kernel
theorem dX5_init_35 : decode cX5_init 35 = .ok (.aload_n 0, 1) := by decide +kernel
theorem dX5_init_36 : decode cX5_init 36 = .ok (.bipush 8, 2) := by decide +kernel
theorem dX5_init_38 : decode cX5_init 38 = .ok (.newarray .int, 2) := by decide +kernel
theorem dX5_init_40 : decode cX5_init 40 = .ok (.putfield 18, 3) := by decide +kernel
theorem dX5_init_43 : decode cX5_init 43 = .ok (.aload_n 0, 1) := by decide +kernel
theorem dX5_init_44 : decode cX5_init 44 = .ok (.bipush 8, 2) := by decide +kernel
theorem dX5_init_46 : decode cX5_init 46 = .ok (.newarray .int, 2) := by decide +kernel
theorem dX5_init_48 : decode cX5_init 48 = .ok (.putfield 21, 3) := by decide +kernel
theorem dX5_init_51 : decode cX5_init 51 = .ok (.aload_n 0, 1) := by decide +kernel
theorem dX5_init_52 : decode cX5_init 52 = .ok (.bipush 8, 2) := by decide +kernel
theorem dX5_init_54 : decode cX5_init 54 = .ok (.newarray .int, 2) := by decide +kernel
theorem dX5_init_56 : decode cX5_init 56 = .ok (.putfield 24, 3) := by decide +kernel
theorem dX5_init_59 : decode cX5_init 59 = .ok (.aload_n 0, 1) := by decide +kernel
theorem dX5_init_60 : decode cX5_init 60 = .ok (.bipush 8, 2) := by decide +kernel
theorem dX5_init_62 : decode cX5_init 62 = .ok (.newarray .int, 2) := by decide +kernel
theorem dX5_init_64 : decode cX5_init 64 = .ok (.putfield 27, 3) := by decide +kernel
theorem dX5_init_67 : decode cX5_init 67 = .ok (.aload_n 0, 1) := by decide +kernel
theorem dX5_init_68 : decode cX5_init 68 = .ok (.bipush 8, 2) := by decide +kernel
theorem dX5_init_70 : decode cX5_init 70 = .ok (.newarray .int, 2) := by decide +kernel
theorem dX5_init_72 : decode cX5_init 72 = .ok (.putfield 30, 3) := by decide +kernel
theorem dX5_init_75 : decode cX5_init 75 = .ok (.aload_n 0, 1) := by decide +kernel
theorem dX5_init_76 : decode cX5_init 76 = .ok (.bipush 16, 2) := by decide +kernel
theorem dX5_init_78 : decode cX5_init 78 = .ok (.newarray .int, 2) := by decide +kernel
theorem dX5_init_80 : decode cX5_init 80 = .ok (.putfield 35, 3) := by decide +kernel
theorem dX5_init_83 : decode cX5_init 83 = .ok (.aload_n 0, 1) := by decide +kernel
theorem dX5_init_84 : decode cX5_init 84 = .ok (.bipush 16, 2) := by decide +kernel
theorem dX5_init_86 : decode cX5_init 86 = .ok (.newarray .int, 2) := by decide +kernel
theorem dX5_init_88 : decode cX5_init 88 = .ok (.putfield 38, 3) := by decide +kernel
theorem dX5_init_91 : decode cX5_init 91 = .ok (.aload_n 0, 1) := by decide +kernel
theorem dX5_init_92 : decode cX5_init 92 = .ok (.iconst 0, 1) := by decide +kernel
theorem dX5_init_93 : decode cX5_init 93 = .ok (.putfield 41, 3) := by decide +kernel
theorem dX5_init_96 : decode cX5_init 96 = .ok (.aload_n 0, 1) := by decide +kernel
theorem dX5_init_97 : decode cX5_init 97 = .ok (.iconst 0, 1) := by decide +kernel
theorem dX5_init_98 : decode cX5_init 98 = .ok (.putfield 45, 3) := by decide +kernel
theorem dX5_init_101 : decode cX5_init 101 = .ok (.aload_n 0, 1) := by decide +kernel
theorem dX5_init_102 : decode cX5_init 102 = .ok (.iconst 0, 1) := by decide +kernel
theorem dX5_init_103 : decode cX5_init 103 = .ok (.putfield 48, 3) := by decide +kernel
theorem dX5_init_106 : decode cX5_init 106 = .ok (.aload_n 0, 1) := by decide +kernel
theorem dX5_init_107 : decode cX5_init 107 = .ok (.sipush (-10006), 3) := by decide +kernel
theorem dX5_init_110 : decode cX5_init 110 = .ok (.putfield 51, 3) := by decide +kernel
theorem dX5_init_113 : decode cX5_init 113 = .ok (.aload_n 0, 1) := by decide +kernel
theorem dX5_init_114 : decode cX5_init 114 = .ok (.sipush (-10006), 3) := by decide +kernel
theorem dX5_init_117 : decode cX5_init 117 = .ok (.putfield 54, 3) := by decide +kernel
theorem dX5_init_120 : decode cX5_init 120 = .ok (.aload_n 0, 1) := by decide +kernel
theorem dX5_init_121 : decode cX5_init 121 = .ok (.sipush (-10006), 3) := by decide +kernel
theorem dX5_init_124 : decode cX5_init 124 = .ok (.putfield 57, 3) := by decide +kernel
theorem dX5_init_127 : decode cX5_init 127 = .ok (.aload_n 0, 1) := by decide +kernel
theorem dX5_init_128 : decode cX5_init 128 = .ok (.iconst 0, 1) := by decide +kernel
theorem dX5_init_129 : decode cX5_init 129 = .ok (.putfield 60, 3) := by decide +kernel
theorem dX5_init_132 : decode cX5_init 132 = .ok (.aload_n 0, 1) := by decide +kernel
theorem dX5_init_133 : decode cX5_init 133 = .ok (.getfield 30, 3) := by decide +kernel
theorem dX5_init_136 : decode cX5_init 136 = .ok (.sipush (-10006), 3) := by decide +kernel
theorem dX5_init_139 : decode cX5_init 139 = .ok (.invokestatic 63, 3) := by decide +kernel
theorem dX5_init_142 : decode cX5_init 142 = .ok (.aload_n 0, 1) := by decide +kernel
theorem dX5_init_143 : decode cX5_init 143 = .ok (.getfield 38, 3) := by decide +kernel
theorem dX5_init_146 : decode cX5_init 146 = .ok (.iconst (-1), 1) := by decide +kernel
theorem dX5_init_147 : decode cX5_init 147 = .ok (.invokestatic 63, 3) := by decide +kernel
theorem dX5_init_150 : decode cX5_init 150 = .ok (.return_, 1) := by decide +kernel
theorem dX5_copyFrom_0 : decode cX5_copyFrom 0 = .ok (.aload_n 1, 1) := by decide +kernel
theorem dX5_copyFrom_1 : decode cX5_copyFrom 1 = .ok (.getfield 9, 3) := by decide +kernel
theorem dX5_copyFrom_4 : decode cX5_copyFrom 4 = .ok (.iconst 0, 1) := by decide +kernel
theorem dX5_copyFrom_5 : decode cX5_copyFrom 5 = .ok (.aload_n 0, 1) := by decide +kernel
theorem dX5_copyFrom_6 : decode cX5_copyFrom 6 = .ok (.getfield 9, 3) := by decide +kernel
theorem dX5_copyFrom_9 : decode cX5_copyFrom 9 = .ok (.iconst 0, 1) := by decide +kernel
theorem dX5_copyFrom_10 : decode cX5_copyFrom 10 = .ok (.aload_n 0, 1) := by decide +kernel
theorem dX5_copyFrom_11 : decode cX5_copyFrom 11 = .ok (.getfield 9, 3) := by decide +kernel
theorem dX5_copyFrom_14 : decode cX5_copyFrom 14 = .ok (.arraylength, 1) := by decide +kernel
theorem dX5_copyFrom_15 : decode cX5_copyFrom 15 = .ok (.invokestatic 69, 3) := by decide +kernel
theorem dX5_copyFrom_18 : decode cX5_copyFrom 18 = .ok (.aload_n 1, 1) := by decide +kernel
theorem dX5_copyFrom_19 : decode cX5_copyFrom 19 = .ok (.getfield 15, 3) := by decide +kernel
theorem dX5_copyFrom_22 : decode cX5_copyFrom 22 = .ok (.iconst 0, 1) := by decide +kernel
theorem dX5_copyFrom_23 : decode cX5_copyFrom 23 = .ok (.aload_n 0, 1) := by decide +kernel
theorem dX5_copyFrom_24 : decode cX5_copyFrom 24 = .ok (.getfield 15, 3) := by decide +kernel
theorem dX5_copyFrom_27 : decode cX5_copyFrom 27 = .ok (.iconst 0, 1) := by decide +kernel
theorem dX5_copyFrom_28 : decode cX5_copyFrom 28 = .ok (.bipush 8, 2) := by decide +kernel
theorem dX5_copyFrom_30 : decode cX5_copyFrom 30 = .ok (.invokestatic 69, 3) := by decide +kernel
theorem dX5_copyFrom_33 : decode cX5_copyFrom 33 = .ok (.aload_n 1, 1) := by decide +kernel
theorem dX5_copyFrom_34 : decode cX5_copyFrom 34 = .ok (.getfield 18, 3) := by decide +kernel
theorem dX5_copyFrom_37 : decode cX5_copyFrom 37 = .ok (.iconst 0, 1) := by decide +kernel
theorem dX5_copyFrom_38 : decode cX5_copyFrom 38 = .ok (.aload_n 0, 1) := by decide +kernel
theorem dX5_copyFrom_39 : decode cX5_copyFrom 39 = .ok (.getfield 18, 3) := by decide +kernel
theorem dX5_copyFrom_42 : decode cX5_copyFrom 42 = .ok (.iconst 0, 1) := by decide +kernel
theorem dX5_copyFrom_43 : decode cX5_copyFrom 43 = .ok (.bipush 8, 2) := by decide +kernel
theorem dX5_copyFrom_45 : decode cX5_copyFrom 45 = .ok (.invokestatic 69, 3) := by decide +kernel
theorem dX5_copyFrom_48 : decode cX5_copyFrom 48 = .ok (.aload_n 1, 1) := by decide +kernel
theorem dX5_copyFrom_49 : decode cX5_copyFrom 49 = .ok (.getfield 21, 3) := by decide +kernel
theorem dX5_copyFrom_52 : decode cX5_copyFrom 52 = .ok (.iconst 0, 1) := by decide +kernel
theorem dX5_copyFrom_53 : decode cX5_copyFrom 53 = .ok (.aload_n 0, 1) := by decide +kernel
theorem dX5_copyFrom_54 : decode cX5_copyFrom 54 = .ok (.getfield 21, 3) := by decide +kernel
theorem dX5_copyFrom_57 : decode cX5_copyFrom 57 = .ok (.iconst 0, 1) := by decide +kernel
theorem dX5_copyFrom_58 : decode cX5_copyFrom 58 = .ok (.bipush 8, 2) := by decide +kernel
theorem dX5_copyFrom_60 : decode cX5_copyFrom 60 = .ok (.invokestatic 69, 3) := by decide +kernel
theorem dX5_copyFrom_63 : decode cX5_copyFrom 63 = .ok (.aload_n 1, 1) := by decide +kernel
theorem dX5_copyFrom_64 : decode cX5_copyFrom 64 = .ok (.getfield 24, 3) := by decide +kernel
theorem dX5_copyFrom_67 : decode cX5_copyFrom 67 = .ok (.iconst 0, 1) := by decide +kernel
theorem dX5_copyFrom_68 : decode cX5_copyFrom 68 = .ok (.aload_n 0, 1) := by decide +kernel
theorem dX5_copyFrom_69 : decode cX5_copyFrom 69 = .ok (.getfield 24, 3) := by decide +kernel
theorem dX5_copyFrom_72 : decode cX5_copyFrom 72 = .ok (.iconst 0, 1) := by decide +kernel
theorem dX5_copyFrom_73 : decode cX5_copyFrom 73 = .ok (.bipush 8, 2) := by decide +kernel
theorem dX5_copyFrom_75 : decode cX5_copyFrom 75 = .ok (.invokestatic 69, 3) := by decide +kernel
theorem dX5_copyFrom_78 : decode cX5_copyFrom 78 = .ok (.aload_n 1, 1) := by decide +kernel
theorem dX5_copyFrom_79 : decode cX5_copyFrom 79 = .ok (.getfield 27, 3) := by decide +kernel
theorem dX5_copyFrom_82 : decode cX5_copyFrom 82 = .ok (.iconst 0, 1) := by decide +kernel
theorem dX5_copyFrom_83 : decode cX5_copyFrom 83 = .ok (.aload_n 0, 1) := by decide +kernel
theorem dX5_copyFrom_84 : decode cX5_copyFrom 84 = .ok (.getfield 27, 3) := by decide +kernel
theorem dX5_copyFrom_87 : decode cX5_copyFrom 87 = .ok (.iconst 0, 1) := by decide +kernel
theorem dX5_copyFrom_88 : decode cX5_copyFrom 88 = .ok (.bipush 8, 2) := by decide +kernel
theorem dX5_copyFrom_90 : decode cX5_copyFrom 90 = .ok (.invokestatic 69, 3) := by decide +kernel
theorem dX5_copyFrom_93 : decode cX5_copyFrom 93 = .ok (.aload_n 1, 1) := by decide +kernel
theorem dX5_copyFrom_94 : decode cX5_copyFrom 94 = .ok (.getfield 30, 3) := by decide +kernel
theorem dX5_copyFrom_97 : decode cX5_copyFrom 97 = .ok (.iconst 0, 1) := by decide +kernel
theorem dX5_copyFrom_98 : decode cX5_copyFrom 98 = .ok (.aload_n 0, 1) := by decide +kernel
theorem dX5_copyFrom_99 : decode cX5_copyFrom 99 = .ok (.getfield 30, 3) := by decide +kernel
theorem dX5_copyFrom_102 : decode cX5_copyFrom 102 = .ok (.iconst 0, 1) := by decide +kernel
theorem dX5_copyFrom_103 : decode cX5_copyFrom 103 = .ok (.bipush 8, 2) := by decide +kernel
theorem dX5_copyFrom_105 : decode cX5_copyFrom 105 = .ok (.invokestatic 69, 3) := by decide +kernel
theorem dX5_copyFrom_108 : decode cX5_copyFrom 108 = .ok (.aload_n 1, 1) := by decide +kernel
theorem dX5_copyFrom_109 : decode cX5_copyFrom 109 = .ok (.getfield 35, 3) := by decide +kernel
theorem dX5_copyFrom_112 : decode cX5_copyFrom 112 = .ok (.iconst 0, 1) := by decide +kernel
theorem dX5_copyFrom_113 : decode cX5_copyFrom 113 = .ok (.aload_n 0, 1) := by decide +kernel
theorem dX5_copyFrom_114 : decode cX5_copyFrom 114 = .ok (.getfield 35, 3) := by decide +kernel
theorem dX5_copyFrom_117 : decode cX5_copyFrom 117 = .ok (.iconst 0, 1) := by decide +kernel
theorem dX5_copyFrom_118 : decode cX5_copyFrom 118 = .ok (.bipush 16, 2) := by decide +kernel
theorem dX5_copyFrom_120 : decode cX5_copyFrom 120 = .ok (.invokestatic 69, 3) := by decide +kernel
theorem dX5_copyFrom_123 : decode cX5_copyFrom 123 = .ok (.aload_n 1, 1) := by decide +kernel
theorem dX5_copyFrom_124 : decode cX5_copyFrom 124 = .ok (.getfield 38, 3) := by decide +kernel
theorem dX5_copyFrom_127 : decode cX5_copyFrom 127 = .ok (.iconst 0, 1) := by decide +kernel
theorem dX5_copyFrom_128 : decode cX5_copyFrom 128 = .ok (.aload_n 0, 1) := by decide +kernel
theorem dX5_copyFrom_129 : decode cX5_copyFrom 129 = .ok (.getfield 38, 3) := by decide +kernel
theorem dX5_copyFrom_132 : decode cX5_copyFrom 132 = .ok (.iconst 0, 1) := by decide +kernel
theorem dX5_copyFrom_133 : decode cX5_copyFrom 133 = .ok (.bipush 16, 2) := by decide +kernel
theorem dX5_copyFrom_135 : decode cX5_copyFrom 135 = .ok (.invokestatic 69, 3) := by decide +kernel
theorem dX5_copyFrom_138 : decode cX5_copyFrom 138 = .ok (.aload_n 0, 1) := by decide +kernel
theorem dX5_copyFrom_139 : decode cX5_copyFrom 139 = .ok (.aload_n 1, 1) := by decide +kernel
theorem dX5_copyFrom_140 : decode cX5_copyFrom 140 = .ok (.getfield 41, 3) := by decide +kernel
theorem dX5_copyFrom_143 : decode cX5_copyFrom 143 = .ok (.putfield 41, 3) := by decide +kernel
theorem dX5_copyFrom_146 : decode cX5_copyFrom 146 = .ok (.aload_n 0, 1) := by decide +kernel
theorem dX5_copyFrom_147 : decode cX5_copyFrom 147 = .ok (.aload_n 1, 1) := by decide +kernel
theorem dX5_copyFrom_148 : decode cX5_copyFrom 148 = .ok (.getfield 45, 3) := by decide +kernel
theorem dX5_copyFrom_151 : decode cX5_copyFrom 151 = .ok (.putfield 45, 3) := by decide +kernel
theorem dX5_copyFrom_154 : decode cX5_copyFrom 154 = .ok (.aload_n 0, 1) := by decide +kernel
theorem dX5_copyFrom_155 : decode cX5_copyFrom 155 = .ok (.aload_n 1, 1) := by decide +kernel
theorem dX5_copyFrom_156 : decode cX5_copyFrom 156 = .ok (.getfield 48, 3) := by decide +kernel
theorem dX5_copyFrom_159 : decode cX5_copyFrom 159 = .ok (.putfield 48, 3) := by decide +kernel
theorem dX5_copyFrom_162 : decode cX5_copyFrom 162 = .ok (.aload_n 0, 1) := by decide +kernel
theorem dX5_copyFrom_163 : decode cX5_copyFrom 163 = .ok (.aload_n 1, 1) := by decide +kernel
theorem dX5_copyFrom_164 : decode cX5_copyFrom 164 = .ok (.getfield 51, 3) := by decide +kernel
theorem dX5_copyFrom_167 : decode cX5_copyFrom 167 = .ok (.putfield 51, 3) := by decide +kernel
theorem dX5_copyFrom_170 : decode cX5_copyFrom 170 = .ok (.aload_n 0, 1) := by decide +kernel
theorem dX5_copyFrom_171 : decode cX5_copyFrom 171 = .ok (.aload_n 1, 1) := by decide +kernel
theorem dX5_copyFrom_172 : decode cX5_copyFrom 172 = .ok (.getfield 54, 3) := by decide +kernel
theorem dX5_copyFrom_175 : decode cX5_copyFrom 175 = .ok (.putfield 54, 3) := by decide +kernel
theorem dX5_copyFrom_178 : decode cX5_copyFrom 178 = .ok (.aload_n 0, 1) := by decide +kernel
theorem dX5_copyFrom_179 : decode cX5_copyFrom 179 = .ok (.aload_n 1, 1) := by decide +kernel
theorem dX5_copyFrom_180 : decode cX5_copyFrom 180 = .ok (.getfield 57, 3) := by decide +kernel
theorem dX5_copyFrom_183 : decode cX5_copyFrom 183 = .ok (.putfield 57, 3) := by decide +kernel
theorem dX5_copyFrom_186 : decode cX5_copyFrom 186 = .ok (.aload_n 0, 1) := by decide +kernel
theorem dX5_copyFrom_187 : decode cX5_copyFrom 187 = .ok (.aload_n 1, 1) := by decide +kernel
theorem dX5_copyFrom_188 : decode cX5_copyFrom 188 = .ok (.getfield 60, 3) := by decide +kernel
theorem dX5_copyFrom_191 : decode cX5_copyFrom 191 = .ok (.putfield 60, 3) := by decide +kernel
theorem dX5_copyFrom_194 : decode cX5_copyFrom 194 = .ok (.return_, 1) := by decide +kernel
theorem dX5_isSetting_0 : decode cX5_isSetting 0 = .ok (.iload_n 0, 1) := by decide +kernel
theorem dX5_isSetting_1 : decode cX5_isSetting 1 = .ok (.ifCond .lt 12, 3) := by decide +kernel
theorem dX5_isSetting_4 : decode cX5_isSetting 4 = .ok (.iload_n 0, 1) := by decide +kernel
theorem dX5_isSetting_5 : decode cX5_isSetting 5 = .ok (.iconst 3, 1) := by decide +kernel
theorem dX5_isSetting_6 : decode cX5_isSetting 6 = .ok (.if_icmp .gt 7, 3) := by decide +kernel
theorem dX5_isSetting_9 : decode cX5_isSetting 9 = .ok (.iconst 1, 1) := by decide +kernel
theorem dX5_isSetting_10 : decode cX5_isSetting 10 = .ok (.goto 4, 3) := by decide +kernel
theorem dX5_isSetting_13 : decode cX5_isSetting 13 = .ok (.iconst 0, 1) := by decide +kernel
theorem dX5_isSetting_14 : decode cX5_isSetting 14 = .ok (.ireturn, 1) := by decide +kernel
theorem dX5_isPlayer_0 : decode cX5_isPlayer 0 = .ok (.iload_n 1, 1) := by decide +kernel
theorem dX5_isPlayer_1 : decode cX5_isPlayer 1 = .ok (.ifCond .lt 15, 3) := by decide +kernel
theorem dX5_isPlayer_4 : decode cX5_isPlayer 4 = .ok (.iload_n 1, 1) := by decide +kernel
theorem dX5_isPlayer_5 : decode cX5_isPlayer 5 = .ok (.aload_n 0, 1) := by decide +kernel
theorem dX5_isPlayer_6 : decode cX5_isPlayer 6 = .ok (.getfield 41, 3) := by decide +kernel
theorem dX5_isPlayer_9 : decode cX5_isPlayer 9 = .ok (.if_icmp .ge 7, 3) := by decide +kernel
theorem dX5_isPlayer_12 : decode cX5_isPlayer 12 = .ok (.iconst 1, 1) := by decide +kernel
theorem dX5_isPlayer_13 : decode cX5_isPlayer 13 = .ok (.goto 4, 3) := by decide +kernel
theorem dX5_isPlayer_16 : decode cX5_isPlayer 16 = .ok (.iconst 0, 1) := by decide +kernel
theorem dX5_isPlayer_17 : decode cX5_isPlayer 17 = .ok (.ireturn, 1) := by decide +kernel
theorem dX5_isHidden_0 : decode cX5_isHidden 0 = .ok (.aload_n 0, 1) := by decide +kernel
theorem dX5_isHidden_1 : decode cX5_isHidden 1 = .ok (.iload_n 1, 1) := by decide +kernel
theorem dX5_isHidden_2 : decode cX5_isHidden 2 = .ok (.invokevirtual 75, 3) := by decide +kernel
theorem dX5_isHidden_5 : decode cX5_isHidden 5 = .ok (.ifCond .eq 19, 3) := by decide +kernel
theorem dX5_isHidden_8 : decode cX5_isHidden 8 = .ok (.aload_n 0, 1) := by decide +kernel
theorem dX5_isHidden_9 : decode cX5_isHidden 9 = .ok (.getfield 30, 3) := by decide +kernel
theorem dX5_isHidden_12 : decode cX5_isHidden 12 = .ok (.iload_n 1, 1) := by decide +kernel
theorem dX5_isHidden_13 : decode cX5_isHidden 13 = .ok (.iaload, 1) := by decide +kernel
theorem dX5_isHidden_14 : decode cX5_isHidden 14 = .ok (.sipush (-10006), 3) := by decide +kernel
theorem dX5_isHidden_17 : decode cX5_isHidden 17 = .ok (.if_icmp .eq 7, 3) := by decide +kernel
theorem dX5_isHidden_20 : decode cX5_isHidden 20 = .ok (.iconst 1, 1) := by decide +kernel
theorem dX5_isHidden_21 : decode cX5_isHidden 21 = .ok (.goto 4, 3) := by decide +kernel
theorem dX5_isHidden_24 : decode cX5_isHidden 24 = .ok (.iconst 0, 1) := by decide +kernel
theorem dX5_isHidden_25 : decode cX5_isHidden 25 = .ok (.ireturn, 1) := by decide +kernel
theorem dX5_hiddenCount_0 : decode cX5_hiddenCount 0 = .ok (.iconst 0, 1) := by decide +kernel
theorem dX5_hiddenCount_1 : decode cX5_hiddenCount 1 = .ok (.istore_n 1, 1) := by decide +kernel
theorem dX5_hiddenCount_2 : decode cX5_hiddenCount 2 = .ok (.iconst 0, 1) := by decide +kernel
theorem dX5_hiddenCount_3 : decode cX5_hiddenCount 3 = .ok (.istore_n 2, 1) := by decide +kernel
theorem dX5_hiddenCount_4 : decode cX5_hiddenCount 4 = .ok (.iload_n 2, 1) := by decide +kernel
theorem dX5_hiddenCount_5 : decode cX5_hiddenCount 5 = .ok (.aload_n 0, 1) := by decide +kernel
theorem dX5_hiddenCount_6 : decode cX5_hiddenCount 6 = .ok (.getfield 41, 3) := by decide +kernel
theorem dX5_hiddenCount_9 : decode cX5_hiddenCount 9 = .ok (.if_icmp .ge 20, 3) := by decide +kernel
theorem dX5_hiddenCount_12 : decode cX5_hiddenCount 12 = .ok (.aload_n 0, 1) := by decide +kernel
theorem dX5_hiddenCount_13 : decode cX5_hiddenCount 13 = .ok (.iload_n 2, 1) := by decide +kernel
theorem dX5_hiddenCount_14 : decode cX5_hiddenCount 14 = .ok (.invokevirtual 79, 3) := by decide +kernel
theorem dX5_hiddenCount_17 : decode cX5_hiddenCount 17 = .ok (.ifCond .eq 6, 3) := by decide +kernel
theorem dX5_hiddenCount_20 : decode cX5_hiddenCount 20 = .ok (.iinc 1 1, 3) := by decide +kernel
theorem dX5_hiddenCount_23 : decode cX5_hiddenCount 23 = .ok (.iinc 2 1, 3) := by decide +kernel
theorem dX5_hiddenCount_26 : decode cX5_hiddenCount 26 = .ok (.goto (-22), 3) := by decide +kernel
theorem dX5_hiddenCount_29 : decode cX5_hiddenCount 29 = .ok (.iload_n 1, 1) := by decide +kernel
theorem dX5_hiddenCount_30 : decode cX5_hiddenCount 30 = .ok (.ireturn, 1) := by decide +kernel
theorem dX5_hidersAt_0 : decode cX5_hidersAt 0 = .ok (.iconst 0, 1) := by decide +kernel
theorem dX5_hidersAt_1 : decode cX5_hidersAt 1 = .ok (.istore_n 2, 1) := by decide +kernel
theorem dX5_hidersAt_2 : decode cX5_hidersAt 2 = .ok (.iconst 0, 1) := by decide +kernel
theorem dX5_hidersAt_3 : decode cX5_hidersAt 3 = .ok (.istore_n 3, 1) := by decide +kernel
theorem dX5_hidersAt_4 : decode cX5_hidersAt 4 = .ok (.iload_n 3, 1) := by decide +kernel
theorem dX5_hidersAt_5 : decode cX5_hidersAt 5 = .ok (.aload_n 0, 1) := by decide +kernel
theorem dX5_hidersAt_6 : decode cX5_hidersAt 6 = .ok (.getfield 41, 3) := by decide +kernel
theorem dX5_hidersAt_9 : decode cX5_hidersAt 9 = .ok (.if_icmp .ge 25, 3) := by decide +kernel
theorem dX5_hidersAt_12 : decode cX5_hidersAt 12 = .ok (.aload_n 0, 1) := by decide +kernel
theorem dX5_hidersAt_13 : decode cX5_hidersAt 13 = .ok (.getfield 30, 3) := by decide +kernel
theorem dX5_hidersAt_16 : decode cX5_hidersAt 16 = .ok (.iload_n 3, 1) := by decide +kernel
theorem dX5_hidersAt_17 : decode cX5_hidersAt 17 = .ok (.iaload, 1) := by decide +kernel
theorem dX5_hidersAt_18 : decode cX5_hidersAt 18 = .ok (.iload_n 1, 1) := by decide +kernel
theorem dX5_hidersAt_19 : decode cX5_hidersAt 19 = .ok (.if_icmp .ne 9, 3) := by decide +kernel
theorem dX5_hidersAt_22 : decode cX5_hidersAt 22 = .ok (.iload_n 2, 1) := by decide +kernel
theorem dX5_hidersAt_23 : decode cX5_hidersAt 23 = .ok (.iconst 1, 1) := by decide +kernel
theorem dX5_hidersAt_24 : decode cX5_hidersAt 24 = .ok (.iload_n 3, 1) := by decide +kernel
theorem dX5_hidersAt_25 : decode cX5_hidersAt 25 = .ok (.ishl, 1) := by decide +kernel
theorem dX5_hidersAt_26 : decode cX5_hidersAt 26 = .ok (.ior, 1) := by decide +kernel
theorem dX5_hidersAt_27 : decode cX5_hidersAt 27 = .ok (.istore_n 2, 1) := by decide +kernel
theorem dX5_hidersAt_28 : decode cX5_hidersAt 28 = .ok (.iinc 3 1, 3) := by decide +kernel
theorem dX5_hidersAt_31 : decode cX5_hidersAt 31 = .ok (.goto (-27), 3) := by decide +kernel
theorem dX5_hidersAt_34 : decode cX5_hidersAt 34 = .ok (.iload_n 2, 1) := by decide +kernel
theorem dX5_hidersAt_35 : decode cX5_hidersAt 35 = .ok (.ireturn, 1) := by decide +kernel
theorem dX5_hiderCount_0 : decode cX5_hiderCount 0 = .ok (.aload_n 0, 1) := by decide +kernel
theorem dX5_hiderCount_1 : decode cX5_hiderCount 1 = .ok (.iload_n 1, 1) := by decide +kernel
theorem dX5_hiderCount_2 : decode cX5_hiderCount 2 = .ok (.invokevirtual 82, 3) := by decide +kernel
theorem dX5_hiderCount_5 : decode cX5_hiderCount 5 = .ok (.invokestatic 86, 3) := by decide +kernel
theorem dX5_hiderCount_8 : decode cX5_hiderCount 8 = .ok (.ireturn, 1) := by decide +kernel
theorem dX5_isRetired_0 : decode cX5_isRetired 0 = .ok (.iload_n 1, 1) := by decide +kernel
theorem dX5_isRetired_1 : decode cX5_isRetired 1 = .ok (.invokestatic 91, 3) := by decide +kernel
theorem dX5_isRetired_4 : decode cX5_isRetired 4 = .ok (.ifCond .eq 17, 3) := by decide +kernel
theorem dX5_isRetired_7 : decode cX5_isRetired 7 = .ok (.aload_n 0, 1) := by decide +kernel
theorem dX5_isRetired_8 : decode cX5_isRetired 8 = .ok (.getfield 38, 3) := by decide +kernel
theorem dX5_isRetired_11 : decode cX5_isRetired 11 = .ok (.iload_n 1, 1) := by decide +kernel
theorem dX5_isRetired_12 : decode cX5_isRetired 12 = .ok (.iaload, 1) := by decide +kernel
theorem dX5_isRetired_13 : decode cX5_isRetired 13 = .ok (.iconst (-1), 1) := by decide +kernel
theorem dX5_isRetired_14 : decode cX5_isRetired 14 = .ok (.if_icmp .eq 7, 3) := by decide +kernel
theorem dX5_isRetired_17 : decode cX5_isRetired 17 = .ok (.iconst 1, 1) := by decide +kernel
theorem dX5_isRetired_18 : decode cX5_isRetired 18 = .ok (.goto 4, 3) := by decide +kernel
theorem dX5_isRetired_21 : decode cX5_isRetired 21 = .ok (.iconst 0, 1) := by decide +kernel
theorem dX5_isRetired_22 : decode cX5_isRetired 22 = .ok (.ireturn, 1) := by decide +kernel
theorem dX5_retiredCount_0 : decode cX5_retiredCount 0 = .ok (.iconst 0, 1) := by decide +kernel
theorem dX5_retiredCount_1 : decode cX5_retiredCount 1 = .ok (.istore_n 1, 1) := by decide +kernel
theorem dX5_retiredCount_2 : decode cX5_retiredCount 2 = .ok (.iconst 0, 1) := by decide +kernel
theorem dX5_retiredCount_3 : decode cX5_retiredCount 3 = .ok (.istore_n 2, 1) := by decide +kernel
theorem dX5_retiredCount_4 : decode cX5_retiredCount 4 = .ok (.iload_n 2, 1) := by decide +kernel
theorem dX5_retiredCount_5 : decode cX5_retiredCount 5 = .ok (.bipush 16, 2) := by decide +kernel
theorem dX5_retiredCount_7 : decode cX5_retiredCount 7 = .ok (.if_icmp .ge 20, 3) := by decide +kernel
theorem dX5_retiredCount_10 : decode cX5_retiredCount 10 = .ok (.aload_n 0, 1) := by decide +kernel
theorem dX5_retiredCount_11 : decode cX5_retiredCount 11 = .ok (.iload_n 2, 1) := by decide +kernel
theorem dX5_retiredCount_12 : decode cX5_retiredCount 12 = .ok (.invokevirtual 94, 3) := by decide +kernel
theorem dX5_retiredCount_15 : decode cX5_retiredCount 15 = .ok (.ifCond .eq 6, 3) := by decide +kernel
theorem dX5_retiredCount_18 : decode cX5_retiredCount 18 = .ok (.iinc 1 1, 3) := by decide +kernel
theorem dX5_retiredCount_21 : decode cX5_retiredCount 21 = .ok (.iinc 2 1, 3) := by decide +kernel
theorem dX5_retiredCount_24 : decode cX5_retiredCount 24 = .ok (.goto (-20), 3) := by decide +kernel
theorem dX5_retiredCount_27 : decode cX5_retiredCount 27 = .ok (.iload_n 1, 1) := by decide +kernel
theorem dX5_retiredCount_28 : decode cX5_retiredCount 28 = .ok (.ireturn, 1) := by decide +kernel
theorem dX5_isHidingPlace_0 : decode cX5_isHidingPlace 0 = .ok (.iload_n 1, 1) := by decide +kernel
theorem dX5_isHidingPlace_1 : decode cX5_isHidingPlace 1 = .ok (.ifCond .eq 26, 3) := by decide +kernel
theorem dX5_isHidingPlace_4 : decode cX5_isHidingPlace 4 = .ok (.iload_n 1, 1) := by decide +kernel
theorem dX5_isHidingPlace_5 : decode cX5_isHidingPlace 5 = .ok (.invokestatic 97, 3) := by decide +kernel
theorem dX5_isHidingPlace_8 : decode cX5_isHidingPlace 8 = .ok (.aload_n 0, 1) := by decide +kernel
theorem dX5_isHidingPlace_9 : decode cX5_isHidingPlace 9 = .ok (.getfield 54, 3) := by decide +kernel
theorem dX5_isHidingPlace_12 : decode cX5_isHidingPlace 12 = .ok (.if_icmp .gt 15, 3) := by decide +kernel
theorem dX5_isHidingPlace_15 : decode cX5_isHidingPlace 15 = .ok (.aload_n 0, 1) := by decide +kernel
theorem dX5_isHidingPlace_16 : decode cX5_isHidingPlace 16 = .ok (.iload_n 1, 1) := by decide +kernel
theorem dX5_isHidingPlace_17 : decode cX5_isHidingPlace 17 = .ok (.invokevirtual 94, 3) := by decide +kernel
theorem dX5_isHidingPlace_20 : decode cX5_isHidingPlace 20 = .ok (.ifCond .ne 7, 3) := by decide +kernel
theorem dX5_isHidingPlace_23 : decode cX5_isHidingPlace 23 = .ok (.iconst 1, 1) := by decide +kernel
theorem dX5_isHidingPlace_24 : decode cX5_isHidingPlace 24 = .ok (.goto 4, 3) := by decide +kernel
theorem dX5_isHidingPlace_27 : decode cX5_isHidingPlace 27 = .ok (.iconst 0, 1) := by decide +kernel
theorem dX5_isHidingPlace_28 : decode cX5_isHidingPlace 28 = .ok (.ireturn, 1) := by decide +kernel
theorem dX5_isFull_0 : decode cX5_isFull 0 = .ok (.aload_n 0, 1) := by decide +kernel
theorem dX5_isFull_1 : decode cX5_isFull 1 = .ok (.iload_n 1, 1) := by decide +kernel
theorem dX5_isFull_2 : decode cX5_isFull 2 = .ok (.invokevirtual 100, 3) := by decide +kernel
theorem dX5_isFull_5 : decode cX5_isFull 5 = .ok (.iconst 2, 1) := by decide +kernel
theorem dX5_isFull_6 : decode cX5_isFull 6 = .ok (.if_icmp .lt 7, 3) := by decide +kernel
theorem dX5_isFull_9 : decode cX5_isFull 9 = .ok (.iconst 1, 1) := by decide +kernel
theorem dX5_isFull_10 : decode cX5_isFull 10 = .ok (.goto 4, 3) := by decide +kernel
theorem dX5_isFull_13 : decode cX5_isFull 13 = .ok (.iconst 0, 1) := by decide +kernel
theorem dX5_isFull_14 : decode cX5_isFull 14 = .ok (.ireturn, 1) := by decide +kernel
theorem dX5_hasRoomToHide_0 : decode cX5_hasRoomToHide 0 = .ok (.aload_n 0, 1) := by decide +kernel
theorem dX5_hasRoomToHide_1 : decode cX5_hasRoomToHide 1 = .ok (.iload_n 1, 1) := by decide +kernel
theorem dX5_hasRoomToHide_2 : decode cX5_hasRoomToHide 2 = .ok (.invokevirtual 103, 3) := by decide +kernel
theorem dX5_hasRoomToHide_5 : decode cX5_hasRoomToHide 5 = .ok (.ifCond .eq 15, 3) := by decide +kernel
theorem dX5_hasRoomToHide_8 : decode cX5_hasRoomToHide 8 = .ok (.aload_n 0, 1) := by decide +kernel
theorem dX5_hasRoomToHide_9 : decode cX5_hasRoomToHide 9 = .ok (.iload_n 1, 1) := by decide +kernel
theorem dX5_hasRoomToHide_10 : decode cX5_hasRoomToHide 10 = .ok (.invokevirtual 106, 3) := by decide +kernel
theorem dX5_hasRoomToHide_13 : decode cX5_hasRoomToHide 13 = .ok (.ifCond .ne 7, 3) := by decide +kernel
theorem dX5_hasRoomToHide_16 : decode cX5_hasRoomToHide 16 = .ok (.iconst 1, 1) := by decide +kernel
theorem dX5_hasRoomToHide_17 : decode cX5_hasRoomToHide 17 = .ok (.goto 4, 3) := by decide +kernel
theorem dX5_hasRoomToHide_20 : decode cX5_hasRoomToHide 20 = .ok (.iconst 0, 1) := by decide +kernel
theorem dX5_hasRoomToHide_21 : decode cX5_hasRoomToHide 21 = .ok (.ireturn, 1) := by decide +kernel
theorem dX5_seekerSees_0 : decode cX5_seekerSees 0 = .ok (.aload_n 0, 1) := by decide +kernel
theorem dX5_seekerSees_1 : decode cX5_seekerSees 1 = .ok (.getfield 57, 3) := by decide +kernel
theorem dX5_seekerSees_4 : decode cX5_seekerSees 4 = .ok (.iload_n 1, 1) := by decide +kernel
theorem dX5_seekerSees_5 : decode cX5_seekerSees 5 = .ok (.invokestatic 109, 3) := by decide +kernel
theorem dX5_seekerSees_8 : decode cX5_seekerSees 8 = .ok (.aload_n 0, 1) := by decide +kernel
theorem dX5_seekerSees_9 : decode cX5_seekerSees 9 = .ok (.getfield 9, 3) := by decide +kernel
theorem dX5_seekerSees_12 : decode cX5_seekerSees 12 = .ok (.iconst 0, 1) := by decide +kernel
theorem dX5_seekerSees_13 : decode cX5_seekerSees 13 = .ok (.iaload, 1) := by decide +kernel
theorem dX5_seekerSees_14 : decode cX5_seekerSees 14 = .ok (.if_icmp .gt 7, 3) := by decide +kernel
theorem dX5_seekerSees_17 : decode cX5_seekerSees 17 = .ok (.iconst 1, 1) := by decide +kernel
theorem dX5_seekerSees_18 : decode cX5_seekerSees 18 = .ok (.goto 4, 3) := by decide +kernel
theorem dX5_seekerSees_21 : decode cX5_seekerSees 21 = .ok (.iconst 0, 1) := by decide +kernel
theorem dX5_seekerSees_22 : decode cX5_seekerSees 22 = .ok (.ireturn, 1) := by decide +kernel
theorem dX5_wouldEscape_0 : decode cX5_wouldEscape 0 = .ok (.aload_n 0, 1) := by decide +kernel
theorem dX5_wouldEscape_1 : decode cX5_wouldEscape 1 = .ok (.iload_n 1, 1) := by decide +kernel
theorem dX5_wouldEscape_2 : decode cX5_wouldEscape 2 = .ok (.invokevirtual 79, 3) := by decide +kernel
theorem dX5_wouldEscape_5 : decode cX5_wouldEscape 5 = .ok (.ifCond .eq 26, 3) := by decide +kernel
theorem dX5_wouldEscape_8 : decode cX5_wouldEscape 8 = .ok (.aload_n 0, 1) := by decide +kernel
theorem dX5_wouldEscape_9 : decode cX5_wouldEscape 9 = .ok (.getfield 30, 3) := by decide +kernel
theorem dX5_wouldEscape_12 : decode cX5_wouldEscape 12 = .ok (.iload_n 1, 1) := by decide +kernel
theorem dX5_wouldEscape_13 : decode cX5_wouldEscape 13 = .ok (.iaload, 1) := by decide +kernel
theorem dX5_wouldEscape_14 : decode cX5_wouldEscape 14 = .ok (.invokestatic 97, 3) := by decide +kernel
theorem dX5_wouldEscape_17 : decode cX5_wouldEscape 17 = .ok (.aload_n 0, 1) := by decide +kernel
theorem dX5_wouldEscape_18 : decode cX5_wouldEscape 18 = .ok (.getfield 57, 3) := by decide +kernel
theorem dX5_wouldEscape_21 : decode cX5_wouldEscape 21 = .ok (.invokestatic 97, 3) := by decide +kernel
theorem dX5_wouldEscape_24 : decode cX5_wouldEscape 24 = .ok (.if_icmp .ge 7, 3) := by decide +kernel
theorem dX5_wouldEscape_27 : decode cX5_wouldEscape 27 = .ok (.iconst 1, 1) := by decide +kernel
theorem dX5_wouldEscape_28 : decode cX5_wouldEscape 28 = .ok (.goto 4, 3) := by decide +kernel
theorem dX5_wouldEscape_31 : decode cX5_wouldEscape 31 = .ok (.iconst 0, 1) := by decide +kernel
theorem dX5_wouldEscape_32 : decode cX5_wouldEscape 32 = .ok (.ireturn, 1) := by decide +kernel
theorem dX5_sumOfPoints_0 : decode cX5_sumOfPoints 0 = .ok (.iconst 0, 1) := by decide +kernel
theorem dX5_sumOfPoints_1 : decode cX5_sumOfPoints 1 = .ok (.istore_n 1, 1) := by decide +kernel
theorem dX5_sumOfPoints_2 : decode cX5_sumOfPoints 2 = .ok (.iconst 0, 1) := by decide +kernel
theorem dX5_sumOfPoints_3 : decode cX5_sumOfPoints 3 = .ok (.istore_n 2, 1) := by decide +kernel
theorem dX5_sumOfPoints_4 : decode cX5_sumOfPoints 4 = .ok (.iload_n 2, 1) := by decide +kernel
theorem dX5_sumOfPoints_5 : decode cX5_sumOfPoints 5 = .ok (.aload_n 0, 1) := by decide +kernel
theorem dX5_sumOfPoints_6 : decode cX5_sumOfPoints 6 = .ok (.getfield 41, 3) := by decide +kernel
theorem dX5_sumOfPoints_9 : decode cX5_sumOfPoints 9 = .ok (.if_icmp .ge 18, 3) := by decide +kernel
theorem dX5_sumOfPoints_12 : decode cX5_sumOfPoints 12 = .ok (.iload_n 1, 1) := by decide +kernel
theorem dX5_sumOfPoints_13 : decode cX5_sumOfPoints 13 = .ok (.aload_n 0, 1) := by decide +kernel
theorem dX5_sumOfPoints_14 : decode cX5_sumOfPoints 14 = .ok (.getfield 15, 3) := by decide +kernel
theorem dX5_sumOfPoints_17 : decode cX5_sumOfPoints 17 = .ok (.iload_n 2, 1) := by decide +kernel
theorem dX5_sumOfPoints_18 : decode cX5_sumOfPoints 18 = .ok (.iaload, 1) := by decide +kernel
theorem dX5_sumOfPoints_19 : decode cX5_sumOfPoints 19 = .ok (.iadd, 1) := by decide +kernel
theorem dX5_sumOfPoints_20 : decode cX5_sumOfPoints 20 = .ok (.istore_n 1, 1) := by decide +kernel
theorem dX5_sumOfPoints_21 : decode cX5_sumOfPoints 21 = .ok (.iinc 2 1, 3) := by decide +kernel
theorem dX5_sumOfPoints_24 : decode cX5_sumOfPoints 24 = .ok (.goto (-20), 3) := by decide +kernel
theorem dX5_sumOfPoints_27 : decode cX5_sumOfPoints 27 = .ok (.iload_n 1, 1) := by decide +kernel
theorem dX5_sumOfPoints_28 : decode cX5_sumOfPoints 28 = .ok (.ireturn, 1) := by decide +kernel
theorem dX6_isSpot_0 : decode cX6_isSpot 0 = .ok (.iload_n 0, 1) := by decide +kernel
theorem dX6_isSpot_1 : decode cX6_isSpot 1 = .ok (.ifCond .lt 13, 3) := by decide +kernel
theorem dX6_isSpot_4 : decode cX6_isSpot 4 = .ok (.iload_n 0, 1) := by decide +kernel
theorem dX6_isSpot_5 : decode cX6_isSpot 5 = .ok (.bipush 16, 2) := by decide +kernel
theorem dX6_isSpot_7 : decode cX6_isSpot 7 = .ok (.if_icmp .ge 7, 3) := by decide +kernel
theorem dX6_isSpot_10 : decode cX6_isSpot 10 = .ok (.iconst 1, 1) := by decide +kernel
theorem dX6_isSpot_11 : decode cX6_isSpot 11 = .ok (.goto 4, 3) := by decide +kernel
theorem dX6_isSpot_14 : decode cX6_isSpot 14 = .ok (.iconst 0, 1) := by decide +kernel
theorem dX6_isSpot_15 : decode cX6_isSpot 15 = .ok (.ireturn, 1) := by decide +kernel
theorem dX6_distance_0 : decode cX6_distance 0 = .ok (.iload_n 0, 1) := by decide +kernel
theorem dX6_distance_1 : decode cX6_distance 1 = .ok (.iload_n 1, 1) := by decide +kernel
theorem dX6_distance_2 : decode cX6_distance 2 = .ok (.invokestatic 9, 3) := by decide +kernel
theorem dX6_distance_5 : decode cX6_distance 5 = .ok (.iload_n 1, 1) := by decide +kernel
theorem dX6_distance_6 : decode cX6_distance 6 = .ok (.iload_n 0, 1) := by decide +kernel
theorem dX6_distance_7 : decode cX6_distance 7 = .ok (.invokestatic 9, 3) := by decide +kernel
theorem dX6_distance_10 : decode cX6_distance 10 = .ok (.invokestatic 13, 3) := by decide +kernel
theorem dX6_distance_13 : decode cX6_distance 13 = .ok (.ireturn, 1) := by decide +kernel
theorem dX6_fromBase_0 : decode cX6_fromBase 0 = .ok (.iload_n 0, 1) := by decide +kernel
theorem dX6_fromBase_1 : decode cX6_fromBase 1 = .ok (.iload_n 0, 1) := by decide +kernel
theorem dX6_fromBase_2 : decode cX6_fromBase 2 = .ok (.iconst 0, 1) := by decide +kernel
theorem dX6_fromBase_3 : decode cX6_fromBase 3 = .ok (.invokestatic 9, 3) := by decide +kernel
theorem dX6_fromBase_6 : decode cX6_fromBase 6 = .ok (.invokestatic 13, 3) := by decide +kernel
theorem dX6_fromBase_9 : decode cX6_fromBase 9 = .ok (.ireturn, 1) := by decide +kernel
theorem dX6_stepsUp_0 : decode cX6_stepsUp 0 = .ok (.iload_n 1, 1) := by decide +kernel
theorem dX6_stepsUp_1 : decode cX6_stepsUp 1 = .ok (.iload_n 0, 1) := by decide +kernel
theorem dX6_stepsUp_2 : decode cX6_stepsUp 2 = .ok (.isub, 1) := by decide +kernel
theorem dX6_stepsUp_3 : decode cX6_stepsUp 3 = .ok (.bipush 16, 2) := by decide +kernel
theorem dX6_stepsUp_5 : decode cX6_stepsUp 5 = .ok (.invokestatic 18, 3) := by decide +kernel
theorem dX6_stepsUp_8 : decode cX6_stepsUp 8 = .ok (.ireturn, 1) := by decide +kernel
theorem dX6_beside_0 : decode cX6_beside 0 = .ok (.iload_n 0, 1) := by decide +kernel
theorem dX6_beside_1 : decode cX6_beside 1 = .ok (.iload_n 1, 1) := by decide +kernel
theorem dX6_beside_2 : decode cX6_beside 2 = .ok (.iadd, 1) := by decide +kernel
theorem dX6_beside_3 : decode cX6_beside 3 = .ok (.bipush 16, 2) := by decide +kernel
theorem dX6_beside_5 : decode cX6_beside 5 = .ok (.invokestatic 18, 3) := by decide +kernel
theorem dX6_beside_8 : decode cX6_beside 8 = .ok (.ireturn, 1) := by decide +kernel
theorem dX7_init_0 : decode cX7_init 0 = .ok (.aload_n 0, 1) := by decide +kernel
theorem dX7_init_1 : decode cX7_init 1 = .ok (.invokespecial 1, 3) := by decide +kernel
theorem dX7_init_4 : decode cX7_init 4 = .ok (.aload_n 0, 1) := by decide +kernel
theorem dX7_init_5 : decode cX7_init 5 = .ok (.new 7, 3) := by decide +kernel
theorem dX7_init_8 : decode cX7_init 8 = .ok (.dup, 1) := by decide +kernel
theorem dX7_init_9 : decode cX7_init 9 = .ok (.invokespecial 9, 3) := by decide +kernel
theorem dX7_init_12 : decode cX7_init 12 = .ok (.putfield 10, 3) := by decide +kernel
theorem dX7_init_15 : decode cX7_init 15 = .ok (.aload_n 0, 1) := by decide +kernel
theorem dX7_init_16 : decode cX7_init 16 = .ok (.new 7, 3) := by decide +kernel
theorem dX7_init_19 : decode cX7_init 19 = .ok (.dup, 1) := by decide +kernel
theorem dX7_init_20 : decode cX7_init 20 = .ok (.invokespecial 9, 3) := by decide +kernel
theorem dX7_init_23 : decode cX7_init 23 = .ok (.putfield 16, 3) := by decide +kernel
theorem dX7_init_26 : decode cX7_init 26 = .ok (.aload_n 0, 1) := by decide +kernel
theorem dX7_init_27 : decode cX7_init 27 = .ok (.new 19, 3) := by decide +kernel
theorem dX7_init_30 : decode cX7_init 30 = .ok (.dup, 1) := by decide +kernel
theorem dX7_init_31 : decode cX7_init 31 = .ok (.invokespecial 21, 3) := by decide +kernel
theorem dX7_init_34 : decode cX7_init 34 = .ok (.putfield 22, 3) := by decide +kernel
theorem dX7_init_37 : decode cX7_init 37 = .ok (.aload_n 0, 1) := by decide +kernel
theorem dX7_init_38 : decode cX7_init 38 = .ok (.new 26, 3) := by decide +kernel
theorem dX7_init_41 : decode cX7_init 41 = .ok (.dup, 1) := by decide +kernel
theorem dX7_init_42 : decode cX7_init 42 = .ok (.invokespecial 28, 3) := by decide +kernel
theorem dX7_init_45 : decode cX7_init 45 = .ok (.putfield 29, 3) := by decide +kernel
theorem dX7_init_48 : decode cX7_init 48 = .ok (.aload_n 0, 1) := by decide +kernel
theorem dX7_init_49 : decode cX7_init 49 = .ok (.iconst 0, 1) := by decide +kernel
theorem dX7_init_50 : decode cX7_init 50 = .ok (.putfield 33, 3) := by decide +kernel
theorem dX7_init_53 : decode cX7_init 53 = .ok (.return_, 1) := by decide +kernel
theorem dX7_set_0 : decode cX7_set 0 = .ok (.aload_n 0, 1) := by decide +kernel
theorem dX7_set_1 : decode cX7_set 1 = .ok (.getfield 22, 3) := by decide +kernel
theorem dX7_set_4 : decode cX7_set 4 = .ok (.aload_n 0, 1) := by decide +kernel
theorem dX7_set_5 : decode cX7_set 5 = .ok (.getfield 10, 3) := by decide +kernel
theorem dX7_set_8 : decode cX7_set 8 = .ok (.invokevirtual 37, 3) := by decide +kernel
theorem dX7_set_11 : decode cX7_set 11 = .ok (.aload_n 0, 1) := by decide +kernel
theorem dX7_set_12 : decode cX7_set 12 = .ok (.getfield 22, 3) := by decide +kernel
theorem dX7_set_15 : decode cX7_set 15 = .ok (.aload_n 0, 1) := by decide +kernel
theorem dX7_set_16 : decode cX7_set 16 = .ok (.getfield 10, 3) := by decide +kernel
theorem dX7_set_19 : decode cX7_set 19 = .ok (.iload_n 1, 1) := by decide +kernel
theorem dX7_set_20 : decode cX7_set 20 = .ok (.iload_n 2, 1) := by decide +kernel
theorem dX7_set_21 : decode cX7_set 21 = .ok (.invokestatic 41, 3) := by decide +kernel
theorem dX7_set_24 : decode cX7_set 24 = .ok (.invokevirtual 47, 3) := by decide +kernel
theorem dX7_set_27 : decode cX7_set 27 = .ok (.ireturn, 1) := by decide +kernel
theorem dX7_setting_0 : decode cX7_setting 0 = .ok (.iload_n 1, 1) := by decide +kernel
theorem dX7_setting_1 : decode cX7_setting 1 = .ok (.invokestatic 51, 3) := by decide +kernel
theorem dX7_setting_4 : decode cX7_setting 4 = .ok (.ifCond .ne 7, 3) := by decide +kernel
theorem dX7_setting_7 : decode cX7_setting 7 = .ok (.sipush (-10002), 3) := by decide +kernel
theorem dX7_setting_10 : decode cX7_setting 10 = .ok (.ireturn, 1) := by decide +kernel
theorem dX7_setting_11 : decode cX7_setting 11 = .ok (.aload_n 0, 1) := by decide +kernel
theorem dX7_setting_12 : decode cX7_setting 12 = .ok (.getfield 10, 3) := by decide +kernel
theorem dX7_setting_15 : decode cX7_setting 15 = .ok (.getfield 55, 3) := by decide +kernel
theorem dX7_setting_18 : decode cX7_setting 18 = .ok (.iload_n 1, 1) := by decide +kernel
theorem dX7_setting_19 : decode cX7_setting 19 = .ok (.iaload, 1) := by decide +kernel
theorem dX7_setting_20 : decode cX7_setting 20 = .ok (.ireturn, 1) := by decide +kernel
theorem dX7_join_0 : decode cX7_join 0 = .ok (.aload_n 0, 1) := by decide +kernel
theorem dX7_join_1 : decode cX7_join 1 = .ok (.getfield 22, 3) := by decide +kernel
theorem dX7_join_4 : decode cX7_join 4 = .ok (.aload_n 0, 1) := by decide +kernel
theorem dX7_join_5 : decode cX7_join 5 = .ok (.getfield 10, 3) := by decide +kernel
theorem dX7_join_8 : decode cX7_join 8 = .ok (.invokevirtual 37, 3) := by decide +kernel
theorem dX7_join_11 : decode cX7_join 11 = .ok (.aload_n 0, 1) := by decide +kernel
theorem dX7_join_12 : decode cX7_join 12 = .ok (.getfield 22, 3) := by decide +kernel
theorem dX7_join_15 : decode cX7_join 15 = .ok (.aload_n 0, 1) := by decide +kernel
theorem dX7_join_16 : decode cX7_join 16 = .ok (.getfield 10, 3) := by decide +kernel
theorem dX7_join_19 : decode cX7_join 19 = .ok (.invokestatic 59, 3) := by decide +kernel
theorem dX7_join_22 : decode cX7_join 22 = .ok (.invokevirtual 47, 3) := by decide +kernel
theorem dX7_join_25 : decode cX7_join 25 = .ok (.ireturn, 1) := by decide +kernel
theorem dX7_start_0 : decode cX7_start 0 = .ok (.aload_n 0, 1) := by decide +kernel
theorem dX7_start_1 : decode cX7_start 1 = .ok (.getfield 22, 3) := by decide +kernel
theorem dX7_start_4 : decode cX7_start 4 = .ok (.aload_n 0, 1) := by decide +kernel
theorem dX7_start_5 : decode cX7_start 5 = .ok (.getfield 10, 3) := by decide +kernel
theorem dX7_start_8 : decode cX7_start 8 = .ok (.invokevirtual 37, 3) := by decide +kernel
theorem dX7_start_11 : decode cX7_start 11 = .ok (.aload_n 0, 1) := by decide +kernel
theorem dX7_start_12 : decode cX7_start 12 = .ok (.getfield 22, 3) := by decide +kernel
theorem dX7_start_15 : decode cX7_start 15 = .ok (.aload_n 0, 1) := by decide +kernel
theorem dX7_start_16 : decode cX7_start 16 = .ok (.getfield 10, 3) := by decide +kernel
theorem dX7_start_19 : decode cX7_start 19 = .ok (.iload_n 1, 1) := by decide +kernel
theorem dX7_start_20 : decode cX7_start 20 = .ok (.iload_n 2, 1) := by decide +kernel
theorem dX7_start_21 : decode cX7_start 21 = .ok (.invokestatic 63, 3) := by decide +kernel
theorem dX7_start_24 : decode cX7_start 24 = .ok (.invokevirtual 47, 3) := by decide +kernel
theorem dX7_start_27 : decode cX7_start 27 = .ok (.ireturn, 1) := by decide +kernel
theorem dX7_hide_0 : decode cX7_hide 0 = .ok (.aload_n 0, 1) := by decide +kernel
theorem dX7_hide_1 : decode cX7_hide 1 = .ok (.getfield 22, 3) := by decide +kernel
theorem dX7_hide_4 : decode cX7_hide 4 = .ok (.aload_n 0, 1) := by decide +kernel
theorem dX7_hide_5 : decode cX7_hide 5 = .ok (.getfield 10, 3) := by decide +kernel
theorem dX7_hide_8 : decode cX7_hide 8 = .ok (.invokevirtual 37, 3) := by decide +kernel
theorem dX7_hide_11 : decode cX7_hide 11 = .ok (.aload_n 0, 1) := by decide +kernel
theorem dX7_hide_12 : decode cX7_hide 12 = .ok (.getfield 22, 3) := by decide +kernel
theorem dX7_hide_15 : decode cX7_hide 15 = .ok (.aload_n 0, 1) := by decide +kernel
theorem dX7_hide_16 : decode cX7_hide 16 = .ok (.getfield 10, 3) := by decide +kernel
theorem dX7_hide_19 : decode cX7_hide 19 = .ok (.iload_n 1, 1) := by decide +kernel
theorem dX7_hide_20 : decode cX7_hide 20 = .ok (.iload_n 2, 1) := by decide +kernel
theorem dX7_hide_21 : decode cX7_hide 21 = .ok (.invokestatic 66, 3) := by decide +kernel
theorem dX7_hide_24 : decode cX7_hide 24 = .ok (.invokevirtual 47, 3) := by decide +kernel
theorem dX7_hide_27 : decode cX7_hide 27 = .ok (.ireturn, 1) := by decide +kernel
theorem dX7_seek_0 : decode cX7_seek 0 = .ok (.aload_n 0, 1) := by decide +kernel
theorem dX7_seek_1 : decode cX7_seek 1 = .ok (.getfield 22, 3) := by decide +kernel
theorem dX7_seek_4 : decode cX7_seek 4 = .ok (.aload_n 0, 1) := by decide +kernel
theorem dX7_seek_5 : decode cX7_seek 5 = .ok (.getfield 10, 3) := by decide +kernel
theorem dX7_seek_8 : decode cX7_seek 8 = .ok (.invokevirtual 37, 3) := by decide +kernel
theorem dX7_seek_11 : decode cX7_seek 11 = .ok (.aload_n 0, 1) := by decide +kernel
theorem dX7_seek_12 : decode cX7_seek 12 = .ok (.getfield 22, 3) := by decide +kernel
theorem dX7_seek_15 : decode cX7_seek 15 = .ok (.aload_n 0, 1) := by decide +kernel
theorem dX7_seek_16 : decode cX7_seek 16 = .ok (.getfield 10, 3) := by decide +kernel
theorem dX7_seek_19 : decode cX7_seek 19 = .ok (.invokestatic 69, 3) := by decide +kernel
theorem dX7_seek_22 : decode cX7_seek 22 = .ok (.invokevirtual 47, 3) := by decide +kernel
theorem dX7_seek_25 : decode cX7_seek 25 = .ok (.ireturn, 1) := by decide +kernel
theorem dX7_walk_0 : decode cX7_walk 0 = .ok (.aload_n 0, 1) := by decide +kernel
theorem dX7_walk_1 : decode cX7_walk 1 = .ok (.getfield 22, 3) := by decide +kernel
theorem dX7_walk_4 : decode cX7_walk 4 = .ok (.aload_n 0, 1) := by decide +kernel
theorem dX7_walk_5 : decode cX7_walk 5 = .ok (.getfield 10, 3) := by decide +kernel
theorem dX7_walk_8 : decode cX7_walk 8 = .ok (.invokevirtual 37, 3) := by decide +kernel
theorem dX7_walk_11 : decode cX7_walk 11 = .ok (.aload_n 0, 1) := by decide +kernel
theorem dX7_walk_12 : decode cX7_walk 12 = .ok (.getfield 22, 3) := by decide +kernel
theorem dX7_walk_15 : decode cX7_walk 15 = .ok (.aload_n 0, 1) := by decide +kernel
theorem dX7_walk_16 : decode cX7_walk 16 = .ok (.getfield 10, 3) := by decide +kernel
theorem dX7_walk_19 : decode cX7_walk 19 = .ok (.iload_n 1, 1) := by decide +kernel
theorem dX7_walk_20 : decode cX7_walk 20 = .ok (.invokestatic 72, 3) := by decide +kernel
theorem dX7_walk_23 : decode cX7_walk 23 = .ok (.invokevirtual 47, 3) := by decide +kernel
theorem dX7_walk_26 : decode cX7_walk 26 = .ok (.ireturn, 1) := by decide +kernel
theorem dX7_cry_0 : decode cX7_cry 0 = .ok (.aload_n 0, 1) := by decide +kernel
theorem dX7_cry_1 : decode cX7_cry 1 = .ok (.getfield 22, 3) := by decide +kernel
theorem dX7_cry_4 : decode cX7_cry 4 = .ok (.aload_n 0, 1) := by decide +kernel
theorem dX7_cry_5 : decode cX7_cry 5 = .ok (.getfield 10, 3) := by decide +kernel
theorem dX7_cry_8 : decode cX7_cry 8 = .ok (.invokevirtual 37, 3) := by decide +kernel
theorem dX7_cry_11 : decode cX7_cry 11 = .ok (.aload_n 0, 1) := by decide +kernel
theorem dX7_cry_12 : decode cX7_cry 12 = .ok (.getfield 22, 3) := by decide +kernel
theorem dX7_cry_15 : decode cX7_cry 15 = .ok (.aload_n 0, 1) := by decide +kernel
theorem dX7_cry_16 : decode cX7_cry 16 = .ok (.getfield 10, 3) := by decide +kernel
theorem dX7_cry_19 : decode cX7_cry 19 = .ok (.iload_n 1, 1) := by decide +kernel
theorem dX7_cry_20 : decode cX7_cry 20 = .ok (.iload_n 2, 1) := by decide +kernel
theorem dX7_cry_21 : decode cX7_cry 21 = .ok (.invokestatic 76, 3) := by decide +kernel
theorem dX7_cry_24 : decode cX7_cry 24 = .ok (.invokevirtual 47, 3) := by decide +kernel
theorem dX7_cry_27 : decode cX7_cry 27 = .ok (.ireturn, 1) := by decide +kernel
theorem dX7_dash_0 : decode cX7_dash 0 = .ok (.aload_n 0, 1) := by decide +kernel
theorem dX7_dash_1 : decode cX7_dash 1 = .ok (.getfield 22, 3) := by decide +kernel
theorem dX7_dash_4 : decode cX7_dash 4 = .ok (.aload_n 0, 1) := by decide +kernel
theorem dX7_dash_5 : decode cX7_dash 5 = .ok (.getfield 10, 3) := by decide +kernel
theorem dX7_dash_8 : decode cX7_dash 8 = .ok (.invokevirtual 37, 3) := by decide +kernel
theorem dX7_dash_11 : decode cX7_dash 11 = .ok (.aload_n 0, 1) := by decide +kernel
theorem dX7_dash_12 : decode cX7_dash 12 = .ok (.getfield 22, 3) := by decide +kernel
theorem dX7_dash_15 : decode cX7_dash 15 = .ok (.aload_n 0, 1) := by decide +kernel
theorem dX7_dash_16 : decode cX7_dash 16 = .ok (.getfield 10, 3) := by decide +kernel
theorem dX7_dash_19 : decode cX7_dash 19 = .ok (.iload_n 1, 1) := by decide +kernel
theorem dX7_dash_20 : decode cX7_dash 20 = .ok (.invokestatic 79, 3) := by decide +kernel
theorem dX7_dash_23 : decode cX7_dash 23 = .ok (.invokevirtual 47, 3) := by decide +kernel
theorem dX7_dash_26 : decode cX7_dash 26 = .ok (.ireturn, 1) := by decide +kernel
theorem dX7_player_0 : decode cX7_player 0 = .ok (.aload_n 0, 1) := by decide +kernel
theorem dX7_player_1 : decode cX7_player 1 = .ok (.getfield 10, 3) := by decide +kernel
theorem dX7_player_4 : decode cX7_player 4 = .ok (.iload_n 1, 1) := by decide +kernel
theorem dX7_player_5 : decode cX7_player 5 = .ok (.invokevirtual 82, 3) := by decide +kernel
theorem dX7_player_8 : decode cX7_player 8 = .ok (.ifCond .ne 7, 3) := by decide +kernel
theorem dX7_player_11 : decode cX7_player 11 = .ok (.sipush (-10001), 3) := by decide +kernel
theorem dX7_player_14 : decode cX7_player 14 = .ok (.ireturn, 1) := by decide +kernel
theorem dX7_player_15 : decode cX7_player 15 = .ok (.iload_n 2, 1) := by decide +kernel
theorem dX7_player_16 : decode cX7_player 16 = .ok (.tableswitch 113 0 6 #[44, 54, 64, 74, 84, 94, 103], 44) := by decide +kernel
theorem dX7_player_60 : decode cX7_player 60 = .ok (.aload_n 0, 1) := by decide +kernel
theorem dX7_player_61 : decode cX7_player 61 = .ok (.getfield 10, 3) := by decide +kernel
theorem dX7_player_64 : decode cX7_player 64 = .ok (.getfield 85, 3) := by decide +kernel
theorem dX7_player_67 : decode cX7_player 67 = .ok (.iload_n 1, 1) := by decide +kernel
theorem dX7_player_68 : decode cX7_player 68 = .ok (.iaload, 1) := by decide +kernel
theorem dX7_player_69 : decode cX7_player 69 = .ok (.ireturn, 1) := by decide +kernel
theorem dX7_player_70 : decode cX7_player 70 = .ok (.aload_n 0, 1) := by decide +kernel
theorem dX7_player_71 : decode cX7_player 71 = .ok (.getfield 10, 3) := by decide +kernel
theorem dX7_player_74 : decode cX7_player 74 = .ok (.getfield 88, 3) := by decide +kernel
theorem dX7_player_77 : decode cX7_player 77 = .ok (.iload_n 1, 1) := by decide +kernel
theorem dX7_player_78 : decode cX7_player 78 = .ok (.iaload, 1) := by decide +kernel
theorem dX7_player_79 : decode cX7_player 79 = .ok (.ireturn, 1) := by decide +kernel
theorem dX7_player_80 : decode cX7_player 80 = .ok (.aload_n 0, 1) := by decide +kernel
theorem dX7_player_81 : decode cX7_player 81 = .ok (.getfield 10, 3) := by decide +kernel
theorem dX7_player_84 : decode cX7_player 84 = .ok (.getfield 91, 3) := by decide +kernel
theorem dX7_player_87 : decode cX7_player 87 = .ok (.iload_n 1, 1) := by decide +kernel
theorem dX7_player_88 : decode cX7_player 88 = .ok (.iaload, 1) := by decide +kernel
theorem dX7_player_89 : decode cX7_player 89 = .ok (.ireturn, 1) := by decide +kernel
theorem dX7_player_90 : decode cX7_player 90 = .ok (.aload_n 0, 1) := by decide +kernel
theorem dX7_player_91 : decode cX7_player 91 = .ok (.getfield 10, 3) := by decide +kernel
theorem dX7_player_94 : decode cX7_player 94 = .ok (.getfield 94, 3) := by decide +kernel
theorem dX7_player_97 : decode cX7_player 97 = .ok (.iload_n 1, 1) := by decide +kernel
theorem dX7_player_98 : decode cX7_player 98 = .ok (.iaload, 1) := by decide +kernel
theorem dX7_player_99 : decode cX7_player 99 = .ok (.ireturn, 1) := by decide +kernel
theorem dX7_player_100 : decode cX7_player 100 = .ok (.aload_n 0, 1) := by decide +kernel
theorem dX7_player_101 : decode cX7_player 101 = .ok (.getfield 10, 3) := by decide +kernel
theorem dX7_player_104 : decode cX7_player 104 = .ok (.getfield 97, 3) := by decide +kernel
theorem dX7_player_107 : decode cX7_player 107 = .ok (.iload_n 1, 1) := by decide +kernel
theorem dX7_player_108 : decode cX7_player 108 = .ok (.iaload, 1) := by decide +kernel
theorem dX7_player_109 : decode cX7_player 109 = .ok (.ireturn, 1) := by decide +kernel
theorem dX7_player_110 : decode cX7_player 110 = .ok (.aload_n 0, 1) := by decide +kernel
theorem dX7_player_111 : decode cX7_player 111 = .ok (.getfield 10, 3) := by decide +kernel
theorem dX7_player_114 : decode cX7_player 114 = .ok (.iload_n 1, 1) := by decide +kernel
theorem dX7_player_115 : decode cX7_player 115 = .ok (.invokestatic 100, 3) := by decide +kernel
theorem dX7_player_118 : decode cX7_player 118 = .ok (.ireturn, 1) := by decide +kernel
theorem dX7_player_119 : decode cX7_player 119 = .ok (.aload_n 0, 1) := by decide +kernel
theorem dX7_player_120 : decode cX7_player 120 = .ok (.getfield 10, 3) := by decide +kernel
theorem dX7_player_123 : decode cX7_player 123 = .ok (.getfield 105, 3) := by decide +kernel
theorem dX7_player_126 : decode cX7_player 126 = .ok (.iload_n 1, 1) := by decide +kernel
theorem dX7_player_127 : decode cX7_player 127 = .ok (.iaload, 1) := by decide +kernel
theorem dX7_player_128 : decode cX7_player 128 = .ok (.ireturn, 1) := by decide +kernel
theorem dX7_player_129 : decode cX7_player 129 = .ok (.sipush (-10002), 3) := by decide +kernel
theorem dX7_player_132 : decode cX7_player 132 = .ok (.ireturn, 1) := by decide +kernel
theorem dX7_spot_0 : decode cX7_spot 0 = .ok (.iload_n 1, 1) := by decide +kernel
theorem dX7_spot_1 : decode cX7_spot 1 = .ok (.invokestatic 108, 3) := by decide +kernel
theorem dX7_spot_4 : decode cX7_spot 4 = .ok (.ifCond .ne 7, 3) := by decide +kernel
theorem dX7_spot_7 : decode cX7_spot 7 = .ok (.sipush (-10001), 3) := by decide +kernel
theorem dX7_spot_10 : decode cX7_spot 10 = .ok (.ireturn, 1) := by decide +kernel
theorem dX7_spot_11 : decode cX7_spot 11 = .ok (.iload_n 2, 1) := by decide +kernel
theorem dX7_spot_12 : decode cX7_spot 12 = .ok (.tableswitch 73 0 3 #[32, 37, 47, 64], 32) := by decide +kernel
theorem dX7_spot_44 : decode cX7_spot 44 = .ok (.iload_n 1, 1) := by decide +kernel
theorem dX7_spot_45 : decode cX7_spot 45 = .ok (.invokestatic 113, 3) := by decide +kernel
theorem dX7_spot_48 : decode cX7_spot 48 = .ok (.ireturn, 1) := by decide +kernel
theorem dX7_spot_49 : decode cX7_spot 49 = .ok (.aload_n 0, 1) := by decide +kernel
theorem dX7_spot_50 : decode cX7_spot 50 = .ok (.getfield 10, 3) := by decide +kernel
theorem dX7_spot_53 : decode cX7_spot 53 = .ok (.getfield 116, 3) := by decide +kernel
theorem dX7_spot_56 : decode cX7_spot 56 = .ok (.iload_n 1, 1) := by decide +kernel
theorem dX7_spot_57 : decode cX7_spot 57 = .ok (.iaload, 1) := by decide +kernel
theorem dX7_spot_58 : decode cX7_spot 58 = .ok (.ireturn, 1) := by decide +kernel
theorem dX7_spot_59 : decode cX7_spot 59 = .ok (.aload_n 0, 1) := by decide +kernel
theorem dX7_spot_60 : decode cX7_spot 60 = .ok (.getfield 10, 3) := by decide +kernel
theorem dX7_spot_63 : decode cX7_spot 63 = .ok (.iload_n 1, 1) := by decide +kernel
theorem dX7_spot_64 : decode cX7_spot 64 = .ok (.invokevirtual 119, 3) := by decide +kernel
theorem dX7_spot_67 : decode cX7_spot 67 = .ok (.ifCond .eq 7, 3) := by decide +kernel
theorem dX7_spot_70 : decode cX7_spot 70 = .ok (.iconst 1, 1) := by decide +kernel
theorem dX7_spot_71 : decode cX7_spot 71 = .ok (.goto 4, 3) := by decide +kernel
theorem dX7_spot_74 : decode cX7_spot 74 = .ok (.iconst 0, 1) := by decide +kernel
theorem dX7_spot_75 : decode cX7_spot 75 = .ok (.ireturn, 1) := by decide +kernel
theorem dX7_spot_76 : decode cX7_spot 76 = .ok (.aload_n 0, 1) := by decide +kernel
theorem dX7_spot_77 : decode cX7_spot 77 = .ok (.getfield 10, 3) := by decide +kernel
theorem dX7_spot_80 : decode cX7_spot 80 = .ok (.iload_n 1, 1) := by decide +kernel
theorem dX7_spot_81 : decode cX7_spot 81 = .ok (.invokevirtual 122, 3) := by decide +kernel
theorem dX7_spot_84 : decode cX7_spot 84 = .ok (.ireturn, 1) := by decide +kernel
theorem dX7_spot_85 : decode cX7_spot 85 = .ok (.sipush (-10002), 3) := by decide +kernel
theorem dX7_spot_88 : decode cX7_spot 88 = .ok (.ireturn, 1) := by decide +kernel
theorem dX7_ranked_0 : decode cX7_ranked 0 = .ok (.aload_n 0, 1) := by decide +kernel
theorem dX7_ranked_1 : decode cX7_ranked 1 = .ok (.getfield 10, 3) := by decide +kernel
theorem dX7_ranked_4 : decode cX7_ranked 4 = .ok (.iload_n 1, 1) := by decide +kernel
theorem dX7_ranked_5 : decode cX7_ranked 5 = .ok (.invokestatic 125, 3) := by decide +kernel
theorem dX7_ranked_8 : decode cX7_ranked 8 = .ok (.ireturn, 1) := by decide +kernel
theorem dX7_nextSeeker_0 : decode cX7_nextSeeker 0 = .ok (.aload_n 0, 1) := by decide +kernel
theorem dX7_nextSeeker_1 : decode cX7_nextSeeker 1 = .ok (.getfield 10, 3) := by decide +kernel
theorem dX7_nextSeeker_4 : decode cX7_nextSeeker 4 = .ok (.invokestatic 128, 3) := by decide +kernel
theorem dX7_nextSeeker_7 : decode cX7_nextSeeker 7 = .ok (.ireturn, 1) := by decide +kernel
theorem dX7_total_0 : decode cX7_total 0 = .ok (.iload_n 1, 1) := by decide +kernel
theorem dX7_total_1 : decode cX7_total 1 = .ok (.tableswitch 135 0 9 #[55, 63, 71, 79, 87, 95, 103, 111, 119, 127], 55) := by decide +kernel
theorem dX7_total_56 : decode cX7_total 56 = .ok (.aload_n 0, 1) := by decide +kernel
theorem dX7_total_57 : decode cX7_total 57 = .ok (.getfield 10, 3) := by decide +kernel
theorem dX7_total_60 : decode cX7_total 60 = .ok (.getfield 131, 3) := by decide +kernel
theorem dX7_total_63 : decode cX7_total 63 = .ok (.ireturn, 1) := by decide +kernel
theorem dX7_total_64 : decode cX7_total 64 = .ok (.aload_n 0, 1) := by decide +kernel
theorem dX7_total_65 : decode cX7_total 65 = .ok (.getfield 10, 3) := by decide +kernel
theorem dX7_total_68 : decode cX7_total 68 = .ok (.getfield 135, 3) := by decide +kernel
theorem dX7_total_71 : decode cX7_total 71 = .ok (.ireturn, 1) := by decide +kernel
theorem dX7_total_72 : decode cX7_total 72 = .ok (.aload_n 0, 1) := by decide +kernel
theorem dX7_total_73 : decode cX7_total 73 = .ok (.getfield 10, 3) := by decide +kernel
theorem dX7_total_76 : decode cX7_total 76 = .ok (.getfield 138, 3) := by decide +kernel
theorem dX7_total_79 : decode cX7_total 79 = .ok (.ireturn, 1) := by decide +kernel
theorem dX7_total_80 : decode cX7_total 80 = .ok (.aload_n 0, 1) := by decide +kernel
theorem dX7_total_81 : decode cX7_total 81 = .ok (.getfield 10, 3) := by decide +kernel
theorem dX7_total_84 : decode cX7_total 84 = .ok (.getfield 141, 3) := by decide +kernel
theorem dX7_total_87 : decode cX7_total 87 = .ok (.ireturn, 1) := by decide +kernel
theorem dX7_total_88 : decode cX7_total 88 = .ok (.aload_n 0, 1) := by decide +kernel
theorem dX7_total_89 : decode cX7_total 89 = .ok (.getfield 10, 3) := by decide +kernel
theorem dX7_total_92 : decode cX7_total 92 = .ok (.getfield 144, 3) := by decide +kernel
theorem dX7_total_95 : decode cX7_total 95 = .ok (.ireturn, 1) := by decide +kernel
theorem dX7_total_96 : decode cX7_total 96 = .ok (.aload_n 0, 1) := by decide +kernel
theorem dX7_total_97 : decode cX7_total 97 = .ok (.getfield 10, 3) := by decide +kernel
theorem dX7_total_100 : decode cX7_total 100 = .ok (.getfield 147, 3) := by decide +kernel
theorem dX7_total_103 : decode cX7_total 103 = .ok (.ireturn, 1) := by decide +kernel
theorem dX7_total_104 : decode cX7_total 104 = .ok (.aload_n 0, 1) := by decide +kernel
theorem dX7_total_105 : decode cX7_total 105 = .ok (.getfield 10, 3) := by decide +kernel
theorem dX7_total_108 : decode cX7_total 108 = .ok (.getfield 150, 3) := by decide +kernel
theorem dX7_total_111 : decode cX7_total 111 = .ok (.ireturn, 1) := by decide +kernel
theorem dX7_total_112 : decode cX7_total 112 = .ok (.aload_n 0, 1) := by decide +kernel
theorem dX7_total_113 : decode cX7_total 113 = .ok (.getfield 10, 3) := by decide +kernel
theorem dX7_total_116 : decode cX7_total 116 = .ok (.invokevirtual 153, 3) := by decide +kernel
theorem dX7_total_119 : decode cX7_total 119 = .ok (.ireturn, 1) := by decide +kernel
theorem dX7_total_120 : decode cX7_total 120 = .ok (.aload_n 0, 1) := by decide +kernel
theorem dX7_total_121 : decode cX7_total 121 = .ok (.getfield 10, 3) := by decide +kernel
theorem dX7_total_124 : decode cX7_total 124 = .ok (.invokevirtual 157, 3) := by decide +kernel
theorem dX7_total_127 : decode cX7_total 127 = .ok (.ireturn, 1) := by decide +kernel
theorem dX7_total_128 : decode cX7_total 128 = .ok (.aload_n 0, 1) := by decide +kernel
theorem dX7_total_129 : decode cX7_total 129 = .ok (.getfield 10, 3) := by decide +kernel
theorem dX7_total_132 : decode cX7_total 132 = .ok (.invokevirtual 160, 3) := by decide +kernel
theorem dX7_total_135 : decode cX7_total 135 = .ok (.ireturn, 1) := by decide +kernel
theorem dX7_total_136 : decode cX7_total 136 = .ok (.sipush (-10002), 3) := by decide +kernel
theorem dX7_total_139 : decode cX7_total 139 = .ok (.ireturn, 1) := by decide +kernel
theorem dX7_inSight_0 : decode cX7_inSight 0 = .ok (.aload_n 0, 1) := by decide +kernel
theorem dX7_inSight_1 : decode cX7_inSight 1 = .ok (.getfield 10, 3) := by decide +kernel
theorem dX7_inSight_4 : decode cX7_inSight 4 = .ok (.invokestatic 163, 3) := by decide +kernel
theorem dX7_inSight_7 : decode cX7_inSight 7 = .ok (.ireturn, 1) := by decide +kernel
theorem dX7_couldDash_0 : decode cX7_couldDash 0 = .ok (.aload_n 0, 1) := by decide +kernel
theorem dX7_couldDash_1 : decode cX7_couldDash 1 = .ok (.getfield 10, 3) := by decide +kernel
theorem dX7_couldDash_4 : decode cX7_couldDash 4 = .ok (.invokestatic 168, 3) := by decide +kernel
theorem dX7_couldDash_7 : decode cX7_couldDash 7 = .ok (.ireturn, 1) := by decide +kernel
theorem dX7_bestSpot_0 : decode cX7_bestSpot 0 = .ok (.aload_n 0, 1) := by decide +kernel
theorem dX7_bestSpot_1 : decode cX7_bestSpot 1 = .ok (.getfield 10, 3) := by decide +kernel
theorem dX7_bestSpot_4 : decode cX7_bestSpot 4 = .ok (.invokestatic 171, 3) := by decide +kernel
theorem dX7_bestSpot_7 : decode cX7_bestSpot 7 = .ok (.ireturn, 1) := by decide +kernel
theorem dX7_fewestSteps_0 : decode cX7_fewestSteps 0 = .ok (.aload_n 0, 1) := by decide +kernel
theorem dX7_fewestSteps_1 : decode cX7_fewestSteps 1 = .ok (.getfield 10, 3) := by decide +kernel
theorem dX7_fewestSteps_4 : decode cX7_fewestSteps 4 = .ok (.invokestatic 174, 3) := by decide +kernel
theorem dX7_fewestSteps_7 : decode cX7_fewestSteps 7 = .ok (.ireturn, 1) := by decide +kernel
theorem dJ6_bitCount_0f7a4_0 : decode cJ6_bitCount_0f7a4 0 = .ok (.iload_n 0, 1) := by decide +kernel
theorem dJ6_bitCount_0f7a4_1 : decode cJ6_bitCount_0f7a4 1 = .ok (.iload_n 0, 1) := by decide +kernel
theorem dJ6_bitCount_0f7a4_2 : decode cJ6_bitCount_0f7a4 2 = .ok (.iconst 1, 1) := by decide +kernel
theorem dJ6_bitCount_0f7a4_3 : decode cJ6_bitCount_0f7a4 3 = .ok (.iushr, 1) := by decide +kernel
theorem dJ6_bitCount_0f7a4_4 : decode cJ6_bitCount_0f7a4 4 = .ok (.ldc_w 265, 3) := by decide +kernel
theorem dJ6_bitCount_0f7a4_7 : decode cJ6_bitCount_0f7a4 7 = .ok (.iand, 1) := by decide +kernel
theorem dJ6_bitCount_0f7a4_8 : decode cJ6_bitCount_0f7a4 8 = .ok (.isub, 1) := by decide +kernel
theorem dJ6_bitCount_0f7a4_9 : decode cJ6_bitCount_0f7a4 9 = .ok (.istore_n 0, 1) := by decide +kernel
theorem dJ6_bitCount_0f7a4_10 : decode cJ6_bitCount_0f7a4 10 = .ok (.iload_n 0, 1) := by decide +kernel
theorem dJ6_bitCount_0f7a4_11 : decode cJ6_bitCount_0f7a4 11 = .ok (.ldc_w 266, 3) := by decide +kernel
theorem dJ6_bitCount_0f7a4_14 : decode cJ6_bitCount_0f7a4 14 = .ok (.iand, 1) := by decide +kernel
theorem dJ6_bitCount_0f7a4_15 : decode cJ6_bitCount_0f7a4 15 = .ok (.iload_n 0, 1) := by decide +kernel
theorem dJ6_bitCount_0f7a4_16 : decode cJ6_bitCount_0f7a4 16 = .ok (.iconst 2, 1) := by decide +kernel
theorem dJ6_bitCount_0f7a4_17 : decode cJ6_bitCount_0f7a4 17 = .ok (.iushr, 1) := by decide +kernel
theorem dJ6_bitCount_0f7a4_18 : decode cJ6_bitCount_0f7a4 18 = .ok (.ldc_w 266, 3) := by decide +kernel
theorem dJ6_bitCount_0f7a4_21 : decode cJ6_bitCount_0f7a4 21 = .ok (.iand, 1) := by decide +kernel
theorem dJ6_bitCount_0f7a4_22 : decode cJ6_bitCount_0f7a4 22 = .ok (.iadd, 1) := by decide +kernel
theorem dJ6_bitCount_0f7a4_23 : decode cJ6_bitCount_0f7a4 23 = .ok (.istore_n 0, 1) := by decide +kernel
theorem dJ6_bitCount_0f7a4_24 : decode cJ6_bitCount_0f7a4 24 = .ok (.iload_n 0, 1) := by decide +kernel
theorem dJ6_bitCount_0f7a4_25 : decode cJ6_bitCount_0f7a4 25 = .ok (.iload_n 0, 1) := by decide +kernel
theorem dJ6_bitCount_0f7a4_26 : decode cJ6_bitCount_0f7a4 26 = .ok (.iconst 4, 1) := by decide +kernel
theorem dJ6_bitCount_0f7a4_27 : decode cJ6_bitCount_0f7a4 27 = .ok (.iushr, 1) := by decide +kernel
theorem dJ6_bitCount_0f7a4_28 : decode cJ6_bitCount_0f7a4 28 = .ok (.iadd, 1) := by decide +kernel
theorem dJ6_bitCount_0f7a4_29 : decode cJ6_bitCount_0f7a4 29 = .ok (.ldc_w 267, 3) := by decide +kernel
theorem dJ6_bitCount_0f7a4_32 : decode cJ6_bitCount_0f7a4 32 = .ok (.iand, 1) := by decide +kernel
theorem dJ6_bitCount_0f7a4_33 : decode cJ6_bitCount_0f7a4 33 = .ok (.istore_n 0, 1) := by decide +kernel
theorem dJ6_bitCount_0f7a4_34 : decode cJ6_bitCount_0f7a4 34 = .ok (.iload_n 0, 1) := by decide +kernel
theorem dJ6_bitCount_0f7a4_35 : decode cJ6_bitCount_0f7a4 35 = .ok (.iload_n 0, 1) := by decide +kernel
theorem dJ6_bitCount_0f7a4_36 : decode cJ6_bitCount_0f7a4 36 = .ok (.bipush 8, 2) := by decide +kernel
theorem dJ6_bitCount_0f7a4_38 : decode cJ6_bitCount_0f7a4 38 = .ok (.iushr, 1) := by decide +kernel
theorem dJ6_bitCount_0f7a4_39 : decode cJ6_bitCount_0f7a4 39 = .ok (.iadd, 1) := by decide +kernel
theorem dJ6_bitCount_0f7a4_40 : decode cJ6_bitCount_0f7a4 40 = .ok (.istore_n 0, 1) := by decide +kernel
theorem dJ6_bitCount_0f7a4_41 : decode cJ6_bitCount_0f7a4 41 = .ok (.iload_n 0, 1) := by decide +kernel
theorem dJ6_bitCount_0f7a4_42 : decode cJ6_bitCount_0f7a4 42 = .ok (.iload_n 0, 1) := by decide +kernel
theorem dJ6_bitCount_0f7a4_43 : decode cJ6_bitCount_0f7a4 43 = .ok (.bipush 16, 2) := by decide +kernel
theorem dJ6_bitCount_0f7a4_45 : decode cJ6_bitCount_0f7a4 45 = .ok (.iushr, 1) := by decide +kernel
theorem dJ6_bitCount_0f7a4_46 : decode cJ6_bitCount_0f7a4 46 = .ok (.iadd, 1) := by decide +kernel
theorem dJ6_bitCount_0f7a4_47 : decode cJ6_bitCount_0f7a4 47 = .ok (.istore_n 0, 1) := by decide +kernel
theorem dJ6_bitCount_0f7a4_48 : decode cJ6_bitCount_0f7a4 48 = .ok (.iload_n 0, 1) := by decide +kernel
theorem dJ6_bitCount_0f7a4_49 : decode cJ6_bitCount_0f7a4 49 = .ok (.bipush 63, 2) := by decide +kernel
theorem dJ6_bitCount_0f7a4_51 : decode cJ6_bitCount_0f7a4 51 = .ok (.iand, 1) := by decide +kernel
theorem dJ6_bitCount_0f7a4_52 : decode cJ6_bitCount_0f7a4 52 = .ok (.ireturn, 1) := by decide +kernel
theorem dJ9_floorMod_7cf53_0 : decode cJ9_floorMod_7cf53 0 = .ok (.iload_n 0, 1) := by decide +kernel
theorem dJ9_floorMod_7cf53_1 : decode cJ9_floorMod_7cf53 1 = .ok (.iload_n 1, 1) := by decide +kernel
theorem dJ9_floorMod_7cf53_2 : decode cJ9_floorMod_7cf53 2 = .ok (.irem, 1) := by decide +kernel
theorem dJ9_floorMod_7cf53_3 : decode cJ9_floorMod_7cf53 3 = .ok (.istore_n 2, 1) := by decide +kernel
theorem dJ9_floorMod_7cf53_4 : decode cJ9_floorMod_7cf53 4 = .ok (.iload_n 0, 1) := by decide +kernel
theorem dJ9_floorMod_7cf53_5 : decode cJ9_floorMod_7cf53 5 = .ok (.iload_n 1, 1) := by decide +kernel
theorem dJ9_floorMod_7cf53_6 : decode cJ9_floorMod_7cf53 6 = .ok (.ixor, 1) := by decide +kernel
theorem dJ9_floorMod_7cf53_7 : decode cJ9_floorMod_7cf53 7 = .ok (.ifCond .ge 11, 3) := by decide +kernel
theorem dJ9_floorMod_7cf53_10 : decode cJ9_floorMod_7cf53 10 = .ok (.iload_n 2, 1) := by decide +kernel
theorem dJ9_floorMod_7cf53_11 : decode cJ9_floorMod_7cf53 11 = .ok (.ifCond .eq 7, 3) := by decide +kernel
theorem dJ9_floorMod_7cf53_14 : decode cJ9_floorMod_7cf53 14 = .ok (.iload_n 2, 1) := by decide +kernel
theorem dJ9_floorMod_7cf53_15 : decode cJ9_floorMod_7cf53 15 = .ok (.iload_n 1, 1) := by decide +kernel
theorem dJ9_floorMod_7cf53_16 : decode cJ9_floorMod_7cf53 16 = .ok (.iadd, 1) := by decide +kernel
theorem dJ9_floorMod_7cf53_17 : decode cJ9_floorMod_7cf53 17 = .ok (.ireturn, 1) := by decide +kernel
theorem dJ9_floorMod_7cf53_18 : decode cJ9_floorMod_7cf53 18 = .ok (.iload_n 2, 1) := by decide +kernel
theorem dJ9_floorMod_7cf53_19 : decode cJ9_floorMod_7cf53 19 = .ok (.ireturn, 1) := by decide +kernel
theorem dJ9_max_7cf53_0 : decode cJ9_max_7cf53 0 = .ok (.iload_n 0, 1) := by decide +kernel
theorem dJ9_max_7cf53_1 : decode cJ9_max_7cf53 1 = .ok (.iload_n 1, 1) := by decide +kernel
theorem dJ9_max_7cf53_2 : decode cJ9_max_7cf53 2 = .ok (.if_icmp .lt 7, 3) := by decide +kernel
theorem dJ9_max_7cf53_5 : decode cJ9_max_7cf53 5 = .ok (.iload_n 0, 1) := by decide +kernel
theorem dJ9_max_7cf53_6 : decode cJ9_max_7cf53 6 = .ok (.goto 4, 3) := by decide +kernel
theorem dJ9_max_7cf53_9 : decode cJ9_max_7cf53 9 = .ok (.iload_n 1, 1) := by decide +kernel
theorem dJ9_max_7cf53_10 : decode cJ9_max_7cf53 10 = .ok (.ireturn, 1) := by decide +kernel
theorem dJ9_min_7cf53_0 : decode cJ9_min_7cf53 0 = .ok (.iload_n 0, 1) := by decide +kernel
theorem dJ9_min_7cf53_1 : decode cJ9_min_7cf53 1 = .ok (.iload_n 1, 1) := by decide +kernel
theorem dJ9_min_7cf53_2 : decode cJ9_min_7cf53 2 = .ok (.if_icmp .gt 7, 3) := by decide +kernel
theorem dJ9_min_7cf53_5 : decode cJ9_min_7cf53 5 = .ok (.iload_n 0, 1) := by decide +kernel
theorem dJ9_min_7cf53_6 : decode cJ9_min_7cf53 6 = .ok (.goto 4, 3) := by decide +kernel
theorem dJ9_min_7cf53_9 : decode cJ9_min_7cf53 9 = .ok (.iload_n 1, 1) := by decide +kernel
theorem dJ9_min_7cf53_10 : decode cJ9_min_7cf53 10 = .ok (.ireturn, 1) := by decide +kernel
theorem dJ7_fill_53178_0 : decode cJ7_fill_53178 0 = .ok (.iconst 0, 1) := by decide +kernel
theorem dJ7_fill_53178_1 : decode cJ7_fill_53178 1 = .ok (.istore_n 2, 1) := by decide +kernel
theorem dJ7_fill_53178_2 : decode cJ7_fill_53178 2 = .ok (.aload_n 0, 1) := by decide +kernel
theorem dJ7_fill_53178_3 : decode cJ7_fill_53178 3 = .ok (.arraylength, 1) := by decide +kernel
theorem dJ7_fill_53178_4 : decode cJ7_fill_53178 4 = .ok (.istore_n 3, 1) := by decide +kernel
theorem dJ7_fill_53178_5 : decode cJ7_fill_53178 5 = .ok (.iload_n 2, 1) := by decide +kernel
theorem dJ7_fill_53178_6 : decode cJ7_fill_53178 6 = .ok (.iload_n 3, 1) := by decide +kernel
theorem dJ7_fill_53178_7 : decode cJ7_fill_53178 7 = .ok (.if_icmp .ge 13, 3) := by decide +kernel
theorem dJ7_fill_53178_10 : decode cJ7_fill_53178 10 = .ok (.aload_n 0, 1) := by decide +kernel
theorem dJ7_fill_53178_11 : decode cJ7_fill_53178 11 = .ok (.iload_n 2, 1) := by decide +kernel
theorem dJ7_fill_53178_12 : decode cJ7_fill_53178 12 = .ok (.iload_n 1, 1) := by decide +kernel
theorem dJ7_fill_53178_13 : decode cJ7_fill_53178 13 = .ok (.iastore, 1) := by decide +kernel
theorem dJ7_fill_53178_14 : decode cJ7_fill_53178 14 = .ok (.iinc 2 1, 3) := by decide +kernel
theorem dJ7_fill_53178_17 : decode cJ7_fill_53178 17 = .ok (.goto (-12), 3) := by decide +kernel
theorem dJ7_fill_53178_20 : decode cJ7_fill_53178 20 = .ok (.return_, 1) := by decide +kernel
