theorem dTL_within_0 : decode prog_1_method_28_code 0 = .ok (.iload_n 0, 1) := by decide +kernel
theorem dTL_within_1 : decode prog_1_method_28_code 1 = .ok (.iload_n 1, 1) := by decide +kernel
theorem dTL_within_2 : decode prog_1_method_28_code 2 = .ok (.if_icmp .lt 12, 3) := by decide +kernel
theorem dTL_within_5 : decode prog_1_method_28_code 5 = .ok (.iload_n 0, 1) := by decide +kernel
theorem dTL_within_6 : decode prog_1_method_28_code 6 = .ok (.iload_n 2, 1) := by decide +kernel
theorem dTL_within_7 : decode prog_1_method_28_code 7 = .ok (.if_icmp .gt 7, 3) := by decide +kernel
theorem dTL_within_10 : decode prog_1_method_28_code 10 = .ok (.iconst 1, 1) := by decide +kernel
theorem dTL_within_11 : decode prog_1_method_28_code 11 = .ok (.goto 4, 3) := by decide +kernel
theorem dTL_within_14 : decode prog_1_method_28_code 14 = .ok (.iconst 0, 1) := by decide +kernel
theorem dTL_within_15 : decode prog_1_method_28_code 15 = .ok (.ireturn, 1) := by decide +kernel
theorem dTL_isPlace_0 : decode prog_1_method_29_code 0 = .ok (.iload_n 0, 1) := by decide +kernel
theorem dTL_isPlace_1 : decode prog_1_method_29_code 1 = .ok (.iconst 0, 1) := by decide +kernel
theorem dTL_isPlace_2 : decode prog_1_method_29_code 2 = .ok (.bipush 15, 2) := by decide +kernel
theorem dTL_isPlace_4 : decode prog_1_method_29_code 4 = .ok (.invokestatic 80, 3) := by decide +kernel
theorem dTL_isPlace_7 : decode prog_1_method_29_code 7 = .ok (.ireturn, 1) := by decide +kernel
theorem dRo_lay_0 : decode prog_7_method_2_code 0 = .ok (.aload_n 0, 1) := by decide +kernel
theorem dRo_lay_1 : decode prog_7_method_2_code 1 = .ok (.getfield 9, 3) := by decide +kernel
theorem dRo_lay_4 : decode prog_7_method_2_code 4 = .ok (.iload_n 1, 1) := by decide +kernel
theorem dRo_lay_5 : decode prog_7_method_2_code 5 = .ok (.bipush 16, 2) := by decide +kernel
theorem dRo_lay_7 : decode prog_7_method_2_code 7 = .ok (.imul, 1) := by decide +kernel
theorem dRo_lay_8 : decode prog_7_method_2_code 8 = .ok (.iload_n 2, 1) := by decide +kernel
theorem dRo_lay_9 : decode prog_7_method_2_code 9 = .ok (.iadd, 1) := by decide +kernel
theorem dRo_lay_10 : decode prog_7_method_2_code 10 = .ok (.iload_n 3, 1) := by decide +kernel
theorem dRo_lay_11 : decode prog_7_method_2_code 11 = .ok (.iastore, 1) := by decide +kernel
theorem dRo_lay_12 : decode prog_7_method_2_code 12 = .ok (.aload_n 0, 1) := by decide +kernel
theorem dRo_lay_13 : decode prog_7_method_2_code 13 = .ok (.getfield 9, 3) := by decide +kernel
theorem dRo_lay_16 : decode prog_7_method_2_code 16 = .ok (.iload_n 2, 1) := by decide +kernel
theorem dRo_lay_17 : decode prog_7_method_2_code 17 = .ok (.bipush 16, 2) := by decide +kernel
theorem dRo_lay_19 : decode prog_7_method_2_code 19 = .ok (.imul, 1) := by decide +kernel
theorem dRo_lay_20 : decode prog_7_method_2_code 20 = .ok (.iload_n 1, 1) := by decide +kernel
theorem dRo_lay_21 : decode prog_7_method_2_code 21 = .ok (.iadd, 1) := by decide +kernel
theorem dRo_lay_22 : decode prog_7_method_2_code 22 = .ok (.iload_n 3, 1) := by decide +kernel
theorem dRo_lay_23 : decode prog_7_method_2_code 23 = .ok (.iastore, 1) := by decide +kernel
theorem dRo_lay_24 : decode prog_7_method_2_code 24 = .ok (.return_, 1) := by decide +kernel
theorem dTL_road_0 : decode prog_1_method_2_code 0 = .ok (.iload_n 1, 1) := by decide +kernel
theorem dTL_road_1 : decode prog_1_method_2_code 1 = .ok (.invokestatic 76, 3) := by decide +kernel
theorem dTL_road_4 : decode prog_1_method_2_code 4 = .ok (.ifCond .eq 25, 3) := by decide +kernel
theorem dTL_road_7 : decode prog_1_method_2_code 7 = .ok (.iload_n 2, 1) := by decide +kernel
theorem dTL_road_8 : decode prog_1_method_2_code 8 = .ok (.invokestatic 76, 3) := by decide +kernel
theorem dTL_road_11 : decode prog_1_method_2_code 11 = .ok (.ifCond .eq 18, 3) := by decide +kernel
theorem dTL_road_14 : decode prog_1_method_2_code 14 = .ok (.iload_n 1, 1) := by decide +kernel
theorem dTL_road_15 : decode prog_1_method_2_code 15 = .ok (.iload_n 2, 1) := by decide +kernel
theorem dTL_road_16 : decode prog_1_method_2_code 16 = .ok (.if_icmp .eq 13, 3) := by decide +kernel
theorem dTL_road_19 : decode prog_1_method_2_code 19 = .ok (.iload_n 3, 1) := by decide +kernel
theorem dTL_road_20 : decode prog_1_method_2_code 20 = .ok (.iconst 0, 1) := by decide +kernel
theorem dTL_road_21 : decode prog_1_method_2_code 21 = .ok (.bipush 30, 2) := by decide +kernel
theorem dTL_road_23 : decode prog_1_method_2_code 23 = .ok (.invokestatic 80, 3) := by decide +kernel
theorem dTL_road_26 : decode prog_1_method_2_code 26 = .ok (.ifCond .ne 5, 3) := by decide +kernel
theorem dTL_road_29 : decode prog_1_method_2_code 29 = .ok (.iconst 0, 1) := by decide +kernel
theorem dTL_road_30 : decode prog_1_method_2_code 30 = .ok (.ireturn, 1) := by decide +kernel
theorem dTL_road_31 : decode prog_1_method_2_code 31 = .ok (.aload_n 0, 1) := by decide +kernel
theorem dTL_road_32 : decode prog_1_method_2_code 32 = .ok (.getfield 12, 3) := by decide +kernel
theorem dTL_road_35 : decode prog_1_method_2_code 35 = .ok (.iload_n 1, 1) := by decide +kernel
theorem dTL_road_36 : decode prog_1_method_2_code 36 = .ok (.iload_n 2, 1) := by decide +kernel
theorem dTL_road_37 : decode prog_1_method_2_code 37 = .ok (.iload_n 3, 1) := by decide +kernel
theorem dTL_road_38 : decode prog_1_method_2_code 38 = .ok (.invokevirtual 84, 3) := by decide +kernel
theorem dTL_road_41 : decode prog_1_method_2_code 41 = .ok (.iconst 1, 1) := by decide +kernel
theorem dTL_road_42 : decode prog_1_method_2_code 42 = .ok (.ireturn, 1) := by decide +kernel
theorem dRo_nearestOpen_0 : decode prog_7_method_4_code 0 = .ok (.iconst (-1), 1) := by decide +kernel
theorem dRo_nearestOpen_1 : decode prog_7_method_4_code 1 = .ok (.istore_n 1, 1) := by decide +kernel
theorem dRo_nearestOpen_2 : decode prog_7_method_4_code 2 = .ok (.ldc 21, 2) := by decide +kernel
theorem dRo_nearestOpen_4 : decode prog_7_method_4_code 4 = .ok (.istore_n 2, 1) := by decide +kernel
theorem dRo_nearestOpen_5 : decode prog_7_method_4_code 5 = .ok (.iconst 0, 1) := by decide +kernel
theorem dRo_nearestOpen_6 : decode prog_7_method_4_code 6 = .ok (.istore_n 3, 1) := by decide +kernel
theorem dRo_nearestOpen_7 : decode prog_7_method_4_code 7 = .ok (.iload_n 3, 1) := by decide +kernel
theorem dRo_nearestOpen_8 : decode prog_7_method_4_code 8 = .ok (.bipush 16, 2) := by decide +kernel
theorem dRo_nearestOpen_10 : decode prog_7_method_4_code 10 = .ok (.if_icmp .ge 37, 3) := by decide +kernel
theorem dRo_nearestOpen_13 : decode prog_7_method_4_code 13 = .ok (.aload_n 0, 1) := by decide +kernel
theorem dRo_nearestOpen_14 : decode prog_7_method_4_code 14 = .ok (.getfield 18, 3) := by decide +kernel
theorem dRo_nearestOpen_17 : decode prog_7_method_4_code 17 = .ok (.iload_n 3, 1) := by decide +kernel
theorem dRo_nearestOpen_18 : decode prog_7_method_4_code 18 = .ok (.iaload, 1) := by decide +kernel
theorem dRo_nearestOpen_19 : decode prog_7_method_4_code 19 = .ok (.ifCond .ne 22, 3) := by decide +kernel
theorem dRo_nearestOpen_22 : decode prog_7_method_4_code 22 = .ok (.aload_n 0, 1) := by decide +kernel
theorem dRo_nearestOpen_23 : decode prog_7_method_4_code 23 = .ok (.getfield 15, 3) := by decide +kernel
theorem dRo_nearestOpen_26 : decode prog_7_method_4_code 26 = .ok (.iload_n 3, 1) := by decide +kernel
theorem dRo_nearestOpen_27 : decode prog_7_method_4_code 27 = .ok (.iaload, 1) := by decide +kernel
theorem dRo_nearestOpen_28 : decode prog_7_method_4_code 28 = .ok (.iload_n 2, 1) := by decide +kernel
theorem dRo_nearestOpen_29 : decode prog_7_method_4_code 29 = .ok (.if_icmp .ge 12, 3) := by decide +kernel
theorem dRo_nearestOpen_32 : decode prog_7_method_4_code 32 = .ok (.iload_n 3, 1) := by decide +kernel
theorem dRo_nearestOpen_33 : decode prog_7_method_4_code 33 = .ok (.istore_n 1, 1) := by decide +kernel
theorem dRo_nearestOpen_34 : decode prog_7_method_4_code 34 = .ok (.aload_n 0, 1) := by decide +kernel
theorem dRo_nearestOpen_35 : decode prog_7_method_4_code 35 = .ok (.getfield 15, 3) := by decide +kernel
theorem dRo_nearestOpen_38 : decode prog_7_method_4_code 38 = .ok (.iload_n 3, 1) := by decide +kernel
theorem dRo_nearestOpen_39 : decode prog_7_method_4_code 39 = .ok (.iaload, 1) := by decide +kernel
theorem dRo_nearestOpen_40 : decode prog_7_method_4_code 40 = .ok (.istore_n 2, 1) := by decide +kernel
theorem dRo_nearestOpen_41 : decode prog_7_method_4_code 41 = .ok (.iinc 3 1, 3) := by decide +kernel
theorem dRo_nearestOpen_44 : decode prog_7_method_4_code 44 = .ok (.goto (-37), 3) := by decide +kernel
theorem dRo_nearestOpen_47 : decode prog_7_method_4_code 47 = .ok (.iload_n 1, 1) := by decide +kernel
theorem dRo_nearestOpen_48 : decode prog_7_method_4_code 48 = .ok (.ireturn, 1) := by decide +kernel
theorem dRo_reachOnFrom_0 : decode prog_7_method_5_code 0 = .ok (.iconst 0, 1) := by decide +kernel
theorem dRo_reachOnFrom_1 : decode prog_7_method_5_code 1 = .ok (.istore_n 2, 1) := by decide +kernel
theorem dRo_reachOnFrom_2 : decode prog_7_method_5_code 2 = .ok (.iload_n 2, 1) := by decide +kernel
theorem dRo_reachOnFrom_3 : decode prog_7_method_5_code 3 = .ok (.bipush 16, 2) := by decide +kernel
theorem dRo_reachOnFrom_5 : decode prog_7_method_5_code 5 = .ok (.if_icmp .ge 48, 3) := by decide +kernel
theorem dRo_reachOnFrom_8 : decode prog_7_method_5_code 8 = .ok (.aload_n 0, 1) := by decide +kernel
theorem dRo_reachOnFrom_9 : decode prog_7_method_5_code 9 = .ok (.getfield 9, 3) := by decide +kernel
theorem dRo_reachOnFrom_12 : decode prog_7_method_5_code 12 = .ok (.iload_n 1, 1) := by decide +kernel
theorem dRo_reachOnFrom_13 : decode prog_7_method_5_code 13 = .ok (.bipush 16, 2) := by decide +kernel
theorem dRo_reachOnFrom_15 : decode prog_7_method_5_code 15 = .ok (.imul, 1) := by decide +kernel
theorem dRo_reachOnFrom_16 : decode prog_7_method_5_code 16 = .ok (.iload_n 2, 1) := by decide +kernel
theorem dRo_reachOnFrom_17 : decode prog_7_method_5_code 17 = .ok (.iadd, 1) := by decide +kernel
theorem dRo_reachOnFrom_18 : decode prog_7_method_5_code 18 = .ok (.iaload, 1) := by decide +kernel
theorem dRo_reachOnFrom_19 : decode prog_7_method_5_code 19 = .ok (.istore_n 3, 1) := by decide +kernel
theorem dRo_reachOnFrom_20 : decode prog_7_method_5_code 20 = .ok (.iload_n 3, 1) := by decide +kernel
theorem dRo_reachOnFrom_21 : decode prog_7_method_5_code 21 = .ok (.ifCond .le 26, 3) := by decide +kernel
theorem dRo_reachOnFrom_24 : decode prog_7_method_5_code 24 = .ok (.aload_n 0, 1) := by decide +kernel
theorem dRo_reachOnFrom_25 : decode prog_7_method_5_code 25 = .ok (.getfield 15, 3) := by decide +kernel
theorem dRo_reachOnFrom_28 : decode prog_7_method_5_code 28 = .ok (.iload_n 2, 1) := by decide +kernel
theorem dRo_reachOnFrom_29 : decode prog_7_method_5_code 29 = .ok (.aload_n 0, 1) := by decide +kernel
theorem dRo_reachOnFrom_30 : decode prog_7_method_5_code 30 = .ok (.getfield 15, 3) := by decide +kernel
theorem dRo_reachOnFrom_33 : decode prog_7_method_5_code 33 = .ok (.iload_n 2, 1) := by decide +kernel
theorem dRo_reachOnFrom_34 : decode prog_7_method_5_code 34 = .ok (.iaload, 1) := by decide +kernel
theorem dRo_reachOnFrom_35 : decode prog_7_method_5_code 35 = .ok (.aload_n 0, 1) := by decide +kernel
theorem dRo_reachOnFrom_36 : decode prog_7_method_5_code 36 = .ok (.getfield 15, 3) := by decide +kernel
theorem dRo_reachOnFrom_39 : decode prog_7_method_5_code 39 = .ok (.iload_n 1, 1) := by decide +kernel
theorem dRo_reachOnFrom_40 : decode prog_7_method_5_code 40 = .ok (.iaload, 1) := by decide +kernel
theorem dRo_reachOnFrom_41 : decode prog_7_method_5_code 41 = .ok (.iload_n 3, 1) := by decide +kernel
theorem dRo_reachOnFrom_42 : decode prog_7_method_5_code 42 = .ok (.iadd, 1) := by decide +kernel
theorem dRo_reachOnFrom_43 : decode prog_7_method_5_code 43 = .ok (.invokestatic 36, 3) := by decide +kernel
theorem dRo_reachOnFrom_46 : decode prog_7_method_5_code 46 = .ok (.iastore, 1) := by decide +kernel
theorem dRo_reachOnFrom_47 : decode prog_7_method_5_code 47 = .ok (.iinc 2 1, 3) := by decide +kernel
theorem dRo_reachOnFrom_50 : decode prog_7_method_5_code 50 = .ok (.goto (-48), 3) := by decide +kernel
theorem dRo_reachOnFrom_53 : decode prog_7_method_5_code 53 = .ok (.return_, 1) := by decide +kernel
theorem dRo_leastDays_0 : decode prog_7_method_3_code 0 = .ok (.aload_n 0, 1) := by decide +kernel
theorem dRo_leastDays_1 : decode prog_7_method_3_code 1 = .ok (.getfield 15, 3) := by decide +kernel
theorem dRo_leastDays_4 : decode prog_7_method_3_code 4 = .ok (.ldc 21, 2) := by decide +kernel
theorem dRo_leastDays_6 : decode prog_7_method_3_code 6 = .ok (.invokestatic 22, 3) := by decide +kernel
theorem dRo_leastDays_9 : decode prog_7_method_3_code 9 = .ok (.aload_n 0, 1) := by decide +kernel
theorem dRo_leastDays_10 : decode prog_7_method_3_code 10 = .ok (.getfield 18, 3) := by decide +kernel
theorem dRo_leastDays_13 : decode prog_7_method_3_code 13 = .ok (.iconst 0, 1) := by decide +kernel
theorem dRo_leastDays_14 : decode prog_7_method_3_code 14 = .ok (.invokestatic 22, 3) := by decide +kernel
theorem dRo_leastDays_17 : decode prog_7_method_3_code 17 = .ok (.aload_n 0, 1) := by decide +kernel
theorem dRo_leastDays_18 : decode prog_7_method_3_code 18 = .ok (.getfield 15, 3) := by decide +kernel
theorem dRo_leastDays_21 : decode prog_7_method_3_code 21 = .ok (.iload_n 1, 1) := by decide +kernel
theorem dRo_leastDays_22 : decode prog_7_method_3_code 22 = .ok (.iconst 0, 1) := by decide +kernel
theorem dRo_leastDays_23 : decode prog_7_method_3_code 23 = .ok (.iastore, 1) := by decide +kernel
theorem dRo_leastDays_24 : decode prog_7_method_3_code 24 = .ok (.iconst 0, 1) := by decide +kernel
theorem dRo_leastDays_25 : decode prog_7_method_3_code 25 = .ok (.istore_n 3, 1) := by decide +kernel
theorem dRo_leastDays_26 : decode prog_7_method_3_code 26 = .ok (.iload_n 3, 1) := by decide +kernel
theorem dRo_leastDays_27 : decode prog_7_method_3_code 27 = .ok (.bipush 16, 2) := by decide +kernel
theorem dRo_leastDays_29 : decode prog_7_method_3_code 29 = .ok (.if_icmp .ge 44, 3) := by decide +kernel
theorem dRo_leastDays_32 : decode prog_7_method_3_code 32 = .ok (.aload_n 0, 1) := by decide +kernel
theorem dRo_leastDays_33 : decode prog_7_method_3_code 33 = .ok (.invokevirtual 28, 3) := by decide +kernel
theorem dRo_leastDays_36 : decode prog_7_method_3_code 36 = .ok (.istore 4, 2) := by decide +kernel
theorem dRo_leastDays_38 : decode prog_7_method_3_code 38 = .ok (.iload 4, 2) := by decide +kernel
theorem dRo_leastDays_40 : decode prog_7_method_3_code 40 = .ok (.iconst (-1), 1) := by decide +kernel
theorem dRo_leastDays_41 : decode prog_7_method_3_code 41 = .ok (.if_icmp .eq 32, 3) := by decide +kernel
theorem dRo_leastDays_44 : decode prog_7_method_3_code 44 = .ok (.iload 4, 2) := by decide +kernel
theorem dRo_leastDays_46 : decode prog_7_method_3_code 46 = .ok (.iload_n 2, 1) := by decide +kernel
theorem dRo_leastDays_47 : decode prog_7_method_3_code 47 = .ok (.if_icmp .ne 6, 3) := by decide +kernel
theorem dRo_leastDays_50 : decode prog_7_method_3_code 50 = .ok (.goto 23, 3) := by decide +kernel
theorem dRo_leastDays_53 : decode prog_7_method_3_code 53 = .ok (.aload_n 0, 1) := by decide +kernel
theorem dRo_leastDays_54 : decode prog_7_method_3_code 54 = .ok (.getfield 18, 3) := by decide +kernel
theorem dRo_leastDays_57 : decode prog_7_method_3_code 57 = .ok (.iload 4, 2) := by decide +kernel
theorem dRo_leastDays_59 : decode prog_7_method_3_code 59 = .ok (.iconst 1, 1) := by decide +kernel
theorem dRo_leastDays_60 : decode prog_7_method_3_code 60 = .ok (.iastore, 1) := by decide +kernel
theorem dRo_leastDays_61 : decode prog_7_method_3_code 61 = .ok (.aload_n 0, 1) := by decide +kernel
theorem dRo_leastDays_62 : decode prog_7_method_3_code 62 = .ok (.iload 4, 2) := by decide +kernel
theorem dRo_leastDays_64 : decode prog_7_method_3_code 64 = .ok (.invokevirtual 32, 3) := by decide +kernel
theorem dRo_leastDays_67 : decode prog_7_method_3_code 67 = .ok (.iinc 3 1, 3) := by decide +kernel
theorem dRo_leastDays_70 : decode prog_7_method_3_code 70 = .ok (.goto (-44), 3) := by decide +kernel
theorem dRo_leastDays_73 : decode prog_7_method_3_code 73 = .ok (.aload_n 0, 1) := by decide +kernel
theorem dRo_leastDays_74 : decode prog_7_method_3_code 74 = .ok (.getfield 15, 3) := by decide +kernel
theorem dRo_leastDays_77 : decode prog_7_method_3_code 77 = .ok (.iload_n 2, 1) := by decide +kernel
theorem dRo_leastDays_78 : decode prog_7_method_3_code 78 = .ok (.iaload, 1) := by decide +kernel
theorem dRo_leastDays_79 : decode prog_7_method_3_code 79 = .ok (.ldc 21, 2) := by decide +kernel
theorem dRo_leastDays_81 : decode prog_7_method_3_code 81 = .ok (.if_icmp .ge 12, 3) := by decide +kernel
theorem dRo_leastDays_84 : decode prog_7_method_3_code 84 = .ok (.aload_n 0, 1) := by decide +kernel
theorem dRo_leastDays_85 : decode prog_7_method_3_code 85 = .ok (.getfield 15, 3) := by decide +kernel
theorem dRo_leastDays_88 : decode prog_7_method_3_code 88 = .ok (.iload_n 2, 1) := by decide +kernel
theorem dRo_leastDays_89 : decode prog_7_method_3_code 89 = .ok (.iaload, 1) := by decide +kernel
theorem dRo_leastDays_90 : decode prog_7_method_3_code 90 = .ok (.goto 4, 3) := by decide +kernel
theorem dRo_leastDays_93 : decode prog_7_method_3_code 93 = .ok (.iconst (-1), 1) := by decide +kernel
theorem dRo_leastDays_94 : decode prog_7_method_3_code 94 = .ok (.ireturn, 1) := by decide +kernel
theorem dTL_way_0 : decode prog_1_method_3_code 0 = .ok (.iload_n 1, 1) := by decide +kernel
theorem dTL_way_1 : decode prog_1_method_3_code 1 = .ok (.invokestatic 76, 3) := by decide +kernel
theorem dTL_way_4 : decode prog_1_method_3_code 4 = .ok (.ifCond .eq 22, 3) := by decide +kernel
theorem dTL_way_7 : decode prog_1_method_3_code 7 = .ok (.iload_n 2, 1) := by decide +kernel
theorem dTL_way_8 : decode prog_1_method_3_code 8 = .ok (.invokestatic 76, 3) := by decide +kernel
theorem dTL_way_11 : decode prog_1_method_3_code 11 = .ok (.ifCond .eq 15, 3) := by decide +kernel
theorem dTL_way_14 : decode prog_1_method_3_code 14 = .ok (.aload_n 0, 1) := by decide +kernel
theorem dTL_way_15 : decode prog_1_method_3_code 15 = .ok (.getfield 12, 3) := by decide +kernel
theorem dTL_way_18 : decode prog_1_method_3_code 18 = .ok (.iload_n 1, 1) := by decide +kernel
theorem dTL_way_19 : decode prog_1_method_3_code 19 = .ok (.iload_n 2, 1) := by decide +kernel
theorem dTL_way_20 : decode prog_1_method_3_code 20 = .ok (.invokevirtual 88, 3) := by decide +kernel
theorem dTL_way_23 : decode prog_1_method_3_code 23 = .ok (.goto 4, 3) := by decide +kernel
theorem dTL_way_26 : decode prog_1_method_3_code 26 = .ok (.iconst (-1), 1) := by decide +kernel
theorem dTL_way_27 : decode prog_1_method_3_code 27 = .ok (.ireturn, 1) := by decide +kernel
theorem dPo_setLoad_0 : decode prog_6_method_2_code 0 = .ok (.iload_n 1, 1) := by decide +kernel
theorem dPo_setLoad_1 : decode prog_6_method_2_code 1 = .ok (.iconst 1, 1) := by decide +kernel
theorem dPo_setLoad_2 : decode prog_6_method_2_code 2 = .ok (.bipush 100, 2) := by decide +kernel
theorem dPo_setLoad_4 : decode prog_6_method_2_code 4 = .ok (.invokestatic 25, 3) := by decide +kernel
theorem dPo_setLoad_7 : decode prog_6_method_2_code 7 = .ok (.ifCond .ne 5, 3) := by decide +kernel
theorem dPo_setLoad_10 : decode prog_6_method_2_code 10 = .ok (.iconst 0, 1) := by decide +kernel
theorem dPo_setLoad_11 : decode prog_6_method_2_code 11 = .ok (.ireturn, 1) := by decide +kernel
theorem dPo_setLoad_12 : decode prog_6_method_2_code 12 = .ok (.aload_n 0, 1) := by decide +kernel
theorem dPo_setLoad_13 : decode prog_6_method_2_code 13 = .ok (.iload_n 1, 1) := by decide +kernel
theorem dPo_setLoad_14 : decode prog_6_method_2_code 14 = .ok (.putfield 15, 3) := by decide +kernel
theorem dPo_setLoad_17 : decode prog_6_method_2_code 17 = .ok (.iconst 1, 1) := by decide +kernel
theorem dPo_setLoad_18 : decode prog_6_method_2_code 18 = .ok (.ireturn, 1) := by decide +kernel
theorem dTL_isGood_0 : decode prog_1_method_31_code 0 = .ok (.iload_n 0, 1) := by decide +kernel
theorem dTL_isGood_1 : decode prog_1_method_31_code 1 = .ok (.iconst 0, 1) := by decide +kernel
theorem dTL_isGood_2 : decode prog_1_method_31_code 2 = .ok (.iconst 5, 1) := by decide +kernel
theorem dTL_isGood_3 : decode prog_1_method_31_code 3 = .ok (.invokestatic 80, 3) := by decide +kernel
theorem dTL_isGood_6 : decode prog_1_method_31_code 6 = .ok (.ireturn, 1) := by decide +kernel
theorem dPo_setWeight_0 : decode prog_6_method_3_code 0 = .ok (.iload_n 2, 1) := by decide +kernel
theorem dPo_setWeight_1 : decode prog_6_method_3_code 1 = .ok (.iconst 1, 1) := by decide +kernel
theorem dPo_setWeight_2 : decode prog_6_method_3_code 2 = .ok (.bipush 50, 2) := by decide +kernel
theorem dPo_setWeight_4 : decode prog_6_method_3_code 4 = .ok (.invokestatic 25, 3) := by decide +kernel
theorem dPo_setWeight_7 : decode prog_6_method_3_code 7 = .ok (.ifCond .ne 5, 3) := by decide +kernel
theorem dPo_setWeight_10 : decode prog_6_method_3_code 10 = .ok (.iconst 0, 1) := by decide +kernel
theorem dPo_setWeight_11 : decode prog_6_method_3_code 11 = .ok (.ireturn, 1) := by decide +kernel
theorem dPo_setWeight_12 : decode prog_6_method_3_code 12 = .ok (.aload_n 0, 1) := by decide +kernel
theorem dPo_setWeight_13 : decode prog_6_method_3_code 13 = .ok (.getfield 9, 3) := by decide +kernel
theorem dPo_setWeight_16 : decode prog_6_method_3_code 16 = .ok (.iload_n 1, 1) := by decide +kernel
theorem dPo_setWeight_17 : decode prog_6_method_3_code 17 = .ok (.iload_n 2, 1) := by decide +kernel
theorem dPo_setWeight_18 : decode prog_6_method_3_code 18 = .ok (.iastore, 1) := by decide +kernel
theorem dPo_setWeight_19 : decode prog_6_method_3_code 19 = .ok (.iconst 1, 1) := by decide +kernel
theorem dPo_setWeight_20 : decode prog_6_method_3_code 20 = .ok (.ireturn, 1) := by decide +kernel
theorem dTL_weight_0 : decode prog_1_method_4_code 0 = .ok (.iload_n 1, 1) := by decide +kernel
theorem dTL_weight_1 : decode prog_1_method_4_code 1 = .ok (.iconst (-1), 1) := by decide +kernel
theorem dTL_weight_2 : decode prog_1_method_4_code 2 = .ok (.if_icmp .ne 12, 3) := by decide +kernel
theorem dTL_weight_5 : decode prog_1_method_4_code 5 = .ok (.aload_n 0, 1) := by decide +kernel
theorem dTL_weight_6 : decode prog_1_method_4_code 6 = .ok (.getfield 19, 3) := by decide +kernel
theorem dTL_weight_9 : decode prog_1_method_4_code 9 = .ok (.iload_n 2, 1) := by decide +kernel
theorem dTL_weight_10 : decode prog_1_method_4_code 10 = .ok (.invokevirtual 92, 3) := by decide +kernel
theorem dTL_weight_13 : decode prog_1_method_4_code 13 = .ok (.ireturn, 1) := by decide +kernel
theorem dTL_weight_14 : decode prog_1_method_4_code 14 = .ok (.iload_n 1, 1) := by decide +kernel
theorem dTL_weight_15 : decode prog_1_method_4_code 15 = .ok (.invokestatic 95, 3) := by decide +kernel
theorem dTL_weight_18 : decode prog_1_method_4_code 18 = .ok (.ifCond .eq 19, 3) := by decide +kernel
theorem dTL_weight_21 : decode prog_1_method_4_code 21 = .ok (.aload_n 0, 1) := by decide +kernel
theorem dTL_weight_22 : decode prog_1_method_4_code 22 = .ok (.getfield 19, 3) := by decide +kernel
theorem dTL_weight_25 : decode prog_1_method_4_code 25 = .ok (.iload_n 1, 1) := by decide +kernel
theorem dTL_weight_26 : decode prog_1_method_4_code 26 = .ok (.iload_n 2, 1) := by decide +kernel
theorem dTL_weight_27 : decode prog_1_method_4_code 27 = .ok (.invokevirtual 98, 3) := by decide +kernel
theorem dTL_weight_30 : decode prog_1_method_4_code 30 = .ok (.ifCond .eq 7, 3) := by decide +kernel
theorem dTL_weight_33 : decode prog_1_method_4_code 33 = .ok (.iconst 1, 1) := by decide +kernel
theorem dTL_weight_34 : decode prog_1_method_4_code 34 = .ok (.goto 4, 3) := by decide +kernel
theorem dTL_weight_37 : decode prog_1_method_4_code 37 = .ok (.iconst 0, 1) := by decide +kernel
theorem dTL_weight_38 : decode prog_1_method_4_code 38 = .ok (.ireturn, 1) := by decide +kernel
theorem dPo_piecesEach_0 : decode prog_6_method_7_code 0 = .ok (.iconst 1, 1) := by decide +kernel
theorem dPo_piecesEach_1 : decode prog_6_method_7_code 1 = .ok (.aload_n 0, 1) := by decide +kernel
theorem dPo_piecesEach_2 : decode prog_6_method_7_code 2 = .ok (.getfield 9, 3) := by decide +kernel
theorem dPo_piecesEach_5 : decode prog_6_method_7_code 5 = .ok (.iload_n 1, 1) := by decide +kernel
theorem dPo_piecesEach_6 : decode prog_6_method_7_code 6 = .ok (.iaload, 1) := by decide +kernel
theorem dPo_piecesEach_7 : decode prog_6_method_7_code 7 = .ok (.invokestatic 33, 3) := by decide +kernel
theorem dPo_piecesEach_10 : decode prog_6_method_7_code 10 = .ok (.istore_n 2, 1) := by decide +kernel
theorem dPo_piecesEach_11 : decode prog_6_method_7_code 11 = .ok (.iconst 1, 1) := by decide +kernel
theorem dPo_piecesEach_12 : decode prog_6_method_7_code 12 = .ok (.aload_n 0, 1) := by decide +kernel
theorem dPo_piecesEach_13 : decode prog_6_method_7_code 13 = .ok (.getfield 15, 3) := by decide +kernel
theorem dPo_piecesEach_16 : decode prog_6_method_7_code 16 = .ok (.iload_n 2, 1) := by decide +kernel
theorem dPo_piecesEach_17 : decode prog_6_method_7_code 17 = .ok (.idiv, 1) := by decide +kernel
theorem dPo_piecesEach_18 : decode prog_6_method_7_code 18 = .ok (.invokestatic 33, 3) := by decide +kernel
theorem dPo_piecesEach_21 : decode prog_6_method_7_code 21 = .ok (.ireturn, 1) := by decide +kernel
theorem dPo_needed_0 : decode prog_6_method_6_code 0 = .ok (.aload_n 0, 1) := by decide +kernel
theorem dPo_needed_1 : decode prog_6_method_6_code 1 = .ok (.iload_n 1, 1) := by decide +kernel
theorem dPo_needed_2 : decode prog_6_method_6_code 2 = .ok (.invokevirtual 29, 3) := by decide +kernel
theorem dPo_needed_5 : decode prog_6_method_6_code 5 = .ok (.istore_n 3, 1) := by decide +kernel
theorem dPo_needed_6 : decode prog_6_method_6_code 6 = .ok (.iload_n 2, 1) := by decide +kernel
theorem dPo_needed_7 : decode prog_6_method_6_code 7 = .ok (.iload_n 3, 1) := by decide +kernel
theorem dPo_needed_8 : decode prog_6_method_6_code 8 = .ok (.iadd, 1) := by decide +kernel
theorem dPo_needed_9 : decode prog_6_method_6_code 9 = .ok (.iconst 1, 1) := by decide +kernel
theorem dPo_needed_10 : decode prog_6_method_6_code 10 = .ok (.isub, 1) := by decide +kernel
theorem dPo_needed_11 : decode prog_6_method_6_code 11 = .ok (.iload_n 3, 1) := by decide +kernel
theorem dPo_needed_12 : decode prog_6_method_6_code 12 = .ok (.idiv, 1) := by decide +kernel
theorem dPo_needed_13 : decode prog_6_method_6_code 13 = .ok (.ireturn, 1) := by decide +kernel
theorem dTL_carriers_0 : decode prog_1_method_5_code 0 = .ok (.iload_n 1, 1) := by decide +kernel
theorem dTL_carriers_1 : decode prog_1_method_5_code 1 = .ok (.invokestatic 95, 3) := by decide +kernel
theorem dTL_carriers_4 : decode prog_1_method_5_code 4 = .ok (.ifCond .eq 26, 3) := by decide +kernel
theorem dTL_carriers_7 : decode prog_1_method_5_code 7 = .ok (.iload_n 2, 1) := by decide +kernel
theorem dTL_carriers_8 : decode prog_1_method_5_code 8 = .ok (.iconst 0, 1) := by decide +kernel
theorem dTL_carriers_9 : decode prog_1_method_5_code 9 = .ok (.sipush 9999, 3) := by decide +kernel
theorem dTL_carriers_12 : decode prog_1_method_5_code 12 = .ok (.invokestatic 80, 3) := by decide +kernel
theorem dTL_carriers_15 : decode prog_1_method_5_code 15 = .ok (.ifCond .eq 15, 3) := by decide +kernel
theorem dTL_carriers_18 : decode prog_1_method_5_code 18 = .ok (.aload_n 0, 1) := by decide +kernel
theorem dTL_carriers_19 : decode prog_1_method_5_code 19 = .ok (.getfield 19, 3) := by decide +kernel
theorem dTL_carriers_22 : decode prog_1_method_5_code 22 = .ok (.iload_n 1, 1) := by decide +kernel
theorem dTL_carriers_23 : decode prog_1_method_5_code 23 = .ok (.iload_n 2, 1) := by decide +kernel
theorem dTL_carriers_24 : decode prog_1_method_5_code 24 = .ok (.invokevirtual 102, 3) := by decide +kernel
theorem dTL_carriers_27 : decode prog_1_method_5_code 27 = .ok (.goto 4, 3) := by decide +kernel
theorem dTL_carriers_30 : decode prog_1_method_5_code 30 = .ok (.iconst (-1), 1) := by decide +kernel
theorem dTL_carriers_31 : decode prog_1_method_5_code 31 = .ok (.ireturn, 1) := by decide +kernel
theorem dTa_hasRoomForFive_0 : decode prog_10_method_2_code 0 = .ok (.aload_n 0, 1) := by decide +kernel
theorem dTa_hasRoomForFive_1 : decode prog_10_method_2_code 1 = .ok (.getfield 13, 3) := by decide +kernel
theorem dTa_hasRoomForFive_4 : decode prog_10_method_2_code 4 = .ok (.sipush 280, 3) := by decide +kernel
theorem dTa_hasRoomForFive_7 : decode prog_10_method_2_code 7 = .ok (.if_icmp .gt 7, 3) := by decide +kernel
theorem dTa_hasRoomForFive_10 : decode prog_10_method_2_code 10 = .ok (.iconst 1, 1) := by decide +kernel
theorem dTa_hasRoomForFive_11 : decode prog_10_method_2_code 11 = .ok (.goto 4, 3) := by decide +kernel
theorem dTa_hasRoomForFive_14 : decode prog_10_method_2_code 14 = .ok (.iconst 0, 1) := by decide +kernel
theorem dTa_hasRoomForFive_15 : decode prog_10_method_2_code 15 = .ok (.ireturn, 1) := by decide +kernel
theorem dTa_append_0 : decode prog_10_method_3_code 0 = .ok (.bipush 24, 2) := by decide +kernel
theorem dTa_append_2 : decode prog_10_method_3_code 2 = .ok (.istore_n 2, 1) := by decide +kernel
theorem dTa_append_3 : decode prog_10_method_3_code 3 = .ok (.iload_n 2, 1) := by decide +kernel
theorem dTa_append_4 : decode prog_10_method_3_code 4 = .ok (.ifCond .lt 42, 3) := by decide +kernel
theorem dTa_append_7 : decode prog_10_method_3_code 7 = .ok (.aload_n 0, 1) := by decide +kernel
theorem dTa_append_8 : decode prog_10_method_3_code 8 = .ok (.getfield 13, 3) := by decide +kernel
theorem dTa_append_11 : decode prog_10_method_3_code 11 = .ok (.sipush 300, 3) := by decide +kernel
theorem dTa_append_14 : decode prog_10_method_3_code 14 = .ok (.if_icmp .ge 32, 3) := by decide +kernel
theorem dTa_append_17 : decode prog_10_method_3_code 17 = .ok (.aload_n 0, 1) := by decide +kernel
theorem dTa_append_18 : decode prog_10_method_3_code 18 = .ok (.getfield 9, 3) := by decide +kernel
theorem dTa_append_21 : decode prog_10_method_3_code 21 = .ok (.aload_n 0, 1) := by decide +kernel
theorem dTa_append_22 : decode prog_10_method_3_code 22 = .ok (.getfield 13, 3) := by decide +kernel
theorem dTa_append_25 : decode prog_10_method_3_code 25 = .ok (.iload_n 1, 1) := by decide +kernel
theorem dTa_append_26 : decode prog_10_method_3_code 26 = .ok (.iload_n 2, 1) := by decide +kernel
theorem dTa_append_27 : decode prog_10_method_3_code 27 = .ok (.ishr, 1) := by decide +kernel
theorem dTa_append_28 : decode prog_10_method_3_code 28 = .ok (.i2b, 1) := by decide +kernel
theorem dTa_append_29 : decode prog_10_method_3_code 29 = .ok (.bastore, 1) := by decide +kernel
theorem dTa_append_30 : decode prog_10_method_3_code 30 = .ok (.aload_n 0, 1) := by decide +kernel
theorem dTa_append_31 : decode prog_10_method_3_code 31 = .ok (.dup, 1) := by decide +kernel
theorem dTa_append_32 : decode prog_10_method_3_code 32 = .ok (.getfield 13, 3) := by decide +kernel
theorem dTa_append_35 : decode prog_10_method_3_code 35 = .ok (.iconst 1, 1) := by decide +kernel
theorem dTa_append_36 : decode prog_10_method_3_code 36 = .ok (.iadd, 1) := by decide +kernel
theorem dTa_append_37 : decode prog_10_method_3_code 37 = .ok (.putfield 13, 3) := by decide +kernel
theorem dTa_append_40 : decode prog_10_method_3_code 40 = .ok (.iinc 2 (-8), 3) := by decide +kernel
theorem dTa_append_43 : decode prog_10_method_3_code 43 = .ok (.goto (-40), 3) := by decide +kernel
theorem dTa_append_46 : decode prog_10_method_3_code 46 = .ok (.return_, 1) := by decide +kernel
theorem dTa_size_0 : decode prog_10_method_5_code 0 = .ok (.aload_n 0, 1) := by decide +kernel
theorem dTa_size_1 : decode prog_10_method_5_code 1 = .ok (.getfield 13, 3) := by decide +kernel
theorem dTa_size_4 : decode prog_10_method_5_code 4 = .ok (.ireturn, 1) := by decide +kernel
theorem dTL_feed_0 : decode prog_1_method_6_code 0 = .ok (.aload_n 0, 1) := by decide +kernel
theorem dTL_feed_1 : decode prog_1_method_6_code 1 = .ok (.getfield 26, 3) := by decide +kernel
theorem dTL_feed_4 : decode prog_1_method_6_code 4 = .ok (.invokevirtual 105, 3) := by decide +kernel
theorem dTL_feed_7 : decode prog_1_method_6_code 7 = .ok (.ifCond .ne 5, 3) := by decide +kernel
theorem dTL_feed_10 : decode prog_1_method_6_code 10 = .ok (.iconst (-1), 1) := by decide +kernel
theorem dTL_feed_11 : decode prog_1_method_6_code 11 = .ok (.ireturn, 1) := by decide +kernel
theorem dTL_feed_12 : decode prog_1_method_6_code 12 = .ok (.aload_n 0, 1) := by decide +kernel
theorem dTL_feed_13 : decode prog_1_method_6_code 13 = .ok (.getfield 26, 3) := by decide +kernel
theorem dTL_feed_16 : decode prog_1_method_6_code 16 = .ok (.iload_n 1, 1) := by decide +kernel
theorem dTL_feed_17 : decode prog_1_method_6_code 17 = .ok (.invokevirtual 109, 3) := by decide +kernel
theorem dTL_feed_20 : decode prog_1_method_6_code 20 = .ok (.aload_n 0, 1) := by decide +kernel
theorem dTL_feed_21 : decode prog_1_method_6_code 21 = .ok (.getfield 26, 3) := by decide +kernel
theorem dTL_feed_24 : decode prog_1_method_6_code 24 = .ok (.iload_n 2, 1) := by decide +kernel
theorem dTL_feed_25 : decode prog_1_method_6_code 25 = .ok (.invokevirtual 109, 3) := by decide +kernel
theorem dTL_feed_28 : decode prog_1_method_6_code 28 = .ok (.aload_n 0, 1) := by decide +kernel
theorem dTL_feed_29 : decode prog_1_method_6_code 29 = .ok (.getfield 26, 3) := by decide +kernel
theorem dTL_feed_32 : decode prog_1_method_6_code 32 = .ok (.iload_n 3, 1) := by decide +kernel
theorem dTL_feed_33 : decode prog_1_method_6_code 33 = .ok (.invokevirtual 109, 3) := by decide +kernel
theorem dTL_feed_36 : decode prog_1_method_6_code 36 = .ok (.aload_n 0, 1) := by decide +kernel
theorem dTL_feed_37 : decode prog_1_method_6_code 37 = .ok (.getfield 26, 3) := by decide +kernel
theorem dTL_feed_40 : decode prog_1_method_6_code 40 = .ok (.iload 4, 2) := by decide +kernel
theorem dTL_feed_42 : decode prog_1_method_6_code 42 = .ok (.invokevirtual 109, 3) := by decide +kernel
theorem dTL_feed_45 : decode prog_1_method_6_code 45 = .ok (.aload_n 0, 1) := by decide +kernel
theorem dTL_feed_46 : decode prog_1_method_6_code 46 = .ok (.getfield 26, 3) := by decide +kernel
theorem dTL_feed_49 : decode prog_1_method_6_code 49 = .ok (.iload 5, 2) := by decide +kernel
theorem dTL_feed_51 : decode prog_1_method_6_code 51 = .ok (.invokevirtual 109, 3) := by decide +kernel
theorem dTL_feed_54 : decode prog_1_method_6_code 54 = .ok (.aload_n 0, 1) := by decide +kernel
theorem dTL_feed_55 : decode prog_1_method_6_code 55 = .ok (.getfield 26, 3) := by decide +kernel
theorem dTL_feed_58 : decode prog_1_method_6_code 58 = .ok (.invokevirtual 113, 3) := by decide +kernel
theorem dTL_feed_61 : decode prog_1_method_6_code 61 = .ok (.ireturn, 1) := by decide +kernel
theorem dTa_cut_0 : decode prog_10_method_4_code 0 = .ok (.aload_n 0, 1) := by decide +kernel
theorem dTa_cut_1 : decode prog_10_method_4_code 1 = .ok (.iload_n 1, 1) := by decide +kernel
theorem dTa_cut_2 : decode prog_10_method_4_code 2 = .ok (.putfield 13, 3) := by decide +kernel
theorem dTa_cut_5 : decode prog_10_method_4_code 5 = .ok (.return_, 1) := by decide +kernel
theorem dTL_end_0 : decode prog_1_method_7_code 0 = .ok (.iload_n 1, 1) := by decide +kernel
theorem dTL_end_1 : decode prog_1_method_7_code 1 = .ok (.iconst 0, 1) := by decide +kernel
theorem dTL_end_2 : decode prog_1_method_7_code 2 = .ok (.aload_n 0, 1) := by decide +kernel
theorem dTL_end_3 : decode prog_1_method_7_code 3 = .ok (.getfield 26, 3) := by decide +kernel
theorem dTL_end_6 : decode prog_1_method_7_code 6 = .ok (.invokevirtual 113, 3) := by decide +kernel
theorem dTL_end_9 : decode prog_1_method_7_code 9 = .ok (.invokestatic 80, 3) := by decide +kernel
theorem dTL_end_12 : decode prog_1_method_7_code 12 = .ok (.ifCond .ne 5, 3) := by decide +kernel
theorem dTL_end_15 : decode prog_1_method_7_code 15 = .ok (.iconst (-1), 1) := by decide +kernel
theorem dTL_end_16 : decode prog_1_method_7_code 16 = .ok (.ireturn, 1) := by decide +kernel
theorem dTL_end_17 : decode prog_1_method_7_code 17 = .ok (.aload_n 0, 1) := by decide +kernel
theorem dTL_end_18 : decode prog_1_method_7_code 18 = .ok (.getfield 26, 3) := by decide +kernel
theorem dTL_end_21 : decode prog_1_method_7_code 21 = .ok (.iload_n 1, 1) := by decide +kernel
theorem dTL_end_22 : decode prog_1_method_7_code 22 = .ok (.invokevirtual 117, 3) := by decide +kernel
theorem dTL_end_25 : decode prog_1_method_7_code 25 = .ok (.iload_n 1, 1) := by decide +kernel
theorem dTL_end_26 : decode prog_1_method_7_code 26 = .ok (.ireturn, 1) := by decide +kernel
theorem dTL_isCopy_0 : decode prog_1_method_32_code 0 = .ok (.iload_n 0, 1) := by decide +kernel
theorem dTL_isCopy_1 : decode prog_1_method_32_code 1 = .ok (.iconst 0, 1) := by decide +kernel
theorem dTL_isCopy_2 : decode prog_1_method_32_code 2 = .ok (.iconst 4, 1) := by decide +kernel
theorem dTL_isCopy_3 : decode prog_1_method_32_code 3 = .ok (.invokestatic 80, 3) := by decide +kernel
theorem dTL_isCopy_6 : decode prog_1_method_32_code 6 = .ok (.ireturn, 1) := by decide +kernel
theorem dLi_startAnew_0 : decode prog_4_method_7_code 0 = .ok (.aload_n 0, 1) := by decide +kernel
theorem dLi_startAnew_1 : decode prog_4_method_7_code 1 = .ok (.getfield 9, 3) := by decide +kernel
theorem dLi_startAnew_4 : decode prog_4_method_7_code 4 = .ok (.iconst (-1), 1) := by decide +kernel
theorem dLi_startAnew_5 : decode prog_4_method_7_code 5 = .ok (.invokestatic 51, 3) := by decide +kernel
theorem dLi_startAnew_8 : decode prog_4_method_7_code 8 = .ok (.aload_n 0, 1) := by decide +kernel
theorem dLi_startAnew_9 : decode prog_4_method_7_code 9 = .ok (.getfield 15, 3) := by decide +kernel
theorem dLi_startAnew_12 : decode prog_4_method_7_code 12 = .ok (.iconst 0, 1) := by decide +kernel
theorem dLi_startAnew_13 : decode prog_4_method_7_code 13 = .ok (.invokestatic 51, 3) := by decide +kernel
theorem dLi_startAnew_16 : decode prog_4_method_7_code 16 = .ok (.aload_n 0, 1) := by decide +kernel
theorem dLi_startAnew_17 : decode prog_4_method_7_code 17 = .ok (.iconst 0, 1) := by decide +kernel
theorem dLi_startAnew_18 : decode prog_4_method_7_code 18 = .ok (.putfield 57, 3) := by decide +kernel
theorem dLi_startAnew_21 : decode prog_4_method_7_code 21 = .ok (.aload_n 0, 1) := by decide +kernel
theorem dLi_startAnew_22 : decode prog_4_method_7_code 22 = .ok (.iconst 0, 1) := by decide +kernel
theorem dLi_startAnew_23 : decode prog_4_method_7_code 23 = .ok (.putfield 48, 3) := by decide +kernel
theorem dLi_startAnew_26 : decode prog_4_method_7_code 26 = .ok (.aload_n 0, 1) := by decide +kernel
theorem dLi_startAnew_27 : decode prog_4_method_7_code 27 = .ok (.iconst 0, 1) := by decide +kernel
theorem dLi_startAnew_28 : decode prog_4_method_7_code 28 = .ok (.putfield 60, 3) := by decide +kernel
theorem dLi_startAnew_31 : decode prog_4_method_7_code 31 = .ok (.aload_n 0, 1) := by decide +kernel
theorem dLi_startAnew_32 : decode prog_4_method_7_code 32 = .ok (.iconst 1, 1) := by decide +kernel
theorem dLi_startAnew_33 : decode prog_4_method_7_code 33 = .ok (.putfield 18, 3) := by decide +kernel
theorem dLi_startAnew_36 : decode prog_4_method_7_code 36 = .ok (.aload_n 0, 1) := by decide +kernel
theorem dLi_startAnew_37 : decode prog_4_method_7_code 37 = .ok (.iconst 0, 1) := by decide +kernel
theorem dLi_startAnew_38 : decode prog_4_method_7_code 38 = .ok (.putfield 22, 3) := by decide +kernel
theorem dLi_startAnew_41 : decode prog_4_method_7_code 41 = .ok (.aload_n 0, 1) := by decide +kernel
theorem dLi_startAnew_42 : decode prog_4_method_7_code 42 = .ok (.iconst (-1), 1) := by decide +kernel
theorem dLi_startAnew_43 : decode prog_4_method_7_code 43 = .ok (.putfield 26, 3) := by decide +kernel
theorem dLi_startAnew_46 : decode prog_4_method_7_code 46 = .ok (.return_, 1) := by decide +kernel
theorem dTa_at_0 : decode prog_10_method_6_code 0 = .ok (.aload_n 0, 1) := by decide +kernel
theorem dTa_at_1 : decode prog_10_method_6_code 1 = .ok (.getfield 9, 3) := by decide +kernel
theorem dTa_at_4 : decode prog_10_method_6_code 4 = .ok (.iload_n 1, 1) := by decide +kernel
theorem dTa_at_5 : decode prog_10_method_6_code 5 = .ok (.baload, 1) := by decide +kernel
theorem dTa_at_6 : decode prog_10_method_6_code 6 = .ok (.sipush 255, 3) := by decide +kernel
theorem dTa_at_9 : decode prog_10_method_6_code 9 = .ok (.iand, 1) := by decide +kernel
theorem dTa_at_10 : decode prog_10_method_6_code 10 = .ok (.ireturn, 1) := by decide +kernel
theorem dLi_isBlank_0 : decode prog_4_method_18_code 0 = .ok (.iload_n 0, 1) := by decide +kernel
theorem dLi_isBlank_1 : decode prog_4_method_18_code 1 = .ok (.bipush 32, 2) := by decide +kernel
theorem dLi_isBlank_3 : decode prog_4_method_18_code 3 = .ok (.if_icmp .eq 9, 3) := by decide +kernel
theorem dLi_isBlank_6 : decode prog_4_method_18_code 6 = .ok (.iload_n 0, 1) := by decide +kernel
theorem dLi_isBlank_7 : decode prog_4_method_18_code 7 = .ok (.bipush 10, 2) := by decide +kernel
theorem dLi_isBlank_9 : decode prog_4_method_18_code 9 = .ok (.if_icmp .ne 7, 3) := by decide +kernel
theorem dLi_isBlank_12 : decode prog_4_method_18_code 12 = .ok (.iconst 1, 1) := by decide +kernel
theorem dLi_isBlank_13 : decode prog_4_method_18_code 13 = .ok (.goto 4, 3) := by decide +kernel
theorem dLi_isBlank_16 : decode prog_4_method_18_code 16 = .ok (.iconst 0, 1) := by decide +kernel
theorem dLi_isBlank_17 : decode prog_4_method_18_code 17 = .ok (.ireturn, 1) := by decide +kernel
theorem dLi_isLetter_0 : decode prog_4_method_19_code 0 = .ok (.iload_n 0, 1) := by decide +kernel
theorem dLi_isLetter_1 : decode prog_4_method_19_code 1 = .ok (.bipush 97, 2) := by decide +kernel
theorem dLi_isLetter_3 : decode prog_4_method_19_code 3 = .ok (.bipush 122, 2) := by decide +kernel
theorem dLi_isLetter_5 : decode prog_4_method_19_code 5 = .ok (.invokestatic 142, 3) := by decide +kernel
theorem dLi_isLetter_8 : decode prog_4_method_19_code 8 = .ok (.ifCond .ne 14, 3) := by decide +kernel
theorem dLi_isLetter_11 : decode prog_4_method_19_code 11 = .ok (.iload_n 0, 1) := by decide +kernel
theorem dLi_isLetter_12 : decode prog_4_method_19_code 12 = .ok (.bipush 65, 2) := by decide +kernel
theorem dLi_isLetter_14 : decode prog_4_method_19_code 14 = .ok (.bipush 90, 2) := by decide +kernel
theorem dLi_isLetter_16 : decode prog_4_method_19_code 16 = .ok (.invokestatic 142, 3) := by decide +kernel
theorem dLi_isLetter_19 : decode prog_4_method_19_code 19 = .ok (.ifCond .eq 7, 3) := by decide +kernel
theorem dLi_isLetter_22 : decode prog_4_method_19_code 22 = .ok (.iconst 1, 1) := by decide +kernel
theorem dLi_isLetter_23 : decode prog_4_method_19_code 23 = .ok (.goto 4, 3) := by decide +kernel
theorem dLi_isLetter_26 : decode prog_4_method_19_code 26 = .ok (.iconst 0, 1) := by decide +kernel
theorem dLi_isLetter_27 : decode prog_4_method_19_code 27 = .ok (.ireturn, 1) := by decide +kernel
theorem dLi_takeLetters_0 : decode prog_4_method_9_code 0 = .ok (.iconst 1, 1) := by decide +kernel
theorem dLi_takeLetters_1 : decode prog_4_method_9_code 1 = .ok (.istore_n 2, 1) := by decide +kernel
theorem dLi_takeLetters_2 : decode prog_4_method_9_code 2 = .ok (.aload_n 0, 1) := by decide +kernel
theorem dLi_takeLetters_3 : decode prog_4_method_9_code 3 = .ok (.getfield 57, 3) := by decide +kernel
theorem dLi_takeLetters_6 : decode prog_4_method_9_code 6 = .ok (.aload_n 1, 1) := by decide +kernel
theorem dLi_takeLetters_7 : decode prog_4_method_9_code 7 = .ok (.invokevirtual 63, 3) := by decide +kernel
theorem dLi_takeLetters_10 : decode prog_4_method_9_code 10 = .ok (.if_icmp .ge 76, 3) := by decide +kernel
theorem dLi_takeLetters_13 : decode prog_4_method_9_code 13 = .ok (.aload_n 1, 1) := by decide +kernel
theorem dLi_takeLetters_14 : decode prog_4_method_9_code 14 = .ok (.aload_n 0, 1) := by decide +kernel
theorem dLi_takeLetters_15 : decode prog_4_method_9_code 15 = .ok (.getfield 57, 3) := by decide +kernel
theorem dLi_takeLetters_18 : decode prog_4_method_9_code 18 = .ok (.invokevirtual 66, 3) := by decide +kernel
theorem dLi_takeLetters_21 : decode prog_4_method_9_code 21 = .ok (.invokestatic 74, 3) := by decide +kernel
theorem dLi_takeLetters_24 : decode prog_4_method_9_code 24 = .ok (.ifCond .eq 62, 3) := by decide +kernel
theorem dLi_takeLetters_27 : decode prog_4_method_9_code 27 = .ok (.aload_n 0, 1) := by decide +kernel
theorem dLi_takeLetters_28 : decode prog_4_method_9_code 28 = .ok (.getfield 57, 3) := by decide +kernel
theorem dLi_takeLetters_31 : decode prog_4_method_9_code 31 = .ok (.aload_n 0, 1) := by decide +kernel
theorem dLi_takeLetters_32 : decode prog_4_method_9_code 32 = .ok (.getfield 42, 3) := by decide +kernel
theorem dLi_takeLetters_35 : decode prog_4_method_9_code 35 = .ok (.isub, 1) := by decide +kernel
theorem dLi_takeLetters_36 : decode prog_4_method_9_code 36 = .ok (.istore_n 3, 1) := by decide +kernel
theorem dLi_takeLetters_37 : decode prog_4_method_9_code 37 = .ok (.iload_n 2, 1) := by decide +kernel
theorem dLi_takeLetters_38 : decode prog_4_method_9_code 38 = .ok (.ifCond .eq 33, 3) := by decide +kernel
theorem dLi_takeLetters_41 : decode prog_4_method_9_code 41 = .ok (.iload_n 3, 1) := by decide +kernel
theorem dLi_takeLetters_42 : decode prog_4_method_9_code 42 = .ok (.ldc 89, 2) := by decide +kernel
theorem dLi_takeLetters_44 : decode prog_4_method_9_code 44 = .ok (.invokevirtual 91, 3) := by decide +kernel
theorem dLi_takeLetters_47 : decode prog_4_method_9_code 47 = .ok (.if_icmp .ge 24, 3) := by decide +kernel
theorem dLi_takeLetters_50 : decode prog_4_method_9_code 50 = .ok (.ldc 89, 2) := by decide +kernel
theorem dLi_takeLetters_52 : decode prog_4_method_9_code 52 = .ok (.iload_n 3, 1) := by decide +kernel
theorem dLi_takeLetters_53 : decode prog_4_method_9_code 53 = .ok (.invokevirtual 96, 3) := by decide +kernel
theorem dLi_takeLetters_56 : decode prog_4_method_9_code 56 = .ok (.aload_n 1, 1) := by decide +kernel
theorem dLi_takeLetters_57 : decode prog_4_method_9_code 57 = .ok (.aload_n 0, 1) := by decide +kernel
theorem dLi_takeLetters_58 : decode prog_4_method_9_code 58 = .ok (.getfield 57, 3) := by decide +kernel
theorem dLi_takeLetters_61 : decode prog_4_method_9_code 61 = .ok (.invokevirtual 66, 3) := by decide +kernel
theorem dLi_takeLetters_64 : decode prog_4_method_9_code 64 = .ok (.if_icmp .ne 7, 3) := by decide +kernel
theorem dLi_takeLetters_67 : decode prog_4_method_9_code 67 = .ok (.iconst 1, 1) := by decide +kernel
theorem dLi_takeLetters_68 : decode prog_4_method_9_code 68 = .ok (.goto 4, 3) := by decide +kernel
theorem dLi_takeLetters_71 : decode prog_4_method_9_code 71 = .ok (.iconst 0, 1) := by decide +kernel
theorem dLi_takeLetters_72 : decode prog_4_method_9_code 72 = .ok (.istore_n 2, 1) := by decide +kernel
theorem dLi_takeLetters_73 : decode prog_4_method_9_code 73 = .ok (.aload_n 0, 1) := by decide +kernel
theorem dLi_takeLetters_74 : decode prog_4_method_9_code 74 = .ok (.dup, 1) := by decide +kernel
theorem dLi_takeLetters_75 : decode prog_4_method_9_code 75 = .ok (.getfield 57, 3) := by decide +kernel
theorem dLi_takeLetters_78 : decode prog_4_method_9_code 78 = .ok (.iconst 1, 1) := by decide +kernel
theorem dLi_takeLetters_79 : decode prog_4_method_9_code 79 = .ok (.iadd, 1) := by decide +kernel
theorem dLi_takeLetters_80 : decode prog_4_method_9_code 80 = .ok (.putfield 57, 3) := by decide +kernel
theorem dLi_takeLetters_83 : decode prog_4_method_9_code 83 = .ok (.goto (-81), 3) := by decide +kernel
theorem dLi_takeLetters_86 : decode prog_4_method_9_code 86 = .ok (.aload_n 0, 1) := by decide +kernel
theorem dLi_takeLetters_87 : decode prog_4_method_9_code 87 = .ok (.iload_n 2, 1) := by decide +kernel
theorem dLi_takeLetters_88 : decode prog_4_method_9_code 88 = .ok (.ifCond .eq 25, 3) := by decide +kernel
theorem dLi_takeLetters_91 : decode prog_4_method_9_code 91 = .ok (.aload_n 0, 1) := by decide +kernel
theorem dLi_takeLetters_92 : decode prog_4_method_9_code 92 = .ok (.getfield 57, 3) := by decide +kernel
theorem dLi_takeLetters_95 : decode prog_4_method_9_code 95 = .ok (.aload_n 0, 1) := by decide +kernel
theorem dLi_takeLetters_96 : decode prog_4_method_9_code 96 = .ok (.getfield 42, 3) := by decide +kernel
theorem dLi_takeLetters_99 : decode prog_4_method_9_code 99 = .ok (.isub, 1) := by decide +kernel
theorem dLi_takeLetters_100 : decode prog_4_method_9_code 100 = .ok (.ldc 89, 2) := by decide +kernel
theorem dLi_takeLetters_102 : decode prog_4_method_9_code 102 = .ok (.invokevirtual 91, 3) := by decide +kernel
theorem dLi_takeLetters_105 : decode prog_4_method_9_code 105 = .ok (.if_icmp .ne 8, 3) := by decide +kernel
theorem dLi_takeLetters_108 : decode prog_4_method_9_code 108 = .ok (.bipush (-2), 2) := by decide +kernel
theorem dLi_takeLetters_110 : decode prog_4_method_9_code 110 = .ok (.goto 5, 3) := by decide +kernel
theorem dLi_takeLetters_113 : decode prog_4_method_9_code 113 = .ok (.bipush (-4), 2) := by decide +kernel
theorem dLi_takeLetters_115 : decode prog_4_method_9_code 115 = .ok (.putfield 45, 3) := by decide +kernel
theorem dLi_takeLetters_118 : decode prog_4_method_9_code 118 = .ok (.return_, 1) := by decide +kernel
theorem dLi_isDigit_0 : decode prog_4_method_20_code 0 = .ok (.iload_n 0, 1) := by decide +kernel
theorem dLi_isDigit_1 : decode prog_4_method_20_code 1 = .ok (.bipush 48, 2) := by decide +kernel
theorem dLi_isDigit_3 : decode prog_4_method_20_code 3 = .ok (.bipush 57, 2) := by decide +kernel
theorem dLi_isDigit_5 : decode prog_4_method_20_code 5 = .ok (.invokestatic 142, 3) := by decide +kernel
theorem dLi_isDigit_8 : decode prog_4_method_20_code 8 = .ok (.ireturn, 1) := by decide +kernel
theorem dLi_takeDigits_0 : decode prog_4_method_10_code 0 = .ok (.aload_n 0, 1) := by decide +kernel
theorem dLi_takeDigits_1 : decode prog_4_method_10_code 1 = .ok (.iconst 0, 1) := by decide +kernel
theorem dLi_takeDigits_2 : decode prog_4_method_10_code 2 = .ok (.putfield 100, 3) := by decide +kernel
theorem dLi_takeDigits_5 : decode prog_4_method_10_code 5 = .ok (.aload_n 0, 1) := by decide +kernel
theorem dLi_takeDigits_6 : decode prog_4_method_10_code 6 = .ok (.getfield 57, 3) := by decide +kernel
theorem dLi_takeDigits_9 : decode prog_4_method_10_code 9 = .ok (.aload_n 1, 1) := by decide +kernel
theorem dLi_takeDigits_10 : decode prog_4_method_10_code 10 = .ok (.invokevirtual 63, 3) := by decide +kernel
theorem dLi_takeDigits_13 : decode prog_4_method_10_code 13 = .ok (.if_icmp .ge 58, 3) := by decide +kernel
theorem dLi_takeDigits_16 : decode prog_4_method_10_code 16 = .ok (.aload_n 1, 1) := by decide +kernel
theorem dLi_takeDigits_17 : decode prog_4_method_10_code 17 = .ok (.aload_n 0, 1) := by decide +kernel
theorem dLi_takeDigits_18 : decode prog_4_method_10_code 18 = .ok (.getfield 57, 3) := by decide +kernel
theorem dLi_takeDigits_21 : decode prog_4_method_10_code 21 = .ok (.invokevirtual 66, 3) := by decide +kernel
theorem dLi_takeDigits_24 : decode prog_4_method_10_code 24 = .ok (.invokestatic 80, 3) := by decide +kernel
theorem dLi_takeDigits_27 : decode prog_4_method_10_code 27 = .ok (.ifCond .eq 44, 3) := by decide +kernel
theorem dLi_takeDigits_30 : decode prog_4_method_10_code 30 = .ok (.aload_n 0, 1) := by decide +kernel
theorem dLi_takeDigits_31 : decode prog_4_method_10_code 31 = .ok (.ldc 103, 2) := by decide +kernel
theorem dLi_takeDigits_33 : decode prog_4_method_10_code 33 = .ok (.aload_n 0, 1) := by decide +kernel
theorem dLi_takeDigits_34 : decode prog_4_method_10_code 34 = .ok (.getfield 100, 3) := by decide +kernel
theorem dLi_takeDigits_37 : decode prog_4_method_10_code 37 = .ok (.bipush 10, 2) := by decide +kernel
theorem dLi_takeDigits_39 : decode prog_4_method_10_code 39 = .ok (.imul, 1) := by decide +kernel
theorem dLi_takeDigits_40 : decode prog_4_method_10_code 40 = .ok (.aload_n 1, 1) := by decide +kernel
theorem dLi_takeDigits_41 : decode prog_4_method_10_code 41 = .ok (.aload_n 0, 1) := by decide +kernel
theorem dLi_takeDigits_42 : decode prog_4_method_10_code 42 = .ok (.getfield 57, 3) := by decide +kernel
theorem dLi_takeDigits_45 : decode prog_4_method_10_code 45 = .ok (.invokevirtual 66, 3) := by decide +kernel
theorem dLi_takeDigits_48 : decode prog_4_method_10_code 48 = .ok (.bipush 48, 2) := by decide +kernel
theorem dLi_takeDigits_50 : decode prog_4_method_10_code 50 = .ok (.isub, 1) := by decide +kernel
theorem dLi_takeDigits_51 : decode prog_4_method_10_code 51 = .ok (.iadd, 1) := by decide +kernel
theorem dLi_takeDigits_52 : decode prog_4_method_10_code 52 = .ok (.invokestatic 104, 3) := by decide +kernel
theorem dLi_takeDigits_55 : decode prog_4_method_10_code 55 = .ok (.putfield 100, 3) := by decide +kernel
theorem dLi_takeDigits_58 : decode prog_4_method_10_code 58 = .ok (.aload_n 0, 1) := by decide +kernel
theorem dLi_takeDigits_59 : decode prog_4_method_10_code 59 = .ok (.dup, 1) := by decide +kernel
theorem dLi_takeDigits_60 : decode prog_4_method_10_code 60 = .ok (.getfield 57, 3) := by decide +kernel
theorem dLi_takeDigits_63 : decode prog_4_method_10_code 63 = .ok (.iconst 1, 1) := by decide +kernel
theorem dLi_takeDigits_64 : decode prog_4_method_10_code 64 = .ok (.iadd, 1) := by decide +kernel
theorem dLi_takeDigits_65 : decode prog_4_method_10_code 65 = .ok (.putfield 57, 3) := by decide +kernel
theorem dLi_takeDigits_68 : decode prog_4_method_10_code 68 = .ok (.goto (-63), 3) := by decide +kernel
theorem dLi_takeDigits_71 : decode prog_4_method_10_code 71 = .ok (.aload_n 0, 1) := by decide +kernel
theorem dLi_takeDigits_72 : decode prog_4_method_10_code 72 = .ok (.bipush (-3), 2) := by decide +kernel
theorem dLi_takeDigits_74 : decode prog_4_method_10_code 74 = .ok (.putfield 45, 3) := by decide +kernel
theorem dLi_takeDigits_77 : decode prog_4_method_10_code 77 = .ok (.return_, 1) := by decide +kernel
theorem dLi_isSign_0 : decode prog_4_method_21_code 0 = .ok (.iload_n 0, 1) := by decide +kernel
theorem dLi_isSign_1 : decode prog_4_method_21_code 1 = .ok (.bipush 59, 2) := by decide +kernel
theorem dLi_isSign_3 : decode prog_4_method_21_code 3 = .ok (.if_icmp .eq 15, 3) := by decide +kernel
theorem dLi_isSign_6 : decode prog_4_method_21_code 6 = .ok (.iload_n 0, 1) := by decide +kernel
theorem dLi_isSign_7 : decode prog_4_method_21_code 7 = .ok (.bipush 44, 2) := by decide +kernel
theorem dLi_isSign_9 : decode prog_4_method_21_code 9 = .ok (.if_icmp .eq 9, 3) := by decide +kernel
theorem dLi_isSign_12 : decode prog_4_method_21_code 12 = .ok (.iload_n 0, 1) := by decide +kernel
theorem dLi_isSign_13 : decode prog_4_method_21_code 13 = .ok (.bipush 58, 2) := by decide +kernel
theorem dLi_isSign_15 : decode prog_4_method_21_code 15 = .ok (.if_icmp .ne 7, 3) := by decide +kernel
theorem dLi_isSign_18 : decode prog_4_method_21_code 18 = .ok (.iconst 1, 1) := by decide +kernel
theorem dLi_isSign_19 : decode prog_4_method_21_code 19 = .ok (.goto 4, 3) := by decide +kernel
theorem dLi_isSign_22 : decode prog_4_method_21_code 22 = .ok (.iconst 0, 1) := by decide +kernel
theorem dLi_isSign_23 : decode prog_4_method_21_code 23 = .ok (.ireturn, 1) := by decide +kernel
theorem dLi_nextToken_0 : decode prog_4_method_8_code 0 = .ok (.aload_n 0, 1) := by decide +kernel
theorem dLi_nextToken_1 : decode prog_4_method_8_code 1 = .ok (.getfield 57, 3) := by decide +kernel
theorem dLi_nextToken_4 : decode prog_4_method_8_code 4 = .ok (.aload_n 1, 1) := by decide +kernel
theorem dLi_nextToken_5 : decode prog_4_method_8_code 5 = .ok (.invokevirtual 63, 3) := by decide +kernel
theorem dLi_nextToken_8 : decode prog_4_method_8_code 8 = .ok (.if_icmp .ge 30, 3) := by decide +kernel
theorem dLi_nextToken_11 : decode prog_4_method_8_code 11 = .ok (.aload_n 1, 1) := by decide +kernel
theorem dLi_nextToken_12 : decode prog_4_method_8_code 12 = .ok (.aload_n 0, 1) := by decide +kernel
theorem dLi_nextToken_13 : decode prog_4_method_8_code 13 = .ok (.getfield 57, 3) := by decide +kernel
theorem dLi_nextToken_16 : decode prog_4_method_8_code 16 = .ok (.invokevirtual 66, 3) := by decide +kernel
theorem dLi_nextToken_19 : decode prog_4_method_8_code 19 = .ok (.invokestatic 70, 3) := by decide +kernel
theorem dLi_nextToken_22 : decode prog_4_method_8_code 22 = .ok (.ifCond .eq 16, 3) := by decide +kernel
theorem dLi_nextToken_25 : decode prog_4_method_8_code 25 = .ok (.aload_n 0, 1) := by decide +kernel
theorem dLi_nextToken_26 : decode prog_4_method_8_code 26 = .ok (.dup, 1) := by decide +kernel
theorem dLi_nextToken_27 : decode prog_4_method_8_code 27 = .ok (.getfield 57, 3) := by decide +kernel
theorem dLi_nextToken_30 : decode prog_4_method_8_code 30 = .ok (.iconst 1, 1) := by decide +kernel
theorem dLi_nextToken_31 : decode prog_4_method_8_code 31 = .ok (.iadd, 1) := by decide +kernel
theorem dLi_nextToken_32 : decode prog_4_method_8_code 32 = .ok (.putfield 57, 3) := by decide +kernel
theorem dLi_nextToken_35 : decode prog_4_method_8_code 35 = .ok (.goto (-35), 3) := by decide +kernel
theorem dLi_nextToken_38 : decode prog_4_method_8_code 38 = .ok (.aload_n 0, 1) := by decide +kernel
theorem dLi_nextToken_39 : decode prog_4_method_8_code 39 = .ok (.aload_n 0, 1) := by decide +kernel
theorem dLi_nextToken_40 : decode prog_4_method_8_code 40 = .ok (.getfield 57, 3) := by decide +kernel
theorem dLi_nextToken_43 : decode prog_4_method_8_code 43 = .ok (.putfield 42, 3) := by decide +kernel
theorem dLi_nextToken_46 : decode prog_4_method_8_code 46 = .ok (.aload_n 0, 1) := by decide +kernel
theorem dLi_nextToken_47 : decode prog_4_method_8_code 47 = .ok (.getfield 57, 3) := by decide +kernel
theorem dLi_nextToken_50 : decode prog_4_method_8_code 50 = .ok (.aload_n 1, 1) := by decide +kernel
theorem dLi_nextToken_51 : decode prog_4_method_8_code 51 = .ok (.invokevirtual 63, 3) := by decide +kernel
theorem dLi_nextToken_54 : decode prog_4_method_8_code 54 = .ok (.if_icmp .lt 9, 3) := by decide +kernel
theorem dLi_nextToken_57 : decode prog_4_method_8_code 57 = .ok (.aload_n 0, 1) := by decide +kernel
theorem dLi_nextToken_58 : decode prog_4_method_8_code 58 = .ok (.iconst (-1), 1) := by decide +kernel
theorem dLi_nextToken_59 : decode prog_4_method_8_code 59 = .ok (.putfield 45, 3) := by decide +kernel
theorem dLi_nextToken_62 : decode prog_4_method_8_code 62 = .ok (.return_, 1) := by decide +kernel
theorem dLi_nextToken_63 : decode prog_4_method_8_code 63 = .ok (.aload_n 1, 1) := by decide +kernel
theorem dLi_nextToken_64 : decode prog_4_method_8_code 64 = .ok (.aload_n 0, 1) := by decide +kernel
theorem dLi_nextToken_65 : decode prog_4_method_8_code 65 = .ok (.getfield 57, 3) := by decide +kernel
theorem dLi_nextToken_68 : decode prog_4_method_8_code 68 = .ok (.invokevirtual 66, 3) := by decide +kernel
theorem dLi_nextToken_71 : decode prog_4_method_8_code 71 = .ok (.istore_n 2, 1) := by decide +kernel
theorem dLi_nextToken_72 : decode prog_4_method_8_code 72 = .ok (.iload_n 2, 1) := by decide +kernel
theorem dLi_nextToken_73 : decode prog_4_method_8_code 73 = .ok (.invokestatic 74, 3) := by decide +kernel
theorem dLi_nextToken_76 : decode prog_4_method_8_code 76 = .ok (.ifCond .eq 11, 3) := by decide +kernel
theorem dLi_nextToken_79 : decode prog_4_method_8_code 79 = .ok (.aload_n 0, 1) := by decide +kernel
theorem dLi_nextToken_80 : decode prog_4_method_8_code 80 = .ok (.aload_n 1, 1) := by decide +kernel
theorem dLi_nextToken_81 : decode prog_4_method_8_code 81 = .ok (.invokevirtual 77, 3) := by decide +kernel
theorem dLi_nextToken_84 : decode prog_4_method_8_code 84 = .ok (.goto 45, 3) := by decide +kernel
theorem dLi_nextToken_87 : decode prog_4_method_8_code 87 = .ok (.iload_n 2, 1) := by decide +kernel
theorem dLi_nextToken_88 : decode prog_4_method_8_code 88 = .ok (.invokestatic 80, 3) := by decide +kernel
theorem dLi_nextToken_91 : decode prog_4_method_8_code 91 = .ok (.ifCond .eq 11, 3) := by decide +kernel
theorem dLi_nextToken_94 : decode prog_4_method_8_code 94 = .ok (.aload_n 0, 1) := by decide +kernel
theorem dLi_nextToken_95 : decode prog_4_method_8_code 95 = .ok (.aload_n 1, 1) := by decide +kernel
theorem dLi_nextToken_96 : decode prog_4_method_8_code 96 = .ok (.invokevirtual 83, 3) := by decide +kernel
theorem dLi_nextToken_99 : decode prog_4_method_8_code 99 = .ok (.goto 30, 3) := by decide +kernel
theorem dLi_nextToken_102 : decode prog_4_method_8_code 102 = .ok (.aload_n 0, 1) := by decide +kernel
theorem dLi_nextToken_103 : decode prog_4_method_8_code 103 = .ok (.iload_n 2, 1) := by decide +kernel
theorem dLi_nextToken_104 : decode prog_4_method_8_code 104 = .ok (.invokestatic 86, 3) := by decide +kernel
theorem dLi_nextToken_107 : decode prog_4_method_8_code 107 = .ok (.ifCond .eq 7, 3) := by decide +kernel
theorem dLi_nextToken_110 : decode prog_4_method_8_code 110 = .ok (.iload_n 2, 1) := by decide +kernel
theorem dLi_nextToken_111 : decode prog_4_method_8_code 111 = .ok (.goto 5, 3) := by decide +kernel
theorem dLi_nextToken_114 : decode prog_4_method_8_code 114 = .ok (.bipush (-4), 2) := by decide +kernel
theorem dLi_nextToken_116 : decode prog_4_method_8_code 116 = .ok (.putfield 45, 3) := by decide +kernel
theorem dLi_nextToken_119 : decode prog_4_method_8_code 119 = .ok (.aload_n 0, 1) := by decide +kernel
theorem dLi_nextToken_120 : decode prog_4_method_8_code 120 = .ok (.dup, 1) := by decide +kernel
theorem dLi_nextToken_121 : decode prog_4_method_8_code 121 = .ok (.getfield 57, 3) := by decide +kernel
theorem dLi_nextToken_124 : decode prog_4_method_8_code 124 = .ok (.iconst 1, 1) := by decide +kernel
theorem dLi_nextToken_125 : decode prog_4_method_8_code 125 = .ok (.iadd, 1) := by decide +kernel
theorem dLi_nextToken_126 : decode prog_4_method_8_code 126 = .ok (.putfield 57, 3) := by decide +kernel
theorem dLi_nextToken_129 : decode prog_4_method_8_code 129 = .ok (.return_, 1) := by decide +kernel
theorem dLi_takeBehindPart_0 : decode prog_4_method_17_code 0 = .ok (.aload_n 0, 1) := by decide +kernel
theorem dLi_takeBehindPart_1 : decode prog_4_method_17_code 1 = .ok (.getfield 45, 3) := by decide +kernel
theorem dLi_takeBehindPart_4 : decode prog_4_method_17_code 4 = .ok (.bipush 44, 2) := by decide +kernel
theorem dLi_takeBehindPart_6 : decode prog_4_method_17_code 6 = .ok (.if_icmp .ne 10, 3) := by decide +kernel
theorem dLi_takeBehindPart_9 : decode prog_4_method_17_code 9 = .ok (.aload_n 0, 1) := by decide +kernel
theorem dLi_takeBehindPart_10 : decode prog_4_method_17_code 10 = .ok (.iconst 3, 1) := by decide +kernel
theorem dLi_takeBehindPart_11 : decode prog_4_method_17_code 11 = .ok (.putfield 60, 3) := by decide +kernel
theorem dLi_takeBehindPart_14 : decode prog_4_method_17_code 14 = .ok (.iconst 0, 1) := by decide +kernel
theorem dLi_takeBehindPart_15 : decode prog_4_method_17_code 15 = .ok (.ireturn, 1) := by decide +kernel
theorem dLi_takeBehindPart_16 : decode prog_4_method_17_code 16 = .ok (.aload_n 0, 1) := by decide +kernel
theorem dLi_takeBehindPart_17 : decode prog_4_method_17_code 17 = .ok (.getfield 45, 3) := by decide +kernel
theorem dLi_takeBehindPart_20 : decode prog_4_method_17_code 20 = .ok (.bipush 59, 2) := by decide +kernel
theorem dLi_takeBehindPart_22 : decode prog_4_method_17_code 22 = .ok (.if_icmp .ne 20, 3) := by decide +kernel
theorem dLi_takeBehindPart_25 : decode prog_4_method_17_code 25 = .ok (.aload_n 0, 1) := by decide +kernel
theorem dLi_takeBehindPart_26 : decode prog_4_method_17_code 26 = .ok (.dup, 1) := by decide +kernel
theorem dLi_takeBehindPart_27 : decode prog_4_method_17_code 27 = .ok (.getfield 48, 3) := by decide +kernel
theorem dLi_takeBehindPart_30 : decode prog_4_method_17_code 30 = .ok (.iconst 1, 1) := by decide +kernel
theorem dLi_takeBehindPart_31 : decode prog_4_method_17_code 31 = .ok (.iadd, 1) := by decide +kernel
theorem dLi_takeBehindPart_32 : decode prog_4_method_17_code 32 = .ok (.putfield 48, 3) := by decide +kernel
theorem dLi_takeBehindPart_35 : decode prog_4_method_17_code 35 = .ok (.aload_n 0, 1) := by decide +kernel
theorem dLi_takeBehindPart_36 : decode prog_4_method_17_code 36 = .ok (.iconst 0, 1) := by decide +kernel
theorem dLi_takeBehindPart_37 : decode prog_4_method_17_code 37 = .ok (.putfield 60, 3) := by decide +kernel
theorem dLi_takeBehindPart_40 : decode prog_4_method_17_code 40 = .ok (.iconst 0, 1) := by decide +kernel
theorem dLi_takeBehindPart_41 : decode prog_4_method_17_code 41 = .ok (.ireturn, 1) := by decide +kernel
theorem dLi_takeBehindPart_42 : decode prog_4_method_17_code 42 = .ok (.iconst 1, 1) := by decide +kernel
theorem dLi_takeBehindPart_43 : decode prog_4_method_17_code 43 = .ok (.ireturn, 1) := by decide +kernel
theorem dTL_slot_0 : decode prog_1_method_33_code 0 = .ok (.iload_n 0, 1) := by decide +kernel
theorem dTL_slot_1 : decode prog_1_method_33_code 1 = .ok (.bipush 6, 2) := by decide +kernel
theorem dTL_slot_3 : decode prog_1_method_33_code 3 = .ok (.imul, 1) := by decide +kernel
theorem dTL_slot_4 : decode prog_1_method_33_code 4 = .ok (.iload_n 1, 1) := by decide +kernel
theorem dTL_slot_5 : decode prog_1_method_33_code 5 = .ok (.iadd, 1) := by decide +kernel
theorem dTL_slot_6 : decode prog_1_method_33_code 6 = .ok (.ireturn, 1) := by decide +kernel
theorem dLi_takePieces_0 : decode prog_4_method_16_code 0 = .ok (.aload_n 0, 1) := by decide +kernel
theorem dLi_takePieces_1 : decode prog_4_method_16_code 1 = .ok (.getfield 45, 3) := by decide +kernel
theorem dLi_takePieces_4 : decode prog_4_method_16_code 4 = .ok (.bipush (-3), 2) := by decide +kernel
theorem dLi_takePieces_6 : decode prog_4_method_16_code 6 = .ok (.if_icmp .eq 5, 3) := by decide +kernel
theorem dLi_takePieces_9 : decode prog_4_method_16_code 9 = .ok (.iconst 1, 1) := by decide +kernel
theorem dLi_takePieces_10 : decode prog_4_method_16_code 10 = .ok (.ireturn, 1) := by decide +kernel
theorem dLi_takePieces_11 : decode prog_4_method_16_code 11 = .ok (.aload_n 0, 1) := by decide +kernel
theorem dLi_takePieces_12 : decode prog_4_method_16_code 12 = .ok (.getfield 100, 3) := by decide +kernel
theorem dLi_takePieces_15 : decode prog_4_method_16_code 15 = .ok (.sipush 9999, 3) := by decide +kernel
theorem dLi_takePieces_18 : decode prog_4_method_16_code 18 = .ok (.if_icmp .le 5, 3) := by decide +kernel
theorem dLi_takePieces_21 : decode prog_4_method_16_code 21 = .ok (.iconst 3, 1) := by decide +kernel
theorem dLi_takePieces_22 : decode prog_4_method_16_code 22 = .ok (.ireturn, 1) := by decide +kernel
theorem dLi_takePieces_23 : decode prog_4_method_16_code 23 = .ok (.aload_n 0, 1) := by decide +kernel
theorem dLi_takePieces_24 : decode prog_4_method_16_code 24 = .ok (.getfield 9, 3) := by decide +kernel
theorem dLi_takePieces_27 : decode prog_4_method_16_code 27 = .ok (.aload_n 0, 1) := by decide +kernel
theorem dLi_takePieces_28 : decode prog_4_method_16_code 28 = .ok (.getfield 131, 3) := by decide +kernel
theorem dLi_takePieces_31 : decode prog_4_method_16_code 31 = .ok (.aload_n 0, 1) := by decide +kernel
theorem dLi_takePieces_32 : decode prog_4_method_16_code 32 = .ok (.getfield 139, 3) := by decide +kernel
theorem dLi_takePieces_35 : decode prog_4_method_16_code 35 = .ok (.invokestatic 136, 3) := by decide +kernel
theorem dLi_takePieces_38 : decode prog_4_method_16_code 38 = .ok (.aload_n 0, 1) := by decide +kernel
theorem dLi_takePieces_39 : decode prog_4_method_16_code 39 = .ok (.getfield 100, 3) := by decide +kernel
theorem dLi_takePieces_42 : decode prog_4_method_16_code 42 = .ok (.iastore, 1) := by decide +kernel
theorem dLi_takePieces_43 : decode prog_4_method_16_code 43 = .ok (.aload_n 0, 1) := by decide +kernel
theorem dLi_takePieces_44 : decode prog_4_method_16_code 44 = .ok (.iconst 5, 1) := by decide +kernel
theorem dLi_takePieces_45 : decode prog_4_method_16_code 45 = .ok (.putfield 60, 3) := by decide +kernel
theorem dLi_takePieces_48 : decode prog_4_method_16_code 48 = .ok (.iconst 0, 1) := by decide +kernel
theorem dLi_takePieces_49 : decode prog_4_method_16_code 49 = .ok (.ireturn, 1) := by decide +kernel
theorem dLi_takeGood_0 : decode prog_4_method_15_code 0 = .ok (.aload_n 0, 1) := by decide +kernel
theorem dLi_takeGood_1 : decode prog_4_method_15_code 1 = .ok (.getfield 45, 3) := by decide +kernel
theorem dLi_takeGood_4 : decode prog_4_method_15_code 4 = .ok (.bipush (-3), 2) := by decide +kernel
theorem dLi_takeGood_6 : decode prog_4_method_15_code 6 = .ok (.if_icmp .eq 5, 3) := by decide +kernel
theorem dLi_takeGood_9 : decode prog_4_method_15_code 9 = .ok (.iconst 1, 1) := by decide +kernel
theorem dLi_takeGood_10 : decode prog_4_method_15_code 10 = .ok (.ireturn, 1) := by decide +kernel
theorem dLi_takeGood_11 : decode prog_4_method_15_code 11 = .ok (.aload_n 0, 1) := by decide +kernel
theorem dLi_takeGood_12 : decode prog_4_method_15_code 12 = .ok (.getfield 100, 3) := by decide +kernel
theorem dLi_takeGood_15 : decode prog_4_method_15_code 15 = .ok (.invokestatic 133, 3) := by decide +kernel
theorem dLi_takeGood_18 : decode prog_4_method_15_code 18 = .ok (.ifCond .ne 5, 3) := by decide +kernel
theorem dLi_takeGood_21 : decode prog_4_method_15_code 21 = .ok (.iconst 3, 1) := by decide +kernel
theorem dLi_takeGood_22 : decode prog_4_method_15_code 22 = .ok (.ireturn, 1) := by decide +kernel
theorem dLi_takeGood_23 : decode prog_4_method_15_code 23 = .ok (.aload_n 0, 1) := by decide +kernel
theorem dLi_takeGood_24 : decode prog_4_method_15_code 24 = .ok (.getfield 9, 3) := by decide +kernel
theorem dLi_takeGood_27 : decode prog_4_method_15_code 27 = .ok (.aload_n 0, 1) := by decide +kernel
theorem dLi_takeGood_28 : decode prog_4_method_15_code 28 = .ok (.getfield 131, 3) := by decide +kernel
theorem dLi_takeGood_31 : decode prog_4_method_15_code 31 = .ok (.aload_n 0, 1) := by decide +kernel
theorem dLi_takeGood_32 : decode prog_4_method_15_code 32 = .ok (.getfield 100, 3) := by decide +kernel
theorem dLi_takeGood_35 : decode prog_4_method_15_code 35 = .ok (.invokestatic 136, 3) := by decide +kernel
theorem dLi_takeGood_38 : decode prog_4_method_15_code 38 = .ok (.iaload, 1) := by decide +kernel
theorem dLi_takeGood_39 : decode prog_4_method_15_code 39 = .ok (.iconst (-1), 1) := by decide +kernel
theorem dLi_takeGood_40 : decode prog_4_method_15_code 40 = .ok (.if_icmp .eq 5, 3) := by decide +kernel
theorem dLi_takeGood_43 : decode prog_4_method_15_code 43 = .ok (.iconst 2, 1) := by decide +kernel
theorem dLi_takeGood_44 : decode prog_4_method_15_code 44 = .ok (.ireturn, 1) := by decide +kernel
theorem dLi_takeGood_45 : decode prog_4_method_15_code 45 = .ok (.aload_n 0, 1) := by decide +kernel
theorem dLi_takeGood_46 : decode prog_4_method_15_code 46 = .ok (.aload_n 0, 1) := by decide +kernel
theorem dLi_takeGood_47 : decode prog_4_method_15_code 47 = .ok (.getfield 100, 3) := by decide +kernel
theorem dLi_takeGood_50 : decode prog_4_method_15_code 50 = .ok (.putfield 139, 3) := by decide +kernel
theorem dLi_takeGood_53 : decode prog_4_method_15_code 53 = .ok (.aload_n 0, 1) := by decide +kernel
theorem dLi_takeGood_54 : decode prog_4_method_15_code 54 = .ok (.iconst 4, 1) := by decide +kernel
theorem dLi_takeGood_55 : decode prog_4_method_15_code 55 = .ok (.putfield 60, 3) := by decide +kernel
theorem dLi_takeGood_58 : decode prog_4_method_15_code 58 = .ok (.iconst 0, 1) := by decide +kernel
theorem dLi_takeGood_59 : decode prog_4_method_15_code 59 = .ok (.ireturn, 1) := by decide +kernel
theorem dLi_takeColon_0 : decode prog_4_method_14_code 0 = .ok (.aload_n 0, 1) := by decide +kernel
theorem dLi_takeColon_1 : decode prog_4_method_14_code 1 = .ok (.iconst 3, 1) := by decide +kernel
theorem dLi_takeColon_2 : decode prog_4_method_14_code 2 = .ok (.putfield 60, 3) := by decide +kernel
theorem dLi_takeColon_5 : decode prog_4_method_14_code 5 = .ok (.aload_n 0, 1) := by decide +kernel
theorem dLi_takeColon_6 : decode prog_4_method_14_code 6 = .ok (.getfield 45, 3) := by decide +kernel
theorem dLi_takeColon_9 : decode prog_4_method_14_code 9 = .ok (.bipush 58, 2) := by decide +kernel
theorem dLi_takeColon_11 : decode prog_4_method_14_code 11 = .ok (.if_icmp .ne 7, 3) := by decide +kernel
theorem dLi_takeColon_14 : decode prog_4_method_14_code 14 = .ok (.iconst 0, 1) := by decide +kernel
theorem dLi_takeColon_15 : decode prog_4_method_14_code 15 = .ok (.goto 4, 3) := by decide +kernel
theorem dLi_takeColon_18 : decode prog_4_method_14_code 18 = .ok (.iconst 1, 1) := by decide +kernel
theorem dLi_takeColon_19 : decode prog_4_method_14_code 19 = .ok (.ireturn, 1) := by decide +kernel
theorem dTL_isTown_0 : decode prog_1_method_30_code 0 = .ok (.iload_n 0, 1) := by decide +kernel
theorem dTL_isTown_1 : decode prog_1_method_30_code 1 = .ok (.iconst 1, 1) := by decide +kernel
theorem dTL_isTown_2 : decode prog_1_method_30_code 2 = .ok (.bipush 15, 2) := by decide +kernel
theorem dTL_isTown_4 : decode prog_1_method_30_code 4 = .ok (.invokestatic 80, 3) := by decide +kernel
theorem dTL_isTown_7 : decode prog_1_method_30_code 7 = .ok (.ireturn, 1) := by decide +kernel
theorem dLi_takeTown_0 : decode prog_4_method_13_code 0 = .ok (.aload_n 0, 1) := by decide +kernel
theorem dLi_takeTown_1 : decode prog_4_method_13_code 1 = .ok (.getfield 45, 3) := by decide +kernel
theorem dLi_takeTown_4 : decode prog_4_method_13_code 4 = .ok (.bipush (-3), 2) := by decide +kernel
theorem dLi_takeTown_6 : decode prog_4_method_13_code 6 = .ok (.if_icmp .eq 5, 3) := by decide +kernel
theorem dLi_takeTown_9 : decode prog_4_method_13_code 9 = .ok (.iconst 1, 1) := by decide +kernel
theorem dLi_takeTown_10 : decode prog_4_method_13_code 10 = .ok (.ireturn, 1) := by decide +kernel
theorem dLi_takeTown_11 : decode prog_4_method_13_code 11 = .ok (.aload_n 0, 1) := by decide +kernel
theorem dLi_takeTown_12 : decode prog_4_method_13_code 12 = .ok (.getfield 100, 3) := by decide +kernel
theorem dLi_takeTown_15 : decode prog_4_method_13_code 15 = .ok (.invokestatic 128, 3) := by decide +kernel
theorem dLi_takeTown_18 : decode prog_4_method_13_code 18 = .ok (.ifCond .ne 5, 3) := by decide +kernel
theorem dLi_takeTown_21 : decode prog_4_method_13_code 21 = .ok (.iconst 3, 1) := by decide +kernel
theorem dLi_takeTown_22 : decode prog_4_method_13_code 22 = .ok (.ireturn, 1) := by decide +kernel
theorem dLi_takeTown_23 : decode prog_4_method_13_code 23 = .ok (.aload_n 0, 1) := by decide +kernel
theorem dLi_takeTown_24 : decode prog_4_method_13_code 24 = .ok (.getfield 15, 3) := by decide +kernel
theorem dLi_takeTown_27 : decode prog_4_method_13_code 27 = .ok (.aload_n 0, 1) := by decide +kernel
theorem dLi_takeTown_28 : decode prog_4_method_13_code 28 = .ok (.getfield 100, 3) := by decide +kernel
theorem dLi_takeTown_31 : decode prog_4_method_13_code 31 = .ok (.iaload, 1) := by decide +kernel
theorem dLi_takeTown_32 : decode prog_4_method_13_code 32 = .ok (.ifCond .eq 5, 3) := by decide +kernel
theorem dLi_takeTown_35 : decode prog_4_method_13_code 35 = .ok (.iconst 2, 1) := by decide +kernel
theorem dLi_takeTown_36 : decode prog_4_method_13_code 36 = .ok (.ireturn, 1) := by decide +kernel
theorem dLi_takeTown_37 : decode prog_4_method_13_code 37 = .ok (.aload_n 0, 1) := by decide +kernel
theorem dLi_takeTown_38 : decode prog_4_method_13_code 38 = .ok (.getfield 15, 3) := by decide +kernel
theorem dLi_takeTown_41 : decode prog_4_method_13_code 41 = .ok (.aload_n 0, 1) := by decide +kernel
theorem dLi_takeTown_42 : decode prog_4_method_13_code 42 = .ok (.getfield 100, 3) := by decide +kernel
theorem dLi_takeTown_45 : decode prog_4_method_13_code 45 = .ok (.iconst 1, 1) := by decide +kernel
theorem dLi_takeTown_46 : decode prog_4_method_13_code 46 = .ok (.iastore, 1) := by decide +kernel
theorem dLi_takeTown_47 : decode prog_4_method_13_code 47 = .ok (.aload_n 0, 1) := by decide +kernel
theorem dLi_takeTown_48 : decode prog_4_method_13_code 48 = .ok (.aload_n 0, 1) := by decide +kernel
theorem dLi_takeTown_49 : decode prog_4_method_13_code 49 = .ok (.getfield 100, 3) := by decide +kernel
theorem dLi_takeTown_52 : decode prog_4_method_13_code 52 = .ok (.putfield 131, 3) := by decide +kernel
theorem dLi_takeTown_55 : decode prog_4_method_13_code 55 = .ok (.aload_n 0, 1) := by decide +kernel
theorem dLi_takeTown_56 : decode prog_4_method_13_code 56 = .ok (.iconst 2, 1) := by decide +kernel
theorem dLi_takeTown_57 : decode prog_4_method_13_code 57 = .ok (.putfield 60, 3) := by decide +kernel
theorem dLi_takeTown_60 : decode prog_4_method_13_code 60 = .ok (.iconst 0, 1) := by decide +kernel
theorem dLi_takeTown_61 : decode prog_4_method_13_code 61 = .ok (.ireturn, 1) := by decide +kernel
theorem dLi_takeLineStart_0 : decode prog_4_method_12_code 0 = .ok (.aload_n 0, 1) := by decide +kernel
theorem dLi_takeLineStart_1 : decode prog_4_method_12_code 1 = .ok (.getfield 45, 3) := by decide +kernel
theorem dLi_takeLineStart_4 : decode prog_4_method_12_code 4 = .ok (.iconst (-1), 1) := by decide +kernel
theorem dLi_takeLineStart_5 : decode prog_4_method_12_code 5 = .ok (.if_icmp .ne 5, 3) := by decide +kernel
theorem dLi_takeLineStart_8 : decode prog_4_method_12_code 8 = .ok (.iconst 0, 1) := by decide +kernel
theorem dLi_takeLineStart_9 : decode prog_4_method_12_code 9 = .ok (.ireturn, 1) := by decide +kernel
theorem dLi_takeLineStart_10 : decode prog_4_method_12_code 10 = .ok (.aload_n 0, 1) := by decide +kernel
theorem dLi_takeLineStart_11 : decode prog_4_method_12_code 11 = .ok (.iconst 1, 1) := by decide +kernel
theorem dLi_takeLineStart_12 : decode prog_4_method_12_code 12 = .ok (.putfield 60, 3) := by decide +kernel
theorem dLi_takeLineStart_15 : decode prog_4_method_12_code 15 = .ok (.aload_n 0, 1) := by decide +kernel
theorem dLi_takeLineStart_16 : decode prog_4_method_12_code 16 = .ok (.getfield 45, 3) := by decide +kernel
theorem dLi_takeLineStart_19 : decode prog_4_method_12_code 19 = .ok (.bipush (-2), 2) := by decide +kernel
theorem dLi_takeLineStart_21 : decode prog_4_method_12_code 21 = .ok (.if_icmp .ne 7, 3) := by decide +kernel
theorem dLi_takeLineStart_24 : decode prog_4_method_12_code 24 = .ok (.iconst 0, 1) := by decide +kernel
theorem dLi_takeLineStart_25 : decode prog_4_method_12_code 25 = .ok (.goto 4, 3) := by decide +kernel
theorem dLi_takeLineStart_28 : decode prog_4_method_12_code 28 = .ok (.iconst 1, 1) := by decide +kernel
theorem dLi_takeLineStart_29 : decode prog_4_method_12_code 29 = .ok (.ireturn, 1) := by decide +kernel
theorem dLi_takeToken_0 : decode prog_4_method_11_code 0 = .ok (.aload_n 0, 1) := by decide +kernel
theorem dLi_takeToken_1 : decode prog_4_method_11_code 1 = .ok (.getfield 60, 3) := by decide +kernel
theorem dLi_takeToken_4 : decode prog_4_method_11_code 4 = .ok (.tableswitch 61 0 4 #[36, 41, 46, 51, 56], 36) := by decide +kernel
theorem dLi_takeToken_40 : decode prog_4_method_11_code 40 = .ok (.aload_n 0, 1) := by decide +kernel
theorem dLi_takeToken_41 : decode prog_4_method_11_code 41 = .ok (.invokevirtual 110, 3) := by decide +kernel
theorem dLi_takeToken_44 : decode prog_4_method_11_code 44 = .ok (.ireturn, 1) := by decide +kernel
theorem dLi_takeToken_45 : decode prog_4_method_11_code 45 = .ok (.aload_n 0, 1) := by decide +kernel
theorem dLi_takeToken_46 : decode prog_4_method_11_code 46 = .ok (.invokevirtual 113, 3) := by decide +kernel
theorem dLi_takeToken_49 : decode prog_4_method_11_code 49 = .ok (.ireturn, 1) := by decide +kernel
theorem dLi_takeToken_50 : decode prog_4_method_11_code 50 = .ok (.aload_n 0, 1) := by decide +kernel
theorem dLi_takeToken_51 : decode prog_4_method_11_code 51 = .ok (.invokevirtual 116, 3) := by decide +kernel
theorem dLi_takeToken_54 : decode prog_4_method_11_code 54 = .ok (.ireturn, 1) := by decide +kernel
theorem dLi_takeToken_55 : decode prog_4_method_11_code 55 = .ok (.aload_n 0, 1) := by decide +kernel
theorem dLi_takeToken_56 : decode prog_4_method_11_code 56 = .ok (.invokevirtual 119, 3) := by decide +kernel
theorem dLi_takeToken_59 : decode prog_4_method_11_code 59 = .ok (.ireturn, 1) := by decide +kernel
theorem dLi_takeToken_60 : decode prog_4_method_11_code 60 = .ok (.aload_n 0, 1) := by decide +kernel
theorem dLi_takeToken_61 : decode prog_4_method_11_code 61 = .ok (.invokevirtual 122, 3) := by decide +kernel
theorem dLi_takeToken_64 : decode prog_4_method_11_code 64 = .ok (.ireturn, 1) := by decide +kernel
theorem dLi_takeToken_65 : decode prog_4_method_11_code 65 = .ok (.aload_n 0, 1) := by decide +kernel
theorem dLi_takeToken_66 : decode prog_4_method_11_code 66 = .ok (.invokevirtual 125, 3) := by decide +kernel
theorem dLi_takeToken_69 : decode prog_4_method_11_code 69 = .ok (.ireturn, 1) := by decide +kernel
theorem dLi_read_0 : decode prog_4_method_6_code 0 = .ok (.aload_n 0, 1) := by decide +kernel
theorem dLi_read_1 : decode prog_4_method_6_code 1 = .ok (.invokevirtual 29, 3) := by decide +kernel
theorem dLi_read_4 : decode prog_4_method_6_code 4 = .ok (.iconst 0, 1) := by decide +kernel
theorem dLi_read_5 : decode prog_4_method_6_code 5 = .ok (.istore_n 2, 1) := by decide +kernel
theorem dLi_read_6 : decode prog_4_method_6_code 6 = .ok (.iload_n 2, 1) := by decide +kernel
theorem dLi_read_7 : decode prog_4_method_6_code 7 = .ok (.sipush 300, 3) := by decide +kernel
theorem dLi_read_10 : decode prog_4_method_6_code 10 = .ok (.if_icmp .gt 52, 3) := by decide +kernel
theorem dLi_read_13 : decode prog_4_method_6_code 13 = .ok (.aload_n 0, 1) := by decide +kernel
theorem dLi_read_14 : decode prog_4_method_6_code 14 = .ok (.aload_n 1, 1) := by decide +kernel
theorem dLi_read_15 : decode prog_4_method_6_code 15 = .ok (.invokevirtual 34, 3) := by decide +kernel
theorem dLi_read_18 : decode prog_4_method_6_code 18 = .ok (.aload_n 0, 1) := by decide +kernel
theorem dLi_read_19 : decode prog_4_method_6_code 19 = .ok (.aload_n 0, 1) := by decide +kernel
theorem dLi_read_20 : decode prog_4_method_6_code 20 = .ok (.invokevirtual 38, 3) := by decide +kernel
theorem dLi_read_23 : decode prog_4_method_6_code 23 = .ok (.putfield 22, 3) := by decide +kernel
theorem dLi_read_26 : decode prog_4_method_6_code 26 = .ok (.aload_n 0, 1) := by decide +kernel
theorem dLi_read_27 : decode prog_4_method_6_code 27 = .ok (.getfield 22, 3) := by decide +kernel
theorem dLi_read_30 : decode prog_4_method_6_code 30 = .ok (.ifCond .eq 13, 3) := by decide +kernel
theorem dLi_read_33 : decode prog_4_method_6_code 33 = .ok (.aload_n 0, 1) := by decide +kernel
theorem dLi_read_34 : decode prog_4_method_6_code 34 = .ok (.aload_n 0, 1) := by decide +kernel
theorem dLi_read_35 : decode prog_4_method_6_code 35 = .ok (.getfield 42, 3) := by decide +kernel
theorem dLi_read_38 : decode prog_4_method_6_code 38 = .ok (.putfield 26, 3) := by decide +kernel
theorem dLi_read_41 : decode prog_4_method_6_code 41 = .ok (.iconst (-1), 1) := by decide +kernel
theorem dLi_read_42 : decode prog_4_method_6_code 42 = .ok (.ireturn, 1) := by decide +kernel
theorem dLi_read_43 : decode prog_4_method_6_code 43 = .ok (.aload_n 0, 1) := by decide +kernel
theorem dLi_read_44 : decode prog_4_method_6_code 44 = .ok (.getfield 45, 3) := by decide +kernel
theorem dLi_read_47 : decode prog_4_method_6_code 47 = .ok (.iconst (-1), 1) := by decide +kernel
theorem dLi_read_48 : decode prog_4_method_6_code 48 = .ok (.if_icmp .ne 8, 3) := by decide +kernel
theorem dLi_read_51 : decode prog_4_method_6_code 51 = .ok (.aload_n 0, 1) := by decide +kernel
theorem dLi_read_52 : decode prog_4_method_6_code 52 = .ok (.getfield 48, 3) := by decide +kernel
theorem dLi_read_55 : decode prog_4_method_6_code 55 = .ok (.ireturn, 1) := by decide +kernel
theorem dLi_read_56 : decode prog_4_method_6_code 56 = .ok (.iinc 2 1, 3) := by decide +kernel
theorem dLi_read_59 : decode prog_4_method_6_code 59 = .ok (.goto (-53), 3) := by decide +kernel
theorem dLi_read_62 : decode prog_4_method_6_code 62 = .ok (.iconst (-1), 1) := by decide +kernel
theorem dLi_read_63 : decode prog_4_method_6_code 63 = .ok (.ireturn, 1) := by decide +kernel
theorem dLi_row_0 : decode prog_4_method_2_code 0 = .ok (.aload_n 0, 1) := by decide +kernel
theorem dLi_row_1 : decode prog_4_method_2_code 1 = .ok (.getfield 9, 3) := by decide +kernel
theorem dLi_row_4 : decode prog_4_method_2_code 4 = .ok (.areturn, 1) := by decide +kernel
theorem dCo_replace_0 : decode prog_3_method_2_code 0 = .ok (.aload_n 2, 1) := by decide +kernel
theorem dCo_replace_1 : decode prog_3_method_2_code 1 = .ok (.iconst 0, 1) := by decide +kernel
theorem dCo_replace_2 : decode prog_3_method_2_code 2 = .ok (.aload_n 0, 1) := by decide +kernel
theorem dCo_replace_3 : decode prog_3_method_2_code 3 = .ok (.getfield 13, 3) := by decide +kernel
theorem dCo_replace_6 : decode prog_3_method_2_code 6 = .ok (.iload_n 1, 1) := by decide +kernel
theorem dCo_replace_7 : decode prog_3_method_2_code 7 = .ok (.aaload, 1) := by decide +kernel
theorem dCo_replace_8 : decode prog_3_method_2_code 8 = .ok (.iconst 0, 1) := by decide +kernel
theorem dCo_replace_9 : decode prog_3_method_2_code 9 = .ok (.bipush 96, 2) := by decide +kernel
theorem dCo_replace_11 : decode prog_3_method_2_code 11 = .ok (.invokestatic 30, 3) := by decide +kernel
theorem dCo_replace_14 : decode prog_3_method_2_code 14 = .ok (.aload_n 0, 1) := by decide +kernel
theorem dCo_replace_15 : decode prog_3_method_2_code 15 = .ok (.dup, 1) := by decide +kernel
theorem dCo_replace_16 : decode prog_3_method_2_code 16 = .ok (.getfield 20, 3) := by decide +kernel
theorem dCo_replace_19 : decode prog_3_method_2_code 19 = .ok (.iconst 1, 1) := by decide +kernel
theorem dCo_replace_20 : decode prog_3_method_2_code 20 = .ok (.iadd, 1) := by decide +kernel
theorem dCo_replace_21 : decode prog_3_method_2_code 21 = .ok (.putfield 20, 3) := by decide +kernel
theorem dCo_replace_24 : decode prog_3_method_2_code 24 = .ok (.aload_n 0, 1) := by decide +kernel
theorem dCo_replace_25 : decode prog_3_method_2_code 25 = .ok (.getfield 16, 3) := by decide +kernel
theorem dCo_replace_28 : decode prog_3_method_2_code 28 = .ok (.iload_n 1, 1) := by decide +kernel
theorem dCo_replace_29 : decode prog_3_method_2_code 29 = .ok (.aload_n 0, 1) := by decide +kernel
theorem dCo_replace_30 : decode prog_3_method_2_code 30 = .ok (.getfield 20, 3) := by decide +kernel
theorem dCo_replace_33 : decode prog_3_method_2_code 33 = .ok (.iastore, 1) := by decide +kernel
theorem dCo_replace_34 : decode prog_3_method_2_code 34 = .ok (.return_, 1) := by decide +kernel
theorem dTL_copy_0 : decode prog_1_method_8_code 0 = .ok (.iload_n 1, 1) := by decide +kernel
theorem dTL_copy_1 : decode prog_1_method_8_code 1 = .ok (.invokestatic 120, 3) := by decide +kernel
theorem dTL_copy_4 : decode prog_1_method_8_code 4 = .ok (.ifCond .ne 5, 3) := by decide +kernel
theorem dTL_copy_7 : decode prog_1_method_8_code 7 = .ok (.iconst (-1), 1) := by decide +kernel
theorem dTL_copy_8 : decode prog_1_method_8_code 8 = .ok (.ireturn, 1) := by decide +kernel
theorem dTL_copy_9 : decode prog_1_method_8_code 9 = .ok (.aload_n 0, 1) := by decide +kernel
theorem dTL_copy_10 : decode prog_1_method_8_code 10 = .ok (.getfield 33, 3) := by decide +kernel
theorem dTL_copy_13 : decode prog_1_method_8_code 13 = .ok (.aload_n 0, 1) := by decide +kernel
theorem dTL_copy_14 : decode prog_1_method_8_code 14 = .ok (.getfield 26, 3) := by decide +kernel
theorem dTL_copy_17 : decode prog_1_method_8_code 17 = .ok (.invokevirtual 123, 3) := by decide +kernel
theorem dTL_copy_20 : decode prog_1_method_8_code 20 = .ok (.istore_n 2, 1) := by decide +kernel
theorem dTL_copy_21 : decode prog_1_method_8_code 21 = .ok (.aload_n 0, 1) := by decide +kernel
theorem dTL_copy_22 : decode prog_1_method_8_code 22 = .ok (.getfield 26, 3) := by decide +kernel
theorem dTL_copy_25 : decode prog_1_method_8_code 25 = .ok (.iconst 0, 1) := by decide +kernel
theorem dTL_copy_26 : decode prog_1_method_8_code 26 = .ok (.invokevirtual 117, 3) := by decide +kernel
theorem dTL_copy_29 : decode prog_1_method_8_code 29 = .ok (.iload_n 2, 1) := by decide +kernel
theorem dTL_copy_30 : decode prog_1_method_8_code 30 = .ok (.iconst (-1), 1) := by decide +kernel
theorem dTL_copy_31 : decode prog_1_method_8_code 31 = .ok (.if_icmp .eq 18, 3) := by decide +kernel
theorem dTL_copy_34 : decode prog_1_method_8_code 34 = .ok (.aload_n 0, 1) := by decide +kernel
theorem dTL_copy_35 : decode prog_1_method_8_code 35 = .ok (.getfield 40, 3) := by decide +kernel
theorem dTL_copy_38 : decode prog_1_method_8_code 38 = .ok (.iload_n 1, 1) := by decide +kernel
theorem dTL_copy_39 : decode prog_1_method_8_code 39 = .ok (.aload_n 0, 1) := by decide +kernel
theorem dTL_copy_40 : decode prog_1_method_8_code 40 = .ok (.getfield 33, 3) := by decide +kernel
theorem dTL_copy_43 : decode prog_1_method_8_code 43 = .ok (.invokevirtual 127, 3) := by decide +kernel
theorem dTL_copy_46 : decode prog_1_method_8_code 46 = .ok (.invokevirtual 131, 3) := by decide +kernel
theorem dTL_copy_49 : decode prog_1_method_8_code 49 = .ok (.iload_n 2, 1) := by decide +kernel
theorem dTL_copy_50 : decode prog_1_method_8_code 50 = .ok (.ireturn, 1) := by decide +kernel
theorem dLi_hasRead_0 : decode prog_4_method_3_code 0 = .ok (.aload_n 0, 1) := by decide +kernel
theorem dLi_hasRead_1 : decode prog_4_method_3_code 1 = .ok (.getfield 18, 3) := by decide +kernel
theorem dLi_hasRead_4 : decode prog_4_method_3_code 4 = .ok (.ireturn, 1) := by decide +kernel
theorem dLi_faultPlace_0 : decode prog_4_method_5_code 0 = .ok (.aload_n 0, 1) := by decide +kernel
theorem dLi_faultPlace_1 : decode prog_4_method_5_code 1 = .ok (.getfield 26, 3) := by decide +kernel
theorem dLi_faultPlace_4 : decode prog_4_method_5_code 4 = .ok (.ireturn, 1) := by decide +kernel
theorem dLi_faultKind_0 : decode prog_4_method_4_code 0 = .ok (.aload_n 0, 1) := by decide +kernel
theorem dLi_faultKind_1 : decode prog_4_method_4_code 1 = .ok (.getfield 22, 3) := by decide +kernel
theorem dLi_faultKind_4 : decode prog_4_method_4_code 4 = .ok (.ireturn, 1) := by decide +kernel
theorem dTL_fault_0 : decode prog_1_method_9_code 0 = .ok (.aload_n 0, 1) := by decide +kernel
theorem dTL_fault_1 : decode prog_1_method_9_code 1 = .ok (.getfield 33, 3) := by decide +kernel
theorem dTL_fault_4 : decode prog_1_method_9_code 4 = .ok (.invokevirtual 135, 3) := by decide +kernel
theorem dTL_fault_7 : decode prog_1_method_9_code 7 = .ok (.ifCond .ne 5, 3) := by decide +kernel
theorem dTL_fault_10 : decode prog_1_method_9_code 10 = .ok (.iconst (-1), 1) := by decide +kernel
theorem dTL_fault_11 : decode prog_1_method_9_code 11 = .ok (.ireturn, 1) := by decide +kernel
theorem dTL_fault_12 : decode prog_1_method_9_code 12 = .ok (.iload_n 1, 1) := by decide +kernel
theorem dTL_fault_13 : decode prog_1_method_9_code 13 = .ok (.lookupswitch 43 #[(0, 27), (1, 35)], 27) := by decide +kernel
theorem dTL_fault_40 : decode prog_1_method_9_code 40 = .ok (.aload_n 0, 1) := by decide +kernel
theorem dTL_fault_41 : decode prog_1_method_9_code 41 = .ok (.getfield 33, 3) := by decide +kernel
theorem dTL_fault_44 : decode prog_1_method_9_code 44 = .ok (.invokevirtual 138, 3) := by decide +kernel
theorem dTL_fault_47 : decode prog_1_method_9_code 47 = .ok (.ireturn, 1) := by decide +kernel
theorem dTL_fault_48 : decode prog_1_method_9_code 48 = .ok (.aload_n 0, 1) := by decide +kernel
theorem dTL_fault_49 : decode prog_1_method_9_code 49 = .ok (.getfield 33, 3) := by decide +kernel
theorem dTL_fault_52 : decode prog_1_method_9_code 52 = .ok (.invokevirtual 141, 3) := by decide +kernel
theorem dTL_fault_55 : decode prog_1_method_9_code 55 = .ok (.ireturn, 1) := by decide +kernel
theorem dTL_fault_56 : decode prog_1_method_9_code 56 = .ok (.iconst (-1), 1) := by decide +kernel
theorem dTL_fault_57 : decode prog_1_method_9_code 57 = .ok (.ireturn, 1) := by decide +kernel
theorem dCo_toldBy_0 : decode prog_3_method_4_code 0 = .ok (.aload_n 0, 1) := by decide +kernel
theorem dCo_toldBy_1 : decode prog_3_method_4_code 1 = .ok (.getfield 13, 3) := by decide +kernel
theorem dCo_toldBy_4 : decode prog_3_method_4_code 4 = .ok (.iload_n 1, 1) := by decide +kernel
theorem dCo_toldBy_5 : decode prog_3_method_4_code 5 = .ok (.aaload, 1) := by decide +kernel
theorem dCo_toldBy_6 : decode prog_3_method_4_code 6 = .ok (.iload_n 2, 1) := by decide +kernel
theorem dCo_toldBy_7 : decode prog_3_method_4_code 7 = .ok (.iaload, 1) := by decide +kernel
theorem dCo_toldBy_8 : decode prog_3_method_4_code 8 = .ok (.ireturn, 1) := by decide +kernel
theorem dTL_tells_0 : decode prog_1_method_10_code 0 = .ok (.iload_n 1, 1) := by decide +kernel
theorem dTL_tells_1 : decode prog_1_method_10_code 1 = .ok (.invokestatic 120, 3) := by decide +kernel
theorem dTL_tells_4 : decode prog_1_method_10_code 4 = .ok (.ifCond .eq 33, 3) := by decide +kernel
theorem dTL_tells_7 : decode prog_1_method_10_code 7 = .ok (.iload_n 2, 1) := by decide +kernel
theorem dTL_tells_8 : decode prog_1_method_10_code 8 = .ok (.invokestatic 144, 3) := by decide +kernel
theorem dTL_tells_11 : decode prog_1_method_10_code 11 = .ok (.ifCond .eq 26, 3) := by decide +kernel
theorem dTL_tells_14 : decode prog_1_method_10_code 14 = .ok (.iload_n 3, 1) := by decide +kernel
theorem dTL_tells_15 : decode prog_1_method_10_code 15 = .ok (.invokestatic 95, 3) := by decide +kernel
theorem dTL_tells_18 : decode prog_1_method_10_code 18 = .ok (.ifCond .eq 19, 3) := by decide +kernel
theorem dTL_tells_21 : decode prog_1_method_10_code 21 = .ok (.aload_n 0, 1) := by decide +kernel
theorem dTL_tells_22 : decode prog_1_method_10_code 22 = .ok (.getfield 40, 3) := by decide +kernel
theorem dTL_tells_25 : decode prog_1_method_10_code 25 = .ok (.iload_n 1, 1) := by decide +kernel
theorem dTL_tells_26 : decode prog_1_method_10_code 26 = .ok (.iload_n 2, 1) := by decide +kernel
theorem dTL_tells_27 : decode prog_1_method_10_code 27 = .ok (.iload_n 3, 1) := by decide +kernel
theorem dTL_tells_28 : decode prog_1_method_10_code 28 = .ok (.invokestatic 147, 3) := by decide +kernel
theorem dTL_tells_31 : decode prog_1_method_10_code 31 = .ok (.invokevirtual 150, 3) := by decide +kernel
theorem dTL_tells_34 : decode prog_1_method_10_code 34 = .ok (.goto 4, 3) := by decide +kernel
theorem dTL_tells_37 : decode prog_1_method_10_code 37 = .ok (.iconst (-1), 1) := by decide +kernel
theorem dTL_tells_38 : decode prog_1_method_10_code 38 = .ok (.ireturn, 1) := by decide +kernel
theorem dCo_votesFor_0 : decode prog_3_method_6_code 0 = .ok (.iload_n 1, 1) := by decide +kernel
theorem dCo_votesFor_1 : decode prog_3_method_6_code 1 = .ok (.iconst (-1), 1) := by decide +kernel
theorem dCo_votesFor_2 : decode prog_3_method_6_code 2 = .ok (.if_icmp .ne 5, 3) := by decide +kernel
theorem dCo_votesFor_5 : decode prog_3_method_6_code 5 = .ok (.iconst 0, 1) := by decide +kernel
theorem dCo_votesFor_6 : decode prog_3_method_6_code 6 = .ok (.ireturn, 1) := by decide +kernel
theorem dCo_votesFor_7 : decode prog_3_method_6_code 7 = .ok (.iconst 0, 1) := by decide +kernel
theorem dCo_votesFor_8 : decode prog_3_method_6_code 8 = .ok (.istore_n 3, 1) := by decide +kernel
theorem dCo_votesFor_9 : decode prog_3_method_6_code 9 = .ok (.iconst 0, 1) := by decide +kernel
theorem dCo_votesFor_10 : decode prog_3_method_6_code 10 = .ok (.istore 4, 2) := by decide +kernel
theorem dCo_votesFor_12 : decode prog_3_method_6_code 12 = .ok (.iload 4, 2) := by decide +kernel
theorem dCo_votesFor_14 : decode prog_3_method_6_code 14 = .ok (.iconst 5, 1) := by decide +kernel
theorem dCo_votesFor_15 : decode prog_3_method_6_code 15 = .ok (.if_icmp .ge 25, 3) := by decide +kernel
theorem dCo_votesFor_18 : decode prog_3_method_6_code 18 = .ok (.aload_n 0, 1) := by decide +kernel
theorem dCo_votesFor_19 : decode prog_3_method_6_code 19 = .ok (.getfield 13, 3) := by decide +kernel
theorem dCo_votesFor_22 : decode prog_3_method_6_code 22 = .ok (.iload 4, 2) := by decide +kernel
theorem dCo_votesFor_24 : decode prog_3_method_6_code 24 = .ok (.aaload, 1) := by decide +kernel
theorem dCo_votesFor_25 : decode prog_3_method_6_code 25 = .ok (.iload_n 2, 1) := by decide +kernel
theorem dCo_votesFor_26 : decode prog_3_method_6_code 26 = .ok (.iaload, 1) := by decide +kernel
theorem dCo_votesFor_27 : decode prog_3_method_6_code 27 = .ok (.iload_n 1, 1) := by decide +kernel
theorem dCo_votesFor_28 : decode prog_3_method_6_code 28 = .ok (.if_icmp .ne 6, 3) := by decide +kernel
theorem dCo_votesFor_31 : decode prog_3_method_6_code 31 = .ok (.iinc 3 1, 3) := by decide +kernel
theorem dCo_votesFor_34 : decode prog_3_method_6_code 34 = .ok (.iinc 4 1, 3) := by decide +kernel
theorem dCo_votesFor_37 : decode prog_3_method_6_code 37 = .ok (.goto (-25), 3) := by decide +kernel
theorem dCo_votesFor_40 : decode prog_3_method_6_code 40 = .ok (.iload_n 3, 1) := by decide +kernel
theorem dCo_votesFor_41 : decode prog_3_method_6_code 41 = .ok (.ireturn, 1) := by decide +kernel
