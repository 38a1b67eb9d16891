theorem dTL_barter_0 : decode prog_1_method_21_code 0 = .ok (.iload_n 1, 1) := by decide +kernel
theorem dTL_barter_1 : decode prog_1_method_21_code 1 = .ok (.invokestatic 95, 3) := by decide +kernel
theorem dTL_barter_4 : decode prog_1_method_21_code 4 = .ok (.ifCond .eq 26, 3) := by decide +kernel
theorem dTL_barter_7 : decode prog_1_method_21_code 7 = .ok (.iload_n 3, 1) := by decide +kernel
theorem dTL_barter_8 : decode prog_1_method_21_code 8 = .ok (.invokestatic 95, 3) := by decide +kernel
theorem dTL_barter_11 : decode prog_1_method_21_code 11 = .ok (.ifCond .eq 19, 3) := by decide +kernel
theorem dTL_barter_14 : decode prog_1_method_21_code 14 = .ok (.iload_n 1, 1) := by decide +kernel
theorem dTL_barter_15 : decode prog_1_method_21_code 15 = .ok (.iload_n 3, 1) := by decide +kernel
theorem dTL_barter_16 : decode prog_1_method_21_code 16 = .ok (.if_icmp .eq 14, 3) := by decide +kernel
theorem dTL_barter_19 : decode prog_1_method_21_code 19 = .ok (.iload_n 2, 1) := by decide +kernel
theorem dTL_barter_20 : decode prog_1_method_21_code 20 = .ok (.iconst 1, 1) := by decide +kernel
theorem dTL_barter_21 : decode prog_1_method_21_code 21 = .ok (.sipush 9999, 3) := by decide +kernel
theorem dTL_barter_24 : decode prog_1_method_21_code 24 = .ok (.invokestatic 80, 3) := by decide +kernel
theorem dTL_barter_27 : decode prog_1_method_21_code 27 = .ok (.ifCond .ne 5, 3) := by decide +kernel
theorem dTL_barter_30 : decode prog_1_method_21_code 30 = .ok (.iconst (-1), 1) := by decide +kernel
theorem dTL_barter_31 : decode prog_1_method_21_code 31 = .ok (.ireturn, 1) := by decide +kernel
theorem dTL_barter_32 : decode prog_1_method_21_code 32 = .ok (.aload_n 0, 1) := by decide +kernel
theorem dTL_barter_33 : decode prog_1_method_21_code 33 = .ok (.getfield 61, 3) := by decide +kernel
theorem dTL_barter_36 : decode prog_1_method_21_code 36 = .ok (.iload_n 1, 1) := by decide +kernel
theorem dTL_barter_37 : decode prog_1_method_21_code 37 = .ok (.iload_n 2, 1) := by decide +kernel
theorem dTL_barter_38 : decode prog_1_method_21_code 38 = .ok (.iload_n 3, 1) := by decide +kernel
theorem dTL_barter_39 : decode prog_1_method_21_code 39 = .ok (.invokevirtual 204, 3) := by decide +kernel
theorem dTL_barter_42 : decode prog_1_method_21_code 42 = .ok (.lstore 4, 2) := by decide +kernel
theorem dTL_barter_44 : decode prog_1_method_21_code 44 = .ok (.lload 4, 2) := by decide +kernel
theorem dTL_barter_46 : decode prog_1_method_21_code 46 = .ok (.ldc2_w 208, 3) := by decide +kernel
theorem dTL_barter_49 : decode prog_1_method_21_code 49 = .ok (.invokestatic 210, 3) := by decide +kernel
theorem dTL_barter_52 : decode prog_1_method_21_code 52 = .ok (.l2i, 1) := by decide +kernel
theorem dTL_barter_53 : decode prog_1_method_21_code 53 = .ok (.ireturn, 1) := by decide +kernel
theorem dMa_bestLength_0 : decode prog_5_method_5_code 0 = .ok (.aload_n 0, 1) := by decide +kernel
theorem dMa_bestLength_1 : decode prog_5_method_5_code 1 = .ok (.getfield 40, 3) := by decide +kernel
theorem dMa_bestLength_4 : decode prog_5_method_5_code 4 = .ok (.ireturn, 1) := by decide +kernel
theorem dMa_bestStep_0 : decode prog_5_method_6_code 0 = .ok (.aload_n 0, 1) := by decide +kernel
theorem dMa_bestStep_1 : decode prog_5_method_6_code 1 = .ok (.getfield 37, 3) := by decide +kernel
theorem dMa_bestStep_4 : decode prog_5_method_6_code 4 = .ok (.iload_n 1, 1) := by decide +kernel
theorem dMa_bestStep_5 : decode prog_5_method_6_code 5 = .ok (.iaload, 1) := by decide +kernel
theorem dMa_bestStep_6 : decode prog_5_method_6_code 6 = .ok (.ireturn, 1) := by decide +kernel
theorem dTL_bartered_0 : decode prog_1_method_22_code 0 = .ok (.iload_n 1, 1) := by decide +kernel
theorem dTL_bartered_1 : decode prog_1_method_22_code 1 = .ok (.iconst 0, 1) := by decide +kernel
theorem dTL_bartered_2 : decode prog_1_method_22_code 2 = .ok (.aload_n 0, 1) := by decide +kernel
theorem dTL_bartered_3 : decode prog_1_method_22_code 3 = .ok (.getfield 61, 3) := by decide +kernel
theorem dTL_bartered_6 : decode prog_1_method_22_code 6 = .ok (.invokevirtual 216, 3) := by decide +kernel
theorem dTL_bartered_9 : decode prog_1_method_22_code 9 = .ok (.iconst 1, 1) := by decide +kernel
theorem dTL_bartered_10 : decode prog_1_method_22_code 10 = .ok (.isub, 1) := by decide +kernel
theorem dTL_bartered_11 : decode prog_1_method_22_code 11 = .ok (.invokestatic 80, 3) := by decide +kernel
theorem dTL_bartered_14 : decode prog_1_method_22_code 14 = .ok (.ifCond .eq 14, 3) := by decide +kernel
theorem dTL_bartered_17 : decode prog_1_method_22_code 17 = .ok (.aload_n 0, 1) := by decide +kernel
theorem dTL_bartered_18 : decode prog_1_method_22_code 18 = .ok (.getfield 61, 3) := by decide +kernel
theorem dTL_bartered_21 : decode prog_1_method_22_code 21 = .ok (.iload_n 1, 1) := by decide +kernel
theorem dTL_bartered_22 : decode prog_1_method_22_code 22 = .ok (.invokevirtual 219, 3) := by decide +kernel
theorem dTL_bartered_25 : decode prog_1_method_22_code 25 = .ok (.goto 4, 3) := by decide +kernel
theorem dTL_bartered_28 : decode prog_1_method_22_code 28 = .ok (.iconst (-1), 1) := by decide +kernel
theorem dTL_bartered_29 : decode prog_1_method_22_code 29 = .ok (.ireturn, 1) := by decide +kernel
theorem dSh_setYield_0 : decode prog_9_method_2_code 0 = .ok (.aload_n 0, 1) := by decide +kernel
theorem dSh_setYield_1 : decode prog_9_method_2_code 1 = .ok (.getfield 9, 3) := by decide +kernel
theorem dSh_setYield_4 : decode prog_9_method_2_code 4 = .ok (.iload_n 1, 1) := by decide +kernel
theorem dSh_setYield_5 : decode prog_9_method_2_code 5 = .ok (.iload_n 2, 1) := by decide +kernel
theorem dSh_setYield_6 : decode prog_9_method_2_code 6 = .ok (.iastore, 1) := by decide +kernel
theorem dSh_setYield_7 : decode prog_9_method_2_code 7 = .ok (.return_, 1) := by decide +kernel
theorem dTL_yields_0 : decode prog_1_method_23_code 0 = .ok (.iload_n 1, 1) := by decide +kernel
theorem dTL_yields_1 : decode prog_1_method_23_code 1 = .ok (.invokestatic 144, 3) := by decide +kernel
theorem dTL_yields_4 : decode prog_1_method_23_code 4 = .ok (.ifCond .eq 14, 3) := by decide +kernel
theorem dTL_yields_7 : decode prog_1_method_23_code 7 = .ok (.iload_n 2, 1) := by decide +kernel
theorem dTL_yields_8 : decode prog_1_method_23_code 8 = .ok (.iconst 0, 1) := by decide +kernel
theorem dTL_yields_9 : decode prog_1_method_23_code 9 = .ok (.sipush 10000, 3) := by decide +kernel
theorem dTL_yields_12 : decode prog_1_method_23_code 12 = .ok (.invokestatic 80, 3) := by decide +kernel
theorem dTL_yields_15 : decode prog_1_method_23_code 15 = .ok (.ifCond .ne 5, 3) := by decide +kernel
theorem dTL_yields_18 : decode prog_1_method_23_code 18 = .ok (.iconst 0, 1) := by decide +kernel
theorem dTL_yields_19 : decode prog_1_method_23_code 19 = .ok (.ireturn, 1) := by decide +kernel
theorem dTL_yields_20 : decode prog_1_method_23_code 20 = .ok (.aload_n 0, 1) := by decide +kernel
theorem dTL_yields_21 : decode prog_1_method_23_code 21 = .ok (.getfield 68, 3) := by decide +kernel
theorem dTL_yields_24 : decode prog_1_method_23_code 24 = .ok (.iload_n 1, 1) := by decide +kernel
theorem dTL_yields_25 : decode prog_1_method_23_code 25 = .ok (.iload_n 2, 1) := by decide +kernel
theorem dTL_yields_26 : decode prog_1_method_23_code 26 = .ok (.invokevirtual 222, 3) := by decide +kernel
theorem dTL_yields_29 : decode prog_1_method_23_code 29 = .ok (.iconst 1, 1) := by decide +kernel
theorem dTL_yields_30 : decode prog_1_method_23_code 30 = .ok (.ireturn, 1) := by decide +kernel
theorem dSh_allYields_0 : decode prog_9_method_4_code 0 = .ok (.iconst 0, 1) := by decide +kernel
theorem dSh_allYields_1 : decode prog_9_method_4_code 1 = .ok (.istore_n 1, 1) := by decide +kernel
theorem dSh_allYields_2 : decode prog_9_method_4_code 2 = .ok (.iconst 1, 1) := by decide +kernel
theorem dSh_allYields_3 : decode prog_9_method_4_code 3 = .ok (.istore_n 2, 1) := by decide +kernel
theorem dSh_allYields_4 : decode prog_9_method_4_code 4 = .ok (.iload_n 2, 1) := by decide +kernel
theorem dSh_allYields_5 : decode prog_9_method_4_code 5 = .ok (.bipush 16, 2) := by decide +kernel
theorem dSh_allYields_7 : decode prog_9_method_4_code 7 = .ok (.if_icmp .ge 18, 3) := by decide +kernel
theorem dSh_allYields_10 : decode prog_9_method_4_code 10 = .ok (.iload_n 1, 1) := by decide +kernel
theorem dSh_allYields_11 : decode prog_9_method_4_code 11 = .ok (.aload_n 0, 1) := by decide +kernel
theorem dSh_allYields_12 : decode prog_9_method_4_code 12 = .ok (.getfield 9, 3) := by decide +kernel
theorem dSh_allYields_15 : decode prog_9_method_4_code 15 = .ok (.iload_n 2, 1) := by decide +kernel
theorem dSh_allYields_16 : decode prog_9_method_4_code 16 = .ok (.iaload, 1) := by decide +kernel
theorem dSh_allYields_17 : decode prog_9_method_4_code 17 = .ok (.iadd, 1) := by decide +kernel
theorem dSh_allYields_18 : decode prog_9_method_4_code 18 = .ok (.istore_n 1, 1) := by decide +kernel
theorem dSh_allYields_19 : decode prog_9_method_4_code 19 = .ok (.iinc 2 1, 3) := by decide +kernel
theorem dSh_allYields_22 : decode prog_9_method_4_code 22 = .ok (.goto (-18), 3) := by decide +kernel
theorem dSh_allYields_25 : decode prog_9_method_4_code 25 = .ok (.iload_n 1, 1) := by decide +kernel
theorem dSh_allYields_26 : decode prog_9_method_4_code 26 = .ok (.ireturn, 1) := by decide +kernel
theorem dSh_shareOf_0 : decode prog_9_method_3_code 0 = .ok (.aload_n 0, 1) := by decide +kernel
theorem dSh_shareOf_1 : decode prog_9_method_3_code 1 = .ok (.invokevirtual 15, 3) := by decide +kernel
theorem dSh_shareOf_4 : decode prog_9_method_3_code 4 = .ok (.istore_n 3, 1) := by decide +kernel
theorem dSh_shareOf_5 : decode prog_9_method_3_code 5 = .ok (.iload_n 3, 1) := by decide +kernel
theorem dSh_shareOf_6 : decode prog_9_method_3_code 6 = .ok (.ifCond .gt 5, 3) := by decide +kernel
theorem dSh_shareOf_9 : decode prog_9_method_3_code 9 = .ok (.iconst (-1), 1) := by decide +kernel
theorem dSh_shareOf_10 : decode prog_9_method_3_code 10 = .ok (.ireturn, 1) := by decide +kernel
theorem dSh_shareOf_11 : decode prog_9_method_3_code 11 = .ok (.iload_n 1, 1) := by decide +kernel
theorem dSh_shareOf_12 : decode prog_9_method_3_code 12 = .ok (.istore 4, 2) := by decide +kernel
theorem dSh_shareOf_14 : decode prog_9_method_3_code 14 = .ok (.iconst 0, 1) := by decide +kernel
theorem dSh_shareOf_15 : decode prog_9_method_3_code 15 = .ok (.istore 5, 2) := by decide +kernel
theorem dSh_shareOf_17 : decode prog_9_method_3_code 17 = .ok (.iload_n 1, 1) := by decide +kernel
theorem dSh_shareOf_18 : decode prog_9_method_3_code 18 = .ok (.i2l, 1) := by decide +kernel
theorem dSh_shareOf_19 : decode prog_9_method_3_code 19 = .ok (.aload_n 0, 1) := by decide +kernel
theorem dSh_shareOf_20 : decode prog_9_method_3_code 20 = .ok (.getfield 9, 3) := by decide +kernel
theorem dSh_shareOf_23 : decode prog_9_method_3_code 23 = .ok (.iload_n 2, 1) := by decide +kernel
theorem dSh_shareOf_24 : decode prog_9_method_3_code 24 = .ok (.iaload, 1) := by decide +kernel
theorem dSh_shareOf_25 : decode prog_9_method_3_code 25 = .ok (.i2l, 1) := by decide +kernel
theorem dSh_shareOf_26 : decode prog_9_method_3_code 26 = .ok (.lmul, 1) := by decide +kernel
theorem dSh_shareOf_27 : decode prog_9_method_3_code 27 = .ok (.iload_n 3, 1) := by decide +kernel
theorem dSh_shareOf_28 : decode prog_9_method_3_code 28 = .ok (.i2l, 1) := by decide +kernel
theorem dSh_shareOf_29 : decode prog_9_method_3_code 29 = .ok (.lrem, 1) := by decide +kernel
theorem dSh_shareOf_30 : decode prog_9_method_3_code 30 = .ok (.lstore 6, 2) := by decide +kernel
theorem dSh_shareOf_32 : decode prog_9_method_3_code 32 = .ok (.iconst 1, 1) := by decide +kernel
theorem dSh_shareOf_33 : decode prog_9_method_3_code 33 = .ok (.istore 8, 2) := by decide +kernel
theorem dSh_shareOf_35 : decode prog_9_method_3_code 35 = .ok (.iload 8, 2) := by decide +kernel
theorem dSh_shareOf_37 : decode prog_9_method_3_code 37 = .ok (.bipush 16, 2) := by decide +kernel
theorem dSh_shareOf_39 : decode prog_9_method_3_code 39 = .ok (.if_icmp .ge 65, 3) := by decide +kernel
theorem dSh_shareOf_42 : decode prog_9_method_3_code 42 = .ok (.iload_n 1, 1) := by decide +kernel
theorem dSh_shareOf_43 : decode prog_9_method_3_code 43 = .ok (.i2l, 1) := by decide +kernel
theorem dSh_shareOf_44 : decode prog_9_method_3_code 44 = .ok (.aload_n 0, 1) := by decide +kernel
theorem dSh_shareOf_45 : decode prog_9_method_3_code 45 = .ok (.getfield 9, 3) := by decide +kernel
theorem dSh_shareOf_48 : decode prog_9_method_3_code 48 = .ok (.iload 8, 2) := by decide +kernel
theorem dSh_shareOf_50 : decode prog_9_method_3_code 50 = .ok (.iaload, 1) := by decide +kernel
theorem dSh_shareOf_51 : decode prog_9_method_3_code 51 = .ok (.i2l, 1) := by decide +kernel
theorem dSh_shareOf_52 : decode prog_9_method_3_code 52 = .ok (.lmul, 1) := by decide +kernel
theorem dSh_shareOf_53 : decode prog_9_method_3_code 53 = .ok (.lstore 9, 2) := by decide +kernel
theorem dSh_shareOf_55 : decode prog_9_method_3_code 55 = .ok (.iload 4, 2) := by decide +kernel
theorem dSh_shareOf_57 : decode prog_9_method_3_code 57 = .ok (.lload 9, 2) := by decide +kernel
theorem dSh_shareOf_59 : decode prog_9_method_3_code 59 = .ok (.iload_n 3, 1) := by decide +kernel
theorem dSh_shareOf_60 : decode prog_9_method_3_code 60 = .ok (.i2l, 1) := by decide +kernel
theorem dSh_shareOf_61 : decode prog_9_method_3_code 61 = .ok (.ldiv, 1) := by decide +kernel
theorem dSh_shareOf_62 : decode prog_9_method_3_code 62 = .ok (.l2i, 1) := by decide +kernel
theorem dSh_shareOf_63 : decode prog_9_method_3_code 63 = .ok (.isub, 1) := by decide +kernel
theorem dSh_shareOf_64 : decode prog_9_method_3_code 64 = .ok (.istore 4, 2) := by decide +kernel
theorem dSh_shareOf_66 : decode prog_9_method_3_code 66 = .ok (.lload 9, 2) := by decide +kernel
theorem dSh_shareOf_68 : decode prog_9_method_3_code 68 = .ok (.iload_n 3, 1) := by decide +kernel
theorem dSh_shareOf_69 : decode prog_9_method_3_code 69 = .ok (.i2l, 1) := by decide +kernel
theorem dSh_shareOf_70 : decode prog_9_method_3_code 70 = .ok (.lrem, 1) := by decide +kernel
theorem dSh_shareOf_71 : decode prog_9_method_3_code 71 = .ok (.lstore 11, 2) := by decide +kernel
theorem dSh_shareOf_73 : decode prog_9_method_3_code 73 = .ok (.lload 11, 2) := by decide +kernel
theorem dSh_shareOf_75 : decode prog_9_method_3_code 75 = .ok (.lload 6, 2) := by decide +kernel
theorem dSh_shareOf_77 : decode prog_9_method_3_code 77 = .ok (.lcmp, 1) := by decide +kernel
theorem dSh_shareOf_78 : decode prog_9_method_3_code 78 = .ok (.ifCond .gt 17, 3) := by decide +kernel
theorem dSh_shareOf_81 : decode prog_9_method_3_code 81 = .ok (.lload 11, 2) := by decide +kernel
theorem dSh_shareOf_83 : decode prog_9_method_3_code 83 = .ok (.lload 6, 2) := by decide +kernel
theorem dSh_shareOf_85 : decode prog_9_method_3_code 85 = .ok (.lcmp, 1) := by decide +kernel
theorem dSh_shareOf_86 : decode prog_9_method_3_code 86 = .ok (.ifCond .ne 12, 3) := by decide +kernel
theorem dSh_shareOf_89 : decode prog_9_method_3_code 89 = .ok (.iload 8, 2) := by decide +kernel
theorem dSh_shareOf_91 : decode prog_9_method_3_code 91 = .ok (.iload_n 2, 1) := by decide +kernel
theorem dSh_shareOf_92 : decode prog_9_method_3_code 92 = .ok (.if_icmp .ge 6, 3) := by decide +kernel
theorem dSh_shareOf_95 : decode prog_9_method_3_code 95 = .ok (.iinc 5 1, 3) := by decide +kernel
theorem dSh_shareOf_98 : decode prog_9_method_3_code 98 = .ok (.iinc 8 1, 3) := by decide +kernel
theorem dSh_shareOf_101 : decode prog_9_method_3_code 101 = .ok (.goto (-66), 3) := by decide +kernel
theorem dSh_shareOf_104 : decode prog_9_method_3_code 104 = .ok (.iload_n 1, 1) := by decide +kernel
theorem dSh_shareOf_105 : decode prog_9_method_3_code 105 = .ok (.i2l, 1) := by decide +kernel
theorem dSh_shareOf_106 : decode prog_9_method_3_code 106 = .ok (.aload_n 0, 1) := by decide +kernel
theorem dSh_shareOf_107 : decode prog_9_method_3_code 107 = .ok (.getfield 9, 3) := by decide +kernel
theorem dSh_shareOf_110 : decode prog_9_method_3_code 110 = .ok (.iload_n 2, 1) := by decide +kernel
theorem dSh_shareOf_111 : decode prog_9_method_3_code 111 = .ok (.iaload, 1) := by decide +kernel
theorem dSh_shareOf_112 : decode prog_9_method_3_code 112 = .ok (.i2l, 1) := by decide +kernel
theorem dSh_shareOf_113 : decode prog_9_method_3_code 113 = .ok (.lmul, 1) := by decide +kernel
theorem dSh_shareOf_114 : decode prog_9_method_3_code 114 = .ok (.iload_n 3, 1) := by decide +kernel
theorem dSh_shareOf_115 : decode prog_9_method_3_code 115 = .ok (.i2l, 1) := by decide +kernel
theorem dSh_shareOf_116 : decode prog_9_method_3_code 116 = .ok (.ldiv, 1) := by decide +kernel
theorem dSh_shareOf_117 : decode prog_9_method_3_code 117 = .ok (.l2i, 1) := by decide +kernel
theorem dSh_shareOf_118 : decode prog_9_method_3_code 118 = .ok (.istore 8, 2) := by decide +kernel
theorem dSh_shareOf_120 : decode prog_9_method_3_code 120 = .ok (.iload 5, 2) := by decide +kernel
theorem dSh_shareOf_122 : decode prog_9_method_3_code 122 = .ok (.iload 4, 2) := by decide +kernel
theorem dSh_shareOf_124 : decode prog_9_method_3_code 124 = .ok (.if_icmp .ge 10, 3) := by decide +kernel
theorem dSh_shareOf_127 : decode prog_9_method_3_code 127 = .ok (.iload 8, 2) := by decide +kernel
theorem dSh_shareOf_129 : decode prog_9_method_3_code 129 = .ok (.iconst 1, 1) := by decide +kernel
theorem dSh_shareOf_130 : decode prog_9_method_3_code 130 = .ok (.iadd, 1) := by decide +kernel
theorem dSh_shareOf_131 : decode prog_9_method_3_code 131 = .ok (.goto 5, 3) := by decide +kernel
theorem dSh_shareOf_134 : decode prog_9_method_3_code 134 = .ok (.iload 8, 2) := by decide +kernel
theorem dSh_shareOf_136 : decode prog_9_method_3_code 136 = .ok (.ireturn, 1) := by decide +kernel
theorem dTL_parted_0 : decode prog_1_method_24_code 0 = .ok (.iload_n 2, 1) := by decide +kernel
theorem dTL_parted_1 : decode prog_1_method_24_code 1 = .ok (.invokestatic 144, 3) := by decide +kernel
theorem dTL_parted_4 : decode prog_1_method_24_code 4 = .ok (.ifCond .eq 25, 3) := by decide +kernel
theorem dTL_parted_7 : decode prog_1_method_24_code 7 = .ok (.iload_n 1, 1) := by decide +kernel
theorem dTL_parted_8 : decode prog_1_method_24_code 8 = .ok (.iconst 0, 1) := by decide +kernel
theorem dTL_parted_9 : decode prog_1_method_24_code 9 = .ok (.ldc 226, 2) := by decide +kernel
theorem dTL_parted_11 : decode prog_1_method_24_code 11 = .ok (.invokestatic 80, 3) := by decide +kernel
theorem dTL_parted_14 : decode prog_1_method_24_code 14 = .ok (.ifCond .eq 15, 3) := by decide +kernel
theorem dTL_parted_17 : decode prog_1_method_24_code 17 = .ok (.aload_n 0, 1) := by decide +kernel
theorem dTL_parted_18 : decode prog_1_method_24_code 18 = .ok (.getfield 68, 3) := by decide +kernel
theorem dTL_parted_21 : decode prog_1_method_24_code 21 = .ok (.iload_n 1, 1) := by decide +kernel
theorem dTL_parted_22 : decode prog_1_method_24_code 22 = .ok (.iload_n 2, 1) := by decide +kernel
theorem dTL_parted_23 : decode prog_1_method_24_code 23 = .ok (.invokevirtual 227, 3) := by decide +kernel
theorem dTL_parted_26 : decode prog_1_method_24_code 26 = .ok (.goto 4, 3) := by decide +kernel
theorem dTL_parted_29 : decode prog_1_method_24_code 29 = .ok (.iconst (-1), 1) := by decide +kernel
theorem dTL_parted_30 : decode prog_1_method_24_code 30 = .ok (.ireturn, 1) := by decide +kernel
theorem dPo_weightOf_0 : decode prog_6_method_5_code 0 = .ok (.aload_n 0, 1) := by decide +kernel
theorem dPo_weightOf_1 : decode prog_6_method_5_code 1 = .ok (.getfield 9, 3) := by decide +kernel
theorem dPo_weightOf_4 : decode prog_6_method_5_code 4 = .ok (.iload_n 1, 1) := by decide +kernel
theorem dPo_weightOf_5 : decode prog_6_method_5_code 5 = .ok (.iaload, 1) := by decide +kernel
theorem dPo_weightOf_6 : decode prog_6_method_5_code 6 = .ok (.ireturn, 1) := by decide +kernel
theorem dCo_countRead_0 : decode prog_3_method_3_code 0 = .ok (.iconst 0, 1) := by decide +kernel
theorem dCo_countRead_1 : decode prog_3_method_3_code 1 = .ok (.istore_n 1, 1) := by decide +kernel
theorem dCo_countRead_2 : decode prog_3_method_3_code 2 = .ok (.iconst 0, 1) := by decide +kernel
theorem dCo_countRead_3 : decode prog_3_method_3_code 3 = .ok (.istore_n 2, 1) := by decide +kernel
theorem dCo_countRead_4 : decode prog_3_method_3_code 4 = .ok (.iload_n 2, 1) := by decide +kernel
theorem dCo_countRead_5 : decode prog_3_method_3_code 5 = .ok (.iconst 5, 1) := by decide +kernel
theorem dCo_countRead_6 : decode prog_3_method_3_code 6 = .ok (.if_icmp .ge 21, 3) := by decide +kernel
theorem dCo_countRead_9 : decode prog_3_method_3_code 9 = .ok (.aload_n 0, 1) := by decide +kernel
theorem dCo_countRead_10 : decode prog_3_method_3_code 10 = .ok (.getfield 16, 3) := by decide +kernel
theorem dCo_countRead_13 : decode prog_3_method_3_code 13 = .ok (.iload_n 2, 1) := by decide +kernel
theorem dCo_countRead_14 : decode prog_3_method_3_code 14 = .ok (.iaload, 1) := by decide +kernel
theorem dCo_countRead_15 : decode prog_3_method_3_code 15 = .ok (.ifCond .le 6, 3) := by decide +kernel
theorem dCo_countRead_18 : decode prog_3_method_3_code 18 = .ok (.iinc 1 1, 3) := by decide +kernel
theorem dCo_countRead_21 : decode prog_3_method_3_code 21 = .ok (.iinc 2 1, 3) := by decide +kernel
theorem dCo_countRead_24 : decode prog_3_method_3_code 24 = .ok (.goto (-20), 3) := by decide +kernel
theorem dCo_countRead_27 : decode prog_3_method_3_code 27 = .ok (.iload_n 1, 1) := by decide +kernel
theorem dCo_countRead_28 : decode prog_3_method_3_code 28 = .ok (.ireturn, 1) := by decide +kernel
theorem dPo_load_0 : decode prog_6_method_4_code 0 = .ok (.aload_n 0, 1) := by decide +kernel
theorem dPo_load_1 : decode prog_6_method_4_code 1 = .ok (.getfield 15, 3) := by decide +kernel
theorem dPo_load_4 : decode prog_6_method_4_code 4 = .ok (.ireturn, 1) := by decide +kernel
theorem dMa_count_0 : decode prog_5_method_3_code 0 = .ok (.aload_n 0, 1) := by decide +kernel
theorem dMa_count_1 : decode prog_5_method_3_code 1 = .ok (.getfield 24, 3) := by decide +kernel
theorem dMa_count_4 : decode prog_5_method_3_code 4 = .ok (.ireturn, 1) := by decide +kernel
theorem dSe_storedPieces_0 : decode prog_8_method_4_code 0 = .ok (.aload_n 0, 1) := by decide +kernel
theorem dSe_storedPieces_1 : decode prog_8_method_4_code 1 = .ok (.getfield 22, 3) := by decide +kernel
theorem dSe_storedPieces_4 : decode prog_8_method_4_code 4 = .ok (.ireturn, 1) := by decide +kernel
theorem dTL_about_0 : decode prog_1_method_25_code 0 = .ok (.iload_n 1, 1) := by decide +kernel
theorem dTL_about_1 : decode prog_1_method_25_code 1 = .ok (.bipush 10, 2) := by decide +kernel
theorem dTL_about_3 : decode prog_1_method_25_code 3 = .ok (.bipush 15, 2) := by decide +kernel
theorem dTL_about_5 : decode prog_1_method_25_code 5 = .ok (.invokestatic 80, 3) := by decide +kernel
theorem dTL_about_8 : decode prog_1_method_25_code 8 = .ok (.ifCond .eq 15, 3) := by decide +kernel
theorem dTL_about_11 : decode prog_1_method_25_code 11 = .ok (.aload_n 0, 1) := by decide +kernel
theorem dTL_about_12 : decode prog_1_method_25_code 12 = .ok (.getfield 19, 3) := by decide +kernel
theorem dTL_about_15 : decode prog_1_method_25_code 15 = .ok (.iload_n 1, 1) := by decide +kernel
theorem dTL_about_16 : decode prog_1_method_25_code 16 = .ok (.bipush 10, 2) := by decide +kernel
theorem dTL_about_18 : decode prog_1_method_25_code 18 = .ok (.isub, 1) := by decide +kernel
theorem dTL_about_19 : decode prog_1_method_25_code 19 = .ok (.invokevirtual 230, 3) := by decide +kernel
theorem dTL_about_22 : decode prog_1_method_25_code 22 = .ok (.ireturn, 1) := by decide +kernel
theorem dTL_about_23 : decode prog_1_method_25_code 23 = .ok (.iload_n 1, 1) := by decide +kernel
theorem dTL_about_24 : decode prog_1_method_25_code 24 = .ok (.tableswitch 109 0 7 #[48, 53, 61, 69, 77, 85, 93, 101], 48) := by decide +kernel
theorem dTL_about_72 : decode prog_1_method_25_code 72 = .ok (.aload_n 0, 1) := by decide +kernel
theorem dTL_about_73 : decode prog_1_method_25_code 73 = .ok (.getfield 72, 3) := by decide +kernel
theorem dTL_about_76 : decode prog_1_method_25_code 76 = .ok (.ireturn, 1) := by decide +kernel
theorem dTL_about_77 : decode prog_1_method_25_code 77 = .ok (.aload_n 0, 1) := by decide +kernel
theorem dTL_about_78 : decode prog_1_method_25_code 78 = .ok (.getfield 72, 3) := by decide +kernel
theorem dTL_about_81 : decode prog_1_method_25_code 81 = .ok (.bipush 90, 2) := by decide +kernel
theorem dTL_about_83 : decode prog_1_method_25_code 83 = .ok (.idiv, 1) := by decide +kernel
theorem dTL_about_84 : decode prog_1_method_25_code 84 = .ok (.ireturn, 1) := by decide +kernel
theorem dTL_about_85 : decode prog_1_method_25_code 85 = .ok (.aload_n 0, 1) := by decide +kernel
theorem dTL_about_86 : decode prog_1_method_25_code 86 = .ok (.getfield 54, 3) := by decide +kernel
theorem dTL_about_89 : decode prog_1_method_25_code 89 = .ok (.invokevirtual 167, 3) := by decide +kernel
theorem dTL_about_92 : decode prog_1_method_25_code 92 = .ok (.ireturn, 1) := by decide +kernel
theorem dTL_about_93 : decode prog_1_method_25_code 93 = .ok (.aload_n 0, 1) := by decide +kernel
theorem dTL_about_94 : decode prog_1_method_25_code 94 = .ok (.getfield 54, 3) := by decide +kernel
theorem dTL_about_97 : decode prog_1_method_25_code 97 = .ok (.invokevirtual 233, 3) := by decide +kernel
theorem dTL_about_100 : decode prog_1_method_25_code 100 = .ok (.ireturn, 1) := by decide +kernel
theorem dTL_about_101 : decode prog_1_method_25_code 101 = .ok (.aload_n 0, 1) := by decide +kernel
theorem dTL_about_102 : decode prog_1_method_25_code 102 = .ok (.getfield 61, 3) := by decide +kernel
theorem dTL_about_105 : decode prog_1_method_25_code 105 = .ok (.invokevirtual 236, 3) := by decide +kernel
theorem dTL_about_108 : decode prog_1_method_25_code 108 = .ok (.ireturn, 1) := by decide +kernel
theorem dTL_about_109 : decode prog_1_method_25_code 109 = .ok (.aload_n 0, 1) := by decide +kernel
theorem dTL_about_110 : decode prog_1_method_25_code 110 = .ok (.getfield 19, 3) := by decide +kernel
theorem dTL_about_113 : decode prog_1_method_25_code 113 = .ok (.invokevirtual 237, 3) := by decide +kernel
theorem dTL_about_116 : decode prog_1_method_25_code 116 = .ok (.ireturn, 1) := by decide +kernel
theorem dTL_about_117 : decode prog_1_method_25_code 117 = .ok (.aload_n 0, 1) := by decide +kernel
theorem dTL_about_118 : decode prog_1_method_25_code 118 = .ok (.getfield 26, 3) := by decide +kernel
theorem dTL_about_121 : decode prog_1_method_25_code 121 = .ok (.invokevirtual 113, 3) := by decide +kernel
theorem dTL_about_124 : decode prog_1_method_25_code 124 = .ok (.ireturn, 1) := by decide +kernel
theorem dTL_about_125 : decode prog_1_method_25_code 125 = .ok (.aload_n 0, 1) := by decide +kernel
theorem dTL_about_126 : decode prog_1_method_25_code 126 = .ok (.getfield 40, 3) := by decide +kernel
theorem dTL_about_129 : decode prog_1_method_25_code 129 = .ok (.invokevirtual 240, 3) := by decide +kernel
theorem dTL_about_132 : decode prog_1_method_25_code 132 = .ok (.ireturn, 1) := by decide +kernel
theorem dTL_about_133 : decode prog_1_method_25_code 133 = .ok (.iconst (-1), 1) := by decide +kernel
theorem dTL_about_134 : decode prog_1_method_25_code 134 = .ok (.ireturn, 1) := by decide +kernel
theorem dMM_isIn_0 : decode prog_12_method_2_code 0 = .ok (.iload_n 0, 1) := by decide +kernel
theorem dMM_isIn_1 : decode prog_12_method_2_code 1 = .ok (.iload_n 1, 1) := by decide +kernel
theorem dMM_isIn_2 : decode prog_12_method_2_code 2 = .ok (.if_icmp .lt 12, 3) := by decide +kernel
theorem dMM_isIn_5 : decode prog_12_method_2_code 5 = .ok (.iload_n 0, 1) := by decide +kernel
theorem dMM_isIn_6 : decode prog_12_method_2_code 6 = .ok (.iload_n 2, 1) := by decide +kernel
theorem dMM_isIn_7 : decode prog_12_method_2_code 7 = .ok (.if_icmp .gt 7, 3) := by decide +kernel
theorem dMM_isIn_10 : decode prog_12_method_2_code 10 = .ok (.iconst 1, 1) := by decide +kernel
theorem dMM_isIn_11 : decode prog_12_method_2_code 11 = .ok (.goto 4, 3) := by decide +kernel
theorem dMM_isIn_14 : decode prog_12_method_2_code 14 = .ok (.iconst 0, 1) := by decide +kernel
theorem dMM_isIn_15 : decode prog_12_method_2_code 15 = .ok (.ireturn, 1) := by decide +kernel
theorem dMM_isPlace_0 : decode prog_12_method_3_code 0 = .ok (.iload_n 0, 1) := by decide +kernel
theorem dMM_isPlace_1 : decode prog_12_method_3_code 1 = .ok (.iconst 0, 1) := by decide +kernel
theorem dMM_isPlace_2 : decode prog_12_method_3_code 2 = .ok (.bipush 15, 2) := by decide +kernel
theorem dMM_isPlace_4 : decode prog_12_method_3_code 4 = .ok (.invokestatic 109, 3) := by decide +kernel
theorem dMM_isPlace_7 : decode prog_12_method_3_code 7 = .ok (.ireturn, 1) := by decide +kernel
theorem dMM_isTown_0 : decode prog_12_method_4_code 0 = .ok (.iload_n 0, 1) := by decide +kernel
theorem dMM_isTown_1 : decode prog_12_method_4_code 1 = .ok (.iconst 1, 1) := by decide +kernel
theorem dMM_isTown_2 : decode prog_12_method_4_code 2 = .ok (.bipush 15, 2) := by decide +kernel
theorem dMM_isTown_4 : decode prog_12_method_4_code 4 = .ok (.invokestatic 109, 3) := by decide +kernel
theorem dMM_isTown_7 : decode prog_12_method_4_code 7 = .ok (.ireturn, 1) := by decide +kernel
theorem dMM_isGood_0 : decode prog_12_method_5_code 0 = .ok (.iload_n 0, 1) := by decide +kernel
theorem dMM_isGood_1 : decode prog_12_method_5_code 1 = .ok (.iconst 0, 1) := by decide +kernel
theorem dMM_isGood_2 : decode prog_12_method_5_code 2 = .ok (.iconst 5, 1) := by decide +kernel
theorem dMM_isGood_3 : decode prog_12_method_5_code 3 = .ok (.invokestatic 109, 3) := by decide +kernel
theorem dMM_isGood_6 : decode prog_12_method_5_code 6 = .ok (.ireturn, 1) := by decide +kernel
theorem dMM_road_0 : decode prog_12_method_6_code 0 = .ok (.iload_n 1, 1) := by decide +kernel
theorem dMM_road_1 : decode prog_12_method_6_code 1 = .ok (.invokestatic 113, 3) := by decide +kernel
theorem dMM_road_4 : decode prog_12_method_6_code 4 = .ok (.ifCond .eq 25, 3) := by decide +kernel
theorem dMM_road_7 : decode prog_12_method_6_code 7 = .ok (.iload_n 2, 1) := by decide +kernel
theorem dMM_road_8 : decode prog_12_method_6_code 8 = .ok (.invokestatic 113, 3) := by decide +kernel
theorem dMM_road_11 : decode prog_12_method_6_code 11 = .ok (.ifCond .eq 18, 3) := by decide +kernel
theorem dMM_road_14 : decode prog_12_method_6_code 14 = .ok (.iload_n 1, 1) := by decide +kernel
theorem dMM_road_15 : decode prog_12_method_6_code 15 = .ok (.iload_n 2, 1) := by decide +kernel
theorem dMM_road_16 : decode prog_12_method_6_code 16 = .ok (.if_icmp .eq 13, 3) := by decide +kernel
theorem dMM_road_19 : decode prog_12_method_6_code 19 = .ok (.iload_n 3, 1) := by decide +kernel
theorem dMM_road_20 : decode prog_12_method_6_code 20 = .ok (.iconst 0, 1) := by decide +kernel
theorem dMM_road_21 : decode prog_12_method_6_code 21 = .ok (.bipush 30, 2) := by decide +kernel
theorem dMM_road_23 : decode prog_12_method_6_code 23 = .ok (.invokestatic 109, 3) := by decide +kernel
theorem dMM_road_26 : decode prog_12_method_6_code 26 = .ok (.ifCond .ne 5, 3) := by decide +kernel
theorem dMM_road_29 : decode prog_12_method_6_code 29 = .ok (.iconst 0, 1) := by decide +kernel
theorem dMM_road_30 : decode prog_12_method_6_code 30 = .ok (.ireturn, 1) := by decide +kernel
theorem dMM_road_31 : decode prog_12_method_6_code 31 = .ok (.aload_n 0, 1) := by decide +kernel
theorem dMM_road_32 : decode prog_12_method_6_code 32 = .ok (.getfield 7, 3) := by decide +kernel
theorem dMM_road_35 : decode prog_12_method_6_code 35 = .ok (.bipush 16, 2) := by decide +kernel
theorem dMM_road_37 : decode prog_12_method_6_code 37 = .ok (.iload_n 1, 1) := by decide +kernel
theorem dMM_road_38 : decode prog_12_method_6_code 38 = .ok (.imul, 1) := by decide +kernel
theorem dMM_road_39 : decode prog_12_method_6_code 39 = .ok (.iload_n 2, 1) := by decide +kernel
theorem dMM_road_40 : decode prog_12_method_6_code 40 = .ok (.iadd, 1) := by decide +kernel
theorem dMM_road_41 : decode prog_12_method_6_code 41 = .ok (.iload_n 3, 1) := by decide +kernel
theorem dMM_road_42 : decode prog_12_method_6_code 42 = .ok (.iastore, 1) := by decide +kernel
theorem dMM_road_43 : decode prog_12_method_6_code 43 = .ok (.aload_n 0, 1) := by decide +kernel
theorem dMM_road_44 : decode prog_12_method_6_code 44 = .ok (.getfield 7, 3) := by decide +kernel
theorem dMM_road_47 : decode prog_12_method_6_code 47 = .ok (.bipush 16, 2) := by decide +kernel
theorem dMM_road_49 : decode prog_12_method_6_code 49 = .ok (.iload_n 2, 1) := by decide +kernel
theorem dMM_road_50 : decode prog_12_method_6_code 50 = .ok (.imul, 1) := by decide +kernel
theorem dMM_road_51 : decode prog_12_method_6_code 51 = .ok (.iload_n 1, 1) := by decide +kernel
theorem dMM_road_52 : decode prog_12_method_6_code 52 = .ok (.iadd, 1) := by decide +kernel
theorem dMM_road_53 : decode prog_12_method_6_code 53 = .ok (.iload_n 3, 1) := by decide +kernel
theorem dMM_road_54 : decode prog_12_method_6_code 54 = .ok (.iastore, 1) := by decide +kernel
theorem dMM_road_55 : decode prog_12_method_6_code 55 = .ok (.iconst 1, 1) := by decide +kernel
theorem dMM_road_56 : decode prog_12_method_6_code 56 = .ok (.ireturn, 1) := by decide +kernel
theorem dMM_wayOf_0 : decode prog_12_method_7_code 0 = .ok (.iconst 0, 1) := by decide +kernel
theorem dMM_wayOf_1 : decode prog_12_method_7_code 1 = .ok (.istore_n 3, 1) := by decide +kernel
theorem dMM_wayOf_2 : decode prog_12_method_7_code 2 = .ok (.iload_n 3, 1) := by decide +kernel
theorem dMM_wayOf_3 : decode prog_12_method_7_code 3 = .ok (.sipush 256, 3) := by decide +kernel
theorem dMM_wayOf_6 : decode prog_12_method_7_code 6 = .ok (.if_icmp .ge 50, 3) := by decide +kernel
theorem dMM_wayOf_9 : decode prog_12_method_7_code 9 = .ok (.aload_n 0, 1) := by decide +kernel
theorem dMM_wayOf_10 : decode prog_12_method_7_code 10 = .ok (.getfield 13, 3) := by decide +kernel
theorem dMM_wayOf_13 : decode prog_12_method_7_code 13 = .ok (.iload_n 3, 1) := by decide +kernel
theorem dMM_wayOf_14 : decode prog_12_method_7_code 14 = .ok (.iload_n 3, 1) := by decide +kernel
theorem dMM_wayOf_15 : decode prog_12_method_7_code 15 = .ok (.bipush 16, 2) := by decide +kernel
theorem dMM_wayOf_17 : decode prog_12_method_7_code 17 = .ok (.idiv, 1) := by decide +kernel
theorem dMM_wayOf_18 : decode prog_12_method_7_code 18 = .ok (.iload_n 3, 1) := by decide +kernel
theorem dMM_wayOf_19 : decode prog_12_method_7_code 19 = .ok (.bipush 16, 2) := by decide +kernel
theorem dMM_wayOf_21 : decode prog_12_method_7_code 21 = .ok (.irem, 1) := by decide +kernel
theorem dMM_wayOf_22 : decode prog_12_method_7_code 22 = .ok (.if_icmp .ne 7, 3) := by decide +kernel
theorem dMM_wayOf_25 : decode prog_12_method_7_code 25 = .ok (.iconst 0, 1) := by decide +kernel
theorem dMM_wayOf_26 : decode prog_12_method_7_code 26 = .ok (.goto 23, 3) := by decide +kernel
theorem dMM_wayOf_29 : decode prog_12_method_7_code 29 = .ok (.aload_n 0, 1) := by decide +kernel
theorem dMM_wayOf_30 : decode prog_12_method_7_code 30 = .ok (.getfield 7, 3) := by decide +kernel
theorem dMM_wayOf_33 : decode prog_12_method_7_code 33 = .ok (.iload_n 3, 1) := by decide +kernel
theorem dMM_wayOf_34 : decode prog_12_method_7_code 34 = .ok (.iaload, 1) := by decide +kernel
theorem dMM_wayOf_35 : decode prog_12_method_7_code 35 = .ok (.ifCond .ne 8, 3) := by decide +kernel
theorem dMM_wayOf_38 : decode prog_12_method_7_code 38 = .ok (.ldc 117, 2) := by decide +kernel
theorem dMM_wayOf_40 : decode prog_12_method_7_code 40 = .ok (.goto 9, 3) := by decide +kernel
theorem dMM_wayOf_43 : decode prog_12_method_7_code 43 = .ok (.aload_n 0, 1) := by decide +kernel
theorem dMM_wayOf_44 : decode prog_12_method_7_code 44 = .ok (.getfield 7, 3) := by decide +kernel
theorem dMM_wayOf_47 : decode prog_12_method_7_code 47 = .ok (.iload_n 3, 1) := by decide +kernel
theorem dMM_wayOf_48 : decode prog_12_method_7_code 48 = .ok (.iaload, 1) := by decide +kernel
theorem dMM_wayOf_49 : decode prog_12_method_7_code 49 = .ok (.iastore, 1) := by decide +kernel
theorem dMM_wayOf_50 : decode prog_12_method_7_code 50 = .ok (.iinc 3 1, 3) := by decide +kernel
theorem dMM_wayOf_53 : decode prog_12_method_7_code 53 = .ok (.goto (-51), 3) := by decide +kernel
theorem dMM_wayOf_56 : decode prog_12_method_7_code 56 = .ok (.iconst 0, 1) := by decide +kernel
theorem dMM_wayOf_57 : decode prog_12_method_7_code 57 = .ok (.istore_n 3, 1) := by decide +kernel
theorem dMM_wayOf_58 : decode prog_12_method_7_code 58 = .ok (.iload_n 3, 1) := by decide +kernel
theorem dMM_wayOf_59 : decode prog_12_method_7_code 59 = .ok (.bipush 16, 2) := by decide +kernel
theorem dMM_wayOf_61 : decode prog_12_method_7_code 61 = .ok (.if_icmp .ge 80, 3) := by decide +kernel
theorem dMM_wayOf_64 : decode prog_12_method_7_code 64 = .ok (.iconst 0, 1) := by decide +kernel
theorem dMM_wayOf_65 : decode prog_12_method_7_code 65 = .ok (.istore 4, 2) := by decide +kernel
theorem dMM_wayOf_67 : decode prog_12_method_7_code 67 = .ok (.iload 4, 2) := by decide +kernel
theorem dMM_wayOf_69 : decode prog_12_method_7_code 69 = .ok (.sipush 256, 3) := by decide +kernel
theorem dMM_wayOf_72 : decode prog_12_method_7_code 72 = .ok (.if_icmp .ge 63, 3) := by decide +kernel
theorem dMM_wayOf_75 : decode prog_12_method_7_code 75 = .ok (.aload_n 0, 1) := by decide +kernel
theorem dMM_wayOf_76 : decode prog_12_method_7_code 76 = .ok (.getfield 13, 3) := by decide +kernel
theorem dMM_wayOf_79 : decode prog_12_method_7_code 79 = .ok (.iload 4, 2) := by decide +kernel
theorem dMM_wayOf_81 : decode prog_12_method_7_code 81 = .ok (.bipush 16, 2) := by decide +kernel
theorem dMM_wayOf_83 : decode prog_12_method_7_code 83 = .ok (.idiv, 1) := by decide +kernel
theorem dMM_wayOf_84 : decode prog_12_method_7_code 84 = .ok (.bipush 16, 2) := by decide +kernel
theorem dMM_wayOf_86 : decode prog_12_method_7_code 86 = .ok (.imul, 1) := by decide +kernel
theorem dMM_wayOf_87 : decode prog_12_method_7_code 87 = .ok (.iload_n 3, 1) := by decide +kernel
theorem dMM_wayOf_88 : decode prog_12_method_7_code 88 = .ok (.iadd, 1) := by decide +kernel
theorem dMM_wayOf_89 : decode prog_12_method_7_code 89 = .ok (.iaload, 1) := by decide +kernel
theorem dMM_wayOf_90 : decode prog_12_method_7_code 90 = .ok (.aload_n 0, 1) := by decide +kernel
theorem dMM_wayOf_91 : decode prog_12_method_7_code 91 = .ok (.getfield 13, 3) := by decide +kernel
theorem dMM_wayOf_94 : decode prog_12_method_7_code 94 = .ok (.bipush 16, 2) := by decide +kernel
theorem dMM_wayOf_96 : decode prog_12_method_7_code 96 = .ok (.iload_n 3, 1) := by decide +kernel
theorem dMM_wayOf_97 : decode prog_12_method_7_code 97 = .ok (.imul, 1) := by decide +kernel
theorem dMM_wayOf_98 : decode prog_12_method_7_code 98 = .ok (.iload 4, 2) := by decide +kernel
theorem dMM_wayOf_100 : decode prog_12_method_7_code 100 = .ok (.bipush 16, 2) := by decide +kernel
theorem dMM_wayOf_102 : decode prog_12_method_7_code 102 = .ok (.irem, 1) := by decide +kernel
theorem dMM_wayOf_103 : decode prog_12_method_7_code 103 = .ok (.iadd, 1) := by decide +kernel
theorem dMM_wayOf_104 : decode prog_12_method_7_code 104 = .ok (.iaload, 1) := by decide +kernel
theorem dMM_wayOf_105 : decode prog_12_method_7_code 105 = .ok (.iadd, 1) := by decide +kernel
theorem dMM_wayOf_106 : decode prog_12_method_7_code 106 = .ok (.istore 5, 2) := by decide +kernel
theorem dMM_wayOf_108 : decode prog_12_method_7_code 108 = .ok (.iload 5, 2) := by decide +kernel
theorem dMM_wayOf_110 : decode prog_12_method_7_code 110 = .ok (.aload_n 0, 1) := by decide +kernel
theorem dMM_wayOf_111 : decode prog_12_method_7_code 111 = .ok (.getfield 13, 3) := by decide +kernel
theorem dMM_wayOf_114 : decode prog_12_method_7_code 114 = .ok (.iload 4, 2) := by decide +kernel
theorem dMM_wayOf_116 : decode prog_12_method_7_code 116 = .ok (.iaload, 1) := by decide +kernel
theorem dMM_wayOf_117 : decode prog_12_method_7_code 117 = .ok (.if_icmp .ge 12, 3) := by decide +kernel
theorem dMM_wayOf_120 : decode prog_12_method_7_code 120 = .ok (.aload_n 0, 1) := by decide +kernel
theorem dMM_wayOf_121 : decode prog_12_method_7_code 121 = .ok (.getfield 13, 3) := by decide +kernel
theorem dMM_wayOf_124 : decode prog_12_method_7_code 124 = .ok (.iload 4, 2) := by decide +kernel
theorem dMM_wayOf_126 : decode prog_12_method_7_code 126 = .ok (.iload 5, 2) := by decide +kernel
theorem dMM_wayOf_128 : decode prog_12_method_7_code 128 = .ok (.iastore, 1) := by decide +kernel
theorem dMM_wayOf_129 : decode prog_12_method_7_code 129 = .ok (.iinc 4 1, 3) := by decide +kernel
theorem dMM_wayOf_132 : decode prog_12_method_7_code 132 = .ok (.goto (-65), 3) := by decide +kernel
theorem dMM_wayOf_135 : decode prog_12_method_7_code 135 = .ok (.iinc 3 1, 3) := by decide +kernel
theorem dMM_wayOf_138 : decode prog_12_method_7_code 138 = .ok (.goto (-80), 3) := by decide +kernel
theorem dMM_wayOf_141 : decode prog_12_method_7_code 141 = .ok (.aload_n 0, 1) := by decide +kernel
theorem dMM_wayOf_142 : decode prog_12_method_7_code 142 = .ok (.getfield 13, 3) := by decide +kernel
theorem dMM_wayOf_145 : decode prog_12_method_7_code 145 = .ok (.bipush 16, 2) := by decide +kernel
theorem dMM_wayOf_147 : decode prog_12_method_7_code 147 = .ok (.iload_n 1, 1) := by decide +kernel
theorem dMM_wayOf_148 : decode prog_12_method_7_code 148 = .ok (.imul, 1) := by decide +kernel
theorem dMM_wayOf_149 : decode prog_12_method_7_code 149 = .ok (.iload_n 2, 1) := by decide +kernel
theorem dMM_wayOf_150 : decode prog_12_method_7_code 150 = .ok (.iadd, 1) := by decide +kernel
theorem dMM_wayOf_151 : decode prog_12_method_7_code 151 = .ok (.iaload, 1) := by decide +kernel
theorem dMM_wayOf_152 : decode prog_12_method_7_code 152 = .ok (.ldc 117, 2) := by decide +kernel
theorem dMM_wayOf_154 : decode prog_12_method_7_code 154 = .ok (.if_icmp .lt 7, 3) := by decide +kernel
theorem dMM_wayOf_157 : decode prog_12_method_7_code 157 = .ok (.iconst (-1), 1) := by decide +kernel
theorem dMM_wayOf_158 : decode prog_12_method_7_code 158 = .ok (.goto 14, 3) := by decide +kernel
theorem dMM_wayOf_161 : decode prog_12_method_7_code 161 = .ok (.aload_n 0, 1) := by decide +kernel
theorem dMM_wayOf_162 : decode prog_12_method_7_code 162 = .ok (.getfield 13, 3) := by decide +kernel
theorem dMM_wayOf_165 : decode prog_12_method_7_code 165 = .ok (.bipush 16, 2) := by decide +kernel
theorem dMM_wayOf_167 : decode prog_12_method_7_code 167 = .ok (.iload_n 1, 1) := by decide +kernel
theorem dMM_wayOf_168 : decode prog_12_method_7_code 168 = .ok (.imul, 1) := by decide +kernel
theorem dMM_wayOf_169 : decode prog_12_method_7_code 169 = .ok (.iload_n 2, 1) := by decide +kernel
theorem dMM_wayOf_170 : decode prog_12_method_7_code 170 = .ok (.iadd, 1) := by decide +kernel
theorem dMM_wayOf_171 : decode prog_12_method_7_code 171 = .ok (.iaload, 1) := by decide +kernel
theorem dMM_wayOf_172 : decode prog_12_method_7_code 172 = .ok (.ireturn, 1) := by decide +kernel
theorem dMM_way_0 : decode prog_12_method_8_code 0 = .ok (.iload_n 1, 1) := by decide +kernel
theorem dMM_way_1 : decode prog_12_method_8_code 1 = .ok (.invokestatic 113, 3) := by decide +kernel
theorem dMM_way_4 : decode prog_12_method_8_code 4 = .ok (.ifCond .eq 19, 3) := by decide +kernel
theorem dMM_way_7 : decode prog_12_method_8_code 7 = .ok (.iload_n 2, 1) := by decide +kernel
theorem dMM_way_8 : decode prog_12_method_8_code 8 = .ok (.invokestatic 113, 3) := by decide +kernel
theorem dMM_way_11 : decode prog_12_method_8_code 11 = .ok (.ifCond .eq 12, 3) := by decide +kernel
theorem dMM_way_14 : decode prog_12_method_8_code 14 = .ok (.aload_n 0, 1) := by decide +kernel
theorem dMM_way_15 : decode prog_12_method_8_code 15 = .ok (.iload_n 1, 1) := by decide +kernel
theorem dMM_way_16 : decode prog_12_method_8_code 16 = .ok (.iload_n 2, 1) := by decide +kernel
theorem dMM_way_17 : decode prog_12_method_8_code 17 = .ok (.invokevirtual 118, 3) := by decide +kernel
theorem dMM_way_20 : decode prog_12_method_8_code 20 = .ok (.goto 4, 3) := by decide +kernel
theorem dMM_way_23 : decode prog_12_method_8_code 23 = .ok (.iconst (-1), 1) := by decide +kernel
theorem dMM_way_24 : decode prog_12_method_8_code 24 = .ok (.ireturn, 1) := by decide +kernel
theorem dMM_weight_0 : decode prog_12_method_9_code 0 = .ok (.iload_n 1, 1) := by decide +kernel
theorem dMM_weight_1 : decode prog_12_method_9_code 1 = .ok (.iconst (-1), 1) := by decide +kernel
theorem dMM_weight_2 : decode prog_12_method_9_code 2 = .ok (.if_icmp .ne 20, 3) := by decide +kernel
theorem dMM_weight_5 : decode prog_12_method_9_code 5 = .ok (.iload_n 2, 1) := by decide +kernel
theorem dMM_weight_6 : decode prog_12_method_9_code 6 = .ok (.iconst 1, 1) := by decide +kernel
theorem dMM_weight_7 : decode prog_12_method_9_code 7 = .ok (.bipush 100, 2) := by decide +kernel
theorem dMM_weight_9 : decode prog_12_method_9_code 9 = .ok (.invokestatic 109, 3) := by decide +kernel
theorem dMM_weight_12 : decode prog_12_method_9_code 12 = .ok (.ifCond .eq 10, 3) := by decide +kernel
theorem dMM_weight_15 : decode prog_12_method_9_code 15 = .ok (.aload_n 0, 1) := by decide +kernel
theorem dMM_weight_16 : decode prog_12_method_9_code 16 = .ok (.iload_n 2, 1) := by decide +kernel
theorem dMM_weight_17 : decode prog_12_method_9_code 17 = .ok (.putfield 19, 3) := by decide +kernel
theorem dMM_weight_20 : decode prog_12_method_9_code 20 = .ok (.iconst 1, 1) := by decide +kernel
theorem dMM_weight_21 : decode prog_12_method_9_code 21 = .ok (.ireturn, 1) := by decide +kernel
theorem dMM_weight_22 : decode prog_12_method_9_code 22 = .ok (.iload_n 1, 1) := by decide +kernel
theorem dMM_weight_23 : decode prog_12_method_9_code 23 = .ok (.invokestatic 122, 3) := by decide +kernel
theorem dMM_weight_26 : decode prog_12_method_9_code 26 = .ok (.ifCond .eq 13, 3) := by decide +kernel
theorem dMM_weight_29 : decode prog_12_method_9_code 29 = .ok (.iload_n 2, 1) := by decide +kernel
theorem dMM_weight_30 : decode prog_12_method_9_code 30 = .ok (.iconst 1, 1) := by decide +kernel
theorem dMM_weight_31 : decode prog_12_method_9_code 31 = .ok (.bipush 50, 2) := by decide +kernel
theorem dMM_weight_33 : decode prog_12_method_9_code 33 = .ok (.invokestatic 109, 3) := by decide +kernel
theorem dMM_weight_36 : decode prog_12_method_9_code 36 = .ok (.ifCond .ne 5, 3) := by decide +kernel
theorem dMM_weight_39 : decode prog_12_method_9_code 39 = .ok (.iconst 0, 1) := by decide +kernel
theorem dMM_weight_40 : decode prog_12_method_9_code 40 = .ok (.ireturn, 1) := by decide +kernel
theorem dMM_weight_41 : decode prog_12_method_9_code 41 = .ok (.aload_n 0, 1) := by decide +kernel
theorem dMM_weight_42 : decode prog_12_method_9_code 42 = .ok (.getfield 16, 3) := by decide +kernel
theorem dMM_weight_45 : decode prog_12_method_9_code 45 = .ok (.iload_n 1, 1) := by decide +kernel
theorem dMM_weight_46 : decode prog_12_method_9_code 46 = .ok (.iload_n 2, 1) := by decide +kernel
theorem dMM_weight_47 : decode prog_12_method_9_code 47 = .ok (.iastore, 1) := by decide +kernel
theorem dMM_weight_48 : decode prog_12_method_9_code 48 = .ok (.iconst 1, 1) := by decide +kernel
theorem dMM_weight_49 : decode prog_12_method_9_code 49 = .ok (.ireturn, 1) := by decide +kernel
theorem dMM_carriersOf_0 : decode prog_12_method_10_code 0 = .ok (.aload_n 0, 1) := by decide +kernel
theorem dMM_carriersOf_1 : decode prog_12_method_10_code 1 = .ok (.getfield 19, 3) := by decide +kernel
theorem dMM_carriersOf_4 : decode prog_12_method_10_code 4 = .ok (.aload_n 0, 1) := by decide +kernel
theorem dMM_carriersOf_5 : decode prog_12_method_10_code 5 = .ok (.getfield 16, 3) := by decide +kernel
theorem dMM_carriersOf_8 : decode prog_12_method_10_code 8 = .ok (.iload_n 1, 1) := by decide +kernel
theorem dMM_carriersOf_9 : decode prog_12_method_10_code 9 = .ok (.iaload, 1) := by decide +kernel
theorem dMM_carriersOf_10 : decode prog_12_method_10_code 10 = .ok (.idiv, 1) := by decide +kernel
theorem dMM_carriersOf_11 : decode prog_12_method_10_code 11 = .ok (.iconst 1, 1) := by decide +kernel
theorem dMM_carriersOf_12 : decode prog_12_method_10_code 12 = .ok (.if_icmp .ge 7, 3) := by decide +kernel
theorem dMM_carriersOf_15 : decode prog_12_method_10_code 15 = .ok (.iconst 1, 1) := by decide +kernel
theorem dMM_carriersOf_16 : decode prog_12_method_10_code 16 = .ok (.goto 14, 3) := by decide +kernel
theorem dMM_carriersOf_19 : decode prog_12_method_10_code 19 = .ok (.aload_n 0, 1) := by decide +kernel
theorem dMM_carriersOf_20 : decode prog_12_method_10_code 20 = .ok (.getfield 19, 3) := by decide +kernel
theorem dMM_carriersOf_23 : decode prog_12_method_10_code 23 = .ok (.aload_n 0, 1) := by decide +kernel
theorem dMM_carriersOf_24 : decode prog_12_method_10_code 24 = .ok (.getfield 16, 3) := by decide +kernel
theorem dMM_carriersOf_27 : decode prog_12_method_10_code 27 = .ok (.iload_n 1, 1) := by decide +kernel
theorem dMM_carriersOf_28 : decode prog_12_method_10_code 28 = .ok (.iaload, 1) := by decide +kernel
theorem dMM_carriersOf_29 : decode prog_12_method_10_code 29 = .ok (.idiv, 1) := by decide +kernel
theorem dMM_carriersOf_30 : decode prog_12_method_10_code 30 = .ok (.istore_n 3, 1) := by decide +kernel
theorem dMM_carriersOf_31 : decode prog_12_method_10_code 31 = .ok (.iload_n 2, 1) := by decide +kernel
theorem dMM_carriersOf_32 : decode prog_12_method_10_code 32 = .ok (.iload_n 3, 1) := by decide +kernel
theorem dMM_carriersOf_33 : decode prog_12_method_10_code 33 = .ok (.iadd, 1) := by decide +kernel
theorem dMM_carriersOf_34 : decode prog_12_method_10_code 34 = .ok (.iconst 1, 1) := by decide +kernel
theorem dMM_carriersOf_35 : decode prog_12_method_10_code 35 = .ok (.isub, 1) := by decide +kernel
theorem dMM_carriersOf_36 : decode prog_12_method_10_code 36 = .ok (.iload_n 3, 1) := by decide +kernel
theorem dMM_carriersOf_37 : decode prog_12_method_10_code 37 = .ok (.idiv, 1) := by decide +kernel
theorem dMM_carriersOf_38 : decode prog_12_method_10_code 38 = .ok (.ireturn, 1) := by decide +kernel
theorem dMM_carriers_0 : decode prog_12_method_11_code 0 = .ok (.iload_n 1, 1) := by decide +kernel
theorem dMM_carriers_1 : decode prog_12_method_11_code 1 = .ok (.invokestatic 122, 3) := by decide +kernel
theorem dMM_carriers_4 : decode prog_12_method_11_code 4 = .ok (.ifCond .eq 23, 3) := by decide +kernel
theorem dMM_carriers_7 : decode prog_12_method_11_code 7 = .ok (.iload_n 2, 1) := by decide +kernel
theorem dMM_carriers_8 : decode prog_12_method_11_code 8 = .ok (.iconst 0, 1) := by decide +kernel
theorem dMM_carriers_9 : decode prog_12_method_11_code 9 = .ok (.sipush 9999, 3) := by decide +kernel
theorem dMM_carriers_12 : decode prog_12_method_11_code 12 = .ok (.invokestatic 109, 3) := by decide +kernel
theorem dMM_carriers_15 : decode prog_12_method_11_code 15 = .ok (.ifCond .eq 12, 3) := by decide +kernel
theorem dMM_carriers_18 : decode prog_12_method_11_code 18 = .ok (.aload_n 0, 1) := by decide +kernel
theorem dMM_carriers_19 : decode prog_12_method_11_code 19 = .ok (.iload_n 1, 1) := by decide +kernel
theorem dMM_carriers_20 : decode prog_12_method_11_code 20 = .ok (.iload_n 2, 1) := by decide +kernel
theorem dMM_carriers_21 : decode prog_12_method_11_code 21 = .ok (.invokevirtual 125, 3) := by decide +kernel
theorem dMM_carriers_24 : decode prog_12_method_11_code 24 = .ok (.goto 4, 3) := by decide +kernel
theorem dMM_carriers_27 : decode prog_12_method_11_code 27 = .ok (.iconst (-1), 1) := by decide +kernel
theorem dMM_carriers_28 : decode prog_12_method_11_code 28 = .ok (.ireturn, 1) := by decide +kernel
theorem dMM_four_0 : decode prog_12_method_12_code 0 = .ok (.bipush 24, 2) := by decide +kernel
theorem dMM_four_2 : decode prog_12_method_12_code 2 = .ok (.istore_n 2, 1) := by decide +kernel
theorem dMM_four_3 : decode prog_12_method_12_code 3 = .ok (.iload_n 2, 1) := by decide +kernel
theorem dMM_four_4 : decode prog_12_method_12_code 4 = .ok (.ifCond .lt 35, 3) := by decide +kernel
theorem dMM_four_7 : decode prog_12_method_12_code 7 = .ok (.aload_n 0, 1) := by decide +kernel
theorem dMM_four_8 : decode prog_12_method_12_code 8 = .ok (.getfield 70, 3) := by decide +kernel
theorem dMM_four_11 : decode prog_12_method_12_code 11 = .ok (.aload_n 0, 1) := by decide +kernel
theorem dMM_four_12 : decode prog_12_method_12_code 12 = .ok (.getfield 128, 3) := by decide +kernel
theorem dMM_four_15 : decode prog_12_method_12_code 15 = .ok (.iload_n 1, 1) := by decide +kernel
theorem dMM_four_16 : decode prog_12_method_12_code 16 = .ok (.iload_n 2, 1) := by decide +kernel
theorem dMM_four_17 : decode prog_12_method_12_code 17 = .ok (.ishr, 1) := by decide +kernel
theorem dMM_four_18 : decode prog_12_method_12_code 18 = .ok (.sipush 255, 3) := by decide +kernel
theorem dMM_four_21 : decode prog_12_method_12_code 21 = .ok (.iand, 1) := by decide +kernel
theorem dMM_four_22 : decode prog_12_method_12_code 22 = .ok (.iastore, 1) := by decide +kernel
theorem dMM_four_23 : decode prog_12_method_12_code 23 = .ok (.aload_n 0, 1) := by decide +kernel
theorem dMM_four_24 : decode prog_12_method_12_code 24 = .ok (.dup, 1) := by decide +kernel
theorem dMM_four_25 : decode prog_12_method_12_code 25 = .ok (.getfield 128, 3) := by decide +kernel
theorem dMM_four_28 : decode prog_12_method_12_code 28 = .ok (.iconst 1, 1) := by decide +kernel
theorem dMM_four_29 : decode prog_12_method_12_code 29 = .ok (.iadd, 1) := by decide +kernel
theorem dMM_four_30 : decode prog_12_method_12_code 30 = .ok (.putfield 128, 3) := by decide +kernel
theorem dMM_four_33 : decode prog_12_method_12_code 33 = .ok (.iinc 2 (-8), 3) := by decide +kernel
theorem dMM_four_36 : decode prog_12_method_12_code 36 = .ok (.goto (-33), 3) := by decide +kernel
theorem dMM_four_39 : decode prog_12_method_12_code 39 = .ok (.return_, 1) := by decide +kernel
theorem dMM_feed_0 : decode prog_12_method_13_code 0 = .ok (.aload_n 0, 1) := by decide +kernel
theorem dMM_feed_1 : decode prog_12_method_13_code 1 = .ok (.getfield 128, 3) := by decide +kernel
theorem dMM_feed_4 : decode prog_12_method_13_code 4 = .ok (.bipush 20, 2) := by decide +kernel
theorem dMM_feed_6 : decode prog_12_method_13_code 6 = .ok (.iadd, 1) := by decide +kernel
theorem dMM_feed_7 : decode prog_12_method_13_code 7 = .ok (.sipush 300, 3) := by decide +kernel
theorem dMM_feed_10 : decode prog_12_method_13_code 10 = .ok (.if_icmp .le 5, 3) := by decide +kernel
theorem dMM_feed_13 : decode prog_12_method_13_code 13 = .ok (.iconst (-1), 1) := by decide +kernel
theorem dMM_feed_14 : decode prog_12_method_13_code 14 = .ok (.ireturn, 1) := by decide +kernel
theorem dMM_feed_15 : decode prog_12_method_13_code 15 = .ok (.aload_n 0, 1) := by decide +kernel
theorem dMM_feed_16 : decode prog_12_method_13_code 16 = .ok (.iload_n 1, 1) := by decide +kernel
theorem dMM_feed_17 : decode prog_12_method_13_code 17 = .ok (.invokevirtual 131, 3) := by decide +kernel
theorem dMM_feed_20 : decode prog_12_method_13_code 20 = .ok (.aload_n 0, 1) := by decide +kernel
theorem dMM_feed_21 : decode prog_12_method_13_code 21 = .ok (.iload_n 2, 1) := by decide +kernel
theorem dMM_feed_22 : decode prog_12_method_13_code 22 = .ok (.invokevirtual 131, 3) := by decide +kernel
theorem dMM_feed_25 : decode prog_12_method_13_code 25 = .ok (.aload_n 0, 1) := by decide +kernel
theorem dMM_feed_26 : decode prog_12_method_13_code 26 = .ok (.iload_n 3, 1) := by decide +kernel
theorem dMM_feed_27 : decode prog_12_method_13_code 27 = .ok (.invokevirtual 131, 3) := by decide +kernel
theorem dMM_feed_30 : decode prog_12_method_13_code 30 = .ok (.aload_n 0, 1) := by decide +kernel
theorem dMM_feed_31 : decode prog_12_method_13_code 31 = .ok (.iload 4, 2) := by decide +kernel
theorem dMM_feed_33 : decode prog_12_method_13_code 33 = .ok (.invokevirtual 131, 3) := by decide +kernel
theorem dMM_feed_36 : decode prog_12_method_13_code 36 = .ok (.aload_n 0, 1) := by decide +kernel
theorem dMM_feed_37 : decode prog_12_method_13_code 37 = .ok (.iload 5, 2) := by decide +kernel
theorem dMM_feed_39 : decode prog_12_method_13_code 39 = .ok (.invokevirtual 131, 3) := by decide +kernel
theorem dMM_feed_42 : decode prog_12_method_13_code 42 = .ok (.aload_n 0, 1) := by decide +kernel
theorem dMM_feed_43 : decode prog_12_method_13_code 43 = .ok (.getfield 128, 3) := by decide +kernel
theorem dMM_feed_46 : decode prog_12_method_13_code 46 = .ok (.ireturn, 1) := by decide +kernel
theorem dMM_end_0 : decode prog_12_method_14_code 0 = .ok (.iload_n 1, 1) := by decide +kernel
theorem dMM_end_1 : decode prog_12_method_14_code 1 = .ok (.iconst 0, 1) := by decide +kernel
theorem dMM_end_2 : decode prog_12_method_14_code 2 = .ok (.aload_n 0, 1) := by decide +kernel
theorem dMM_end_3 : decode prog_12_method_14_code 3 = .ok (.getfield 128, 3) := by decide +kernel
theorem dMM_end_6 : decode prog_12_method_14_code 6 = .ok (.invokestatic 109, 3) := by decide +kernel
theorem dMM_end_9 : decode prog_12_method_14_code 9 = .ok (.ifCond .ne 5, 3) := by decide +kernel
theorem dMM_end_12 : decode prog_12_method_14_code 12 = .ok (.iconst (-1), 1) := by decide +kernel
theorem dMM_end_13 : decode prog_12_method_14_code 13 = .ok (.ireturn, 1) := by decide +kernel
theorem dMM_end_14 : decode prog_12_method_14_code 14 = .ok (.aload_n 0, 1) := by decide +kernel
theorem dMM_end_15 : decode prog_12_method_14_code 15 = .ok (.iload_n 1, 1) := by decide +kernel
theorem dMM_end_16 : decode prog_12_method_14_code 16 = .ok (.putfield 128, 3) := by decide +kernel
theorem dMM_end_19 : decode prog_12_method_14_code 19 = .ok (.iload_n 1, 1) := by decide +kernel
theorem dMM_end_20 : decode prog_12_method_14_code 20 = .ok (.ireturn, 1) := by decide +kernel
theorem dMM_see_0 : decode prog_12_method_15_code 0 = .ok (.iload_n 1, 1) := by decide +kernel
theorem dMM_see_1 : decode prog_12_method_15_code 1 = .ok (.aload_n 0, 1) := by decide +kernel
theorem dMM_see_2 : decode prog_12_method_15_code 2 = .ok (.getfield 128, 3) := by decide +kernel
theorem dMM_see_5 : decode prog_12_method_15_code 5 = .ok (.if_icmp .ge 12, 3) := by decide +kernel
theorem dMM_see_8 : decode prog_12_method_15_code 8 = .ok (.aload_n 0, 1) := by decide +kernel
theorem dMM_see_9 : decode prog_12_method_15_code 9 = .ok (.getfield 70, 3) := by decide +kernel
theorem dMM_see_12 : decode prog_12_method_15_code 12 = .ok (.iload_n 1, 1) := by decide +kernel
theorem dMM_see_13 : decode prog_12_method_15_code 13 = .ok (.iaload, 1) := by decide +kernel
theorem dMM_see_14 : decode prog_12_method_15_code 14 = .ok (.goto 4, 3) := by decide +kernel
theorem dMM_see_17 : decode prog_12_method_15_code 17 = .ok (.iconst (-1), 1) := by decide +kernel
theorem dMM_see_18 : decode prog_12_method_15_code 18 = .ok (.ireturn, 1) := by decide +kernel
theorem dMM_isLetter_0 : decode prog_12_method_16_code 0 = .ok (.iload_n 0, 1) := by decide +kernel
theorem dMM_isLetter_1 : decode prog_12_method_16_code 1 = .ok (.bipush 97, 2) := by decide +kernel
theorem dMM_isLetter_3 : decode prog_12_method_16_code 3 = .ok (.bipush 122, 2) := by decide +kernel
theorem dMM_isLetter_5 : decode prog_12_method_16_code 5 = .ok (.invokestatic 109, 3) := by decide +kernel
theorem dMM_isLetter_8 : decode prog_12_method_16_code 8 = .ok (.ifCond .ne 14, 3) := by decide +kernel
theorem dMM_isLetter_11 : decode prog_12_method_16_code 11 = .ok (.iload_n 0, 1) := by decide +kernel
theorem dMM_isLetter_12 : decode prog_12_method_16_code 12 = .ok (.bipush 65, 2) := by decide +kernel
theorem dMM_isLetter_14 : decode prog_12_method_16_code 14 = .ok (.bipush 90, 2) := by decide +kernel
theorem dMM_isLetter_16 : decode prog_12_method_16_code 16 = .ok (.invokestatic 109, 3) := by decide +kernel
theorem dMM_isLetter_19 : decode prog_12_method_16_code 19 = .ok (.ifCond .eq 7, 3) := by decide +kernel
theorem dMM_isLetter_22 : decode prog_12_method_16_code 22 = .ok (.iconst 1, 1) := by decide +kernel
theorem dMM_isLetter_23 : decode prog_12_method_16_code 23 = .ok (.goto 4, 3) := by decide +kernel
theorem dMM_isLetter_26 : decode prog_12_method_16_code 26 = .ok (.iconst 0, 1) := by decide +kernel
theorem dMM_isLetter_27 : decode prog_12_method_16_code 27 = .ok (.ireturn, 1) := by decide +kernel
theorem dMM_isDigit_0 : decode prog_12_method_17_code 0 = .ok (.iload_n 0, 1) := by decide +kernel
theorem dMM_isDigit_1 : decode prog_12_method_17_code 1 = .ok (.bipush 48, 2) := by decide +kernel
theorem dMM_isDigit_3 : decode prog_12_method_17_code 3 = .ok (.bipush 57, 2) := by decide +kernel
theorem dMM_isDigit_5 : decode prog_12_method_17_code 5 = .ok (.invokestatic 109, 3) := by decide +kernel
theorem dMM_isDigit_8 : decode prog_12_method_17_code 8 = .ok (.ireturn, 1) := by decide +kernel
theorem dMM_nextToken_0 : decode prog_12_method_18_code 0 = .ok (.aload_n 0, 1) := by decide +kernel
theorem dMM_nextToken_1 : decode prog_12_method_18_code 1 = .ok (.aload_n 0, 1) := by decide +kernel
theorem dMM_nextToken_2 : decode prog_12_method_18_code 2 = .ok (.getfield 135, 3) := by decide +kernel
theorem dMM_nextToken_5 : decode prog_12_method_18_code 5 = .ok (.invokevirtual 138, 3) := by decide +kernel
theorem dMM_nextToken_8 : decode prog_12_method_18_code 8 = .ok (.bipush 32, 2) := by decide +kernel
theorem dMM_nextToken_10 : decode prog_12_method_18_code 10 = .ok (.if_icmp .eq 16, 3) := by decide +kernel
theorem dMM_nextToken_13 : decode prog_12_method_18_code 13 = .ok (.aload_n 0, 1) := by decide +kernel
theorem dMM_nextToken_14 : decode prog_12_method_18_code 14 = .ok (.aload_n 0, 1) := by decide +kernel
theorem dMM_nextToken_15 : decode prog_12_method_18_code 15 = .ok (.getfield 135, 3) := by decide +kernel
theorem dMM_nextToken_18 : decode prog_12_method_18_code 18 = .ok (.invokevirtual 138, 3) := by decide +kernel
theorem dMM_nextToken_21 : decode prog_12_method_18_code 21 = .ok (.bipush 10, 2) := by decide +kernel
theorem dMM_nextToken_23 : decode prog_12_method_18_code 23 = .ok (.if_icmp .ne 16, 3) := by decide +kernel
theorem dMM_nextToken_26 : decode prog_12_method_18_code 26 = .ok (.aload_n 0, 1) := by decide +kernel
theorem dMM_nextToken_27 : decode prog_12_method_18_code 27 = .ok (.dup, 1) := by decide +kernel
theorem dMM_nextToken_28 : decode prog_12_method_18_code 28 = .ok (.getfield 135, 3) := by decide +kernel
theorem dMM_nextToken_31 : decode prog_12_method_18_code 31 = .ok (.iconst 1, 1) := by decide +kernel
theorem dMM_nextToken_32 : decode prog_12_method_18_code 32 = .ok (.iadd, 1) := by decide +kernel
theorem dMM_nextToken_33 : decode prog_12_method_18_code 33 = .ok (.putfield 135, 3) := by decide +kernel
theorem dMM_nextToken_36 : decode prog_12_method_18_code 36 = .ok (.goto (-36), 3) := by decide +kernel
theorem dMM_nextToken_39 : decode prog_12_method_18_code 39 = .ok (.aload_n 0, 1) := by decide +kernel
theorem dMM_nextToken_40 : decode prog_12_method_18_code 40 = .ok (.aload_n 0, 1) := by decide +kernel
theorem dMM_nextToken_41 : decode prog_12_method_18_code 41 = .ok (.getfield 135, 3) := by decide +kernel
theorem dMM_nextToken_44 : decode prog_12_method_18_code 44 = .ok (.putfield 142, 3) := by decide +kernel
theorem dMM_nextToken_47 : decode prog_12_method_18_code 47 = .ok (.aload_n 0, 1) := by decide +kernel
theorem dMM_nextToken_48 : decode prog_12_method_18_code 48 = .ok (.aload_n 0, 1) := by decide +kernel
theorem dMM_nextToken_49 : decode prog_12_method_18_code 49 = .ok (.getfield 135, 3) := by decide +kernel
theorem dMM_nextToken_52 : decode prog_12_method_18_code 52 = .ok (.invokevirtual 138, 3) := by decide +kernel
theorem dMM_nextToken_55 : decode prog_12_method_18_code 55 = .ok (.istore_n 1, 1) := by decide +kernel
theorem dMM_nextToken_56 : decode prog_12_method_18_code 56 = .ok (.iload_n 1, 1) := by decide +kernel
theorem dMM_nextToken_57 : decode prog_12_method_18_code 57 = .ok (.ifCond .ge 11, 3) := by decide +kernel
theorem dMM_nextToken_60 : decode prog_12_method_18_code 60 = .ok (.aload_n 0, 1) := by decide +kernel
theorem dMM_nextToken_61 : decode prog_12_method_18_code 61 = .ok (.iconst 0, 1) := by decide +kernel
theorem dMM_nextToken_62 : decode prog_12_method_18_code 62 = .ok (.putfield 145, 3) := by decide +kernel
theorem dMM_nextToken_65 : decode prog_12_method_18_code 65 = .ok (.goto 235, 3) := by decide +kernel
theorem dMM_nextToken_68 : decode prog_12_method_18_code 68 = .ok (.iload_n 1, 1) := by decide +kernel
theorem dMM_nextToken_69 : decode prog_12_method_18_code 69 = .ok (.invokestatic 148, 3) := by decide +kernel
theorem dMM_nextToken_72 : decode prog_12_method_18_code 72 = .ok (.ifCond .eq 72, 3) := by decide +kernel
theorem dMM_nextToken_75 : decode prog_12_method_18_code 75 = .ok (.aload_n 0, 1) := by decide +kernel
theorem dMM_nextToken_76 : decode prog_12_method_18_code 76 = .ok (.iconst 1, 1) := by decide +kernel
theorem dMM_nextToken_77 : decode prog_12_method_18_code 77 = .ok (.putfield 145, 3) := by decide +kernel
theorem dMM_nextToken_80 : decode prog_12_method_18_code 80 = .ok (.aload_n 0, 1) := by decide +kernel
theorem dMM_nextToken_81 : decode prog_12_method_18_code 81 = .ok (.iconst 0, 1) := by decide +kernel
theorem dMM_nextToken_82 : decode prog_12_method_18_code 82 = .ok (.putfield 151, 3) := by decide +kernel
theorem dMM_nextToken_85 : decode prog_12_method_18_code 85 = .ok (.aload_n 0, 1) := by decide +kernel
theorem dMM_nextToken_86 : decode prog_12_method_18_code 86 = .ok (.aload_n 0, 1) := by decide +kernel
theorem dMM_nextToken_87 : decode prog_12_method_18_code 87 = .ok (.getfield 135, 3) := by decide +kernel
theorem dMM_nextToken_90 : decode prog_12_method_18_code 90 = .ok (.invokevirtual 138, 3) := by decide +kernel
theorem dMM_nextToken_93 : decode prog_12_method_18_code 93 = .ok (.invokestatic 148, 3) := by decide +kernel
theorem dMM_nextToken_96 : decode prog_12_method_18_code 96 = .ok (.ifCond .eq 204, 3) := by decide +kernel
theorem dMM_nextToken_99 : decode prog_12_method_18_code 99 = .ok (.aload_n 0, 1) := by decide +kernel
theorem dMM_nextToken_100 : decode prog_12_method_18_code 100 = .ok (.getfield 151, 3) := by decide +kernel
theorem dMM_nextToken_103 : decode prog_12_method_18_code 103 = .ok (.ldc 117, 2) := by decide +kernel
theorem dMM_nextToken_105 : decode prog_12_method_18_code 105 = .ok (.if_icmp .ge 26, 3) := by decide +kernel
theorem dMM_nextToken_108 : decode prog_12_method_18_code 108 = .ok (.aload_n 0, 1) := by decide +kernel
theorem dMM_nextToken_109 : decode prog_12_method_18_code 109 = .ok (.bipush 10, 2) := by decide +kernel
theorem dMM_nextToken_111 : decode prog_12_method_18_code 111 = .ok (.aload_n 0, 1) := by decide +kernel
theorem dMM_nextToken_112 : decode prog_12_method_18_code 112 = .ok (.getfield 151, 3) := by decide +kernel
theorem dMM_nextToken_115 : decode prog_12_method_18_code 115 = .ok (.imul, 1) := by decide +kernel
theorem dMM_nextToken_116 : decode prog_12_method_18_code 116 = .ok (.aload_n 0, 1) := by decide +kernel
theorem dMM_nextToken_117 : decode prog_12_method_18_code 117 = .ok (.aload_n 0, 1) := by decide +kernel
theorem dMM_nextToken_118 : decode prog_12_method_18_code 118 = .ok (.getfield 135, 3) := by decide +kernel
theorem dMM_nextToken_121 : decode prog_12_method_18_code 121 = .ok (.invokevirtual 138, 3) := by decide +kernel
theorem dMM_nextToken_124 : decode prog_12_method_18_code 124 = .ok (.iadd, 1) := by decide +kernel
theorem dMM_nextToken_125 : decode prog_12_method_18_code 125 = .ok (.bipush 48, 2) := by decide +kernel
theorem dMM_nextToken_127 : decode prog_12_method_18_code 127 = .ok (.isub, 1) := by decide +kernel
theorem dMM_nextToken_128 : decode prog_12_method_18_code 128 = .ok (.putfield 151, 3) := by decide +kernel
theorem dMM_nextToken_131 : decode prog_12_method_18_code 131 = .ok (.aload_n 0, 1) := by decide +kernel
theorem dMM_nextToken_132 : decode prog_12_method_18_code 132 = .ok (.dup, 1) := by decide +kernel
theorem dMM_nextToken_133 : decode prog_12_method_18_code 133 = .ok (.getfield 135, 3) := by decide +kernel
theorem dMM_nextToken_136 : decode prog_12_method_18_code 136 = .ok (.iconst 1, 1) := by decide +kernel
theorem dMM_nextToken_137 : decode prog_12_method_18_code 137 = .ok (.iadd, 1) := by decide +kernel
theorem dMM_nextToken_138 : decode prog_12_method_18_code 138 = .ok (.putfield 135, 3) := by decide +kernel
theorem dMM_nextToken_141 : decode prog_12_method_18_code 141 = .ok (.goto (-56), 3) := by decide +kernel
theorem dMM_nextToken_144 : decode prog_12_method_18_code 144 = .ok (.iload_n 1, 1) := by decide +kernel
theorem dMM_nextToken_145 : decode prog_12_method_18_code 145 = .ok (.invokestatic 154, 3) := by decide +kernel
theorem dMM_nextToken_148 : decode prog_12_method_18_code 148 = .ok (.ifCond .eq 107, 3) := by decide +kernel
theorem dMM_nextToken_151 : decode prog_12_method_18_code 151 = .ok (.aload_n 0, 1) := by decide +kernel
theorem dMM_nextToken_152 : decode prog_12_method_18_code 152 = .ok (.aload_n 0, 1) := by decide +kernel
theorem dMM_nextToken_153 : decode prog_12_method_18_code 153 = .ok (.getfield 135, 3) := by decide +kernel
theorem dMM_nextToken_156 : decode prog_12_method_18_code 156 = .ok (.invokevirtual 138, 3) := by decide +kernel
theorem dMM_nextToken_159 : decode prog_12_method_18_code 159 = .ok (.invokestatic 154, 3) := by decide +kernel
theorem dMM_nextToken_162 : decode prog_12_method_18_code 162 = .ok (.ifCond .eq 16, 3) := by decide +kernel
theorem dMM_nextToken_165 : decode prog_12_method_18_code 165 = .ok (.aload_n 0, 1) := by decide +kernel
theorem dMM_nextToken_166 : decode prog_12_method_18_code 166 = .ok (.dup, 1) := by decide +kernel
theorem dMM_nextToken_167 : decode prog_12_method_18_code 167 = .ok (.getfield 135, 3) := by decide +kernel
theorem dMM_nextToken_170 : decode prog_12_method_18_code 170 = .ok (.iconst 1, 1) := by decide +kernel
theorem dMM_nextToken_171 : decode prog_12_method_18_code 171 = .ok (.iadd, 1) := by decide +kernel
theorem dMM_nextToken_172 : decode prog_12_method_18_code 172 = .ok (.putfield 135, 3) := by decide +kernel
theorem dMM_nextToken_175 : decode prog_12_method_18_code 175 = .ok (.goto (-24), 3) := by decide +kernel
theorem dMM_nextToken_178 : decode prog_12_method_18_code 178 = .ok (.aload_n 0, 1) := by decide +kernel
theorem dMM_nextToken_179 : decode prog_12_method_18_code 179 = .ok (.aload_n 0, 1) := by decide +kernel
theorem dMM_nextToken_180 : decode prog_12_method_18_code 180 = .ok (.getfield 135, 3) := by decide +kernel
theorem dMM_nextToken_183 : decode prog_12_method_18_code 183 = .ok (.aload_n 0, 1) := by decide +kernel
theorem dMM_nextToken_184 : decode prog_12_method_18_code 184 = .ok (.getfield 142, 3) := by decide +kernel
theorem dMM_nextToken_187 : decode prog_12_method_18_code 187 = .ok (.isub, 1) := by decide +kernel
theorem dMM_nextToken_188 : decode prog_12_method_18_code 188 = .ok (.iconst 4, 1) := by decide +kernel
theorem dMM_nextToken_189 : decode prog_12_method_18_code 189 = .ok (.if_icmp .ne 59, 3) := by decide +kernel
theorem dMM_nextToken_192 : decode prog_12_method_18_code 192 = .ok (.iload_n 1, 1) := by decide +kernel
theorem dMM_nextToken_193 : decode prog_12_method_18_code 193 = .ok (.bipush 116, 2) := by decide +kernel
theorem dMM_nextToken_195 : decode prog_12_method_18_code 195 = .ok (.if_icmp .ne 53, 3) := by decide +kernel
theorem dMM_nextToken_198 : decode prog_12_method_18_code 198 = .ok (.aload_n 0, 1) := by decide +kernel
theorem dMM_nextToken_199 : decode prog_12_method_18_code 199 = .ok (.aload_n 0, 1) := by decide +kernel
theorem dMM_nextToken_200 : decode prog_12_method_18_code 200 = .ok (.getfield 142, 3) := by decide +kernel
theorem dMM_nextToken_203 : decode prog_12_method_18_code 203 = .ok (.iconst 1, 1) := by decide +kernel
theorem dMM_nextToken_204 : decode prog_12_method_18_code 204 = .ok (.iadd, 1) := by decide +kernel
theorem dMM_nextToken_205 : decode prog_12_method_18_code 205 = .ok (.invokevirtual 138, 3) := by decide +kernel
theorem dMM_nextToken_208 : decode prog_12_method_18_code 208 = .ok (.bipush 111, 2) := by decide +kernel
theorem dMM_nextToken_210 : decode prog_12_method_18_code 210 = .ok (.if_icmp .ne 38, 3) := by decide +kernel
theorem dMM_nextToken_213 : decode prog_12_method_18_code 213 = .ok (.aload_n 0, 1) := by decide +kernel
theorem dMM_nextToken_214 : decode prog_12_method_18_code 214 = .ok (.aload_n 0, 1) := by decide +kernel
theorem dMM_nextToken_215 : decode prog_12_method_18_code 215 = .ok (.getfield 142, 3) := by decide +kernel
theorem dMM_nextToken_218 : decode prog_12_method_18_code 218 = .ok (.iconst 2, 1) := by decide +kernel
theorem dMM_nextToken_219 : decode prog_12_method_18_code 219 = .ok (.iadd, 1) := by decide +kernel
theorem dMM_nextToken_220 : decode prog_12_method_18_code 220 = .ok (.invokevirtual 138, 3) := by decide +kernel
theorem dMM_nextToken_223 : decode prog_12_method_18_code 223 = .ok (.bipush 119, 2) := by decide +kernel
theorem dMM_nextToken_225 : decode prog_12_method_18_code 225 = .ok (.if_icmp .ne 23, 3) := by decide +kernel
theorem dMM_nextToken_228 : decode prog_12_method_18_code 228 = .ok (.aload_n 0, 1) := by decide +kernel
theorem dMM_nextToken_229 : decode prog_12_method_18_code 229 = .ok (.aload_n 0, 1) := by decide +kernel
theorem dMM_nextToken_230 : decode prog_12_method_18_code 230 = .ok (.getfield 142, 3) := by decide +kernel
theorem dMM_nextToken_233 : decode prog_12_method_18_code 233 = .ok (.iconst 3, 1) := by decide +kernel
theorem dMM_nextToken_234 : decode prog_12_method_18_code 234 = .ok (.iadd, 1) := by decide +kernel
theorem dMM_nextToken_235 : decode prog_12_method_18_code 235 = .ok (.invokevirtual 138, 3) := by decide +kernel
theorem dMM_nextToken_238 : decode prog_12_method_18_code 238 = .ok (.bipush 110, 2) := by decide +kernel
theorem dMM_nextToken_240 : decode prog_12_method_18_code 240 = .ok (.if_icmp .ne 8, 3) := by decide +kernel
theorem dMM_nextToken_243 : decode prog_12_method_18_code 243 = .ok (.bipush 6, 2) := by decide +kernel
theorem dMM_nextToken_245 : decode prog_12_method_18_code 245 = .ok (.goto 4, 3) := by decide +kernel
theorem dMM_nextToken_248 : decode prog_12_method_18_code 248 = .ok (.iconst 5, 1) := by decide +kernel
theorem dMM_nextToken_249 : decode prog_12_method_18_code 249 = .ok (.putfield 145, 3) := by decide +kernel
theorem dMM_nextToken_252 : decode prog_12_method_18_code 252 = .ok (.goto 48, 3) := by decide +kernel
theorem dMM_nextToken_255 : decode prog_12_method_18_code 255 = .ok (.aload_n 0, 1) := by decide +kernel
theorem dMM_nextToken_256 : decode prog_12_method_18_code 256 = .ok (.iload_n 1, 1) := by decide +kernel
theorem dMM_nextToken_257 : decode prog_12_method_18_code 257 = .ok (.bipush 59, 2) := by decide +kernel
theorem dMM_nextToken_259 : decode prog_12_method_18_code 259 = .ok (.if_icmp .ne 7, 3) := by decide +kernel
theorem dMM_nextToken_262 : decode prog_12_method_18_code 262 = .ok (.iconst 2, 1) := by decide +kernel
theorem dMM_nextToken_263 : decode prog_12_method_18_code 263 = .ok (.goto 24, 3) := by decide +kernel
theorem dMM_nextToken_266 : decode prog_12_method_18_code 266 = .ok (.iload_n 1, 1) := by decide +kernel
theorem dMM_nextToken_267 : decode prog_12_method_18_code 267 = .ok (.bipush 44, 2) := by decide +kernel
theorem dMM_nextToken_269 : decode prog_12_method_18_code 269 = .ok (.if_icmp .ne 7, 3) := by decide +kernel
theorem dMM_nextToken_272 : decode prog_12_method_18_code 272 = .ok (.iconst 3, 1) := by decide +kernel
theorem dMM_nextToken_273 : decode prog_12_method_18_code 273 = .ok (.goto 14, 3) := by decide +kernel
theorem dMM_nextToken_276 : decode prog_12_method_18_code 276 = .ok (.iload_n 1, 1) := by decide +kernel
theorem dMM_nextToken_277 : decode prog_12_method_18_code 277 = .ok (.bipush 58, 2) := by decide +kernel
theorem dMM_nextToken_279 : decode prog_12_method_18_code 279 = .ok (.if_icmp .ne 7, 3) := by decide +kernel
theorem dMM_nextToken_282 : decode prog_12_method_18_code 282 = .ok (.iconst 4, 1) := by decide +kernel
theorem dMM_nextToken_283 : decode prog_12_method_18_code 283 = .ok (.goto 4, 3) := by decide +kernel
theorem dMM_nextToken_286 : decode prog_12_method_18_code 286 = .ok (.iconst 5, 1) := by decide +kernel
theorem dMM_nextToken_287 : decode prog_12_method_18_code 287 = .ok (.putfield 145, 3) := by decide +kernel
theorem dMM_nextToken_290 : decode prog_12_method_18_code 290 = .ok (.aload_n 0, 1) := by decide +kernel
theorem dMM_nextToken_291 : decode prog_12_method_18_code 291 = .ok (.dup, 1) := by decide +kernel
theorem dMM_nextToken_292 : decode prog_12_method_18_code 292 = .ok (.getfield 135, 3) := by decide +kernel
theorem dMM_nextToken_295 : decode prog_12_method_18_code 295 = .ok (.iconst 1, 1) := by decide +kernel
theorem dMM_nextToken_296 : decode prog_12_method_18_code 296 = .ok (.iadd, 1) := by decide +kernel
theorem dMM_nextToken_297 : decode prog_12_method_18_code 297 = .ok (.putfield 135, 3) := by decide +kernel
theorem dMM_nextToken_300 : decode prog_12_method_18_code 300 = .ok (.return_, 1) := by decide +kernel
theorem dMM_part_0 : decode prog_12_method_20_code 0 = .ok (.aload_n 0, 1) := by decide +kernel
theorem dMM_part_1 : decode prog_12_method_20_code 1 = .ok (.getfield 145, 3) := by decide +kernel
theorem dMM_part_4 : decode prog_12_method_20_code 4 = .ok (.iconst 1, 1) := by decide +kernel
theorem dMM_part_5 : decode prog_12_method_20_code 5 = .ok (.if_icmp .eq 5, 3) := by decide +kernel
theorem dMM_part_8 : decode prog_12_method_20_code 8 = .ok (.iconst 1, 1) := by decide +kernel
theorem dMM_part_9 : decode prog_12_method_20_code 9 = .ok (.ireturn, 1) := by decide +kernel
theorem dMM_part_10 : decode prog_12_method_20_code 10 = .ok (.aload_n 0, 1) := by decide +kernel
theorem dMM_part_11 : decode prog_12_method_20_code 11 = .ok (.getfield 151, 3) := by decide +kernel
theorem dMM_part_14 : decode prog_12_method_20_code 14 = .ok (.invokestatic 122, 3) := by decide +kernel
theorem dMM_part_17 : decode prog_12_method_20_code 17 = .ok (.ifCond .eq 20, 3) := by decide +kernel
theorem dMM_part_20 : decode prog_12_method_20_code 20 = .ok (.aload_n 0, 1) := by decide +kernel
theorem dMM_part_21 : decode prog_12_method_20_code 21 = .ok (.getfield 166, 3) := by decide +kernel
theorem dMM_part_24 : decode prog_12_method_20_code 24 = .ok (.aload_n 0, 1) := by decide +kernel
theorem dMM_part_25 : decode prog_12_method_20_code 25 = .ok (.getfield 151, 3) := by decide +kernel
theorem dMM_part_28 : decode prog_12_method_20_code 28 = .ok (.ishr, 1) := by decide +kernel
theorem dMM_part_29 : decode prog_12_method_20_code 29 = .ok (.iconst 1, 1) := by decide +kernel
theorem dMM_part_30 : decode prog_12_method_20_code 30 = .ok (.iand, 1) := by decide +kernel
theorem dMM_part_31 : decode prog_12_method_20_code 31 = .ok (.iconst 1, 1) := by decide +kernel
theorem dMM_part_32 : decode prog_12_method_20_code 32 = .ok (.if_icmp .ne 5, 3) := by decide +kernel
theorem dMM_part_35 : decode prog_12_method_20_code 35 = .ok (.iconst 2, 1) := by decide +kernel
theorem dMM_part_36 : decode prog_12_method_20_code 36 = .ok (.ireturn, 1) := by decide +kernel
theorem dMM_part_37 : decode prog_12_method_20_code 37 = .ok (.aload_n 0, 1) := by decide +kernel
theorem dMM_part_38 : decode prog_12_method_20_code 38 = .ok (.getfield 151, 3) := by decide +kernel
theorem dMM_part_41 : decode prog_12_method_20_code 41 = .ok (.invokestatic 122, 3) := by decide +kernel
theorem dMM_part_44 : decode prog_12_method_20_code 44 = .ok (.ifCond .ne 5, 3) := by decide +kernel
theorem dMM_part_47 : decode prog_12_method_20_code 47 = .ok (.iconst 3, 1) := by decide +kernel
theorem dMM_part_48 : decode prog_12_method_20_code 48 = .ok (.ireturn, 1) := by decide +kernel
theorem dMM_part_49 : decode prog_12_method_20_code 49 = .ok (.aload_n 0, 1) := by decide +kernel
theorem dMM_part_50 : decode prog_12_method_20_code 50 = .ok (.getfield 151, 3) := by decide +kernel
theorem dMM_part_53 : decode prog_12_method_20_code 53 = .ok (.istore_n 2, 1) := by decide +kernel
theorem dMM_part_54 : decode prog_12_method_20_code 54 = .ok (.aload_n 0, 1) := by decide +kernel
theorem dMM_part_55 : decode prog_12_method_20_code 55 = .ok (.dup, 1) := by decide +kernel
theorem dMM_part_56 : decode prog_12_method_20_code 56 = .ok (.getfield 166, 3) := by decide +kernel
theorem dMM_part_59 : decode prog_12_method_20_code 59 = .ok (.iconst 1, 1) := by decide +kernel
theorem dMM_part_60 : decode prog_12_method_20_code 60 = .ok (.iload_n 2, 1) := by decide +kernel
theorem dMM_part_61 : decode prog_12_method_20_code 61 = .ok (.ishl, 1) := by decide +kernel
theorem dMM_part_62 : decode prog_12_method_20_code 62 = .ok (.ior, 1) := by decide +kernel
theorem dMM_part_63 : decode prog_12_method_20_code 63 = .ok (.putfield 166, 3) := by decide +kernel
theorem dMM_part_66 : decode prog_12_method_20_code 66 = .ok (.aload_n 0, 1) := by decide +kernel
theorem dMM_part_67 : decode prog_12_method_20_code 67 = .ok (.invokevirtual 157, 3) := by decide +kernel
theorem dMM_part_70 : decode prog_12_method_20_code 70 = .ok (.aload_n 0, 1) := by decide +kernel
theorem dMM_part_71 : decode prog_12_method_20_code 71 = .ok (.getfield 145, 3) := by decide +kernel
theorem dMM_part_74 : decode prog_12_method_20_code 74 = .ok (.iconst 1, 1) := by decide +kernel
theorem dMM_part_75 : decode prog_12_method_20_code 75 = .ok (.if_icmp .eq 5, 3) := by decide +kernel
theorem dMM_part_78 : decode prog_12_method_20_code 78 = .ok (.iconst 1, 1) := by decide +kernel
theorem dMM_part_79 : decode prog_12_method_20_code 79 = .ok (.ireturn, 1) := by decide +kernel
theorem dMM_part_80 : decode prog_12_method_20_code 80 = .ok (.aload_n 0, 1) := by decide +kernel
theorem dMM_part_81 : decode prog_12_method_20_code 81 = .ok (.getfield 151, 3) := by decide +kernel
theorem dMM_part_84 : decode prog_12_method_20_code 84 = .ok (.sipush 9999, 3) := by decide +kernel
theorem dMM_part_87 : decode prog_12_method_20_code 87 = .ok (.if_icmp .le 5, 3) := by decide +kernel
theorem dMM_part_90 : decode prog_12_method_20_code 90 = .ok (.iconst 3, 1) := by decide +kernel
theorem dMM_part_91 : decode prog_12_method_20_code 91 = .ok (.ireturn, 1) := by decide +kernel
theorem dMM_part_92 : decode prog_12_method_20_code 92 = .ok (.aload_n 0, 1) := by decide +kernel
theorem dMM_part_93 : decode prog_12_method_20_code 93 = .ok (.getfield 23, 3) := by decide +kernel
theorem dMM_part_96 : decode prog_12_method_20_code 96 = .ok (.sipush 480, 3) := by decide +kernel
theorem dMM_part_99 : decode prog_12_method_20_code 99 = .ok (.bipush 6, 2) := by decide +kernel
theorem dMM_part_101 : decode prog_12_method_20_code 101 = .ok (.iload_n 1, 1) := by decide +kernel
theorem dMM_part_102 : decode prog_12_method_20_code 102 = .ok (.imul, 1) := by decide +kernel
theorem dMM_part_103 : decode prog_12_method_20_code 103 = .ok (.iadd, 1) := by decide +kernel
theorem dMM_part_104 : decode prog_12_method_20_code 104 = .ok (.iload_n 2, 1) := by decide +kernel
theorem dMM_part_105 : decode prog_12_method_20_code 105 = .ok (.iadd, 1) := by decide +kernel
theorem dMM_part_106 : decode prog_12_method_20_code 106 = .ok (.aload_n 0, 1) := by decide +kernel
theorem dMM_part_107 : decode prog_12_method_20_code 107 = .ok (.getfield 151, 3) := by decide +kernel
theorem dMM_part_110 : decode prog_12_method_20_code 110 = .ok (.iastore, 1) := by decide +kernel
theorem dMM_part_111 : decode prog_12_method_20_code 111 = .ok (.aload_n 0, 1) := by decide +kernel
theorem dMM_part_112 : decode prog_12_method_20_code 112 = .ok (.invokevirtual 157, 3) := by decide +kernel
theorem dMM_part_115 : decode prog_12_method_20_code 115 = .ok (.iconst 0, 1) := by decide +kernel
theorem dMM_part_116 : decode prog_12_method_20_code 116 = .ok (.ireturn, 1) := by decide +kernel
theorem dMM_line_0 : decode prog_12_method_19_code 0 = .ok (.aload_n 0, 1) := by decide +kernel
theorem dMM_line_1 : decode prog_12_method_19_code 1 = .ok (.getfield 145, 3) := by decide +kernel
theorem dMM_line_4 : decode prog_12_method_19_code 4 = .ok (.bipush 6, 2) := by decide +kernel
theorem dMM_line_6 : decode prog_12_method_19_code 6 = .ok (.if_icmp .eq 5, 3) := by decide +kernel
theorem dMM_line_9 : decode prog_12_method_19_code 9 = .ok (.iconst 1, 1) := by decide +kernel
theorem dMM_line_10 : decode prog_12_method_19_code 10 = .ok (.ireturn, 1) := by decide +kernel
theorem dMM_line_11 : decode prog_12_method_19_code 11 = .ok (.aload_n 0, 1) := by decide +kernel
theorem dMM_line_12 : decode prog_12_method_19_code 12 = .ok (.invokevirtual 157, 3) := by decide +kernel
theorem dMM_line_15 : decode prog_12_method_19_code 15 = .ok (.aload_n 0, 1) := by decide +kernel
theorem dMM_line_16 : decode prog_12_method_19_code 16 = .ok (.getfield 145, 3) := by decide +kernel
theorem dMM_line_19 : decode prog_12_method_19_code 19 = .ok (.iconst 1, 1) := by decide +kernel
theorem dMM_line_20 : decode prog_12_method_19_code 20 = .ok (.if_icmp .eq 5, 3) := by decide +kernel
theorem dMM_line_23 : decode prog_12_method_19_code 23 = .ok (.iconst 1, 1) := by decide +kernel
theorem dMM_line_24 : decode prog_12_method_19_code 24 = .ok (.ireturn, 1) := by decide +kernel
theorem dMM_line_25 : decode prog_12_method_19_code 25 = .ok (.aload_n 0, 1) := by decide +kernel
theorem dMM_line_26 : decode prog_12_method_19_code 26 = .ok (.getfield 151, 3) := by decide +kernel
theorem dMM_line_29 : decode prog_12_method_19_code 29 = .ok (.invokestatic 160, 3) := by decide +kernel
theorem dMM_line_32 : decode prog_12_method_19_code 32 = .ok (.ifCond .eq 20, 3) := by decide +kernel
theorem dMM_line_35 : decode prog_12_method_19_code 35 = .ok (.aload_n 0, 1) := by decide +kernel
theorem dMM_line_36 : decode prog_12_method_19_code 36 = .ok (.getfield 163, 3) := by decide +kernel
theorem dMM_line_39 : decode prog_12_method_19_code 39 = .ok (.aload_n 0, 1) := by decide +kernel
theorem dMM_line_40 : decode prog_12_method_19_code 40 = .ok (.getfield 151, 3) := by decide +kernel
theorem dMM_line_43 : decode prog_12_method_19_code 43 = .ok (.ishr, 1) := by decide +kernel
theorem dMM_line_44 : decode prog_12_method_19_code 44 = .ok (.iconst 1, 1) := by decide +kernel
theorem dMM_line_45 : decode prog_12_method_19_code 45 = .ok (.iand, 1) := by decide +kernel
theorem dMM_line_46 : decode prog_12_method_19_code 46 = .ok (.iconst 1, 1) := by decide +kernel
theorem dMM_line_47 : decode prog_12_method_19_code 47 = .ok (.if_icmp .ne 5, 3) := by decide +kernel
theorem dMM_line_50 : decode prog_12_method_19_code 50 = .ok (.iconst 2, 1) := by decide +kernel
theorem dMM_line_51 : decode prog_12_method_19_code 51 = .ok (.ireturn, 1) := by decide +kernel
theorem dMM_line_52 : decode prog_12_method_19_code 52 = .ok (.aload_n 0, 1) := by decide +kernel
theorem dMM_line_53 : decode prog_12_method_19_code 53 = .ok (.getfield 151, 3) := by decide +kernel
theorem dMM_line_56 : decode prog_12_method_19_code 56 = .ok (.invokestatic 160, 3) := by decide +kernel
theorem dMM_line_59 : decode prog_12_method_19_code 59 = .ok (.ifCond .ne 5, 3) := by decide +kernel
theorem dMM_line_62 : decode prog_12_method_19_code 62 = .ok (.iconst 3, 1) := by decide +kernel
theorem dMM_line_63 : decode prog_12_method_19_code 63 = .ok (.ireturn, 1) := by decide +kernel
theorem dMM_line_64 : decode prog_12_method_19_code 64 = .ok (.aload_n 0, 1) := by decide +kernel
theorem dMM_line_65 : decode prog_12_method_19_code 65 = .ok (.getfield 151, 3) := by decide +kernel
theorem dMM_line_68 : decode prog_12_method_19_code 68 = .ok (.istore_n 1, 1) := by decide +kernel
theorem dMM_line_69 : decode prog_12_method_19_code 69 = .ok (.aload_n 0, 1) := by decide +kernel
theorem dMM_line_70 : decode prog_12_method_19_code 70 = .ok (.dup, 1) := by decide +kernel
theorem dMM_line_71 : decode prog_12_method_19_code 71 = .ok (.getfield 163, 3) := by decide +kernel
theorem dMM_line_74 : decode prog_12_method_19_code 74 = .ok (.iconst 1, 1) := by decide +kernel
theorem dMM_line_75 : decode prog_12_method_19_code 75 = .ok (.iload_n 1, 1) := by decide +kernel
theorem dMM_line_76 : decode prog_12_method_19_code 76 = .ok (.ishl, 1) := by decide +kernel
theorem dMM_line_77 : decode prog_12_method_19_code 77 = .ok (.ior, 1) := by decide +kernel
theorem dMM_line_78 : decode prog_12_method_19_code 78 = .ok (.putfield 163, 3) := by decide +kernel
theorem dMM_line_81 : decode prog_12_method_19_code 81 = .ok (.aload_n 0, 1) := by decide +kernel
theorem dMM_line_82 : decode prog_12_method_19_code 82 = .ok (.iconst 0, 1) := by decide +kernel
theorem dMM_line_83 : decode prog_12_method_19_code 83 = .ok (.putfield 166, 3) := by decide +kernel
theorem dMM_line_86 : decode prog_12_method_19_code 86 = .ok (.aload_n 0, 1) := by decide +kernel
theorem dMM_line_87 : decode prog_12_method_19_code 87 = .ok (.invokevirtual 157, 3) := by decide +kernel
theorem dMM_line_90 : decode prog_12_method_19_code 90 = .ok (.aload_n 0, 1) := by decide +kernel
theorem dMM_line_91 : decode prog_12_method_19_code 91 = .ok (.getfield 145, 3) := by decide +kernel
theorem dMM_line_94 : decode prog_12_method_19_code 94 = .ok (.iconst 4, 1) := by decide +kernel
theorem dMM_line_95 : decode prog_12_method_19_code 95 = .ok (.if_icmp .eq 5, 3) := by decide +kernel
theorem dMM_line_98 : decode prog_12_method_19_code 98 = .ok (.iconst 1, 1) := by decide +kernel
theorem dMM_line_99 : decode prog_12_method_19_code 99 = .ok (.ireturn, 1) := by decide +kernel
theorem dMM_line_100 : decode prog_12_method_19_code 100 = .ok (.iconst 1, 1) := by decide +kernel
theorem dMM_line_101 : decode prog_12_method_19_code 101 = .ok (.istore_n 2, 1) := by decide +kernel
theorem dMM_line_102 : decode prog_12_method_19_code 102 = .ok (.iload_n 2, 1) := by decide +kernel
theorem dMM_line_103 : decode prog_12_method_19_code 103 = .ok (.ifCond .eq 36, 3) := by decide +kernel
theorem dMM_line_106 : decode prog_12_method_19_code 106 = .ok (.aload_n 0, 1) := by decide +kernel
theorem dMM_line_107 : decode prog_12_method_19_code 107 = .ok (.invokevirtual 157, 3) := by decide +kernel
theorem dMM_line_110 : decode prog_12_method_19_code 110 = .ok (.aload_n 0, 1) := by decide +kernel
theorem dMM_line_111 : decode prog_12_method_19_code 111 = .ok (.iload_n 1, 1) := by decide +kernel
theorem dMM_line_112 : decode prog_12_method_19_code 112 = .ok (.invokevirtual 169, 3) := by decide +kernel
theorem dMM_line_115 : decode prog_12_method_19_code 115 = .ok (.istore_n 3, 1) := by decide +kernel
theorem dMM_line_116 : decode prog_12_method_19_code 116 = .ok (.iload_n 3, 1) := by decide +kernel
theorem dMM_line_117 : decode prog_12_method_19_code 117 = .ok (.ifCond .eq 5, 3) := by decide +kernel
theorem dMM_line_120 : decode prog_12_method_19_code 120 = .ok (.iload_n 3, 1) := by decide +kernel
theorem dMM_line_121 : decode prog_12_method_19_code 121 = .ok (.ireturn, 1) := by decide +kernel
theorem dMM_line_122 : decode prog_12_method_19_code 122 = .ok (.aload_n 0, 1) := by decide +kernel
theorem dMM_line_123 : decode prog_12_method_19_code 123 = .ok (.getfield 145, 3) := by decide +kernel
theorem dMM_line_126 : decode prog_12_method_19_code 126 = .ok (.iconst 3, 1) := by decide +kernel
theorem dMM_line_127 : decode prog_12_method_19_code 127 = .ok (.if_icmp .ne 7, 3) := by decide +kernel
theorem dMM_line_130 : decode prog_12_method_19_code 130 = .ok (.iconst 1, 1) := by decide +kernel
theorem dMM_line_131 : decode prog_12_method_19_code 131 = .ok (.goto 4, 3) := by decide +kernel
theorem dMM_line_134 : decode prog_12_method_19_code 134 = .ok (.iconst 0, 1) := by decide +kernel
theorem dMM_line_135 : decode prog_12_method_19_code 135 = .ok (.istore_n 2, 1) := by decide +kernel
theorem dMM_line_136 : decode prog_12_method_19_code 136 = .ok (.goto (-34), 3) := by decide +kernel
theorem dMM_line_139 : decode prog_12_method_19_code 139 = .ok (.aload_n 0, 1) := by decide +kernel
theorem dMM_line_140 : decode prog_12_method_19_code 140 = .ok (.getfield 145, 3) := by decide +kernel
theorem dMM_line_143 : decode prog_12_method_19_code 143 = .ok (.iconst 2, 1) := by decide +kernel
theorem dMM_line_144 : decode prog_12_method_19_code 144 = .ok (.if_icmp .eq 5, 3) := by decide +kernel
theorem dMM_line_147 : decode prog_12_method_19_code 147 = .ok (.iconst 1, 1) := by decide +kernel
theorem dMM_line_148 : decode prog_12_method_19_code 148 = .ok (.ireturn, 1) := by decide +kernel
theorem dMM_line_149 : decode prog_12_method_19_code 149 = .ok (.aload_n 0, 1) := by decide +kernel
theorem dMM_line_150 : decode prog_12_method_19_code 150 = .ok (.dup, 1) := by decide +kernel
theorem dMM_line_151 : decode prog_12_method_19_code 151 = .ok (.getfield 172, 3) := by decide +kernel
theorem dMM_line_154 : decode prog_12_method_19_code 154 = .ok (.iconst 1, 1) := by decide +kernel
theorem dMM_line_155 : decode prog_12_method_19_code 155 = .ok (.iadd, 1) := by decide +kernel
theorem dMM_line_156 : decode prog_12_method_19_code 156 = .ok (.putfield 172, 3) := by decide +kernel
theorem dMM_line_159 : decode prog_12_method_19_code 159 = .ok (.aload_n 0, 1) := by decide +kernel
theorem dMM_line_160 : decode prog_12_method_19_code 160 = .ok (.invokevirtual 157, 3) := by decide +kernel
theorem dMM_line_163 : decode prog_12_method_19_code 163 = .ok (.iconst 0, 1) := by decide +kernel
theorem dMM_line_164 : decode prog_12_method_19_code 164 = .ok (.ireturn, 1) := by decide +kernel
theorem dMM_read_0 : decode prog_12_method_21_code 0 = .ok (.iconst 0, 1) := by decide +kernel
theorem dMM_read_1 : decode prog_12_method_21_code 1 = .ok (.istore_n 1, 1) := by decide +kernel
theorem dMM_read_2 : decode prog_12_method_21_code 2 = .ok (.iload_n 1, 1) := by decide +kernel
theorem dMM_read_3 : decode prog_12_method_21_code 3 = .ok (.bipush 96, 2) := by decide +kernel
theorem dMM_read_5 : decode prog_12_method_21_code 5 = .ok (.if_icmp .ge 20, 3) := by decide +kernel
theorem dMM_read_8 : decode prog_12_method_21_code 8 = .ok (.aload_n 0, 1) := by decide +kernel
theorem dMM_read_9 : decode prog_12_method_21_code 9 = .ok (.getfield 23, 3) := by decide +kernel
theorem dMM_read_12 : decode prog_12_method_21_code 12 = .ok (.sipush 480, 3) := by decide +kernel
theorem dMM_read_15 : decode prog_12_method_21_code 15 = .ok (.iload_n 1, 1) := by decide +kernel
theorem dMM_read_16 : decode prog_12_method_21_code 16 = .ok (.iadd, 1) := by decide +kernel
theorem dMM_read_17 : decode prog_12_method_21_code 17 = .ok (.iconst (-1), 1) := by decide +kernel
theorem dMM_read_18 : decode prog_12_method_21_code 18 = .ok (.iastore, 1) := by decide +kernel
theorem dMM_read_19 : decode prog_12_method_21_code 19 = .ok (.iinc 1 1, 3) := by decide +kernel
theorem dMM_read_22 : decode prog_12_method_21_code 22 = .ok (.goto (-20), 3) := by decide +kernel
theorem dMM_read_25 : decode prog_12_method_21_code 25 = .ok (.aload_n 0, 1) := by decide +kernel
theorem dMM_read_26 : decode prog_12_method_21_code 26 = .ok (.iconst 0, 1) := by decide +kernel
theorem dMM_read_27 : decode prog_12_method_21_code 27 = .ok (.putfield 163, 3) := by decide +kernel
theorem dMM_read_30 : decode prog_12_method_21_code 30 = .ok (.aload_n 0, 1) := by decide +kernel
theorem dMM_read_31 : decode prog_12_method_21_code 31 = .ok (.iconst 0, 1) := by decide +kernel
theorem dMM_read_32 : decode prog_12_method_21_code 32 = .ok (.putfield 172, 3) := by decide +kernel
theorem dMM_read_35 : decode prog_12_method_21_code 35 = .ok (.aload_n 0, 1) := by decide +kernel
theorem dMM_read_36 : decode prog_12_method_21_code 36 = .ok (.iconst 0, 1) := by decide +kernel
theorem dMM_read_37 : decode prog_12_method_21_code 37 = .ok (.putfield 135, 3) := by decide +kernel
theorem dMM_read_40 : decode prog_12_method_21_code 40 = .ok (.aload_n 0, 1) := by decide +kernel
theorem dMM_read_41 : decode prog_12_method_21_code 41 = .ok (.invokevirtual 157, 3) := by decide +kernel
theorem dMM_read_44 : decode prog_12_method_21_code 44 = .ok (.aload_n 0, 1) := by decide +kernel
theorem dMM_read_45 : decode prog_12_method_21_code 45 = .ok (.getfield 145, 3) := by decide +kernel
theorem dMM_read_48 : decode prog_12_method_21_code 48 = .ok (.ifCond .eq 17, 3) := by decide +kernel
theorem dMM_read_51 : decode prog_12_method_21_code 51 = .ok (.aload_n 0, 1) := by decide +kernel
theorem dMM_read_52 : decode prog_12_method_21_code 52 = .ok (.invokevirtual 175, 3) := by decide +kernel
theorem dMM_read_55 : decode prog_12_method_21_code 55 = .ok (.istore_n 1, 1) := by decide +kernel
theorem dMM_read_56 : decode prog_12_method_21_code 56 = .ok (.iload_n 1, 1) := by decide +kernel
theorem dMM_read_57 : decode prog_12_method_21_code 57 = .ok (.ifCond .eq 5, 3) := by decide +kernel
theorem dMM_read_60 : decode prog_12_method_21_code 60 = .ok (.iload_n 1, 1) := by decide +kernel
theorem dMM_read_61 : decode prog_12_method_21_code 61 = .ok (.ireturn, 1) := by decide +kernel
theorem dMM_read_62 : decode prog_12_method_21_code 62 = .ok (.goto (-18), 3) := by decide +kernel
theorem dMM_read_65 : decode prog_12_method_21_code 65 = .ok (.iconst 0, 1) := by decide +kernel
theorem dMM_read_66 : decode prog_12_method_21_code 66 = .ok (.ireturn, 1) := by decide +kernel
