theorem dCo_mostTold_0 : decode prog_3_method_5_code 0 = .ok (.iconst 0, 1) := by decide +kernel
theorem dCo_mostTold_1 : decode prog_3_method_5_code 1 = .ok (.istore_n 2, 1) := by decide +kernel
theorem dCo_mostTold_2 : decode prog_3_method_5_code 2 = .ok (.iconst 0, 1) := by decide +kernel
theorem dCo_mostTold_3 : decode prog_3_method_5_code 3 = .ok (.istore_n 3, 1) := by decide +kernel
theorem dCo_mostTold_4 : decode prog_3_method_5_code 4 = .ok (.iconst 0, 1) := by decide +kernel
theorem dCo_mostTold_5 : decode prog_3_method_5_code 5 = .ok (.istore 4, 2) := by decide +kernel
theorem dCo_mostTold_7 : decode prog_3_method_5_code 7 = .ok (.iconst 0, 1) := by decide +kernel
theorem dCo_mostTold_8 : decode prog_3_method_5_code 8 = .ok (.istore 5, 2) := by decide +kernel
theorem dCo_mostTold_10 : decode prog_3_method_5_code 10 = .ok (.iload 5, 2) := by decide +kernel
theorem dCo_mostTold_12 : decode prog_3_method_5_code 12 = .ok (.iconst 5, 1) := by decide +kernel
theorem dCo_mostTold_13 : decode prog_3_method_5_code 13 = .ok (.if_icmp .ge 76, 3) := by decide +kernel
theorem dCo_mostTold_16 : decode prog_3_method_5_code 16 = .ok (.aload_n 0, 1) := by decide +kernel
theorem dCo_mostTold_17 : decode prog_3_method_5_code 17 = .ok (.aload_n 0, 1) := by decide +kernel
theorem dCo_mostTold_18 : decode prog_3_method_5_code 18 = .ok (.getfield 13, 3) := by decide +kernel
theorem dCo_mostTold_21 : decode prog_3_method_5_code 21 = .ok (.iload 5, 2) := by decide +kernel
theorem dCo_mostTold_23 : decode prog_3_method_5_code 23 = .ok (.aaload, 1) := by decide +kernel
theorem dCo_mostTold_24 : decode prog_3_method_5_code 24 = .ok (.iload_n 1, 1) := by decide +kernel
theorem dCo_mostTold_25 : decode prog_3_method_5_code 25 = .ok (.iaload, 1) := by decide +kernel
theorem dCo_mostTold_26 : decode prog_3_method_5_code 26 = .ok (.iload_n 1, 1) := by decide +kernel
theorem dCo_mostTold_27 : decode prog_3_method_5_code 27 = .ok (.invokevirtual 36, 3) := by decide +kernel
theorem dCo_mostTold_30 : decode prog_3_method_5_code 30 = .ok (.istore 6, 2) := by decide +kernel
theorem dCo_mostTold_32 : decode prog_3_method_5_code 32 = .ok (.iload 6, 2) := by decide +kernel
theorem dCo_mostTold_34 : decode prog_3_method_5_code 34 = .ok (.iload_n 3, 1) := by decide +kernel
theorem dCo_mostTold_35 : decode prog_3_method_5_code 35 = .ok (.if_icmp .gt 26, 3) := by decide +kernel
theorem dCo_mostTold_38 : decode prog_3_method_5_code 38 = .ok (.iload 6, 2) := by decide +kernel
theorem dCo_mostTold_40 : decode prog_3_method_5_code 40 = .ok (.iload_n 3, 1) := by decide +kernel
theorem dCo_mostTold_41 : decode prog_3_method_5_code 41 = .ok (.if_icmp .ne 42, 3) := by decide +kernel
theorem dCo_mostTold_44 : decode prog_3_method_5_code 44 = .ok (.iload 6, 2) := by decide +kernel
theorem dCo_mostTold_46 : decode prog_3_method_5_code 46 = .ok (.ifCond .le 37, 3) := by decide +kernel
theorem dCo_mostTold_49 : decode prog_3_method_5_code 49 = .ok (.aload_n 0, 1) := by decide +kernel
theorem dCo_mostTold_50 : decode prog_3_method_5_code 50 = .ok (.getfield 16, 3) := by decide +kernel
theorem dCo_mostTold_53 : decode prog_3_method_5_code 53 = .ok (.iload 5, 2) := by decide +kernel
theorem dCo_mostTold_55 : decode prog_3_method_5_code 55 = .ok (.iaload, 1) := by decide +kernel
theorem dCo_mostTold_56 : decode prog_3_method_5_code 56 = .ok (.iload 4, 2) := by decide +kernel
theorem dCo_mostTold_58 : decode prog_3_method_5_code 58 = .ok (.if_icmp .le 25, 3) := by decide +kernel
theorem dCo_mostTold_61 : decode prog_3_method_5_code 61 = .ok (.aload_n 0, 1) := by decide +kernel
theorem dCo_mostTold_62 : decode prog_3_method_5_code 62 = .ok (.getfield 13, 3) := by decide +kernel
theorem dCo_mostTold_65 : decode prog_3_method_5_code 65 = .ok (.iload 5, 2) := by decide +kernel
theorem dCo_mostTold_67 : decode prog_3_method_5_code 67 = .ok (.aaload, 1) := by decide +kernel
theorem dCo_mostTold_68 : decode prog_3_method_5_code 68 = .ok (.iload_n 1, 1) := by decide +kernel
theorem dCo_mostTold_69 : decode prog_3_method_5_code 69 = .ok (.iaload, 1) := by decide +kernel
theorem dCo_mostTold_70 : decode prog_3_method_5_code 70 = .ok (.istore_n 2, 1) := by decide +kernel
theorem dCo_mostTold_71 : decode prog_3_method_5_code 71 = .ok (.iload 6, 2) := by decide +kernel
theorem dCo_mostTold_73 : decode prog_3_method_5_code 73 = .ok (.istore_n 3, 1) := by decide +kernel
theorem dCo_mostTold_74 : decode prog_3_method_5_code 74 = .ok (.aload_n 0, 1) := by decide +kernel
theorem dCo_mostTold_75 : decode prog_3_method_5_code 75 = .ok (.getfield 16, 3) := by decide +kernel
theorem dCo_mostTold_78 : decode prog_3_method_5_code 78 = .ok (.iload 5, 2) := by decide +kernel
theorem dCo_mostTold_80 : decode prog_3_method_5_code 80 = .ok (.iaload, 1) := by decide +kernel
theorem dCo_mostTold_81 : decode prog_3_method_5_code 81 = .ok (.istore 4, 2) := by decide +kernel
theorem dCo_mostTold_83 : decode prog_3_method_5_code 83 = .ok (.iinc 5 1, 3) := by decide +kernel
theorem dCo_mostTold_86 : decode prog_3_method_5_code 86 = .ok (.goto (-76), 3) := by decide +kernel
theorem dCo_mostTold_89 : decode prog_3_method_5_code 89 = .ok (.iload_n 2, 1) := by decide +kernel
theorem dCo_mostTold_90 : decode prog_3_method_5_code 90 = .ok (.ireturn, 1) := by decide +kernel
theorem dTL_owed_0 : decode prog_1_method_11_code 0 = .ok (.iload_n 1, 1) := by decide +kernel
theorem dTL_owed_1 : decode prog_1_method_11_code 1 = .ok (.invokestatic 144, 3) := by decide +kernel
theorem dTL_owed_4 : decode prog_1_method_11_code 4 = .ok (.ifCond .eq 25, 3) := by decide +kernel
theorem dTL_owed_7 : decode prog_1_method_11_code 7 = .ok (.iload_n 2, 1) := by decide +kernel
theorem dTL_owed_8 : decode prog_1_method_11_code 8 = .ok (.invokestatic 95, 3) := by decide +kernel
theorem dTL_owed_11 : decode prog_1_method_11_code 11 = .ok (.ifCond .eq 18, 3) := by decide +kernel
theorem dTL_owed_14 : decode prog_1_method_11_code 14 = .ok (.aload_n 0, 1) := by decide +kernel
theorem dTL_owed_15 : decode prog_1_method_11_code 15 = .ok (.getfield 40, 3) := by decide +kernel
theorem dTL_owed_18 : decode prog_1_method_11_code 18 = .ok (.iload_n 1, 1) := by decide +kernel
theorem dTL_owed_19 : decode prog_1_method_11_code 19 = .ok (.iload_n 2, 1) := by decide +kernel
theorem dTL_owed_20 : decode prog_1_method_11_code 20 = .ok (.invokestatic 147, 3) := by decide +kernel
theorem dTL_owed_23 : decode prog_1_method_11_code 23 = .ok (.invokevirtual 153, 3) := by decide +kernel
theorem dTL_owed_26 : decode prog_1_method_11_code 26 = .ok (.goto 4, 3) := by decide +kernel
theorem dTL_owed_29 : decode prog_1_method_11_code 29 = .ok (.iconst (-1), 1) := by decide +kernel
theorem dTL_owed_30 : decode prog_1_method_11_code 30 = .ok (.ireturn, 1) := by decide +kernel
theorem dCo_differ_0 : decode prog_3_method_7_code 0 = .ok (.iconst (-1), 1) := by decide +kernel
theorem dCo_differ_1 : decode prog_3_method_7_code 1 = .ok (.istore_n 2, 1) := by decide +kernel
theorem dCo_differ_2 : decode prog_3_method_7_code 2 = .ok (.iconst 0, 1) := by decide +kernel
theorem dCo_differ_3 : decode prog_3_method_7_code 3 = .ok (.istore_n 3, 1) := by decide +kernel
theorem dCo_differ_4 : decode prog_3_method_7_code 4 = .ok (.iload_n 3, 1) := by decide +kernel
theorem dCo_differ_5 : decode prog_3_method_7_code 5 = .ok (.iconst 5, 1) := by decide +kernel
theorem dCo_differ_6 : decode prog_3_method_7_code 6 = .ok (.if_icmp .ge 44, 3) := by decide +kernel
theorem dCo_differ_9 : decode prog_3_method_7_code 9 = .ok (.aload_n 0, 1) := by decide +kernel
theorem dCo_differ_10 : decode prog_3_method_7_code 10 = .ok (.getfield 13, 3) := by decide +kernel
theorem dCo_differ_13 : decode prog_3_method_7_code 13 = .ok (.iload_n 3, 1) := by decide +kernel
theorem dCo_differ_14 : decode prog_3_method_7_code 14 = .ok (.aaload, 1) := by decide +kernel
theorem dCo_differ_15 : decode prog_3_method_7_code 15 = .ok (.iload_n 1, 1) := by decide +kernel
theorem dCo_differ_16 : decode prog_3_method_7_code 16 = .ok (.iaload, 1) := by decide +kernel
theorem dCo_differ_17 : decode prog_3_method_7_code 17 = .ok (.istore 4, 2) := by decide +kernel
theorem dCo_differ_19 : decode prog_3_method_7_code 19 = .ok (.iload 4, 2) := by decide +kernel
theorem dCo_differ_21 : decode prog_3_method_7_code 21 = .ok (.iconst (-1), 1) := by decide +kernel
theorem dCo_differ_22 : decode prog_3_method_7_code 22 = .ok (.if_icmp .ne 6, 3) := by decide +kernel
theorem dCo_differ_25 : decode prog_3_method_7_code 25 = .ok (.goto 19, 3) := by decide +kernel
theorem dCo_differ_28 : decode prog_3_method_7_code 28 = .ok (.iload_n 2, 1) := by decide +kernel
theorem dCo_differ_29 : decode prog_3_method_7_code 29 = .ok (.iconst (-1), 1) := by decide +kernel
theorem dCo_differ_30 : decode prog_3_method_7_code 30 = .ok (.if_icmp .eq 11, 3) := by decide +kernel
theorem dCo_differ_33 : decode prog_3_method_7_code 33 = .ok (.iload_n 2, 1) := by decide +kernel
theorem dCo_differ_34 : decode prog_3_method_7_code 34 = .ok (.iload 4, 2) := by decide +kernel
theorem dCo_differ_36 : decode prog_3_method_7_code 36 = .ok (.if_icmp .eq 5, 3) := by decide +kernel
theorem dCo_differ_39 : decode prog_3_method_7_code 39 = .ok (.iconst 1, 1) := by decide +kernel
theorem dCo_differ_40 : decode prog_3_method_7_code 40 = .ok (.ireturn, 1) := by decide +kernel
theorem dCo_differ_41 : decode prog_3_method_7_code 41 = .ok (.iload 4, 2) := by decide +kernel
theorem dCo_differ_43 : decode prog_3_method_7_code 43 = .ok (.istore_n 2, 1) := by decide +kernel
theorem dCo_differ_44 : decode prog_3_method_7_code 44 = .ok (.iinc 3 1, 3) := by decide +kernel
theorem dCo_differ_47 : decode prog_3_method_7_code 47 = .ok (.goto (-43), 3) := by decide +kernel
theorem dCo_differ_50 : decode prog_3_method_7_code 50 = .ok (.iconst 0, 1) := by decide +kernel
theorem dCo_differ_51 : decode prog_3_method_7_code 51 = .ok (.ireturn, 1) := by decide +kernel
theorem dTL_quarrel_0 : decode prog_1_method_12_code 0 = .ok (.iload_n 1, 1) := by decide +kernel
theorem dTL_quarrel_1 : decode prog_1_method_12_code 1 = .ok (.invokestatic 144, 3) := by decide +kernel
theorem dTL_quarrel_4 : decode prog_1_method_12_code 4 = .ok (.ifCond .eq 10, 3) := by decide +kernel
theorem dTL_quarrel_7 : decode prog_1_method_12_code 7 = .ok (.iload_n 2, 1) := by decide +kernel
theorem dTL_quarrel_8 : decode prog_1_method_12_code 8 = .ok (.invokestatic 95, 3) := by decide +kernel
theorem dTL_quarrel_11 : decode prog_1_method_12_code 11 = .ok (.ifCond .ne 5, 3) := by decide +kernel
theorem dTL_quarrel_14 : decode prog_1_method_12_code 14 = .ok (.iconst (-1), 1) := by decide +kernel
theorem dTL_quarrel_15 : decode prog_1_method_12_code 15 = .ok (.ireturn, 1) := by decide +kernel
theorem dTL_quarrel_16 : decode prog_1_method_12_code 16 = .ok (.aload_n 0, 1) := by decide +kernel
theorem dTL_quarrel_17 : decode prog_1_method_12_code 17 = .ok (.getfield 40, 3) := by decide +kernel
theorem dTL_quarrel_20 : decode prog_1_method_12_code 20 = .ok (.iload_n 1, 1) := by decide +kernel
theorem dTL_quarrel_21 : decode prog_1_method_12_code 21 = .ok (.iload_n 2, 1) := by decide +kernel
theorem dTL_quarrel_22 : decode prog_1_method_12_code 22 = .ok (.invokestatic 147, 3) := by decide +kernel
theorem dTL_quarrel_25 : decode prog_1_method_12_code 25 = .ok (.invokevirtual 157, 3) := by decide +kernel
theorem dTL_quarrel_28 : decode prog_1_method_12_code 28 = .ok (.ifCond .eq 7, 3) := by decide +kernel
theorem dTL_quarrel_31 : decode prog_1_method_12_code 31 = .ok (.iconst 1, 1) := by decide +kernel
theorem dTL_quarrel_32 : decode prog_1_method_12_code 32 = .ok (.goto 4, 3) := by decide +kernel
theorem dTL_quarrel_35 : decode prog_1_method_12_code 35 = .ok (.iconst 0, 1) := by decide +kernel
theorem dTL_quarrel_36 : decode prog_1_method_12_code 36 = .ok (.ireturn, 1) := by decide +kernel
theorem dTL_quarrels_0 : decode prog_1_method_13_code 0 = .ok (.iconst 0, 1) := by decide +kernel
theorem dTL_quarrels_1 : decode prog_1_method_13_code 1 = .ok (.istore_n 1, 1) := by decide +kernel
theorem dTL_quarrels_2 : decode prog_1_method_13_code 2 = .ok (.iconst 1, 1) := by decide +kernel
theorem dTL_quarrels_3 : decode prog_1_method_13_code 3 = .ok (.iconst 0, 1) := by decide +kernel
theorem dTL_quarrels_4 : decode prog_1_method_13_code 4 = .ok (.invokestatic 147, 3) := by decide +kernel
theorem dTL_quarrels_7 : decode prog_1_method_13_code 7 = .ok (.istore_n 2, 1) := by decide +kernel
theorem dTL_quarrels_8 : decode prog_1_method_13_code 8 = .ok (.iload_n 2, 1) := by decide +kernel
theorem dTL_quarrels_9 : decode prog_1_method_13_code 9 = .ok (.bipush 96, 2) := by decide +kernel
theorem dTL_quarrels_11 : decode prog_1_method_13_code 11 = .ok (.if_icmp .ge 23, 3) := by decide +kernel
theorem dTL_quarrels_14 : decode prog_1_method_13_code 14 = .ok (.aload_n 0, 1) := by decide +kernel
theorem dTL_quarrels_15 : decode prog_1_method_13_code 15 = .ok (.getfield 40, 3) := by decide +kernel
theorem dTL_quarrels_18 : decode prog_1_method_13_code 18 = .ok (.iload_n 2, 1) := by decide +kernel
theorem dTL_quarrels_19 : decode prog_1_method_13_code 19 = .ok (.invokevirtual 157, 3) := by decide +kernel
theorem dTL_quarrels_22 : decode prog_1_method_13_code 22 = .ok (.ifCond .eq 6, 3) := by decide +kernel
theorem dTL_quarrels_25 : decode prog_1_method_13_code 25 = .ok (.iinc 1 1, 3) := by decide +kernel
theorem dTL_quarrels_28 : decode prog_1_method_13_code 28 = .ok (.iinc 2 1, 3) := by decide +kernel
theorem dTL_quarrels_31 : decode prog_1_method_13_code 31 = .ok (.goto (-23), 3) := by decide +kernel
theorem dTL_quarrels_34 : decode prog_1_method_13_code 34 = .ok (.iload_n 1, 1) := by decide +kernel
theorem dTL_quarrels_35 : decode prog_1_method_13_code 35 = .ok (.ireturn, 1) := by decide +kernel
theorem dSe_isFull_0 : decode prog_8_method_2_code 0 = .ok (.aload_n 0, 1) := by decide +kernel
theorem dSe_isFull_1 : decode prog_8_method_2_code 1 = .ok (.getfield 25, 3) := by decide +kernel
theorem dSe_isFull_4 : decode prog_8_method_2_code 4 = .ok (.bipush 100, 2) := by decide +kernel
theorem dSe_isFull_6 : decode prog_8_method_2_code 6 = .ok (.if_icmp .lt 7, 3) := by decide +kernel
theorem dSe_isFull_9 : decode prog_8_method_2_code 9 = .ok (.iconst 1, 1) := by decide +kernel
theorem dSe_isFull_10 : decode prog_8_method_2_code 10 = .ok (.goto 4, 3) := by decide +kernel
theorem dSe_isFull_13 : decode prog_8_method_2_code 13 = .ok (.iconst 0, 1) := by decide +kernel
theorem dSe_isFull_14 : decode prog_8_method_2_code 14 = .ok (.ireturn, 1) := by decide +kernel
theorem dSe_add_0 : decode prog_8_method_5_code 0 = .ok (.aload_n 0, 1) := by decide +kernel
theorem dSe_add_1 : decode prog_8_method_5_code 1 = .ok (.getfield 25, 3) := by decide +kernel
theorem dSe_add_4 : decode prog_8_method_5_code 4 = .ok (.bipush 8, 2) := by decide +kernel
theorem dSe_add_6 : decode prog_8_method_5_code 6 = .ok (.imul, 1) := by decide +kernel
theorem dSe_add_7 : decode prog_8_method_5_code 7 = .ok (.istore 7, 2) := by decide +kernel
theorem dSe_add_9 : decode prog_8_method_5_code 9 = .ok (.aload_n 0, 1) := by decide +kernel
theorem dSe_add_10 : decode prog_8_method_5_code 10 = .ok (.getfield 11, 3) := by decide +kernel
theorem dSe_add_13 : decode prog_8_method_5_code 13 = .ok (.iload 7, 2) := by decide +kernel
theorem dSe_add_15 : decode prog_8_method_5_code 15 = .ok (.iconst 0, 1) := by decide +kernel
theorem dSe_add_16 : decode prog_8_method_5_code 16 = .ok (.iadd, 1) := by decide +kernel
theorem dSe_add_17 : decode prog_8_method_5_code 17 = .ok (.iload_n 1, 1) := by decide +kernel
theorem dSe_add_18 : decode prog_8_method_5_code 18 = .ok (.iastore, 1) := by decide +kernel
theorem dSe_add_19 : decode prog_8_method_5_code 19 = .ok (.aload_n 0, 1) := by decide +kernel
theorem dSe_add_20 : decode prog_8_method_5_code 20 = .ok (.getfield 11, 3) := by decide +kernel
theorem dSe_add_23 : decode prog_8_method_5_code 23 = .ok (.iload 7, 2) := by decide +kernel
theorem dSe_add_25 : decode prog_8_method_5_code 25 = .ok (.iconst 1, 1) := by decide +kernel
theorem dSe_add_26 : decode prog_8_method_5_code 26 = .ok (.iadd, 1) := by decide +kernel
theorem dSe_add_27 : decode prog_8_method_5_code 27 = .ok (.iload_n 2, 1) := by decide +kernel
theorem dSe_add_28 : decode prog_8_method_5_code 28 = .ok (.iastore, 1) := by decide +kernel
theorem dSe_add_29 : decode prog_8_method_5_code 29 = .ok (.aload_n 0, 1) := by decide +kernel
theorem dSe_add_30 : decode prog_8_method_5_code 30 = .ok (.getfield 11, 3) := by decide +kernel
theorem dSe_add_33 : decode prog_8_method_5_code 33 = .ok (.iload 7, 2) := by decide +kernel
theorem dSe_add_35 : decode prog_8_method_5_code 35 = .ok (.iconst 2, 1) := by decide +kernel
theorem dSe_add_36 : decode prog_8_method_5_code 36 = .ok (.iadd, 1) := by decide +kernel
theorem dSe_add_37 : decode prog_8_method_5_code 37 = .ok (.iload_n 3, 1) := by decide +kernel
theorem dSe_add_38 : decode prog_8_method_5_code 38 = .ok (.iastore, 1) := by decide +kernel
theorem dSe_add_39 : decode prog_8_method_5_code 39 = .ok (.aload_n 0, 1) := by decide +kernel
theorem dSe_add_40 : decode prog_8_method_5_code 40 = .ok (.getfield 11, 3) := by decide +kernel
theorem dSe_add_43 : decode prog_8_method_5_code 43 = .ok (.iload 7, 2) := by decide +kernel
theorem dSe_add_45 : decode prog_8_method_5_code 45 = .ok (.iconst 3, 1) := by decide +kernel
theorem dSe_add_46 : decode prog_8_method_5_code 46 = .ok (.iadd, 1) := by decide +kernel
theorem dSe_add_47 : decode prog_8_method_5_code 47 = .ok (.iload 4, 2) := by decide +kernel
theorem dSe_add_49 : decode prog_8_method_5_code 49 = .ok (.iastore, 1) := by decide +kernel
theorem dSe_add_50 : decode prog_8_method_5_code 50 = .ok (.aload_n 0, 1) := by decide +kernel
theorem dSe_add_51 : decode prog_8_method_5_code 51 = .ok (.getfield 11, 3) := by decide +kernel
theorem dSe_add_54 : decode prog_8_method_5_code 54 = .ok (.iload 7, 2) := by decide +kernel
theorem dSe_add_56 : decode prog_8_method_5_code 56 = .ok (.iconst 4, 1) := by decide +kernel
theorem dSe_add_57 : decode prog_8_method_5_code 57 = .ok (.iadd, 1) := by decide +kernel
theorem dSe_add_58 : decode prog_8_method_5_code 58 = .ok (.iload 5, 2) := by decide +kernel
theorem dSe_add_60 : decode prog_8_method_5_code 60 = .ok (.iastore, 1) := by decide +kernel
theorem dSe_add_61 : decode prog_8_method_5_code 61 = .ok (.aload_n 0, 1) := by decide +kernel
theorem dSe_add_62 : decode prog_8_method_5_code 62 = .ok (.getfield 11, 3) := by decide +kernel
theorem dSe_add_65 : decode prog_8_method_5_code 65 = .ok (.iload 7, 2) := by decide +kernel
theorem dSe_add_67 : decode prog_8_method_5_code 67 = .ok (.iconst 5, 1) := by decide +kernel
theorem dSe_add_68 : decode prog_8_method_5_code 68 = .ok (.iadd, 1) := by decide +kernel
theorem dSe_add_69 : decode prog_8_method_5_code 69 = .ok (.iload 6, 2) := by decide +kernel
theorem dSe_add_71 : decode prog_8_method_5_code 71 = .ok (.iastore, 1) := by decide +kernel
theorem dSe_add_72 : decode prog_8_method_5_code 72 = .ok (.aload_n 0, 1) := by decide +kernel
theorem dSe_add_73 : decode prog_8_method_5_code 73 = .ok (.dup, 1) := by decide +kernel
theorem dSe_add_74 : decode prog_8_method_5_code 74 = .ok (.getfield 25, 3) := by decide +kernel
theorem dSe_add_77 : decode prog_8_method_5_code 77 = .ok (.iconst 1, 1) := by decide +kernel
theorem dSe_add_78 : decode prog_8_method_5_code 78 = .ok (.iadd, 1) := by decide +kernel
theorem dSe_add_79 : decode prog_8_method_5_code 79 = .ok (.putfield 25, 3) := by decide +kernel
theorem dSe_add_82 : decode prog_8_method_5_code 82 = .ok (.aload_n 0, 1) := by decide +kernel
theorem dSe_add_83 : decode prog_8_method_5_code 83 = .ok (.getfield 25, 3) := by decide +kernel
theorem dSe_add_86 : decode prog_8_method_5_code 86 = .ok (.iconst 1, 1) := by decide +kernel
theorem dSe_add_87 : decode prog_8_method_5_code 87 = .ok (.isub, 1) := by decide +kernel
theorem dSe_add_88 : decode prog_8_method_5_code 88 = .ok (.ireturn, 1) := by decide +kernel
theorem dTL_send_0 : decode prog_1_method_14_code 0 = .ok (.iload_n 1, 1) := by decide +kernel
theorem dTL_send_1 : decode prog_1_method_14_code 1 = .ok (.invokestatic 144, 3) := by decide +kernel
theorem dTL_send_4 : decode prog_1_method_14_code 4 = .ok (.ifCond .eq 31, 3) := by decide +kernel
theorem dTL_send_7 : decode prog_1_method_14_code 7 = .ok (.iload_n 2, 1) := by decide +kernel
theorem dTL_send_8 : decode prog_1_method_14_code 8 = .ok (.invokestatic 95, 3) := by decide +kernel
theorem dTL_send_11 : decode prog_1_method_14_code 11 = .ok (.ifCond .eq 24, 3) := by decide +kernel
theorem dTL_send_14 : decode prog_1_method_14_code 14 = .ok (.iload_n 3, 1) := by decide +kernel
theorem dTL_send_15 : decode prog_1_method_14_code 15 = .ok (.iconst 1, 1) := by decide +kernel
theorem dTL_send_16 : decode prog_1_method_14_code 16 = .ok (.sipush 9999, 3) := by decide +kernel
theorem dTL_send_19 : decode prog_1_method_14_code 19 = .ok (.invokestatic 80, 3) := by decide +kernel
theorem dTL_send_22 : decode prog_1_method_14_code 22 = .ok (.ifCond .eq 13, 3) := by decide +kernel
theorem dTL_send_25 : decode prog_1_method_14_code 25 = .ok (.aload_n 0, 1) := by decide +kernel
theorem dTL_send_26 : decode prog_1_method_14_code 26 = .ok (.getfield 54, 3) := by decide +kernel
theorem dTL_send_29 : decode prog_1_method_14_code 29 = .ok (.invokevirtual 160, 3) := by decide +kernel
theorem dTL_send_32 : decode prog_1_method_14_code 32 = .ok (.ifCond .eq 5, 3) := by decide +kernel
theorem dTL_send_35 : decode prog_1_method_14_code 35 = .ok (.iconst (-1), 1) := by decide +kernel
theorem dTL_send_36 : decode prog_1_method_14_code 36 = .ok (.ireturn, 1) := by decide +kernel
theorem dTL_send_37 : decode prog_1_method_14_code 37 = .ok (.aload_n 0, 1) := by decide +kernel
theorem dTL_send_38 : decode prog_1_method_14_code 38 = .ok (.getfield 12, 3) := by decide +kernel
theorem dTL_send_41 : decode prog_1_method_14_code 41 = .ok (.iload_n 1, 1) := by decide +kernel
theorem dTL_send_42 : decode prog_1_method_14_code 42 = .ok (.iconst 0, 1) := by decide +kernel
theorem dTL_send_43 : decode prog_1_method_14_code 43 = .ok (.invokevirtual 88, 3) := by decide +kernel
theorem dTL_send_46 : decode prog_1_method_14_code 46 = .ok (.istore 4, 2) := by decide +kernel
theorem dTL_send_48 : decode prog_1_method_14_code 48 = .ok (.iload 4, 2) := by decide +kernel
theorem dTL_send_50 : decode prog_1_method_14_code 50 = .ok (.iconst (-1), 1) := by decide +kernel
theorem dTL_send_51 : decode prog_1_method_14_code 51 = .ok (.if_icmp .ne 5, 3) := by decide +kernel
theorem dTL_send_54 : decode prog_1_method_14_code 54 = .ok (.iconst (-1), 1) := by decide +kernel
theorem dTL_send_55 : decode prog_1_method_14_code 55 = .ok (.ireturn, 1) := by decide +kernel
theorem dTL_send_56 : decode prog_1_method_14_code 56 = .ok (.aload_n 0, 1) := by decide +kernel
theorem dTL_send_57 : decode prog_1_method_14_code 57 = .ok (.getfield 54, 3) := by decide +kernel
theorem dTL_send_60 : decode prog_1_method_14_code 60 = .ok (.iload_n 1, 1) := by decide +kernel
theorem dTL_send_61 : decode prog_1_method_14_code 61 = .ok (.iload_n 2, 1) := by decide +kernel
theorem dTL_send_62 : decode prog_1_method_14_code 62 = .ok (.iload_n 3, 1) := by decide +kernel
theorem dTL_send_63 : decode prog_1_method_14_code 63 = .ok (.aload_n 0, 1) := by decide +kernel
theorem dTL_send_64 : decode prog_1_method_14_code 64 = .ok (.getfield 19, 3) := by decide +kernel
theorem dTL_send_67 : decode prog_1_method_14_code 67 = .ok (.iload_n 2, 1) := by decide +kernel
theorem dTL_send_68 : decode prog_1_method_14_code 68 = .ok (.iload_n 3, 1) := by decide +kernel
theorem dTL_send_69 : decode prog_1_method_14_code 69 = .ok (.invokevirtual 102, 3) := by decide +kernel
theorem dTL_send_72 : decode prog_1_method_14_code 72 = .ok (.aload_n 0, 1) := by decide +kernel
theorem dTL_send_73 : decode prog_1_method_14_code 73 = .ok (.getfield 72, 3) := by decide +kernel
theorem dTL_send_76 : decode prog_1_method_14_code 76 = .ok (.aload_n 0, 1) := by decide +kernel
theorem dTL_send_77 : decode prog_1_method_14_code 77 = .ok (.getfield 72, 3) := by decide +kernel
theorem dTL_send_80 : decode prog_1_method_14_code 80 = .ok (.iload 4, 2) := by decide +kernel
theorem dTL_send_82 : decode prog_1_method_14_code 82 = .ok (.iadd, 1) := by decide +kernel
theorem dTL_send_83 : decode prog_1_method_14_code 83 = .ok (.invokevirtual 163, 3) := by decide +kernel
theorem dTL_send_86 : decode prog_1_method_14_code 86 = .ok (.ireturn, 1) := by decide +kernel
theorem dSe_count_0 : decode prog_8_method_3_code 0 = .ok (.aload_n 0, 1) := by decide +kernel
theorem dSe_count_1 : decode prog_8_method_3_code 1 = .ok (.getfield 25, 3) := by decide +kernel
theorem dSe_count_4 : decode prog_8_method_3_code 4 = .ok (.ireturn, 1) := by decide +kernel
theorem dSe_entry_0 : decode prog_8_method_6_code 0 = .ok (.aload_n 0, 1) := by decide +kernel
theorem dSe_entry_1 : decode prog_8_method_6_code 1 = .ok (.getfield 11, 3) := by decide +kernel
theorem dSe_entry_4 : decode prog_8_method_6_code 4 = .ok (.iload_n 1, 1) := by decide +kernel
theorem dSe_entry_5 : decode prog_8_method_6_code 5 = .ok (.bipush 8, 2) := by decide +kernel
theorem dSe_entry_7 : decode prog_8_method_6_code 7 = .ok (.imul, 1) := by decide +kernel
theorem dSe_entry_8 : decode prog_8_method_6_code 8 = .ok (.iload_n 2, 1) := by decide +kernel
theorem dSe_entry_9 : decode prog_8_method_6_code 9 = .ok (.iadd, 1) := by decide +kernel
theorem dSe_entry_10 : decode prog_8_method_6_code 10 = .ok (.iaload, 1) := by decide +kernel
theorem dSe_entry_11 : decode prog_8_method_6_code 11 = .ok (.ireturn, 1) := by decide +kernel
theorem dTL_sending_0 : decode prog_1_method_15_code 0 = .ok (.iload_n 1, 1) := by decide +kernel
theorem dTL_sending_1 : decode prog_1_method_15_code 1 = .ok (.iconst 0, 1) := by decide +kernel
theorem dTL_sending_2 : decode prog_1_method_15_code 2 = .ok (.aload_n 0, 1) := by decide +kernel
theorem dTL_sending_3 : decode prog_1_method_15_code 3 = .ok (.getfield 54, 3) := by decide +kernel
theorem dTL_sending_6 : decode prog_1_method_15_code 6 = .ok (.invokevirtual 167, 3) := by decide +kernel
theorem dTL_sending_9 : decode prog_1_method_15_code 9 = .ok (.iconst 1, 1) := by decide +kernel
theorem dTL_sending_10 : decode prog_1_method_15_code 10 = .ok (.isub, 1) := by decide +kernel
theorem dTL_sending_11 : decode prog_1_method_15_code 11 = .ok (.invokestatic 80, 3) := by decide +kernel
theorem dTL_sending_14 : decode prog_1_method_15_code 14 = .ok (.ifCond .eq 13, 3) := by decide +kernel
theorem dTL_sending_17 : decode prog_1_method_15_code 17 = .ok (.iload_n 2, 1) := by decide +kernel
theorem dTL_sending_18 : decode prog_1_method_15_code 18 = .ok (.iconst 0, 1) := by decide +kernel
theorem dTL_sending_19 : decode prog_1_method_15_code 19 = .ok (.bipush 7, 2) := by decide +kernel
theorem dTL_sending_21 : decode prog_1_method_15_code 21 = .ok (.invokestatic 80, 3) := by decide +kernel
theorem dTL_sending_24 : decode prog_1_method_15_code 24 = .ok (.ifCond .ne 5, 3) := by decide +kernel
theorem dTL_sending_27 : decode prog_1_method_15_code 27 = .ok (.iconst (-1), 1) := by decide +kernel
theorem dTL_sending_28 : decode prog_1_method_15_code 28 = .ok (.ireturn, 1) := by decide +kernel
theorem dTL_sending_29 : decode prog_1_method_15_code 29 = .ok (.aload_n 0, 1) := by decide +kernel
theorem dTL_sending_30 : decode prog_1_method_15_code 30 = .ok (.getfield 54, 3) := by decide +kernel
theorem dTL_sending_33 : decode prog_1_method_15_code 33 = .ok (.iload_n 1, 1) := by decide +kernel
theorem dTL_sending_34 : decode prog_1_method_15_code 34 = .ok (.iload_n 2, 1) := by decide +kernel
theorem dTL_sending_35 : decode prog_1_method_15_code 35 = .ok (.invokevirtual 170, 3) := by decide +kernel
theorem dTL_sending_38 : decode prog_1_method_15_code 38 = .ok (.ireturn, 1) := by decide +kernel
theorem dSe_comesOn_0 : decode prog_8_method_7_code 0 = .ok (.aload_n 0, 1) := by decide +kernel
theorem dSe_comesOn_1 : decode prog_8_method_7_code 1 = .ok (.iload_n 1, 1) := by decide +kernel
theorem dSe_comesOn_2 : decode prog_8_method_7_code 2 = .ok (.iconst 5, 1) := by decide +kernel
theorem dSe_comesOn_3 : decode prog_8_method_7_code 3 = .ok (.invokevirtual 28, 3) := by decide +kernel
theorem dSe_comesOn_6 : decode prog_8_method_7_code 6 = .ok (.iload_n 2, 1) := by decide +kernel
theorem dSe_comesOn_7 : decode prog_8_method_7_code 7 = .ok (.if_icmp .ne 17, 3) := by decide +kernel
theorem dSe_comesOn_10 : decode prog_8_method_7_code 10 = .ok (.aload_n 0, 1) := by decide +kernel
theorem dSe_comesOn_11 : decode prog_8_method_7_code 11 = .ok (.iload_n 1, 1) := by decide +kernel
theorem dSe_comesOn_12 : decode prog_8_method_7_code 12 = .ok (.bipush 6, 2) := by decide +kernel
theorem dSe_comesOn_14 : decode prog_8_method_7_code 14 = .ok (.invokevirtual 28, 3) := by decide +kernel
theorem dSe_comesOn_17 : decode prog_8_method_7_code 17 = .ok (.ifCond .ne 7, 3) := by decide +kernel
theorem dSe_comesOn_20 : decode prog_8_method_7_code 20 = .ok (.iconst 1, 1) := by decide +kernel
theorem dSe_comesOn_21 : decode prog_8_method_7_code 21 = .ok (.goto 4, 3) := by decide +kernel
theorem dSe_comesOn_24 : decode prog_8_method_7_code 24 = .ok (.iconst 0, 1) := by decide +kernel
theorem dSe_comesOn_25 : decode prog_8_method_7_code 25 = .ok (.ireturn, 1) := by decide +kernel
theorem dAc_comingDay_0 : decode prog_2_method_5_code 0 = .ok (.bipush 90, 2) := by decide +kernel
theorem dAc_comingDay_2 : decode prog_2_method_5_code 2 = .ok (.iload_n 0, 1) := by decide +kernel
theorem dAc_comingDay_3 : decode prog_2_method_5_code 3 = .ok (.iconst 1, 1) := by decide +kernel
theorem dAc_comingDay_4 : decode prog_2_method_5_code 4 = .ok (.iadd, 1) := by decide +kernel
theorem dAc_comingDay_5 : decode prog_2_method_5_code 5 = .ok (.imul, 1) := by decide +kernel
theorem dAc_comingDay_6 : decode prog_2_method_5_code 6 = .ok (.ireturn, 1) := by decide +kernel
theorem dAc_pay_0 : decode prog_2_method_4_code 0 = .ok (.iload_n 3, 1) := by decide +kernel
theorem dAc_pay_1 : decode prog_2_method_4_code 1 = .ok (.aload_n 0, 1) := by decide +kernel
theorem dAc_pay_2 : decode prog_2_method_4_code 2 = .ok (.getfield 11, 3) := by decide +kernel
theorem dAc_pay_5 : decode prog_2_method_4_code 5 = .ok (.iload_n 1, 1) := by decide +kernel
theorem dAc_pay_6 : decode prog_2_method_4_code 6 = .ok (.bipush 33, 2) := by decide +kernel
theorem dAc_pay_8 : decode prog_2_method_4_code 8 = .ok (.imul, 1) := by decide +kernel
theorem dAc_pay_9 : decode prog_2_method_4_code 9 = .ok (.iload_n 2, 1) := by decide +kernel
theorem dAc_pay_10 : decode prog_2_method_4_code 10 = .ok (.iadd, 1) := by decide +kernel
theorem dAc_pay_11 : decode prog_2_method_4_code 11 = .ok (.iaload, 1) := by decide +kernel
theorem dAc_pay_12 : decode prog_2_method_4_code 12 = .ok (.invokestatic 40, 3) := by decide +kernel
theorem dAc_pay_15 : decode prog_2_method_4_code 15 = .ok (.istore 5, 2) := by decide +kernel
theorem dAc_pay_17 : decode prog_2_method_4_code 17 = .ok (.aload_n 0, 1) := by decide +kernel
theorem dAc_pay_18 : decode prog_2_method_4_code 18 = .ok (.getfield 11, 3) := by decide +kernel
theorem dAc_pay_21 : decode prog_2_method_4_code 21 = .ok (.iload_n 1, 1) := by decide +kernel
theorem dAc_pay_22 : decode prog_2_method_4_code 22 = .ok (.bipush 33, 2) := by decide +kernel
theorem dAc_pay_24 : decode prog_2_method_4_code 24 = .ok (.imul, 1) := by decide +kernel
theorem dAc_pay_25 : decode prog_2_method_4_code 25 = .ok (.iload_n 2, 1) := by decide +kernel
theorem dAc_pay_26 : decode prog_2_method_4_code 26 = .ok (.iadd, 1) := by decide +kernel
theorem dAc_pay_27 : decode prog_2_method_4_code 27 = .ok (.dup2, 1) := by decide +kernel
theorem dAc_pay_28 : decode prog_2_method_4_code 28 = .ok (.iaload, 1) := by decide +kernel
theorem dAc_pay_29 : decode prog_2_method_4_code 29 = .ok (.iload 5, 2) := by decide +kernel
theorem dAc_pay_31 : decode prog_2_method_4_code 31 = .ok (.isub, 1) := by decide +kernel
theorem dAc_pay_32 : decode prog_2_method_4_code 32 = .ok (.iastore, 1) := by decide +kernel
theorem dAc_pay_33 : decode prog_2_method_4_code 33 = .ok (.aload_n 0, 1) := by decide +kernel
theorem dAc_pay_34 : decode prog_2_method_4_code 34 = .ok (.getfield 15, 3) := by decide +kernel
theorem dAc_pay_37 : decode prog_2_method_4_code 37 = .ok (.iload_n 1, 1) := by decide +kernel
theorem dAc_pay_38 : decode prog_2_method_4_code 38 = .ok (.dup2, 1) := by decide +kernel
theorem dAc_pay_39 : decode prog_2_method_4_code 39 = .ok (.iaload, 1) := by decide +kernel
theorem dAc_pay_40 : decode prog_2_method_4_code 40 = .ok (.iload 5, 2) := by decide +kernel
theorem dAc_pay_42 : decode prog_2_method_4_code 42 = .ok (.isub, 1) := by decide +kernel
theorem dAc_pay_43 : decode prog_2_method_4_code 43 = .ok (.iastore, 1) := by decide +kernel
theorem dAc_pay_44 : decode prog_2_method_4_code 44 = .ok (.aload_n 0, 1) := by decide +kernel
theorem dAc_pay_45 : decode prog_2_method_4_code 45 = .ok (.getfield 21, 3) := by decide +kernel
theorem dAc_pay_48 : decode prog_2_method_4_code 48 = .ok (.iload_n 1, 1) := by decide +kernel
theorem dAc_pay_49 : decode prog_2_method_4_code 49 = .ok (.dup2, 1) := by decide +kernel
theorem dAc_pay_50 : decode prog_2_method_4_code 50 = .ok (.iaload, 1) := by decide +kernel
theorem dAc_pay_51 : decode prog_2_method_4_code 51 = .ok (.iload 5, 2) := by decide +kernel
theorem dAc_pay_53 : decode prog_2_method_4_code 53 = .ok (.iadd, 1) := by decide +kernel
theorem dAc_pay_54 : decode prog_2_method_4_code 54 = .ok (.iastore, 1) := by decide +kernel
theorem dAc_pay_55 : decode prog_2_method_4_code 55 = .ok (.aload_n 0, 1) := by decide +kernel
theorem dAc_pay_56 : decode prog_2_method_4_code 56 = .ok (.getfield 24, 3) := by decide +kernel
theorem dAc_pay_59 : decode prog_2_method_4_code 59 = .ok (.iload_n 1, 1) := by decide +kernel
theorem dAc_pay_60 : decode prog_2_method_4_code 60 = .ok (.bipush 6, 2) := by decide +kernel
theorem dAc_pay_62 : decode prog_2_method_4_code 62 = .ok (.idiv, 1) := by decide +kernel
theorem dAc_pay_63 : decode prog_2_method_4_code 63 = .ok (.dup2, 1) := by decide +kernel
theorem dAc_pay_64 : decode prog_2_method_4_code 64 = .ok (.laload, 1) := by decide +kernel
theorem dAc_pay_65 : decode prog_2_method_4_code 65 = .ok (.iload 5, 2) := by decide +kernel
theorem dAc_pay_67 : decode prog_2_method_4_code 67 = .ok (.i2l, 1) := by decide +kernel
theorem dAc_pay_68 : decode prog_2_method_4_code 68 = .ok (.iload 4, 2) := by decide +kernel
theorem dAc_pay_70 : decode prog_2_method_4_code 70 = .ok (.iload_n 2, 1) := by decide +kernel
theorem dAc_pay_71 : decode prog_2_method_4_code 71 = .ok (.invokestatic 36, 3) := by decide +kernel
theorem dAc_pay_74 : decode prog_2_method_4_code 74 = .ok (.isub, 1) := by decide +kernel
theorem dAc_pay_75 : decode prog_2_method_4_code 75 = .ok (.i2l, 1) := by decide +kernel
theorem dAc_pay_76 : decode prog_2_method_4_code 76 = .ok (.lmul, 1) := by decide +kernel
theorem dAc_pay_77 : decode prog_2_method_4_code 77 = .ok (.ladd, 1) := by decide +kernel
theorem dAc_pay_78 : decode prog_2_method_4_code 78 = .ok (.lastore, 1) := by decide +kernel
theorem dAc_pay_79 : decode prog_2_method_4_code 79 = .ok (.iload 5, 2) := by decide +kernel
theorem dAc_pay_81 : decode prog_2_method_4_code 81 = .ok (.ireturn, 1) := by decide +kernel
theorem dAc_store_0 : decode prog_2_method_2_code 0 = .ok (.iload_n 2, 1) := by decide +kernel
theorem dAc_store_1 : decode prog_2_method_2_code 1 = .ok (.istore 4, 2) := by decide +kernel
theorem dAc_store_3 : decode prog_2_method_2_code 3 = .ok (.iconst 0, 1) := by decide +kernel
theorem dAc_store_4 : decode prog_2_method_2_code 4 = .ok (.istore 5, 2) := by decide +kernel
theorem dAc_store_6 : decode prog_2_method_2_code 6 = .ok (.iload 5, 2) := by decide +kernel
theorem dAc_store_8 : decode prog_2_method_2_code 8 = .ok (.bipush 33, 2) := by decide +kernel
theorem dAc_store_10 : decode prog_2_method_2_code 10 = .ok (.if_icmp .ge 29, 3) := by decide +kernel
theorem dAc_store_13 : decode prog_2_method_2_code 13 = .ok (.iload 4, 2) := by decide +kernel
theorem dAc_store_15 : decode prog_2_method_2_code 15 = .ok (.ifCond .le 24, 3) := by decide +kernel
theorem dAc_store_18 : decode prog_2_method_2_code 18 = .ok (.iload 4, 2) := by decide +kernel
theorem dAc_store_20 : decode prog_2_method_2_code 20 = .ok (.aload_n 0, 1) := by decide +kernel
theorem dAc_store_21 : decode prog_2_method_2_code 21 = .ok (.iload_n 1, 1) := by decide +kernel
theorem dAc_store_22 : decode prog_2_method_2_code 22 = .ok (.iload 5, 2) := by decide +kernel
theorem dAc_store_24 : decode prog_2_method_2_code 24 = .ok (.iload 4, 2) := by decide +kernel
theorem dAc_store_26 : decode prog_2_method_2_code 26 = .ok (.iload_n 3, 1) := by decide +kernel
theorem dAc_store_27 : decode prog_2_method_2_code 27 = .ok (.invokevirtual 28, 3) := by decide +kernel
theorem dAc_store_30 : decode prog_2_method_2_code 30 = .ok (.isub, 1) := by decide +kernel
theorem dAc_store_31 : decode prog_2_method_2_code 31 = .ok (.istore 4, 2) := by decide +kernel
theorem dAc_store_33 : decode prog_2_method_2_code 33 = .ok (.iinc 5 1, 3) := by decide +kernel
theorem dAc_store_36 : decode prog_2_method_2_code 36 = .ok (.goto (-30), 3) := by decide +kernel
theorem dAc_store_39 : decode prog_2_method_2_code 39 = .ok (.aload_n 0, 1) := by decide +kernel
theorem dAc_store_40 : decode prog_2_method_2_code 40 = .ok (.getfield 18, 3) := by decide +kernel
theorem dAc_store_43 : decode prog_2_method_2_code 43 = .ok (.iload_n 1, 1) := by decide +kernel
theorem dAc_store_44 : decode prog_2_method_2_code 44 = .ok (.dup2, 1) := by decide +kernel
theorem dAc_store_45 : decode prog_2_method_2_code 45 = .ok (.iaload, 1) := by decide +kernel
theorem dAc_store_46 : decode prog_2_method_2_code 46 = .ok (.iload 4, 2) := by decide +kernel
theorem dAc_store_48 : decode prog_2_method_2_code 48 = .ok (.iadd, 1) := by decide +kernel
theorem dAc_store_49 : decode prog_2_method_2_code 49 = .ok (.iastore, 1) := by decide +kernel
theorem dAc_store_50 : decode prog_2_method_2_code 50 = .ok (.iload_n 2, 1) := by decide +kernel
theorem dAc_store_51 : decode prog_2_method_2_code 51 = .ok (.iload 4, 2) := by decide +kernel
theorem dAc_store_53 : decode prog_2_method_2_code 53 = .ok (.isub, 1) := by decide +kernel
theorem dAc_store_54 : decode prog_2_method_2_code 54 = .ok (.ireturn, 1) := by decide +kernel
theorem dSe_markStored_0 : decode prog_8_method_8_code 0 = .ok (.aload_n 0, 1) := by decide +kernel
theorem dSe_markStored_1 : decode prog_8_method_8_code 1 = .ok (.getfield 18, 3) := by decide +kernel
theorem dSe_markStored_4 : decode prog_8_method_8_code 4 = .ok (.bipush 100, 2) := by decide +kernel
theorem dSe_markStored_6 : decode prog_8_method_8_code 6 = .ok (.if_icmp .lt 4, 3) := by decide +kernel
theorem dSe_markStored_9 : decode prog_8_method_8_code 9 = .ok (.return_, 1) := by decide +kernel
theorem dSe_markStored_10 : decode prog_8_method_8_code 10 = .ok (.aload_n 0, 1) := by decide +kernel
theorem dSe_markStored_11 : decode prog_8_method_8_code 11 = .ok (.getfield 11, 3) := by decide +kernel
theorem dSe_markStored_14 : decode prog_8_method_8_code 14 = .ok (.iload_n 1, 1) := by decide +kernel
theorem dSe_markStored_15 : decode prog_8_method_8_code 15 = .ok (.bipush 8, 2) := by decide +kernel
theorem dSe_markStored_17 : decode prog_8_method_8_code 17 = .ok (.imul, 1) := by decide +kernel
theorem dSe_markStored_18 : decode prog_8_method_8_code 18 = .ok (.bipush 6, 2) := by decide +kernel
theorem dSe_markStored_20 : decode prog_8_method_8_code 20 = .ok (.iadd, 1) := by decide +kernel
theorem dSe_markStored_21 : decode prog_8_method_8_code 21 = .ok (.iconst 1, 1) := by decide +kernel
theorem dSe_markStored_22 : decode prog_8_method_8_code 22 = .ok (.iastore, 1) := by decide +kernel
theorem dSe_markStored_23 : decode prog_8_method_8_code 23 = .ok (.aload_n 0, 1) := by decide +kernel
theorem dSe_markStored_24 : decode prog_8_method_8_code 24 = .ok (.getfield 11, 3) := by decide +kernel
theorem dSe_markStored_27 : decode prog_8_method_8_code 27 = .ok (.iload_n 1, 1) := by decide +kernel
theorem dSe_markStored_28 : decode prog_8_method_8_code 28 = .ok (.bipush 8, 2) := by decide +kernel
theorem dSe_markStored_30 : decode prog_8_method_8_code 30 = .ok (.imul, 1) := by decide +kernel
theorem dSe_markStored_31 : decode prog_8_method_8_code 31 = .ok (.bipush 7, 2) := by decide +kernel
theorem dSe_markStored_33 : decode prog_8_method_8_code 33 = .ok (.iadd, 1) := by decide +kernel
theorem dSe_markStored_34 : decode prog_8_method_8_code 34 = .ok (.iload_n 2, 1) := by decide +kernel
theorem dSe_markStored_35 : decode prog_8_method_8_code 35 = .ok (.iastore, 1) := by decide +kernel
theorem dSe_markStored_36 : decode prog_8_method_8_code 36 = .ok (.aload_n 0, 1) := by decide +kernel
theorem dSe_markStored_37 : decode prog_8_method_8_code 37 = .ok (.getfield 15, 3) := by decide +kernel
theorem dSe_markStored_40 : decode prog_8_method_8_code 40 = .ok (.aload_n 0, 1) := by decide +kernel
theorem dSe_markStored_41 : decode prog_8_method_8_code 41 = .ok (.getfield 18, 3) := by decide +kernel
theorem dSe_markStored_44 : decode prog_8_method_8_code 44 = .ok (.iload_n 1, 1) := by decide +kernel
theorem dSe_markStored_45 : decode prog_8_method_8_code 45 = .ok (.iastore, 1) := by decide +kernel
theorem dSe_markStored_46 : decode prog_8_method_8_code 46 = .ok (.aload_n 0, 1) := by decide +kernel
theorem dSe_markStored_47 : decode prog_8_method_8_code 47 = .ok (.dup, 1) := by decide +kernel
theorem dSe_markStored_48 : decode prog_8_method_8_code 48 = .ok (.getfield 18, 3) := by decide +kernel
theorem dSe_markStored_51 : decode prog_8_method_8_code 51 = .ok (.iconst 1, 1) := by decide +kernel
theorem dSe_markStored_52 : decode prog_8_method_8_code 52 = .ok (.iadd, 1) := by decide +kernel
theorem dSe_markStored_53 : decode prog_8_method_8_code 53 = .ok (.putfield 18, 3) := by decide +kernel
theorem dSe_markStored_56 : decode prog_8_method_8_code 56 = .ok (.aload_n 0, 1) := by decide +kernel
theorem dSe_markStored_57 : decode prog_8_method_8_code 57 = .ok (.dup, 1) := by decide +kernel
theorem dSe_markStored_58 : decode prog_8_method_8_code 58 = .ok (.getfield 22, 3) := by decide +kernel
theorem dSe_markStored_61 : decode prog_8_method_8_code 61 = .ok (.aload_n 0, 1) := by decide +kernel
theorem dSe_markStored_62 : decode prog_8_method_8_code 62 = .ok (.iload_n 1, 1) := by decide +kernel
theorem dSe_markStored_63 : decode prog_8_method_8_code 63 = .ok (.iconst 2, 1) := by decide +kernel
theorem dSe_markStored_64 : decode prog_8_method_8_code 64 = .ok (.invokevirtual 28, 3) := by decide +kernel
theorem dSe_markStored_67 : decode prog_8_method_8_code 67 = .ok (.iadd, 1) := by decide +kernel
theorem dSe_markStored_68 : decode prog_8_method_8_code 68 = .ok (.putfield 22, 3) := by decide +kernel
theorem dSe_markStored_71 : decode prog_8_method_8_code 71 = .ok (.return_, 1) := by decide +kernel
theorem dTL_storeArrivals_0 : decode prog_1_method_26_code 0 = .ok (.iconst 0, 1) := by decide +kernel
theorem dTL_storeArrivals_1 : decode prog_1_method_26_code 1 = .ok (.istore_n 1, 1) := by decide +kernel
theorem dTL_storeArrivals_2 : decode prog_1_method_26_code 2 = .ok (.iload_n 1, 1) := by decide +kernel
theorem dTL_storeArrivals_3 : decode prog_1_method_26_code 3 = .ok (.aload_n 0, 1) := by decide +kernel
theorem dTL_storeArrivals_4 : decode prog_1_method_26_code 4 = .ok (.getfield 54, 3) := by decide +kernel
theorem dTL_storeArrivals_7 : decode prog_1_method_26_code 7 = .ok (.invokevirtual 167, 3) := by decide +kernel
theorem dTL_storeArrivals_10 : decode prog_1_method_26_code 10 = .ok (.if_icmp .ge 77, 3) := by decide +kernel
theorem dTL_storeArrivals_13 : decode prog_1_method_26_code 13 = .ok (.aload_n 0, 1) := by decide +kernel
theorem dTL_storeArrivals_14 : decode prog_1_method_26_code 14 = .ok (.getfield 54, 3) := by decide +kernel
theorem dTL_storeArrivals_17 : decode prog_1_method_26_code 17 = .ok (.iload_n 1, 1) := by decide +kernel
theorem dTL_storeArrivals_18 : decode prog_1_method_26_code 18 = .ok (.aload_n 0, 1) := by decide +kernel
theorem dTL_storeArrivals_19 : decode prog_1_method_26_code 19 = .ok (.getfield 72, 3) := by decide +kernel
theorem dTL_storeArrivals_22 : decode prog_1_method_26_code 22 = .ok (.invokevirtual 243, 3) := by decide +kernel
theorem dTL_storeArrivals_25 : decode prog_1_method_26_code 25 = .ok (.ifCond .eq 56, 3) := by decide +kernel
theorem dTL_storeArrivals_28 : decode prog_1_method_26_code 28 = .ok (.aload_n 0, 1) := by decide +kernel
theorem dTL_storeArrivals_29 : decode prog_1_method_26_code 29 = .ok (.getfield 54, 3) := by decide +kernel
theorem dTL_storeArrivals_32 : decode prog_1_method_26_code 32 = .ok (.iload_n 1, 1) := by decide +kernel
theorem dTL_storeArrivals_33 : decode prog_1_method_26_code 33 = .ok (.iconst 0, 1) := by decide +kernel
theorem dTL_storeArrivals_34 : decode prog_1_method_26_code 34 = .ok (.invokevirtual 170, 3) := by decide +kernel
theorem dTL_storeArrivals_37 : decode prog_1_method_26_code 37 = .ok (.aload_n 0, 1) := by decide +kernel
theorem dTL_storeArrivals_38 : decode prog_1_method_26_code 38 = .ok (.getfield 54, 3) := by decide +kernel
theorem dTL_storeArrivals_41 : decode prog_1_method_26_code 41 = .ok (.iload_n 1, 1) := by decide +kernel
theorem dTL_storeArrivals_42 : decode prog_1_method_26_code 42 = .ok (.iconst 1, 1) := by decide +kernel
theorem dTL_storeArrivals_43 : decode prog_1_method_26_code 43 = .ok (.invokevirtual 170, 3) := by decide +kernel
theorem dTL_storeArrivals_46 : decode prog_1_method_26_code 46 = .ok (.invokestatic 147, 3) := by decide +kernel
theorem dTL_storeArrivals_49 : decode prog_1_method_26_code 49 = .ok (.istore_n 2, 1) := by decide +kernel
theorem dTL_storeArrivals_50 : decode prog_1_method_26_code 50 = .ok (.aload_n 0, 1) := by decide +kernel
theorem dTL_storeArrivals_51 : decode prog_1_method_26_code 51 = .ok (.getfield 47, 3) := by decide +kernel
theorem dTL_storeArrivals_54 : decode prog_1_method_26_code 54 = .ok (.iload_n 2, 1) := by decide +kernel
theorem dTL_storeArrivals_55 : decode prog_1_method_26_code 55 = .ok (.aload_n 0, 1) := by decide +kernel
theorem dTL_storeArrivals_56 : decode prog_1_method_26_code 56 = .ok (.getfield 54, 3) := by decide +kernel
theorem dTL_storeArrivals_59 : decode prog_1_method_26_code 59 = .ok (.iload_n 1, 1) := by decide +kernel
theorem dTL_storeArrivals_60 : decode prog_1_method_26_code 60 = .ok (.iconst 2, 1) := by decide +kernel
theorem dTL_storeArrivals_61 : decode prog_1_method_26_code 61 = .ok (.invokevirtual 170, 3) := by decide +kernel
theorem dTL_storeArrivals_64 : decode prog_1_method_26_code 64 = .ok (.aload_n 0, 1) := by decide +kernel
theorem dTL_storeArrivals_65 : decode prog_1_method_26_code 65 = .ok (.getfield 72, 3) := by decide +kernel
theorem dTL_storeArrivals_68 : decode prog_1_method_26_code 68 = .ok (.invokevirtual 246, 3) := by decide +kernel
theorem dTL_storeArrivals_71 : decode prog_1_method_26_code 71 = .ok (.istore_n 3, 1) := by decide +kernel
theorem dTL_storeArrivals_72 : decode prog_1_method_26_code 72 = .ok (.aload_n 0, 1) := by decide +kernel
theorem dTL_storeArrivals_73 : decode prog_1_method_26_code 73 = .ok (.getfield 54, 3) := by decide +kernel
theorem dTL_storeArrivals_76 : decode prog_1_method_26_code 76 = .ok (.iload_n 1, 1) := by decide +kernel
theorem dTL_storeArrivals_77 : decode prog_1_method_26_code 77 = .ok (.iload_n 3, 1) := by decide +kernel
theorem dTL_storeArrivals_78 : decode prog_1_method_26_code 78 = .ok (.invokevirtual 250, 3) := by decide +kernel
theorem dTL_storeArrivals_81 : decode prog_1_method_26_code 81 = .ok (.iinc 1 1, 3) := by decide +kernel
theorem dTL_storeArrivals_84 : decode prog_1_method_26_code 84 = .ok (.goto (-82), 3) := by decide +kernel
theorem dTL_storeArrivals_87 : decode prog_1_method_26_code 87 = .ok (.return_, 1) := by decide +kernel
theorem dAc_bringDebt_0 : decode prog_2_method_3_code 0 = .ok (.iload_n 3, 1) := by decide +kernel
theorem dAc_bringDebt_1 : decode prog_2_method_3_code 1 = .ok (.ifCond .le 13, 3) := by decide +kernel
theorem dAc_bringDebt_4 : decode prog_2_method_3_code 4 = .ok (.iload_n 2, 1) := by decide +kernel
theorem dAc_bringDebt_5 : decode prog_2_method_3_code 5 = .ok (.iconst 0, 1) := by decide +kernel
theorem dAc_bringDebt_6 : decode prog_2_method_3_code 6 = .ok (.bipush 32, 2) := by decide +kernel
theorem dAc_bringDebt_8 : decode prog_2_method_3_code 8 = .ok (.invokestatic 32, 3) := by decide +kernel
theorem dAc_bringDebt_11 : decode prog_2_method_3_code 11 = .ok (.ifCond .ne 4, 3) := by decide +kernel
theorem dAc_bringDebt_14 : decode prog_2_method_3_code 14 = .ok (.return_, 1) := by decide +kernel
theorem dAc_bringDebt_15 : decode prog_2_method_3_code 15 = .ok (.aload_n 0, 1) := by decide +kernel
theorem dAc_bringDebt_16 : decode prog_2_method_3_code 16 = .ok (.getfield 11, 3) := by decide +kernel
theorem dAc_bringDebt_19 : decode prog_2_method_3_code 19 = .ok (.iload_n 1, 1) := by decide +kernel
theorem dAc_bringDebt_20 : decode prog_2_method_3_code 20 = .ok (.bipush 33, 2) := by decide +kernel
theorem dAc_bringDebt_22 : decode prog_2_method_3_code 22 = .ok (.imul, 1) := by decide +kernel
theorem dAc_bringDebt_23 : decode prog_2_method_3_code 23 = .ok (.iload_n 2, 1) := by decide +kernel
theorem dAc_bringDebt_24 : decode prog_2_method_3_code 24 = .ok (.iadd, 1) := by decide +kernel
theorem dAc_bringDebt_25 : decode prog_2_method_3_code 25 = .ok (.iload_n 3, 1) := by decide +kernel
theorem dAc_bringDebt_26 : decode prog_2_method_3_code 26 = .ok (.iastore, 1) := by decide +kernel
theorem dAc_bringDebt_27 : decode prog_2_method_3_code 27 = .ok (.aload_n 0, 1) := by decide +kernel
theorem dAc_bringDebt_28 : decode prog_2_method_3_code 28 = .ok (.getfield 15, 3) := by decide +kernel
theorem dAc_bringDebt_31 : decode prog_2_method_3_code 31 = .ok (.iload_n 1, 1) := by decide +kernel
theorem dAc_bringDebt_32 : decode prog_2_method_3_code 32 = .ok (.dup2, 1) := by decide +kernel
theorem dAc_bringDebt_33 : decode prog_2_method_3_code 33 = .ok (.iaload, 1) := by decide +kernel
theorem dAc_bringDebt_34 : decode prog_2_method_3_code 34 = .ok (.iload_n 3, 1) := by decide +kernel
theorem dAc_bringDebt_35 : decode prog_2_method_3_code 35 = .ok (.iadd, 1) := by decide +kernel
theorem dAc_bringDebt_36 : decode prog_2_method_3_code 36 = .ok (.iastore, 1) := by decide +kernel
theorem dAc_bringDebt_37 : decode prog_2_method_3_code 37 = .ok (.aload_n 0, 1) := by decide +kernel
theorem dAc_bringDebt_38 : decode prog_2_method_3_code 38 = .ok (.getfield 18, 3) := by decide +kernel
theorem dAc_bringDebt_41 : decode prog_2_method_3_code 41 = .ok (.iload_n 1, 1) := by decide +kernel
theorem dAc_bringDebt_42 : decode prog_2_method_3_code 42 = .ok (.dup2, 1) := by decide +kernel
theorem dAc_bringDebt_43 : decode prog_2_method_3_code 43 = .ok (.iaload, 1) := by decide +kernel
theorem dAc_bringDebt_44 : decode prog_2_method_3_code 44 = .ok (.aload_n 0, 1) := by decide +kernel
theorem dAc_bringDebt_45 : decode prog_2_method_3_code 45 = .ok (.iload_n 1, 1) := by decide +kernel
theorem dAc_bringDebt_46 : decode prog_2_method_3_code 46 = .ok (.iload_n 2, 1) := by decide +kernel
theorem dAc_bringDebt_47 : decode prog_2_method_3_code 47 = .ok (.aload_n 0, 1) := by decide +kernel
theorem dAc_bringDebt_48 : decode prog_2_method_3_code 48 = .ok (.getfield 18, 3) := by decide +kernel
theorem dAc_bringDebt_51 : decode prog_2_method_3_code 51 = .ok (.iload_n 1, 1) := by decide +kernel
theorem dAc_bringDebt_52 : decode prog_2_method_3_code 52 = .ok (.iaload, 1) := by decide +kernel
theorem dAc_bringDebt_53 : decode prog_2_method_3_code 53 = .ok (.iload_n 2, 1) := by decide +kernel
theorem dAc_bringDebt_54 : decode prog_2_method_3_code 54 = .ok (.invokestatic 36, 3) := by decide +kernel
theorem dAc_bringDebt_57 : decode prog_2_method_3_code 57 = .ok (.invokevirtual 28, 3) := by decide +kernel
theorem dAc_bringDebt_60 : decode prog_2_method_3_code 60 = .ok (.isub, 1) := by decide +kernel
theorem dAc_bringDebt_61 : decode prog_2_method_3_code 61 = .ok (.iastore, 1) := by decide +kernel
theorem dAc_bringDebt_62 : decode prog_2_method_3_code 62 = .ok (.return_, 1) := by decide +kernel
theorem dTL_bringDebts_0 : decode prog_1_method_27_code 0 = .ok (.aload_n 0, 1) := by decide +kernel
theorem dTL_bringDebts_1 : decode prog_1_method_27_code 1 = .ok (.getfield 72, 3) := by decide +kernel
theorem dTL_bringDebts_4 : decode prog_1_method_27_code 4 = .ok (.bipush 90, 2) := by decide +kernel
theorem dTL_bringDebts_6 : decode prog_1_method_27_code 6 = .ok (.idiv, 1) := by decide +kernel
theorem dTL_bringDebts_7 : decode prog_1_method_27_code 7 = .ok (.iconst 1, 1) := by decide +kernel
theorem dTL_bringDebts_8 : decode prog_1_method_27_code 8 = .ok (.isub, 1) := by decide +kernel
theorem dTL_bringDebts_9 : decode prog_1_method_27_code 9 = .ok (.istore_n 1, 1) := by decide +kernel
theorem dTL_bringDebts_10 : decode prog_1_method_27_code 10 = .ok (.iconst 1, 1) := by decide +kernel
theorem dTL_bringDebts_11 : decode prog_1_method_27_code 11 = .ok (.iconst 0, 1) := by decide +kernel
theorem dTL_bringDebts_12 : decode prog_1_method_27_code 12 = .ok (.invokestatic 147, 3) := by decide +kernel
theorem dTL_bringDebts_15 : decode prog_1_method_27_code 15 = .ok (.istore_n 2, 1) := by decide +kernel
theorem dTL_bringDebts_16 : decode prog_1_method_27_code 16 = .ok (.iload_n 2, 1) := by decide +kernel
theorem dTL_bringDebts_17 : decode prog_1_method_27_code 17 = .ok (.bipush 96, 2) := by decide +kernel
theorem dTL_bringDebts_19 : decode prog_1_method_27_code 19 = .ok (.if_icmp .ge 26, 3) := by decide +kernel
theorem dTL_bringDebts_22 : decode prog_1_method_27_code 22 = .ok (.aload_n 0, 1) := by decide +kernel
theorem dTL_bringDebts_23 : decode prog_1_method_27_code 23 = .ok (.getfield 47, 3) := by decide +kernel
theorem dTL_bringDebts_26 : decode prog_1_method_27_code 26 = .ok (.iload_n 2, 1) := by decide +kernel
theorem dTL_bringDebts_27 : decode prog_1_method_27_code 27 = .ok (.iload_n 1, 1) := by decide +kernel
theorem dTL_bringDebts_28 : decode prog_1_method_27_code 28 = .ok (.aload_n 0, 1) := by decide +kernel
theorem dTL_bringDebts_29 : decode prog_1_method_27_code 29 = .ok (.getfield 40, 3) := by decide +kernel
theorem dTL_bringDebts_32 : decode prog_1_method_27_code 32 = .ok (.iload_n 2, 1) := by decide +kernel
theorem dTL_bringDebts_33 : decode prog_1_method_27_code 33 = .ok (.invokevirtual 153, 3) := by decide +kernel
theorem dTL_bringDebts_36 : decode prog_1_method_27_code 36 = .ok (.invokevirtual 253, 3) := by decide +kernel
theorem dTL_bringDebts_39 : decode prog_1_method_27_code 39 = .ok (.iinc 2 1, 3) := by decide +kernel
theorem dTL_bringDebts_42 : decode prog_1_method_27_code 42 = .ok (.goto (-26), 3) := by decide +kernel
theorem dTL_bringDebts_45 : decode prog_1_method_27_code 45 = .ok (.return_, 1) := by decide +kernel
theorem dTL_days_0 : decode prog_1_method_16_code 0 = .ok (.iload_n 1, 1) := by decide +kernel
theorem dTL_days_1 : decode prog_1_method_16_code 1 = .ok (.iconst 1, 1) := by decide +kernel
theorem dTL_days_2 : decode prog_1_method_16_code 2 = .ok (.bipush 100, 2) := by decide +kernel
theorem dTL_days_4 : decode prog_1_method_16_code 4 = .ok (.invokestatic 80, 3) := by decide +kernel
theorem dTL_days_7 : decode prog_1_method_16_code 7 = .ok (.ifCond .eq 15, 3) := by decide +kernel
theorem dTL_days_10 : decode prog_1_method_16_code 10 = .ok (.iload_n 1, 1) := by decide +kernel
theorem dTL_days_11 : decode prog_1_method_16_code 11 = .ok (.sipush 3000, 3) := by decide +kernel
theorem dTL_days_14 : decode prog_1_method_16_code 14 = .ok (.aload_n 0, 1) := by decide +kernel
theorem dTL_days_15 : decode prog_1_method_16_code 15 = .ok (.getfield 72, 3) := by decide +kernel
theorem dTL_days_18 : decode prog_1_method_16_code 18 = .ok (.isub, 1) := by decide +kernel
theorem dTL_days_19 : decode prog_1_method_16_code 19 = .ok (.if_icmp .le 5, 3) := by decide +kernel
theorem dTL_days_22 : decode prog_1_method_16_code 22 = .ok (.iconst (-1), 1) := by decide +kernel
theorem dTL_days_23 : decode prog_1_method_16_code 23 = .ok (.ireturn, 1) := by decide +kernel
theorem dTL_days_24 : decode prog_1_method_16_code 24 = .ok (.iconst 0, 1) := by decide +kernel
theorem dTL_days_25 : decode prog_1_method_16_code 25 = .ok (.istore_n 2, 1) := by decide +kernel
theorem dTL_days_26 : decode prog_1_method_16_code 26 = .ok (.iload_n 2, 1) := by decide +kernel
theorem dTL_days_27 : decode prog_1_method_16_code 27 = .ok (.iload_n 1, 1) := by decide +kernel
theorem dTL_days_28 : decode prog_1_method_16_code 28 = .ok (.if_icmp .ge 37, 3) := by decide +kernel
theorem dTL_days_31 : decode prog_1_method_16_code 31 = .ok (.aload_n 0, 1) := by decide +kernel
theorem dTL_days_32 : decode prog_1_method_16_code 32 = .ok (.dup, 1) := by decide +kernel
theorem dTL_days_33 : decode prog_1_method_16_code 33 = .ok (.getfield 72, 3) := by decide +kernel
theorem dTL_days_36 : decode prog_1_method_16_code 36 = .ok (.iconst 1, 1) := by decide +kernel
theorem dTL_days_37 : decode prog_1_method_16_code 37 = .ok (.iadd, 1) := by decide +kernel
theorem dTL_days_38 : decode prog_1_method_16_code 38 = .ok (.putfield 72, 3) := by decide +kernel
theorem dTL_days_41 : decode prog_1_method_16_code 41 = .ok (.aload_n 0, 1) := by decide +kernel
theorem dTL_days_42 : decode prog_1_method_16_code 42 = .ok (.invokevirtual 173, 3) := by decide +kernel
theorem dTL_days_45 : decode prog_1_method_16_code 45 = .ok (.aload_n 0, 1) := by decide +kernel
theorem dTL_days_46 : decode prog_1_method_16_code 46 = .ok (.getfield 72, 3) := by decide +kernel
theorem dTL_days_49 : decode prog_1_method_16_code 49 = .ok (.bipush 90, 2) := by decide +kernel
theorem dTL_days_51 : decode prog_1_method_16_code 51 = .ok (.irem, 1) := by decide +kernel
theorem dTL_days_52 : decode prog_1_method_16_code 52 = .ok (.ifCond .ne 7, 3) := by decide +kernel
theorem dTL_days_55 : decode prog_1_method_16_code 55 = .ok (.aload_n 0, 1) := by decide +kernel
theorem dTL_days_56 : decode prog_1_method_16_code 56 = .ok (.invokevirtual 176, 3) := by decide +kernel
theorem dTL_days_59 : decode prog_1_method_16_code 59 = .ok (.iinc 2 1, 3) := by decide +kernel
theorem dTL_days_62 : decode prog_1_method_16_code 62 = .ok (.goto (-36), 3) := by decide +kernel
theorem dTL_days_65 : decode prog_1_method_16_code 65 = .ok (.aload_n 0, 1) := by decide +kernel
theorem dTL_days_66 : decode prog_1_method_16_code 66 = .ok (.getfield 72, 3) := by decide +kernel
theorem dTL_days_69 : decode prog_1_method_16_code 69 = .ok (.ireturn, 1) := by decide +kernel
theorem dAc_paid_0 : decode prog_2_method_8_code 0 = .ok (.aload_n 0, 1) := by decide +kernel
theorem dAc_paid_1 : decode prog_2_method_8_code 1 = .ok (.getfield 21, 3) := by decide +kernel
theorem dAc_paid_4 : decode prog_2_method_8_code 4 = .ok (.iload_n 1, 1) := by decide +kernel
theorem dAc_paid_5 : decode prog_2_method_8_code 5 = .ok (.iaload, 1) := by decide +kernel
theorem dAc_paid_6 : decode prog_2_method_8_code 6 = .ok (.ireturn, 1) := by decide +kernel
theorem dAc_oldestQuarter_0 : decode prog_2_method_9_code 0 = .ok (.iconst 0, 1) := by decide +kernel
theorem dAc_oldestQuarter_1 : decode prog_2_method_9_code 1 = .ok (.istore_n 2, 1) := by decide +kernel
theorem dAc_oldestQuarter_2 : decode prog_2_method_9_code 2 = .ok (.iload_n 2, 1) := by decide +kernel
theorem dAc_oldestQuarter_3 : decode prog_2_method_9_code 3 = .ok (.bipush 33, 2) := by decide +kernel
theorem dAc_oldestQuarter_5 : decode prog_2_method_9_code 5 = .ok (.if_icmp .ge 25, 3) := by decide +kernel
theorem dAc_oldestQuarter_8 : decode prog_2_method_9_code 8 = .ok (.aload_n 0, 1) := by decide +kernel
theorem dAc_oldestQuarter_9 : decode prog_2_method_9_code 9 = .ok (.getfield 11, 3) := by decide +kernel
theorem dAc_oldestQuarter_12 : decode prog_2_method_9_code 12 = .ok (.iload_n 1, 1) := by decide +kernel
theorem dAc_oldestQuarter_13 : decode prog_2_method_9_code 13 = .ok (.bipush 33, 2) := by decide +kernel
theorem dAc_oldestQuarter_15 : decode prog_2_method_9_code 15 = .ok (.imul, 1) := by decide +kernel
theorem dAc_oldestQuarter_16 : decode prog_2_method_9_code 16 = .ok (.iload_n 2, 1) := by decide +kernel
theorem dAc_oldestQuarter_17 : decode prog_2_method_9_code 17 = .ok (.iadd, 1) := by decide +kernel
theorem dAc_oldestQuarter_18 : decode prog_2_method_9_code 18 = .ok (.iaload, 1) := by decide +kernel
theorem dAc_oldestQuarter_19 : decode prog_2_method_9_code 19 = .ok (.ifCond .le 5, 3) := by decide +kernel
theorem dAc_oldestQuarter_22 : decode prog_2_method_9_code 22 = .ok (.iload_n 2, 1) := by decide +kernel
theorem dAc_oldestQuarter_23 : decode prog_2_method_9_code 23 = .ok (.ireturn, 1) := by decide +kernel
theorem dAc_oldestQuarter_24 : decode prog_2_method_9_code 24 = .ok (.iinc 2 1, 3) := by decide +kernel
theorem dAc_oldestQuarter_27 : decode prog_2_method_9_code 27 = .ok (.goto (-25), 3) := by decide +kernel
theorem dAc_oldestQuarter_30 : decode prog_2_method_9_code 30 = .ok (.iconst (-1), 1) := by decide +kernel
theorem dAc_oldestQuarter_31 : decode prog_2_method_9_code 31 = .ok (.ireturn, 1) := by decide +kernel
theorem dAc_gift_0 : decode prog_2_method_7_code 0 = .ok (.aload_n 0, 1) := by decide +kernel
theorem dAc_gift_1 : decode prog_2_method_7_code 1 = .ok (.getfield 18, 3) := by decide +kernel
theorem dAc_gift_4 : decode prog_2_method_7_code 4 = .ok (.iload_n 1, 1) := by decide +kernel
theorem dAc_gift_5 : decode prog_2_method_7_code 5 = .ok (.iaload, 1) := by decide +kernel
theorem dAc_gift_6 : decode prog_2_method_7_code 6 = .ok (.ireturn, 1) := by decide +kernel
theorem dAc_owing_0 : decode prog_2_method_6_code 0 = .ok (.aload_n 0, 1) := by decide +kernel
theorem dAc_owing_1 : decode prog_2_method_6_code 1 = .ok (.getfield 15, 3) := by decide +kernel
theorem dAc_owing_4 : decode prog_2_method_6_code 4 = .ok (.iload_n 1, 1) := by decide +kernel
theorem dAc_owing_5 : decode prog_2_method_6_code 5 = .ok (.iaload, 1) := by decide +kernel
theorem dAc_owing_6 : decode prog_2_method_6_code 6 = .ok (.ireturn, 1) := by decide +kernel
theorem dTL_account_0 : decode prog_1_method_17_code 0 = .ok (.iload_n 1, 1) := by decide +kernel
theorem dTL_account_1 : decode prog_1_method_17_code 1 = .ok (.invokestatic 144, 3) := by decide +kernel
theorem dTL_account_4 : decode prog_1_method_17_code 4 = .ok (.ifCond .eq 10, 3) := by decide +kernel
theorem dTL_account_7 : decode prog_1_method_17_code 7 = .ok (.iload_n 2, 1) := by decide +kernel
theorem dTL_account_8 : decode prog_1_method_17_code 8 = .ok (.invokestatic 95, 3) := by decide +kernel
theorem dTL_account_11 : decode prog_1_method_17_code 11 = .ok (.ifCond .ne 5, 3) := by decide +kernel
theorem dTL_account_14 : decode prog_1_method_17_code 14 = .ok (.iconst (-1), 1) := by decide +kernel
theorem dTL_account_15 : decode prog_1_method_17_code 15 = .ok (.ireturn, 1) := by decide +kernel
theorem dTL_account_16 : decode prog_1_method_17_code 16 = .ok (.iload_n 1, 1) := by decide +kernel
theorem dTL_account_17 : decode prog_1_method_17_code 17 = .ok (.iload_n 2, 1) := by decide +kernel
theorem dTL_account_18 : decode prog_1_method_17_code 18 = .ok (.invokestatic 147, 3) := by decide +kernel
theorem dTL_account_21 : decode prog_1_method_17_code 21 = .ok (.istore 4, 2) := by decide +kernel
theorem dTL_account_23 : decode prog_1_method_17_code 23 = .ok (.iload_n 3, 1) := by decide +kernel
theorem dTL_account_24 : decode prog_1_method_17_code 24 = .ok (.tableswitch 72 0 3 #[32, 42, 52, 62], 32) := by decide +kernel
theorem dTL_account_56 : decode prog_1_method_17_code 56 = .ok (.aload_n 0, 1) := by decide +kernel
theorem dTL_account_57 : decode prog_1_method_17_code 57 = .ok (.getfield 47, 3) := by decide +kernel
theorem dTL_account_60 : decode prog_1_method_17_code 60 = .ok (.iload 4, 2) := by decide +kernel
theorem dTL_account_62 : decode prog_1_method_17_code 62 = .ok (.invokevirtual 179, 3) := by decide +kernel
theorem dTL_account_65 : decode prog_1_method_17_code 65 = .ok (.ireturn, 1) := by decide +kernel
theorem dTL_account_66 : decode prog_1_method_17_code 66 = .ok (.aload_n 0, 1) := by decide +kernel
theorem dTL_account_67 : decode prog_1_method_17_code 67 = .ok (.getfield 47, 3) := by decide +kernel
theorem dTL_account_70 : decode prog_1_method_17_code 70 = .ok (.iload 4, 2) := by decide +kernel
theorem dTL_account_72 : decode prog_1_method_17_code 72 = .ok (.invokevirtual 182, 3) := by decide +kernel
theorem dTL_account_75 : decode prog_1_method_17_code 75 = .ok (.ireturn, 1) := by decide +kernel
theorem dTL_account_76 : decode prog_1_method_17_code 76 = .ok (.aload_n 0, 1) := by decide +kernel
theorem dTL_account_77 : decode prog_1_method_17_code 77 = .ok (.getfield 47, 3) := by decide +kernel
theorem dTL_account_80 : decode prog_1_method_17_code 80 = .ok (.iload 4, 2) := by decide +kernel
theorem dTL_account_82 : decode prog_1_method_17_code 82 = .ok (.invokevirtual 185, 3) := by decide +kernel
theorem dTL_account_85 : decode prog_1_method_17_code 85 = .ok (.ireturn, 1) := by decide +kernel
theorem dTL_account_86 : decode prog_1_method_17_code 86 = .ok (.aload_n 0, 1) := by decide +kernel
theorem dTL_account_87 : decode prog_1_method_17_code 87 = .ok (.getfield 47, 3) := by decide +kernel
theorem dTL_account_90 : decode prog_1_method_17_code 90 = .ok (.iload 4, 2) := by decide +kernel
theorem dTL_account_92 : decode prog_1_method_17_code 92 = .ok (.invokevirtual 188, 3) := by decide +kernel
theorem dTL_account_95 : decode prog_1_method_17_code 95 = .ok (.ireturn, 1) := by decide +kernel
theorem dTL_account_96 : decode prog_1_method_17_code 96 = .ok (.iconst (-1), 1) := by decide +kernel
theorem dTL_account_97 : decode prog_1_method_17_code 97 = .ok (.ireturn, 1) := by decide +kernel
theorem dAc_lateness_0 : decode prog_2_method_10_code 0 = .ok (.aload_n 0, 1) := by decide +kernel
theorem dAc_lateness_1 : decode prog_2_method_10_code 1 = .ok (.getfield 24, 3) := by decide +kernel
theorem dAc_lateness_4 : decode prog_2_method_10_code 4 = .ok (.iload_n 1, 1) := by decide +kernel
theorem dAc_lateness_5 : decode prog_2_method_10_code 5 = .ok (.laload, 1) := by decide +kernel
theorem dAc_lateness_6 : decode prog_2_method_10_code 6 = .ok (.lstore_n 3, 1) := by decide +kernel
theorem dAc_lateness_7 : decode prog_2_method_10_code 7 = .ok (.iconst 0, 1) := by decide +kernel
theorem dAc_lateness_8 : decode prog_2_method_10_code 8 = .ok (.istore 5, 2) := by decide +kernel
theorem dAc_lateness_10 : decode prog_2_method_10_code 10 = .ok (.iload 5, 2) := by decide +kernel
theorem dAc_lateness_12 : decode prog_2_method_10_code 12 = .ok (.bipush 6, 2) := by decide +kernel
theorem dAc_lateness_14 : decode prog_2_method_10_code 14 = .ok (.if_icmp .ge 55, 3) := by decide +kernel
theorem dAc_lateness_17 : decode prog_2_method_10_code 17 = .ok (.iconst 0, 1) := by decide +kernel
theorem dAc_lateness_18 : decode prog_2_method_10_code 18 = .ok (.istore 6, 2) := by decide +kernel
theorem dAc_lateness_20 : decode prog_2_method_10_code 20 = .ok (.iload 6, 2) := by decide +kernel
theorem dAc_lateness_22 : decode prog_2_method_10_code 22 = .ok (.bipush 33, 2) := by decide +kernel
theorem dAc_lateness_24 : decode prog_2_method_10_code 24 = .ok (.if_icmp .ge 39, 3) := by decide +kernel
theorem dAc_lateness_27 : decode prog_2_method_10_code 27 = .ok (.lload_n 3, 1) := by decide +kernel
theorem dAc_lateness_28 : decode prog_2_method_10_code 28 = .ok (.aload_n 0, 1) := by decide +kernel
theorem dAc_lateness_29 : decode prog_2_method_10_code 29 = .ok (.getfield 11, 3) := by decide +kernel
theorem dAc_lateness_32 : decode prog_2_method_10_code 32 = .ok (.iload_n 1, 1) := by decide +kernel
theorem dAc_lateness_33 : decode prog_2_method_10_code 33 = .ok (.iload 5, 2) := by decide +kernel
theorem dAc_lateness_35 : decode prog_2_method_10_code 35 = .ok (.invokestatic 46, 3) := by decide +kernel
theorem dAc_lateness_38 : decode prog_2_method_10_code 38 = .ok (.bipush 33, 2) := by decide +kernel
theorem dAc_lateness_40 : decode prog_2_method_10_code 40 = .ok (.imul, 1) := by decide +kernel
theorem dAc_lateness_41 : decode prog_2_method_10_code 41 = .ok (.iload 6, 2) := by decide +kernel
theorem dAc_lateness_43 : decode prog_2_method_10_code 43 = .ok (.iadd, 1) := by decide +kernel
theorem dAc_lateness_44 : decode prog_2_method_10_code 44 = .ok (.iaload, 1) := by decide +kernel
theorem dAc_lateness_45 : decode prog_2_method_10_code 45 = .ok (.i2l, 1) := by decide +kernel
theorem dAc_lateness_46 : decode prog_2_method_10_code 46 = .ok (.iload_n 2, 1) := by decide +kernel
theorem dAc_lateness_47 : decode prog_2_method_10_code 47 = .ok (.iload 6, 2) := by decide +kernel
theorem dAc_lateness_49 : decode prog_2_method_10_code 49 = .ok (.invokestatic 36, 3) := by decide +kernel
theorem dAc_lateness_52 : decode prog_2_method_10_code 52 = .ok (.isub, 1) := by decide +kernel
theorem dAc_lateness_53 : decode prog_2_method_10_code 53 = .ok (.i2l, 1) := by decide +kernel
theorem dAc_lateness_54 : decode prog_2_method_10_code 54 = .ok (.lmul, 1) := by decide +kernel
theorem dAc_lateness_55 : decode prog_2_method_10_code 55 = .ok (.ladd, 1) := by decide +kernel
theorem dAc_lateness_56 : decode prog_2_method_10_code 56 = .ok (.lstore_n 3, 1) := by decide +kernel
theorem dAc_lateness_57 : decode prog_2_method_10_code 57 = .ok (.iinc 6 1, 3) := by decide +kernel
theorem dAc_lateness_60 : decode prog_2_method_10_code 60 = .ok (.goto (-40), 3) := by decide +kernel
theorem dAc_lateness_63 : decode prog_2_method_10_code 63 = .ok (.iinc 5 1, 3) := by decide +kernel
theorem dAc_lateness_66 : decode prog_2_method_10_code 66 = .ok (.goto (-56), 3) := by decide +kernel
theorem dAc_lateness_69 : decode prog_2_method_10_code 69 = .ok (.lload_n 3, 1) := by decide +kernel
theorem dAc_lateness_70 : decode prog_2_method_10_code 70 = .ok (.lreturn, 1) := by decide +kernel
theorem dTL_late_0 : decode prog_1_method_18_code 0 = .ok (.iload_n 1, 1) := by decide +kernel
theorem dTL_late_1 : decode prog_1_method_18_code 1 = .ok (.invokestatic 144, 3) := by decide +kernel
theorem dTL_late_4 : decode prog_1_method_18_code 4 = .ok (.ifCond .eq 18, 3) := by decide +kernel
theorem dTL_late_7 : decode prog_1_method_18_code 7 = .ok (.aload_n 0, 1) := by decide +kernel
theorem dTL_late_8 : decode prog_1_method_18_code 8 = .ok (.getfield 47, 3) := by decide +kernel
theorem dTL_late_11 : decode prog_1_method_18_code 11 = .ok (.iload_n 1, 1) := by decide +kernel
theorem dTL_late_12 : decode prog_1_method_18_code 12 = .ok (.aload_n 0, 1) := by decide +kernel
theorem dTL_late_13 : decode prog_1_method_18_code 13 = .ok (.getfield 72, 3) := by decide +kernel
theorem dTL_late_16 : decode prog_1_method_18_code 16 = .ok (.invokevirtual 191, 3) := by decide +kernel
theorem dTL_late_19 : decode prog_1_method_18_code 19 = .ok (.goto 6, 3) := by decide +kernel
theorem dTL_late_22 : decode prog_1_method_18_code 22 = .ok (.ldc2_w 195, 3) := by decide +kernel
theorem dTL_late_25 : decode prog_1_method_18_code 25 = .ok (.lreturn, 1) := by decide +kernel
theorem dSe_ofPiece_0 : decode prog_8_method_9_code 0 = .ok (.iload_n 1, 1) := by decide +kernel
theorem dSe_ofPiece_1 : decode prog_8_method_9_code 1 = .ok (.istore_n 2, 1) := by decide +kernel
theorem dSe_ofPiece_2 : decode prog_8_method_9_code 2 = .ok (.iconst 0, 1) := by decide +kernel
theorem dSe_ofPiece_3 : decode prog_8_method_9_code 3 = .ok (.istore_n 3, 1) := by decide +kernel
theorem dSe_ofPiece_4 : decode prog_8_method_9_code 4 = .ok (.iload_n 3, 1) := by decide +kernel
theorem dSe_ofPiece_5 : decode prog_8_method_9_code 5 = .ok (.aload_n 0, 1) := by decide +kernel
theorem dSe_ofPiece_6 : decode prog_8_method_9_code 6 = .ok (.getfield 18, 3) := by decide +kernel
theorem dSe_ofPiece_9 : decode prog_8_method_9_code 9 = .ok (.if_icmp .ge 40, 3) := by decide +kernel
theorem dSe_ofPiece_12 : decode prog_8_method_9_code 12 = .ok (.aload_n 0, 1) := by decide +kernel
theorem dSe_ofPiece_13 : decode prog_8_method_9_code 13 = .ok (.aload_n 0, 1) := by decide +kernel
theorem dSe_ofPiece_14 : decode prog_8_method_9_code 14 = .ok (.getfield 15, 3) := by decide +kernel
theorem dSe_ofPiece_17 : decode prog_8_method_9_code 17 = .ok (.iload_n 3, 1) := by decide +kernel
theorem dSe_ofPiece_18 : decode prog_8_method_9_code 18 = .ok (.iaload, 1) := by decide +kernel
theorem dSe_ofPiece_19 : decode prog_8_method_9_code 19 = .ok (.iconst 2, 1) := by decide +kernel
theorem dSe_ofPiece_20 : decode prog_8_method_9_code 20 = .ok (.invokevirtual 28, 3) := by decide +kernel
theorem dSe_ofPiece_23 : decode prog_8_method_9_code 23 = .ok (.istore 4, 2) := by decide +kernel
theorem dSe_ofPiece_25 : decode prog_8_method_9_code 25 = .ok (.iload_n 2, 1) := by decide +kernel
theorem dSe_ofPiece_26 : decode prog_8_method_9_code 26 = .ok (.iload 4, 2) := by decide +kernel
theorem dSe_ofPiece_28 : decode prog_8_method_9_code 28 = .ok (.if_icmp .ge 10, 3) := by decide +kernel
theorem dSe_ofPiece_31 : decode prog_8_method_9_code 31 = .ok (.aload_n 0, 1) := by decide +kernel
theorem dSe_ofPiece_32 : decode prog_8_method_9_code 32 = .ok (.getfield 15, 3) := by decide +kernel
theorem dSe_ofPiece_35 : decode prog_8_method_9_code 35 = .ok (.iload_n 3, 1) := by decide +kernel
theorem dSe_ofPiece_36 : decode prog_8_method_9_code 36 = .ok (.iaload, 1) := by decide +kernel
theorem dSe_ofPiece_37 : decode prog_8_method_9_code 37 = .ok (.ireturn, 1) := by decide +kernel
theorem dSe_ofPiece_38 : decode prog_8_method_9_code 38 = .ok (.iload_n 2, 1) := by decide +kernel
theorem dSe_ofPiece_39 : decode prog_8_method_9_code 39 = .ok (.iload 4, 2) := by decide +kernel
theorem dSe_ofPiece_41 : decode prog_8_method_9_code 41 = .ok (.isub, 1) := by decide +kernel
theorem dSe_ofPiece_42 : decode prog_8_method_9_code 42 = .ok (.istore_n 2, 1) := by decide +kernel
theorem dSe_ofPiece_43 : decode prog_8_method_9_code 43 = .ok (.iinc 3 1, 3) := by decide +kernel
theorem dSe_ofPiece_46 : decode prog_8_method_9_code 46 = .ok (.goto (-42), 3) := by decide +kernel
theorem dSe_ofPiece_49 : decode prog_8_method_9_code 49 = .ok (.iconst (-1), 1) := by decide +kernel
theorem dSe_ofPiece_50 : decode prog_8_method_9_code 50 = .ok (.ireturn, 1) := by decide +kernel
theorem dTL_piece_0 : decode prog_1_method_19_code 0 = .ok (.iload_n 1, 1) := by decide +kernel
theorem dTL_piece_1 : decode prog_1_method_19_code 1 = .ok (.ifCond .ge 7, 3) := by decide +kernel
theorem dTL_piece_4 : decode prog_1_method_19_code 4 = .ok (.iconst (-1), 1) := by decide +kernel
theorem dTL_piece_5 : decode prog_1_method_19_code 5 = .ok (.goto 11, 3) := by decide +kernel
theorem dTL_piece_8 : decode prog_1_method_19_code 8 = .ok (.aload_n 0, 1) := by decide +kernel
theorem dTL_piece_9 : decode prog_1_method_19_code 9 = .ok (.getfield 54, 3) := by decide +kernel
theorem dTL_piece_12 : decode prog_1_method_19_code 12 = .ok (.iload_n 1, 1) := by decide +kernel
theorem dTL_piece_13 : decode prog_1_method_19_code 13 = .ok (.invokevirtual 197, 3) := by decide +kernel
theorem dTL_piece_16 : decode prog_1_method_19_code 16 = .ok (.ireturn, 1) := by decide +kernel
theorem dMa_isFull_0 : decode prog_5_method_2_code 0 = .ok (.aload_n 0, 1) := by decide +kernel
theorem dMa_isFull_1 : decode prog_5_method_2_code 1 = .ok (.getfield 24, 3) := by decide +kernel
theorem dMa_isFull_4 : decode prog_5_method_2_code 4 = .ok (.bipush 20, 2) := by decide +kernel
theorem dMa_isFull_6 : decode prog_5_method_2_code 6 = .ok (.if_icmp .lt 7, 3) := by decide +kernel
theorem dMa_isFull_9 : decode prog_5_method_2_code 9 = .ok (.iconst 1, 1) := by decide +kernel
theorem dMa_isFull_10 : decode prog_5_method_2_code 10 = .ok (.goto 4, 3) := by decide +kernel
theorem dMa_isFull_13 : decode prog_5_method_2_code 13 = .ok (.iconst 0, 1) := by decide +kernel
theorem dMa_isFull_14 : decode prog_5_method_2_code 14 = .ok (.ireturn, 1) := by decide +kernel
theorem dMa_add_0 : decode prog_5_method_4_code 0 = .ok (.aload_n 0, 1) := by decide +kernel
theorem dMa_add_1 : decode prog_5_method_4_code 1 = .ok (.getfield 11, 3) := by decide +kernel
theorem dMa_add_4 : decode prog_5_method_4_code 4 = .ok (.aload_n 0, 1) := by decide +kernel
theorem dMa_add_5 : decode prog_5_method_4_code 5 = .ok (.getfield 24, 3) := by decide +kernel
theorem dMa_add_8 : decode prog_5_method_4_code 8 = .ok (.iload_n 1, 1) := by decide +kernel
theorem dMa_add_9 : decode prog_5_method_4_code 9 = .ok (.iastore, 1) := by decide +kernel
theorem dMa_add_10 : decode prog_5_method_4_code 10 = .ok (.aload_n 0, 1) := by decide +kernel
theorem dMa_add_11 : decode prog_5_method_4_code 11 = .ok (.getfield 15, 3) := by decide +kernel
theorem dMa_add_14 : decode prog_5_method_4_code 14 = .ok (.aload_n 0, 1) := by decide +kernel
theorem dMa_add_15 : decode prog_5_method_4_code 15 = .ok (.getfield 24, 3) := by decide +kernel
theorem dMa_add_18 : decode prog_5_method_4_code 18 = .ok (.iload_n 2, 1) := by decide +kernel
theorem dMa_add_19 : decode prog_5_method_4_code 19 = .ok (.iastore, 1) := by decide +kernel
theorem dMa_add_20 : decode prog_5_method_4_code 20 = .ok (.aload_n 0, 1) := by decide +kernel
theorem dMa_add_21 : decode prog_5_method_4_code 21 = .ok (.getfield 18, 3) := by decide +kernel
theorem dMa_add_24 : decode prog_5_method_4_code 24 = .ok (.aload_n 0, 1) := by decide +kernel
theorem dMa_add_25 : decode prog_5_method_4_code 25 = .ok (.getfield 24, 3) := by decide +kernel
theorem dMa_add_28 : decode prog_5_method_4_code 28 = .ok (.iload_n 3, 1) := by decide +kernel
theorem dMa_add_29 : decode prog_5_method_4_code 29 = .ok (.iastore, 1) := by decide +kernel
theorem dMa_add_30 : decode prog_5_method_4_code 30 = .ok (.aload_n 0, 1) := by decide +kernel
theorem dMa_add_31 : decode prog_5_method_4_code 31 = .ok (.getfield 21, 3) := by decide +kernel
theorem dMa_add_34 : decode prog_5_method_4_code 34 = .ok (.aload_n 0, 1) := by decide +kernel
theorem dMa_add_35 : decode prog_5_method_4_code 35 = .ok (.getfield 24, 3) := by decide +kernel
theorem dMa_add_38 : decode prog_5_method_4_code 38 = .ok (.iload 4, 2) := by decide +kernel
theorem dMa_add_40 : decode prog_5_method_4_code 40 = .ok (.iastore, 1) := by decide +kernel
theorem dMa_add_41 : decode prog_5_method_4_code 41 = .ok (.aload_n 0, 1) := by decide +kernel
theorem dMa_add_42 : decode prog_5_method_4_code 42 = .ok (.dup, 1) := by decide +kernel
theorem dMa_add_43 : decode prog_5_method_4_code 43 = .ok (.getfield 24, 3) := by decide +kernel
theorem dMa_add_46 : decode prog_5_method_4_code 46 = .ok (.iconst 1, 1) := by decide +kernel
theorem dMa_add_47 : decode prog_5_method_4_code 47 = .ok (.iadd, 1) := by decide +kernel
theorem dMa_add_48 : decode prog_5_method_4_code 48 = .ok (.putfield 24, 3) := by decide +kernel
theorem dMa_add_51 : decode prog_5_method_4_code 51 = .ok (.aload_n 0, 1) := by decide +kernel
theorem dMa_add_52 : decode prog_5_method_4_code 52 = .ok (.getfield 24, 3) := by decide +kernel
theorem dMa_add_55 : decode prog_5_method_4_code 55 = .ok (.iconst 1, 1) := by decide +kernel
theorem dMa_add_56 : decode prog_5_method_4_code 56 = .ok (.isub, 1) := by decide +kernel
theorem dMa_add_57 : decode prog_5_method_4_code 57 = .ok (.ireturn, 1) := by decide +kernel
theorem dTL_market_0 : decode prog_1_method_20_code 0 = .ok (.iload_n 1, 1) := by decide +kernel
theorem dTL_market_1 : decode prog_1_method_20_code 1 = .ok (.invokestatic 95, 3) := by decide +kernel
theorem dTL_market_4 : decode prog_1_method_20_code 4 = .ok (.ifCond .eq 15, 3) := by decide +kernel
theorem dTL_market_7 : decode prog_1_method_20_code 7 = .ok (.iload_n 3, 1) := by decide +kernel
theorem dTL_market_8 : decode prog_1_method_20_code 8 = .ok (.invokestatic 95, 3) := by decide +kernel
theorem dTL_market_11 : decode prog_1_method_20_code 11 = .ok (.ifCond .eq 8, 3) := by decide +kernel
theorem dTL_market_14 : decode prog_1_method_20_code 14 = .ok (.iload_n 1, 1) := by decide +kernel
theorem dTL_market_15 : decode prog_1_method_20_code 15 = .ok (.iload_n 3, 1) := by decide +kernel
theorem dTL_market_16 : decode prog_1_method_20_code 16 = .ok (.if_icmp .ne 5, 3) := by decide +kernel
theorem dTL_market_19 : decode prog_1_method_20_code 19 = .ok (.iconst (-1), 1) := by decide +kernel
theorem dTL_market_20 : decode prog_1_method_20_code 20 = .ok (.ireturn, 1) := by decide +kernel
theorem dTL_market_21 : decode prog_1_method_20_code 21 = .ok (.iload_n 2, 1) := by decide +kernel
theorem dTL_market_22 : decode prog_1_method_20_code 22 = .ok (.iconst 1, 1) := by decide +kernel
theorem dTL_market_23 : decode prog_1_method_20_code 23 = .ok (.bipush 99, 2) := by decide +kernel
theorem dTL_market_25 : decode prog_1_method_20_code 25 = .ok (.invokestatic 80, 3) := by decide +kernel
theorem dTL_market_28 : decode prog_1_method_20_code 28 = .ok (.ifCond .eq 24, 3) := by decide +kernel
theorem dTL_market_31 : decode prog_1_method_20_code 31 = .ok (.iload 4, 2) := by decide +kernel
theorem dTL_market_33 : decode prog_1_method_20_code 33 = .ok (.iconst 1, 1) := by decide +kernel
theorem dTL_market_34 : decode prog_1_method_20_code 34 = .ok (.bipush 99, 2) := by decide +kernel
theorem dTL_market_36 : decode prog_1_method_20_code 36 = .ok (.invokestatic 80, 3) := by decide +kernel
theorem dTL_market_39 : decode prog_1_method_20_code 39 = .ok (.ifCond .eq 13, 3) := by decide +kernel
theorem dTL_market_42 : decode prog_1_method_20_code 42 = .ok (.aload_n 0, 1) := by decide +kernel
theorem dTL_market_43 : decode prog_1_method_20_code 43 = .ok (.getfield 61, 3) := by decide +kernel
theorem dTL_market_46 : decode prog_1_method_20_code 46 = .ok (.invokevirtual 200, 3) := by decide +kernel
theorem dTL_market_49 : decode prog_1_method_20_code 49 = .ok (.ifCond .eq 5, 3) := by decide +kernel
theorem dTL_market_52 : decode prog_1_method_20_code 52 = .ok (.iconst (-1), 1) := by decide +kernel
theorem dTL_market_53 : decode prog_1_method_20_code 53 = .ok (.ireturn, 1) := by decide +kernel
theorem dTL_market_54 : decode prog_1_method_20_code 54 = .ok (.aload_n 0, 1) := by decide +kernel
theorem dTL_market_55 : decode prog_1_method_20_code 55 = .ok (.getfield 61, 3) := by decide +kernel
theorem dTL_market_58 : decode prog_1_method_20_code 58 = .ok (.iload_n 1, 1) := by decide +kernel
theorem dTL_market_59 : decode prog_1_method_20_code 59 = .ok (.iload_n 2, 1) := by decide +kernel
theorem dTL_market_60 : decode prog_1_method_20_code 60 = .ok (.iload_n 3, 1) := by decide +kernel
theorem dTL_market_61 : decode prog_1_method_20_code 61 = .ok (.iload 4, 2) := by decide +kernel
theorem dTL_market_63 : decode prog_1_method_20_code 63 = .ok (.invokevirtual 201, 3) := by decide +kernel
theorem dTL_market_66 : decode prog_1_method_20_code 66 = .ok (.ireturn, 1) := by decide +kernel
theorem dMa_keepIfBetter_0 : decode prog_5_method_10_code 0 = .ok (.lload_n 1, 1) := by decide +kernel
theorem dMa_keepIfBetter_1 : decode prog_5_method_10_code 1 = .ok (.aload_n 0, 1) := by decide +kernel
theorem dMa_keepIfBetter_2 : decode prog_5_method_10_code 2 = .ok (.getfield 54, 3) := by decide +kernel
theorem dMa_keepIfBetter_5 : decode prog_5_method_10_code 5 = .ok (.lcmp, 1) := by decide +kernel
theorem dMa_keepIfBetter_6 : decode prog_5_method_10_code 6 = .ok (.ifCond .gt 20, 3) := by decide +kernel
theorem dMa_keepIfBetter_9 : decode prog_5_method_10_code 9 = .ok (.lload_n 1, 1) := by decide +kernel
theorem dMa_keepIfBetter_10 : decode prog_5_method_10_code 10 = .ok (.aload_n 0, 1) := by decide +kernel
theorem dMa_keepIfBetter_11 : decode prog_5_method_10_code 11 = .ok (.getfield 54, 3) := by decide +kernel
theorem dMa_keepIfBetter_14 : decode prog_5_method_10_code 14 = .ok (.lcmp, 1) := by decide +kernel
theorem dMa_keepIfBetter_15 : decode prog_5_method_10_code 15 = .ok (.ifCond .ne 35, 3) := by decide +kernel
theorem dMa_keepIfBetter_18 : decode prog_5_method_10_code 18 = .ok (.iload_n 3, 1) := by decide +kernel
theorem dMa_keepIfBetter_19 : decode prog_5_method_10_code 19 = .ok (.aload_n 0, 1) := by decide +kernel
theorem dMa_keepIfBetter_20 : decode prog_5_method_10_code 20 = .ok (.getfield 58, 3) := by decide +kernel
theorem dMa_keepIfBetter_23 : decode prog_5_method_10_code 23 = .ok (.if_icmp .ge 27, 3) := by decide +kernel
theorem dMa_keepIfBetter_26 : decode prog_5_method_10_code 26 = .ok (.aload_n 0, 1) := by decide +kernel
theorem dMa_keepIfBetter_27 : decode prog_5_method_10_code 27 = .ok (.getfield 31, 3) := by decide +kernel
theorem dMa_keepIfBetter_30 : decode prog_5_method_10_code 30 = .ok (.iconst 0, 1) := by decide +kernel
theorem dMa_keepIfBetter_31 : decode prog_5_method_10_code 31 = .ok (.aload_n 0, 1) := by decide +kernel
theorem dMa_keepIfBetter_32 : decode prog_5_method_10_code 32 = .ok (.getfield 34, 3) := by decide +kernel
theorem dMa_keepIfBetter_35 : decode prog_5_method_10_code 35 = .ok (.iconst 0, 1) := by decide +kernel
theorem dMa_keepIfBetter_36 : decode prog_5_method_10_code 36 = .ok (.iload_n 3, 1) := by decide +kernel
theorem dMa_keepIfBetter_37 : decode prog_5_method_10_code 37 = .ok (.invokestatic 65, 3) := by decide +kernel
theorem dMa_keepIfBetter_40 : decode prog_5_method_10_code 40 = .ok (.aload_n 0, 1) := by decide +kernel
theorem dMa_keepIfBetter_41 : decode prog_5_method_10_code 41 = .ok (.iload_n 3, 1) := by decide +kernel
theorem dMa_keepIfBetter_42 : decode prog_5_method_10_code 42 = .ok (.putfield 58, 3) := by decide +kernel
theorem dMa_keepIfBetter_45 : decode prog_5_method_10_code 45 = .ok (.aload_n 0, 1) := by decide +kernel
theorem dMa_keepIfBetter_46 : decode prog_5_method_10_code 46 = .ok (.lload_n 1, 1) := by decide +kernel
theorem dMa_keepIfBetter_47 : decode prog_5_method_10_code 47 = .ok (.putfield 54, 3) := by decide +kernel
theorem dMa_keepIfBetter_50 : decode prog_5_method_10_code 50 = .ok (.return_, 1) := by decide +kernel
theorem dMa_exchanged_0 : decode prog_5_method_9_code 0 = .ok (.iconst 1, 1) := by decide +kernel
theorem dMa_exchanged_1 : decode prog_5_method_9_code 1 = .ok (.aload_n 0, 1) := by decide +kernel
theorem dMa_exchanged_2 : decode prog_5_method_9_code 2 = .ok (.getfield 15, 3) := by decide +kernel
theorem dMa_exchanged_5 : decode prog_5_method_9_code 5 = .ok (.iload_n 3, 1) := by decide +kernel
theorem dMa_exchanged_6 : decode prog_5_method_9_code 6 = .ok (.iaload, 1) := by decide +kernel
theorem dMa_exchanged_7 : decode prog_5_method_9_code 7 = .ok (.invokestatic 79, 3) := by decide +kernel
theorem dMa_exchanged_10 : decode prog_5_method_9_code 10 = .ok (.istore 4, 2) := by decide +kernel
theorem dMa_exchanged_12 : decode prog_5_method_9_code 12 = .ok (.lload_n 1, 1) := by decide +kernel
theorem dMa_exchanged_13 : decode prog_5_method_9_code 13 = .ok (.iload 4, 2) := by decide +kernel
theorem dMa_exchanged_15 : decode prog_5_method_9_code 15 = .ok (.i2l, 1) := by decide +kernel
theorem dMa_exchanged_16 : decode prog_5_method_9_code 16 = .ok (.ldiv, 1) := by decide +kernel
theorem dMa_exchanged_17 : decode prog_5_method_9_code 17 = .ok (.aload_n 0, 1) := by decide +kernel
theorem dMa_exchanged_18 : decode prog_5_method_9_code 18 = .ok (.getfield 21, 3) := by decide +kernel
theorem dMa_exchanged_21 : decode prog_5_method_9_code 21 = .ok (.iload_n 3, 1) := by decide +kernel
theorem dMa_exchanged_22 : decode prog_5_method_9_code 22 = .ok (.iaload, 1) := by decide +kernel
theorem dMa_exchanged_23 : decode prog_5_method_9_code 23 = .ok (.i2l, 1) := by decide +kernel
theorem dMa_exchanged_24 : decode prog_5_method_9_code 24 = .ok (.lmul, 1) := by decide +kernel
theorem dMa_exchanged_25 : decode prog_5_method_9_code 25 = .ok (.lreturn, 1) := by decide +kernel
theorem dMa_search_0 : decode prog_5_method_8_code 0 = .ok (.iload_n 1, 1) := by decide +kernel
theorem dMa_search_1 : decode prog_5_method_8_code 1 = .ok (.aload_n 0, 1) := by decide +kernel
theorem dMa_search_2 : decode prog_5_method_8_code 2 = .ok (.getfield 49, 3) := by decide +kernel
theorem dMa_search_5 : decode prog_5_method_8_code 5 = .ok (.if_icmp .ne 11, 3) := by decide +kernel
theorem dMa_search_8 : decode prog_5_method_8_code 8 = .ok (.aload_n 0, 1) := by decide +kernel
theorem dMa_search_9 : decode prog_5_method_8_code 9 = .ok (.lload_n 2, 1) := by decide +kernel
theorem dMa_search_10 : decode prog_5_method_8_code 10 = .ok (.iload 4, 2) := by decide +kernel
theorem dMa_search_12 : decode prog_5_method_8_code 12 = .ok (.invokevirtual 71, 3) := by decide +kernel
theorem dMa_search_15 : decode prog_5_method_8_code 15 = .ok (.return_, 1) := by decide +kernel
theorem dMa_search_16 : decode prog_5_method_8_code 16 = .ok (.iload 4, 2) := by decide +kernel
theorem dMa_search_18 : decode prog_5_method_8_code 18 = .ok (.iconst 5, 1) := by decide +kernel
theorem dMa_search_19 : decode prog_5_method_8_code 19 = .ok (.if_icmp .lt 4, 3) := by decide +kernel
theorem dMa_search_22 : decode prog_5_method_8_code 22 = .ok (.return_, 1) := by decide +kernel
theorem dMa_search_23 : decode prog_5_method_8_code 23 = .ok (.iconst 0, 1) := by decide +kernel
theorem dMa_search_24 : decode prog_5_method_8_code 24 = .ok (.istore 5, 2) := by decide +kernel
theorem dMa_search_26 : decode prog_5_method_8_code 26 = .ok (.iload 5, 2) := by decide +kernel
theorem dMa_search_28 : decode prog_5_method_8_code 28 = .ok (.aload_n 0, 1) := by decide +kernel
theorem dMa_search_29 : decode prog_5_method_8_code 29 = .ok (.getfield 24, 3) := by decide +kernel
theorem dMa_search_32 : decode prog_5_method_8_code 32 = .ok (.if_icmp .ge 81, 3) := by decide +kernel
theorem dMa_search_35 : decode prog_5_method_8_code 35 = .ok (.aload_n 0, 1) := by decide +kernel
theorem dMa_search_36 : decode prog_5_method_8_code 36 = .ok (.getfield 18, 3) := by decide +kernel
theorem dMa_search_39 : decode prog_5_method_8_code 39 = .ok (.iload 5, 2) := by decide +kernel
theorem dMa_search_41 : decode prog_5_method_8_code 41 = .ok (.iaload, 1) := by decide +kernel
theorem dMa_search_42 : decode prog_5_method_8_code 42 = .ok (.istore 6, 2) := by decide +kernel
theorem dMa_search_44 : decode prog_5_method_8_code 44 = .ok (.aload_n 0, 1) := by decide +kernel
theorem dMa_search_45 : decode prog_5_method_8_code 45 = .ok (.getfield 11, 3) := by decide +kernel
theorem dMa_search_48 : decode prog_5_method_8_code 48 = .ok (.iload 5, 2) := by decide +kernel
theorem dMa_search_50 : decode prog_5_method_8_code 50 = .ok (.iaload, 1) := by decide +kernel
theorem dMa_search_51 : decode prog_5_method_8_code 51 = .ok (.iload_n 1, 1) := by decide +kernel
theorem dMa_search_52 : decode prog_5_method_8_code 52 = .ok (.if_icmp .ne 55, 3) := by decide +kernel
theorem dMa_search_55 : decode prog_5_method_8_code 55 = .ok (.aload_n 0, 1) := by decide +kernel
theorem dMa_search_56 : decode prog_5_method_8_code 56 = .ok (.getfield 28, 3) := by decide +kernel
theorem dMa_search_59 : decode prog_5_method_8_code 59 = .ok (.iload 6, 2) := by decide +kernel
theorem dMa_search_61 : decode prog_5_method_8_code 61 = .ok (.iaload, 1) := by decide +kernel
theorem dMa_search_62 : decode prog_5_method_8_code 62 = .ok (.ifCond .ne 45, 3) := by decide +kernel
theorem dMa_search_65 : decode prog_5_method_8_code 65 = .ok (.aload_n 0, 1) := by decide +kernel
theorem dMa_search_66 : decode prog_5_method_8_code 66 = .ok (.getfield 31, 3) := by decide +kernel
theorem dMa_search_69 : decode prog_5_method_8_code 69 = .ok (.iload 4, 2) := by decide +kernel
theorem dMa_search_71 : decode prog_5_method_8_code 71 = .ok (.iload 5, 2) := by decide +kernel
theorem dMa_search_73 : decode prog_5_method_8_code 73 = .ok (.iastore, 1) := by decide +kernel
theorem dMa_search_74 : decode prog_5_method_8_code 74 = .ok (.aload_n 0, 1) := by decide +kernel
theorem dMa_search_75 : decode prog_5_method_8_code 75 = .ok (.getfield 28, 3) := by decide +kernel
theorem dMa_search_78 : decode prog_5_method_8_code 78 = .ok (.iload 6, 2) := by decide +kernel
theorem dMa_search_80 : decode prog_5_method_8_code 80 = .ok (.iconst 1, 1) := by decide +kernel
theorem dMa_search_81 : decode prog_5_method_8_code 81 = .ok (.iastore, 1) := by decide +kernel
theorem dMa_search_82 : decode prog_5_method_8_code 82 = .ok (.aload_n 0, 1) := by decide +kernel
theorem dMa_search_83 : decode prog_5_method_8_code 83 = .ok (.iload 6, 2) := by decide +kernel
theorem dMa_search_85 : decode prog_5_method_8_code 85 = .ok (.aload_n 0, 1) := by decide +kernel
theorem dMa_search_86 : decode prog_5_method_8_code 86 = .ok (.lload_n 2, 1) := by decide +kernel
theorem dMa_search_87 : decode prog_5_method_8_code 87 = .ok (.iload 5, 2) := by decide +kernel
theorem dMa_search_89 : decode prog_5_method_8_code 89 = .ok (.invokevirtual 75, 3) := by decide +kernel
theorem dMa_search_92 : decode prog_5_method_8_code 92 = .ok (.iload 4, 2) := by decide +kernel
theorem dMa_search_94 : decode prog_5_method_8_code 94 = .ok (.iconst 1, 1) := by decide +kernel
theorem dMa_search_95 : decode prog_5_method_8_code 95 = .ok (.iadd, 1) := by decide +kernel
theorem dMa_search_96 : decode prog_5_method_8_code 96 = .ok (.invokevirtual 61, 3) := by decide +kernel
theorem dMa_search_99 : decode prog_5_method_8_code 99 = .ok (.aload_n 0, 1) := by decide +kernel
theorem dMa_search_100 : decode prog_5_method_8_code 100 = .ok (.getfield 28, 3) := by decide +kernel
theorem dMa_search_103 : decode prog_5_method_8_code 103 = .ok (.iload 6, 2) := by decide +kernel
theorem dMa_search_105 : decode prog_5_method_8_code 105 = .ok (.iconst 0, 1) := by decide +kernel
theorem dMa_search_106 : decode prog_5_method_8_code 106 = .ok (.iastore, 1) := by decide +kernel
theorem dMa_search_107 : decode prog_5_method_8_code 107 = .ok (.iinc 5 1, 3) := by decide +kernel
theorem dMa_search_110 : decode prog_5_method_8_code 110 = .ok (.goto (-84), 3) := by decide +kernel
theorem dMa_search_113 : decode prog_5_method_8_code 113 = .ok (.return_, 1) := by decide +kernel
theorem dMa_findBest_0 : decode prog_5_method_7_code 0 = .ok (.aload_n 0, 1) := by decide +kernel
theorem dMa_findBest_1 : decode prog_5_method_7_code 1 = .ok (.getfield 28, 3) := by decide +kernel
theorem dMa_findBest_4 : decode prog_5_method_7_code 4 = .ok (.iconst 0, 1) := by decide +kernel
theorem dMa_findBest_5 : decode prog_5_method_7_code 5 = .ok (.invokestatic 43, 3) := by decide +kernel
theorem dMa_findBest_8 : decode prog_5_method_7_code 8 = .ok (.aload_n 0, 1) := by decide +kernel
theorem dMa_findBest_9 : decode prog_5_method_7_code 9 = .ok (.getfield 28, 3) := by decide +kernel
theorem dMa_findBest_12 : decode prog_5_method_7_code 12 = .ok (.iload_n 1, 1) := by decide +kernel
theorem dMa_findBest_13 : decode prog_5_method_7_code 13 = .ok (.iconst 1, 1) := by decide +kernel
theorem dMa_findBest_14 : decode prog_5_method_7_code 14 = .ok (.iastore, 1) := by decide +kernel
theorem dMa_findBest_15 : decode prog_5_method_7_code 15 = .ok (.aload_n 0, 1) := by decide +kernel
theorem dMa_findBest_16 : decode prog_5_method_7_code 16 = .ok (.iload_n 3, 1) := by decide +kernel
theorem dMa_findBest_17 : decode prog_5_method_7_code 17 = .ok (.putfield 49, 3) := by decide +kernel
theorem dMa_findBest_20 : decode prog_5_method_7_code 20 = .ok (.aload_n 0, 1) := by decide +kernel
theorem dMa_findBest_21 : decode prog_5_method_7_code 21 = .ok (.ldc2_w 52, 3) := by decide +kernel
theorem dMa_findBest_24 : decode prog_5_method_7_code 24 = .ok (.putfield 54, 3) := by decide +kernel
theorem dMa_findBest_27 : decode prog_5_method_7_code 27 = .ok (.aload_n 0, 1) := by decide +kernel
theorem dMa_findBest_28 : decode prog_5_method_7_code 28 = .ok (.iconst 0, 1) := by decide +kernel
theorem dMa_findBest_29 : decode prog_5_method_7_code 29 = .ok (.putfield 58, 3) := by decide +kernel
theorem dMa_findBest_32 : decode prog_5_method_7_code 32 = .ok (.aload_n 0, 1) := by decide +kernel
theorem dMa_findBest_33 : decode prog_5_method_7_code 33 = .ok (.iload_n 1, 1) := by decide +kernel
theorem dMa_findBest_34 : decode prog_5_method_7_code 34 = .ok (.iload_n 2, 1) := by decide +kernel
theorem dMa_findBest_35 : decode prog_5_method_7_code 35 = .ok (.i2l, 1) := by decide +kernel
theorem dMa_findBest_36 : decode prog_5_method_7_code 36 = .ok (.iconst 0, 1) := by decide +kernel
theorem dMa_findBest_37 : decode prog_5_method_7_code 37 = .ok (.invokevirtual 61, 3) := by decide +kernel
theorem dMa_findBest_40 : decode prog_5_method_7_code 40 = .ok (.aload_n 0, 1) := by decide +kernel
theorem dMa_findBest_41 : decode prog_5_method_7_code 41 = .ok (.getfield 54, 3) := by decide +kernel
theorem dMa_findBest_44 : decode prog_5_method_7_code 44 = .ok (.ldc2_w 52, 3) := by decide +kernel
theorem dMa_findBest_47 : decode prog_5_method_7_code 47 = .ok (.lcmp, 1) := by decide +kernel
theorem dMa_findBest_48 : decode prog_5_method_7_code 48 = .ok (.ifCond .eq 25, 3) := by decide +kernel
theorem dMa_findBest_51 : decode prog_5_method_7_code 51 = .ok (.aload_n 0, 1) := by decide +kernel
theorem dMa_findBest_52 : decode prog_5_method_7_code 52 = .ok (.getfield 34, 3) := by decide +kernel
theorem dMa_findBest_55 : decode prog_5_method_7_code 55 = .ok (.iconst 0, 1) := by decide +kernel
theorem dMa_findBest_56 : decode prog_5_method_7_code 56 = .ok (.aload_n 0, 1) := by decide +kernel
theorem dMa_findBest_57 : decode prog_5_method_7_code 57 = .ok (.getfield 37, 3) := by decide +kernel
theorem dMa_findBest_60 : decode prog_5_method_7_code 60 = .ok (.iconst 0, 1) := by decide +kernel
theorem dMa_findBest_61 : decode prog_5_method_7_code 61 = .ok (.iconst 5, 1) := by decide +kernel
theorem dMa_findBest_62 : decode prog_5_method_7_code 62 = .ok (.invokestatic 65, 3) := by decide +kernel
theorem dMa_findBest_65 : decode prog_5_method_7_code 65 = .ok (.aload_n 0, 1) := by decide +kernel
theorem dMa_findBest_66 : decode prog_5_method_7_code 66 = .ok (.aload_n 0, 1) := by decide +kernel
theorem dMa_findBest_67 : decode prog_5_method_7_code 67 = .ok (.getfield 58, 3) := by decide +kernel
theorem dMa_findBest_70 : decode prog_5_method_7_code 70 = .ok (.putfield 40, 3) := by decide +kernel
theorem dMa_findBest_73 : decode prog_5_method_7_code 73 = .ok (.aload_n 0, 1) := by decide +kernel
theorem dMa_findBest_74 : decode prog_5_method_7_code 74 = .ok (.getfield 54, 3) := by decide +kernel
theorem dMa_findBest_77 : decode prog_5_method_7_code 77 = .ok (.lreturn, 1) := by decide +kernel
