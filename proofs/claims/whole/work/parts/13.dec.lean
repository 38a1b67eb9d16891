theorem dMM_copy_0 : decode prog_12_method_22_code 0 = .ok (.iload_n 1, 1) := by decide +kernel
theorem dMM_copy_1 : decode prog_12_method_22_code 1 = .ok (.iconst 0, 1) := by decide +kernel
theorem dMM_copy_2 : decode prog_12_method_22_code 2 = .ok (.iconst 4, 1) := by decide +kernel
theorem dMM_copy_3 : decode prog_12_method_22_code 3 = .ok (.invokestatic 109, 3) := by decide +kernel
theorem dMM_copy_6 : decode prog_12_method_22_code 6 = .ok (.ifCond .ne 5, 3) := by decide +kernel
theorem dMM_copy_9 : decode prog_12_method_22_code 9 = .ok (.iconst (-1), 1) := by decide +kernel
theorem dMM_copy_10 : decode prog_12_method_22_code 10 = .ok (.ireturn, 1) := by decide +kernel
theorem dMM_copy_11 : decode prog_12_method_22_code 11 = .ok (.aload_n 0, 1) := by decide +kernel
theorem dMM_copy_12 : decode prog_12_method_22_code 12 = .ok (.aload_n 0, 1) := by decide +kernel
theorem dMM_copy_13 : decode prog_12_method_22_code 13 = .ok (.invokevirtual 179, 3) := by decide +kernel
theorem dMM_copy_16 : decode prog_12_method_22_code 16 = .ok (.putfield 73, 3) := by decide +kernel
theorem dMM_copy_19 : decode prog_12_method_22_code 19 = .ok (.aload_n 0, 1) := by decide +kernel
theorem dMM_copy_20 : decode prog_12_method_22_code 20 = .ok (.aload_n 0, 1) := by decide +kernel
theorem dMM_copy_21 : decode prog_12_method_22_code 21 = .ok (.getfield 73, 3) := by decide +kernel
theorem dMM_copy_24 : decode prog_12_method_22_code 24 = .ok (.ifCond .ne 7, 3) := by decide +kernel
theorem dMM_copy_27 : decode prog_12_method_22_code 27 = .ok (.iconst (-1), 1) := by decide +kernel
theorem dMM_copy_28 : decode prog_12_method_22_code 28 = .ok (.goto 7, 3) := by decide +kernel
theorem dMM_copy_31 : decode prog_12_method_22_code 31 = .ok (.aload_n 0, 1) := by decide +kernel
theorem dMM_copy_32 : decode prog_12_method_22_code 32 = .ok (.getfield 142, 3) := by decide +kernel
theorem dMM_copy_35 : decode prog_12_method_22_code 35 = .ok (.putfield 76, 3) := by decide +kernel
theorem dMM_copy_38 : decode prog_12_method_22_code 38 = .ok (.aload_n 0, 1) := by decide +kernel
theorem dMM_copy_39 : decode prog_12_method_22_code 39 = .ok (.iconst 0, 1) := by decide +kernel
theorem dMM_copy_40 : decode prog_12_method_22_code 40 = .ok (.putfield 128, 3) := by decide +kernel
theorem dMM_copy_43 : decode prog_12_method_22_code 43 = .ok (.aload_n 0, 1) := by decide +kernel
theorem dMM_copy_44 : decode prog_12_method_22_code 44 = .ok (.getfield 73, 3) := by decide +kernel
theorem dMM_copy_47 : decode prog_12_method_22_code 47 = .ok (.ifCond .eq 5, 3) := by decide +kernel
theorem dMM_copy_50 : decode prog_12_method_22_code 50 = .ok (.iconst (-1), 1) := by decide +kernel
theorem dMM_copy_51 : decode prog_12_method_22_code 51 = .ok (.ireturn, 1) := by decide +kernel
theorem dMM_copy_52 : decode prog_12_method_22_code 52 = .ok (.iconst 0, 1) := by decide +kernel
theorem dMM_copy_53 : decode prog_12_method_22_code 53 = .ok (.istore_n 2, 1) := by decide +kernel
theorem dMM_copy_54 : decode prog_12_method_22_code 54 = .ok (.iload_n 2, 1) := by decide +kernel
theorem dMM_copy_55 : decode prog_12_method_22_code 55 = .ok (.bipush 96, 2) := by decide +kernel
theorem dMM_copy_57 : decode prog_12_method_22_code 57 = .ok (.if_icmp .ge 30, 3) := by decide +kernel
theorem dMM_copy_60 : decode prog_12_method_22_code 60 = .ok (.aload_n 0, 1) := by decide +kernel
theorem dMM_copy_61 : decode prog_12_method_22_code 61 = .ok (.getfield 23, 3) := by decide +kernel
theorem dMM_copy_64 : decode prog_12_method_22_code 64 = .ok (.bipush 96, 2) := by decide +kernel
theorem dMM_copy_66 : decode prog_12_method_22_code 66 = .ok (.iload_n 1, 1) := by decide +kernel
theorem dMM_copy_67 : decode prog_12_method_22_code 67 = .ok (.imul, 1) := by decide +kernel
theorem dMM_copy_68 : decode prog_12_method_22_code 68 = .ok (.iload_n 2, 1) := by decide +kernel
theorem dMM_copy_69 : decode prog_12_method_22_code 69 = .ok (.iadd, 1) := by decide +kernel
theorem dMM_copy_70 : decode prog_12_method_22_code 70 = .ok (.aload_n 0, 1) := by decide +kernel
theorem dMM_copy_71 : decode prog_12_method_22_code 71 = .ok (.getfield 23, 3) := by decide +kernel
theorem dMM_copy_74 : decode prog_12_method_22_code 74 = .ok (.sipush 480, 3) := by decide +kernel
theorem dMM_copy_77 : decode prog_12_method_22_code 77 = .ok (.iload_n 2, 1) := by decide +kernel
theorem dMM_copy_78 : decode prog_12_method_22_code 78 = .ok (.iadd, 1) := by decide +kernel
theorem dMM_copy_79 : decode prog_12_method_22_code 79 = .ok (.iaload, 1) := by decide +kernel
theorem dMM_copy_80 : decode prog_12_method_22_code 80 = .ok (.iastore, 1) := by decide +kernel
theorem dMM_copy_81 : decode prog_12_method_22_code 81 = .ok (.iinc 2 1, 3) := by decide +kernel
theorem dMM_copy_84 : decode prog_12_method_22_code 84 = .ok (.goto (-30), 3) := by decide +kernel
theorem dMM_copy_87 : decode prog_12_method_22_code 87 = .ok (.aload_n 0, 1) := by decide +kernel
theorem dMM_copy_88 : decode prog_12_method_22_code 88 = .ok (.dup, 1) := by decide +kernel
theorem dMM_copy_89 : decode prog_12_method_22_code 89 = .ok (.getfield 182, 3) := by decide +kernel
theorem dMM_copy_92 : decode prog_12_method_22_code 92 = .ok (.iconst 1, 1) := by decide +kernel
theorem dMM_copy_93 : decode prog_12_method_22_code 93 = .ok (.iadd, 1) := by decide +kernel
theorem dMM_copy_94 : decode prog_12_method_22_code 94 = .ok (.putfield 182, 3) := by decide +kernel
theorem dMM_copy_97 : decode prog_12_method_22_code 97 = .ok (.aload_n 0, 1) := by decide +kernel
theorem dMM_copy_98 : decode prog_12_method_22_code 98 = .ok (.getfield 26, 3) := by decide +kernel
theorem dMM_copy_101 : decode prog_12_method_22_code 101 = .ok (.iload_n 1, 1) := by decide +kernel
theorem dMM_copy_102 : decode prog_12_method_22_code 102 = .ok (.aload_n 0, 1) := by decide +kernel
theorem dMM_copy_103 : decode prog_12_method_22_code 103 = .ok (.getfield 182, 3) := by decide +kernel
theorem dMM_copy_106 : decode prog_12_method_22_code 106 = .ok (.iastore, 1) := by decide +kernel
theorem dMM_copy_107 : decode prog_12_method_22_code 107 = .ok (.aload_n 0, 1) := by decide +kernel
theorem dMM_copy_108 : decode prog_12_method_22_code 108 = .ok (.getfield 172, 3) := by decide +kernel
theorem dMM_copy_111 : decode prog_12_method_22_code 111 = .ok (.ireturn, 1) := by decide +kernel
theorem dMM_fault_0 : decode prog_12_method_23_code 0 = .ok (.iload_n 1, 1) := by decide +kernel
theorem dMM_fault_1 : decode prog_12_method_23_code 1 = .ok (.ifCond .ne 10, 3) := by decide +kernel
theorem dMM_fault_4 : decode prog_12_method_23_code 4 = .ok (.aload_n 0, 1) := by decide +kernel
theorem dMM_fault_5 : decode prog_12_method_23_code 5 = .ok (.getfield 73, 3) := by decide +kernel
theorem dMM_fault_8 : decode prog_12_method_23_code 8 = .ok (.goto 16, 3) := by decide +kernel
theorem dMM_fault_11 : decode prog_12_method_23_code 11 = .ok (.iload_n 1, 1) := by decide +kernel
theorem dMM_fault_12 : decode prog_12_method_23_code 12 = .ok (.iconst 1, 1) := by decide +kernel
theorem dMM_fault_13 : decode prog_12_method_23_code 13 = .ok (.if_icmp .ne 10, 3) := by decide +kernel
theorem dMM_fault_16 : decode prog_12_method_23_code 16 = .ok (.aload_n 0, 1) := by decide +kernel
theorem dMM_fault_17 : decode prog_12_method_23_code 17 = .ok (.getfield 76, 3) := by decide +kernel
theorem dMM_fault_20 : decode prog_12_method_23_code 20 = .ok (.goto 4, 3) := by decide +kernel
theorem dMM_fault_23 : decode prog_12_method_23_code 23 = .ok (.iconst (-1), 1) := by decide +kernel
theorem dMM_fault_24 : decode prog_12_method_23_code 24 = .ok (.ireturn, 1) := by decide +kernel
theorem dMM_tellsOf_0 : decode prog_12_method_24_code 0 = .ok (.aload_n 0, 1) := by decide +kernel
theorem dMM_tellsOf_1 : decode prog_12_method_24_code 1 = .ok (.getfield 23, 3) := by decide +kernel
theorem dMM_tellsOf_4 : decode prog_12_method_24_code 4 = .ok (.bipush 96, 2) := by decide +kernel
theorem dMM_tellsOf_6 : decode prog_12_method_24_code 6 = .ok (.iload_n 1, 1) := by decide +kernel
theorem dMM_tellsOf_7 : decode prog_12_method_24_code 7 = .ok (.imul, 1) := by decide +kernel
theorem dMM_tellsOf_8 : decode prog_12_method_24_code 8 = .ok (.bipush 6, 2) := by decide +kernel
theorem dMM_tellsOf_10 : decode prog_12_method_24_code 10 = .ok (.iload_n 2, 1) := by decide +kernel
theorem dMM_tellsOf_11 : decode prog_12_method_24_code 11 = .ok (.imul, 1) := by decide +kernel
theorem dMM_tellsOf_12 : decode prog_12_method_24_code 12 = .ok (.iadd, 1) := by decide +kernel
theorem dMM_tellsOf_13 : decode prog_12_method_24_code 13 = .ok (.iload_n 3, 1) := by decide +kernel
theorem dMM_tellsOf_14 : decode prog_12_method_24_code 14 = .ok (.iadd, 1) := by decide +kernel
theorem dMM_tellsOf_15 : decode prog_12_method_24_code 15 = .ok (.iaload, 1) := by decide +kernel
theorem dMM_tellsOf_16 : decode prog_12_method_24_code 16 = .ok (.ireturn, 1) := by decide +kernel
theorem dMM_tells_0 : decode prog_12_method_25_code 0 = .ok (.iload_n 1, 1) := by decide +kernel
theorem dMM_tells_1 : decode prog_12_method_25_code 1 = .ok (.iconst 0, 1) := by decide +kernel
theorem dMM_tells_2 : decode prog_12_method_25_code 2 = .ok (.iconst 4, 1) := by decide +kernel
theorem dMM_tells_3 : decode prog_12_method_25_code 3 = .ok (.invokestatic 109, 3) := by decide +kernel
theorem dMM_tells_6 : decode prog_12_method_25_code 6 = .ok (.ifCond .eq 27, 3) := by decide +kernel
theorem dMM_tells_9 : decode prog_12_method_25_code 9 = .ok (.iload_n 2, 1) := by decide +kernel
theorem dMM_tells_10 : decode prog_12_method_25_code 10 = .ok (.invokestatic 160, 3) := by decide +kernel
theorem dMM_tells_13 : decode prog_12_method_25_code 13 = .ok (.ifCond .eq 20, 3) := by decide +kernel
theorem dMM_tells_16 : decode prog_12_method_25_code 16 = .ok (.iload_n 3, 1) := by decide +kernel
theorem dMM_tells_17 : decode prog_12_method_25_code 17 = .ok (.invokestatic 122, 3) := by decide +kernel
theorem dMM_tells_20 : decode prog_12_method_25_code 20 = .ok (.ifCond .eq 13, 3) := by decide +kernel
theorem dMM_tells_23 : decode prog_12_method_25_code 23 = .ok (.aload_n 0, 1) := by decide +kernel
theorem dMM_tells_24 : decode prog_12_method_25_code 24 = .ok (.iload_n 1, 1) := by decide +kernel
theorem dMM_tells_25 : decode prog_12_method_25_code 25 = .ok (.iload_n 2, 1) := by decide +kernel
theorem dMM_tells_26 : decode prog_12_method_25_code 26 = .ok (.iload_n 3, 1) := by decide +kernel
theorem dMM_tells_27 : decode prog_12_method_25_code 27 = .ok (.invokevirtual 185, 3) := by decide +kernel
theorem dMM_tells_30 : decode prog_12_method_25_code 30 = .ok (.goto 4, 3) := by decide +kernel
theorem dMM_tells_33 : decode prog_12_method_25_code 33 = .ok (.iconst (-1), 1) := by decide +kernel
theorem dMM_tells_34 : decode prog_12_method_25_code 34 = .ok (.ireturn, 1) := by decide +kernel
theorem dMM_votes_0 : decode prog_12_method_26_code 0 = .ok (.iconst 0, 1) := by decide +kernel
theorem dMM_votes_1 : decode prog_12_method_26_code 1 = .ok (.istore 4, 2) := by decide +kernel
theorem dMM_votes_3 : decode prog_12_method_26_code 3 = .ok (.iconst 0, 1) := by decide +kernel
theorem dMM_votes_4 : decode prog_12_method_26_code 4 = .ok (.istore 5, 2) := by decide +kernel
theorem dMM_votes_6 : decode prog_12_method_26_code 6 = .ok (.iload 5, 2) := by decide +kernel
theorem dMM_votes_8 : decode prog_12_method_26_code 8 = .ok (.iconst 5, 1) := by decide +kernel
theorem dMM_votes_9 : decode prog_12_method_26_code 9 = .ok (.if_icmp .ge 31, 3) := by decide +kernel
theorem dMM_votes_12 : decode prog_12_method_26_code 12 = .ok (.iload 4, 2) := by decide +kernel
theorem dMM_votes_14 : decode prog_12_method_26_code 14 = .ok (.aload_n 0, 1) := by decide +kernel
theorem dMM_votes_15 : decode prog_12_method_26_code 15 = .ok (.iload 5, 2) := by decide +kernel
theorem dMM_votes_17 : decode prog_12_method_26_code 17 = .ok (.iload_n 2, 1) := by decide +kernel
theorem dMM_votes_18 : decode prog_12_method_26_code 18 = .ok (.iload_n 3, 1) := by decide +kernel
theorem dMM_votes_19 : decode prog_12_method_26_code 19 = .ok (.invokevirtual 185, 3) := by decide +kernel
theorem dMM_votes_22 : decode prog_12_method_26_code 22 = .ok (.iload_n 1, 1) := by decide +kernel
theorem dMM_votes_23 : decode prog_12_method_26_code 23 = .ok (.if_icmp .ne 7, 3) := by decide +kernel
theorem dMM_votes_26 : decode prog_12_method_26_code 26 = .ok (.iconst 1, 1) := by decide +kernel
theorem dMM_votes_27 : decode prog_12_method_26_code 27 = .ok (.goto 4, 3) := by decide +kernel
theorem dMM_votes_30 : decode prog_12_method_26_code 30 = .ok (.iconst 0, 1) := by decide +kernel
theorem dMM_votes_31 : decode prog_12_method_26_code 31 = .ok (.iadd, 1) := by decide +kernel
theorem dMM_votes_32 : decode prog_12_method_26_code 32 = .ok (.istore 4, 2) := by decide +kernel
theorem dMM_votes_34 : decode prog_12_method_26_code 34 = .ok (.iinc 5 1, 3) := by decide +kernel
theorem dMM_votes_37 : decode prog_12_method_26_code 37 = .ok (.goto (-31), 3) := by decide +kernel
theorem dMM_votes_40 : decode prog_12_method_26_code 40 = .ok (.iload 4, 2) := by decide +kernel
theorem dMM_votes_42 : decode prog_12_method_26_code 42 = .ok (.ireturn, 1) := by decide +kernel
theorem dMM_owedOf_0 : decode prog_12_method_27_code 0 = .ok (.iconst (-1), 1) := by decide +kernel
theorem dMM_owedOf_1 : decode prog_12_method_27_code 1 = .ok (.istore_n 3, 1) := by decide +kernel
theorem dMM_owedOf_2 : decode prog_12_method_27_code 2 = .ok (.iconst 0, 1) := by decide +kernel
theorem dMM_owedOf_3 : decode prog_12_method_27_code 3 = .ok (.istore 4, 2) := by decide +kernel
theorem dMM_owedOf_5 : decode prog_12_method_27_code 5 = .ok (.iload 4, 2) := by decide +kernel
theorem dMM_owedOf_7 : decode prog_12_method_27_code 7 = .ok (.iconst 5, 1) := by decide +kernel
theorem dMM_owedOf_8 : decode prog_12_method_27_code 8 = .ok (.if_icmp .ge 88, 3) := by decide +kernel
theorem dMM_owedOf_11 : decode prog_12_method_27_code 11 = .ok (.aload_n 0, 1) := by decide +kernel
theorem dMM_owedOf_12 : decode prog_12_method_27_code 12 = .ok (.iload 4, 2) := by decide +kernel
theorem dMM_owedOf_14 : decode prog_12_method_27_code 14 = .ok (.iload_n 1, 1) := by decide +kernel
theorem dMM_owedOf_15 : decode prog_12_method_27_code 15 = .ok (.iload_n 2, 1) := by decide +kernel
theorem dMM_owedOf_16 : decode prog_12_method_27_code 16 = .ok (.invokevirtual 185, 3) := by decide +kernel
theorem dMM_owedOf_19 : decode prog_12_method_27_code 19 = .ok (.istore 5, 2) := by decide +kernel
theorem dMM_owedOf_21 : decode prog_12_method_27_code 21 = .ok (.iload 5, 2) := by decide +kernel
theorem dMM_owedOf_23 : decode prog_12_method_27_code 23 = .ok (.ifCond .ge 6, 3) := by decide +kernel
theorem dMM_owedOf_26 : decode prog_12_method_27_code 26 = .ok (.goto 64, 3) := by decide +kernel
theorem dMM_owedOf_29 : decode prog_12_method_27_code 29 = .ok (.iload_n 3, 1) := by decide +kernel
theorem dMM_owedOf_30 : decode prog_12_method_27_code 30 = .ok (.ifCond .ge 7, 3) := by decide +kernel
theorem dMM_owedOf_33 : decode prog_12_method_27_code 33 = .ok (.iconst 1, 1) := by decide +kernel
theorem dMM_owedOf_34 : decode prog_12_method_27_code 34 = .ok (.goto 25, 3) := by decide +kernel
theorem dMM_owedOf_37 : decode prog_12_method_27_code 37 = .ok (.aload_n 0, 1) := by decide +kernel
theorem dMM_owedOf_38 : decode prog_12_method_27_code 38 = .ok (.iload 5, 2) := by decide +kernel
theorem dMM_owedOf_40 : decode prog_12_method_27_code 40 = .ok (.iload_n 1, 1) := by decide +kernel
theorem dMM_owedOf_41 : decode prog_12_method_27_code 41 = .ok (.iload_n 2, 1) := by decide +kernel
theorem dMM_owedOf_42 : decode prog_12_method_27_code 42 = .ok (.invokevirtual 189, 3) := by decide +kernel
theorem dMM_owedOf_45 : decode prog_12_method_27_code 45 = .ok (.aload_n 0, 1) := by decide +kernel
theorem dMM_owedOf_46 : decode prog_12_method_27_code 46 = .ok (.aload_n 0, 1) := by decide +kernel
theorem dMM_owedOf_47 : decode prog_12_method_27_code 47 = .ok (.iload_n 3, 1) := by decide +kernel
theorem dMM_owedOf_48 : decode prog_12_method_27_code 48 = .ok (.iload_n 1, 1) := by decide +kernel
theorem dMM_owedOf_49 : decode prog_12_method_27_code 49 = .ok (.iload_n 2, 1) := by decide +kernel
theorem dMM_owedOf_50 : decode prog_12_method_27_code 50 = .ok (.invokevirtual 185, 3) := by decide +kernel
theorem dMM_owedOf_53 : decode prog_12_method_27_code 53 = .ok (.iload_n 1, 1) := by decide +kernel
theorem dMM_owedOf_54 : decode prog_12_method_27_code 54 = .ok (.iload_n 2, 1) := by decide +kernel
theorem dMM_owedOf_55 : decode prog_12_method_27_code 55 = .ok (.invokevirtual 189, 3) := by decide +kernel
theorem dMM_owedOf_58 : decode prog_12_method_27_code 58 = .ok (.isub, 1) := by decide +kernel
theorem dMM_owedOf_59 : decode prog_12_method_27_code 59 = .ok (.istore 6, 2) := by decide +kernel
theorem dMM_owedOf_61 : decode prog_12_method_27_code 61 = .ok (.iload 6, 2) := by decide +kernel
theorem dMM_owedOf_63 : decode prog_12_method_27_code 63 = .ok (.ifCond .gt 24, 3) := by decide +kernel
theorem dMM_owedOf_66 : decode prog_12_method_27_code 66 = .ok (.iload 6, 2) := by decide +kernel
theorem dMM_owedOf_68 : decode prog_12_method_27_code 68 = .ok (.ifCond .ne 22, 3) := by decide +kernel
theorem dMM_owedOf_71 : decode prog_12_method_27_code 71 = .ok (.aload_n 0, 1) := by decide +kernel
theorem dMM_owedOf_72 : decode prog_12_method_27_code 72 = .ok (.getfield 26, 3) := by decide +kernel
theorem dMM_owedOf_75 : decode prog_12_method_27_code 75 = .ok (.iload 4, 2) := by decide +kernel
theorem dMM_owedOf_77 : decode prog_12_method_27_code 77 = .ok (.iaload, 1) := by decide +kernel
theorem dMM_owedOf_78 : decode prog_12_method_27_code 78 = .ok (.aload_n 0, 1) := by decide +kernel
theorem dMM_owedOf_79 : decode prog_12_method_27_code 79 = .ok (.getfield 26, 3) := by decide +kernel
theorem dMM_owedOf_82 : decode prog_12_method_27_code 82 = .ok (.iload_n 3, 1) := by decide +kernel
theorem dMM_owedOf_83 : decode prog_12_method_27_code 83 = .ok (.iaload, 1) := by decide +kernel
theorem dMM_owedOf_84 : decode prog_12_method_27_code 84 = .ok (.if_icmp .le 6, 3) := by decide +kernel
theorem dMM_owedOf_87 : decode prog_12_method_27_code 87 = .ok (.iload 4, 2) := by decide +kernel
theorem dMM_owedOf_89 : decode prog_12_method_27_code 89 = .ok (.istore_n 3, 1) := by decide +kernel
theorem dMM_owedOf_90 : decode prog_12_method_27_code 90 = .ok (.iinc 4 1, 3) := by decide +kernel
theorem dMM_owedOf_93 : decode prog_12_method_27_code 93 = .ok (.goto (-88), 3) := by decide +kernel
theorem dMM_owedOf_96 : decode prog_12_method_27_code 96 = .ok (.iload_n 3, 1) := by decide +kernel
theorem dMM_owedOf_97 : decode prog_12_method_27_code 97 = .ok (.ifCond .ge 7, 3) := by decide +kernel
theorem dMM_owedOf_100 : decode prog_12_method_27_code 100 = .ok (.iconst 0, 1) := by decide +kernel
theorem dMM_owedOf_101 : decode prog_12_method_27_code 101 = .ok (.goto 10, 3) := by decide +kernel
theorem dMM_owedOf_104 : decode prog_12_method_27_code 104 = .ok (.aload_n 0, 1) := by decide +kernel
theorem dMM_owedOf_105 : decode prog_12_method_27_code 105 = .ok (.iload_n 3, 1) := by decide +kernel
theorem dMM_owedOf_106 : decode prog_12_method_27_code 106 = .ok (.iload_n 1, 1) := by decide +kernel
theorem dMM_owedOf_107 : decode prog_12_method_27_code 107 = .ok (.iload_n 2, 1) := by decide +kernel
theorem dMM_owedOf_108 : decode prog_12_method_27_code 108 = .ok (.invokevirtual 185, 3) := by decide +kernel
theorem dMM_owedOf_111 : decode prog_12_method_27_code 111 = .ok (.ireturn, 1) := by decide +kernel
theorem dMM_owed_0 : decode prog_12_method_28_code 0 = .ok (.iload_n 1, 1) := by decide +kernel
theorem dMM_owed_1 : decode prog_12_method_28_code 1 = .ok (.invokestatic 160, 3) := by decide +kernel
theorem dMM_owed_4 : decode prog_12_method_28_code 4 = .ok (.ifCond .eq 19, 3) := by decide +kernel
theorem dMM_owed_7 : decode prog_12_method_28_code 7 = .ok (.iload_n 2, 1) := by decide +kernel
theorem dMM_owed_8 : decode prog_12_method_28_code 8 = .ok (.invokestatic 122, 3) := by decide +kernel
theorem dMM_owed_11 : decode prog_12_method_28_code 11 = .ok (.ifCond .eq 12, 3) := by decide +kernel
theorem dMM_owed_14 : decode prog_12_method_28_code 14 = .ok (.aload_n 0, 1) := by decide +kernel
theorem dMM_owed_15 : decode prog_12_method_28_code 15 = .ok (.iload_n 1, 1) := by decide +kernel
theorem dMM_owed_16 : decode prog_12_method_28_code 16 = .ok (.iload_n 2, 1) := by decide +kernel
theorem dMM_owed_17 : decode prog_12_method_28_code 17 = .ok (.invokevirtual 192, 3) := by decide +kernel
theorem dMM_owed_20 : decode prog_12_method_28_code 20 = .ok (.goto 4, 3) := by decide +kernel
theorem dMM_owed_23 : decode prog_12_method_28_code 23 = .ok (.iconst (-1), 1) := by decide +kernel
theorem dMM_owed_24 : decode prog_12_method_28_code 24 = .ok (.ireturn, 1) := by decide +kernel
theorem dMM_isQuarrel_0 : decode prog_12_method_29_code 0 = .ok (.iconst (-1), 1) := by decide +kernel
theorem dMM_isQuarrel_1 : decode prog_12_method_29_code 1 = .ok (.istore_n 3, 1) := by decide +kernel
theorem dMM_isQuarrel_2 : decode prog_12_method_29_code 2 = .ok (.iconst 0, 1) := by decide +kernel
theorem dMM_isQuarrel_3 : decode prog_12_method_29_code 3 = .ok (.istore 4, 2) := by decide +kernel
theorem dMM_isQuarrel_5 : decode prog_12_method_29_code 5 = .ok (.iload 4, 2) := by decide +kernel
theorem dMM_isQuarrel_7 : decode prog_12_method_29_code 7 = .ok (.iconst 5, 1) := by decide +kernel
theorem dMM_isQuarrel_8 : decode prog_12_method_29_code 8 = .ok (.if_icmp .ge 44, 3) := by decide +kernel
theorem dMM_isQuarrel_11 : decode prog_12_method_29_code 11 = .ok (.aload_n 0, 1) := by decide +kernel
theorem dMM_isQuarrel_12 : decode prog_12_method_29_code 12 = .ok (.iload 4, 2) := by decide +kernel
theorem dMM_isQuarrel_14 : decode prog_12_method_29_code 14 = .ok (.iload_n 1, 1) := by decide +kernel
theorem dMM_isQuarrel_15 : decode prog_12_method_29_code 15 = .ok (.iload_n 2, 1) := by decide +kernel
theorem dMM_isQuarrel_16 : decode prog_12_method_29_code 16 = .ok (.invokevirtual 185, 3) := by decide +kernel
theorem dMM_isQuarrel_19 : decode prog_12_method_29_code 19 = .ok (.istore 5, 2) := by decide +kernel
theorem dMM_isQuarrel_21 : decode prog_12_method_29_code 21 = .ok (.iload 5, 2) := by decide +kernel
theorem dMM_isQuarrel_23 : decode prog_12_method_29_code 23 = .ok (.ifCond .lt 15, 3) := by decide +kernel
theorem dMM_isQuarrel_26 : decode prog_12_method_29_code 26 = .ok (.iload_n 3, 1) := by decide +kernel
theorem dMM_isQuarrel_27 : decode prog_12_method_29_code 27 = .ok (.ifCond .lt 11, 3) := by decide +kernel
theorem dMM_isQuarrel_30 : decode prog_12_method_29_code 30 = .ok (.iload 5, 2) := by decide +kernel
theorem dMM_isQuarrel_32 : decode prog_12_method_29_code 32 = .ok (.iload_n 3, 1) := by decide +kernel
theorem dMM_isQuarrel_33 : decode prog_12_method_29_code 33 = .ok (.if_icmp .eq 5, 3) := by decide +kernel
theorem dMM_isQuarrel_36 : decode prog_12_method_29_code 36 = .ok (.iconst 1, 1) := by decide +kernel
theorem dMM_isQuarrel_37 : decode prog_12_method_29_code 37 = .ok (.ireturn, 1) := by decide +kernel
theorem dMM_isQuarrel_38 : decode prog_12_method_29_code 38 = .ok (.iload 5, 2) := by decide +kernel
theorem dMM_isQuarrel_40 : decode prog_12_method_29_code 40 = .ok (.ifCond .lt 6, 3) := by decide +kernel
theorem dMM_isQuarrel_43 : decode prog_12_method_29_code 43 = .ok (.iload 5, 2) := by decide +kernel
theorem dMM_isQuarrel_45 : decode prog_12_method_29_code 45 = .ok (.istore_n 3, 1) := by decide +kernel
theorem dMM_isQuarrel_46 : decode prog_12_method_29_code 46 = .ok (.iinc 4 1, 3) := by decide +kernel
theorem dMM_isQuarrel_49 : decode prog_12_method_29_code 49 = .ok (.goto (-44), 3) := by decide +kernel
theorem dMM_isQuarrel_52 : decode prog_12_method_29_code 52 = .ok (.iconst 0, 1) := by decide +kernel
theorem dMM_isQuarrel_53 : decode prog_12_method_29_code 53 = .ok (.ireturn, 1) := by decide +kernel
theorem dMM_quarrel_0 : decode prog_12_method_30_code 0 = .ok (.iload_n 1, 1) := by decide +kernel
theorem dMM_quarrel_1 : decode prog_12_method_30_code 1 = .ok (.invokestatic 160, 3) := by decide +kernel
theorem dMM_quarrel_4 : decode prog_12_method_30_code 4 = .ok (.ifCond .eq 27, 3) := by decide +kernel
theorem dMM_quarrel_7 : decode prog_12_method_30_code 7 = .ok (.iload_n 2, 1) := by decide +kernel
theorem dMM_quarrel_8 : decode prog_12_method_30_code 8 = .ok (.invokestatic 122, 3) := by decide +kernel
theorem dMM_quarrel_11 : decode prog_12_method_30_code 11 = .ok (.ifCond .eq 20, 3) := by decide +kernel
theorem dMM_quarrel_14 : decode prog_12_method_30_code 14 = .ok (.aload_n 0, 1) := by decide +kernel
theorem dMM_quarrel_15 : decode prog_12_method_30_code 15 = .ok (.iload_n 1, 1) := by decide +kernel
theorem dMM_quarrel_16 : decode prog_12_method_30_code 16 = .ok (.iload_n 2, 1) := by decide +kernel
theorem dMM_quarrel_17 : decode prog_12_method_30_code 17 = .ok (.invokevirtual 195, 3) := by decide +kernel
theorem dMM_quarrel_20 : decode prog_12_method_30_code 20 = .ok (.ifCond .eq 7, 3) := by decide +kernel
theorem dMM_quarrel_23 : decode prog_12_method_30_code 23 = .ok (.iconst 1, 1) := by decide +kernel
theorem dMM_quarrel_24 : decode prog_12_method_30_code 24 = .ok (.goto 8, 3) := by decide +kernel
theorem dMM_quarrel_27 : decode prog_12_method_30_code 27 = .ok (.iconst 0, 1) := by decide +kernel
theorem dMM_quarrel_28 : decode prog_12_method_30_code 28 = .ok (.goto 4, 3) := by decide +kernel
theorem dMM_quarrel_31 : decode prog_12_method_30_code 31 = .ok (.iconst (-1), 1) := by decide +kernel
theorem dMM_quarrel_32 : decode prog_12_method_30_code 32 = .ok (.ireturn, 1) := by decide +kernel
theorem dMM_quarrels_0 : decode prog_12_method_31_code 0 = .ok (.iconst 0, 1) := by decide +kernel
theorem dMM_quarrels_1 : decode prog_12_method_31_code 1 = .ok (.istore_n 1, 1) := by decide +kernel
theorem dMM_quarrels_2 : decode prog_12_method_31_code 2 = .ok (.iconst 1, 1) := by decide +kernel
theorem dMM_quarrels_3 : decode prog_12_method_31_code 3 = .ok (.istore_n 2, 1) := by decide +kernel
theorem dMM_quarrels_4 : decode prog_12_method_31_code 4 = .ok (.iload_n 2, 1) := by decide +kernel
theorem dMM_quarrels_5 : decode prog_12_method_31_code 5 = .ok (.bipush 16, 2) := by decide +kernel
theorem dMM_quarrels_7 : decode prog_12_method_31_code 7 = .ok (.if_icmp .ge 40, 3) := by decide +kernel
theorem dMM_quarrels_10 : decode prog_12_method_31_code 10 = .ok (.iconst 0, 1) := by decide +kernel
theorem dMM_quarrels_11 : decode prog_12_method_31_code 11 = .ok (.istore_n 3, 1) := by decide +kernel
theorem dMM_quarrels_12 : decode prog_12_method_31_code 12 = .ok (.iload_n 3, 1) := by decide +kernel
theorem dMM_quarrels_13 : decode prog_12_method_31_code 13 = .ok (.bipush 6, 2) := by decide +kernel
theorem dMM_quarrels_15 : decode prog_12_method_31_code 15 = .ok (.if_icmp .ge 26, 3) := by decide +kernel
theorem dMM_quarrels_18 : decode prog_12_method_31_code 18 = .ok (.iload_n 1, 1) := by decide +kernel
theorem dMM_quarrels_19 : decode prog_12_method_31_code 19 = .ok (.aload_n 0, 1) := by decide +kernel
theorem dMM_quarrels_20 : decode prog_12_method_31_code 20 = .ok (.iload_n 2, 1) := by decide +kernel
theorem dMM_quarrels_21 : decode prog_12_method_31_code 21 = .ok (.iload_n 3, 1) := by decide +kernel
theorem dMM_quarrels_22 : decode prog_12_method_31_code 22 = .ok (.invokevirtual 195, 3) := by decide +kernel
theorem dMM_quarrels_25 : decode prog_12_method_31_code 25 = .ok (.ifCond .eq 7, 3) := by decide +kernel
theorem dMM_quarrels_28 : decode prog_12_method_31_code 28 = .ok (.iconst 1, 1) := by decide +kernel
theorem dMM_quarrels_29 : decode prog_12_method_31_code 29 = .ok (.goto 4, 3) := by decide +kernel
theorem dMM_quarrels_32 : decode prog_12_method_31_code 32 = .ok (.iconst 0, 1) := by decide +kernel
theorem dMM_quarrels_33 : decode prog_12_method_31_code 33 = .ok (.iadd, 1) := by decide +kernel
theorem dMM_quarrels_34 : decode prog_12_method_31_code 34 = .ok (.istore_n 1, 1) := by decide +kernel
theorem dMM_quarrels_35 : decode prog_12_method_31_code 35 = .ok (.iinc 3 1, 3) := by decide +kernel
theorem dMM_quarrels_38 : decode prog_12_method_31_code 38 = .ok (.goto (-26), 3) := by decide +kernel
theorem dMM_quarrels_41 : decode prog_12_method_31_code 41 = .ok (.iinc 2 1, 3) := by decide +kernel
theorem dMM_quarrels_44 : decode prog_12_method_31_code 44 = .ok (.goto (-40), 3) := by decide +kernel
theorem dMM_quarrels_47 : decode prog_12_method_31_code 47 = .ok (.iload_n 1, 1) := by decide +kernel
theorem dMM_quarrels_48 : decode prog_12_method_31_code 48 = .ok (.ireturn, 1) := by decide +kernel
theorem dMM_send_0 : decode prog_12_method_32_code 0 = .ok (.iload_n 1, 1) := by decide +kernel
theorem dMM_send_1 : decode prog_12_method_32_code 1 = .ok (.invokestatic 160, 3) := by decide +kernel
theorem dMM_send_4 : decode prog_12_method_32_code 4 = .ok (.ifCond .eq 30, 3) := by decide +kernel
theorem dMM_send_7 : decode prog_12_method_32_code 7 = .ok (.iload_n 2, 1) := by decide +kernel
theorem dMM_send_8 : decode prog_12_method_32_code 8 = .ok (.invokestatic 122, 3) := by decide +kernel
theorem dMM_send_11 : decode prog_12_method_32_code 11 = .ok (.ifCond .eq 23, 3) := by decide +kernel
theorem dMM_send_14 : decode prog_12_method_32_code 14 = .ok (.iload_n 3, 1) := by decide +kernel
theorem dMM_send_15 : decode prog_12_method_32_code 15 = .ok (.iconst 1, 1) := by decide +kernel
theorem dMM_send_16 : decode prog_12_method_32_code 16 = .ok (.sipush 9999, 3) := by decide +kernel
theorem dMM_send_19 : decode prog_12_method_32_code 19 = .ok (.invokestatic 109, 3) := by decide +kernel
theorem dMM_send_22 : decode prog_12_method_32_code 22 = .ok (.ifCond .eq 12, 3) := by decide +kernel
theorem dMM_send_25 : decode prog_12_method_32_code 25 = .ok (.aload_n 0, 1) := by decide +kernel
theorem dMM_send_26 : decode prog_12_method_32_code 26 = .ok (.getfield 199, 3) := by decide +kernel
theorem dMM_send_29 : decode prog_12_method_32_code 29 = .ok (.bipush 100, 2) := by decide +kernel
theorem dMM_send_31 : decode prog_12_method_32_code 31 = .ok (.if_icmp .ne 5, 3) := by decide +kernel
theorem dMM_send_34 : decode prog_12_method_32_code 34 = .ok (.iconst (-1), 1) := by decide +kernel
theorem dMM_send_35 : decode prog_12_method_32_code 35 = .ok (.ireturn, 1) := by decide +kernel
theorem dMM_send_36 : decode prog_12_method_32_code 36 = .ok (.aload_n 0, 1) := by decide +kernel
theorem dMM_send_37 : decode prog_12_method_32_code 37 = .ok (.iload_n 1, 1) := by decide +kernel
theorem dMM_send_38 : decode prog_12_method_32_code 38 = .ok (.iconst 0, 1) := by decide +kernel
theorem dMM_send_39 : decode prog_12_method_32_code 39 = .ok (.invokevirtual 118, 3) := by decide +kernel
theorem dMM_send_42 : decode prog_12_method_32_code 42 = .ok (.istore 4, 2) := by decide +kernel
theorem dMM_send_44 : decode prog_12_method_32_code 44 = .ok (.iload 4, 2) := by decide +kernel
theorem dMM_send_46 : decode prog_12_method_32_code 46 = .ok (.ifCond .ge 5, 3) := by decide +kernel
theorem dMM_send_49 : decode prog_12_method_32_code 49 = .ok (.iconst (-1), 1) := by decide +kernel
theorem dMM_send_50 : decode prog_12_method_32_code 50 = .ok (.ireturn, 1) := by decide +kernel
theorem dMM_send_51 : decode prog_12_method_32_code 51 = .ok (.aload_n 0, 1) := by decide +kernel
theorem dMM_send_52 : decode prog_12_method_32_code 52 = .ok (.getfield 42, 3) := by decide +kernel
theorem dMM_send_55 : decode prog_12_method_32_code 55 = .ok (.aload_n 0, 1) := by decide +kernel
theorem dMM_send_56 : decode prog_12_method_32_code 56 = .ok (.getfield 199, 3) := by decide +kernel
theorem dMM_send_59 : decode prog_12_method_32_code 59 = .ok (.iload_n 1, 1) := by decide +kernel
theorem dMM_send_60 : decode prog_12_method_32_code 60 = .ok (.iastore, 1) := by decide +kernel
theorem dMM_send_61 : decode prog_12_method_32_code 61 = .ok (.aload_n 0, 1) := by decide +kernel
theorem dMM_send_62 : decode prog_12_method_32_code 62 = .ok (.getfield 45, 3) := by decide +kernel
theorem dMM_send_65 : decode prog_12_method_32_code 65 = .ok (.aload_n 0, 1) := by decide +kernel
theorem dMM_send_66 : decode prog_12_method_32_code 66 = .ok (.getfield 199, 3) := by decide +kernel
theorem dMM_send_69 : decode prog_12_method_32_code 69 = .ok (.iload_n 2, 1) := by decide +kernel
theorem dMM_send_70 : decode prog_12_method_32_code 70 = .ok (.iastore, 1) := by decide +kernel
theorem dMM_send_71 : decode prog_12_method_32_code 71 = .ok (.aload_n 0, 1) := by decide +kernel
theorem dMM_send_72 : decode prog_12_method_32_code 72 = .ok (.getfield 48, 3) := by decide +kernel
theorem dMM_send_75 : decode prog_12_method_32_code 75 = .ok (.aload_n 0, 1) := by decide +kernel
theorem dMM_send_76 : decode prog_12_method_32_code 76 = .ok (.getfield 199, 3) := by decide +kernel
theorem dMM_send_79 : decode prog_12_method_32_code 79 = .ok (.iload_n 3, 1) := by decide +kernel
theorem dMM_send_80 : decode prog_12_method_32_code 80 = .ok (.iastore, 1) := by decide +kernel
theorem dMM_send_81 : decode prog_12_method_32_code 81 = .ok (.aload_n 0, 1) := by decide +kernel
theorem dMM_send_82 : decode prog_12_method_32_code 82 = .ok (.getfield 51, 3) := by decide +kernel
theorem dMM_send_85 : decode prog_12_method_32_code 85 = .ok (.aload_n 0, 1) := by decide +kernel
theorem dMM_send_86 : decode prog_12_method_32_code 86 = .ok (.getfield 199, 3) := by decide +kernel
theorem dMM_send_89 : decode prog_12_method_32_code 89 = .ok (.aload_n 0, 1) := by decide +kernel
theorem dMM_send_90 : decode prog_12_method_32_code 90 = .ok (.iload_n 2, 1) := by decide +kernel
theorem dMM_send_91 : decode prog_12_method_32_code 91 = .ok (.iload_n 3, 1) := by decide +kernel
theorem dMM_send_92 : decode prog_12_method_32_code 92 = .ok (.invokevirtual 125, 3) := by decide +kernel
theorem dMM_send_95 : decode prog_12_method_32_code 95 = .ok (.iastore, 1) := by decide +kernel
theorem dMM_send_96 : decode prog_12_method_32_code 96 = .ok (.aload_n 0, 1) := by decide +kernel
theorem dMM_send_97 : decode prog_12_method_32_code 97 = .ok (.getfield 54, 3) := by decide +kernel
theorem dMM_send_100 : decode prog_12_method_32_code 100 = .ok (.aload_n 0, 1) := by decide +kernel
theorem dMM_send_101 : decode prog_12_method_32_code 101 = .ok (.getfield 199, 3) := by decide +kernel
theorem dMM_send_104 : decode prog_12_method_32_code 104 = .ok (.aload_n 0, 1) := by decide +kernel
theorem dMM_send_105 : decode prog_12_method_32_code 105 = .ok (.getfield 202, 3) := by decide +kernel
theorem dMM_send_108 : decode prog_12_method_32_code 108 = .ok (.iastore, 1) := by decide +kernel
theorem dMM_send_109 : decode prog_12_method_32_code 109 = .ok (.aload_n 0, 1) := by decide +kernel
theorem dMM_send_110 : decode prog_12_method_32_code 110 = .ok (.getfield 57, 3) := by decide +kernel
theorem dMM_send_113 : decode prog_12_method_32_code 113 = .ok (.aload_n 0, 1) := by decide +kernel
theorem dMM_send_114 : decode prog_12_method_32_code 114 = .ok (.getfield 199, 3) := by decide +kernel
theorem dMM_send_117 : decode prog_12_method_32_code 117 = .ok (.aload_n 0, 1) := by decide +kernel
theorem dMM_send_118 : decode prog_12_method_32_code 118 = .ok (.getfield 202, 3) := by decide +kernel
theorem dMM_send_121 : decode prog_12_method_32_code 121 = .ok (.iload 4, 2) := by decide +kernel
theorem dMM_send_123 : decode prog_12_method_32_code 123 = .ok (.iadd, 1) := by decide +kernel
theorem dMM_send_124 : decode prog_12_method_32_code 124 = .ok (.iastore, 1) := by decide +kernel
theorem dMM_send_125 : decode prog_12_method_32_code 125 = .ok (.aload_n 0, 1) := by decide +kernel
theorem dMM_send_126 : decode prog_12_method_32_code 126 = .ok (.dup, 1) := by decide +kernel
theorem dMM_send_127 : decode prog_12_method_32_code 127 = .ok (.getfield 199, 3) := by decide +kernel
theorem dMM_send_130 : decode prog_12_method_32_code 130 = .ok (.iconst 1, 1) := by decide +kernel
theorem dMM_send_131 : decode prog_12_method_32_code 131 = .ok (.iadd, 1) := by decide +kernel
theorem dMM_send_132 : decode prog_12_method_32_code 132 = .ok (.putfield 199, 3) := by decide +kernel
theorem dMM_send_135 : decode prog_12_method_32_code 135 = .ok (.aload_n 0, 1) := by decide +kernel
theorem dMM_send_136 : decode prog_12_method_32_code 136 = .ok (.getfield 199, 3) := by decide +kernel
theorem dMM_send_139 : decode prog_12_method_32_code 139 = .ok (.iconst 1, 1) := by decide +kernel
theorem dMM_send_140 : decode prog_12_method_32_code 140 = .ok (.isub, 1) := by decide +kernel
theorem dMM_send_141 : decode prog_12_method_32_code 141 = .ok (.ireturn, 1) := by decide +kernel
theorem dMM_sending_0 : decode prog_12_method_33_code 0 = .ok (.iload_n 1, 1) := by decide +kernel
theorem dMM_sending_1 : decode prog_12_method_33_code 1 = .ok (.iconst 0, 1) := by decide +kernel
theorem dMM_sending_2 : decode prog_12_method_33_code 2 = .ok (.aload_n 0, 1) := by decide +kernel
theorem dMM_sending_3 : decode prog_12_method_33_code 3 = .ok (.getfield 199, 3) := by decide +kernel
theorem dMM_sending_6 : decode prog_12_method_33_code 6 = .ok (.iconst 1, 1) := by decide +kernel
theorem dMM_sending_7 : decode prog_12_method_33_code 7 = .ok (.isub, 1) := by decide +kernel
theorem dMM_sending_8 : decode prog_12_method_33_code 8 = .ok (.invokestatic 109, 3) := by decide +kernel
theorem dMM_sending_11 : decode prog_12_method_33_code 11 = .ok (.ifCond .ne 5, 3) := by decide +kernel
theorem dMM_sending_14 : decode prog_12_method_33_code 14 = .ok (.iconst (-1), 1) := by decide +kernel
theorem dMM_sending_15 : decode prog_12_method_33_code 15 = .ok (.ireturn, 1) := by decide +kernel
theorem dMM_sending_16 : decode prog_12_method_33_code 16 = .ok (.iload_n 2, 1) := by decide +kernel
theorem dMM_sending_17 : decode prog_12_method_33_code 17 = .ok (.tableswitch 111 0 7 #[47, 54, 61, 68, 75, 82, 89, 104], 47) := by decide +kernel
theorem dMM_sending_64 : decode prog_12_method_33_code 64 = .ok (.aload_n 0, 1) := by decide +kernel
theorem dMM_sending_65 : decode prog_12_method_33_code 65 = .ok (.getfield 42, 3) := by decide +kernel
theorem dMM_sending_68 : decode prog_12_method_33_code 68 = .ok (.iload_n 1, 1) := by decide +kernel
theorem dMM_sending_69 : decode prog_12_method_33_code 69 = .ok (.iaload, 1) := by decide +kernel
theorem dMM_sending_70 : decode prog_12_method_33_code 70 = .ok (.ireturn, 1) := by decide +kernel
theorem dMM_sending_71 : decode prog_12_method_33_code 71 = .ok (.aload_n 0, 1) := by decide +kernel
theorem dMM_sending_72 : decode prog_12_method_33_code 72 = .ok (.getfield 45, 3) := by decide +kernel
theorem dMM_sending_75 : decode prog_12_method_33_code 75 = .ok (.iload_n 1, 1) := by decide +kernel
theorem dMM_sending_76 : decode prog_12_method_33_code 76 = .ok (.iaload, 1) := by decide +kernel
theorem dMM_sending_77 : decode prog_12_method_33_code 77 = .ok (.ireturn, 1) := by decide +kernel
theorem dMM_sending_78 : decode prog_12_method_33_code 78 = .ok (.aload_n 0, 1) := by decide +kernel
theorem dMM_sending_79 : decode prog_12_method_33_code 79 = .ok (.getfield 48, 3) := by decide +kernel
theorem dMM_sending_82 : decode prog_12_method_33_code 82 = .ok (.iload_n 1, 1) := by decide +kernel
theorem dMM_sending_83 : decode prog_12_method_33_code 83 = .ok (.iaload, 1) := by decide +kernel
theorem dMM_sending_84 : decode prog_12_method_33_code 84 = .ok (.ireturn, 1) := by decide +kernel
theorem dMM_sending_85 : decode prog_12_method_33_code 85 = .ok (.aload_n 0, 1) := by decide +kernel
theorem dMM_sending_86 : decode prog_12_method_33_code 86 = .ok (.getfield 51, 3) := by decide +kernel
theorem dMM_sending_89 : decode prog_12_method_33_code 89 = .ok (.iload_n 1, 1) := by decide +kernel
theorem dMM_sending_90 : decode prog_12_method_33_code 90 = .ok (.iaload, 1) := by decide +kernel
theorem dMM_sending_91 : decode prog_12_method_33_code 91 = .ok (.ireturn, 1) := by decide +kernel
theorem dMM_sending_92 : decode prog_12_method_33_code 92 = .ok (.aload_n 0, 1) := by decide +kernel
theorem dMM_sending_93 : decode prog_12_method_33_code 93 = .ok (.getfield 54, 3) := by decide +kernel
theorem dMM_sending_96 : decode prog_12_method_33_code 96 = .ok (.iload_n 1, 1) := by decide +kernel
theorem dMM_sending_97 : decode prog_12_method_33_code 97 = .ok (.iaload, 1) := by decide +kernel
theorem dMM_sending_98 : decode prog_12_method_33_code 98 = .ok (.ireturn, 1) := by decide +kernel
theorem dMM_sending_99 : decode prog_12_method_33_code 99 = .ok (.aload_n 0, 1) := by decide +kernel
theorem dMM_sending_100 : decode prog_12_method_33_code 100 = .ok (.getfield 57, 3) := by decide +kernel
theorem dMM_sending_103 : decode prog_12_method_33_code 103 = .ok (.iload_n 1, 1) := by decide +kernel
theorem dMM_sending_104 : decode prog_12_method_33_code 104 = .ok (.iaload, 1) := by decide +kernel
theorem dMM_sending_105 : decode prog_12_method_33_code 105 = .ok (.ireturn, 1) := by decide +kernel
theorem dMM_sending_106 : decode prog_12_method_33_code 106 = .ok (.aload_n 0, 1) := by decide +kernel
theorem dMM_sending_107 : decode prog_12_method_33_code 107 = .ok (.getfield 60, 3) := by decide +kernel
theorem dMM_sending_110 : decode prog_12_method_33_code 110 = .ok (.iload_n 1, 1) := by decide +kernel
theorem dMM_sending_111 : decode prog_12_method_33_code 111 = .ok (.baload, 1) := by decide +kernel
theorem dMM_sending_112 : decode prog_12_method_33_code 112 = .ok (.ifCond .eq 7, 3) := by decide +kernel
theorem dMM_sending_115 : decode prog_12_method_33_code 115 = .ok (.iconst 1, 1) := by decide +kernel
theorem dMM_sending_116 : decode prog_12_method_33_code 116 = .ok (.goto 4, 3) := by decide +kernel
theorem dMM_sending_119 : decode prog_12_method_33_code 119 = .ok (.iconst 0, 1) := by decide +kernel
theorem dMM_sending_120 : decode prog_12_method_33_code 120 = .ok (.ireturn, 1) := by decide +kernel
theorem dMM_sending_121 : decode prog_12_method_33_code 121 = .ok (.aload_n 0, 1) := by decide +kernel
theorem dMM_sending_122 : decode prog_12_method_33_code 122 = .ok (.getfield 64, 3) := by decide +kernel
theorem dMM_sending_125 : decode prog_12_method_33_code 125 = .ok (.iload_n 1, 1) := by decide +kernel
theorem dMM_sending_126 : decode prog_12_method_33_code 126 = .ok (.iaload, 1) := by decide +kernel
theorem dMM_sending_127 : decode prog_12_method_33_code 127 = .ok (.ireturn, 1) := by decide +kernel
theorem dMM_sending_128 : decode prog_12_method_33_code 128 = .ok (.iconst (-1), 1) := by decide +kernel
theorem dMM_sending_129 : decode prog_12_method_33_code 129 = .ok (.ireturn, 1) := by decide +kernel
theorem dMM_store_0 : decode prog_12_method_34_code 0 = .ok (.bipush 6, 2) := by decide +kernel
theorem dMM_store_2 : decode prog_12_method_34_code 2 = .ok (.aload_n 0, 1) := by decide +kernel
theorem dMM_store_3 : decode prog_12_method_34_code 3 = .ok (.getfield 42, 3) := by decide +kernel
theorem dMM_store_6 : decode prog_12_method_34_code 6 = .ok (.iload_n 1, 1) := by decide +kernel
theorem dMM_store_7 : decode prog_12_method_34_code 7 = .ok (.iaload, 1) := by decide +kernel
theorem dMM_store_8 : decode prog_12_method_34_code 8 = .ok (.imul, 1) := by decide +kernel
theorem dMM_store_9 : decode prog_12_method_34_code 9 = .ok (.aload_n 0, 1) := by decide +kernel
theorem dMM_store_10 : decode prog_12_method_34_code 10 = .ok (.getfield 45, 3) := by decide +kernel
theorem dMM_store_13 : decode prog_12_method_34_code 13 = .ok (.iload_n 1, 1) := by decide +kernel
theorem dMM_store_14 : decode prog_12_method_34_code 14 = .ok (.iaload, 1) := by decide +kernel
theorem dMM_store_15 : decode prog_12_method_34_code 15 = .ok (.iadd, 1) := by decide +kernel
theorem dMM_store_16 : decode prog_12_method_34_code 16 = .ok (.istore_n 2, 1) := by decide +kernel
theorem dMM_store_17 : decode prog_12_method_34_code 17 = .ok (.aload_n 0, 1) := by decide +kernel
theorem dMM_store_18 : decode prog_12_method_34_code 18 = .ok (.getfield 48, 3) := by decide +kernel
theorem dMM_store_21 : decode prog_12_method_34_code 21 = .ok (.iload_n 1, 1) := by decide +kernel
theorem dMM_store_22 : decode prog_12_method_34_code 22 = .ok (.iaload, 1) := by decide +kernel
theorem dMM_store_23 : decode prog_12_method_34_code 23 = .ok (.istore_n 3, 1) := by decide +kernel
theorem dMM_store_24 : decode prog_12_method_34_code 24 = .ok (.iconst 0, 1) := by decide +kernel
theorem dMM_store_25 : decode prog_12_method_34_code 25 = .ok (.istore 4, 2) := by decide +kernel
theorem dMM_store_27 : decode prog_12_method_34_code 27 = .ok (.iload 4, 2) := by decide +kernel
theorem dMM_store_29 : decode prog_12_method_34_code 29 = .ok (.aload_n 0, 1) := by decide +kernel
theorem dMM_store_30 : decode prog_12_method_34_code 30 = .ok (.getfield 205, 3) := by decide +kernel
theorem dMM_store_33 : decode prog_12_method_34_code 33 = .ok (.if_icmp .ge 96, 3) := by decide +kernel
theorem dMM_store_36 : decode prog_12_method_34_code 36 = .ok (.aload_n 0, 1) := by decide +kernel
theorem dMM_store_37 : decode prog_12_method_34_code 37 = .ok (.getfield 29, 3) := by decide +kernel
theorem dMM_store_40 : decode prog_12_method_34_code 40 = .ok (.bipush 96, 2) := by decide +kernel
theorem dMM_store_42 : decode prog_12_method_34_code 42 = .ok (.iload 4, 2) := by decide +kernel
theorem dMM_store_44 : decode prog_12_method_34_code 44 = .ok (.imul, 1) := by decide +kernel
theorem dMM_store_45 : decode prog_12_method_34_code 45 = .ok (.iload_n 2, 1) := by decide +kernel
theorem dMM_store_46 : decode prog_12_method_34_code 46 = .ok (.iadd, 1) := by decide +kernel
theorem dMM_store_47 : decode prog_12_method_34_code 47 = .ok (.iaload, 1) := by decide +kernel
theorem dMM_store_48 : decode prog_12_method_34_code 48 = .ok (.iload_n 3, 1) := by decide +kernel
theorem dMM_store_49 : decode prog_12_method_34_code 49 = .ok (.if_icmp .ge 18, 3) := by decide +kernel
theorem dMM_store_52 : decode prog_12_method_34_code 52 = .ok (.aload_n 0, 1) := by decide +kernel
theorem dMM_store_53 : decode prog_12_method_34_code 53 = .ok (.getfield 29, 3) := by decide +kernel
theorem dMM_store_56 : decode prog_12_method_34_code 56 = .ok (.bipush 96, 2) := by decide +kernel
theorem dMM_store_58 : decode prog_12_method_34_code 58 = .ok (.iload 4, 2) := by decide +kernel
theorem dMM_store_60 : decode prog_12_method_34_code 60 = .ok (.imul, 1) := by decide +kernel
theorem dMM_store_61 : decode prog_12_method_34_code 61 = .ok (.iload_n 2, 1) := by decide +kernel
theorem dMM_store_62 : decode prog_12_method_34_code 62 = .ok (.iadd, 1) := by decide +kernel
theorem dMM_store_63 : decode prog_12_method_34_code 63 = .ok (.iaload, 1) := by decide +kernel
theorem dMM_store_64 : decode prog_12_method_34_code 64 = .ok (.goto 4, 3) := by decide +kernel
theorem dMM_store_67 : decode prog_12_method_34_code 67 = .ok (.iload_n 3, 1) := by decide +kernel
theorem dMM_store_68 : decode prog_12_method_34_code 68 = .ok (.istore 5, 2) := by decide +kernel
theorem dMM_store_70 : decode prog_12_method_34_code 70 = .ok (.aload_n 0, 1) := by decide +kernel
theorem dMM_store_71 : decode prog_12_method_34_code 71 = .ok (.getfield 29, 3) := by decide +kernel
theorem dMM_store_74 : decode prog_12_method_34_code 74 = .ok (.bipush 96, 2) := by decide +kernel
theorem dMM_store_76 : decode prog_12_method_34_code 76 = .ok (.iload 4, 2) := by decide +kernel
theorem dMM_store_78 : decode prog_12_method_34_code 78 = .ok (.imul, 1) := by decide +kernel
theorem dMM_store_79 : decode prog_12_method_34_code 79 = .ok (.iload_n 2, 1) := by decide +kernel
theorem dMM_store_80 : decode prog_12_method_34_code 80 = .ok (.iadd, 1) := by decide +kernel
theorem dMM_store_81 : decode prog_12_method_34_code 81 = .ok (.dup2, 1) := by decide +kernel
theorem dMM_store_82 : decode prog_12_method_34_code 82 = .ok (.iaload, 1) := by decide +kernel
theorem dMM_store_83 : decode prog_12_method_34_code 83 = .ok (.iload 5, 2) := by decide +kernel
theorem dMM_store_85 : decode prog_12_method_34_code 85 = .ok (.isub, 1) := by decide +kernel
theorem dMM_store_86 : decode prog_12_method_34_code 86 = .ok (.iastore, 1) := by decide +kernel
theorem dMM_store_87 : decode prog_12_method_34_code 87 = .ok (.iload_n 3, 1) := by decide +kernel
theorem dMM_store_88 : decode prog_12_method_34_code 88 = .ok (.iload 5, 2) := by decide +kernel
theorem dMM_store_90 : decode prog_12_method_34_code 90 = .ok (.isub, 1) := by decide +kernel
theorem dMM_store_91 : decode prog_12_method_34_code 91 = .ok (.istore_n 3, 1) := by decide +kernel
theorem dMM_store_92 : decode prog_12_method_34_code 92 = .ok (.aload_n 0, 1) := by decide +kernel
theorem dMM_store_93 : decode prog_12_method_34_code 93 = .ok (.getfield 38, 3) := by decide +kernel
theorem dMM_store_96 : decode prog_12_method_34_code 96 = .ok (.aload_n 0, 1) := by decide +kernel
theorem dMM_store_97 : decode prog_12_method_34_code 97 = .ok (.getfield 42, 3) := by decide +kernel
theorem dMM_store_100 : decode prog_12_method_34_code 100 = .ok (.iload_n 1, 1) := by decide +kernel
theorem dMM_store_101 : decode prog_12_method_34_code 101 = .ok (.iaload, 1) := by decide +kernel
theorem dMM_store_102 : decode prog_12_method_34_code 102 = .ok (.dup2, 1) := by decide +kernel
theorem dMM_store_103 : decode prog_12_method_34_code 103 = .ok (.laload, 1) := by decide +kernel
theorem dMM_store_104 : decode prog_12_method_34_code 104 = .ok (.iload 5, 2) := by decide +kernel
theorem dMM_store_106 : decode prog_12_method_34_code 106 = .ok (.i2l, 1) := by decide +kernel
theorem dMM_store_107 : decode prog_12_method_34_code 107 = .ok (.aload_n 0, 1) := by decide +kernel
theorem dMM_store_108 : decode prog_12_method_34_code 108 = .ok (.getfield 202, 3) := by decide +kernel
theorem dMM_store_111 : decode prog_12_method_34_code 111 = .ok (.bipush 90, 2) := by decide +kernel
theorem dMM_store_113 : decode prog_12_method_34_code 113 = .ok (.iload 4, 2) := by decide +kernel
theorem dMM_store_115 : decode prog_12_method_34_code 115 = .ok (.iconst 1, 1) := by decide +kernel
theorem dMM_store_116 : decode prog_12_method_34_code 116 = .ok (.iadd, 1) := by decide +kernel
theorem dMM_store_117 : decode prog_12_method_34_code 117 = .ok (.imul, 1) := by decide +kernel
theorem dMM_store_118 : decode prog_12_method_34_code 118 = .ok (.isub, 1) := by decide +kernel
theorem dMM_store_119 : decode prog_12_method_34_code 119 = .ok (.i2l, 1) := by decide +kernel
theorem dMM_store_120 : decode prog_12_method_34_code 120 = .ok (.lmul, 1) := by decide +kernel
theorem dMM_store_121 : decode prog_12_method_34_code 121 = .ok (.ladd, 1) := by decide +kernel
theorem dMM_store_122 : decode prog_12_method_34_code 122 = .ok (.lastore, 1) := by decide +kernel
theorem dMM_store_123 : decode prog_12_method_34_code 123 = .ok (.iinc 4 1, 3) := by decide +kernel
theorem dMM_store_126 : decode prog_12_method_34_code 126 = .ok (.goto (-99), 3) := by decide +kernel
theorem dMM_store_129 : decode prog_12_method_34_code 129 = .ok (.aload_n 0, 1) := by decide +kernel
theorem dMM_store_130 : decode prog_12_method_34_code 130 = .ok (.getfield 64, 3) := by decide +kernel
theorem dMM_store_133 : decode prog_12_method_34_code 133 = .ok (.iload_n 1, 1) := by decide +kernel
theorem dMM_store_134 : decode prog_12_method_34_code 134 = .ok (.aload_n 0, 1) := by decide +kernel
theorem dMM_store_135 : decode prog_12_method_34_code 135 = .ok (.getfield 48, 3) := by decide +kernel
theorem dMM_store_138 : decode prog_12_method_34_code 138 = .ok (.iload_n 1, 1) := by decide +kernel
theorem dMM_store_139 : decode prog_12_method_34_code 139 = .ok (.iaload, 1) := by decide +kernel
theorem dMM_store_140 : decode prog_12_method_34_code 140 = .ok (.iload_n 3, 1) := by decide +kernel
theorem dMM_store_141 : decode prog_12_method_34_code 141 = .ok (.isub, 1) := by decide +kernel
theorem dMM_store_142 : decode prog_12_method_34_code 142 = .ok (.iastore, 1) := by decide +kernel
theorem dMM_store_143 : decode prog_12_method_34_code 143 = .ok (.aload_n 0, 1) := by decide +kernel
theorem dMM_store_144 : decode prog_12_method_34_code 144 = .ok (.getfield 35, 3) := by decide +kernel
theorem dMM_store_147 : decode prog_12_method_34_code 147 = .ok (.iload_n 2, 1) := by decide +kernel
theorem dMM_store_148 : decode prog_12_method_34_code 148 = .ok (.dup2, 1) := by decide +kernel
theorem dMM_store_149 : decode prog_12_method_34_code 149 = .ok (.iaload, 1) := by decide +kernel
theorem dMM_store_150 : decode prog_12_method_34_code 150 = .ok (.aload_n 0, 1) := by decide +kernel
theorem dMM_store_151 : decode prog_12_method_34_code 151 = .ok (.getfield 64, 3) := by decide +kernel
theorem dMM_store_154 : decode prog_12_method_34_code 154 = .ok (.iload_n 1, 1) := by decide +kernel
theorem dMM_store_155 : decode prog_12_method_34_code 155 = .ok (.iaload, 1) := by decide +kernel
theorem dMM_store_156 : decode prog_12_method_34_code 156 = .ok (.iadd, 1) := by decide +kernel
theorem dMM_store_157 : decode prog_12_method_34_code 157 = .ok (.iastore, 1) := by decide +kernel
theorem dMM_store_158 : decode prog_12_method_34_code 158 = .ok (.aload_n 0, 1) := by decide +kernel
theorem dMM_store_159 : decode prog_12_method_34_code 159 = .ok (.getfield 32, 3) := by decide +kernel
theorem dMM_store_162 : decode prog_12_method_34_code 162 = .ok (.iload_n 2, 1) := by decide +kernel
theorem dMM_store_163 : decode prog_12_method_34_code 163 = .ok (.dup2, 1) := by decide +kernel
theorem dMM_store_164 : decode prog_12_method_34_code 164 = .ok (.iaload, 1) := by decide +kernel
theorem dMM_store_165 : decode prog_12_method_34_code 165 = .ok (.iload_n 3, 1) := by decide +kernel
theorem dMM_store_166 : decode prog_12_method_34_code 166 = .ok (.iadd, 1) := by decide +kernel
theorem dMM_store_167 : decode prog_12_method_34_code 167 = .ok (.iastore, 1) := by decide +kernel
theorem dMM_store_168 : decode prog_12_method_34_code 168 = .ok (.aload_n 0, 1) := by decide +kernel
theorem dMM_store_169 : decode prog_12_method_34_code 169 = .ok (.getfield 60, 3) := by decide +kernel
theorem dMM_store_172 : decode prog_12_method_34_code 172 = .ok (.iload_n 1, 1) := by decide +kernel
theorem dMM_store_173 : decode prog_12_method_34_code 173 = .ok (.iconst 1, 1) := by decide +kernel
theorem dMM_store_174 : decode prog_12_method_34_code 174 = .ok (.bastore, 1) := by decide +kernel
theorem dMM_store_175 : decode prog_12_method_34_code 175 = .ok (.aload_n 0, 1) := by decide +kernel
theorem dMM_store_176 : decode prog_12_method_34_code 176 = .ok (.dup, 1) := by decide +kernel
theorem dMM_store_177 : decode prog_12_method_34_code 177 = .ok (.getfield 208, 3) := by decide +kernel
theorem dMM_store_180 : decode prog_12_method_34_code 180 = .ok (.aload_n 0, 1) := by decide +kernel
theorem dMM_store_181 : decode prog_12_method_34_code 181 = .ok (.getfield 48, 3) := by decide +kernel
theorem dMM_store_184 : decode prog_12_method_34_code 184 = .ok (.iload_n 1, 1) := by decide +kernel
theorem dMM_store_185 : decode prog_12_method_34_code 185 = .ok (.iaload, 1) := by decide +kernel
theorem dMM_store_186 : decode prog_12_method_34_code 186 = .ok (.iadd, 1) := by decide +kernel
theorem dMM_store_187 : decode prog_12_method_34_code 187 = .ok (.putfield 208, 3) := by decide +kernel
theorem dMM_store_190 : decode prog_12_method_34_code 190 = .ok (.aload_n 0, 1) := by decide +kernel
theorem dMM_store_191 : decode prog_12_method_34_code 191 = .ok (.getfield 67, 3) := by decide +kernel
theorem dMM_store_194 : decode prog_12_method_34_code 194 = .ok (.aload_n 0, 1) := by decide +kernel
theorem dMM_store_195 : decode prog_12_method_34_code 195 = .ok (.getfield 211, 3) := by decide +kernel
theorem dMM_store_198 : decode prog_12_method_34_code 198 = .ok (.iload_n 1, 1) := by decide +kernel
theorem dMM_store_199 : decode prog_12_method_34_code 199 = .ok (.iastore, 1) := by decide +kernel
theorem dMM_store_200 : decode prog_12_method_34_code 200 = .ok (.aload_n 0, 1) := by decide +kernel
theorem dMM_store_201 : decode prog_12_method_34_code 201 = .ok (.dup, 1) := by decide +kernel
theorem dMM_store_202 : decode prog_12_method_34_code 202 = .ok (.getfield 211, 3) := by decide +kernel
theorem dMM_store_205 : decode prog_12_method_34_code 205 = .ok (.iconst 1, 1) := by decide +kernel
theorem dMM_store_206 : decode prog_12_method_34_code 206 = .ok (.iadd, 1) := by decide +kernel
theorem dMM_store_207 : decode prog_12_method_34_code 207 = .ok (.putfield 211, 3) := by decide +kernel
theorem dMM_store_210 : decode prog_12_method_34_code 210 = .ok (.return_, 1) := by decide +kernel
theorem dMM_quarter_0 : decode prog_12_method_35_code 0 = .ok (.iconst 1, 1) := by decide +kernel
theorem dMM_quarter_1 : decode prog_12_method_35_code 1 = .ok (.istore_n 1, 1) := by decide +kernel
theorem dMM_quarter_2 : decode prog_12_method_35_code 2 = .ok (.iload_n 1, 1) := by decide +kernel
theorem dMM_quarter_3 : decode prog_12_method_35_code 3 = .ok (.bipush 16, 2) := by decide +kernel
theorem dMM_quarter_5 : decode prog_12_method_35_code 5 = .ok (.if_icmp .ge 103, 3) := by decide +kernel
theorem dMM_quarter_8 : decode prog_12_method_35_code 8 = .ok (.iconst 0, 1) := by decide +kernel
theorem dMM_quarter_9 : decode prog_12_method_35_code 9 = .ok (.istore_n 2, 1) := by decide +kernel
theorem dMM_quarter_10 : decode prog_12_method_35_code 10 = .ok (.iload_n 2, 1) := by decide +kernel
theorem dMM_quarter_11 : decode prog_12_method_35_code 11 = .ok (.bipush 6, 2) := by decide +kernel
theorem dMM_quarter_13 : decode prog_12_method_35_code 13 = .ok (.if_icmp .ge 89, 3) := by decide +kernel
theorem dMM_quarter_16 : decode prog_12_method_35_code 16 = .ok (.bipush 6, 2) := by decide +kernel
theorem dMM_quarter_18 : decode prog_12_method_35_code 18 = .ok (.iload_n 1, 1) := by decide +kernel
theorem dMM_quarter_19 : decode prog_12_method_35_code 19 = .ok (.imul, 1) := by decide +kernel
theorem dMM_quarter_20 : decode prog_12_method_35_code 20 = .ok (.iload_n 2, 1) := by decide +kernel
theorem dMM_quarter_21 : decode prog_12_method_35_code 21 = .ok (.iadd, 1) := by decide +kernel
theorem dMM_quarter_22 : decode prog_12_method_35_code 22 = .ok (.istore_n 3, 1) := by decide +kernel
theorem dMM_quarter_23 : decode prog_12_method_35_code 23 = .ok (.aload_n 0, 1) := by decide +kernel
theorem dMM_quarter_24 : decode prog_12_method_35_code 24 = .ok (.iload_n 1, 1) := by decide +kernel
theorem dMM_quarter_25 : decode prog_12_method_35_code 25 = .ok (.iload_n 2, 1) := by decide +kernel
theorem dMM_quarter_26 : decode prog_12_method_35_code 26 = .ok (.invokevirtual 192, 3) := by decide +kernel
theorem dMM_quarter_29 : decode prog_12_method_35_code 29 = .ok (.istore 4, 2) := by decide +kernel
theorem dMM_quarter_31 : decode prog_12_method_35_code 31 = .ok (.aload_n 0, 1) := by decide +kernel
theorem dMM_quarter_32 : decode prog_12_method_35_code 32 = .ok (.getfield 32, 3) := by decide +kernel
theorem dMM_quarter_35 : decode prog_12_method_35_code 35 = .ok (.iload_n 3, 1) := by decide +kernel
theorem dMM_quarter_36 : decode prog_12_method_35_code 36 = .ok (.iaload, 1) := by decide +kernel
theorem dMM_quarter_37 : decode prog_12_method_35_code 37 = .ok (.iload 4, 2) := by decide +kernel
theorem dMM_quarter_39 : decode prog_12_method_35_code 39 = .ok (.if_icmp .ge 12, 3) := by decide +kernel
theorem dMM_quarter_42 : decode prog_12_method_35_code 42 = .ok (.aload_n 0, 1) := by decide +kernel
theorem dMM_quarter_43 : decode prog_12_method_35_code 43 = .ok (.getfield 32, 3) := by decide +kernel
theorem dMM_quarter_46 : decode prog_12_method_35_code 46 = .ok (.iload_n 3, 1) := by decide +kernel
theorem dMM_quarter_47 : decode prog_12_method_35_code 47 = .ok (.iaload, 1) := by decide +kernel
theorem dMM_quarter_48 : decode prog_12_method_35_code 48 = .ok (.goto 5, 3) := by decide +kernel
theorem dMM_quarter_51 : decode prog_12_method_35_code 51 = .ok (.iload 4, 2) := by decide +kernel
theorem dMM_quarter_53 : decode prog_12_method_35_code 53 = .ok (.istore 5, 2) := by decide +kernel
theorem dMM_quarter_55 : decode prog_12_method_35_code 55 = .ok (.aload_n 0, 1) := by decide +kernel
theorem dMM_quarter_56 : decode prog_12_method_35_code 56 = .ok (.getfield 32, 3) := by decide +kernel
theorem dMM_quarter_59 : decode prog_12_method_35_code 59 = .ok (.iload_n 3, 1) := by decide +kernel
theorem dMM_quarter_60 : decode prog_12_method_35_code 60 = .ok (.dup2, 1) := by decide +kernel
theorem dMM_quarter_61 : decode prog_12_method_35_code 61 = .ok (.iaload, 1) := by decide +kernel
theorem dMM_quarter_62 : decode prog_12_method_35_code 62 = .ok (.iload 5, 2) := by decide +kernel
theorem dMM_quarter_64 : decode prog_12_method_35_code 64 = .ok (.isub, 1) := by decide +kernel
theorem dMM_quarter_65 : decode prog_12_method_35_code 65 = .ok (.iastore, 1) := by decide +kernel
theorem dMM_quarter_66 : decode prog_12_method_35_code 66 = .ok (.aload_n 0, 1) := by decide +kernel
theorem dMM_quarter_67 : decode prog_12_method_35_code 67 = .ok (.getfield 35, 3) := by decide +kernel
theorem dMM_quarter_70 : decode prog_12_method_35_code 70 = .ok (.iload_n 3, 1) := by decide +kernel
theorem dMM_quarter_71 : decode prog_12_method_35_code 71 = .ok (.dup2, 1) := by decide +kernel
theorem dMM_quarter_72 : decode prog_12_method_35_code 72 = .ok (.iaload, 1) := by decide +kernel
theorem dMM_quarter_73 : decode prog_12_method_35_code 73 = .ok (.iload 5, 2) := by decide +kernel
theorem dMM_quarter_75 : decode prog_12_method_35_code 75 = .ok (.iadd, 1) := by decide +kernel
theorem dMM_quarter_76 : decode prog_12_method_35_code 76 = .ok (.iastore, 1) := by decide +kernel
theorem dMM_quarter_77 : decode prog_12_method_35_code 77 = .ok (.aload_n 0, 1) := by decide +kernel
theorem dMM_quarter_78 : decode prog_12_method_35_code 78 = .ok (.getfield 29, 3) := by decide +kernel
theorem dMM_quarter_81 : decode prog_12_method_35_code 81 = .ok (.bipush 96, 2) := by decide +kernel
theorem dMM_quarter_83 : decode prog_12_method_35_code 83 = .ok (.aload_n 0, 1) := by decide +kernel
theorem dMM_quarter_84 : decode prog_12_method_35_code 84 = .ok (.getfield 205, 3) := by decide +kernel
theorem dMM_quarter_87 : decode prog_12_method_35_code 87 = .ok (.imul, 1) := by decide +kernel
theorem dMM_quarter_88 : decode prog_12_method_35_code 88 = .ok (.iload_n 3, 1) := by decide +kernel
theorem dMM_quarter_89 : decode prog_12_method_35_code 89 = .ok (.iadd, 1) := by decide +kernel
theorem dMM_quarter_90 : decode prog_12_method_35_code 90 = .ok (.iload 4, 2) := by decide +kernel
theorem dMM_quarter_92 : decode prog_12_method_35_code 92 = .ok (.iload 5, 2) := by decide +kernel
theorem dMM_quarter_94 : decode prog_12_method_35_code 94 = .ok (.isub, 1) := by decide +kernel
theorem dMM_quarter_95 : decode prog_12_method_35_code 95 = .ok (.iastore, 1) := by decide +kernel
theorem dMM_quarter_96 : decode prog_12_method_35_code 96 = .ok (.iinc 2 1, 3) := by decide +kernel
theorem dMM_quarter_99 : decode prog_12_method_35_code 99 = .ok (.goto (-89), 3) := by decide +kernel
theorem dMM_quarter_102 : decode prog_12_method_35_code 102 = .ok (.iinc 1 1, 3) := by decide +kernel
theorem dMM_quarter_105 : decode prog_12_method_35_code 105 = .ok (.goto (-103), 3) := by decide +kernel
theorem dMM_quarter_108 : decode prog_12_method_35_code 108 = .ok (.aload_n 0, 1) := by decide +kernel
theorem dMM_quarter_109 : decode prog_12_method_35_code 109 = .ok (.dup, 1) := by decide +kernel
theorem dMM_quarter_110 : decode prog_12_method_35_code 110 = .ok (.getfield 205, 3) := by decide +kernel
theorem dMM_quarter_113 : decode prog_12_method_35_code 113 = .ok (.iconst 1, 1) := by decide +kernel
theorem dMM_quarter_114 : decode prog_12_method_35_code 114 = .ok (.iadd, 1) := by decide +kernel
theorem dMM_quarter_115 : decode prog_12_method_35_code 115 = .ok (.putfield 205, 3) := by decide +kernel
theorem dMM_quarter_118 : decode prog_12_method_35_code 118 = .ok (.return_, 1) := by decide +kernel
theorem dMM_days_0 : decode prog_12_method_36_code 0 = .ok (.iload_n 1, 1) := by decide +kernel
theorem dMM_days_1 : decode prog_12_method_36_code 1 = .ok (.iconst 1, 1) := by decide +kernel
theorem dMM_days_2 : decode prog_12_method_36_code 2 = .ok (.bipush 100, 2) := by decide +kernel
theorem dMM_days_4 : decode prog_12_method_36_code 4 = .ok (.invokestatic 109, 3) := by decide +kernel
theorem dMM_days_7 : decode prog_12_method_36_code 7 = .ok (.ifCond .eq 15, 3) := by decide +kernel
theorem dMM_days_10 : decode prog_12_method_36_code 10 = .ok (.aload_n 0, 1) := by decide +kernel
theorem dMM_days_11 : decode prog_12_method_36_code 11 = .ok (.getfield 202, 3) := by decide +kernel
theorem dMM_days_14 : decode prog_12_method_36_code 14 = .ok (.iload_n 1, 1) := by decide +kernel
theorem dMM_days_15 : decode prog_12_method_36_code 15 = .ok (.iadd, 1) := by decide +kernel
theorem dMM_days_16 : decode prog_12_method_36_code 16 = .ok (.sipush 3000, 3) := by decide +kernel
theorem dMM_days_19 : decode prog_12_method_36_code 19 = .ok (.if_icmp .le 5, 3) := by decide +kernel
theorem dMM_days_22 : decode prog_12_method_36_code 22 = .ok (.iconst (-1), 1) := by decide +kernel
theorem dMM_days_23 : decode prog_12_method_36_code 23 = .ok (.ireturn, 1) := by decide +kernel
theorem dMM_days_24 : decode prog_12_method_36_code 24 = .ok (.iconst 0, 1) := by decide +kernel
theorem dMM_days_25 : decode prog_12_method_36_code 25 = .ok (.istore_n 2, 1) := by decide +kernel
theorem dMM_days_26 : decode prog_12_method_36_code 26 = .ok (.iload_n 2, 1) := by decide +kernel
theorem dMM_days_27 : decode prog_12_method_36_code 27 = .ok (.iload_n 1, 1) := by decide +kernel
theorem dMM_days_28 : decode prog_12_method_36_code 28 = .ok (.if_icmp .ge 76, 3) := by decide +kernel
theorem dMM_days_31 : decode prog_12_method_36_code 31 = .ok (.aload_n 0, 1) := by decide +kernel
theorem dMM_days_32 : decode prog_12_method_36_code 32 = .ok (.dup, 1) := by decide +kernel
theorem dMM_days_33 : decode prog_12_method_36_code 33 = .ok (.getfield 202, 3) := by decide +kernel
theorem dMM_days_36 : decode prog_12_method_36_code 36 = .ok (.iconst 1, 1) := by decide +kernel
theorem dMM_days_37 : decode prog_12_method_36_code 37 = .ok (.iadd, 1) := by decide +kernel
theorem dMM_days_38 : decode prog_12_method_36_code 38 = .ok (.putfield 202, 3) := by decide +kernel
theorem dMM_days_41 : decode prog_12_method_36_code 41 = .ok (.iconst 0, 1) := by decide +kernel
theorem dMM_days_42 : decode prog_12_method_36_code 42 = .ok (.istore_n 3, 1) := by decide +kernel
theorem dMM_days_43 : decode prog_12_method_36_code 43 = .ok (.iload_n 3, 1) := by decide +kernel
theorem dMM_days_44 : decode prog_12_method_36_code 44 = .ok (.aload_n 0, 1) := by decide +kernel
theorem dMM_days_45 : decode prog_12_method_36_code 45 = .ok (.getfield 199, 3) := by decide +kernel
theorem dMM_days_48 : decode prog_12_method_36_code 48 = .ok (.if_icmp .ge 36, 3) := by decide +kernel
theorem dMM_days_51 : decode prog_12_method_36_code 51 = .ok (.aload_n 0, 1) := by decide +kernel
theorem dMM_days_52 : decode prog_12_method_36_code 52 = .ok (.getfield 60, 3) := by decide +kernel
theorem dMM_days_55 : decode prog_12_method_36_code 55 = .ok (.iload_n 3, 1) := by decide +kernel
theorem dMM_days_56 : decode prog_12_method_36_code 56 = .ok (.baload, 1) := by decide +kernel
theorem dMM_days_57 : decode prog_12_method_36_code 57 = .ok (.ifCond .ne 21, 3) := by decide +kernel
theorem dMM_days_60 : decode prog_12_method_36_code 60 = .ok (.aload_n 0, 1) := by decide +kernel
theorem dMM_days_61 : decode prog_12_method_36_code 61 = .ok (.getfield 57, 3) := by decide +kernel
theorem dMM_days_64 : decode prog_12_method_36_code 64 = .ok (.iload_n 3, 1) := by decide +kernel
theorem dMM_days_65 : decode prog_12_method_36_code 65 = .ok (.iaload, 1) := by decide +kernel
theorem dMM_days_66 : decode prog_12_method_36_code 66 = .ok (.aload_n 0, 1) := by decide +kernel
theorem dMM_days_67 : decode prog_12_method_36_code 67 = .ok (.getfield 202, 3) := by decide +kernel
theorem dMM_days_70 : decode prog_12_method_36_code 70 = .ok (.if_icmp .ne 8, 3) := by decide +kernel
theorem dMM_days_73 : decode prog_12_method_36_code 73 = .ok (.aload_n 0, 1) := by decide +kernel
theorem dMM_days_74 : decode prog_12_method_36_code 74 = .ok (.iload_n 3, 1) := by decide +kernel
theorem dMM_days_75 : decode prog_12_method_36_code 75 = .ok (.invokevirtual 214, 3) := by decide +kernel
theorem dMM_days_78 : decode prog_12_method_36_code 78 = .ok (.iinc 3 1, 3) := by decide +kernel
theorem dMM_days_81 : decode prog_12_method_36_code 81 = .ok (.goto (-38), 3) := by decide +kernel
theorem dMM_days_84 : decode prog_12_method_36_code 84 = .ok (.aload_n 0, 1) := by decide +kernel
theorem dMM_days_85 : decode prog_12_method_36_code 85 = .ok (.getfield 202, 3) := by decide +kernel
theorem dMM_days_88 : decode prog_12_method_36_code 88 = .ok (.bipush 90, 2) := by decide +kernel
theorem dMM_days_90 : decode prog_12_method_36_code 90 = .ok (.irem, 1) := by decide +kernel
theorem dMM_days_91 : decode prog_12_method_36_code 91 = .ok (.ifCond .ne 7, 3) := by decide +kernel
theorem dMM_days_94 : decode prog_12_method_36_code 94 = .ok (.aload_n 0, 1) := by decide +kernel
theorem dMM_days_95 : decode prog_12_method_36_code 95 = .ok (.invokevirtual 217, 3) := by decide +kernel
theorem dMM_days_98 : decode prog_12_method_36_code 98 = .ok (.iinc 2 1, 3) := by decide +kernel
theorem dMM_days_101 : decode prog_12_method_36_code 101 = .ok (.goto (-75), 3) := by decide +kernel
theorem dMM_days_104 : decode prog_12_method_36_code 104 = .ok (.aload_n 0, 1) := by decide +kernel
theorem dMM_days_105 : decode prog_12_method_36_code 105 = .ok (.getfield 202, 3) := by decide +kernel
theorem dMM_days_108 : decode prog_12_method_36_code 108 = .ok (.ireturn, 1) := by decide +kernel
theorem dMM_account_0 : decode prog_12_method_37_code 0 = .ok (.iload_n 1, 1) := by decide +kernel
theorem dMM_account_1 : decode prog_12_method_37_code 1 = .ok (.invokestatic 160, 3) := by decide +kernel
theorem dMM_account_4 : decode prog_12_method_37_code 4 = .ok (.ifCond .eq 10, 3) := by decide +kernel
theorem dMM_account_7 : decode prog_12_method_37_code 7 = .ok (.iload_n 2, 1) := by decide +kernel
theorem dMM_account_8 : decode prog_12_method_37_code 8 = .ok (.invokestatic 122, 3) := by decide +kernel
theorem dMM_account_11 : decode prog_12_method_37_code 11 = .ok (.ifCond .ne 5, 3) := by decide +kernel
theorem dMM_account_14 : decode prog_12_method_37_code 14 = .ok (.iconst (-1), 1) := by decide +kernel
theorem dMM_account_15 : decode prog_12_method_37_code 15 = .ok (.ireturn, 1) := by decide +kernel
theorem dMM_account_16 : decode prog_12_method_37_code 16 = .ok (.bipush 6, 2) := by decide +kernel
theorem dMM_account_18 : decode prog_12_method_37_code 18 = .ok (.iload_n 1, 1) := by decide +kernel
theorem dMM_account_19 : decode prog_12_method_37_code 19 = .ok (.imul, 1) := by decide +kernel
theorem dMM_account_20 : decode prog_12_method_37_code 20 = .ok (.iload_n 2, 1) := by decide +kernel
theorem dMM_account_21 : decode prog_12_method_37_code 21 = .ok (.iadd, 1) := by decide +kernel
theorem dMM_account_22 : decode prog_12_method_37_code 22 = .ok (.istore 4, 2) := by decide +kernel
theorem dMM_account_24 : decode prog_12_method_37_code 24 = .ok (.iconst 0, 1) := by decide +kernel
theorem dMM_account_25 : decode prog_12_method_37_code 25 = .ok (.istore 5, 2) := by decide +kernel
theorem dMM_account_27 : decode prog_12_method_37_code 27 = .ok (.iconst (-1), 1) := by decide +kernel
theorem dMM_account_28 : decode prog_12_method_37_code 28 = .ok (.istore 6, 2) := by decide +kernel
theorem dMM_account_30 : decode prog_12_method_37_code 30 = .ok (.aload_n 0, 1) := by decide +kernel
theorem dMM_account_31 : decode prog_12_method_37_code 31 = .ok (.getfield 205, 3) := by decide +kernel
theorem dMM_account_34 : decode prog_12_method_37_code 34 = .ok (.iconst 1, 1) := by decide +kernel
theorem dMM_account_35 : decode prog_12_method_37_code 35 = .ok (.isub, 1) := by decide +kernel
theorem dMM_account_36 : decode prog_12_method_37_code 36 = .ok (.istore 7, 2) := by decide +kernel
theorem dMM_account_38 : decode prog_12_method_37_code 38 = .ok (.iload 7, 2) := by decide +kernel
theorem dMM_account_40 : decode prog_12_method_37_code 40 = .ok (.ifCond .lt 47, 3) := by decide +kernel
theorem dMM_account_43 : decode prog_12_method_37_code 43 = .ok (.iload 5, 2) := by decide +kernel
theorem dMM_account_45 : decode prog_12_method_37_code 45 = .ok (.aload_n 0, 1) := by decide +kernel
theorem dMM_account_46 : decode prog_12_method_37_code 46 = .ok (.getfield 29, 3) := by decide +kernel
theorem dMM_account_49 : decode prog_12_method_37_code 49 = .ok (.bipush 96, 2) := by decide +kernel
theorem dMM_account_51 : decode prog_12_method_37_code 51 = .ok (.iload 7, 2) := by decide +kernel
theorem dMM_account_53 : decode prog_12_method_37_code 53 = .ok (.imul, 1) := by decide +kernel
theorem dMM_account_54 : decode prog_12_method_37_code 54 = .ok (.iload 4, 2) := by decide +kernel
theorem dMM_account_56 : decode prog_12_method_37_code 56 = .ok (.iadd, 1) := by decide +kernel
theorem dMM_account_57 : decode prog_12_method_37_code 57 = .ok (.iaload, 1) := by decide +kernel
theorem dMM_account_58 : decode prog_12_method_37_code 58 = .ok (.iadd, 1) := by decide +kernel
theorem dMM_account_59 : decode prog_12_method_37_code 59 = .ok (.istore 5, 2) := by decide +kernel
theorem dMM_account_61 : decode prog_12_method_37_code 61 = .ok (.aload_n 0, 1) := by decide +kernel
theorem dMM_account_62 : decode prog_12_method_37_code 62 = .ok (.getfield 29, 3) := by decide +kernel
theorem dMM_account_65 : decode prog_12_method_37_code 65 = .ok (.bipush 96, 2) := by decide +kernel
theorem dMM_account_67 : decode prog_12_method_37_code 67 = .ok (.iload 7, 2) := by decide +kernel
theorem dMM_account_69 : decode prog_12_method_37_code 69 = .ok (.imul, 1) := by decide +kernel
theorem dMM_account_70 : decode prog_12_method_37_code 70 = .ok (.iload 4, 2) := by decide +kernel
theorem dMM_account_72 : decode prog_12_method_37_code 72 = .ok (.iadd, 1) := by decide +kernel
theorem dMM_account_73 : decode prog_12_method_37_code 73 = .ok (.iaload, 1) := by decide +kernel
theorem dMM_account_74 : decode prog_12_method_37_code 74 = .ok (.ifCond .le 7, 3) := by decide +kernel
theorem dMM_account_77 : decode prog_12_method_37_code 77 = .ok (.iload 7, 2) := by decide +kernel
theorem dMM_account_79 : decode prog_12_method_37_code 79 = .ok (.istore 6, 2) := by decide +kernel
theorem dMM_account_81 : decode prog_12_method_37_code 81 = .ok (.iinc 7 (-1), 3) := by decide +kernel
theorem dMM_account_84 : decode prog_12_method_37_code 84 = .ok (.goto (-46), 3) := by decide +kernel
theorem dMM_account_87 : decode prog_12_method_37_code 87 = .ok (.iload_n 3, 1) := by decide +kernel
theorem dMM_account_88 : decode prog_12_method_37_code 88 = .ok (.ifCond .ne 8, 3) := by decide +kernel
theorem dMM_account_91 : decode prog_12_method_37_code 91 = .ok (.iload 5, 2) := by decide +kernel
theorem dMM_account_93 : decode prog_12_method_37_code 93 = .ok (.goto 44, 3) := by decide +kernel
theorem dMM_account_96 : decode prog_12_method_37_code 96 = .ok (.iload_n 3, 1) := by decide +kernel
theorem dMM_account_97 : decode prog_12_method_37_code 97 = .ok (.iconst 1, 1) := by decide +kernel
theorem dMM_account_98 : decode prog_12_method_37_code 98 = .ok (.if_icmp .ne 13, 3) := by decide +kernel
theorem dMM_account_101 : decode prog_12_method_37_code 101 = .ok (.aload_n 0, 1) := by decide +kernel
theorem dMM_account_102 : decode prog_12_method_37_code 102 = .ok (.getfield 32, 3) := by decide +kernel
theorem dMM_account_105 : decode prog_12_method_37_code 105 = .ok (.iload 4, 2) := by decide +kernel
theorem dMM_account_107 : decode prog_12_method_37_code 107 = .ok (.iaload, 1) := by decide +kernel
theorem dMM_account_108 : decode prog_12_method_37_code 108 = .ok (.goto 29, 3) := by decide +kernel
theorem dMM_account_111 : decode prog_12_method_37_code 111 = .ok (.iload_n 3, 1) := by decide +kernel
theorem dMM_account_112 : decode prog_12_method_37_code 112 = .ok (.iconst 2, 1) := by decide +kernel
theorem dMM_account_113 : decode prog_12_method_37_code 113 = .ok (.if_icmp .ne 8, 3) := by decide +kernel
theorem dMM_account_116 : decode prog_12_method_37_code 116 = .ok (.iload 6, 2) := by decide +kernel
theorem dMM_account_118 : decode prog_12_method_37_code 118 = .ok (.goto 19, 3) := by decide +kernel
theorem dMM_account_121 : decode prog_12_method_37_code 121 = .ok (.iload_n 3, 1) := by decide +kernel
theorem dMM_account_122 : decode prog_12_method_37_code 122 = .ok (.iconst 3, 1) := by decide +kernel
theorem dMM_account_123 : decode prog_12_method_37_code 123 = .ok (.if_icmp .ne 13, 3) := by decide +kernel
theorem dMM_account_126 : decode prog_12_method_37_code 126 = .ok (.aload_n 0, 1) := by decide +kernel
theorem dMM_account_127 : decode prog_12_method_37_code 127 = .ok (.getfield 35, 3) := by decide +kernel
theorem dMM_account_130 : decode prog_12_method_37_code 130 = .ok (.iload 4, 2) := by decide +kernel
theorem dMM_account_132 : decode prog_12_method_37_code 132 = .ok (.iaload, 1) := by decide +kernel
theorem dMM_account_133 : decode prog_12_method_37_code 133 = .ok (.goto 4, 3) := by decide +kernel
theorem dMM_account_136 : decode prog_12_method_37_code 136 = .ok (.iconst (-1), 1) := by decide +kernel
theorem dMM_account_137 : decode prog_12_method_37_code 137 = .ok (.ireturn, 1) := by decide +kernel
theorem dMM_late_0 : decode prog_12_method_38_code 0 = .ok (.iload_n 1, 1) := by decide +kernel
theorem dMM_late_1 : decode prog_12_method_38_code 1 = .ok (.invokestatic 160, 3) := by decide +kernel
theorem dMM_late_4 : decode prog_12_method_38_code 4 = .ok (.ifCond .ne 7, 3) := by decide +kernel
theorem dMM_late_7 : decode prog_12_method_38_code 7 = .ok (.ldc2_w 220, 3) := by decide +kernel
theorem dMM_late_10 : decode prog_12_method_38_code 10 = .ok (.lreturn, 1) := by decide +kernel
theorem dMM_late_11 : decode prog_12_method_38_code 11 = .ok (.aload_n 0, 1) := by decide +kernel
theorem dMM_late_12 : decode prog_12_method_38_code 12 = .ok (.getfield 38, 3) := by decide +kernel
theorem dMM_late_15 : decode prog_12_method_38_code 15 = .ok (.iload_n 1, 1) := by decide +kernel
theorem dMM_late_16 : decode prog_12_method_38_code 16 = .ok (.laload, 1) := by decide +kernel
theorem dMM_late_17 : decode prog_12_method_38_code 17 = .ok (.lstore_n 2, 1) := by decide +kernel
theorem dMM_late_18 : decode prog_12_method_38_code 18 = .ok (.iconst 0, 1) := by decide +kernel
theorem dMM_late_19 : decode prog_12_method_38_code 19 = .ok (.istore 4, 2) := by decide +kernel
theorem dMM_late_21 : decode prog_12_method_38_code 21 = .ok (.iload 4, 2) := by decide +kernel
theorem dMM_late_23 : decode prog_12_method_38_code 23 = .ok (.aload_n 0, 1) := by decide +kernel
theorem dMM_late_24 : decode prog_12_method_38_code 24 = .ok (.getfield 205, 3) := by decide +kernel
theorem dMM_late_27 : decode prog_12_method_38_code 27 = .ok (.if_icmp .ge 61, 3) := by decide +kernel
theorem dMM_late_30 : decode prog_12_method_38_code 30 = .ok (.iconst 0, 1) := by decide +kernel
theorem dMM_late_31 : decode prog_12_method_38_code 31 = .ok (.istore 5, 2) := by decide +kernel
theorem dMM_late_33 : decode prog_12_method_38_code 33 = .ok (.iload 5, 2) := by decide +kernel
theorem dMM_late_35 : decode prog_12_method_38_code 35 = .ok (.bipush 6, 2) := by decide +kernel
theorem dMM_late_37 : decode prog_12_method_38_code 37 = .ok (.if_icmp .ge 45, 3) := by decide +kernel
theorem dMM_late_40 : decode prog_12_method_38_code 40 = .ok (.lload_n 2, 1) := by decide +kernel
theorem dMM_late_41 : decode prog_12_method_38_code 41 = .ok (.aload_n 0, 1) := by decide +kernel
theorem dMM_late_42 : decode prog_12_method_38_code 42 = .ok (.getfield 29, 3) := by decide +kernel
theorem dMM_late_45 : decode prog_12_method_38_code 45 = .ok (.bipush 96, 2) := by decide +kernel
theorem dMM_late_47 : decode prog_12_method_38_code 47 = .ok (.iload 4, 2) := by decide +kernel
theorem dMM_late_49 : decode prog_12_method_38_code 49 = .ok (.imul, 1) := by decide +kernel
theorem dMM_late_50 : decode prog_12_method_38_code 50 = .ok (.bipush 6, 2) := by decide +kernel
theorem dMM_late_52 : decode prog_12_method_38_code 52 = .ok (.iload_n 1, 1) := by decide +kernel
theorem dMM_late_53 : decode prog_12_method_38_code 53 = .ok (.imul, 1) := by decide +kernel
theorem dMM_late_54 : decode prog_12_method_38_code 54 = .ok (.iadd, 1) := by decide +kernel
theorem dMM_late_55 : decode prog_12_method_38_code 55 = .ok (.iload 5, 2) := by decide +kernel
theorem dMM_late_57 : decode prog_12_method_38_code 57 = .ok (.iadd, 1) := by decide +kernel
theorem dMM_late_58 : decode prog_12_method_38_code 58 = .ok (.iaload, 1) := by decide +kernel
theorem dMM_late_59 : decode prog_12_method_38_code 59 = .ok (.i2l, 1) := by decide +kernel
theorem dMM_late_60 : decode prog_12_method_38_code 60 = .ok (.aload_n 0, 1) := by decide +kernel
theorem dMM_late_61 : decode prog_12_method_38_code 61 = .ok (.getfield 202, 3) := by decide +kernel
theorem dMM_late_64 : decode prog_12_method_38_code 64 = .ok (.bipush 90, 2) := by decide +kernel
theorem dMM_late_66 : decode prog_12_method_38_code 66 = .ok (.iload 4, 2) := by decide +kernel
theorem dMM_late_68 : decode prog_12_method_38_code 68 = .ok (.iconst 1, 1) := by decide +kernel
theorem dMM_late_69 : decode prog_12_method_38_code 69 = .ok (.iadd, 1) := by decide +kernel
theorem dMM_late_70 : decode prog_12_method_38_code 70 = .ok (.imul, 1) := by decide +kernel
theorem dMM_late_71 : decode prog_12_method_38_code 71 = .ok (.isub, 1) := by decide +kernel
theorem dMM_late_72 : decode prog_12_method_38_code 72 = .ok (.i2l, 1) := by decide +kernel
theorem dMM_late_73 : decode prog_12_method_38_code 73 = .ok (.lmul, 1) := by decide +kernel
theorem dMM_late_74 : decode prog_12_method_38_code 74 = .ok (.ladd, 1) := by decide +kernel
theorem dMM_late_75 : decode prog_12_method_38_code 75 = .ok (.lstore_n 2, 1) := by decide +kernel
theorem dMM_late_76 : decode prog_12_method_38_code 76 = .ok (.iinc 5 1, 3) := by decide +kernel
theorem dMM_late_79 : decode prog_12_method_38_code 79 = .ok (.goto (-46), 3) := by decide +kernel
theorem dMM_late_82 : decode prog_12_method_38_code 82 = .ok (.iinc 4 1, 3) := by decide +kernel
theorem dMM_late_85 : decode prog_12_method_38_code 85 = .ok (.goto (-64), 3) := by decide +kernel
theorem dMM_late_88 : decode prog_12_method_38_code 88 = .ok (.lload_n 2, 1) := by decide +kernel
theorem dMM_late_89 : decode prog_12_method_38_code 89 = .ok (.lreturn, 1) := by decide +kernel
theorem dMM_piece_0 : decode prog_12_method_39_code 0 = .ok (.iload_n 1, 1) := by decide +kernel
theorem dMM_piece_1 : decode prog_12_method_39_code 1 = .ok (.iconst 0, 1) := by decide +kernel
theorem dMM_piece_2 : decode prog_12_method_39_code 2 = .ok (.aload_n 0, 1) := by decide +kernel
theorem dMM_piece_3 : decode prog_12_method_39_code 3 = .ok (.getfield 208, 3) := by decide +kernel
theorem dMM_piece_6 : decode prog_12_method_39_code 6 = .ok (.iconst 1, 1) := by decide +kernel
theorem dMM_piece_7 : decode prog_12_method_39_code 7 = .ok (.isub, 1) := by decide +kernel
theorem dMM_piece_8 : decode prog_12_method_39_code 8 = .ok (.invokestatic 109, 3) := by decide +kernel
theorem dMM_piece_11 : decode prog_12_method_39_code 11 = .ok (.ifCond .ne 5, 3) := by decide +kernel
theorem dMM_piece_14 : decode prog_12_method_39_code 14 = .ok (.iconst (-1), 1) := by decide +kernel
theorem dMM_piece_15 : decode prog_12_method_39_code 15 = .ok (.ireturn, 1) := by decide +kernel
theorem dMM_piece_16 : decode prog_12_method_39_code 16 = .ok (.iload_n 1, 1) := by decide +kernel
theorem dMM_piece_17 : decode prog_12_method_39_code 17 = .ok (.istore_n 2, 1) := by decide +kernel
theorem dMM_piece_18 : decode prog_12_method_39_code 18 = .ok (.iconst 0, 1) := by decide +kernel
theorem dMM_piece_19 : decode prog_12_method_39_code 19 = .ok (.istore_n 3, 1) := by decide +kernel
theorem dMM_piece_20 : decode prog_12_method_39_code 20 = .ok (.iload_n 2, 1) := by decide +kernel
theorem dMM_piece_21 : decode prog_12_method_39_code 21 = .ok (.aload_n 0, 1) := by decide +kernel
theorem dMM_piece_22 : decode prog_12_method_39_code 22 = .ok (.getfield 48, 3) := by decide +kernel
theorem dMM_piece_25 : decode prog_12_method_39_code 25 = .ok (.aload_n 0, 1) := by decide +kernel
theorem dMM_piece_26 : decode prog_12_method_39_code 26 = .ok (.getfield 67, 3) := by decide +kernel
theorem dMM_piece_29 : decode prog_12_method_39_code 29 = .ok (.iload_n 3, 1) := by decide +kernel
theorem dMM_piece_30 : decode prog_12_method_39_code 30 = .ok (.iaload, 1) := by decide +kernel
theorem dMM_piece_31 : decode prog_12_method_39_code 31 = .ok (.iaload, 1) := by decide +kernel
theorem dMM_piece_32 : decode prog_12_method_39_code 32 = .ok (.if_icmp .lt 23, 3) := by decide +kernel
theorem dMM_piece_35 : decode prog_12_method_39_code 35 = .ok (.iload_n 2, 1) := by decide +kernel
theorem dMM_piece_36 : decode prog_12_method_39_code 36 = .ok (.aload_n 0, 1) := by decide +kernel
theorem dMM_piece_37 : decode prog_12_method_39_code 37 = .ok (.getfield 48, 3) := by decide +kernel
theorem dMM_piece_40 : decode prog_12_method_39_code 40 = .ok (.aload_n 0, 1) := by decide +kernel
theorem dMM_piece_41 : decode prog_12_method_39_code 41 = .ok (.getfield 67, 3) := by decide +kernel
theorem dMM_piece_44 : decode prog_12_method_39_code 44 = .ok (.iload_n 3, 1) := by decide +kernel
theorem dMM_piece_45 : decode prog_12_method_39_code 45 = .ok (.iaload, 1) := by decide +kernel
theorem dMM_piece_46 : decode prog_12_method_39_code 46 = .ok (.iaload, 1) := by decide +kernel
theorem dMM_piece_47 : decode prog_12_method_39_code 47 = .ok (.isub, 1) := by decide +kernel
theorem dMM_piece_48 : decode prog_12_method_39_code 48 = .ok (.istore_n 2, 1) := by decide +kernel
theorem dMM_piece_49 : decode prog_12_method_39_code 49 = .ok (.iinc 3 1, 3) := by decide +kernel
theorem dMM_piece_52 : decode prog_12_method_39_code 52 = .ok (.goto (-32), 3) := by decide +kernel
theorem dMM_piece_55 : decode prog_12_method_39_code 55 = .ok (.aload_n 0, 1) := by decide +kernel
theorem dMM_piece_56 : decode prog_12_method_39_code 56 = .ok (.getfield 67, 3) := by decide +kernel
theorem dMM_piece_59 : decode prog_12_method_39_code 59 = .ok (.iload_n 3, 1) := by decide +kernel
theorem dMM_piece_60 : decode prog_12_method_39_code 60 = .ok (.iaload, 1) := by decide +kernel
theorem dMM_piece_61 : decode prog_12_method_39_code 61 = .ok (.ireturn, 1) := by decide +kernel
theorem dMM_market_0 : decode prog_12_method_40_code 0 = .ok (.iload_n 1, 1) := by decide +kernel
theorem dMM_market_1 : decode prog_12_method_40_code 1 = .ok (.invokestatic 122, 3) := by decide +kernel
theorem dMM_market_4 : decode prog_12_method_40_code 4 = .ok (.ifCond .eq 45, 3) := by decide +kernel
theorem dMM_market_7 : decode prog_12_method_40_code 7 = .ok (.iload_n 3, 1) := by decide +kernel
theorem dMM_market_8 : decode prog_12_method_40_code 8 = .ok (.invokestatic 122, 3) := by decide +kernel
theorem dMM_market_11 : decode prog_12_method_40_code 11 = .ok (.ifCond .eq 38, 3) := by decide +kernel
theorem dMM_market_14 : decode prog_12_method_40_code 14 = .ok (.iload_n 1, 1) := by decide +kernel
theorem dMM_market_15 : decode prog_12_method_40_code 15 = .ok (.iload_n 3, 1) := by decide +kernel
theorem dMM_market_16 : decode prog_12_method_40_code 16 = .ok (.if_icmp .eq 33, 3) := by decide +kernel
theorem dMM_market_19 : decode prog_12_method_40_code 19 = .ok (.iload_n 2, 1) := by decide +kernel
theorem dMM_market_20 : decode prog_12_method_40_code 20 = .ok (.iconst 1, 1) := by decide +kernel
theorem dMM_market_21 : decode prog_12_method_40_code 21 = .ok (.bipush 99, 2) := by decide +kernel
theorem dMM_market_23 : decode prog_12_method_40_code 23 = .ok (.invokestatic 109, 3) := by decide +kernel
theorem dMM_market_26 : decode prog_12_method_40_code 26 = .ok (.ifCond .eq 23, 3) := by decide +kernel
theorem dMM_market_29 : decode prog_12_method_40_code 29 = .ok (.iload 4, 2) := by decide +kernel
theorem dMM_market_31 : decode prog_12_method_40_code 31 = .ok (.iconst 1, 1) := by decide +kernel
theorem dMM_market_32 : decode prog_12_method_40_code 32 = .ok (.bipush 99, 2) := by decide +kernel
theorem dMM_market_34 : decode prog_12_method_40_code 34 = .ok (.invokestatic 109, 3) := by decide +kernel
theorem dMM_market_37 : decode prog_12_method_40_code 37 = .ok (.ifCond .eq 12, 3) := by decide +kernel
theorem dMM_market_40 : decode prog_12_method_40_code 40 = .ok (.aload_n 0, 1) := by decide +kernel
theorem dMM_market_41 : decode prog_12_method_40_code 41 = .ok (.getfield 222, 3) := by decide +kernel
theorem dMM_market_44 : decode prog_12_method_40_code 44 = .ok (.bipush 20, 2) := by decide +kernel
theorem dMM_market_46 : decode prog_12_method_40_code 46 = .ok (.if_icmp .ne 5, 3) := by decide +kernel
theorem dMM_market_49 : decode prog_12_method_40_code 49 = .ok (.iconst (-1), 1) := by decide +kernel
theorem dMM_market_50 : decode prog_12_method_40_code 50 = .ok (.ireturn, 1) := by decide +kernel
theorem dMM_market_51 : decode prog_12_method_40_code 51 = .ok (.aload_n 0, 1) := by decide +kernel
theorem dMM_market_52 : decode prog_12_method_40_code 52 = .ok (.getfield 79, 3) := by decide +kernel
theorem dMM_market_55 : decode prog_12_method_40_code 55 = .ok (.aload_n 0, 1) := by decide +kernel
theorem dMM_market_56 : decode prog_12_method_40_code 56 = .ok (.getfield 222, 3) := by decide +kernel
theorem dMM_market_59 : decode prog_12_method_40_code 59 = .ok (.iload_n 1, 1) := by decide +kernel
theorem dMM_market_60 : decode prog_12_method_40_code 60 = .ok (.iastore, 1) := by decide +kernel
theorem dMM_market_61 : decode prog_12_method_40_code 61 = .ok (.aload_n 0, 1) := by decide +kernel
theorem dMM_market_62 : decode prog_12_method_40_code 62 = .ok (.getfield 82, 3) := by decide +kernel
theorem dMM_market_65 : decode prog_12_method_40_code 65 = .ok (.aload_n 0, 1) := by decide +kernel
theorem dMM_market_66 : decode prog_12_method_40_code 66 = .ok (.getfield 222, 3) := by decide +kernel
theorem dMM_market_69 : decode prog_12_method_40_code 69 = .ok (.iload_n 2, 1) := by decide +kernel
theorem dMM_market_70 : decode prog_12_method_40_code 70 = .ok (.iastore, 1) := by decide +kernel
theorem dMM_market_71 : decode prog_12_method_40_code 71 = .ok (.aload_n 0, 1) := by decide +kernel
theorem dMM_market_72 : decode prog_12_method_40_code 72 = .ok (.getfield 85, 3) := by decide +kernel
theorem dMM_market_75 : decode prog_12_method_40_code 75 = .ok (.aload_n 0, 1) := by decide +kernel
theorem dMM_market_76 : decode prog_12_method_40_code 76 = .ok (.getfield 222, 3) := by decide +kernel
theorem dMM_market_79 : decode prog_12_method_40_code 79 = .ok (.iload_n 3, 1) := by decide +kernel
theorem dMM_market_80 : decode prog_12_method_40_code 80 = .ok (.iastore, 1) := by decide +kernel
theorem dMM_market_81 : decode prog_12_method_40_code 81 = .ok (.aload_n 0, 1) := by decide +kernel
theorem dMM_market_82 : decode prog_12_method_40_code 82 = .ok (.getfield 88, 3) := by decide +kernel
theorem dMM_market_85 : decode prog_12_method_40_code 85 = .ok (.aload_n 0, 1) := by decide +kernel
theorem dMM_market_86 : decode prog_12_method_40_code 86 = .ok (.getfield 222, 3) := by decide +kernel
theorem dMM_market_89 : decode prog_12_method_40_code 89 = .ok (.iload 4, 2) := by decide +kernel
theorem dMM_market_91 : decode prog_12_method_40_code 91 = .ok (.iastore, 1) := by decide +kernel
theorem dMM_market_92 : decode prog_12_method_40_code 92 = .ok (.aload_n 0, 1) := by decide +kernel
theorem dMM_market_93 : decode prog_12_method_40_code 93 = .ok (.dup, 1) := by decide +kernel
theorem dMM_market_94 : decode prog_12_method_40_code 94 = .ok (.getfield 222, 3) := by decide +kernel
theorem dMM_market_97 : decode prog_12_method_40_code 97 = .ok (.iconst 1, 1) := by decide +kernel
theorem dMM_market_98 : decode prog_12_method_40_code 98 = .ok (.iadd, 1) := by decide +kernel
theorem dMM_market_99 : decode prog_12_method_40_code 99 = .ok (.putfield 222, 3) := by decide +kernel
theorem dMM_market_102 : decode prog_12_method_40_code 102 = .ok (.aload_n 0, 1) := by decide +kernel
theorem dMM_market_103 : decode prog_12_method_40_code 103 = .ok (.getfield 222, 3) := by decide +kernel
theorem dMM_market_106 : decode prog_12_method_40_code 106 = .ok (.iconst 1, 1) := by decide +kernel
theorem dMM_market_107 : decode prog_12_method_40_code 107 = .ok (.isub, 1) := by decide +kernel
theorem dMM_market_108 : decode prog_12_method_40_code 108 = .ok (.ireturn, 1) := by decide +kernel
theorem dMM_isAhead_0 : decode prog_12_method_41_code 0 = .ok (.iconst 0, 1) := by decide +kernel
theorem dMM_isAhead_1 : decode prog_12_method_41_code 1 = .ok (.istore_n 2, 1) := by decide +kernel
theorem dMM_isAhead_2 : decode prog_12_method_41_code 2 = .ok (.iload_n 2, 1) := by decide +kernel
theorem dMM_isAhead_3 : decode prog_12_method_41_code 3 = .ok (.iload_n 1, 1) := by decide +kernel
theorem dMM_isAhead_4 : decode prog_12_method_41_code 4 = .ok (.if_icmp .ge 45, 3) := by decide +kernel
theorem dMM_isAhead_7 : decode prog_12_method_41_code 7 = .ok (.aload_n 0, 1) := by decide +kernel
theorem dMM_isAhead_8 : decode prog_12_method_41_code 8 = .ok (.getfield 91, 3) := by decide +kernel
theorem dMM_isAhead_11 : decode prog_12_method_41_code 11 = .ok (.iload_n 2, 1) := by decide +kernel
theorem dMM_isAhead_12 : decode prog_12_method_41_code 12 = .ok (.iaload, 1) := by decide +kernel
theorem dMM_isAhead_13 : decode prog_12_method_41_code 13 = .ok (.aload_n 0, 1) := by decide +kernel
theorem dMM_isAhead_14 : decode prog_12_method_41_code 14 = .ok (.getfield 97, 3) := by decide +kernel
theorem dMM_isAhead_17 : decode prog_12_method_41_code 17 = .ok (.iload_n 2, 1) := by decide +kernel
theorem dMM_isAhead_18 : decode prog_12_method_41_code 18 = .ok (.iaload, 1) := by decide +kernel
theorem dMM_isAhead_19 : decode prog_12_method_41_code 19 = .ok (.if_icmp .eq 24, 3) := by decide +kernel
theorem dMM_isAhead_22 : decode prog_12_method_41_code 22 = .ok (.aload_n 0, 1) := by decide +kernel
theorem dMM_isAhead_23 : decode prog_12_method_41_code 23 = .ok (.getfield 91, 3) := by decide +kernel
theorem dMM_isAhead_26 : decode prog_12_method_41_code 26 = .ok (.iload_n 2, 1) := by decide +kernel
theorem dMM_isAhead_27 : decode prog_12_method_41_code 27 = .ok (.iaload, 1) := by decide +kernel
theorem dMM_isAhead_28 : decode prog_12_method_41_code 28 = .ok (.aload_n 0, 1) := by decide +kernel
theorem dMM_isAhead_29 : decode prog_12_method_41_code 29 = .ok (.getfield 97, 3) := by decide +kernel
theorem dMM_isAhead_32 : decode prog_12_method_41_code 32 = .ok (.iload_n 2, 1) := by decide +kernel
theorem dMM_isAhead_33 : decode prog_12_method_41_code 33 = .ok (.iaload, 1) := by decide +kernel
theorem dMM_isAhead_34 : decode prog_12_method_41_code 34 = .ok (.if_icmp .ge 7, 3) := by decide +kernel
theorem dMM_isAhead_37 : decode prog_12_method_41_code 37 = .ok (.iconst 1, 1) := by decide +kernel
theorem dMM_isAhead_38 : decode prog_12_method_41_code 38 = .ok (.goto 4, 3) := by decide +kernel
theorem dMM_isAhead_41 : decode prog_12_method_41_code 41 = .ok (.iconst 0, 1) := by decide +kernel
theorem dMM_isAhead_42 : decode prog_12_method_41_code 42 = .ok (.ireturn, 1) := by decide +kernel
theorem dMM_isAhead_43 : decode prog_12_method_41_code 43 = .ok (.iinc 2 1, 3) := by decide +kernel
theorem dMM_isAhead_46 : decode prog_12_method_41_code 46 = .ok (.goto (-44), 3) := by decide +kernel
theorem dMM_isAhead_49 : decode prog_12_method_41_code 49 = .ok (.iconst 0, 1) := by decide +kernel
theorem dMM_isAhead_50 : decode prog_12_method_41_code 50 = .ok (.ireturn, 1) := by decide +kernel
