theorem dMM_found_0 : decode prog_12_method_42_code 0 = .ok (.aload_n 0, 1) := by decide +kernel
theorem dMM_found_1 : decode prog_12_method_42_code 1 = .ok (.getfield 94, 3) := by decide +kernel
theorem dMM_found_4 : decode prog_12_method_42_code 4 = .ok (.iload_n 1, 1) := by decide +kernel
theorem dMM_found_5 : decode prog_12_method_42_code 5 = .ok (.iconst 1, 1) := by decide +kernel
theorem dMM_found_6 : decode prog_12_method_42_code 6 = .ok (.isub, 1) := by decide +kernel
theorem dMM_found_7 : decode prog_12_method_42_code 7 = .ok (.laload, 1) := by decide +kernel
theorem dMM_found_8 : decode prog_12_method_42_code 8 = .ok (.lstore_n 2, 1) := by decide +kernel
theorem dMM_found_9 : decode prog_12_method_42_code 9 = .ok (.lload_n 2, 1) := by decide +kernel
theorem dMM_found_10 : decode prog_12_method_42_code 10 = .ok (.aload_n 0, 1) := by decide +kernel
theorem dMM_found_11 : decode prog_12_method_42_code 11 = .ok (.getfield 225, 3) := by decide +kernel
theorem dMM_found_14 : decode prog_12_method_42_code 14 = .ok (.lcmp, 1) := by decide +kernel
theorem dMM_found_15 : decode prog_12_method_42_code 15 = .ok (.ifCond .lt 36, 3) := by decide +kernel
theorem dMM_found_18 : decode prog_12_method_42_code 18 = .ok (.lload_n 2, 1) := by decide +kernel
theorem dMM_found_19 : decode prog_12_method_42_code 19 = .ok (.aload_n 0, 1) := by decide +kernel
theorem dMM_found_20 : decode prog_12_method_42_code 20 = .ok (.getfield 225, 3) := by decide +kernel
theorem dMM_found_23 : decode prog_12_method_42_code 23 = .ok (.lcmp, 1) := by decide +kernel
theorem dMM_found_24 : decode prog_12_method_42_code 24 = .ok (.ifCond .ne 28, 3) := by decide +kernel
theorem dMM_found_27 : decode prog_12_method_42_code 27 = .ok (.iload_n 1, 1) := by decide +kernel
theorem dMM_found_28 : decode prog_12_method_42_code 28 = .ok (.aload_n 0, 1) := by decide +kernel
theorem dMM_found_29 : decode prog_12_method_42_code 29 = .ok (.getfield 229, 3) := by decide +kernel
theorem dMM_found_32 : decode prog_12_method_42_code 32 = .ok (.if_icmp .gt 19, 3) := by decide +kernel
theorem dMM_found_35 : decode prog_12_method_42_code 35 = .ok (.iload_n 1, 1) := by decide +kernel
theorem dMM_found_36 : decode prog_12_method_42_code 36 = .ok (.aload_n 0, 1) := by decide +kernel
theorem dMM_found_37 : decode prog_12_method_42_code 37 = .ok (.getfield 229, 3) := by decide +kernel
theorem dMM_found_40 : decode prog_12_method_42_code 40 = .ok (.if_icmp .ne 12, 3) := by decide +kernel
theorem dMM_found_43 : decode prog_12_method_42_code 43 = .ok (.aload_n 0, 1) := by decide +kernel
theorem dMM_found_44 : decode prog_12_method_42_code 44 = .ok (.iload_n 1, 1) := by decide +kernel
theorem dMM_found_45 : decode prog_12_method_42_code 45 = .ok (.invokevirtual 232, 3) := by decide +kernel
theorem dMM_found_48 : decode prog_12_method_42_code 48 = .ok (.ifCond .ne 4, 3) := by decide +kernel
theorem dMM_found_51 : decode prog_12_method_42_code 51 = .ok (.return_, 1) := by decide +kernel
theorem dMM_found_52 : decode prog_12_method_42_code 52 = .ok (.aload_n 0, 1) := by decide +kernel
theorem dMM_found_53 : decode prog_12_method_42_code 53 = .ok (.lload_n 2, 1) := by decide +kernel
theorem dMM_found_54 : decode prog_12_method_42_code 54 = .ok (.putfield 225, 3) := by decide +kernel
theorem dMM_found_57 : decode prog_12_method_42_code 57 = .ok (.aload_n 0, 1) := by decide +kernel
theorem dMM_found_58 : decode prog_12_method_42_code 58 = .ok (.iload_n 1, 1) := by decide +kernel
theorem dMM_found_59 : decode prog_12_method_42_code 59 = .ok (.putfield 229, 3) := by decide +kernel
theorem dMM_found_62 : decode prog_12_method_42_code 62 = .ok (.iconst 0, 1) := by decide +kernel
theorem dMM_found_63 : decode prog_12_method_42_code 63 = .ok (.istore 4, 2) := by decide +kernel
theorem dMM_found_65 : decode prog_12_method_42_code 65 = .ok (.iload 4, 2) := by decide +kernel
theorem dMM_found_67 : decode prog_12_method_42_code 67 = .ok (.iload_n 1, 1) := by decide +kernel
theorem dMM_found_68 : decode prog_12_method_42_code 68 = .ok (.if_icmp .ge 23, 3) := by decide +kernel
theorem dMM_found_71 : decode prog_12_method_42_code 71 = .ok (.aload_n 0, 1) := by decide +kernel
theorem dMM_found_72 : decode prog_12_method_42_code 72 = .ok (.getfield 97, 3) := by decide +kernel
theorem dMM_found_75 : decode prog_12_method_42_code 75 = .ok (.iload 4, 2) := by decide +kernel
theorem dMM_found_77 : decode prog_12_method_42_code 77 = .ok (.aload_n 0, 1) := by decide +kernel
theorem dMM_found_78 : decode prog_12_method_42_code 78 = .ok (.getfield 91, 3) := by decide +kernel
theorem dMM_found_81 : decode prog_12_method_42_code 81 = .ok (.iload 4, 2) := by decide +kernel
theorem dMM_found_83 : decode prog_12_method_42_code 83 = .ok (.iaload, 1) := by decide +kernel
theorem dMM_found_84 : decode prog_12_method_42_code 84 = .ok (.iastore, 1) := by decide +kernel
theorem dMM_found_85 : decode prog_12_method_42_code 85 = .ok (.iinc 4 1, 3) := by decide +kernel
theorem dMM_found_88 : decode prog_12_method_42_code 88 = .ok (.goto (-23), 3) := by decide +kernel
theorem dMM_found_91 : decode prog_12_method_42_code 91 = .ok (.return_, 1) := by decide +kernel
theorem dMM_wasThrough_0 : decode prog_12_method_43_code 0 = .ok (.iload_n 1, 1) := by decide +kernel
theorem dMM_wasThrough_1 : decode prog_12_method_43_code 1 = .ok (.iload_n 2, 1) := by decide +kernel
theorem dMM_wasThrough_2 : decode prog_12_method_43_code 2 = .ok (.if_icmp .ne 5, 3) := by decide +kernel
theorem dMM_wasThrough_5 : decode prog_12_method_43_code 5 = .ok (.iconst 1, 1) := by decide +kernel
theorem dMM_wasThrough_6 : decode prog_12_method_43_code 6 = .ok (.ireturn, 1) := by decide +kernel
theorem dMM_wasThrough_7 : decode prog_12_method_43_code 7 = .ok (.iconst 0, 1) := by decide +kernel
theorem dMM_wasThrough_8 : decode prog_12_method_43_code 8 = .ok (.istore 4, 2) := by decide +kernel
theorem dMM_wasThrough_10 : decode prog_12_method_43_code 10 = .ok (.iload 4, 2) := by decide +kernel
theorem dMM_wasThrough_12 : decode prog_12_method_43_code 12 = .ok (.iload_n 3, 1) := by decide +kernel
theorem dMM_wasThrough_13 : decode prog_12_method_43_code 13 = .ok (.if_icmp .ge 27, 3) := by decide +kernel
theorem dMM_wasThrough_16 : decode prog_12_method_43_code 16 = .ok (.aload_n 0, 1) := by decide +kernel
theorem dMM_wasThrough_17 : decode prog_12_method_43_code 17 = .ok (.getfield 85, 3) := by decide +kernel
theorem dMM_wasThrough_20 : decode prog_12_method_43_code 20 = .ok (.aload_n 0, 1) := by decide +kernel
theorem dMM_wasThrough_21 : decode prog_12_method_43_code 21 = .ok (.getfield 91, 3) := by decide +kernel
theorem dMM_wasThrough_24 : decode prog_12_method_43_code 24 = .ok (.iload 4, 2) := by decide +kernel
theorem dMM_wasThrough_26 : decode prog_12_method_43_code 26 = .ok (.iaload, 1) := by decide +kernel
theorem dMM_wasThrough_27 : decode prog_12_method_43_code 27 = .ok (.iaload, 1) := by decide +kernel
theorem dMM_wasThrough_28 : decode prog_12_method_43_code 28 = .ok (.iload_n 1, 1) := by decide +kernel
theorem dMM_wasThrough_29 : decode prog_12_method_43_code 29 = .ok (.if_icmp .ne 5, 3) := by decide +kernel
theorem dMM_wasThrough_32 : decode prog_12_method_43_code 32 = .ok (.iconst 1, 1) := by decide +kernel
theorem dMM_wasThrough_33 : decode prog_12_method_43_code 33 = .ok (.ireturn, 1) := by decide +kernel
theorem dMM_wasThrough_34 : decode prog_12_method_43_code 34 = .ok (.iinc 4 1, 3) := by decide +kernel
theorem dMM_wasThrough_37 : decode prog_12_method_43_code 37 = .ok (.goto (-27), 3) := by decide +kernel
theorem dMM_wasThrough_40 : decode prog_12_method_43_code 40 = .ok (.iconst 0, 1) := by decide +kernel
theorem dMM_wasThrough_41 : decode prog_12_method_43_code 41 = .ok (.ireturn, 1) := by decide +kernel
theorem dMM_search_0 : decode prog_12_method_44_code 0 = .ok (.aload_n 0, 1) := by decide +kernel
theorem dMM_search_1 : decode prog_12_method_44_code 1 = .ok (.ldc2_w 220, 3) := by decide +kernel
theorem dMM_search_4 : decode prog_12_method_44_code 4 = .ok (.putfield 225, 3) := by decide +kernel
theorem dMM_search_7 : decode prog_12_method_44_code 7 = .ok (.iconst 0, 1) := by decide +kernel
theorem dMM_search_8 : decode prog_12_method_44_code 8 = .ok (.istore 4, 2) := by decide +kernel
theorem dMM_search_10 : decode prog_12_method_44_code 10 = .ok (.aload_n 0, 1) := by decide +kernel
theorem dMM_search_11 : decode prog_12_method_44_code 11 = .ok (.getfield 91, 3) := by decide +kernel
theorem dMM_search_14 : decode prog_12_method_44_code 14 = .ok (.iconst 0, 1) := by decide +kernel
theorem dMM_search_15 : decode prog_12_method_44_code 15 = .ok (.iconst (-1), 1) := by decide +kernel
theorem dMM_search_16 : decode prog_12_method_44_code 16 = .ok (.iastore, 1) := by decide +kernel
theorem dMM_search_17 : decode prog_12_method_44_code 17 = .ok (.iload 4, 2) := by decide +kernel
theorem dMM_search_19 : decode prog_12_method_44_code 19 = .ok (.ifCond .lt 187, 3) := by decide +kernel
theorem dMM_search_22 : decode prog_12_method_44_code 22 = .ok (.aload_n 0, 1) := by decide +kernel
theorem dMM_search_23 : decode prog_12_method_44_code 23 = .ok (.getfield 91, 3) := by decide +kernel
theorem dMM_search_26 : decode prog_12_method_44_code 26 = .ok (.iload 4, 2) := by decide +kernel
theorem dMM_search_28 : decode prog_12_method_44_code 28 = .ok (.iaload, 1) := by decide +kernel
theorem dMM_search_29 : decode prog_12_method_44_code 29 = .ok (.iconst 1, 1) := by decide +kernel
theorem dMM_search_30 : decode prog_12_method_44_code 30 = .ok (.iadd, 1) := by decide +kernel
theorem dMM_search_31 : decode prog_12_method_44_code 31 = .ok (.istore 5, 2) := by decide +kernel
theorem dMM_search_33 : decode prog_12_method_44_code 33 = .ok (.iload 4, 2) := by decide +kernel
theorem dMM_search_35 : decode prog_12_method_44_code 35 = .ok (.ifCond .ne 7, 3) := by decide +kernel
theorem dMM_search_38 : decode prog_12_method_44_code 38 = .ok (.iload_n 1, 1) := by decide +kernel
theorem dMM_search_39 : decode prog_12_method_44_code 39 = .ok (.goto 17, 3) := by decide +kernel
theorem dMM_search_42 : decode prog_12_method_44_code 42 = .ok (.aload_n 0, 1) := by decide +kernel
theorem dMM_search_43 : decode prog_12_method_44_code 43 = .ok (.getfield 85, 3) := by decide +kernel
theorem dMM_search_46 : decode prog_12_method_44_code 46 = .ok (.aload_n 0, 1) := by decide +kernel
theorem dMM_search_47 : decode prog_12_method_44_code 47 = .ok (.getfield 91, 3) := by decide +kernel
theorem dMM_search_50 : decode prog_12_method_44_code 50 = .ok (.iload 4, 2) := by decide +kernel
theorem dMM_search_52 : decode prog_12_method_44_code 52 = .ok (.iconst 1, 1) := by decide +kernel
theorem dMM_search_53 : decode prog_12_method_44_code 53 = .ok (.isub, 1) := by decide +kernel
theorem dMM_search_54 : decode prog_12_method_44_code 54 = .ok (.iaload, 1) := by decide +kernel
theorem dMM_search_55 : decode prog_12_method_44_code 55 = .ok (.iaload, 1) := by decide +kernel
theorem dMM_search_56 : decode prog_12_method_44_code 56 = .ok (.istore 6, 2) := by decide +kernel
theorem dMM_search_58 : decode prog_12_method_44_code 58 = .ok (.iload 5, 2) := by decide +kernel
theorem dMM_search_60 : decode prog_12_method_44_code 60 = .ok (.aload_n 0, 1) := by decide +kernel
theorem dMM_search_61 : decode prog_12_method_44_code 61 = .ok (.getfield 222, 3) := by decide +kernel
theorem dMM_search_64 : decode prog_12_method_44_code 64 = .ok (.if_icmp .ge 38, 3) := by decide +kernel
theorem dMM_search_67 : decode prog_12_method_44_code 67 = .ok (.aload_n 0, 1) := by decide +kernel
theorem dMM_search_68 : decode prog_12_method_44_code 68 = .ok (.getfield 79, 3) := by decide +kernel
theorem dMM_search_71 : decode prog_12_method_44_code 71 = .ok (.iload 5, 2) := by decide +kernel
theorem dMM_search_73 : decode prog_12_method_44_code 73 = .ok (.iaload, 1) := by decide +kernel
theorem dMM_search_74 : decode prog_12_method_44_code 74 = .ok (.iload 6, 2) := by decide +kernel
theorem dMM_search_76 : decode prog_12_method_44_code 76 = .ok (.if_icmp .ne 20, 3) := by decide +kernel
theorem dMM_search_79 : decode prog_12_method_44_code 79 = .ok (.aload_n 0, 1) := by decide +kernel
theorem dMM_search_80 : decode prog_12_method_44_code 80 = .ok (.aload_n 0, 1) := by decide +kernel
theorem dMM_search_81 : decode prog_12_method_44_code 81 = .ok (.getfield 85, 3) := by decide +kernel
theorem dMM_search_84 : decode prog_12_method_44_code 84 = .ok (.iload 5, 2) := by decide +kernel
theorem dMM_search_86 : decode prog_12_method_44_code 86 = .ok (.iaload, 1) := by decide +kernel
theorem dMM_search_87 : decode prog_12_method_44_code 87 = .ok (.iload_n 1, 1) := by decide +kernel
theorem dMM_search_88 : decode prog_12_method_44_code 88 = .ok (.iload 4, 2) := by decide +kernel
theorem dMM_search_90 : decode prog_12_method_44_code 90 = .ok (.invokevirtual 235, 3) := by decide +kernel
theorem dMM_search_93 : decode prog_12_method_44_code 93 = .ok (.ifCond .eq 9, 3) := by decide +kernel
theorem dMM_search_96 : decode prog_12_method_44_code 96 = .ok (.iinc 5 1, 3) := by decide +kernel
theorem dMM_search_99 : decode prog_12_method_44_code 99 = .ok (.goto (-41), 3) := by decide +kernel
theorem dMM_search_102 : decode prog_12_method_44_code 102 = .ok (.iload 5, 2) := by decide +kernel
theorem dMM_search_104 : decode prog_12_method_44_code 104 = .ok (.aload_n 0, 1) := by decide +kernel
theorem dMM_search_105 : decode prog_12_method_44_code 105 = .ok (.getfield 222, 3) := by decide +kernel
theorem dMM_search_108 : decode prog_12_method_44_code 108 = .ok (.if_icmp .ne 9, 3) := by decide +kernel
theorem dMM_search_111 : decode prog_12_method_44_code 111 = .ok (.iinc 4 (-1), 3) := by decide +kernel
theorem dMM_search_114 : decode prog_12_method_44_code 114 = .ok (.goto 89, 3) := by decide +kernel
theorem dMM_search_117 : decode prog_12_method_44_code 117 = .ok (.aload_n 0, 1) := by decide +kernel
theorem dMM_search_118 : decode prog_12_method_44_code 118 = .ok (.getfield 91, 3) := by decide +kernel
theorem dMM_search_121 : decode prog_12_method_44_code 121 = .ok (.iload 4, 2) := by decide +kernel
theorem dMM_search_123 : decode prog_12_method_44_code 123 = .ok (.iload 5, 2) := by decide +kernel
theorem dMM_search_125 : decode prog_12_method_44_code 125 = .ok (.iastore, 1) := by decide +kernel
theorem dMM_search_126 : decode prog_12_method_44_code 126 = .ok (.aload_n 0, 1) := by decide +kernel
theorem dMM_search_127 : decode prog_12_method_44_code 127 = .ok (.getfield 94, 3) := by decide +kernel
theorem dMM_search_130 : decode prog_12_method_44_code 130 = .ok (.iload 4, 2) := by decide +kernel
theorem dMM_search_132 : decode prog_12_method_44_code 132 = .ok (.iload 4, 2) := by decide +kernel
theorem dMM_search_134 : decode prog_12_method_44_code 134 = .ok (.ifCond .ne 8, 3) := by decide +kernel
theorem dMM_search_137 : decode prog_12_method_44_code 137 = .ok (.iload_n 2, 1) := by decide +kernel
theorem dMM_search_138 : decode prog_12_method_44_code 138 = .ok (.i2l, 1) := by decide +kernel
theorem dMM_search_139 : decode prog_12_method_44_code 139 = .ok (.goto 12, 3) := by decide +kernel
theorem dMM_search_142 : decode prog_12_method_44_code 142 = .ok (.aload_n 0, 1) := by decide +kernel
theorem dMM_search_143 : decode prog_12_method_44_code 143 = .ok (.getfield 94, 3) := by decide +kernel
theorem dMM_search_146 : decode prog_12_method_44_code 146 = .ok (.iload 4, 2) := by decide +kernel
theorem dMM_search_148 : decode prog_12_method_44_code 148 = .ok (.iconst 1, 1) := by decide +kernel
theorem dMM_search_149 : decode prog_12_method_44_code 149 = .ok (.isub, 1) := by decide +kernel
theorem dMM_search_150 : decode prog_12_method_44_code 150 = .ok (.laload, 1) := by decide +kernel
theorem dMM_search_151 : decode prog_12_method_44_code 151 = .ok (.aload_n 0, 1) := by decide +kernel
theorem dMM_search_152 : decode prog_12_method_44_code 152 = .ok (.getfield 82, 3) := by decide +kernel
theorem dMM_search_155 : decode prog_12_method_44_code 155 = .ok (.iload 5, 2) := by decide +kernel
theorem dMM_search_157 : decode prog_12_method_44_code 157 = .ok (.iaload, 1) := by decide +kernel
theorem dMM_search_158 : decode prog_12_method_44_code 158 = .ok (.i2l, 1) := by decide +kernel
theorem dMM_search_159 : decode prog_12_method_44_code 159 = .ok (.ldiv, 1) := by decide +kernel
theorem dMM_search_160 : decode prog_12_method_44_code 160 = .ok (.aload_n 0, 1) := by decide +kernel
theorem dMM_search_161 : decode prog_12_method_44_code 161 = .ok (.getfield 88, 3) := by decide +kernel
theorem dMM_search_164 : decode prog_12_method_44_code 164 = .ok (.iload 5, 2) := by decide +kernel
theorem dMM_search_166 : decode prog_12_method_44_code 166 = .ok (.iaload, 1) := by decide +kernel
theorem dMM_search_167 : decode prog_12_method_44_code 167 = .ok (.i2l, 1) := by decide +kernel
theorem dMM_search_168 : decode prog_12_method_44_code 168 = .ok (.lmul, 1) := by decide +kernel
theorem dMM_search_169 : decode prog_12_method_44_code 169 = .ok (.lastore, 1) := by decide +kernel
theorem dMM_search_170 : decode prog_12_method_44_code 170 = .ok (.aload_n 0, 1) := by decide +kernel
theorem dMM_search_171 : decode prog_12_method_44_code 171 = .ok (.getfield 85, 3) := by decide +kernel
theorem dMM_search_174 : decode prog_12_method_44_code 174 = .ok (.iload 5, 2) := by decide +kernel
theorem dMM_search_176 : decode prog_12_method_44_code 176 = .ok (.iaload, 1) := by decide +kernel
theorem dMM_search_177 : decode prog_12_method_44_code 177 = .ok (.iload_n 3, 1) := by decide +kernel
theorem dMM_search_178 : decode prog_12_method_44_code 178 = .ok (.if_icmp .ne 14, 3) := by decide +kernel
theorem dMM_search_181 : decode prog_12_method_44_code 181 = .ok (.aload_n 0, 1) := by decide +kernel
theorem dMM_search_182 : decode prog_12_method_44_code 182 = .ok (.iload 4, 2) := by decide +kernel
theorem dMM_search_184 : decode prog_12_method_44_code 184 = .ok (.iconst 1, 1) := by decide +kernel
theorem dMM_search_185 : decode prog_12_method_44_code 185 = .ok (.iadd, 1) := by decide +kernel
theorem dMM_search_186 : decode prog_12_method_44_code 186 = .ok (.invokevirtual 238, 3) := by decide +kernel
theorem dMM_search_189 : decode prog_12_method_44_code 189 = .ok (.goto 14, 3) := by decide +kernel
theorem dMM_search_192 : decode prog_12_method_44_code 192 = .ok (.iinc 4 1, 3) := by decide +kernel
theorem dMM_search_195 : decode prog_12_method_44_code 195 = .ok (.aload_n 0, 1) := by decide +kernel
theorem dMM_search_196 : decode prog_12_method_44_code 196 = .ok (.getfield 91, 3) := by decide +kernel
theorem dMM_search_199 : decode prog_12_method_44_code 199 = .ok (.iload 4, 2) := by decide +kernel
theorem dMM_search_201 : decode prog_12_method_44_code 201 = .ok (.iconst (-1), 1) := by decide +kernel
theorem dMM_search_202 : decode prog_12_method_44_code 202 = .ok (.iastore, 1) := by decide +kernel
theorem dMM_search_203 : decode prog_12_method_44_code 203 = .ok (.goto (-186), 3) := by decide +kernel
theorem dMM_search_206 : decode prog_12_method_44_code 206 = .ok (.return_, 1) := by decide +kernel
theorem dMM_barter_0 : decode prog_12_method_45_code 0 = .ok (.iload_n 1, 1) := by decide +kernel
theorem dMM_barter_1 : decode prog_12_method_45_code 1 = .ok (.invokestatic 122, 3) := by decide +kernel
theorem dMM_barter_4 : decode prog_12_method_45_code 4 = .ok (.ifCond .eq 26, 3) := by decide +kernel
theorem dMM_barter_7 : decode prog_12_method_45_code 7 = .ok (.iload_n 3, 1) := by decide +kernel
theorem dMM_barter_8 : decode prog_12_method_45_code 8 = .ok (.invokestatic 122, 3) := by decide +kernel
theorem dMM_barter_11 : decode prog_12_method_45_code 11 = .ok (.ifCond .eq 19, 3) := by decide +kernel
theorem dMM_barter_14 : decode prog_12_method_45_code 14 = .ok (.iload_n 1, 1) := by decide +kernel
theorem dMM_barter_15 : decode prog_12_method_45_code 15 = .ok (.iload_n 3, 1) := by decide +kernel
theorem dMM_barter_16 : decode prog_12_method_45_code 16 = .ok (.if_icmp .eq 14, 3) := by decide +kernel
theorem dMM_barter_19 : decode prog_12_method_45_code 19 = .ok (.iload_n 2, 1) := by decide +kernel
theorem dMM_barter_20 : decode prog_12_method_45_code 20 = .ok (.iconst 1, 1) := by decide +kernel
theorem dMM_barter_21 : decode prog_12_method_45_code 21 = .ok (.sipush 9999, 3) := by decide +kernel
theorem dMM_barter_24 : decode prog_12_method_45_code 24 = .ok (.invokestatic 109, 3) := by decide +kernel
theorem dMM_barter_27 : decode prog_12_method_45_code 27 = .ok (.ifCond .ne 5, 3) := by decide +kernel
theorem dMM_barter_30 : decode prog_12_method_45_code 30 = .ok (.iconst (-1), 1) := by decide +kernel
theorem dMM_barter_31 : decode prog_12_method_45_code 31 = .ok (.ireturn, 1) := by decide +kernel
theorem dMM_barter_32 : decode prog_12_method_45_code 32 = .ok (.aload_n 0, 1) := by decide +kernel
theorem dMM_barter_33 : decode prog_12_method_45_code 33 = .ok (.iload_n 1, 1) := by decide +kernel
theorem dMM_barter_34 : decode prog_12_method_45_code 34 = .ok (.iload_n 2, 1) := by decide +kernel
theorem dMM_barter_35 : decode prog_12_method_45_code 35 = .ok (.iload_n 3, 1) := by decide +kernel
theorem dMM_barter_36 : decode prog_12_method_45_code 36 = .ok (.invokevirtual 241, 3) := by decide +kernel
theorem dMM_barter_39 : decode prog_12_method_45_code 39 = .ok (.aload_n 0, 1) := by decide +kernel
theorem dMM_barter_40 : decode prog_12_method_45_code 40 = .ok (.getfield 225, 3) := by decide +kernel
theorem dMM_barter_43 : decode prog_12_method_45_code 43 = .ok (.lconst 0, 1) := by decide +kernel
theorem dMM_barter_44 : decode prog_12_method_45_code 44 = .ok (.lcmp, 1) := by decide +kernel
theorem dMM_barter_45 : decode prog_12_method_45_code 45 = .ok (.ifCond .ge 5, 3) := by decide +kernel
theorem dMM_barter_48 : decode prog_12_method_45_code 48 = .ok (.iconst (-1), 1) := by decide +kernel
theorem dMM_barter_49 : decode prog_12_method_45_code 49 = .ok (.ireturn, 1) := by decide +kernel
theorem dMM_barter_50 : decode prog_12_method_45_code 50 = .ok (.aload_n 0, 1) := by decide +kernel
theorem dMM_barter_51 : decode prog_12_method_45_code 51 = .ok (.aload_n 0, 1) := by decide +kernel
theorem dMM_barter_52 : decode prog_12_method_45_code 52 = .ok (.getfield 229, 3) := by decide +kernel
theorem dMM_barter_55 : decode prog_12_method_45_code 55 = .ok (.putfield 245, 3) := by decide +kernel
theorem dMM_barter_58 : decode prog_12_method_45_code 58 = .ok (.iconst 0, 1) := by decide +kernel
theorem dMM_barter_59 : decode prog_12_method_45_code 59 = .ok (.istore 4, 2) := by decide +kernel
theorem dMM_barter_61 : decode prog_12_method_45_code 61 = .ok (.iload 4, 2) := by decide +kernel
theorem dMM_barter_63 : decode prog_12_method_45_code 63 = .ok (.aload_n 0, 1) := by decide +kernel
theorem dMM_barter_64 : decode prog_12_method_45_code 64 = .ok (.getfield 229, 3) := by decide +kernel
theorem dMM_barter_67 : decode prog_12_method_45_code 67 = .ok (.if_icmp .ge 23, 3) := by decide +kernel
theorem dMM_barter_70 : decode prog_12_method_45_code 70 = .ok (.aload_n 0, 1) := by decide +kernel
theorem dMM_barter_71 : decode prog_12_method_45_code 71 = .ok (.getfield 100, 3) := by decide +kernel
theorem dMM_barter_74 : decode prog_12_method_45_code 74 = .ok (.iload 4, 2) := by decide +kernel
theorem dMM_barter_76 : decode prog_12_method_45_code 76 = .ok (.aload_n 0, 1) := by decide +kernel
theorem dMM_barter_77 : decode prog_12_method_45_code 77 = .ok (.getfield 97, 3) := by decide +kernel
theorem dMM_barter_80 : decode prog_12_method_45_code 80 = .ok (.iload 4, 2) := by decide +kernel
theorem dMM_barter_82 : decode prog_12_method_45_code 82 = .ok (.iaload, 1) := by decide +kernel
theorem dMM_barter_83 : decode prog_12_method_45_code 83 = .ok (.iastore, 1) := by decide +kernel
theorem dMM_barter_84 : decode prog_12_method_45_code 84 = .ok (.iinc 4 1, 3) := by decide +kernel
theorem dMM_barter_87 : decode prog_12_method_45_code 87 = .ok (.goto (-26), 3) := by decide +kernel
theorem dMM_barter_90 : decode prog_12_method_45_code 90 = .ok (.aload_n 0, 1) := by decide +kernel
theorem dMM_barter_91 : decode prog_12_method_45_code 91 = .ok (.getfield 225, 3) := by decide +kernel
theorem dMM_barter_94 : decode prog_12_method_45_code 94 = .ok (.ldc2_w 248, 3) := by decide +kernel
theorem dMM_barter_97 : decode prog_12_method_45_code 97 = .ok (.lcmp, 1) := by decide +kernel
theorem dMM_barter_98 : decode prog_12_method_45_code 98 = .ok (.ifCond .le 8, 3) := by decide +kernel
theorem dMM_barter_101 : decode prog_12_method_45_code 101 = .ok (.ldc 250, 2) := by decide +kernel
theorem dMM_barter_103 : decode prog_12_method_45_code 103 = .ok (.goto 8, 3) := by decide +kernel
theorem dMM_barter_106 : decode prog_12_method_45_code 106 = .ok (.aload_n 0, 1) := by decide +kernel
theorem dMM_barter_107 : decode prog_12_method_45_code 107 = .ok (.getfield 225, 3) := by decide +kernel
theorem dMM_barter_110 : decode prog_12_method_45_code 110 = .ok (.l2i, 1) := by decide +kernel
theorem dMM_barter_111 : decode prog_12_method_45_code 111 = .ok (.ireturn, 1) := by decide +kernel
theorem dMM_bartered_0 : decode prog_12_method_46_code 0 = .ok (.iload_n 1, 1) := by decide +kernel
theorem dMM_bartered_1 : decode prog_12_method_46_code 1 = .ok (.iconst 0, 1) := by decide +kernel
theorem dMM_bartered_2 : decode prog_12_method_46_code 2 = .ok (.aload_n 0, 1) := by decide +kernel
theorem dMM_bartered_3 : decode prog_12_method_46_code 3 = .ok (.getfield 245, 3) := by decide +kernel
theorem dMM_bartered_6 : decode prog_12_method_46_code 6 = .ok (.iconst 1, 1) := by decide +kernel
theorem dMM_bartered_7 : decode prog_12_method_46_code 7 = .ok (.isub, 1) := by decide +kernel
theorem dMM_bartered_8 : decode prog_12_method_46_code 8 = .ok (.invokestatic 109, 3) := by decide +kernel
theorem dMM_bartered_11 : decode prog_12_method_46_code 11 = .ok (.ifCond .eq 12, 3) := by decide +kernel
theorem dMM_bartered_14 : decode prog_12_method_46_code 14 = .ok (.aload_n 0, 1) := by decide +kernel
theorem dMM_bartered_15 : decode prog_12_method_46_code 15 = .ok (.getfield 100, 3) := by decide +kernel
theorem dMM_bartered_18 : decode prog_12_method_46_code 18 = .ok (.iload_n 1, 1) := by decide +kernel
theorem dMM_bartered_19 : decode prog_12_method_46_code 19 = .ok (.iaload, 1) := by decide +kernel
theorem dMM_bartered_20 : decode prog_12_method_46_code 20 = .ok (.goto 4, 3) := by decide +kernel
theorem dMM_bartered_23 : decode prog_12_method_46_code 23 = .ok (.iconst (-1), 1) := by decide +kernel
theorem dMM_bartered_24 : decode prog_12_method_46_code 24 = .ok (.ireturn, 1) := by decide +kernel
theorem dMM_yields_0 : decode prog_12_method_47_code 0 = .ok (.iload_n 1, 1) := by decide +kernel
theorem dMM_yields_1 : decode prog_12_method_47_code 1 = .ok (.invokestatic 160, 3) := by decide +kernel
theorem dMM_yields_4 : decode prog_12_method_47_code 4 = .ok (.ifCond .eq 14, 3) := by decide +kernel
theorem dMM_yields_7 : decode prog_12_method_47_code 7 = .ok (.iload_n 2, 1) := by decide +kernel
theorem dMM_yields_8 : decode prog_12_method_47_code 8 = .ok (.iconst 0, 1) := by decide +kernel
theorem dMM_yields_9 : decode prog_12_method_47_code 9 = .ok (.sipush 10000, 3) := by decide +kernel
theorem dMM_yields_12 : decode prog_12_method_47_code 12 = .ok (.invokestatic 109, 3) := by decide +kernel
theorem dMM_yields_15 : decode prog_12_method_47_code 15 = .ok (.ifCond .ne 5, 3) := by decide +kernel
theorem dMM_yields_18 : decode prog_12_method_47_code 18 = .ok (.iconst 0, 1) := by decide +kernel
theorem dMM_yields_19 : decode prog_12_method_47_code 19 = .ok (.ireturn, 1) := by decide +kernel
theorem dMM_yields_20 : decode prog_12_method_47_code 20 = .ok (.aload_n 0, 1) := by decide +kernel
theorem dMM_yields_21 : decode prog_12_method_47_code 21 = .ok (.getfield 103, 3) := by decide +kernel
theorem dMM_yields_24 : decode prog_12_method_47_code 24 = .ok (.iload_n 1, 1) := by decide +kernel
theorem dMM_yields_25 : decode prog_12_method_47_code 25 = .ok (.iload_n 2, 1) := by decide +kernel
theorem dMM_yields_26 : decode prog_12_method_47_code 26 = .ok (.iastore, 1) := by decide +kernel
theorem dMM_yields_27 : decode prog_12_method_47_code 27 = .ok (.iconst 1, 1) := by decide +kernel
theorem dMM_yields_28 : decode prog_12_method_47_code 28 = .ok (.ireturn, 1) := by decide +kernel
theorem dMM_parted_0 : decode prog_12_method_48_code 0 = .ok (.iconst 0, 1) := by decide +kernel
theorem dMM_parted_1 : decode prog_12_method_48_code 1 = .ok (.istore_n 3, 1) := by decide +kernel
theorem dMM_parted_2 : decode prog_12_method_48_code 2 = .ok (.iconst 1, 1) := by decide +kernel
theorem dMM_parted_3 : decode prog_12_method_48_code 3 = .ok (.istore 4, 2) := by decide +kernel
theorem dMM_parted_5 : decode prog_12_method_48_code 5 = .ok (.iload 4, 2) := by decide +kernel
theorem dMM_parted_7 : decode prog_12_method_48_code 7 = .ok (.bipush 16, 2) := by decide +kernel
theorem dMM_parted_9 : decode prog_12_method_48_code 9 = .ok (.if_icmp .ge 27, 3) := by decide +kernel
theorem dMM_parted_12 : decode prog_12_method_48_code 12 = .ok (.iload_n 3, 1) := by decide +kernel
theorem dMM_parted_13 : decode prog_12_method_48_code 13 = .ok (.aload_n 0, 1) := by decide +kernel
theorem dMM_parted_14 : decode prog_12_method_48_code 14 = .ok (.getfield 103, 3) := by decide +kernel
theorem dMM_parted_17 : decode prog_12_method_48_code 17 = .ok (.iload 4, 2) := by decide +kernel
theorem dMM_parted_19 : decode prog_12_method_48_code 19 = .ok (.iaload, 1) := by decide +kernel
theorem dMM_parted_20 : decode prog_12_method_48_code 20 = .ok (.iadd, 1) := by decide +kernel
theorem dMM_parted_21 : decode prog_12_method_48_code 21 = .ok (.istore_n 3, 1) := by decide +kernel
theorem dMM_parted_22 : decode prog_12_method_48_code 22 = .ok (.aload_n 0, 1) := by decide +kernel
theorem dMM_parted_23 : decode prog_12_method_48_code 23 = .ok (.getfield 106, 3) := by decide +kernel
theorem dMM_parted_26 : decode prog_12_method_48_code 26 = .ok (.iload 4, 2) := by decide +kernel
theorem dMM_parted_28 : decode prog_12_method_48_code 28 = .ok (.iconst 0, 1) := by decide +kernel
theorem dMM_parted_29 : decode prog_12_method_48_code 29 = .ok (.bastore, 1) := by decide +kernel
theorem dMM_parted_30 : decode prog_12_method_48_code 30 = .ok (.iinc 4 1, 3) := by decide +kernel
theorem dMM_parted_33 : decode prog_12_method_48_code 33 = .ok (.goto (-28), 3) := by decide +kernel
theorem dMM_parted_36 : decode prog_12_method_48_code 36 = .ok (.iload_n 1, 1) := by decide +kernel
theorem dMM_parted_37 : decode prog_12_method_48_code 37 = .ok (.iconst 0, 1) := by decide +kernel
theorem dMM_parted_38 : decode prog_12_method_48_code 38 = .ok (.ldc 117, 2) := by decide +kernel
theorem dMM_parted_40 : decode prog_12_method_48_code 40 = .ok (.invokestatic 109, 3) := by decide +kernel
theorem dMM_parted_43 : decode prog_12_method_48_code 43 = .ok (.ifCond .eq 14, 3) := by decide +kernel
theorem dMM_parted_46 : decode prog_12_method_48_code 46 = .ok (.iload_n 2, 1) := by decide +kernel
theorem dMM_parted_47 : decode prog_12_method_48_code 47 = .ok (.invokestatic 160, 3) := by decide +kernel
theorem dMM_parted_50 : decode prog_12_method_48_code 50 = .ok (.ifCond .eq 7, 3) := by decide +kernel
theorem dMM_parted_53 : decode prog_12_method_48_code 53 = .ok (.iload_n 3, 1) := by decide +kernel
theorem dMM_parted_54 : decode prog_12_method_48_code 54 = .ok (.ifCond .ne 5, 3) := by decide +kernel
theorem dMM_parted_57 : decode prog_12_method_48_code 57 = .ok (.iconst (-1), 1) := by decide +kernel
theorem dMM_parted_58 : decode prog_12_method_48_code 58 = .ok (.ireturn, 1) := by decide +kernel
theorem dMM_parted_59 : decode prog_12_method_48_code 59 = .ok (.iload_n 1, 1) := by decide +kernel
theorem dMM_parted_60 : decode prog_12_method_48_code 60 = .ok (.istore 4, 2) := by decide +kernel
theorem dMM_parted_62 : decode prog_12_method_48_code 62 = .ok (.iconst 1, 1) := by decide +kernel
theorem dMM_parted_63 : decode prog_12_method_48_code 63 = .ok (.istore 5, 2) := by decide +kernel
theorem dMM_parted_65 : decode prog_12_method_48_code 65 = .ok (.iload 5, 2) := by decide +kernel
theorem dMM_parted_67 : decode prog_12_method_48_code 67 = .ok (.bipush 16, 2) := by decide +kernel
theorem dMM_parted_69 : decode prog_12_method_48_code 69 = .ok (.if_icmp .ge 29, 3) := by decide +kernel
theorem dMM_parted_72 : decode prog_12_method_48_code 72 = .ok (.iload 4, 2) := by decide +kernel
theorem dMM_parted_74 : decode prog_12_method_48_code 74 = .ok (.iload_n 1, 1) := by decide +kernel
theorem dMM_parted_75 : decode prog_12_method_48_code 75 = .ok (.i2l, 1) := by decide +kernel
theorem dMM_parted_76 : decode prog_12_method_48_code 76 = .ok (.aload_n 0, 1) := by decide +kernel
theorem dMM_parted_77 : decode prog_12_method_48_code 77 = .ok (.getfield 103, 3) := by decide +kernel
theorem dMM_parted_80 : decode prog_12_method_48_code 80 = .ok (.iload 5, 2) := by decide +kernel
theorem dMM_parted_82 : decode prog_12_method_48_code 82 = .ok (.iaload, 1) := by decide +kernel
theorem dMM_parted_83 : decode prog_12_method_48_code 83 = .ok (.i2l, 1) := by decide +kernel
theorem dMM_parted_84 : decode prog_12_method_48_code 84 = .ok (.lmul, 1) := by decide +kernel
theorem dMM_parted_85 : decode prog_12_method_48_code 85 = .ok (.iload_n 3, 1) := by decide +kernel
theorem dMM_parted_86 : decode prog_12_method_48_code 86 = .ok (.i2l, 1) := by decide +kernel
theorem dMM_parted_87 : decode prog_12_method_48_code 87 = .ok (.ldiv, 1) := by decide +kernel
theorem dMM_parted_88 : decode prog_12_method_48_code 88 = .ok (.l2i, 1) := by decide +kernel
theorem dMM_parted_89 : decode prog_12_method_48_code 89 = .ok (.isub, 1) := by decide +kernel
theorem dMM_parted_90 : decode prog_12_method_48_code 90 = .ok (.istore 4, 2) := by decide +kernel
theorem dMM_parted_92 : decode prog_12_method_48_code 92 = .ok (.iinc 5 1, 3) := by decide +kernel
theorem dMM_parted_95 : decode prog_12_method_48_code 95 = .ok (.goto (-30), 3) := by decide +kernel
theorem dMM_parted_98 : decode prog_12_method_48_code 98 = .ok (.iconst 0, 1) := by decide +kernel
theorem dMM_parted_99 : decode prog_12_method_48_code 99 = .ok (.istore 5, 2) := by decide +kernel
theorem dMM_parted_101 : decode prog_12_method_48_code 101 = .ok (.iload 5, 2) := by decide +kernel
theorem dMM_parted_103 : decode prog_12_method_48_code 103 = .ok (.iload 4, 2) := by decide +kernel
theorem dMM_parted_105 : decode prog_12_method_48_code 105 = .ok (.if_icmp .ge 87, 3) := by decide +kernel
theorem dMM_parted_108 : decode prog_12_method_48_code 108 = .ok (.iconst (-1), 1) := by decide +kernel
theorem dMM_parted_109 : decode prog_12_method_48_code 109 = .ok (.istore 6, 2) := by decide +kernel
theorem dMM_parted_111 : decode prog_12_method_48_code 111 = .ok (.iconst 1, 1) := by decide +kernel
theorem dMM_parted_112 : decode prog_12_method_48_code 112 = .ok (.istore 7, 2) := by decide +kernel
theorem dMM_parted_114 : decode prog_12_method_48_code 114 = .ok (.iload 7, 2) := by decide +kernel
theorem dMM_parted_116 : decode prog_12_method_48_code 116 = .ok (.bipush 16, 2) := by decide +kernel
theorem dMM_parted_118 : decode prog_12_method_48_code 118 = .ok (.if_icmp .ge 60, 3) := by decide +kernel
theorem dMM_parted_121 : decode prog_12_method_48_code 121 = .ok (.aload_n 0, 1) := by decide +kernel
theorem dMM_parted_122 : decode prog_12_method_48_code 122 = .ok (.getfield 106, 3) := by decide +kernel
theorem dMM_parted_125 : decode prog_12_method_48_code 125 = .ok (.iload 7, 2) := by decide +kernel
theorem dMM_parted_127 : decode prog_12_method_48_code 127 = .ok (.baload, 1) := by decide +kernel
theorem dMM_parted_128 : decode prog_12_method_48_code 128 = .ok (.ifCond .ne 44, 3) := by decide +kernel
theorem dMM_parted_131 : decode prog_12_method_48_code 131 = .ok (.iload 6, 2) := by decide +kernel
theorem dMM_parted_133 : decode prog_12_method_48_code 133 = .ok (.ifCond .lt 35, 3) := by decide +kernel
theorem dMM_parted_136 : decode prog_12_method_48_code 136 = .ok (.iload_n 1, 1) := by decide +kernel
theorem dMM_parted_137 : decode prog_12_method_48_code 137 = .ok (.i2l, 1) := by decide +kernel
theorem dMM_parted_138 : decode prog_12_method_48_code 138 = .ok (.aload_n 0, 1) := by decide +kernel
theorem dMM_parted_139 : decode prog_12_method_48_code 139 = .ok (.getfield 103, 3) := by decide +kernel
theorem dMM_parted_142 : decode prog_12_method_48_code 142 = .ok (.iload 7, 2) := by decide +kernel
theorem dMM_parted_144 : decode prog_12_method_48_code 144 = .ok (.iaload, 1) := by decide +kernel
theorem dMM_parted_145 : decode prog_12_method_48_code 145 = .ok (.i2l, 1) := by decide +kernel
theorem dMM_parted_146 : decode prog_12_method_48_code 146 = .ok (.lmul, 1) := by decide +kernel
theorem dMM_parted_147 : decode prog_12_method_48_code 147 = .ok (.iload_n 3, 1) := by decide +kernel
theorem dMM_parted_148 : decode prog_12_method_48_code 148 = .ok (.i2l, 1) := by decide +kernel
theorem dMM_parted_149 : decode prog_12_method_48_code 149 = .ok (.lrem, 1) := by decide +kernel
theorem dMM_parted_150 : decode prog_12_method_48_code 150 = .ok (.iload_n 1, 1) := by decide +kernel
theorem dMM_parted_151 : decode prog_12_method_48_code 151 = .ok (.i2l, 1) := by decide +kernel
theorem dMM_parted_152 : decode prog_12_method_48_code 152 = .ok (.aload_n 0, 1) := by decide +kernel
theorem dMM_parted_153 : decode prog_12_method_48_code 153 = .ok (.getfield 103, 3) := by decide +kernel
theorem dMM_parted_156 : decode prog_12_method_48_code 156 = .ok (.iload 6, 2) := by decide +kernel
theorem dMM_parted_158 : decode prog_12_method_48_code 158 = .ok (.iaload, 1) := by decide +kernel
theorem dMM_parted_159 : decode prog_12_method_48_code 159 = .ok (.i2l, 1) := by decide +kernel
theorem dMM_parted_160 : decode prog_12_method_48_code 160 = .ok (.lmul, 1) := by decide +kernel
theorem dMM_parted_161 : decode prog_12_method_48_code 161 = .ok (.iload_n 3, 1) := by decide +kernel
theorem dMM_parted_162 : decode prog_12_method_48_code 162 = .ok (.i2l, 1) := by decide +kernel
theorem dMM_parted_163 : decode prog_12_method_48_code 163 = .ok (.lrem, 1) := by decide +kernel
theorem dMM_parted_164 : decode prog_12_method_48_code 164 = .ok (.lcmp, 1) := by decide +kernel
theorem dMM_parted_165 : decode prog_12_method_48_code 165 = .ok (.ifCond .le 7, 3) := by decide +kernel
theorem dMM_parted_168 : decode prog_12_method_48_code 168 = .ok (.iload 7, 2) := by decide +kernel
theorem dMM_parted_170 : decode prog_12_method_48_code 170 = .ok (.istore 6, 2) := by decide +kernel
theorem dMM_parted_172 : decode prog_12_method_48_code 172 = .ok (.iinc 7 1, 3) := by decide +kernel
theorem dMM_parted_175 : decode prog_12_method_48_code 175 = .ok (.goto (-61), 3) := by decide +kernel
theorem dMM_parted_178 : decode prog_12_method_48_code 178 = .ok (.aload_n 0, 1) := by decide +kernel
theorem dMM_parted_179 : decode prog_12_method_48_code 179 = .ok (.getfield 106, 3) := by decide +kernel
theorem dMM_parted_182 : decode prog_12_method_48_code 182 = .ok (.iload 6, 2) := by decide +kernel
theorem dMM_parted_184 : decode prog_12_method_48_code 184 = .ok (.iconst 1, 1) := by decide +kernel
theorem dMM_parted_185 : decode prog_12_method_48_code 185 = .ok (.bastore, 1) := by decide +kernel
theorem dMM_parted_186 : decode prog_12_method_48_code 186 = .ok (.iinc 5 1, 3) := by decide +kernel
theorem dMM_parted_189 : decode prog_12_method_48_code 189 = .ok (.goto (-88), 3) := by decide +kernel
theorem dMM_parted_192 : decode prog_12_method_48_code 192 = .ok (.iload_n 1, 1) := by decide +kernel
theorem dMM_parted_193 : decode prog_12_method_48_code 193 = .ok (.i2l, 1) := by decide +kernel
theorem dMM_parted_194 : decode prog_12_method_48_code 194 = .ok (.aload_n 0, 1) := by decide +kernel
theorem dMM_parted_195 : decode prog_12_method_48_code 195 = .ok (.getfield 103, 3) := by decide +kernel
theorem dMM_parted_198 : decode prog_12_method_48_code 198 = .ok (.iload_n 2, 1) := by decide +kernel
theorem dMM_parted_199 : decode prog_12_method_48_code 199 = .ok (.iaload, 1) := by decide +kernel
theorem dMM_parted_200 : decode prog_12_method_48_code 200 = .ok (.i2l, 1) := by decide +kernel
theorem dMM_parted_201 : decode prog_12_method_48_code 201 = .ok (.lmul, 1) := by decide +kernel
theorem dMM_parted_202 : decode prog_12_method_48_code 202 = .ok (.iload_n 3, 1) := by decide +kernel
theorem dMM_parted_203 : decode prog_12_method_48_code 203 = .ok (.i2l, 1) := by decide +kernel
theorem dMM_parted_204 : decode prog_12_method_48_code 204 = .ok (.ldiv, 1) := by decide +kernel
theorem dMM_parted_205 : decode prog_12_method_48_code 205 = .ok (.l2i, 1) := by decide +kernel
theorem dMM_parted_206 : decode prog_12_method_48_code 206 = .ok (.aload_n 0, 1) := by decide +kernel
theorem dMM_parted_207 : decode prog_12_method_48_code 207 = .ok (.getfield 106, 3) := by decide +kernel
theorem dMM_parted_210 : decode prog_12_method_48_code 210 = .ok (.iload_n 2, 1) := by decide +kernel
theorem dMM_parted_211 : decode prog_12_method_48_code 211 = .ok (.baload, 1) := by decide +kernel
theorem dMM_parted_212 : decode prog_12_method_48_code 212 = .ok (.ifCond .eq 7, 3) := by decide +kernel
theorem dMM_parted_215 : decode prog_12_method_48_code 215 = .ok (.iconst 1, 1) := by decide +kernel
theorem dMM_parted_216 : decode prog_12_method_48_code 216 = .ok (.goto 4, 3) := by decide +kernel
theorem dMM_parted_219 : decode prog_12_method_48_code 219 = .ok (.iconst 0, 1) := by decide +kernel
theorem dMM_parted_220 : decode prog_12_method_48_code 220 = .ok (.iadd, 1) := by decide +kernel
theorem dMM_parted_221 : decode prog_12_method_48_code 221 = .ok (.ireturn, 1) := by decide +kernel
theorem dMM_about_0 : decode prog_12_method_49_code 0 = .ok (.iload_n 1, 1) := by decide +kernel
theorem dMM_about_1 : decode prog_12_method_49_code 1 = .ok (.bipush 10, 2) := by decide +kernel
theorem dMM_about_3 : decode prog_12_method_49_code 3 = .ok (.bipush 15, 2) := by decide +kernel
theorem dMM_about_5 : decode prog_12_method_49_code 5 = .ok (.invokestatic 109, 3) := by decide +kernel
theorem dMM_about_8 : decode prog_12_method_49_code 8 = .ok (.ifCond .eq 13, 3) := by decide +kernel
theorem dMM_about_11 : decode prog_12_method_49_code 11 = .ok (.aload_n 0, 1) := by decide +kernel
theorem dMM_about_12 : decode prog_12_method_49_code 12 = .ok (.getfield 16, 3) := by decide +kernel
theorem dMM_about_15 : decode prog_12_method_49_code 15 = .ok (.iload_n 1, 1) := by decide +kernel
theorem dMM_about_16 : decode prog_12_method_49_code 16 = .ok (.bipush 10, 2) := by decide +kernel
theorem dMM_about_18 : decode prog_12_method_49_code 18 = .ok (.isub, 1) := by decide +kernel
theorem dMM_about_19 : decode prog_12_method_49_code 19 = .ok (.iaload, 1) := by decide +kernel
theorem dMM_about_20 : decode prog_12_method_49_code 20 = .ok (.ireturn, 1) := by decide +kernel
theorem dMM_about_21 : decode prog_12_method_49_code 21 = .ok (.iconst 0, 1) := by decide +kernel
theorem dMM_about_22 : decode prog_12_method_49_code 22 = .ok (.istore_n 2, 1) := by decide +kernel
theorem dMM_about_23 : decode prog_12_method_49_code 23 = .ok (.iconst 0, 1) := by decide +kernel
theorem dMM_about_24 : decode prog_12_method_49_code 24 = .ok (.istore_n 3, 1) := by decide +kernel
theorem dMM_about_25 : decode prog_12_method_49_code 25 = .ok (.iload_n 3, 1) := by decide +kernel
theorem dMM_about_26 : decode prog_12_method_49_code 26 = .ok (.iconst 5, 1) := by decide +kernel
theorem dMM_about_27 : decode prog_12_method_49_code 27 = .ok (.if_icmp .ge 26, 3) := by decide +kernel
theorem dMM_about_30 : decode prog_12_method_49_code 30 = .ok (.iload_n 2, 1) := by decide +kernel
theorem dMM_about_31 : decode prog_12_method_49_code 31 = .ok (.aload_n 0, 1) := by decide +kernel
theorem dMM_about_32 : decode prog_12_method_49_code 32 = .ok (.getfield 26, 3) := by decide +kernel
theorem dMM_about_35 : decode prog_12_method_49_code 35 = .ok (.iload_n 3, 1) := by decide +kernel
theorem dMM_about_36 : decode prog_12_method_49_code 36 = .ok (.iaload, 1) := by decide +kernel
theorem dMM_about_37 : decode prog_12_method_49_code 37 = .ok (.ifCond .le 7, 3) := by decide +kernel
theorem dMM_about_40 : decode prog_12_method_49_code 40 = .ok (.iconst 1, 1) := by decide +kernel
theorem dMM_about_41 : decode prog_12_method_49_code 41 = .ok (.goto 4, 3) := by decide +kernel
theorem dMM_about_44 : decode prog_12_method_49_code 44 = .ok (.iconst 0, 1) := by decide +kernel
theorem dMM_about_45 : decode prog_12_method_49_code 45 = .ok (.iadd, 1) := by decide +kernel
theorem dMM_about_46 : decode prog_12_method_49_code 46 = .ok (.istore_n 2, 1) := by decide +kernel
theorem dMM_about_47 : decode prog_12_method_49_code 47 = .ok (.iinc 3 1, 3) := by decide +kernel
theorem dMM_about_50 : decode prog_12_method_49_code 50 = .ok (.goto (-25), 3) := by decide +kernel
theorem dMM_about_53 : decode prog_12_method_49_code 53 = .ok (.iload_n 1, 1) := by decide +kernel
theorem dMM_about_54 : decode prog_12_method_49_code 54 = .ok (.tableswitch 83 0 7 #[46, 51, 56, 61, 66, 71, 76, 81], 46) := by decide +kernel
theorem dMM_about_100 : decode prog_12_method_49_code 100 = .ok (.aload_n 0, 1) := by decide +kernel
theorem dMM_about_101 : decode prog_12_method_49_code 101 = .ok (.getfield 202, 3) := by decide +kernel
theorem dMM_about_104 : decode prog_12_method_49_code 104 = .ok (.ireturn, 1) := by decide +kernel
theorem dMM_about_105 : decode prog_12_method_49_code 105 = .ok (.aload_n 0, 1) := by decide +kernel
theorem dMM_about_106 : decode prog_12_method_49_code 106 = .ok (.getfield 205, 3) := by decide +kernel
theorem dMM_about_109 : decode prog_12_method_49_code 109 = .ok (.ireturn, 1) := by decide +kernel
theorem dMM_about_110 : decode prog_12_method_49_code 110 = .ok (.aload_n 0, 1) := by decide +kernel
theorem dMM_about_111 : decode prog_12_method_49_code 111 = .ok (.getfield 199, 3) := by decide +kernel
theorem dMM_about_114 : decode prog_12_method_49_code 114 = .ok (.ireturn, 1) := by decide +kernel
theorem dMM_about_115 : decode prog_12_method_49_code 115 = .ok (.aload_n 0, 1) := by decide +kernel
theorem dMM_about_116 : decode prog_12_method_49_code 116 = .ok (.getfield 208, 3) := by decide +kernel
theorem dMM_about_119 : decode prog_12_method_49_code 119 = .ok (.ireturn, 1) := by decide +kernel
theorem dMM_about_120 : decode prog_12_method_49_code 120 = .ok (.aload_n 0, 1) := by decide +kernel
theorem dMM_about_121 : decode prog_12_method_49_code 121 = .ok (.getfield 222, 3) := by decide +kernel
theorem dMM_about_124 : decode prog_12_method_49_code 124 = .ok (.ireturn, 1) := by decide +kernel
theorem dMM_about_125 : decode prog_12_method_49_code 125 = .ok (.aload_n 0, 1) := by decide +kernel
theorem dMM_about_126 : decode prog_12_method_49_code 126 = .ok (.getfield 19, 3) := by decide +kernel
theorem dMM_about_129 : decode prog_12_method_49_code 129 = .ok (.ireturn, 1) := by decide +kernel
theorem dMM_about_130 : decode prog_12_method_49_code 130 = .ok (.aload_n 0, 1) := by decide +kernel
theorem dMM_about_131 : decode prog_12_method_49_code 131 = .ok (.getfield 128, 3) := by decide +kernel
theorem dMM_about_134 : decode prog_12_method_49_code 134 = .ok (.ireturn, 1) := by decide +kernel
theorem dMM_about_135 : decode prog_12_method_49_code 135 = .ok (.iload_n 2, 1) := by decide +kernel
theorem dMM_about_136 : decode prog_12_method_49_code 136 = .ok (.ireturn, 1) := by decide +kernel
theorem dMM_about_137 : decode prog_12_method_49_code 137 = .ok (.iconst (-1), 1) := by decide +kernel
theorem dMM_about_138 : decode prog_12_method_49_code 138 = .ok (.ireturn, 1) := by decide +kernel
