theorem dX7_order_125 : decode cX7_order 125 = .ok (.if_icmp .ne 19, 3) := by decide +kernel
theorem dX7_order_128 : decode cX7_order 128 = .ok (.iload_n 1, 1) := by decide +kernel
theorem dX7_order_129 : decode cX7_order 129 = .ok (.ifCond .lt 11, 3) := by decide +kernel
theorem dX7_order_132 : decode cX7_order 132 = .ok (.iload 6, 2) := by decide +kernel
theorem dX7_order_134 : decode cX7_order 134 = .ok (.iload_n 3, 1) := by decide +kernel
theorem dX7_order_135 : decode cX7_order 135 = .ok (.irem, 1) := by decide +kernel
theorem dX7_order_136 : decode cX7_order 136 = .ok (.iload_n 1, 1) := by decide +kernel
theorem dX7_order_137 : decode cX7_order 137 = .ok (.if_icmp .ne 7, 3) := by decide +kernel
theorem dX7_order_140 : decode cX7_order 140 = .ok (.iconst 1, 1) := by decide +kernel
theorem dX7_order_141 : decode cX7_order 141 = .ok (.goto 4, 3) := by decide +kernel
theorem dX7_order_144 : decode cX7_order 144 = .ok (.iconst 0, 1) := by decide +kernel
theorem dX7_order_145 : decode cX7_order 145 = .ok (.istore 9, 2) := by decide +kernel
theorem dX7_order_147 : decode cX7_order 147 = .ok (.iload 4, 2) := by decide +kernel
theorem dX7_order_149 : decode cX7_order 149 = .ok (.istore 10, 2) := by decide +kernel
theorem dX7_order_151 : decode cX7_order 151 = .ok (.iconst 0, 1) := by decide +kernel
theorem dX7_order_152 : decode cX7_order 152 = .ok (.istore 11, 2) := by decide +kernel
theorem dX7_order_154 : decode cX7_order 154 = .ok (.iload 11, 2) := by decide +kernel
theorem dX7_order_156 : decode cX7_order 156 = .ok (.iload_n 3, 1) := by decide +kernel
theorem dX7_order_157 : decode cX7_order 157 = .ok (.if_icmp .ge 63, 3) := by decide +kernel
theorem dX7_order_160 : decode cX7_order 160 = .ok (.iload 9, 2) := by decide +kernel
theorem dX7_order_162 : decode cX7_order 162 = .ok (.ifCond .eq 58, 3) := by decide +kernel
theorem dX7_order_165 : decode cX7_order 165 = .ok (.iload 10, 2) := by decide +kernel
theorem dX7_order_167 : decode cX7_order 167 = .ok (.iload_n 3, 1) := by decide +kernel
theorem dX7_order_168 : decode cX7_order 168 = .ok (.idiv, 1) := by decide +kernel
theorem dX7_order_169 : decode cX7_order 169 = .ok (.istore 10, 2) := by decide +kernel
theorem dX7_order_171 : decode cX7_order 171 = .ok (.iload 6, 2) := by decide +kernel
theorem dX7_order_173 : decode cX7_order 173 = .ok (.iload 10, 2) := by decide +kernel
theorem dX7_order_175 : decode cX7_order 175 = .ok (.idiv, 1) := by decide +kernel
theorem dX7_order_176 : decode cX7_order 176 = .ok (.iload_n 3, 1) := by decide +kernel
theorem dX7_order_177 : decode cX7_order 177 = .ok (.irem, 1) := by decide +kernel
theorem dX7_order_178 : decode cX7_order 178 = .ok (.istore 12, 2) := by decide +kernel
theorem dX7_order_180 : decode cX7_order 180 = .ok (.aload_n 0, 1) := by decide +kernel
theorem dX7_order_181 : decode cX7_order 181 = .ok (.iload 12, 2) := by decide +kernel
theorem dX7_order_183 : decode cX7_order 183 = .ok (.invokevirtual 119, 3) := by decide +kernel
theorem dX7_order_186 : decode cX7_order 186 = .ok (.istore 9, 2) := by decide +kernel
theorem dX7_order_188 : decode cX7_order 188 = .ok (.iload 9, 2) := by decide +kernel
theorem dX7_order_190 : decode cX7_order 190 = .ok (.ifCond .eq 9, 3) := by decide +kernel
theorem dX7_order_193 : decode cX7_order 193 = .ok (.aload_n 0, 1) := by decide +kernel
theorem dX7_order_194 : decode cX7_order 194 = .ok (.iload 12, 2) := by decide +kernel
theorem dX7_order_196 : decode cX7_order 196 = .ok (.invokevirtual 125, 3) := by decide +kernel
theorem dX7_order_199 : decode cX7_order 199 = .ok (.iload 11, 2) := by decide +kernel
theorem dX7_order_201 : decode cX7_order 201 = .ok (.iload_n 2, 1) := by decide +kernel
theorem dX7_order_202 : decode cX7_order 202 = .ok (.if_icmp .ne 8, 3) := by decide +kernel
theorem dX7_order_205 : decode cX7_order 205 = .ok (.iload 12, 2) := by decide +kernel
theorem dX7_order_207 : decode cX7_order 207 = .ok (.goto 5, 3) := by decide +kernel
theorem dX7_order_210 : decode cX7_order 210 = .ok (.iload 5, 2) := by decide +kernel
theorem dX7_order_212 : decode cX7_order 212 = .ok (.istore 5, 2) := by decide +kernel
theorem dX7_order_214 : decode cX7_order 214 = .ok (.iinc 11 1, 3) := by decide +kernel
theorem dX7_order_217 : decode cX7_order 217 = .ok (.goto (-63), 3) := by decide +kernel
theorem dX7_order_220 : decode cX7_order 220 = .ok (.iload 9, 2) := by decide +kernel
theorem dX7_order_222 : decode cX7_order 222 = .ok (.ifCond .eq 8, 3) := by decide +kernel
theorem dX7_order_225 : decode cX7_order 225 = .ok (.iload 5, 2) := by decide +kernel
theorem dX7_order_227 : decode cX7_order 227 = .ok (.goto 5, 3) := by decide +kernel
theorem dX7_order_230 : decode cX7_order 230 = .ok (.bipush (-9), 2) := by decide +kernel
theorem dX7_order_232 : decode cX7_order 232 = .ok (.istore 5, 2) := by decide +kernel
theorem dX7_order_234 : decode cX7_order 234 = .ok (.aload_n 0, 1) := by decide +kernel
theorem dX7_order_235 : decode cX7_order 235 = .ok (.invokevirtual 137, 3) := by decide +kernel
theorem dX7_order_238 : decode cX7_order 238 = .ok (.iinc 6 1, 3) := by decide +kernel
theorem dX7_order_241 : decode cX7_order 241 = .ok (.goto (-176), 3) := by decide +kernel
theorem dX7_order_244 : decode cX7_order 244 = .ok (.iload 5, 2) := by decide +kernel
theorem dX7_order_246 : decode cX7_order 246 = .ok (.ireturn, 1) := by decide +kernel
theorem dX7_lastOne_0 : decode cX7_lastOne 0 = .ok (.aload_n 0, 1) := by decide +kernel
theorem dX7_lastOne_1 : decode cX7_lastOne 1 = .ok (.invokevirtual 134, 3) := by decide +kernel
theorem dX7_lastOne_4 : decode cX7_lastOne 4 = .ok (.bipush (-9), 2) := by decide +kernel
theorem dX7_lastOne_6 : decode cX7_lastOne 6 = .ok (.istore_n 1, 1) := by decide +kernel
theorem dX7_lastOne_7 : decode cX7_lastOne 7 = .ok (.iconst 0, 1) := by decide +kernel
theorem dX7_lastOne_8 : decode cX7_lastOne 8 = .ok (.istore_n 2, 1) := by decide +kernel
theorem dX7_lastOne_9 : decode cX7_lastOne 9 = .ok (.iload_n 2, 1) := by decide +kernel
theorem dX7_lastOne_10 : decode cX7_lastOne 10 = .ok (.aload_n 0, 1) := by decide +kernel
theorem dX7_lastOne_11 : decode cX7_lastOne 11 = .ok (.getfield 13, 3) := by decide +kernel
theorem dX7_lastOne_14 : decode cX7_lastOne 14 = .ok (.iconst 0, 1) := by decide +kernel
theorem dX7_lastOne_15 : decode cX7_lastOne 15 = .ok (.iaload, 1) := by decide +kernel
theorem dX7_lastOne_16 : decode cX7_lastOne 16 = .ok (.if_icmp .ge 33, 3) := by decide +kernel
theorem dX7_lastOne_19 : decode cX7_lastOne 19 = .ok (.iload_n 1, 1) := by decide +kernel
theorem dX7_lastOne_20 : decode cX7_lastOne 20 = .ok (.bipush (-9), 2) := by decide +kernel
theorem dX7_lastOne_22 : decode cX7_lastOne 22 = .ok (.if_icmp .ne 27, 3) := by decide +kernel
theorem dX7_lastOne_25 : decode cX7_lastOne 25 = .ok (.aload_n 0, 1) := by decide +kernel
theorem dX7_lastOne_26 : decode cX7_lastOne 26 = .ok (.iload_n 2, 1) := by decide +kernel
theorem dX7_lastOne_27 : decode cX7_lastOne 27 = .ok (.invokevirtual 119, 3) := by decide +kernel
theorem dX7_lastOne_30 : decode cX7_lastOne 30 = .ok (.ifCond .eq 11, 3) := by decide +kernel
theorem dX7_lastOne_33 : decode cX7_lastOne 33 = .ok (.aload_n 0, 1) := by decide +kernel
theorem dX7_lastOne_34 : decode cX7_lastOne 34 = .ok (.iload_n 2, 1) := by decide +kernel
theorem dX7_lastOne_35 : decode cX7_lastOne 35 = .ok (.invokevirtual 125, 3) := by decide +kernel
theorem dX7_lastOne_38 : decode cX7_lastOne 38 = .ok (.goto 5, 3) := by decide +kernel
theorem dX7_lastOne_41 : decode cX7_lastOne 41 = .ok (.iload_n 2, 1) := by decide +kernel
theorem dX7_lastOne_42 : decode cX7_lastOne 42 = .ok (.istore_n 1, 1) := by decide +kernel
theorem dX7_lastOne_43 : decode cX7_lastOne 43 = .ok (.iinc 2 1, 3) := by decide +kernel
theorem dX7_lastOne_46 : decode cX7_lastOne 46 = .ok (.goto (-37), 3) := by decide +kernel
theorem dX7_lastOne_49 : decode cX7_lastOne 49 = .ok (.aload_n 0, 1) := by decide +kernel
theorem dX7_lastOne_50 : decode cX7_lastOne 50 = .ok (.invokevirtual 137, 3) := by decide +kernel
theorem dX7_lastOne_53 : decode cX7_lastOne 53 = .ok (.iload_n 1, 1) := by decide +kernel
theorem dX7_lastOne_54 : decode cX7_lastOne 54 = .ok (.ireturn, 1) := by decide +kernel
theorem dX7_crossings_0 : decode cX7_crossings 0 = .ok (.aload_n 0, 1) := by decide +kernel
theorem dX7_crossings_1 : decode cX7_crossings 1 = .ok (.iload_n 1, 1) := by decide +kernel
theorem dX7_crossings_2 : decode cX7_crossings 2 = .ok (.invokevirtual 91, 3) := by decide +kernel
theorem dX7_crossings_5 : decode cX7_crossings 5 = .ok (.ifCond .ne 5, 3) := by decide +kernel
theorem dX7_crossings_8 : decode cX7_crossings 8 = .ok (.iconst (-1), 1) := by decide +kernel
theorem dX7_crossings_9 : decode cX7_crossings 9 = .ok (.ireturn, 1) := by decide +kernel
theorem dX7_crossings_10 : decode cX7_crossings 10 = .ok (.aload_n 0, 1) := by decide +kernel
theorem dX7_crossings_11 : decode cX7_crossings 11 = .ok (.invokevirtual 134, 3) := by decide +kernel
theorem dX7_crossings_14 : decode cX7_crossings 14 = .ok (.iconst 0, 1) := by decide +kernel
theorem dX7_crossings_15 : decode cX7_crossings 15 = .ok (.istore_n 2, 1) := by decide +kernel
theorem dX7_crossings_16 : decode cX7_crossings 16 = .ok (.iload_n 2, 1) := by decide +kernel
theorem dX7_crossings_17 : decode cX7_crossings 17 = .ok (.bipush 30, 2) := by decide +kernel
theorem dX7_crossings_19 : decode cX7_crossings 19 = .ok (.if_icmp .ge 22, 3) := by decide +kernel
theorem dX7_crossings_22 : decode cX7_crossings 22 = .ok (.aload_n 0, 1) := by decide +kernel
theorem dX7_crossings_23 : decode cX7_crossings 23 = .ok (.iload_n 1, 1) := by decide +kernel
theorem dX7_crossings_24 : decode cX7_crossings 24 = .ok (.invokevirtual 119, 3) := by decide +kernel
theorem dX7_crossings_27 : decode cX7_crossings 27 = .ok (.ifCond .eq 14, 3) := by decide +kernel
theorem dX7_crossings_30 : decode cX7_crossings 30 = .ok (.aload_n 0, 1) := by decide +kernel
theorem dX7_crossings_31 : decode cX7_crossings 31 = .ok (.iload_n 1, 1) := by decide +kernel
theorem dX7_crossings_32 : decode cX7_crossings 32 = .ok (.invokevirtual 125, 3) := by decide +kernel
theorem dX7_crossings_35 : decode cX7_crossings 35 = .ok (.iinc 2 1, 3) := by decide +kernel
theorem dX7_crossings_38 : decode cX7_crossings 38 = .ok (.goto (-22), 3) := by decide +kernel
theorem dX7_crossings_41 : decode cX7_crossings 41 = .ok (.aload_n 0, 1) := by decide +kernel
theorem dX7_crossings_42 : decode cX7_crossings 42 = .ok (.invokevirtual 137, 3) := by decide +kernel
theorem dX7_crossings_45 : decode cX7_crossings 45 = .ok (.iload_n 2, 1) := by decide +kernel
theorem dX7_crossings_46 : decode cX7_crossings 46 = .ok (.ireturn, 1) := by decide +kernel
theorem dX7_over_0 : decode cX7_over 0 = .ok (.aload_n 0, 1) := by decide +kernel
theorem dX7_over_1 : decode cX7_over 1 = .ok (.iload_n 1, 1) := by decide +kernel
theorem dX7_over_2 : decode cX7_over 2 = .ok (.invokevirtual 91, 3) := by decide +kernel
theorem dX7_over_5 : decode cX7_over 5 = .ok (.ifCond .ne 5, 3) := by decide +kernel
theorem dX7_over_8 : decode cX7_over 8 = .ok (.iconst (-1), 1) := by decide +kernel
theorem dX7_over_9 : decode cX7_over 9 = .ok (.ireturn, 1) := by decide +kernel
theorem dX7_over_10 : decode cX7_over 10 = .ok (.aload_n 0, 1) := by decide +kernel
theorem dX7_over_11 : decode cX7_over 11 = .ok (.invokevirtual 134, 3) := by decide +kernel
theorem dX7_over_14 : decode cX7_over 14 = .ok (.bipush (-9), 2) := by decide +kernel
theorem dX7_over_16 : decode cX7_over 16 = .ok (.istore_n 2, 1) := by decide +kernel
theorem dX7_over_17 : decode cX7_over 17 = .ok (.iconst 0, 1) := by decide +kernel
theorem dX7_over_18 : decode cX7_over 18 = .ok (.istore_n 3, 1) := by decide +kernel
theorem dX7_over_19 : decode cX7_over 19 = .ok (.iload_n 3, 1) := by decide +kernel
theorem dX7_over_20 : decode cX7_over 20 = .ok (.bipush 61, 2) := by decide +kernel
theorem dX7_over_22 : decode cX7_over 22 = .ok (.if_icmp .ge 34, 3) := by decide +kernel
theorem dX7_over_25 : decode cX7_over 25 = .ok (.iload_n 2, 1) := by decide +kernel
theorem dX7_over_26 : decode cX7_over 26 = .ok (.bipush (-9), 2) := by decide +kernel
theorem dX7_over_28 : decode cX7_over 28 = .ok (.if_icmp .ne 28, 3) := by decide +kernel
theorem dX7_over_31 : decode cX7_over 31 = .ok (.aload_n 0, 1) := by decide +kernel
theorem dX7_over_32 : decode cX7_over 32 = .ok (.iload_n 1, 1) := by decide +kernel
theorem dX7_over_33 : decode cX7_over 33 = .ok (.invokevirtual 119, 3) := by decide +kernel
theorem dX7_over_36 : decode cX7_over 36 = .ok (.ifCond .eq 8, 3) := by decide +kernel
theorem dX7_over_39 : decode cX7_over 39 = .ok (.bipush (-9), 2) := by decide +kernel
theorem dX7_over_41 : decode cX7_over 41 = .ok (.goto 4, 3) := by decide +kernel
theorem dX7_over_44 : decode cX7_over 44 = .ok (.iload_n 3, 1) := by decide +kernel
theorem dX7_over_45 : decode cX7_over 45 = .ok (.istore_n 2, 1) := by decide +kernel
theorem dX7_over_46 : decode cX7_over 46 = .ok (.aload_n 0, 1) := by decide +kernel
theorem dX7_over_47 : decode cX7_over 47 = .ok (.invokevirtual 128, 3) := by decide +kernel
theorem dX7_over_50 : decode cX7_over 50 = .ok (.iinc 3 1, 3) := by decide +kernel
theorem dX7_over_53 : decode cX7_over 53 = .ok (.goto (-34), 3) := by decide +kernel
theorem dX7_over_56 : decode cX7_over 56 = .ok (.aload_n 0, 1) := by decide +kernel
theorem dX7_over_57 : decode cX7_over 57 = .ok (.invokevirtual 137, 3) := by decide +kernel
theorem dX7_over_60 : decode cX7_over 60 = .ok (.iload_n 2, 1) := by decide +kernel
theorem dX7_over_61 : decode cX7_over 61 = .ok (.ireturn, 1) := by decide +kernel
theorem dX7_mend_0 : decode cX7_mend 0 = .ok (.aload_n 0, 1) := by decide +kernel
theorem dX7_mend_1 : decode cX7_mend 1 = .ok (.iload_n 1, 1) := by decide +kernel
theorem dX7_mend_2 : decode cX7_mend 2 = .ok (.invokevirtual 91, 3) := by decide +kernel
theorem dX7_mend_5 : decode cX7_mend 5 = .ok (.ifCond .eq 12, 3) := by decide +kernel
theorem dX7_mend_8 : decode cX7_mend 8 = .ok (.iload_n 2, 1) := by decide +kernel
theorem dX7_mend_9 : decode cX7_mend 9 = .ok (.iconst 0, 1) := by decide +kernel
theorem dX7_mend_10 : decode cX7_mend 10 = .ok (.iconst 1, 1) := by decide +kernel
theorem dX7_mend_11 : decode cX7_mend 11 = .ok (.invokestatic 42, 3) := by decide +kernel
theorem dX7_mend_14 : decode cX7_mend 14 = .ok (.ifCond .ne 5, 3) := by decide +kernel
theorem dX7_mend_17 : decode cX7_mend 17 = .ok (.iconst (-1), 1) := by decide +kernel
theorem dX7_mend_18 : decode cX7_mend 18 = .ok (.ireturn, 1) := by decide +kernel
theorem dX7_mend_19 : decode cX7_mend 19 = .ok (.aload_n 0, 1) := by decide +kernel
theorem dX7_mend_20 : decode cX7_mend 20 = .ok (.getfield 13, 3) := by decide +kernel
theorem dX7_mend_23 : decode cX7_mend 23 = .ok (.bipush 6, 2) := by decide +kernel
theorem dX7_mend_25 : decode cX7_mend 25 = .ok (.iload_n 1, 1) := by decide +kernel
theorem dX7_mend_26 : decode cX7_mend 26 = .ok (.iadd, 1) := by decide +kernel
theorem dX7_mend_27 : decode cX7_mend 27 = .ok (.iaload, 1) := by decide +kernel
theorem dX7_mend_28 : decode cX7_mend 28 = .ok (.iconst 1, 1) := by decide +kernel
theorem dX7_mend_29 : decode cX7_mend 29 = .ok (.iadd, 1) := by decide +kernel
theorem dX7_mend_30 : decode cX7_mend 30 = .ok (.iconst 2, 1) := by decide +kernel
theorem dX7_mend_31 : decode cX7_mend 31 = .ok (.idiv, 1) := by decide +kernel
theorem dX7_mend_32 : decode cX7_mend 32 = .ok (.istore_n 3, 1) := by decide +kernel
theorem dX7_mend_33 : decode cX7_mend 33 = .ok (.iconst 0, 1) := by decide +kernel
theorem dX7_mend_34 : decode cX7_mend 34 = .ok (.istore 4, 2) := by decide +kernel
theorem dX7_mend_36 : decode cX7_mend 36 = .ok (.aload_n 0, 1) := by decide +kernel
theorem dX7_mend_37 : decode cX7_mend 37 = .ok (.getfield 19, 3) := by decide +kernel
theorem dX7_mend_40 : decode cX7_mend 40 = .ok (.iconst 0, 1) := by decide +kernel
theorem dX7_mend_41 : decode cX7_mend 41 = .ok (.iaload, 1) := by decide +kernel
theorem dX7_mend_42 : decode cX7_mend 42 = .ok (.iload 4, 2) := by decide +kernel
theorem dX7_mend_44 : decode cX7_mend 44 = .ok (.iadd, 1) := by decide +kernel
theorem dX7_mend_45 : decode cX7_mend 45 = .ok (.aload_n 0, 1) := by decide +kernel
theorem dX7_mend_46 : decode cX7_mend 46 = .ok (.getfield 19, 3) := by decide +kernel
theorem dX7_mend_49 : decode cX7_mend 49 = .ok (.iconst 1, 1) := by decide +kernel
theorem dX7_mend_50 : decode cX7_mend 50 = .ok (.iaload, 1) := by decide +kernel
theorem dX7_mend_51 : decode cX7_mend 51 = .ok (.invokestatic 103, 3) := by decide +kernel
theorem dX7_mend_54 : decode cX7_mend 54 = .ok (.aload_n 0, 1) := by decide +kernel
theorem dX7_mend_55 : decode cX7_mend 55 = .ok (.getfield 13, 3) := by decide +kernel
theorem dX7_mend_58 : decode cX7_mend 58 = .ok (.iconst 1, 1) := by decide +kernel
theorem dX7_mend_59 : decode cX7_mend 59 = .ok (.iaload, 1) := by decide +kernel
theorem dX7_mend_60 : decode cX7_mend 60 = .ok (.if_icmp .ge 9, 3) := by decide +kernel
theorem dX7_mend_63 : decode cX7_mend 63 = .ok (.iinc 4 1, 3) := by decide +kernel
theorem dX7_mend_66 : decode cX7_mend 66 = .ok (.goto (-30), 3) := by decide +kernel
theorem dX7_mend_69 : decode cX7_mend 69 = .ok (.aload_n 0, 1) := by decide +kernel
theorem dX7_mend_70 : decode cX7_mend 70 = .ok (.getfield 19, 3) := by decide +kernel
theorem dX7_mend_73 : decode cX7_mend 73 = .ok (.iconst 0, 1) := by decide +kernel
theorem dX7_mend_74 : decode cX7_mend 74 = .ok (.iaload, 1) := by decide +kernel
theorem dX7_mend_75 : decode cX7_mend 75 = .ok (.iload 4, 2) := by decide +kernel
theorem dX7_mend_77 : decode cX7_mend 77 = .ok (.iadd, 1) := by decide +kernel
theorem dX7_mend_78 : decode cX7_mend 78 = .ok (.aload_n 0, 1) := by decide +kernel
theorem dX7_mend_79 : decode cX7_mend 79 = .ok (.getfield 19, 3) := by decide +kernel
theorem dX7_mend_82 : decode cX7_mend 82 = .ok (.iconst 1, 1) := by decide +kernel
theorem dX7_mend_83 : decode cX7_mend 83 = .ok (.iaload, 1) := by decide +kernel
theorem dX7_mend_84 : decode cX7_mend 84 = .ok (.invokestatic 103, 3) := by decide +kernel
theorem dX7_mend_87 : decode cX7_mend 87 = .ok (.aload_n 0, 1) := by decide +kernel
theorem dX7_mend_88 : decode cX7_mend 88 = .ok (.getfield 13, 3) := by decide +kernel
theorem dX7_mend_91 : decode cX7_mend 91 = .ok (.iconst 1, 1) := by decide +kernel
theorem dX7_mend_92 : decode cX7_mend 92 = .ok (.iaload, 1) := by decide +kernel
theorem dX7_mend_93 : decode cX7_mend 93 = .ok (.aload_n 0, 1) := by decide +kernel
theorem dX7_mend_94 : decode cX7_mend 94 = .ok (.getfield 13, 3) := by decide +kernel
theorem dX7_mend_97 : decode cX7_mend 97 = .ok (.iconst 2, 1) := by decide +kernel
theorem dX7_mend_98 : decode cX7_mend 98 = .ok (.iaload, 1) := by decide +kernel
theorem dX7_mend_99 : decode cX7_mend 99 = .ok (.iadd, 1) := by decide +kernel
theorem dX7_mend_100 : decode cX7_mend 100 = .ok (.if_icmp .le 6, 3) := by decide +kernel
theorem dX7_mend_103 : decode cX7_mend 103 = .ok (.bipush (-5), 2) := by decide +kernel
theorem dX7_mend_105 : decode cX7_mend 105 = .ok (.ireturn, 1) := by decide +kernel
theorem dX7_mend_106 : decode cX7_mend 106 = .ok (.iload 4, 2) := by decide +kernel
theorem dX7_mend_108 : decode cX7_mend 108 = .ok (.iload_n 3, 1) := by decide +kernel
theorem dX7_mend_109 : decode cX7_mend 109 = .ok (.imul, 1) := by decide +kernel
theorem dX7_mend_110 : decode cX7_mend 110 = .ok (.istore 5, 2) := by decide +kernel
theorem dX7_mend_112 : decode cX7_mend 112 = .ok (.iconst 0, 1) := by decide +kernel
theorem dX7_mend_113 : decode cX7_mend 113 = .ok (.istore 6, 2) := by decide +kernel
theorem dX7_mend_115 : decode cX7_mend 115 = .ok (.iload 6, 2) := by decide +kernel
theorem dX7_mend_117 : decode cX7_mend 117 = .ok (.aload_n 0, 1) := by decide +kernel
theorem dX7_mend_118 : decode cX7_mend 118 = .ok (.getfield 19, 3) := by decide +kernel
theorem dX7_mend_121 : decode cX7_mend 121 = .ok (.iconst 0, 1) := by decide +kernel
theorem dX7_mend_122 : decode cX7_mend 122 = .ok (.iaload, 1) := by decide +kernel
theorem dX7_mend_123 : decode cX7_mend 123 = .ok (.if_icmp .ge 52, 3) := by decide +kernel
theorem dX7_mend_126 : decode cX7_mend 126 = .ok (.iload_n 3, 1) := by decide +kernel
theorem dX7_mend_127 : decode cX7_mend 127 = .ok (.aload_n 0, 1) := by decide +kernel
theorem dX7_mend_128 : decode cX7_mend 128 = .ok (.getfield 19, 3) := by decide +kernel
theorem dX7_mend_131 : decode cX7_mend 131 = .ok (.bipush 43, 2) := by decide +kernel
theorem dX7_mend_133 : decode cX7_mend 133 = .ok (.iload 6, 2) := by decide +kernel
theorem dX7_mend_135 : decode cX7_mend 135 = .ok (.iadd, 1) := by decide +kernel
theorem dX7_mend_136 : decode cX7_mend 136 = .ok (.iaload, 1) := by decide +kernel
theorem dX7_mend_137 : decode cX7_mend 137 = .ok (.aload_n 0, 1) := by decide +kernel
theorem dX7_mend_138 : decode cX7_mend 138 = .ok (.getfield 19, 3) := by decide +kernel
theorem dX7_mend_141 : decode cX7_mend 141 = .ok (.bipush 83, 2) := by decide +kernel
theorem dX7_mend_143 : decode cX7_mend 143 = .ok (.iload 6, 2) := by decide +kernel
theorem dX7_mend_145 : decode cX7_mend 145 = .ok (.iadd, 1) := by decide +kernel
theorem dX7_mend_146 : decode cX7_mend 146 = .ok (.iaload, 1) := by decide +kernel
theorem dX7_mend_147 : decode cX7_mend 147 = .ok (.iconst 4, 1) := by decide +kernel
theorem dX7_mend_148 : decode cX7_mend 148 = .ok (.idiv, 1) := by decide +kernel
theorem dX7_mend_149 : decode cX7_mend 149 = .ok (.isub, 1) := by decide +kernel
theorem dX7_mend_150 : decode cX7_mend 150 = .ok (.isub, 1) := by decide +kernel
theorem dX7_mend_151 : decode cX7_mend 151 = .ok (.istore 7, 2) := by decide +kernel
theorem dX7_mend_153 : decode cX7_mend 153 = .ok (.iload 5, 2) := by decide +kernel
theorem dX7_mend_155 : decode cX7_mend 155 = .ok (.iload 7, 2) := by decide +kernel
theorem dX7_mend_157 : decode cX7_mend 157 = .ok (.ifCond .le 8, 3) := by decide +kernel
theorem dX7_mend_160 : decode cX7_mend 160 = .ok (.iload 7, 2) := by decide +kernel
theorem dX7_mend_162 : decode cX7_mend 162 = .ok (.goto 4, 3) := by decide +kernel
theorem dX7_mend_165 : decode cX7_mend 165 = .ok (.iconst 0, 1) := by decide +kernel
theorem dX7_mend_166 : decode cX7_mend 166 = .ok (.iadd, 1) := by decide +kernel
theorem dX7_mend_167 : decode cX7_mend 167 = .ok (.istore 5, 2) := by decide +kernel
theorem dX7_mend_169 : decode cX7_mend 169 = .ok (.iinc 6 1, 3) := by decide +kernel
theorem dX7_mend_172 : decode cX7_mend 172 = .ok (.goto (-57), 3) := by decide +kernel
theorem dX7_mend_175 : decode cX7_mend 175 = .ok (.iload_n 2, 1) := by decide +kernel
theorem dX7_mend_176 : decode cX7_mend 176 = .ok (.ifCond .ne 8, 3) := by decide +kernel
theorem dX7_mend_179 : decode cX7_mend 179 = .ok (.iload 5, 2) := by decide +kernel
theorem dX7_mend_181 : decode cX7_mend 181 = .ok (.goto 5, 3) := by decide +kernel
theorem dX7_mend_184 : decode cX7_mend 184 = .ok (.iload 4, 2) := by decide +kernel
theorem dX7_mend_186 : decode cX7_mend 186 = .ok (.ireturn, 1) := by decide +kernel
theorem dX7_odds_0 : decode cX7_odds 0 = .ok (.aload_n 0, 1) := by decide +kernel
theorem dX7_odds_1 : decode cX7_odds 1 = .ok (.iload_n 1, 1) := by decide +kernel
theorem dX7_odds_2 : decode cX7_odds 2 = .ok (.invokevirtual 91, 3) := by decide +kernel
theorem dX7_odds_5 : decode cX7_odds 5 = .ok (.ifCond .eq 33, 3) := by decide +kernel
theorem dX7_odds_8 : decode cX7_odds 8 = .ok (.iload_n 2, 1) := by decide +kernel
theorem dX7_odds_9 : decode cX7_odds 9 = .ok (.iconst 0, 1) := by decide +kernel
theorem dX7_odds_10 : decode cX7_odds 10 = .ok (.bipush 10, 2) := by decide +kernel
theorem dX7_odds_12 : decode cX7_odds 12 = .ok (.invokestatic 42, 3) := by decide +kernel
theorem dX7_odds_15 : decode cX7_odds 15 = .ok (.ifCond .eq 23, 3) := by decide +kernel
theorem dX7_odds_18 : decode cX7_odds 18 = .ok (.iload_n 3, 1) := by decide +kernel
theorem dX7_odds_19 : decode cX7_odds 19 = .ok (.iconst 0, 1) := by decide +kernel
theorem dX7_odds_20 : decode cX7_odds 20 = .ok (.bipush 6, 2) := by decide +kernel
theorem dX7_odds_22 : decode cX7_odds 22 = .ok (.invokestatic 42, 3) := by decide +kernel
theorem dX7_odds_25 : decode cX7_odds 25 = .ok (.ifCond .eq 13, 3) := by decide +kernel
theorem dX7_odds_28 : decode cX7_odds 28 = .ok (.iload 4, 2) := by decide +kernel
theorem dX7_odds_30 : decode cX7_odds 30 = .ok (.iconst 0, 1) := by decide +kernel
theorem dX7_odds_31 : decode cX7_odds 31 = .ok (.iconst 1, 1) := by decide +kernel
theorem dX7_odds_32 : decode cX7_odds 32 = .ok (.invokestatic 42, 3) := by decide +kernel
theorem dX7_odds_35 : decode cX7_odds 35 = .ok (.ifCond .ne 5, 3) := by decide +kernel
theorem dX7_odds_38 : decode cX7_odds 38 = .ok (.iconst (-1), 1) := by decide +kernel
theorem dX7_odds_39 : decode cX7_odds 39 = .ok (.ireturn, 1) := by decide +kernel
theorem dX7_odds_40 : decode cX7_odds 40 = .ok (.aload_n 0, 1) := by decide +kernel
theorem dX7_odds_41 : decode cX7_odds 41 = .ok (.invokevirtual 134, 3) := by decide +kernel
theorem dX7_odds_44 : decode cX7_odds 44 = .ok (.iconst 1, 1) := by decide +kernel
theorem dX7_odds_45 : decode cX7_odds 45 = .ok (.istore 5, 2) := by decide +kernel
theorem dX7_odds_47 : decode cX7_odds 47 = .ok (.iconst 1, 1) := by decide +kernel
theorem dX7_odds_48 : decode cX7_odds 48 = .ok (.istore 6, 2) := by decide +kernel
theorem dX7_odds_50 : decode cX7_odds 50 = .ok (.iconst 0, 1) := by decide +kernel
theorem dX7_odds_51 : decode cX7_odds 51 = .ok (.istore 7, 2) := by decide +kernel
theorem dX7_odds_53 : decode cX7_odds 53 = .ok (.iload 7, 2) := by decide +kernel
theorem dX7_odds_55 : decode cX7_odds 55 = .ok (.iload_n 3, 1) := by decide +kernel
theorem dX7_odds_56 : decode cX7_odds 56 = .ok (.if_icmp .ge 77, 3) := by decide +kernel
theorem dX7_odds_59 : decode cX7_odds 59 = .ok (.aload_n 0, 1) := by decide +kernel
theorem dX7_odds_60 : decode cX7_odds 60 = .ok (.invokevirtual 128, 3) := by decide +kernel
theorem dX7_odds_63 : decode cX7_odds 63 = .ok (.aload_n 0, 1) := by decide +kernel
theorem dX7_odds_64 : decode cX7_odds 64 = .ok (.getfield 19, 3) := by decide +kernel
theorem dX7_odds_67 : decode cX7_odds 67 = .ok (.iconst 1, 1) := by decide +kernel
theorem dX7_odds_68 : decode cX7_odds 68 = .ok (.iconst 1, 1) := by decide +kernel
theorem dX7_odds_69 : decode cX7_odds 69 = .ok (.iastore, 1) := by decide +kernel
theorem dX7_odds_70 : decode cX7_odds 70 = .ok (.aload_n 0, 1) := by decide +kernel
theorem dX7_odds_71 : decode cX7_odds 71 = .ok (.iload_n 1, 1) := by decide +kernel
theorem dX7_odds_72 : decode cX7_odds 72 = .ok (.invokevirtual 119, 3) := by decide +kernel
theorem dX7_odds_75 : decode cX7_odds 75 = .ok (.ifCond .eq 7, 3) := by decide +kernel
theorem dX7_odds_78 : decode cX7_odds 78 = .ok (.iload_n 2, 1) := by decide +kernel
theorem dX7_odds_79 : decode cX7_odds 79 = .ok (.goto 4, 3) := by decide +kernel
theorem dX7_odds_82 : decode cX7_odds 82 = .ok (.iconst 0, 1) := by decide +kernel
theorem dX7_odds_83 : decode cX7_odds 83 = .ok (.istore 8, 2) := by decide +kernel
theorem dX7_odds_85 : decode cX7_odds 85 = .ok (.aload_n 0, 1) := by decide +kernel
theorem dX7_odds_86 : decode cX7_odds 86 = .ok (.getfield 19, 3) := by decide +kernel
theorem dX7_odds_89 : decode cX7_odds 89 = .ok (.iconst 1, 1) := by decide +kernel
theorem dX7_odds_90 : decode cX7_odds 90 = .ok (.iconst 0, 1) := by decide +kernel
theorem dX7_odds_91 : decode cX7_odds 91 = .ok (.iastore, 1) := by decide +kernel
theorem dX7_odds_92 : decode cX7_odds 92 = .ok (.aload_n 0, 1) := by decide +kernel
theorem dX7_odds_93 : decode cX7_odds 93 = .ok (.iload_n 1, 1) := by decide +kernel
theorem dX7_odds_94 : decode cX7_odds 94 = .ok (.invokevirtual 119, 3) := by decide +kernel
theorem dX7_odds_97 : decode cX7_odds 97 = .ok (.ifCond .eq 10, 3) := by decide +kernel
theorem dX7_odds_100 : decode cX7_odds 100 = .ok (.bipush 10, 2) := by decide +kernel
theorem dX7_odds_102 : decode cX7_odds 102 = .ok (.iload_n 2, 1) := by decide +kernel
theorem dX7_odds_103 : decode cX7_odds 103 = .ok (.isub, 1) := by decide +kernel
theorem dX7_odds_104 : decode cX7_odds 104 = .ok (.goto 4, 3) := by decide +kernel
theorem dX7_odds_107 : decode cX7_odds 107 = .ok (.iconst 0, 1) := by decide +kernel
theorem dX7_odds_108 : decode cX7_odds 108 = .ok (.istore 9, 2) := by decide +kernel
theorem dX7_odds_110 : decode cX7_odds 110 = .ok (.iload 5, 2) := by decide +kernel
theorem dX7_odds_112 : decode cX7_odds 112 = .ok (.iload 8, 2) := by decide +kernel
theorem dX7_odds_114 : decode cX7_odds 114 = .ok (.iload 9, 2) := by decide +kernel
theorem dX7_odds_116 : decode cX7_odds 116 = .ok (.iadd, 1) := by decide +kernel
theorem dX7_odds_117 : decode cX7_odds 117 = .ok (.imul, 1) := by decide +kernel
theorem dX7_odds_118 : decode cX7_odds 118 = .ok (.istore 5, 2) := by decide +kernel
theorem dX7_odds_120 : decode cX7_odds 120 = .ok (.iload 6, 2) := by decide +kernel
theorem dX7_odds_122 : decode cX7_odds 122 = .ok (.bipush 10, 2) := by decide +kernel
theorem dX7_odds_124 : decode cX7_odds 124 = .ok (.imul, 1) := by decide +kernel
theorem dX7_odds_125 : decode cX7_odds 125 = .ok (.istore 6, 2) := by decide +kernel
theorem dX7_odds_127 : decode cX7_odds 127 = .ok (.iinc 7 1, 3) := by decide +kernel
theorem dX7_odds_130 : decode cX7_odds 130 = .ok (.goto (-77), 3) := by decide +kernel
theorem dX7_odds_133 : decode cX7_odds 133 = .ok (.aload_n 0, 1) := by decide +kernel
theorem dX7_odds_134 : decode cX7_odds 134 = .ok (.invokevirtual 137, 3) := by decide +kernel
theorem dX7_odds_137 : decode cX7_odds 137 = .ok (.iload 5, 2) := by decide +kernel
theorem dX7_odds_139 : decode cX7_odds 139 = .ok (.istore 7, 2) := by decide +kernel
theorem dX7_odds_141 : decode cX7_odds 141 = .ok (.iload 6, 2) := by decide +kernel
theorem dX7_odds_143 : decode cX7_odds 143 = .ok (.istore 8, 2) := by decide +kernel
theorem dX7_odds_145 : decode cX7_odds 145 = .ok (.iload 8, 2) := by decide +kernel
theorem dX7_odds_147 : decode cX7_odds 147 = .ok (.ifCond .le 21, 3) := by decide +kernel
theorem dX7_odds_150 : decode cX7_odds 150 = .ok (.iload 7, 2) := by decide +kernel
theorem dX7_odds_152 : decode cX7_odds 152 = .ok (.iload 8, 2) := by decide +kernel
theorem dX7_odds_154 : decode cX7_odds 154 = .ok (.irem, 1) := by decide +kernel
theorem dX7_odds_155 : decode cX7_odds 155 = .ok (.istore 9, 2) := by decide +kernel
theorem dX7_odds_157 : decode cX7_odds 157 = .ok (.iload 8, 2) := by decide +kernel
theorem dX7_odds_159 : decode cX7_odds 159 = .ok (.istore 7, 2) := by decide +kernel
theorem dX7_odds_161 : decode cX7_odds 161 = .ok (.iload 9, 2) := by decide +kernel
theorem dX7_odds_163 : decode cX7_odds 163 = .ok (.istore 8, 2) := by decide +kernel
theorem dX7_odds_165 : decode cX7_odds 165 = .ok (.goto (-20), 3) := by decide +kernel
theorem dX7_odds_168 : decode cX7_odds 168 = .ok (.iload 4, 2) := by decide +kernel
theorem dX7_odds_170 : decode cX7_odds 170 = .ok (.ifCond .ne 11, 3) := by decide +kernel
theorem dX7_odds_173 : decode cX7_odds 173 = .ok (.iload 5, 2) := by decide +kernel
theorem dX7_odds_175 : decode cX7_odds 175 = .ok (.iload 7, 2) := by decide +kernel
theorem dX7_odds_177 : decode cX7_odds 177 = .ok (.idiv, 1) := by decide +kernel
theorem dX7_odds_178 : decode cX7_odds 178 = .ok (.goto 8, 3) := by decide +kernel
theorem dX7_odds_181 : decode cX7_odds 181 = .ok (.iload 6, 2) := by decide +kernel
theorem dX7_odds_183 : decode cX7_odds 183 = .ok (.iload 7, 2) := by decide +kernel
theorem dX7_odds_185 : decode cX7_odds 185 = .ok (.idiv, 1) := by decide +kernel
theorem dX7_odds_186 : decode cX7_odds 186 = .ok (.ireturn, 1) := by decide +kernel
theorem dX7_plumbs_0 : decode cX7_plumbs 0 = .ok (.iload_n 1, 1) := by decide +kernel
theorem dX7_plumbs_1 : decode cX7_plumbs 1 = .ok (.iconst 0, 1) := by decide +kernel
theorem dX7_plumbs_2 : decode cX7_plumbs 2 = .ok (.bipush 39, 2) := by decide +kernel
theorem dX7_plumbs_4 : decode cX7_plumbs 4 = .ok (.invokestatic 42, 3) := by decide +kernel
theorem dX7_plumbs_7 : decode cX7_plumbs 7 = .ok (.ifCond .eq 13, 3) := by decide +kernel
theorem dX7_plumbs_10 : decode cX7_plumbs 10 = .ok (.iload_n 2, 1) := by decide +kernel
theorem dX7_plumbs_11 : decode cX7_plumbs 11 = .ok (.iconst 0, 1) := by decide +kernel
theorem dX7_plumbs_12 : decode cX7_plumbs 12 = .ok (.bipush 9, 2) := by decide +kernel
theorem dX7_plumbs_14 : decode cX7_plumbs 14 = .ok (.invokestatic 42, 3) := by decide +kernel
theorem dX7_plumbs_17 : decode cX7_plumbs 17 = .ok (.ifCond .ne 5, 3) := by decide +kernel
theorem dX7_plumbs_20 : decode cX7_plumbs 20 = .ok (.iconst (-1), 1) := by decide +kernel
theorem dX7_plumbs_21 : decode cX7_plumbs 21 = .ok (.ireturn, 1) := by decide +kernel
theorem dX7_plumbs_22 : decode cX7_plumbs 22 = .ok (.aload_n 0, 1) := by decide +kernel
theorem dX7_plumbs_23 : decode cX7_plumbs 23 = .ok (.getfield 88, 3) := by decide +kernel
theorem dX7_plumbs_26 : decode cX7_plumbs 26 = .ok (.bipush 6, 2) := by decide +kernel
theorem dX7_plumbs_28 : decode cX7_plumbs 28 = .ok (.if_icmp .ne 6, 3) := by decide +kernel
theorem dX7_plumbs_31 : decode cX7_plumbs 31 = .ok (.bipush (-3), 2) := by decide +kernel
theorem dX7_plumbs_33 : decode cX7_plumbs 33 = .ok (.ireturn, 1) := by decide +kernel
theorem dX7_plumbs_34 : decode cX7_plumbs 34 = .ok (.aload_n 0, 1) := by decide +kernel
theorem dX7_plumbs_35 : decode cX7_plumbs 35 = .ok (.getfield 29, 3) := by decide +kernel
theorem dX7_plumbs_38 : decode cX7_plumbs 38 = .ok (.aload_n 0, 1) := by decide +kernel
theorem dX7_plumbs_39 : decode cX7_plumbs 39 = .ok (.getfield 88, 3) := by decide +kernel
theorem dX7_plumbs_42 : decode cX7_plumbs 42 = .ok (.bipush 10, 2) := by decide +kernel
theorem dX7_plumbs_44 : decode cX7_plumbs 44 = .ok (.iload_n 1, 1) := by decide +kernel
theorem dX7_plumbs_45 : decode cX7_plumbs 45 = .ok (.imul, 1) := by decide +kernel
theorem dX7_plumbs_46 : decode cX7_plumbs 46 = .ok (.iload_n 2, 1) := by decide +kernel
theorem dX7_plumbs_47 : decode cX7_plumbs 47 = .ok (.iadd, 1) := by decide +kernel
theorem dX7_plumbs_48 : decode cX7_plumbs 48 = .ok (.iastore, 1) := by decide +kernel
theorem dX7_plumbs_49 : decode cX7_plumbs 49 = .ok (.aload_n 0, 1) := by decide +kernel
theorem dX7_plumbs_50 : decode cX7_plumbs 50 = .ok (.dup, 1) := by decide +kernel
theorem dX7_plumbs_51 : decode cX7_plumbs 51 = .ok (.getfield 88, 3) := by decide +kernel
theorem dX7_plumbs_54 : decode cX7_plumbs 54 = .ok (.iconst 1, 1) := by decide +kernel
theorem dX7_plumbs_55 : decode cX7_plumbs 55 = .ok (.iadd, 1) := by decide +kernel
theorem dX7_plumbs_56 : decode cX7_plumbs 56 = .ok (.putfield 88, 3) := by decide +kernel
theorem dX7_plumbs_59 : decode cX7_plumbs 59 = .ok (.aload_n 0, 1) := by decide +kernel
theorem dX7_plumbs_60 : decode cX7_plumbs 60 = .ok (.getfield 88, 3) := by decide +kernel
theorem dX7_plumbs_63 : decode cX7_plumbs 63 = .ok (.ireturn, 1) := by decide +kernel
theorem dX7_forget_0 : decode cX7_forget 0 = .ok (.aload_n 0, 1) := by decide +kernel
theorem dX7_forget_1 : decode cX7_forget 1 = .ok (.getfield 88, 3) := by decide +kernel
theorem dX7_forget_4 : decode cX7_forget 4 = .ok (.istore_n 1, 1) := by decide +kernel
theorem dX7_forget_5 : decode cX7_forget 5 = .ok (.aload_n 0, 1) := by decide +kernel
theorem dX7_forget_6 : decode cX7_forget 6 = .ok (.iconst 0, 1) := by decide +kernel
theorem dX7_forget_7 : decode cX7_forget 7 = .ok (.putfield 88, 3) := by decide +kernel
theorem dX7_forget_10 : decode cX7_forget 10 = .ok (.iload_n 1, 1) := by decide +kernel
theorem dX7_forget_11 : decode cX7_forget 11 = .ok (.ireturn, 1) := by decide +kernel
theorem dX7_isSo_0 : decode cX7_isSo 0 = .ok (.iconst 1, 1) := by decide +kernel
theorem dX7_isSo_1 : decode cX7_isSo 1 = .ok (.istore_n 1, 1) := by decide +kernel
theorem dX7_isSo_2 : decode cX7_isSo 2 = .ok (.iconst 0, 1) := by decide +kernel
theorem dX7_isSo_3 : decode cX7_isSo 3 = .ok (.istore_n 2, 1) := by decide +kernel
theorem dX7_isSo_4 : decode cX7_isSo 4 = .ok (.iload_n 2, 1) := by decide +kernel
theorem dX7_isSo_5 : decode cX7_isSo 5 = .ok (.aload_n 0, 1) := by decide +kernel
theorem dX7_isSo_6 : decode cX7_isSo 6 = .ok (.getfield 88, 3) := by decide +kernel
theorem dX7_isSo_9 : decode cX7_isSo 9 = .ok (.if_icmp .ge 56, 3) := by decide +kernel
theorem dX7_isSo_12 : decode cX7_isSo 12 = .ok (.aload_n 0, 1) := by decide +kernel
theorem dX7_isSo_13 : decode cX7_isSo 13 = .ok (.getfield 29, 3) := by decide +kernel
theorem dX7_isSo_16 : decode cX7_isSo 16 = .ok (.iload_n 2, 1) := by decide +kernel
theorem dX7_isSo_17 : decode cX7_isSo 17 = .ok (.iaload, 1) := by decide +kernel
theorem dX7_isSo_18 : decode cX7_isSo 18 = .ok (.bipush 10, 2) := by decide +kernel
theorem dX7_isSo_20 : decode cX7_isSo 20 = .ok (.idiv, 1) := by decide +kernel
theorem dX7_isSo_21 : decode cX7_isSo 21 = .ok (.istore_n 3, 1) := by decide +kernel
theorem dX7_isSo_22 : decode cX7_isSo 22 = .ok (.iload_n 1, 1) := by decide +kernel
theorem dX7_isSo_23 : decode cX7_isSo 23 = .ok (.ifCond .eq 34, 3) := by decide +kernel
theorem dX7_isSo_26 : decode cX7_isSo 26 = .ok (.iload_n 3, 1) := by decide +kernel
theorem dX7_isSo_27 : decode cX7_isSo 27 = .ok (.aload_n 0, 1) := by decide +kernel
theorem dX7_isSo_28 : decode cX7_isSo 28 = .ok (.getfield 19, 3) := by decide +kernel
theorem dX7_isSo_31 : decode cX7_isSo 31 = .ok (.iconst 0, 1) := by decide +kernel
theorem dX7_isSo_32 : decode cX7_isSo 32 = .ok (.iaload, 1) := by decide +kernel
theorem dX7_isSo_33 : decode cX7_isSo 33 = .ok (.if_icmp .ge 24, 3) := by decide +kernel
theorem dX7_isSo_36 : decode cX7_isSo 36 = .ok (.aload_n 0, 1) := by decide +kernel
theorem dX7_isSo_37 : decode cX7_isSo 37 = .ok (.iload_n 3, 1) := by decide +kernel
theorem dX7_isSo_38 : decode cX7_isSo 38 = .ok (.invokevirtual 100, 3) := by decide +kernel
theorem dX7_isSo_41 : decode cX7_isSo 41 = .ok (.aload_n 0, 1) := by decide +kernel
theorem dX7_isSo_42 : decode cX7_isSo 42 = .ok (.getfield 29, 3) := by decide +kernel
theorem dX7_isSo_45 : decode cX7_isSo 45 = .ok (.iload_n 2, 1) := by decide +kernel
theorem dX7_isSo_46 : decode cX7_isSo 46 = .ok (.iaload, 1) := by decide +kernel
theorem dX7_isSo_47 : decode cX7_isSo 47 = .ok (.bipush 10, 2) := by decide +kernel
theorem dX7_isSo_49 : decode cX7_isSo 49 = .ok (.irem, 1) := by decide +kernel
theorem dX7_isSo_50 : decode cX7_isSo 50 = .ok (.if_icmp .ne 7, 3) := by decide +kernel
theorem dX7_isSo_53 : decode cX7_isSo 53 = .ok (.iconst 1, 1) := by decide +kernel
theorem dX7_isSo_54 : decode cX7_isSo 54 = .ok (.goto 4, 3) := by decide +kernel
theorem dX7_isSo_57 : decode cX7_isSo 57 = .ok (.iconst 0, 1) := by decide +kernel
theorem dX7_isSo_58 : decode cX7_isSo 58 = .ok (.istore_n 1, 1) := by decide +kernel
theorem dX7_isSo_59 : decode cX7_isSo 59 = .ok (.iinc 2 1, 3) := by decide +kernel
theorem dX7_isSo_62 : decode cX7_isSo 62 = .ok (.goto (-58), 3) := by decide +kernel
theorem dX7_isSo_65 : decode cX7_isSo 65 = .ok (.iload_n 1, 1) := by decide +kernel
theorem dX7_isSo_66 : decode cX7_isSo 66 = .ok (.ireturn, 1) := by decide +kernel
theorem dX7_drew_0 : decode cX7_drew 0 = .ok (.iload_n 1, 1) := by decide +kernel
theorem dX7_drew_1 : decode cX7_drew 1 = .ok (.iconst 0, 1) := by decide +kernel
theorem dX7_drew_2 : decode cX7_drew 2 = .ok (.iconst 1, 1) := by decide +kernel
theorem dX7_drew_3 : decode cX7_drew 3 = .ok (.invokestatic 42, 3) := by decide +kernel
theorem dX7_drew_6 : decode cX7_drew 6 = .ok (.ifCond .ne 5, 3) := by decide +kernel
theorem dX7_drew_9 : decode cX7_drew 9 = .ok (.iconst (-1), 1) := by decide +kernel
theorem dX7_drew_10 : decode cX7_drew 10 = .ok (.ireturn, 1) := by decide +kernel
theorem dX7_drew_11 : decode cX7_drew 11 = .ok (.iconst 0, 1) := by decide +kernel
theorem dX7_drew_12 : decode cX7_drew 12 = .ok (.istore_n 2, 1) := by decide +kernel
theorem dX7_drew_13 : decode cX7_drew 13 = .ok (.bipush (-9), 2) := by decide +kernel
theorem dX7_drew_15 : decode cX7_drew 15 = .ok (.istore_n 3, 1) := by decide +kernel
theorem dX7_drew_16 : decode cX7_drew 16 = .ok (.aload_n 0, 1) := by decide +kernel
theorem dX7_drew_17 : decode cX7_drew 17 = .ok (.getfield 19, 3) := by decide +kernel
theorem dX7_drew_20 : decode cX7_drew 20 = .ok (.iconst 0, 1) := by decide +kernel
theorem dX7_drew_21 : decode cX7_drew 21 = .ok (.iaload, 1) := by decide +kernel
theorem dX7_drew_22 : decode cX7_drew 22 = .ok (.iconst 1, 1) := by decide +kernel
theorem dX7_drew_23 : decode cX7_drew 23 = .ok (.isub, 1) := by decide +kernel
theorem dX7_drew_24 : decode cX7_drew 24 = .ok (.istore 4, 2) := by decide +kernel
theorem dX7_drew_26 : decode cX7_drew 26 = .ok (.iload 4, 2) := by decide +kernel
theorem dX7_drew_28 : decode cX7_drew 28 = .ok (.ifCond .lt 111, 3) := by decide +kernel
theorem dX7_drew_31 : decode cX7_drew 31 = .ok (.aload_n 0, 1) := by decide +kernel
theorem dX7_drew_32 : decode cX7_drew 32 = .ok (.getfield 19, 3) := by decide +kernel
theorem dX7_drew_35 : decode cX7_drew 35 = .ok (.bipush 43, 2) := by decide +kernel
theorem dX7_drew_37 : decode cX7_drew 37 = .ok (.iload 4, 2) := by decide +kernel
theorem dX7_drew_39 : decode cX7_drew 39 = .ok (.iadd, 1) := by decide +kernel
theorem dX7_drew_40 : decode cX7_drew 40 = .ok (.iaload, 1) := by decide +kernel
theorem dX7_drew_41 : decode cX7_drew 41 = .ok (.istore 5, 2) := by decide +kernel
theorem dX7_drew_43 : decode cX7_drew 43 = .ok (.bipush 9, 2) := by decide +kernel
theorem dX7_drew_45 : decode cX7_drew 45 = .ok (.istore 6, 2) := by decide +kernel
theorem dX7_drew_47 : decode cX7_drew 47 = .ok (.iload 6, 2) := by decide +kernel
theorem dX7_drew_49 : decode cX7_drew 49 = .ok (.ifCond .le 72, 3) := by decide +kernel
theorem dX7_drew_52 : decode cX7_drew 52 = .ok (.aload_n 0, 1) := by decide +kernel
theorem dX7_drew_53 : decode cX7_drew 53 = .ok (.getfield 19, 3) := by decide +kernel
theorem dX7_drew_56 : decode cX7_drew 56 = .ok (.bipush 43, 2) := by decide +kernel
theorem dX7_drew_58 : decode cX7_drew 58 = .ok (.iload 4, 2) := by decide +kernel
theorem dX7_drew_60 : decode cX7_drew 60 = .ok (.iadd, 1) := by decide +kernel
theorem dX7_drew_61 : decode cX7_drew 61 = .ok (.iload 5, 2) := by decide +kernel
theorem dX7_drew_63 : decode cX7_drew 63 = .ok (.iload 6, 2) := by decide +kernel
theorem dX7_drew_65 : decode cX7_drew 65 = .ok (.if_icmp .le 11, 3) := by decide +kernel
theorem dX7_drew_68 : decode cX7_drew 68 = .ok (.iload 5, 2) := by decide +kernel
theorem dX7_drew_70 : decode cX7_drew 70 = .ok (.iload 6, 2) := by decide +kernel
theorem dX7_drew_72 : decode cX7_drew 72 = .ok (.isub, 1) := by decide +kernel
theorem dX7_drew_73 : decode cX7_drew 73 = .ok (.goto 4, 3) := by decide +kernel
theorem dX7_drew_76 : decode cX7_drew 76 = .ok (.iconst 0, 1) := by decide +kernel
theorem dX7_drew_77 : decode cX7_drew 77 = .ok (.iastore, 1) := by decide +kernel
theorem dX7_drew_78 : decode cX7_drew 78 = .ok (.aload_n 0, 1) := by decide +kernel
theorem dX7_drew_79 : decode cX7_drew 79 = .ok (.invokevirtual 140, 3) := by decide +kernel
theorem dX7_drew_82 : decode cX7_drew 82 = .ok (.istore 7, 2) := by decide +kernel
theorem dX7_drew_84 : decode cX7_drew 84 = .ok (.iload_n 2, 1) := by decide +kernel
theorem dX7_drew_85 : decode cX7_drew 85 = .ok (.iload 7, 2) := by decide +kernel
theorem dX7_drew_87 : decode cX7_drew 87 = .ok (.ifCond .eq 7, 3) := by decide +kernel
theorem dX7_drew_90 : decode cX7_drew 90 = .ok (.iconst 1, 1) := by decide +kernel
theorem dX7_drew_91 : decode cX7_drew 91 = .ok (.goto 4, 3) := by decide +kernel
theorem dX7_drew_94 : decode cX7_drew 94 = .ok (.iconst 0, 1) := by decide +kernel
theorem dX7_drew_95 : decode cX7_drew 95 = .ok (.iadd, 1) := by decide +kernel
theorem dX7_drew_96 : decode cX7_drew 96 = .ok (.istore_n 2, 1) := by decide +kernel
theorem dX7_drew_97 : decode cX7_drew 97 = .ok (.iload 7, 2) := by decide +kernel
theorem dX7_drew_99 : decode cX7_drew 99 = .ok (.ifCond .eq 14, 3) := by decide +kernel
theorem dX7_drew_102 : decode cX7_drew 102 = .ok (.bipush 10, 2) := by decide +kernel
theorem dX7_drew_104 : decode cX7_drew 104 = .ok (.iload 4, 2) := by decide +kernel
theorem dX7_drew_106 : decode cX7_drew 106 = .ok (.imul, 1) := by decide +kernel
theorem dX7_drew_107 : decode cX7_drew 107 = .ok (.iload 6, 2) := by decide +kernel
theorem dX7_drew_109 : decode cX7_drew 109 = .ok (.iadd, 1) := by decide +kernel
theorem dX7_drew_110 : decode cX7_drew 110 = .ok (.goto 4, 3) := by decide +kernel
theorem dX7_drew_113 : decode cX7_drew 113 = .ok (.iload_n 3, 1) := by decide +kernel
theorem dX7_drew_114 : decode cX7_drew 114 = .ok (.istore_n 3, 1) := by decide +kernel
theorem dX7_drew_115 : decode cX7_drew 115 = .ok (.iinc 6 (-1), 3) := by decide +kernel
theorem dX7_drew_118 : decode cX7_drew 118 = .ok (.goto (-71), 3) := by decide +kernel
theorem dX7_drew_121 : decode cX7_drew 121 = .ok (.aload_n 0, 1) := by decide +kernel
theorem dX7_drew_122 : decode cX7_drew 122 = .ok (.getfield 19, 3) := by decide +kernel
theorem dX7_drew_125 : decode cX7_drew 125 = .ok (.bipush 43, 2) := by decide +kernel
theorem dX7_drew_127 : decode cX7_drew 127 = .ok (.iload 4, 2) := by decide +kernel
theorem dX7_drew_129 : decode cX7_drew 129 = .ok (.iadd, 1) := by decide +kernel
theorem dX7_drew_130 : decode cX7_drew 130 = .ok (.iload 5, 2) := by decide +kernel
theorem dX7_drew_132 : decode cX7_drew 132 = .ok (.iastore, 1) := by decide +kernel
theorem dX7_drew_133 : decode cX7_drew 133 = .ok (.iinc 4 (-1), 3) := by decide +kernel
theorem dX7_drew_136 : decode cX7_drew 136 = .ok (.goto (-110), 3) := by decide +kernel
theorem dX7_drew_139 : decode cX7_drew 139 = .ok (.iload_n 1, 1) := by decide +kernel
theorem dX7_drew_140 : decode cX7_drew 140 = .ok (.ifCond .ne 7, 3) := by decide +kernel
theorem dX7_drew_143 : decode cX7_drew 143 = .ok (.iload_n 2, 1) := by decide +kernel
theorem dX7_drew_144 : decode cX7_drew 144 = .ok (.goto 4, 3) := by decide +kernel
theorem dX7_drew_147 : decode cX7_drew 147 = .ok (.iload_n 3, 1) := by decide +kernel
theorem dX7_drew_148 : decode cX7_drew 148 = .ok (.ireturn, 1) := by decide +kernel
theorem dX7_night_0 : decode cX7_night 0 = .ok (.iload_n 1, 1) := by decide +kernel
theorem dX7_night_1 : decode cX7_night 1 = .ok (.iconst 0, 1) := by decide +kernel
theorem dX7_night_2 : decode cX7_night 2 = .ok (.iconst 1, 1) := by decide +kernel
theorem dX7_night_3 : decode cX7_night 3 = .ok (.invokestatic 42, 3) := by decide +kernel
theorem dX7_night_6 : decode cX7_night 6 = .ok (.ifCond .ne 5, 3) := by decide +kernel
theorem dX7_night_9 : decode cX7_night 9 = .ok (.iconst (-1), 1) := by decide +kernel
theorem dX7_night_10 : decode cX7_night 10 = .ok (.ireturn, 1) := by decide +kernel
theorem dX7_night_11 : decode cX7_night 11 = .ok (.aload_n 0, 1) := by decide +kernel
theorem dX7_night_12 : decode cX7_night 12 = .ok (.invokevirtual 134, 3) := by decide +kernel
theorem dX7_night_15 : decode cX7_night 15 = .ok (.iconst 0, 1) := by decide +kernel
theorem dX7_night_16 : decode cX7_night 16 = .ok (.istore_n 2, 1) := by decide +kernel
theorem dX7_night_17 : decode cX7_night 17 = .ok (.bipush (-9), 2) := by decide +kernel
theorem dX7_night_19 : decode cX7_night 19 = .ok (.istore_n 3, 1) := by decide +kernel
theorem dX7_night_20 : decode cX7_night 20 = .ok (.bipush 99, 2) := by decide +kernel
theorem dX7_night_22 : decode cX7_night 22 = .ok (.istore 4, 2) := by decide +kernel
theorem dX7_night_24 : decode cX7_night 24 = .ok (.iload 4, 2) := by decide +kernel
theorem dX7_night_26 : decode cX7_night 26 = .ok (.bipush 10, 2) := by decide +kernel
theorem dX7_night_28 : decode cX7_night 28 = .ok (.if_icmp .le 67, 3) := by decide +kernel
theorem dX7_night_31 : decode cX7_night 31 = .ok (.iload 4, 2) := by decide +kernel
theorem dX7_night_33 : decode cX7_night 33 = .ok (.bipush 10, 2) := by decide +kernel
theorem dX7_night_35 : decode cX7_night 35 = .ok (.irem, 1) := by decide +kernel
theorem dX7_night_36 : decode cX7_night 36 = .ok (.ifCond .le 53, 3) := by decide +kernel
theorem dX7_night_39 : decode cX7_night 39 = .ok (.aload_n 0, 1) := by decide +kernel
theorem dX7_night_40 : decode cX7_night 40 = .ok (.iconst 0, 1) := by decide +kernel
theorem dX7_night_41 : decode cX7_night 41 = .ok (.iload 4, 2) := by decide +kernel
theorem dX7_night_43 : decode cX7_night 43 = .ok (.bipush 10, 2) := by decide +kernel
theorem dX7_night_45 : decode cX7_night 45 = .ok (.idiv, 1) := by decide +kernel
theorem dX7_night_46 : decode cX7_night 46 = .ok (.iload 4, 2) := by decide +kernel
theorem dX7_night_48 : decode cX7_night 48 = .ok (.bipush 10, 2) := by decide +kernel
theorem dX7_night_50 : decode cX7_night 50 = .ok (.irem, 1) := by decide +kernel
theorem dX7_night_51 : decode cX7_night 51 = .ok (.invokevirtual 115, 3) := by decide +kernel
theorem dX7_night_54 : decode cX7_night 54 = .ok (.aload_n 0, 1) := by decide +kernel
theorem dX7_night_55 : decode cX7_night 55 = .ok (.invokevirtual 140, 3) := by decide +kernel
theorem dX7_night_58 : decode cX7_night 58 = .ok (.istore 5, 2) := by decide +kernel
theorem dX7_night_60 : decode cX7_night 60 = .ok (.aload_n 0, 1) := by decide +kernel
theorem dX7_night_61 : decode cX7_night 61 = .ok (.invokevirtual 137, 3) := by decide +kernel
theorem dX7_night_64 : decode cX7_night 64 = .ok (.iload_n 2, 1) := by decide +kernel
theorem dX7_night_65 : decode cX7_night 65 = .ok (.iload 5, 2) := by decide +kernel
theorem dX7_night_67 : decode cX7_night 67 = .ok (.ifCond .eq 7, 3) := by decide +kernel
theorem dX7_night_70 : decode cX7_night 70 = .ok (.iconst 1, 1) := by decide +kernel
theorem dX7_night_71 : decode cX7_night 71 = .ok (.goto 4, 3) := by decide +kernel
theorem dX7_night_74 : decode cX7_night 74 = .ok (.iconst 0, 1) := by decide +kernel
theorem dX7_night_75 : decode cX7_night 75 = .ok (.iadd, 1) := by decide +kernel
theorem dX7_night_76 : decode cX7_night 76 = .ok (.istore_n 2, 1) := by decide +kernel
theorem dX7_night_77 : decode cX7_night 77 = .ok (.iload 5, 2) := by decide +kernel
theorem dX7_night_79 : decode cX7_night 79 = .ok (.ifCond .eq 8, 3) := by decide +kernel
theorem dX7_night_82 : decode cX7_night 82 = .ok (.iload 4, 2) := by decide +kernel
theorem dX7_night_84 : decode cX7_night 84 = .ok (.goto 4, 3) := by decide +kernel
theorem dX7_night_87 : decode cX7_night 87 = .ok (.iload_n 3, 1) := by decide +kernel
theorem dX7_night_88 : decode cX7_night 88 = .ok (.istore_n 3, 1) := by decide +kernel
theorem dX7_night_89 : decode cX7_night 89 = .ok (.iinc 4 (-1), 3) := by decide +kernel
theorem dX7_night_92 : decode cX7_night 92 = .ok (.goto (-68), 3) := by decide +kernel
theorem dX7_night_95 : decode cX7_night 95 = .ok (.iload_n 1, 1) := by decide +kernel
theorem dX7_night_96 : decode cX7_night 96 = .ok (.ifCond .ne 7, 3) := by decide +kernel
theorem dX7_night_99 : decode cX7_night 99 = .ok (.iload_n 2, 1) := by decide +kernel
theorem dX7_night_100 : decode cX7_night 100 = .ok (.goto 4, 3) := by decide +kernel
theorem dX7_night_103 : decode cX7_night 103 = .ok (.iload_n 3, 1) := by decide +kernel
theorem dX7_night_104 : decode cX7_night 104 = .ok (.ireturn, 1) := by decide +kernel
theorem dX7_mark_0 : decode cX7_mark 0 = .ok (.iload_n 1, 1) := by decide +kernel
theorem dX7_mark_1 : decode cX7_mark 1 = .ok (.iconst 0, 1) := by decide +kernel
theorem dX7_mark_2 : decode cX7_mark 2 = .ok (.iconst 5, 1) := by decide +kernel
theorem dX7_mark_3 : decode cX7_mark 3 = .ok (.invokestatic 42, 3) := by decide +kernel
theorem dX7_mark_6 : decode cX7_mark 6 = .ok (.ifCond .eq 11, 3) := by decide +kernel
theorem dX7_mark_9 : decode cX7_mark 9 = .ok (.aload_n 0, 1) := by decide +kernel
theorem dX7_mark_10 : decode cX7_mark 10 = .ok (.iload_n 2, 1) := by decide +kernel
theorem dX7_mark_11 : decode cX7_mark 11 = .ok (.invokevirtual 97, 3) := by decide +kernel
theorem dX7_mark_14 : decode cX7_mark 14 = .ok (.ifCond .ne 6, 3) := by decide +kernel
theorem dX7_mark_17 : decode cX7_mark 17 = .ok (.ldc 143, 2) := by decide +kernel
theorem dX7_mark_19 : decode cX7_mark 19 = .ok (.ireturn, 1) := by decide +kernel
theorem dX7_mark_20 : decode cX7_mark 20 = .ok (.aload_n 0, 1) := by decide +kernel
theorem dX7_mark_21 : decode cX7_mark 21 = .ok (.dup, 1) := by decide +kernel
theorem dX7_mark_22 : decode cX7_mark 22 = .ok (.getfield 144, 3) := by decide +kernel
theorem dX7_mark_25 : decode cX7_mark 25 = .ok (.iload_n 1, 1) := by decide +kernel
theorem dX7_mark_26 : decode cX7_mark 26 = .ok (.ifCond .ne 7, 3) := by decide +kernel
theorem dX7_mark_29 : decode cX7_mark 29 = .ok (.lconst 1, 1) := by decide +kernel
theorem dX7_mark_30 : decode cX7_mark 30 = .ok (.goto 50, 3) := by decide +kernel
theorem dX7_mark_33 : decode cX7_mark 33 = .ok (.iload_n 1, 1) := by decide +kernel
theorem dX7_mark_34 : decode cX7_mark 34 = .ok (.iconst 1, 1) := by decide +kernel
theorem dX7_mark_35 : decode cX7_mark 35 = .ok (.if_icmp .ne 9, 3) := by decide +kernel
theorem dX7_mark_38 : decode cX7_mark 38 = .ok (.ldc2_w 148, 3) := by decide +kernel
theorem dX7_mark_41 : decode cX7_mark 41 = .ok (.goto 39, 3) := by decide +kernel
theorem dX7_mark_44 : decode cX7_mark 44 = .ok (.iload_n 1, 1) := by decide +kernel
theorem dX7_mark_45 : decode cX7_mark 45 = .ok (.iconst 2, 1) := by decide +kernel
theorem dX7_mark_46 : decode cX7_mark 46 = .ok (.if_icmp .ne 9, 3) := by decide +kernel
theorem dX7_mark_49 : decode cX7_mark 49 = .ok (.ldc2_w 150, 3) := by decide +kernel
theorem dX7_mark_52 : decode cX7_mark 52 = .ok (.goto 28, 3) := by decide +kernel
theorem dX7_mark_55 : decode cX7_mark 55 = .ok (.iload_n 1, 1) := by decide +kernel
theorem dX7_mark_56 : decode cX7_mark 56 = .ok (.iconst 3, 1) := by decide +kernel
theorem dX7_mark_57 : decode cX7_mark 57 = .ok (.if_icmp .ne 9, 3) := by decide +kernel
theorem dX7_mark_60 : decode cX7_mark 60 = .ok (.ldc2_w 152, 3) := by decide +kernel
theorem dX7_mark_63 : decode cX7_mark 63 = .ok (.goto 17, 3) := by decide +kernel
theorem dX7_mark_66 : decode cX7_mark 66 = .ok (.iload_n 1, 1) := by decide +kernel
theorem dX7_mark_67 : decode cX7_mark 67 = .ok (.iconst 4, 1) := by decide +kernel
theorem dX7_mark_68 : decode cX7_mark 68 = .ok (.if_icmp .ne 9, 3) := by decide +kernel
theorem dX7_mark_71 : decode cX7_mark 71 = .ok (.ldc2_w 154, 3) := by decide +kernel
theorem dX7_mark_74 : decode cX7_mark 74 = .ok (.goto 6, 3) := by decide +kernel
theorem dX7_mark_77 : decode cX7_mark 77 = .ok (.ldc2_w 156, 3) := by decide +kernel
theorem dX7_mark_80 : decode cX7_mark 80 = .ok (.ladd, 1) := by decide +kernel
theorem dX7_mark_81 : decode cX7_mark 81 = .ok (.putfield 144, 3) := by decide +kernel
theorem dX7_mark_84 : decode cX7_mark 84 = .ok (.aload_n 0, 1) := by decide +kernel
theorem dX7_mark_85 : decode cX7_mark 85 = .ok (.getfield 19, 3) := by decide +kernel
theorem dX7_mark_88 : decode cX7_mark 88 = .ok (.bipush 43, 2) := by decide +kernel
theorem dX7_mark_90 : decode cX7_mark 90 = .ok (.iload_n 2, 1) := by decide +kernel
theorem dX7_mark_91 : decode cX7_mark 91 = .ok (.iadd, 1) := by decide +kernel
theorem dX7_mark_92 : decode cX7_mark 92 = .ok (.iaload, 1) := by decide +kernel
theorem dX7_mark_93 : decode cX7_mark 93 = .ok (.istore_n 3, 1) := by decide +kernel
theorem dX7_mark_94 : decode cX7_mark 94 = .ok (.iload_n 3, 1) := by decide +kernel
theorem dX7_mark_95 : decode cX7_mark 95 = .ok (.aload_n 0, 1) := by decide +kernel
theorem dX7_mark_96 : decode cX7_mark 96 = .ok (.iload_n 2, 1) := by decide +kernel
theorem dX7_mark_97 : decode cX7_mark 97 = .ok (.invokevirtual 100, 3) := by decide +kernel
theorem dX7_mark_100 : decode cX7_mark 100 = .ok (.iadd, 1) := by decide +kernel
theorem dX7_mark_101 : decode cX7_mark 101 = .ok (.istore 4, 2) := by decide +kernel
theorem dX7_mark_103 : decode cX7_mark 103 = .ok (.iload_n 3, 1) := by decide +kernel
theorem dX7_mark_104 : decode cX7_mark 104 = .ok (.aload_n 0, 1) := by decide +kernel
theorem dX7_mark_105 : decode cX7_mark 105 = .ok (.getfield 19, 3) := by decide +kernel
theorem dX7_mark_108 : decode cX7_mark 108 = .ok (.bipush 83, 2) := by decide +kernel
theorem dX7_mark_110 : decode cX7_mark 110 = .ok (.iload_n 2, 1) := by decide +kernel
theorem dX7_mark_111 : decode cX7_mark 111 = .ok (.iadd, 1) := by decide +kernel
theorem dX7_mark_112 : decode cX7_mark 112 = .ok (.iaload, 1) := by decide +kernel
theorem dX7_mark_113 : decode cX7_mark 113 = .ok (.isub, 1) := by decide +kernel
theorem dX7_mark_114 : decode cX7_mark 114 = .ok (.istore 5, 2) := by decide +kernel
theorem dX7_mark_116 : decode cX7_mark 116 = .ok (.iload_n 1, 1) := by decide +kernel
theorem dX7_mark_117 : decode cX7_mark 117 = .ok (.ifCond .ne 7, 3) := by decide +kernel
theorem dX7_mark_120 : decode cX7_mark 120 = .ok (.iload_n 3, 1) := by decide +kernel
theorem dX7_mark_121 : decode cX7_mark 121 = .ok (.goto 70, 3) := by decide +kernel
theorem dX7_mark_124 : decode cX7_mark 124 = .ok (.iload_n 1, 1) := by decide +kernel
theorem dX7_mark_125 : decode cX7_mark 125 = .ok (.iconst 1, 1) := by decide +kernel
theorem dX7_mark_126 : decode cX7_mark 126 = .ok (.if_icmp .ne 8, 3) := by decide +kernel
theorem dX7_mark_129 : decode cX7_mark 129 = .ok (.iload 4, 2) := by decide +kernel
theorem dX7_mark_131 : decode cX7_mark 131 = .ok (.goto 60, 3) := by decide +kernel
theorem dX7_mark_134 : decode cX7_mark 134 = .ok (.iload_n 1, 1) := by decide +kernel
theorem dX7_mark_135 : decode cX7_mark 135 = .ok (.iconst 2, 1) := by decide +kernel
theorem dX7_mark_136 : decode cX7_mark 136 = .ok (.if_icmp .ne 8, 3) := by decide +kernel
theorem dX7_mark_139 : decode cX7_mark 139 = .ok (.iload 5, 2) := by decide +kernel
theorem dX7_mark_141 : decode cX7_mark 141 = .ok (.goto 50, 3) := by decide +kernel
theorem dX7_mark_144 : decode cX7_mark 144 = .ok (.iload_n 1, 1) := by decide +kernel
theorem dX7_mark_145 : decode cX7_mark 145 = .ok (.iconst 3, 1) := by decide +kernel
theorem dX7_mark_146 : decode cX7_mark 146 = .ok (.if_icmp .ne 10, 3) := by decide +kernel
theorem dX7_mark_149 : decode cX7_mark 149 = .ok (.iconst 2, 1) := by decide +kernel
theorem dX7_mark_150 : decode cX7_mark 150 = .ok (.iload 4, 2) := by decide +kernel
theorem dX7_mark_152 : decode cX7_mark 152 = .ok (.imul, 1) := by decide +kernel
theorem dX7_mark_153 : decode cX7_mark 153 = .ok (.goto 38, 3) := by decide +kernel
theorem dX7_mark_156 : decode cX7_mark 156 = .ok (.iload_n 1, 1) := by decide +kernel
theorem dX7_mark_157 : decode cX7_mark 157 = .ok (.iconst 4, 1) := by decide +kernel
theorem dX7_mark_158 : decode cX7_mark 158 = .ok (.if_icmp .ne 25, 3) := by decide +kernel
theorem dX7_mark_161 : decode cX7_mark 161 = .ok (.iload 5, 2) := by decide +kernel
theorem dX7_mark_163 : decode cX7_mark 163 = .ok (.aload_n 0, 1) := by decide +kernel
theorem dX7_mark_164 : decode cX7_mark 164 = .ok (.getfield 13, 3) := by decide +kernel
theorem dX7_mark_167 : decode cX7_mark 167 = .ok (.bipush 6, 2) := by decide +kernel
theorem dX7_mark_169 : decode cX7_mark 169 = .ok (.aload_n 0, 1) := by decide +kernel
theorem dX7_mark_170 : decode cX7_mark 170 = .ok (.getfield 19, 3) := by decide +kernel
theorem dX7_mark_173 : decode cX7_mark 173 = .ok (.iconst 3, 1) := by decide +kernel
theorem dX7_mark_174 : decode cX7_mark 174 = .ok (.iload_n 2, 1) := by decide +kernel
theorem dX7_mark_175 : decode cX7_mark 175 = .ok (.iadd, 1) := by decide +kernel
theorem dX7_mark_176 : decode cX7_mark 176 = .ok (.iaload, 1) := by decide +kernel
theorem dX7_mark_177 : decode cX7_mark 177 = .ok (.iadd, 1) := by decide +kernel
theorem dX7_mark_178 : decode cX7_mark 178 = .ok (.iaload, 1) := by decide +kernel
theorem dX7_mark_179 : decode cX7_mark 179 = .ok (.iadd, 1) := by decide +kernel
theorem dX7_mark_180 : decode cX7_mark 180 = .ok (.goto 11, 3) := by decide +kernel
theorem dX7_mark_183 : decode cX7_mark 183 = .ok (.iload_n 3, 1) := by decide +kernel
theorem dX7_mark_184 : decode cX7_mark 184 = .ok (.aload_n 0, 1) := by decide +kernel
theorem dX7_mark_185 : decode cX7_mark 185 = .ok (.getfield 19, 3) := by decide +kernel
theorem dX7_mark_188 : decode cX7_mark 188 = .ok (.iconst 2, 1) := by decide +kernel
theorem dX7_mark_189 : decode cX7_mark 189 = .ok (.iaload, 1) := by decide +kernel
theorem dX7_mark_190 : decode cX7_mark 190 = .ok (.iadd, 1) := by decide +kernel
theorem dX7_mark_191 : decode cX7_mark 191 = .ok (.ireturn, 1) := by decide +kernel
theorem dX7_keep_0 : decode cX7_keep 0 = .ok (.iload_n 1, 1) := by decide +kernel
theorem dX7_keep_1 : decode cX7_keep 1 = .ok (.iconst 0, 1) := by decide +kernel
theorem dX7_keep_2 : decode cX7_keep 2 = .ok (.iconst 1, 1) := by decide +kernel
theorem dX7_keep_3 : decode cX7_keep 3 = .ok (.invokestatic 42, 3) := by decide +kernel
theorem dX7_keep_6 : decode cX7_keep 6 = .ok (.ifCond .ne 5, 3) := by decide +kernel
theorem dX7_keep_9 : decode cX7_keep 9 = .ok (.iconst (-1), 1) := by decide +kernel
theorem dX7_keep_10 : decode cX7_keep 10 = .ok (.ireturn, 1) := by decide +kernel
theorem dX7_keep_11 : decode cX7_keep 11 = .ok (.iconst 0, 1) := by decide +kernel
theorem dX7_keep_12 : decode cX7_keep 12 = .ok (.istore_n 2, 1) := by decide +kernel
theorem dX7_keep_13 : decode cX7_keep 13 = .ok (.iload_n 2, 1) := by decide +kernel
theorem dX7_keep_14 : decode cX7_keep 14 = .ok (.sipush 1108, 3) := by decide +kernel
theorem dX7_keep_17 : decode cX7_keep 17 = .ok (.if_icmp .ge 27, 3) := by decide +kernel
theorem dX7_keep_20 : decode cX7_keep 20 = .ok (.aload_n 0, 1) := by decide +kernel
theorem dX7_keep_21 : decode cX7_keep 21 = .ok (.getfield 22, 3) := by decide +kernel
theorem dX7_keep_24 : decode cX7_keep 24 = .ok (.sipush 1108, 3) := by decide +kernel
theorem dX7_keep_27 : decode cX7_keep 27 = .ok (.iload_n 1, 1) := by decide +kernel
theorem dX7_keep_28 : decode cX7_keep 28 = .ok (.imul, 1) := by decide +kernel
theorem dX7_keep_29 : decode cX7_keep 29 = .ok (.iload_n 2, 1) := by decide +kernel
theorem dX7_keep_30 : decode cX7_keep 30 = .ok (.iadd, 1) := by decide +kernel
theorem dX7_keep_31 : decode cX7_keep 31 = .ok (.aload_n 0, 1) := by decide +kernel
theorem dX7_keep_32 : decode cX7_keep 32 = .ok (.getfield 19, 3) := by decide +kernel
theorem dX7_keep_35 : decode cX7_keep 35 = .ok (.iload_n 2, 1) := by decide +kernel
theorem dX7_keep_36 : decode cX7_keep 36 = .ok (.iaload, 1) := by decide +kernel
theorem dX7_keep_37 : decode cX7_keep 37 = .ok (.iastore, 1) := by decide +kernel
theorem dX7_keep_38 : decode cX7_keep 38 = .ok (.iinc 2 1, 3) := by decide +kernel
theorem dX7_keep_41 : decode cX7_keep 41 = .ok (.goto (-28), 3) := by decide +kernel
theorem dX7_keep_44 : decode cX7_keep 44 = .ok (.aload_n 0, 1) := by decide +kernel
theorem dX7_keep_45 : decode cX7_keep 45 = .ok (.getfield 25, 3) := by decide +kernel
theorem dX7_keep_48 : decode cX7_keep 48 = .ok (.iload_n 1, 1) := by decide +kernel
theorem dX7_keep_49 : decode cX7_keep 49 = .ok (.iconst 1, 1) := by decide +kernel
theorem dX7_keep_50 : decode cX7_keep 50 = .ok (.bastore, 1) := by decide +kernel
theorem dX7_keep_51 : decode cX7_keep 51 = .ok (.aload_n 0, 1) := by decide +kernel
theorem dX7_keep_52 : decode cX7_keep 52 = .ok (.getfield 19, 3) := by decide +kernel
theorem dX7_keep_55 : decode cX7_keep 55 = .ok (.iconst 2, 1) := by decide +kernel
theorem dX7_keep_56 : decode cX7_keep 56 = .ok (.iaload, 1) := by decide +kernel
theorem dX7_keep_57 : decode cX7_keep 57 = .ok (.ireturn, 1) := by decide +kernel
theorem dX7_back_0 : decode cX7_back 0 = .ok (.iload_n 1, 1) := by decide +kernel
theorem dX7_back_1 : decode cX7_back 1 = .ok (.iconst 0, 1) := by decide +kernel
theorem dX7_back_2 : decode cX7_back 2 = .ok (.iconst 1, 1) := by decide +kernel
theorem dX7_back_3 : decode cX7_back 3 = .ok (.invokestatic 42, 3) := by decide +kernel
theorem dX7_back_6 : decode cX7_back 6 = .ok (.ifCond .ne 5, 3) := by decide +kernel
theorem dX7_back_9 : decode cX7_back 9 = .ok (.iconst (-1), 1) := by decide +kernel
theorem dX7_back_10 : decode cX7_back 10 = .ok (.ireturn, 1) := by decide +kernel
theorem dX7_back_11 : decode cX7_back 11 = .ok (.aload_n 0, 1) := by decide +kernel
theorem dX7_back_12 : decode cX7_back 12 = .ok (.getfield 25, 3) := by decide +kernel
theorem dX7_back_15 : decode cX7_back 15 = .ok (.iload_n 1, 1) := by decide +kernel
theorem dX7_back_16 : decode cX7_back 16 = .ok (.baload, 1) := by decide +kernel
theorem dX7_back_17 : decode cX7_back 17 = .ok (.ifCond .ne 6, 3) := by decide +kernel
theorem dX7_back_20 : decode cX7_back 20 = .ok (.bipush (-2), 2) := by decide +kernel
theorem dX7_back_22 : decode cX7_back 22 = .ok (.ireturn, 1) := by decide +kernel
theorem dX7_back_23 : decode cX7_back 23 = .ok (.iconst 0, 1) := by decide +kernel
theorem dX7_back_24 : decode cX7_back 24 = .ok (.istore_n 2, 1) := by decide +kernel
theorem dX7_back_25 : decode cX7_back 25 = .ok (.iload_n 2, 1) := by decide +kernel
theorem dX7_back_26 : decode cX7_back 26 = .ok (.sipush 1108, 3) := by decide +kernel
theorem dX7_back_29 : decode cX7_back 29 = .ok (.if_icmp .ge 27, 3) := by decide +kernel
theorem dX7_back_32 : decode cX7_back 32 = .ok (.aload_n 0, 1) := by decide +kernel
theorem dX7_back_33 : decode cX7_back 33 = .ok (.getfield 19, 3) := by decide +kernel
theorem dX7_back_36 : decode cX7_back 36 = .ok (.iload_n 2, 1) := by decide +kernel
theorem dX7_back_37 : decode cX7_back 37 = .ok (.aload_n 0, 1) := by decide +kernel
theorem dX7_back_38 : decode cX7_back 38 = .ok (.getfield 22, 3) := by decide +kernel
theorem dX7_back_41 : decode cX7_back 41 = .ok (.sipush 1108, 3) := by decide +kernel
theorem dX7_back_44 : decode cX7_back 44 = .ok (.iload_n 1, 1) := by decide +kernel
theorem dX7_back_45 : decode cX7_back 45 = .ok (.imul, 1) := by decide +kernel
theorem dX7_back_46 : decode cX7_back 46 = .ok (.iload_n 2, 1) := by decide +kernel
theorem dX7_back_47 : decode cX7_back 47 = .ok (.iadd, 1) := by decide +kernel
theorem dX7_back_48 : decode cX7_back 48 = .ok (.iaload, 1) := by decide +kernel
theorem dX7_back_49 : decode cX7_back 49 = .ok (.iastore, 1) := by decide +kernel
theorem dX7_back_50 : decode cX7_back 50 = .ok (.iinc 2 1, 3) := by decide +kernel
theorem dX7_back_53 : decode cX7_back 53 = .ok (.goto (-28), 3) := by decide +kernel
theorem dX7_back_56 : decode cX7_back 56 = .ok (.aload_n 0, 1) := by decide +kernel
theorem dX7_back_57 : decode cX7_back 57 = .ok (.getfield 19, 3) := by decide +kernel
theorem dX7_back_60 : decode cX7_back 60 = .ok (.iconst 2, 1) := by decide +kernel
theorem dX7_back_61 : decode cX7_back 61 = .ok (.iaload, 1) := by decide +kernel
theorem dX7_back_62 : decode cX7_back 62 = .ok (.ireturn, 1) := by decide +kernel
theorem dX7_count_0 : decode cX7_count 0 = .ok (.iload_n 1, 1) := by decide +kernel
theorem dX7_count_1 : decode cX7_count 1 = .ok (.tableswitch 78 0 5 #[39, 46, 53, 60, 65, 73], 39) := by decide +kernel
theorem dX7_count_40 : decode cX7_count 40 = .ok (.aload_n 0, 1) := by decide +kernel
theorem dX7_count_41 : decode cX7_count 41 = .ok (.getfield 13, 3) := by decide +kernel
theorem dX7_count_44 : decode cX7_count 44 = .ok (.iconst 0, 1) := by decide +kernel
theorem dX7_count_45 : decode cX7_count 45 = .ok (.iaload, 1) := by decide +kernel
theorem dX7_count_46 : decode cX7_count 46 = .ok (.ireturn, 1) := by decide +kernel
theorem dX7_count_47 : decode cX7_count 47 = .ok (.aload_n 0, 1) := by decide +kernel
theorem dX7_count_48 : decode cX7_count 48 = .ok (.getfield 13, 3) := by decide +kernel
theorem dX7_count_51 : decode cX7_count 51 = .ok (.iconst 1, 1) := by decide +kernel
theorem dX7_count_52 : decode cX7_count 52 = .ok (.iaload, 1) := by decide +kernel
theorem dX7_count_53 : decode cX7_count 53 = .ok (.ireturn, 1) := by decide +kernel
theorem dX7_count_54 : decode cX7_count 54 = .ok (.aload_n 0, 1) := by decide +kernel
theorem dX7_count_55 : decode cX7_count 55 = .ok (.getfield 13, 3) := by decide +kernel
theorem dX7_count_58 : decode cX7_count 58 = .ok (.iconst 2, 1) := by decide +kernel
theorem dX7_count_59 : decode cX7_count 59 = .ok (.iaload, 1) := by decide +kernel
theorem dX7_count_60 : decode cX7_count 60 = .ok (.ireturn, 1) := by decide +kernel
theorem dX7_count_61 : decode cX7_count 61 = .ok (.aload_n 0, 1) := by decide +kernel
theorem dX7_count_62 : decode cX7_count 62 = .ok (.getfield 88, 3) := by decide +kernel
theorem dX7_count_65 : decode cX7_count 65 = .ok (.ireturn, 1) := by decide +kernel
theorem dX7_count_66 : decode cX7_count 66 = .ok (.aload_n 0, 1) := by decide +kernel
theorem dX7_count_67 : decode cX7_count 67 = .ok (.getfield 19, 3) := by decide +kernel
theorem dX7_count_70 : decode cX7_count 70 = .ok (.bipush 123, 2) := by decide +kernel
theorem dX7_count_72 : decode cX7_count 72 = .ok (.iaload, 1) := by decide +kernel
theorem dX7_count_73 : decode cX7_count 73 = .ok (.ireturn, 1) := by decide +kernel
theorem dX7_count_74 : decode cX7_count 74 = .ok (.aload_n 0, 1) := by decide +kernel
theorem dX7_count_75 : decode cX7_count 75 = .ok (.getfield 46, 3) := by decide +kernel
theorem dX7_count_78 : decode cX7_count 78 = .ok (.ireturn, 1) := by decide +kernel
theorem dX7_count_79 : decode cX7_count 79 = .ok (.iconst (-1), 1) := by decide +kernel
theorem dX7_count_80 : decode cX7_count 80 = .ok (.ireturn, 1) := by decide +kernel
theorem dX7_trace_0 : decode cX7_trace 0 = .ok (.aload_n 0, 1) := by decide +kernel
theorem dX7_trace_1 : decode cX7_trace 1 = .ok (.getfield 144, 3) := by decide +kernel
theorem dX7_trace_4 : decode cX7_trace 4 = .ok (.lreturn, 1) := by decide +kernel
theorem dL_law_0 : decode cL_law 0 = .ok (.new 7, 3) := by decide +kernel
theorem dL_law_3 : decode cL_law 3 = .ok (.dup, 1) := by decide +kernel
theorem dL_law_4 : decode cL_law 4 = .ok (.invokespecial 9, 3) := by decide +kernel
theorem dL_law_7 : decode cL_law 7 = .ok (.astore_n 1, 1) := by decide +kernel
theorem dL_law_8 : decode cL_law 8 = .ok (.new 10, 3) := by decide +kernel
theorem dL_law_11 : decode cL_law 11 = .ok (.dup, 1) := by decide +kernel
theorem dL_law_12 : decode cL_law 12 = .ok (.invokespecial 12, 3) := by decide +kernel
theorem dL_law_15 : decode cL_law 15 = .ok (.astore_n 2, 1) := by decide +kernel
theorem dL_law_16 : decode cL_law 16 = .ok (.iconst 0, 1) := by decide +kernel
theorem dL_law_17 : decode cL_law 17 = .ok (.istore_n 3, 1) := by decide +kernel
theorem dL_law_18 : decode cL_law 18 = .ok (.iload_n 3, 1) := by decide +kernel
theorem dL_law_19 : decode cL_law 19 = .ok (.aload_n 0, 1) := by decide +kernel
theorem dL_law_20 : decode cL_law 20 = .ok (.arraylength, 1) := by decide +kernel
theorem dL_law_21 : decode cL_law 21 = .ok (.iconst 5, 1) := by decide +kernel
theorem dL_law_22 : decode cL_law 22 = .ok (.isub, 1) := by decide +kernel
theorem dL_law_23 : decode cL_law 23 = .ok (.if_icmp .gt 798, 3) := by decide +kernel
theorem dL_law_26 : decode cL_law 26 = .ok (.aload_n 0, 1) := by decide +kernel
theorem dL_law_27 : decode cL_law 27 = .ok (.iload_n 3, 1) := by decide +kernel
theorem dL_law_28 : decode cL_law 28 = .ok (.iaload, 1) := by decide +kernel
theorem dL_law_29 : decode cL_law 29 = .ok (.bipush 31, 2) := by decide +kernel
theorem dL_law_31 : decode cL_law 31 = .ok (.iand, 1) := by decide +kernel
theorem dL_law_32 : decode cL_law 32 = .ok (.tableswitch 783 0 27 #[128, 151, 164, 177, 210, 243, 266, 279, 302, 325, 348, 361, 374, 397, 430, 443, 466, 489, 522, 575, 608, 621, 644, 667, 700, 723, 746, 769], 128) := by decide +kernel
theorem dL_law_160 : decode cL_law 160 = .ok (.aload_n 1, 1) := by decide +kernel
theorem dL_law_161 : decode cL_law 161 = .ok (.aload_n 0, 1) := by decide +kernel
theorem dL_law_162 : decode cL_law 162 = .ok (.iload_n 3, 1) := by decide +kernel
theorem dL_law_163 : decode cL_law 163 = .ok (.iconst 1, 1) := by decide +kernel
theorem dL_law_164 : decode cL_law 164 = .ok (.iadd, 1) := by decide +kernel
theorem dL_law_165 : decode cL_law 165 = .ok (.iaload, 1) := by decide +kernel
theorem dL_law_166 : decode cL_law 166 = .ok (.invokevirtual 13, 3) := by decide +kernel
theorem dL_law_169 : decode cL_law 169 = .ok (.aload_n 2, 1) := by decide +kernel
theorem dL_law_170 : decode cL_law 170 = .ok (.aload_n 0, 1) := by decide +kernel
theorem dL_law_171 : decode cL_law 171 = .ok (.iload_n 3, 1) := by decide +kernel
theorem dL_law_172 : decode cL_law 172 = .ok (.iconst 1, 1) := by decide +kernel
theorem dL_law_173 : decode cL_law 173 = .ok (.iadd, 1) := by decide +kernel
theorem dL_law_174 : decode cL_law 174 = .ok (.iaload, 1) := by decide +kernel
theorem dL_law_175 : decode cL_law 175 = .ok (.invokevirtual 17, 3) := by decide +kernel
theorem dL_law_178 : decode cL_law 178 = .ok (.if_icmp .eq 637, 3) := by decide +kernel
theorem dL_law_181 : decode cL_law 181 = .ok (.iconst 0, 1) := by decide +kernel
theorem dL_law_182 : decode cL_law 182 = .ok (.ireturn, 1) := by decide +kernel
theorem dL_law_183 : decode cL_law 183 = .ok (.aload_n 1, 1) := by decide +kernel
theorem dL_law_184 : decode cL_law 184 = .ok (.invokevirtual 18, 3) := by decide +kernel
theorem dL_law_187 : decode cL_law 187 = .ok (.aload_n 2, 1) := by decide +kernel
theorem dL_law_188 : decode cL_law 188 = .ok (.invokevirtual 22, 3) := by decide +kernel
theorem dL_law_191 : decode cL_law 191 = .ok (.if_icmp .eq 624, 3) := by decide +kernel
theorem dL_law_194 : decode cL_law 194 = .ok (.iconst 0, 1) := by decide +kernel
theorem dL_law_195 : decode cL_law 195 = .ok (.ireturn, 1) := by decide +kernel
theorem dL_law_196 : decode cL_law 196 = .ok (.aload_n 1, 1) := by decide +kernel
theorem dL_law_197 : decode cL_law 197 = .ok (.invokevirtual 23, 3) := by decide +kernel
theorem dL_law_200 : decode cL_law 200 = .ok (.aload_n 2, 1) := by decide +kernel
theorem dL_law_201 : decode cL_law 201 = .ok (.invokevirtual 26, 3) := by decide +kernel
theorem dL_law_204 : decode cL_law 204 = .ok (.if_icmp .eq 611, 3) := by decide +kernel
theorem dL_law_207 : decode cL_law 207 = .ok (.iconst 0, 1) := by decide +kernel
theorem dL_law_208 : decode cL_law 208 = .ok (.ireturn, 1) := by decide +kernel
theorem dL_law_209 : decode cL_law 209 = .ok (.aload_n 1, 1) := by decide +kernel
theorem dL_law_210 : decode cL_law 210 = .ok (.aload_n 0, 1) := by decide +kernel
theorem dL_law_211 : decode cL_law 211 = .ok (.iload_n 3, 1) := by decide +kernel
theorem dL_law_212 : decode cL_law 212 = .ok (.iconst 1, 1) := by decide +kernel
theorem dL_law_213 : decode cL_law 213 = .ok (.iadd, 1) := by decide +kernel
theorem dL_law_214 : decode cL_law 214 = .ok (.iaload, 1) := by decide +kernel
theorem dL_law_215 : decode cL_law 215 = .ok (.aload_n 0, 1) := by decide +kernel
theorem dL_law_216 : decode cL_law 216 = .ok (.iload_n 3, 1) := by decide +kernel
theorem dL_law_217 : decode cL_law 217 = .ok (.iconst 2, 1) := by decide +kernel
theorem dL_law_218 : decode cL_law 218 = .ok (.iadd, 1) := by decide +kernel
theorem dL_law_219 : decode cL_law 219 = .ok (.iaload, 1) := by decide +kernel
theorem dL_law_220 : decode cL_law 220 = .ok (.invokevirtual 27, 3) := by decide +kernel
theorem dL_law_223 : decode cL_law 223 = .ok (.aload_n 2, 1) := by decide +kernel
theorem dL_law_224 : decode cL_law 224 = .ok (.aload_n 0, 1) := by decide +kernel
theorem dL_law_225 : decode cL_law 225 = .ok (.iload_n 3, 1) := by decide +kernel
theorem dL_law_226 : decode cL_law 226 = .ok (.iconst 1, 1) := by decide +kernel
theorem dL_law_227 : decode cL_law 227 = .ok (.iadd, 1) := by decide +kernel
theorem dL_law_228 : decode cL_law 228 = .ok (.iaload, 1) := by decide +kernel
theorem dL_law_229 : decode cL_law 229 = .ok (.aload_n 0, 1) := by decide +kernel
theorem dL_law_230 : decode cL_law 230 = .ok (.iload_n 3, 1) := by decide +kernel
theorem dL_law_231 : decode cL_law 231 = .ok (.iconst 2, 1) := by decide +kernel
theorem dL_law_232 : decode cL_law 232 = .ok (.iadd, 1) := by decide +kernel
theorem dL_law_233 : decode cL_law 233 = .ok (.iaload, 1) := by decide +kernel
theorem dL_law_234 : decode cL_law 234 = .ok (.invokevirtual 31, 3) := by decide +kernel
theorem dL_law_237 : decode cL_law 237 = .ok (.if_icmp .eq 578, 3) := by decide +kernel
theorem dL_law_240 : decode cL_law 240 = .ok (.iconst 0, 1) := by decide +kernel
theorem dL_law_241 : decode cL_law 241 = .ok (.ireturn, 1) := by decide +kernel
theorem dL_law_242 : decode cL_law 242 = .ok (.aload_n 1, 1) := by decide +kernel
theorem dL_law_243 : decode cL_law 243 = .ok (.aload_n 0, 1) := by decide +kernel
theorem dL_law_244 : decode cL_law 244 = .ok (.iload_n 3, 1) := by decide +kernel
theorem dL_law_245 : decode cL_law 245 = .ok (.iconst 1, 1) := by decide +kernel
theorem dL_law_246 : decode cL_law 246 = .ok (.iadd, 1) := by decide +kernel
theorem dL_law_247 : decode cL_law 247 = .ok (.iaload, 1) := by decide +kernel
theorem dL_law_248 : decode cL_law 248 = .ok (.aload_n 0, 1) := by decide +kernel
theorem dL_law_249 : decode cL_law 249 = .ok (.iload_n 3, 1) := by decide +kernel
theorem dL_law_250 : decode cL_law 250 = .ok (.iconst 2, 1) := by decide +kernel
theorem dL_law_251 : decode cL_law 251 = .ok (.iadd, 1) := by decide +kernel
theorem dL_law_252 : decode cL_law 252 = .ok (.iaload, 1) := by decide +kernel
theorem dL_law_253 : decode cL_law 253 = .ok (.invokevirtual 32, 3) := by decide +kernel
theorem dL_law_256 : decode cL_law 256 = .ok (.aload_n 2, 1) := by decide +kernel
theorem dL_law_257 : decode cL_law 257 = .ok (.aload_n 0, 1) := by decide +kernel
theorem dL_law_258 : decode cL_law 258 = .ok (.iload_n 3, 1) := by decide +kernel
theorem dL_law_259 : decode cL_law 259 = .ok (.iconst 1, 1) := by decide +kernel
theorem dL_law_260 : decode cL_law 260 = .ok (.iadd, 1) := by decide +kernel
theorem dL_law_261 : decode cL_law 261 = .ok (.iaload, 1) := by decide +kernel
theorem dL_law_262 : decode cL_law 262 = .ok (.aload_n 0, 1) := by decide +kernel
theorem dL_law_263 : decode cL_law 263 = .ok (.iload_n 3, 1) := by decide +kernel
theorem dL_law_264 : decode cL_law 264 = .ok (.iconst 2, 1) := by decide +kernel
theorem dL_law_265 : decode cL_law 265 = .ok (.iadd, 1) := by decide +kernel
theorem dL_law_266 : decode cL_law 266 = .ok (.iaload, 1) := by decide +kernel
theorem dL_law_267 : decode cL_law 267 = .ok (.invokevirtual 35, 3) := by decide +kernel
theorem dL_law_270 : decode cL_law 270 = .ok (.if_icmp .eq 545, 3) := by decide +kernel
theorem dL_law_273 : decode cL_law 273 = .ok (.iconst 0, 1) := by decide +kernel
theorem dL_law_274 : decode cL_law 274 = .ok (.ireturn, 1) := by decide +kernel
theorem dL_law_275 : decode cL_law 275 = .ok (.aload_n 1, 1) := by decide +kernel
theorem dL_law_276 : decode cL_law 276 = .ok (.aload_n 0, 1) := by decide +kernel
theorem dL_law_277 : decode cL_law 277 = .ok (.iload_n 3, 1) := by decide +kernel
theorem dL_law_278 : decode cL_law 278 = .ok (.iconst 1, 1) := by decide +kernel
theorem dL_law_279 : decode cL_law 279 = .ok (.iadd, 1) := by decide +kernel
theorem dL_law_280 : decode cL_law 280 = .ok (.iaload, 1) := by decide +kernel
theorem dL_law_281 : decode cL_law 281 = .ok (.invokevirtual 36, 3) := by decide +kernel
theorem dL_law_284 : decode cL_law 284 = .ok (.aload_n 2, 1) := by decide +kernel
theorem dL_law_285 : decode cL_law 285 = .ok (.aload_n 0, 1) := by decide +kernel
theorem dL_law_286 : decode cL_law 286 = .ok (.iload_n 3, 1) := by decide +kernel
theorem dL_law_287 : decode cL_law 287 = .ok (.iconst 1, 1) := by decide +kernel
theorem dL_law_288 : decode cL_law 288 = .ok (.iadd, 1) := by decide +kernel
theorem dL_law_289 : decode cL_law 289 = .ok (.iaload, 1) := by decide +kernel
theorem dL_law_290 : decode cL_law 290 = .ok (.invokevirtual 39, 3) := by decide +kernel
theorem dL_law_293 : decode cL_law 293 = .ok (.if_icmp .eq 522, 3) := by decide +kernel
theorem dL_law_296 : decode cL_law 296 = .ok (.iconst 0, 1) := by decide +kernel
theorem dL_law_297 : decode cL_law 297 = .ok (.ireturn, 1) := by decide +kernel
theorem dL_law_298 : decode cL_law 298 = .ok (.aload_n 1, 1) := by decide +kernel
theorem dL_law_299 : decode cL_law 299 = .ok (.invokevirtual 40, 3) := by decide +kernel
theorem dL_law_302 : decode cL_law 302 = .ok (.aload_n 2, 1) := by decide +kernel
theorem dL_law_303 : decode cL_law 303 = .ok (.invokevirtual 43, 3) := by decide +kernel
theorem dL_law_306 : decode cL_law 306 = .ok (.if_icmp .eq 509, 3) := by decide +kernel
theorem dL_law_309 : decode cL_law 309 = .ok (.iconst 0, 1) := by decide +kernel
theorem dL_law_310 : decode cL_law 310 = .ok (.ireturn, 1) := by decide +kernel
theorem dL_law_311 : decode cL_law 311 = .ok (.aload_n 1, 1) := by decide +kernel
theorem dL_law_312 : decode cL_law 312 = .ok (.aload_n 0, 1) := by decide +kernel
theorem dL_law_313 : decode cL_law 313 = .ok (.iload_n 3, 1) := by decide +kernel
theorem dL_law_314 : decode cL_law 314 = .ok (.iconst 1, 1) := by decide +kernel
theorem dL_law_315 : decode cL_law 315 = .ok (.iadd, 1) := by decide +kernel
theorem dL_law_316 : decode cL_law 316 = .ok (.iaload, 1) := by decide +kernel
theorem dL_law_317 : decode cL_law 317 = .ok (.invokevirtual 44, 3) := by decide +kernel
theorem dL_law_320 : decode cL_law 320 = .ok (.aload_n 2, 1) := by decide +kernel
theorem dL_law_321 : decode cL_law 321 = .ok (.aload_n 0, 1) := by decide +kernel
theorem dL_law_322 : decode cL_law 322 = .ok (.iload_n 3, 1) := by decide +kernel
theorem dL_law_323 : decode cL_law 323 = .ok (.iconst 1, 1) := by decide +kernel
theorem dL_law_324 : decode cL_law 324 = .ok (.iadd, 1) := by decide +kernel
theorem dL_law_325 : decode cL_law 325 = .ok (.iaload, 1) := by decide +kernel
theorem dL_law_326 : decode cL_law 326 = .ok (.invokevirtual 47, 3) := by decide +kernel
theorem dL_law_329 : decode cL_law 329 = .ok (.if_icmp .eq 486, 3) := by decide +kernel
theorem dL_law_332 : decode cL_law 332 = .ok (.iconst 0, 1) := by decide +kernel
theorem dL_law_333 : decode cL_law 333 = .ok (.ireturn, 1) := by decide +kernel
theorem dL_law_334 : decode cL_law 334 = .ok (.aload_n 1, 1) := by decide +kernel
theorem dL_law_335 : decode cL_law 335 = .ok (.aload_n 0, 1) := by decide +kernel
theorem dL_law_336 : decode cL_law 336 = .ok (.iload_n 3, 1) := by decide +kernel
theorem dL_law_337 : decode cL_law 337 = .ok (.iconst 1, 1) := by decide +kernel
theorem dL_law_338 : decode cL_law 338 = .ok (.iadd, 1) := by decide +kernel
theorem dL_law_339 : decode cL_law 339 = .ok (.iaload, 1) := by decide +kernel
theorem dL_law_340 : decode cL_law 340 = .ok (.invokevirtual 48, 3) := by decide +kernel
theorem dL_law_343 : decode cL_law 343 = .ok (.aload_n 2, 1) := by decide +kernel
theorem dL_law_344 : decode cL_law 344 = .ok (.aload_n 0, 1) := by decide +kernel
theorem dL_law_345 : decode cL_law 345 = .ok (.iload_n 3, 1) := by decide +kernel
theorem dL_law_346 : decode cL_law 346 = .ok (.iconst 1, 1) := by decide +kernel
theorem dL_law_347 : decode cL_law 347 = .ok (.iadd, 1) := by decide +kernel
theorem dL_law_348 : decode cL_law 348 = .ok (.iaload, 1) := by decide +kernel
theorem dL_law_349 : decode cL_law 349 = .ok (.invokevirtual 51, 3) := by decide +kernel
theorem dL_law_352 : decode cL_law 352 = .ok (.if_icmp .eq 463, 3) := by decide +kernel
theorem dL_law_355 : decode cL_law 355 = .ok (.iconst 0, 1) := by decide +kernel
theorem dL_law_356 : decode cL_law 356 = .ok (.ireturn, 1) := by decide +kernel
theorem dL_law_357 : decode cL_law 357 = .ok (.aload_n 1, 1) := by decide +kernel
theorem dL_law_358 : decode cL_law 358 = .ok (.aload_n 0, 1) := by decide +kernel
theorem dL_law_359 : decode cL_law 359 = .ok (.iload_n 3, 1) := by decide +kernel
theorem dL_law_360 : decode cL_law 360 = .ok (.iconst 1, 1) := by decide +kernel
theorem dL_law_361 : decode cL_law 361 = .ok (.iadd, 1) := by decide +kernel
theorem dL_law_362 : decode cL_law 362 = .ok (.iaload, 1) := by decide +kernel
theorem dL_law_363 : decode cL_law 363 = .ok (.invokevirtual 52, 3) := by decide +kernel
theorem dL_law_366 : decode cL_law 366 = .ok (.aload_n 2, 1) := by decide +kernel
theorem dL_law_367 : decode cL_law 367 = .ok (.aload_n 0, 1) := by decide +kernel
theorem dL_law_368 : decode cL_law 368 = .ok (.iload_n 3, 1) := by decide +kernel
theorem dL_law_369 : decode cL_law 369 = .ok (.iconst 1, 1) := by decide +kernel
theorem dL_law_370 : decode cL_law 370 = .ok (.iadd, 1) := by decide +kernel
theorem dL_law_371 : decode cL_law 371 = .ok (.iaload, 1) := by decide +kernel
theorem dL_law_372 : decode cL_law 372 = .ok (.invokevirtual 55, 3) := by decide +kernel
theorem dL_law_375 : decode cL_law 375 = .ok (.if_icmp .eq 440, 3) := by decide +kernel
theorem dL_law_378 : decode cL_law 378 = .ok (.iconst 0, 1) := by decide +kernel
theorem dL_law_379 : decode cL_law 379 = .ok (.ireturn, 1) := by decide +kernel
theorem dL_law_380 : decode cL_law 380 = .ok (.aload_n 1, 1) := by decide +kernel
theorem dL_law_381 : decode cL_law 381 = .ok (.invokevirtual 56, 3) := by decide +kernel
theorem dL_law_384 : decode cL_law 384 = .ok (.aload_n 2, 1) := by decide +kernel
theorem dL_law_385 : decode cL_law 385 = .ok (.invokevirtual 59, 3) := by decide +kernel
theorem dL_law_388 : decode cL_law 388 = .ok (.if_icmp .eq 427, 3) := by decide +kernel
theorem dL_law_391 : decode cL_law 391 = .ok (.iconst 0, 1) := by decide +kernel
theorem dL_law_392 : decode cL_law 392 = .ok (.ireturn, 1) := by decide +kernel
theorem dL_law_393 : decode cL_law 393 = .ok (.aload_n 1, 1) := by decide +kernel
theorem dL_law_394 : decode cL_law 394 = .ok (.invokevirtual 60, 3) := by decide +kernel
theorem dL_law_397 : decode cL_law 397 = .ok (.aload_n 2, 1) := by decide +kernel
theorem dL_law_398 : decode cL_law 398 = .ok (.invokevirtual 63, 3) := by decide +kernel
theorem dL_law_401 : decode cL_law 401 = .ok (.if_icmp .eq 414, 3) := by decide +kernel
theorem dL_law_404 : decode cL_law 404 = .ok (.iconst 0, 1) := by decide +kernel
theorem dL_law_405 : decode cL_law 405 = .ok (.ireturn, 1) := by decide +kernel
theorem dL_law_406 : decode cL_law 406 = .ok (.aload_n 1, 1) := by decide +kernel
theorem dL_law_407 : decode cL_law 407 = .ok (.aload_n 0, 1) := by decide +kernel
theorem dL_law_408 : decode cL_law 408 = .ok (.iload_n 3, 1) := by decide +kernel
theorem dL_law_409 : decode cL_law 409 = .ok (.iconst 1, 1) := by decide +kernel
theorem dL_law_410 : decode cL_law 410 = .ok (.iadd, 1) := by decide +kernel
theorem dL_law_411 : decode cL_law 411 = .ok (.iaload, 1) := by decide +kernel
theorem dL_law_412 : decode cL_law 412 = .ok (.invokevirtual 64, 3) := by decide +kernel
theorem dL_law_415 : decode cL_law 415 = .ok (.aload_n 2, 1) := by decide +kernel
theorem dL_law_416 : decode cL_law 416 = .ok (.aload_n 0, 1) := by decide +kernel
theorem dL_law_417 : decode cL_law 417 = .ok (.iload_n 3, 1) := by decide +kernel
theorem dL_law_418 : decode cL_law 418 = .ok (.iconst 1, 1) := by decide +kernel
theorem dL_law_419 : decode cL_law 419 = .ok (.iadd, 1) := by decide +kernel
theorem dL_law_420 : decode cL_law 420 = .ok (.iaload, 1) := by decide +kernel
theorem dL_law_421 : decode cL_law 421 = .ok (.invokevirtual 67, 3) := by decide +kernel
theorem dL_law_424 : decode cL_law 424 = .ok (.if_icmp .eq 391, 3) := by decide +kernel
theorem dL_law_427 : decode cL_law 427 = .ok (.iconst 0, 1) := by decide +kernel
theorem dL_law_428 : decode cL_law 428 = .ok (.ireturn, 1) := by decide +kernel
theorem dL_law_429 : decode cL_law 429 = .ok (.aload_n 1, 1) := by decide +kernel
theorem dL_law_430 : decode cL_law 430 = .ok (.aload_n 0, 1) := by decide +kernel
theorem dL_law_431 : decode cL_law 431 = .ok (.iload_n 3, 1) := by decide +kernel
theorem dL_law_432 : decode cL_law 432 = .ok (.iconst 1, 1) := by decide +kernel
theorem dL_law_433 : decode cL_law 433 = .ok (.iadd, 1) := by decide +kernel
theorem dL_law_434 : decode cL_law 434 = .ok (.iaload, 1) := by decide +kernel
theorem dL_law_435 : decode cL_law 435 = .ok (.aload_n 0, 1) := by decide +kernel
theorem dL_law_436 : decode cL_law 436 = .ok (.iload_n 3, 1) := by decide +kernel
theorem dL_law_437 : decode cL_law 437 = .ok (.iconst 2, 1) := by decide +kernel
theorem dL_law_438 : decode cL_law 438 = .ok (.iadd, 1) := by decide +kernel
theorem dL_law_439 : decode cL_law 439 = .ok (.iaload, 1) := by decide +kernel
theorem dL_law_440 : decode cL_law 440 = .ok (.invokevirtual 68, 3) := by decide +kernel
theorem dL_law_443 : decode cL_law 443 = .ok (.aload_n 2, 1) := by decide +kernel
theorem dL_law_444 : decode cL_law 444 = .ok (.aload_n 0, 1) := by decide +kernel
theorem dL_law_445 : decode cL_law 445 = .ok (.iload_n 3, 1) := by decide +kernel
theorem dL_law_446 : decode cL_law 446 = .ok (.iconst 1, 1) := by decide +kernel
theorem dL_law_447 : decode cL_law 447 = .ok (.iadd, 1) := by decide +kernel
theorem dL_law_448 : decode cL_law 448 = .ok (.iaload, 1) := by decide +kernel
theorem dL_law_449 : decode cL_law 449 = .ok (.aload_n 0, 1) := by decide +kernel
theorem dL_law_450 : decode cL_law 450 = .ok (.iload_n 3, 1) := by decide +kernel
theorem dL_law_451 : decode cL_law 451 = .ok (.iconst 2, 1) := by decide +kernel
theorem dL_law_452 : decode cL_law 452 = .ok (.iadd, 1) := by decide +kernel
theorem dL_law_453 : decode cL_law 453 = .ok (.iaload, 1) := by decide +kernel
theorem dL_law_454 : decode cL_law 454 = .ok (.invokevirtual 71, 3) := by decide +kernel
theorem dL_law_457 : decode cL_law 457 = .ok (.if_icmp .eq 358, 3) := by decide +kernel
theorem dL_law_460 : decode cL_law 460 = .ok (.iconst 0, 1) := by decide +kernel
theorem dL_law_461 : decode cL_law 461 = .ok (.ireturn, 1) := by decide +kernel
theorem dL_law_462 : decode cL_law 462 = .ok (.aload_n 1, 1) := by decide +kernel
theorem dL_law_463 : decode cL_law 463 = .ok (.invokevirtual 72, 3) := by decide +kernel
theorem dL_law_466 : decode cL_law 466 = .ok (.aload_n 2, 1) := by decide +kernel
theorem dL_law_467 : decode cL_law 467 = .ok (.invokevirtual 75, 3) := by decide +kernel
theorem dL_law_470 : decode cL_law 470 = .ok (.if_icmp .eq 345, 3) := by decide +kernel
theorem dL_law_473 : decode cL_law 473 = .ok (.iconst 0, 1) := by decide +kernel
theorem dL_law_474 : decode cL_law 474 = .ok (.ireturn, 1) := by decide +kernel
theorem dL_law_475 : decode cL_law 475 = .ok (.aload_n 1, 1) := by decide +kernel
theorem dL_law_476 : decode cL_law 476 = .ok (.aload_n 0, 1) := by decide +kernel
theorem dL_law_477 : decode cL_law 477 = .ok (.iload_n 3, 1) := by decide +kernel
theorem dL_law_478 : decode cL_law 478 = .ok (.iconst 1, 1) := by decide +kernel
theorem dL_law_479 : decode cL_law 479 = .ok (.iadd, 1) := by decide +kernel
theorem dL_law_480 : decode cL_law 480 = .ok (.iaload, 1) := by decide +kernel
theorem dL_law_481 : decode cL_law 481 = .ok (.invokevirtual 76, 3) := by decide +kernel
theorem dL_law_484 : decode cL_law 484 = .ok (.aload_n 2, 1) := by decide +kernel
theorem dL_law_485 : decode cL_law 485 = .ok (.aload_n 0, 1) := by decide +kernel
theorem dL_law_486 : decode cL_law 486 = .ok (.iload_n 3, 1) := by decide +kernel
theorem dL_law_487 : decode cL_law 487 = .ok (.iconst 1, 1) := by decide +kernel
theorem dL_law_488 : decode cL_law 488 = .ok (.iadd, 1) := by decide +kernel
theorem dL_law_489 : decode cL_law 489 = .ok (.iaload, 1) := by decide +kernel
theorem dL_law_490 : decode cL_law 490 = .ok (.invokevirtual 79, 3) := by decide +kernel
theorem dL_law_493 : decode cL_law 493 = .ok (.if_icmp .eq 322, 3) := by decide +kernel
theorem dL_law_496 : decode cL_law 496 = .ok (.iconst 0, 1) := by decide +kernel
theorem dL_law_497 : decode cL_law 497 = .ok (.ireturn, 1) := by decide +kernel
theorem dL_law_498 : decode cL_law 498 = .ok (.aload_n 1, 1) := by decide +kernel
theorem dL_law_499 : decode cL_law 499 = .ok (.aload_n 0, 1) := by decide +kernel
theorem dL_law_500 : decode cL_law 500 = .ok (.iload_n 3, 1) := by decide +kernel
theorem dL_law_501 : decode cL_law 501 = .ok (.iconst 1, 1) := by decide +kernel
theorem dL_law_502 : decode cL_law 502 = .ok (.iadd, 1) := by decide +kernel
theorem dL_law_503 : decode cL_law 503 = .ok (.iaload, 1) := by decide +kernel
theorem dL_law_504 : decode cL_law 504 = .ok (.invokevirtual 80, 3) := by decide +kernel
theorem dL_law_507 : decode cL_law 507 = .ok (.aload_n 2, 1) := by decide +kernel
theorem dL_law_508 : decode cL_law 508 = .ok (.aload_n 0, 1) := by decide +kernel
theorem dL_law_509 : decode cL_law 509 = .ok (.iload_n 3, 1) := by decide +kernel
theorem dL_law_510 : decode cL_law 510 = .ok (.iconst 1, 1) := by decide +kernel
theorem dL_law_511 : decode cL_law 511 = .ok (.iadd, 1) := by decide +kernel
theorem dL_law_512 : decode cL_law 512 = .ok (.iaload, 1) := by decide +kernel
theorem dL_law_513 : decode cL_law 513 = .ok (.invokevirtual 83, 3) := by decide +kernel
theorem dL_law_516 : decode cL_law 516 = .ok (.if_icmp .eq 299, 3) := by decide +kernel
theorem dL_law_519 : decode cL_law 519 = .ok (.iconst 0, 1) := by decide +kernel
theorem dL_law_520 : decode cL_law 520 = .ok (.ireturn, 1) := by decide +kernel
theorem dL_law_521 : decode cL_law 521 = .ok (.aload_n 1, 1) := by decide +kernel
theorem dL_law_522 : decode cL_law 522 = .ok (.aload_n 0, 1) := by decide +kernel
theorem dL_law_523 : decode cL_law 523 = .ok (.iload_n 3, 1) := by decide +kernel
theorem dL_law_524 : decode cL_law 524 = .ok (.iconst 1, 1) := by decide +kernel
theorem dL_law_525 : decode cL_law 525 = .ok (.iadd, 1) := by decide +kernel
theorem dL_law_526 : decode cL_law 526 = .ok (.iaload, 1) := by decide +kernel
theorem dL_law_527 : decode cL_law 527 = .ok (.aload_n 0, 1) := by decide +kernel
theorem dL_law_528 : decode cL_law 528 = .ok (.iload_n 3, 1) := by decide +kernel
theorem dL_law_529 : decode cL_law 529 = .ok (.iconst 2, 1) := by decide +kernel
theorem dL_law_530 : decode cL_law 530 = .ok (.iadd, 1) := by decide +kernel
theorem dL_law_531 : decode cL_law 531 = .ok (.iaload, 1) := by decide +kernel
theorem dL_law_532 : decode cL_law 532 = .ok (.invokevirtual 84, 3) := by decide +kernel
theorem dL_law_535 : decode cL_law 535 = .ok (.aload_n 2, 1) := by decide +kernel
theorem dL_law_536 : decode cL_law 536 = .ok (.aload_n 0, 1) := by decide +kernel
theorem dL_law_537 : decode cL_law 537 = .ok (.iload_n 3, 1) := by decide +kernel
theorem dL_law_538 : decode cL_law 538 = .ok (.iconst 1, 1) := by decide +kernel
theorem dL_law_539 : decode cL_law 539 = .ok (.iadd, 1) := by decide +kernel
theorem dL_law_540 : decode cL_law 540 = .ok (.iaload, 1) := by decide +kernel
theorem dL_law_541 : decode cL_law 541 = .ok (.aload_n 0, 1) := by decide +kernel
theorem dL_law_542 : decode cL_law 542 = .ok (.iload_n 3, 1) := by decide +kernel
theorem dL_law_543 : decode cL_law 543 = .ok (.iconst 2, 1) := by decide +kernel
theorem dL_law_544 : decode cL_law 544 = .ok (.iadd, 1) := by decide +kernel
theorem dL_law_545 : decode cL_law 545 = .ok (.iaload, 1) := by decide +kernel
theorem dL_law_546 : decode cL_law 546 = .ok (.invokevirtual 87, 3) := by decide +kernel
theorem dL_law_549 : decode cL_law 549 = .ok (.if_icmp .eq 266, 3) := by decide +kernel
theorem dL_law_552 : decode cL_law 552 = .ok (.iconst 0, 1) := by decide +kernel
theorem dL_law_553 : decode cL_law 553 = .ok (.ireturn, 1) := by decide +kernel
theorem dL_law_554 : decode cL_law 554 = .ok (.aload_n 1, 1) := by decide +kernel
theorem dL_law_555 : decode cL_law 555 = .ok (.aload_n 0, 1) := by decide +kernel
theorem dL_law_556 : decode cL_law 556 = .ok (.iload_n 3, 1) := by decide +kernel
theorem dL_law_557 : decode cL_law 557 = .ok (.iconst 1, 1) := by decide +kernel
theorem dL_law_558 : decode cL_law 558 = .ok (.iadd, 1) := by decide +kernel
theorem dL_law_559 : decode cL_law 559 = .ok (.iaload, 1) := by decide +kernel
theorem dL_law_560 : decode cL_law 560 = .ok (.aload_n 0, 1) := by decide +kernel
theorem dL_law_561 : decode cL_law 561 = .ok (.iload_n 3, 1) := by decide +kernel
theorem dL_law_562 : decode cL_law 562 = .ok (.iconst 2, 1) := by decide +kernel
theorem dL_law_563 : decode cL_law 563 = .ok (.iadd, 1) := by decide +kernel
theorem dL_law_564 : decode cL_law 564 = .ok (.iaload, 1) := by decide +kernel
theorem dL_law_565 : decode cL_law 565 = .ok (.aload_n 0, 1) := by decide +kernel
theorem dL_law_566 : decode cL_law 566 = .ok (.iload_n 3, 1) := by decide +kernel
theorem dL_law_567 : decode cL_law 567 = .ok (.iconst 3, 1) := by decide +kernel
theorem dL_law_568 : decode cL_law 568 = .ok (.iadd, 1) := by decide +kernel
theorem dL_law_569 : decode cL_law 569 = .ok (.iaload, 1) := by decide +kernel
theorem dL_law_570 : decode cL_law 570 = .ok (.aload_n 0, 1) := by decide +kernel
theorem dL_law_571 : decode cL_law 571 = .ok (.iload_n 3, 1) := by decide +kernel
theorem dL_law_572 : decode cL_law 572 = .ok (.iconst 4, 1) := by decide +kernel
theorem dL_law_573 : decode cL_law 573 = .ok (.iadd, 1) := by decide +kernel
theorem dL_law_574 : decode cL_law 574 = .ok (.iaload, 1) := by decide +kernel
theorem dL_law_575 : decode cL_law 575 = .ok (.invokevirtual 88, 3) := by decide +kernel
theorem dL_law_578 : decode cL_law 578 = .ok (.aload_n 2, 1) := by decide +kernel
theorem dL_law_579 : decode cL_law 579 = .ok (.aload_n 0, 1) := by decide +kernel
theorem dL_law_580 : decode cL_law 580 = .ok (.iload_n 3, 1) := by decide +kernel
theorem dL_law_581 : decode cL_law 581 = .ok (.iconst 1, 1) := by decide +kernel
theorem dL_law_582 : decode cL_law 582 = .ok (.iadd, 1) := by decide +kernel
theorem dL_law_583 : decode cL_law 583 = .ok (.iaload, 1) := by decide +kernel
theorem dL_law_584 : decode cL_law 584 = .ok (.aload_n 0, 1) := by decide +kernel
theorem dL_law_585 : decode cL_law 585 = .ok (.iload_n 3, 1) := by decide +kernel
theorem dL_law_586 : decode cL_law 586 = .ok (.iconst 2, 1) := by decide +kernel
theorem dL_law_587 : decode cL_law 587 = .ok (.iadd, 1) := by decide +kernel
theorem dL_law_588 : decode cL_law 588 = .ok (.iaload, 1) := by decide +kernel
theorem dL_law_589 : decode cL_law 589 = .ok (.aload_n 0, 1) := by decide +kernel
theorem dL_law_590 : decode cL_law 590 = .ok (.iload_n 3, 1) := by decide +kernel
theorem dL_law_591 : decode cL_law 591 = .ok (.iconst 3, 1) := by decide +kernel
theorem dL_law_592 : decode cL_law 592 = .ok (.iadd, 1) := by decide +kernel
theorem dL_law_593 : decode cL_law 593 = .ok (.iaload, 1) := by decide +kernel
theorem dL_law_594 : decode cL_law 594 = .ok (.aload_n 0, 1) := by decide +kernel
theorem dL_law_595 : decode cL_law 595 = .ok (.iload_n 3, 1) := by decide +kernel
theorem dL_law_596 : decode cL_law 596 = .ok (.iconst 4, 1) := by decide +kernel
theorem dL_law_597 : decode cL_law 597 = .ok (.iadd, 1) := by decide +kernel
theorem dL_law_598 : decode cL_law 598 = .ok (.iaload, 1) := by decide +kernel
theorem dL_law_599 : decode cL_law 599 = .ok (.invokevirtual 92, 3) := by decide +kernel
theorem dL_law_602 : decode cL_law 602 = .ok (.if_icmp .eq 213, 3) := by decide +kernel
theorem dL_law_605 : decode cL_law 605 = .ok (.iconst 0, 1) := by decide +kernel
theorem dL_law_606 : decode cL_law 606 = .ok (.ireturn, 1) := by decide +kernel
theorem dL_law_607 : decode cL_law 607 = .ok (.aload_n 1, 1) := by decide +kernel
theorem dL_law_608 : decode cL_law 608 = .ok (.aload_n 0, 1) := by decide +kernel
theorem dL_law_609 : decode cL_law 609 = .ok (.iload_n 3, 1) := by decide +kernel
theorem dL_law_610 : decode cL_law 610 = .ok (.iconst 1, 1) := by decide +kernel
theorem dL_law_611 : decode cL_law 611 = .ok (.iadd, 1) := by decide +kernel
theorem dL_law_612 : decode cL_law 612 = .ok (.iaload, 1) := by decide +kernel
theorem dL_law_613 : decode cL_law 613 = .ok (.aload_n 0, 1) := by decide +kernel
theorem dL_law_614 : decode cL_law 614 = .ok (.iload_n 3, 1) := by decide +kernel
theorem dL_law_615 : decode cL_law 615 = .ok (.iconst 2, 1) := by decide +kernel
theorem dL_law_616 : decode cL_law 616 = .ok (.iadd, 1) := by decide +kernel
theorem dL_law_617 : decode cL_law 617 = .ok (.iaload, 1) := by decide +kernel
theorem dL_law_618 : decode cL_law 618 = .ok (.invokevirtual 93, 3) := by decide +kernel
theorem dL_law_621 : decode cL_law 621 = .ok (.aload_n 2, 1) := by decide +kernel
theorem dL_law_622 : decode cL_law 622 = .ok (.aload_n 0, 1) := by decide +kernel
theorem dL_law_623 : decode cL_law 623 = .ok (.iload_n 3, 1) := by decide +kernel
theorem dL_law_624 : decode cL_law 624 = .ok (.iconst 1, 1) := by decide +kernel
theorem dL_law_625 : decode cL_law 625 = .ok (.iadd, 1) := by decide +kernel
theorem dL_law_626 : decode cL_law 626 = .ok (.iaload, 1) := by decide +kernel
theorem dL_law_627 : decode cL_law 627 = .ok (.aload_n 0, 1) := by decide +kernel
theorem dL_law_628 : decode cL_law 628 = .ok (.iload_n 3, 1) := by decide +kernel
theorem dL_law_629 : decode cL_law 629 = .ok (.iconst 2, 1) := by decide +kernel
theorem dL_law_630 : decode cL_law 630 = .ok (.iadd, 1) := by decide +kernel
theorem dL_law_631 : decode cL_law 631 = .ok (.iaload, 1) := by decide +kernel
theorem dL_law_632 : decode cL_law 632 = .ok (.invokevirtual 96, 3) := by decide +kernel
theorem dL_law_635 : decode cL_law 635 = .ok (.if_icmp .eq 180, 3) := by decide +kernel
theorem dL_law_638 : decode cL_law 638 = .ok (.iconst 0, 1) := by decide +kernel
theorem dL_law_639 : decode cL_law 639 = .ok (.ireturn, 1) := by decide +kernel
theorem dL_law_640 : decode cL_law 640 = .ok (.aload_n 1, 1) := by decide +kernel
theorem dL_law_641 : decode cL_law 641 = .ok (.invokevirtual 97, 3) := by decide +kernel
theorem dL_law_644 : decode cL_law 644 = .ok (.aload_n 2, 1) := by decide +kernel
theorem dL_law_645 : decode cL_law 645 = .ok (.invokevirtual 100, 3) := by decide +kernel
theorem dL_law_648 : decode cL_law 648 = .ok (.if_icmp .eq 167, 3) := by decide +kernel
theorem dL_law_651 : decode cL_law 651 = .ok (.iconst 0, 1) := by decide +kernel
theorem dL_law_652 : decode cL_law 652 = .ok (.ireturn, 1) := by decide +kernel
theorem dL_law_653 : decode cL_law 653 = .ok (.aload_n 1, 1) := by decide +kernel
theorem dL_law_654 : decode cL_law 654 = .ok (.aload_n 0, 1) := by decide +kernel
theorem dL_law_655 : decode cL_law 655 = .ok (.iload_n 3, 1) := by decide +kernel
theorem dL_law_656 : decode cL_law 656 = .ok (.iconst 1, 1) := by decide +kernel
theorem dL_law_657 : decode cL_law 657 = .ok (.iadd, 1) := by decide +kernel
theorem dL_law_658 : decode cL_law 658 = .ok (.iaload, 1) := by decide +kernel
theorem dL_law_659 : decode cL_law 659 = .ok (.invokevirtual 101, 3) := by decide +kernel
theorem dL_law_662 : decode cL_law 662 = .ok (.aload_n 2, 1) := by decide +kernel
theorem dL_law_663 : decode cL_law 663 = .ok (.aload_n 0, 1) := by decide +kernel
theorem dL_law_664 : decode cL_law 664 = .ok (.iload_n 3, 1) := by decide +kernel
theorem dL_law_665 : decode cL_law 665 = .ok (.iconst 1, 1) := by decide +kernel
theorem dL_law_666 : decode cL_law 666 = .ok (.iadd, 1) := by decide +kernel
theorem dL_law_667 : decode cL_law 667 = .ok (.iaload, 1) := by decide +kernel
theorem dL_law_668 : decode cL_law 668 = .ok (.invokevirtual 104, 3) := by decide +kernel
theorem dL_law_671 : decode cL_law 671 = .ok (.if_icmp .eq 144, 3) := by decide +kernel
theorem dL_law_674 : decode cL_law 674 = .ok (.iconst 0, 1) := by decide +kernel
theorem dL_law_675 : decode cL_law 675 = .ok (.ireturn, 1) := by decide +kernel
theorem dL_law_676 : decode cL_law 676 = .ok (.aload_n 1, 1) := by decide +kernel
theorem dL_law_677 : decode cL_law 677 = .ok (.aload_n 0, 1) := by decide +kernel
theorem dL_law_678 : decode cL_law 678 = .ok (.iload_n 3, 1) := by decide +kernel
theorem dL_law_679 : decode cL_law 679 = .ok (.iconst 1, 1) := by decide +kernel
theorem dL_law_680 : decode cL_law 680 = .ok (.iadd, 1) := by decide +kernel
theorem dL_law_681 : decode cL_law 681 = .ok (.iaload, 1) := by decide +kernel
theorem dL_law_682 : decode cL_law 682 = .ok (.invokevirtual 105, 3) := by decide +kernel
theorem dL_law_685 : decode cL_law 685 = .ok (.aload_n 2, 1) := by decide +kernel
theorem dL_law_686 : decode cL_law 686 = .ok (.aload_n 0, 1) := by decide +kernel
theorem dL_law_687 : decode cL_law 687 = .ok (.iload_n 3, 1) := by decide +kernel
theorem dL_law_688 : decode cL_law 688 = .ok (.iconst 1, 1) := by decide +kernel
theorem dL_law_689 : decode cL_law 689 = .ok (.iadd, 1) := by decide +kernel
theorem dL_law_690 : decode cL_law 690 = .ok (.iaload, 1) := by decide +kernel
theorem dL_law_691 : decode cL_law 691 = .ok (.invokevirtual 108, 3) := by decide +kernel
theorem dL_law_694 : decode cL_law 694 = .ok (.if_icmp .eq 121, 3) := by decide +kernel
theorem dL_law_697 : decode cL_law 697 = .ok (.iconst 0, 1) := by decide +kernel
theorem dL_law_698 : decode cL_law 698 = .ok (.ireturn, 1) := by decide +kernel
theorem dL_law_699 : decode cL_law 699 = .ok (.aload_n 1, 1) := by decide +kernel
theorem dL_law_700 : decode cL_law 700 = .ok (.aload_n 0, 1) := by decide +kernel
theorem dL_law_701 : decode cL_law 701 = .ok (.iload_n 3, 1) := by decide +kernel
theorem dL_law_702 : decode cL_law 702 = .ok (.iconst 1, 1) := by decide +kernel
theorem dL_law_703 : decode cL_law 703 = .ok (.iadd, 1) := by decide +kernel
theorem dL_law_704 : decode cL_law 704 = .ok (.iaload, 1) := by decide +kernel
theorem dL_law_705 : decode cL_law 705 = .ok (.aload_n 0, 1) := by decide +kernel
theorem dL_law_706 : decode cL_law 706 = .ok (.iload_n 3, 1) := by decide +kernel
theorem dL_law_707 : decode cL_law 707 = .ok (.iconst 2, 1) := by decide +kernel
theorem dL_law_708 : decode cL_law 708 = .ok (.iadd, 1) := by decide +kernel
theorem dL_law_709 : decode cL_law 709 = .ok (.iaload, 1) := by decide +kernel
theorem dL_law_710 : decode cL_law 710 = .ok (.invokevirtual 109, 3) := by decide +kernel
theorem dL_law_713 : decode cL_law 713 = .ok (.aload_n 2, 1) := by decide +kernel
theorem dL_law_714 : decode cL_law 714 = .ok (.aload_n 0, 1) := by decide +kernel
theorem dL_law_715 : decode cL_law 715 = .ok (.iload_n 3, 1) := by decide +kernel
theorem dL_law_716 : decode cL_law 716 = .ok (.iconst 1, 1) := by decide +kernel
theorem dL_law_717 : decode cL_law 717 = .ok (.iadd, 1) := by decide +kernel
theorem dL_law_718 : decode cL_law 718 = .ok (.iaload, 1) := by decide +kernel
theorem dL_law_719 : decode cL_law 719 = .ok (.aload_n 0, 1) := by decide +kernel
theorem dL_law_720 : decode cL_law 720 = .ok (.iload_n 3, 1) := by decide +kernel
theorem dL_law_721 : decode cL_law 721 = .ok (.iconst 2, 1) := by decide +kernel
theorem dL_law_722 : decode cL_law 722 = .ok (.iadd, 1) := by decide +kernel
theorem dL_law_723 : decode cL_law 723 = .ok (.iaload, 1) := by decide +kernel
theorem dL_law_724 : decode cL_law 724 = .ok (.invokevirtual 112, 3) := by decide +kernel
theorem dL_law_727 : decode cL_law 727 = .ok (.if_icmp .eq 88, 3) := by decide +kernel
theorem dL_law_730 : decode cL_law 730 = .ok (.iconst 0, 1) := by decide +kernel
theorem dL_law_731 : decode cL_law 731 = .ok (.ireturn, 1) := by decide +kernel
theorem dL_law_732 : decode cL_law 732 = .ok (.aload_n 1, 1) := by decide +kernel
theorem dL_law_733 : decode cL_law 733 = .ok (.aload_n 0, 1) := by decide +kernel
theorem dL_law_734 : decode cL_law 734 = .ok (.iload_n 3, 1) := by decide +kernel
theorem dL_law_735 : decode cL_law 735 = .ok (.iconst 1, 1) := by decide +kernel
theorem dL_law_736 : decode cL_law 736 = .ok (.iadd, 1) := by decide +kernel
theorem dL_law_737 : decode cL_law 737 = .ok (.iaload, 1) := by decide +kernel
theorem dL_law_738 : decode cL_law 738 = .ok (.invokevirtual 113, 3) := by decide +kernel
theorem dL_law_741 : decode cL_law 741 = .ok (.aload_n 2, 1) := by decide +kernel
theorem dL_law_742 : decode cL_law 742 = .ok (.aload_n 0, 1) := by decide +kernel
theorem dL_law_743 : decode cL_law 743 = .ok (.iload_n 3, 1) := by decide +kernel
theorem dL_law_744 : decode cL_law 744 = .ok (.iconst 1, 1) := by decide +kernel
theorem dL_law_745 : decode cL_law 745 = .ok (.iadd, 1) := by decide +kernel
theorem dL_law_746 : decode cL_law 746 = .ok (.iaload, 1) := by decide +kernel
theorem dL_law_747 : decode cL_law 747 = .ok (.invokevirtual 116, 3) := by decide +kernel
theorem dL_law_750 : decode cL_law 750 = .ok (.if_icmp .eq 65, 3) := by decide +kernel
theorem dL_law_753 : decode cL_law 753 = .ok (.iconst 0, 1) := by decide +kernel
theorem dL_law_754 : decode cL_law 754 = .ok (.ireturn, 1) := by decide +kernel
theorem dL_law_755 : decode cL_law 755 = .ok (.aload_n 1, 1) := by decide +kernel
theorem dL_law_756 : decode cL_law 756 = .ok (.aload_n 0, 1) := by decide +kernel
theorem dL_law_757 : decode cL_law 757 = .ok (.iload_n 3, 1) := by decide +kernel
theorem dL_law_758 : decode cL_law 758 = .ok (.iconst 1, 1) := by decide +kernel
theorem dL_law_759 : decode cL_law 759 = .ok (.iadd, 1) := by decide +kernel
theorem dL_law_760 : decode cL_law 760 = .ok (.iaload, 1) := by decide +kernel
theorem dL_law_761 : decode cL_law 761 = .ok (.invokevirtual 117, 3) := by decide +kernel
theorem dL_law_764 : decode cL_law 764 = .ok (.aload_n 2, 1) := by decide +kernel
theorem dL_law_765 : decode cL_law 765 = .ok (.aload_n 0, 1) := by decide +kernel
theorem dL_law_766 : decode cL_law 766 = .ok (.iload_n 3, 1) := by decide +kernel
theorem dL_law_767 : decode cL_law 767 = .ok (.iconst 1, 1) := by decide +kernel
theorem dL_law_768 : decode cL_law 768 = .ok (.iadd, 1) := by decide +kernel
theorem dL_law_769 : decode cL_law 769 = .ok (.iaload, 1) := by decide +kernel
theorem dL_law_770 : decode cL_law 770 = .ok (.invokevirtual 120, 3) := by decide +kernel
theorem dL_law_773 : decode cL_law 773 = .ok (.if_icmp .eq 42, 3) := by decide +kernel
theorem dL_law_776 : decode cL_law 776 = .ok (.iconst 0, 1) := by decide +kernel
theorem dL_law_777 : decode cL_law 777 = .ok (.ireturn, 1) := by decide +kernel
theorem dL_law_778 : decode cL_law 778 = .ok (.aload_n 1, 1) := by decide +kernel
theorem dL_law_779 : decode cL_law 779 = .ok (.aload_n 0, 1) := by decide +kernel
theorem dL_law_780 : decode cL_law 780 = .ok (.iload_n 3, 1) := by decide +kernel
theorem dL_law_781 : decode cL_law 781 = .ok (.iconst 1, 1) := by decide +kernel
theorem dL_law_782 : decode cL_law 782 = .ok (.iadd, 1) := by decide +kernel
theorem dL_law_783 : decode cL_law 783 = .ok (.iaload, 1) := by decide +kernel
theorem dL_law_784 : decode cL_law 784 = .ok (.invokevirtual 121, 3) := by decide +kernel
theorem dL_law_787 : decode cL_law 787 = .ok (.aload_n 2, 1) := by decide +kernel
theorem dL_law_788 : decode cL_law 788 = .ok (.aload_n 0, 1) := by decide +kernel
theorem dL_law_789 : decode cL_law 789 = .ok (.iload_n 3, 1) := by decide +kernel
theorem dL_law_790 : decode cL_law 790 = .ok (.iconst 1, 1) := by decide +kernel
theorem dL_law_791 : decode cL_law 791 = .ok (.iadd, 1) := by decide +kernel
theorem dL_law_792 : decode cL_law 792 = .ok (.iaload, 1) := by decide +kernel
theorem dL_law_793 : decode cL_law 793 = .ok (.invokevirtual 124, 3) := by decide +kernel
theorem dL_law_796 : decode cL_law 796 = .ok (.if_icmp .eq 19, 3) := by decide +kernel
theorem dL_law_799 : decode cL_law 799 = .ok (.iconst 0, 1) := by decide +kernel
theorem dL_law_800 : decode cL_law 800 = .ok (.ireturn, 1) := by decide +kernel
theorem dL_law_801 : decode cL_law 801 = .ok (.aload_n 1, 1) := by decide +kernel
theorem dL_law_802 : decode cL_law 802 = .ok (.invokevirtual 125, 3) := by decide +kernel
theorem dL_law_805 : decode cL_law 805 = .ok (.aload_n 2, 1) := by decide +kernel
theorem dL_law_806 : decode cL_law 806 = .ok (.invokevirtual 129, 3) := by decide +kernel
theorem dL_law_809 : decode cL_law 809 = .ok (.lcmp, 1) := by decide +kernel
theorem dL_law_810 : decode cL_law 810 = .ok (.ifCond .eq 5, 3) := by decide +kernel
theorem dL_law_813 : decode cL_law 813 = .ok (.iconst 0, 1) := by decide +kernel
theorem dL_law_814 : decode cL_law 814 = .ok (.ireturn, 1) := by decide +kernel
theorem dL_law_815 : decode cL_law 815 = .ok (.iinc 3 5, 3) := by decide +kernel
theorem dL_law_818 : decode cL_law 818 = .ok (.goto (-800), 3) := by decide +kernel
theorem dL_law_821 : decode cL_law 821 = .ok (.iconst 1, 1) := by decide +kernel
theorem dL_law_822 : decode cL_law 822 = .ok (.ireturn, 1) := by decide +kernel
