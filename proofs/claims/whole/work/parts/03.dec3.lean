theorem dX7_token_45 : decode cX7_token 45 = .ok (.ifCond .ge 7, 3) := by decide +kernel
theorem dX7_token_48 : decode cX7_token 48 = .ok (.iconst 0, 1) := by decide +kernel
theorem dX7_token_49 : decode cX7_token 49 = .ok (.goto 36, 3) := by decide +kernel
theorem dX7_token_52 : decode cX7_token 52 = .ok (.iload_n 1, 1) := by decide +kernel
theorem dX7_token_53 : decode cX7_token 53 = .ok (.invokestatic 60, 3) := by decide +kernel
theorem dX7_token_56 : decode cX7_token 56 = .ok (.ifCond .eq 7, 3) := by decide +kernel
theorem dX7_token_59 : decode cX7_token 59 = .ok (.iconst 1, 1) := by decide +kernel
theorem dX7_token_60 : decode cX7_token 60 = .ok (.goto 25, 3) := by decide +kernel
theorem dX7_token_63 : decode cX7_token 63 = .ok (.iload_n 1, 1) := by decide +kernel
theorem dX7_token_64 : decode cX7_token 64 = .ok (.invokestatic 64, 3) := by decide +kernel
theorem dX7_token_67 : decode cX7_token 67 = .ok (.ifCond .eq 7, 3) := by decide +kernel
theorem dX7_token_70 : decode cX7_token 70 = .ok (.iconst 2, 1) := by decide +kernel
theorem dX7_token_71 : decode cX7_token 71 = .ok (.goto 14, 3) := by decide +kernel
theorem dX7_token_74 : decode cX7_token 74 = .ok (.iload_n 1, 1) := by decide +kernel
theorem dX7_token_75 : decode cX7_token 75 = .ok (.bipush 59, 2) := by decide +kernel
theorem dX7_token_77 : decode cX7_token 77 = .ok (.if_icmp .ne 7, 3) := by decide +kernel
theorem dX7_token_80 : decode cX7_token 80 = .ok (.iconst 3, 1) := by decide +kernel
theorem dX7_token_81 : decode cX7_token 81 = .ok (.goto 4, 3) := by decide +kernel
theorem dX7_token_84 : decode cX7_token 84 = .ok (.iconst 4, 1) := by decide +kernel
theorem dX7_token_85 : decode cX7_token 85 = .ok (.putfield 67, 3) := by decide +kernel
theorem dX7_token_88 : decode cX7_token 88 = .ok (.aload_n 0, 1) := by decide +kernel
theorem dX7_token_89 : decode cX7_token 89 = .ok (.iload_n 1, 1) := by decide +kernel
theorem dX7_token_90 : decode cX7_token 90 = .ok (.putfield 70, 3) := by decide +kernel
theorem dX7_token_93 : decode cX7_token 93 = .ok (.aload_n 0, 1) := by decide +kernel
theorem dX7_token_94 : decode cX7_token 94 = .ok (.getfield 67, 3) := by decide +kernel
theorem dX7_token_97 : decode cX7_token 97 = .ok (.ifCond .eq 13, 3) := by decide +kernel
theorem dX7_token_100 : decode cX7_token 100 = .ok (.aload_n 0, 1) := by decide +kernel
theorem dX7_token_101 : decode cX7_token 101 = .ok (.dup, 1) := by decide +kernel
theorem dX7_token_102 : decode cX7_token 102 = .ok (.getfield 50, 3) := by decide +kernel
theorem dX7_token_105 : decode cX7_token 105 = .ok (.iconst 1, 1) := by decide +kernel
theorem dX7_token_106 : decode cX7_token 106 = .ok (.iadd, 1) := by decide +kernel
theorem dX7_token_107 : decode cX7_token 107 = .ok (.putfield 50, 3) := by decide +kernel
theorem dX7_token_110 : decode cX7_token 110 = .ok (.aload_n 0, 1) := by decide +kernel
theorem dX7_token_111 : decode cX7_token 111 = .ok (.getfield 67, 3) := by decide +kernel
theorem dX7_token_114 : decode cX7_token 114 = .ok (.iconst 1, 1) := by decide +kernel
theorem dX7_token_115 : decode cX7_token 115 = .ok (.if_icmp .ne 35, 3) := by decide +kernel
theorem dX7_token_118 : decode cX7_token 118 = .ok (.aload_n 0, 1) := by decide +kernel
theorem dX7_token_119 : decode cX7_token 119 = .ok (.aload_n 0, 1) := by decide +kernel
theorem dX7_token_120 : decode cX7_token 120 = .ok (.getfield 50, 3) := by decide +kernel
theorem dX7_token_123 : decode cX7_token 123 = .ok (.invokevirtual 53, 3) := by decide +kernel
theorem dX7_token_126 : decode cX7_token 126 = .ok (.invokestatic 60, 3) := by decide +kernel
theorem dX7_token_129 : decode cX7_token 129 = .ok (.ifCond .eq 21, 3) := by decide +kernel
theorem dX7_token_132 : decode cX7_token 132 = .ok (.aload_n 0, 1) := by decide +kernel
theorem dX7_token_133 : decode cX7_token 133 = .ok (.iconst 0, 1) := by decide +kernel
theorem dX7_token_134 : decode cX7_token 134 = .ok (.putfield 70, 3) := by decide +kernel
theorem dX7_token_137 : decode cX7_token 137 = .ok (.aload_n 0, 1) := by decide +kernel
theorem dX7_token_138 : decode cX7_token 138 = .ok (.dup, 1) := by decide +kernel
theorem dX7_token_139 : decode cX7_token 139 = .ok (.getfield 50, 3) := by decide +kernel
theorem dX7_token_142 : decode cX7_token 142 = .ok (.iconst 1, 1) := by decide +kernel
theorem dX7_token_143 : decode cX7_token 143 = .ok (.iadd, 1) := by decide +kernel
theorem dX7_token_144 : decode cX7_token 144 = .ok (.putfield 50, 3) := by decide +kernel
theorem dX7_token_147 : decode cX7_token 147 = .ok (.goto (-37), 3) := by decide +kernel
theorem dX7_token_150 : decode cX7_token 150 = .ok (.aload_n 0, 1) := by decide +kernel
theorem dX7_token_151 : decode cX7_token 151 = .ok (.getfield 67, 3) := by decide +kernel
theorem dX7_token_154 : decode cX7_token 154 = .ok (.iconst 2, 1) := by decide +kernel
theorem dX7_token_155 : decode cX7_token 155 = .ok (.if_icmp .ne 83, 3) := by decide +kernel
theorem dX7_token_158 : decode cX7_token 158 = .ok (.aload_n 0, 1) := by decide +kernel
theorem dX7_token_159 : decode cX7_token 159 = .ok (.iload_n 1, 1) := by decide +kernel
theorem dX7_token_160 : decode cX7_token 160 = .ok (.bipush 48, 2) := by decide +kernel
theorem dX7_token_162 : decode cX7_token 162 = .ok (.isub, 1) := by decide +kernel
theorem dX7_token_163 : decode cX7_token 163 = .ok (.putfield 70, 3) := by decide +kernel
theorem dX7_token_166 : decode cX7_token 166 = .ok (.aload_n 0, 1) := by decide +kernel
theorem dX7_token_167 : decode cX7_token 167 = .ok (.aload_n 0, 1) := by decide +kernel
theorem dX7_token_168 : decode cX7_token 168 = .ok (.getfield 50, 3) := by decide +kernel
theorem dX7_token_171 : decode cX7_token 171 = .ok (.invokevirtual 53, 3) := by decide +kernel
theorem dX7_token_174 : decode cX7_token 174 = .ok (.invokestatic 64, 3) := by decide +kernel
theorem dX7_token_177 : decode cX7_token 177 = .ok (.ifCond .eq 61, 3) := by decide +kernel
theorem dX7_token_180 : decode cX7_token 180 = .ok (.aload_n 0, 1) := by decide +kernel
theorem dX7_token_181 : decode cX7_token 181 = .ok (.iload_n 1, 1) := by decide +kernel
theorem dX7_token_182 : decode cX7_token 182 = .ok (.bipush 48, 2) := by decide +kernel
theorem dX7_token_184 : decode cX7_token 184 = .ok (.if_icmp .eq 12, 3) := by decide +kernel
theorem dX7_token_187 : decode cX7_token 187 = .ok (.aload_n 0, 1) := by decide +kernel
theorem dX7_token_188 : decode cX7_token 188 = .ok (.getfield 70, 3) := by decide +kernel
theorem dX7_token_191 : decode cX7_token 191 = .ok (.bipush 99, 2) := by decide +kernel
theorem dX7_token_193 : decode cX7_token 193 = .ok (.if_icmp .le 9, 3) := by decide +kernel
theorem dX7_token_196 : decode cX7_token 196 = .ok (.sipush 1000, 3) := by decide +kernel
theorem dX7_token_199 : decode cX7_token 199 = .ok (.goto 23, 3) := by decide +kernel
theorem dX7_token_202 : decode cX7_token 202 = .ok (.bipush 10, 2) := by decide +kernel
theorem dX7_token_204 : decode cX7_token 204 = .ok (.aload_n 0, 1) := by decide +kernel
theorem dX7_token_205 : decode cX7_token 205 = .ok (.getfield 70, 3) := by decide +kernel
theorem dX7_token_208 : decode cX7_token 208 = .ok (.imul, 1) := by decide +kernel
theorem dX7_token_209 : decode cX7_token 209 = .ok (.aload_n 0, 1) := by decide +kernel
theorem dX7_token_210 : decode cX7_token 210 = .ok (.getfield 7, 3) := by decide +kernel
theorem dX7_token_213 : decode cX7_token 213 = .ok (.aload_n 0, 1) := by decide +kernel
theorem dX7_token_214 : decode cX7_token 214 = .ok (.getfield 50, 3) := by decide +kernel
theorem dX7_token_217 : decode cX7_token 217 = .ok (.iaload, 1) := by decide +kernel
theorem dX7_token_218 : decode cX7_token 218 = .ok (.iadd, 1) := by decide +kernel
theorem dX7_token_219 : decode cX7_token 219 = .ok (.bipush 48, 2) := by decide +kernel
theorem dX7_token_221 : decode cX7_token 221 = .ok (.isub, 1) := by decide +kernel
theorem dX7_token_222 : decode cX7_token 222 = .ok (.putfield 70, 3) := by decide +kernel
theorem dX7_token_225 : decode cX7_token 225 = .ok (.aload_n 0, 1) := by decide +kernel
theorem dX7_token_226 : decode cX7_token 226 = .ok (.dup, 1) := by decide +kernel
theorem dX7_token_227 : decode cX7_token 227 = .ok (.getfield 50, 3) := by decide +kernel
theorem dX7_token_230 : decode cX7_token 230 = .ok (.iconst 1, 1) := by decide +kernel
theorem dX7_token_231 : decode cX7_token 231 = .ok (.iadd, 1) := by decide +kernel
theorem dX7_token_232 : decode cX7_token 232 = .ok (.putfield 50, 3) := by decide +kernel
theorem dX7_token_235 : decode cX7_token 235 = .ok (.goto (-69), 3) := by decide +kernel
theorem dX7_token_238 : decode cX7_token 238 = .ok (.return_, 1) := by decide +kernel
theorem dX7_number_0 : decode cX7_number 0 = .ok (.aload_n 0, 1) := by decide +kernel
theorem dX7_number_1 : decode cX7_number 1 = .ok (.invokevirtual 73, 3) := by decide +kernel
theorem dX7_number_4 : decode cX7_number 4 = .ok (.aload_n 0, 1) := by decide +kernel
theorem dX7_number_5 : decode cX7_number 5 = .ok (.getfield 16, 3) := by decide +kernel
theorem dX7_number_8 : decode cX7_number 8 = .ok (.iload_n 1, 1) := by decide +kernel
theorem dX7_number_9 : decode cX7_number 9 = .ok (.aload_n 0, 1) := by decide +kernel
theorem dX7_number_10 : decode cX7_number 10 = .ok (.getfield 70, 3) := by decide +kernel
theorem dX7_number_13 : decode cX7_number 13 = .ok (.iastore, 1) := by decide +kernel
theorem dX7_number_14 : decode cX7_number 14 = .ok (.aload_n 0, 1) := by decide +kernel
theorem dX7_number_15 : decode cX7_number 15 = .ok (.getfield 67, 3) := by decide +kernel
theorem dX7_number_18 : decode cX7_number 18 = .ok (.iconst 2, 1) := by decide +kernel
theorem dX7_number_19 : decode cX7_number 19 = .ok (.if_icmp .ne 19, 3) := by decide +kernel
theorem dX7_number_22 : decode cX7_number 22 = .ok (.aload_n 0, 1) := by decide +kernel
theorem dX7_number_23 : decode cX7_number 23 = .ok (.getfield 70, 3) := by decide +kernel
theorem dX7_number_26 : decode cX7_number 26 = .ok (.iload_n 2, 1) := by decide +kernel
theorem dX7_number_27 : decode cX7_number 27 = .ok (.iload_n 3, 1) := by decide +kernel
theorem dX7_number_28 : decode cX7_number 28 = .ok (.invokestatic 42, 3) := by decide +kernel
theorem dX7_number_31 : decode cX7_number 31 = .ok (.ifCond .eq 7, 3) := by decide +kernel
theorem dX7_number_34 : decode cX7_number 34 = .ok (.iconst 1, 1) := by decide +kernel
theorem dX7_number_35 : decode cX7_number 35 = .ok (.goto 4, 3) := by decide +kernel
theorem dX7_number_38 : decode cX7_number 38 = .ok (.iconst 0, 1) := by decide +kernel
theorem dX7_number_39 : decode cX7_number 39 = .ok (.ireturn, 1) := by decide +kernel
theorem dX7_readsRows_0 : decode cX7_readsRows 0 = .ok (.aload_n 0, 1) := by decide +kernel
theorem dX7_readsRows_1 : decode cX7_readsRows 1 = .ok (.bipush 58, 2) := by decide +kernel
theorem dX7_readsRows_3 : decode cX7_readsRows 3 = .ok (.iconst 0, 1) := by decide +kernel
theorem dX7_readsRows_4 : decode cX7_readsRows 4 = .ok (.aload_n 0, 1) := by decide +kernel
theorem dX7_readsRows_5 : decode cX7_readsRows 5 = .ok (.getfield 16, 3) := by decide +kernel
theorem dX7_readsRows_8 : decode cX7_readsRows 8 = .ok (.iconst 0, 1) := by decide +kernel
theorem dX7_readsRows_9 : decode cX7_readsRows 9 = .ok (.iaload, 1) := by decide +kernel
theorem dX7_readsRows_10 : decode cX7_readsRows 10 = .ok (.iconst 1, 1) := by decide +kernel
theorem dX7_readsRows_11 : decode cX7_readsRows 11 = .ok (.isub, 1) := by decide +kernel
theorem dX7_readsRows_12 : decode cX7_readsRows 12 = .ok (.invokevirtual 76, 3) := by decide +kernel
theorem dX7_readsRows_15 : decode cX7_readsRows 15 = .ok (.ifCond .ne 5, 3) := by decide +kernel
theorem dX7_readsRows_18 : decode cX7_readsRows 18 = .ok (.iconst 0, 1) := by decide +kernel
theorem dX7_readsRows_19 : decode cX7_readsRows 19 = .ok (.ireturn, 1) := by decide +kernel
theorem dX7_readsRows_20 : decode cX7_readsRows 20 = .ok (.aload_n 0, 1) := by decide +kernel
theorem dX7_readsRows_21 : decode cX7_readsRows 21 = .ok (.getfield 16, 3) := by decide +kernel
theorem dX7_readsRows_24 : decode cX7_readsRows 24 = .ok (.bipush 58, 2) := by decide +kernel
theorem dX7_readsRows_26 : decode cX7_readsRows 26 = .ok (.iaload, 1) := by decide +kernel
theorem dX7_readsRows_27 : decode cX7_readsRows 27 = .ok (.istore_n 1, 1) := by decide +kernel
theorem dX7_readsRows_28 : decode cX7_readsRows 28 = .ok (.aload_n 0, 1) := by decide +kernel
theorem dX7_readsRows_29 : decode cX7_readsRows 29 = .ok (.bipush 58, 2) := by decide +kernel
theorem dX7_readsRows_31 : decode cX7_readsRows 31 = .ok (.iconst 1, 1) := by decide +kernel
theorem dX7_readsRows_32 : decode cX7_readsRows 32 = .ok (.bipush 20, 2) := by decide +kernel
theorem dX7_readsRows_34 : decode cX7_readsRows 34 = .ok (.invokevirtual 76, 3) := by decide +kernel
theorem dX7_readsRows_37 : decode cX7_readsRows 37 = .ok (.ifCond .eq 22, 3) := by decide +kernel
theorem dX7_readsRows_40 : decode cX7_readsRows 40 = .ok (.aload_n 0, 1) := by decide +kernel
theorem dX7_readsRows_41 : decode cX7_readsRows 41 = .ok (.getfield 16, 3) := by decide +kernel
theorem dX7_readsRows_44 : decode cX7_readsRows 44 = .ok (.iconst 5, 1) := by decide +kernel
theorem dX7_readsRows_45 : decode cX7_readsRows 45 = .ok (.iaload, 1) := by decide +kernel
theorem dX7_readsRows_46 : decode cX7_readsRows 46 = .ok (.aload_n 0, 1) := by decide +kernel
theorem dX7_readsRows_47 : decode cX7_readsRows 47 = .ok (.getfield 16, 3) := by decide +kernel
theorem dX7_readsRows_50 : decode cX7_readsRows 50 = .ok (.bipush 58, 2) := by decide +kernel
theorem dX7_readsRows_52 : decode cX7_readsRows 52 = .ok (.iaload, 1) := by decide +kernel
theorem dX7_readsRows_53 : decode cX7_readsRows 53 = .ok (.iadd, 1) := by decide +kernel
theorem dX7_readsRows_54 : decode cX7_readsRows 54 = .ok (.bipush 40, 2) := by decide +kernel
theorem dX7_readsRows_56 : decode cX7_readsRows 56 = .ok (.if_icmp .le 5, 3) := by decide +kernel
theorem dX7_readsRows_59 : decode cX7_readsRows 59 = .ok (.iconst 0, 1) := by decide +kernel
theorem dX7_readsRows_60 : decode cX7_readsRows 60 = .ok (.ireturn, 1) := by decide +kernel
theorem dX7_readsRows_61 : decode cX7_readsRows 61 = .ok (.iconst 0, 1) := by decide +kernel
theorem dX7_readsRows_62 : decode cX7_readsRows 62 = .ok (.istore_n 2, 1) := by decide +kernel
theorem dX7_readsRows_63 : decode cX7_readsRows 63 = .ok (.iload_n 2, 1) := by decide +kernel
theorem dX7_readsRows_64 : decode cX7_readsRows 64 = .ok (.aload_n 0, 1) := by decide +kernel
theorem dX7_readsRows_65 : decode cX7_readsRows 65 = .ok (.getfield 16, 3) := by decide +kernel
theorem dX7_readsRows_68 : decode cX7_readsRows 68 = .ok (.bipush 58, 2) := by decide +kernel
theorem dX7_readsRows_70 : decode cX7_readsRows 70 = .ok (.iaload, 1) := by decide +kernel
theorem dX7_readsRows_71 : decode cX7_readsRows 71 = .ok (.if_icmp .ge 26, 3) := by decide +kernel
theorem dX7_readsRows_74 : decode cX7_readsRows 74 = .ok (.aload_n 0, 1) := by decide +kernel
theorem dX7_readsRows_75 : decode cX7_readsRows 75 = .ok (.getfield 16, 3) := by decide +kernel
theorem dX7_readsRows_78 : decode cX7_readsRows 78 = .ok (.bipush 18, 2) := by decide +kernel
theorem dX7_readsRows_80 : decode cX7_readsRows 80 = .ok (.aload_n 0, 1) := by decide +kernel
theorem dX7_readsRows_81 : decode cX7_readsRows 81 = .ok (.getfield 16, 3) := by decide +kernel
theorem dX7_readsRows_84 : decode cX7_readsRows 84 = .ok (.iconst 5, 1) := by decide +kernel
theorem dX7_readsRows_85 : decode cX7_readsRows 85 = .ok (.iaload, 1) := by decide +kernel
theorem dX7_readsRows_86 : decode cX7_readsRows 86 = .ok (.iadd, 1) := by decide +kernel
theorem dX7_readsRows_87 : decode cX7_readsRows 87 = .ok (.iload_n 2, 1) := by decide +kernel
theorem dX7_readsRows_88 : decode cX7_readsRows 88 = .ok (.iadd, 1) := by decide +kernel
theorem dX7_readsRows_89 : decode cX7_readsRows 89 = .ok (.iload_n 1, 1) := by decide +kernel
theorem dX7_readsRows_90 : decode cX7_readsRows 90 = .ok (.iastore, 1) := by decide +kernel
theorem dX7_readsRows_91 : decode cX7_readsRows 91 = .ok (.iinc 2 1, 3) := by decide +kernel
theorem dX7_readsRows_94 : decode cX7_readsRows 94 = .ok (.goto (-31), 3) := by decide +kernel
theorem dX7_readsRows_97 : decode cX7_readsRows 97 = .ok (.aload_n 0, 1) := by decide +kernel
theorem dX7_readsRows_98 : decode cX7_readsRows 98 = .ok (.getfield 16, 3) := by decide +kernel
theorem dX7_readsRows_101 : decode cX7_readsRows 101 = .ok (.iconst 5, 1) := by decide +kernel
theorem dX7_readsRows_102 : decode cX7_readsRows 102 = .ok (.dup2, 1) := by decide +kernel
theorem dX7_readsRows_103 : decode cX7_readsRows 103 = .ok (.iaload, 1) := by decide +kernel
theorem dX7_readsRows_104 : decode cX7_readsRows 104 = .ok (.aload_n 0, 1) := by decide +kernel
theorem dX7_readsRows_105 : decode cX7_readsRows 105 = .ok (.getfield 16, 3) := by decide +kernel
theorem dX7_readsRows_108 : decode cX7_readsRows 108 = .ok (.bipush 58, 2) := by decide +kernel
theorem dX7_readsRows_110 : decode cX7_readsRows 110 = .ok (.iaload, 1) := by decide +kernel
theorem dX7_readsRows_111 : decode cX7_readsRows 111 = .ok (.iadd, 1) := by decide +kernel
theorem dX7_readsRows_112 : decode cX7_readsRows 112 = .ok (.iastore, 1) := by decide +kernel
theorem dX7_readsRows_113 : decode cX7_readsRows 113 = .ok (.iconst 1, 1) := by decide +kernel
theorem dX7_readsRows_114 : decode cX7_readsRows 114 = .ok (.ireturn, 1) := by decide +kernel
theorem dX7_once_0 : decode cX7_once 0 = .ok (.aload_n 0, 1) := by decide +kernel
theorem dX7_once_1 : decode cX7_once 1 = .ok (.getfield 16, 3) := by decide +kernel
theorem dX7_once_4 : decode cX7_once 4 = .ok (.iconst 4, 1) := by decide +kernel
theorem dX7_once_5 : decode cX7_once 5 = .ok (.iaload, 1) := by decide +kernel
theorem dX7_once_6 : decode cX7_once 6 = .ok (.iload_n 1, 1) := by decide +kernel
theorem dX7_once_7 : decode cX7_once 7 = .ok (.iand, 1) := by decide +kernel
theorem dX7_once_8 : decode cX7_once 8 = .ok (.ifCond .eq 5, 3) := by decide +kernel
theorem dX7_once_11 : decode cX7_once 11 = .ok (.iconst 0, 1) := by decide +kernel
theorem dX7_once_12 : decode cX7_once 12 = .ok (.ireturn, 1) := by decide +kernel
theorem dX7_once_13 : decode cX7_once 13 = .ok (.aload_n 0, 1) := by decide +kernel
theorem dX7_once_14 : decode cX7_once 14 = .ok (.getfield 16, 3) := by decide +kernel
theorem dX7_once_17 : decode cX7_once 17 = .ok (.iconst 4, 1) := by decide +kernel
theorem dX7_once_18 : decode cX7_once 18 = .ok (.dup2, 1) := by decide +kernel
theorem dX7_once_19 : decode cX7_once 19 = .ok (.iaload, 1) := by decide +kernel
theorem dX7_once_20 : decode cX7_once 20 = .ok (.iload_n 1, 1) := by decide +kernel
theorem dX7_once_21 : decode cX7_once 21 = .ok (.ior, 1) := by decide +kernel
theorem dX7_once_22 : decode cX7_once 22 = .ok (.iastore, 1) := by decide +kernel
theorem dX7_once_23 : decode cX7_once 23 = .ok (.aload_n 0, 1) := by decide +kernel
theorem dX7_once_24 : decode cX7_once 24 = .ok (.iload_n 2, 1) := by decide +kernel
theorem dX7_once_25 : decode cX7_once 25 = .ok (.iload_n 3, 1) := by decide +kernel
theorem dX7_once_26 : decode cX7_once 26 = .ok (.bipush 30, 2) := by decide +kernel
theorem dX7_once_28 : decode cX7_once 28 = .ok (.invokevirtual 76, 3) := by decide +kernel
theorem dX7_once_31 : decode cX7_once 31 = .ok (.ireturn, 1) := by decide +kernel
theorem dX7_readsItem_0 : decode cX7_readsItem 0 = .ok (.aload_n 0, 1) := by decide +kernel
theorem dX7_readsItem_1 : decode cX7_readsItem 1 = .ok (.getfield 67, 3) := by decide +kernel
theorem dX7_readsItem_4 : decode cX7_readsItem 4 = .ok (.iconst 1, 1) := by decide +kernel
theorem dX7_readsItem_5 : decode cX7_readsItem 5 = .ok (.if_icmp .ne 10, 3) := by decide +kernel
theorem dX7_readsItem_8 : decode cX7_readsItem 8 = .ok (.aload_n 0, 1) := by decide +kernel
theorem dX7_readsItem_9 : decode cX7_readsItem 9 = .ok (.getfield 70, 3) := by decide +kernel
theorem dX7_readsItem_12 : decode cX7_readsItem 12 = .ok (.goto 4, 3) := by decide +kernel
theorem dX7_readsItem_15 : decode cX7_readsItem 15 = .ok (.iconst 0, 1) := by decide +kernel
theorem dX7_readsItem_16 : decode cX7_readsItem 16 = .ok (.istore_n 1, 1) := by decide +kernel
theorem dX7_readsItem_17 : decode cX7_readsItem 17 = .ok (.iload_n 1, 1) := by decide +kernel
theorem dX7_readsItem_18 : decode cX7_readsItem 18 = .ok (.lookupswitch 118 #[(103, 102), (107, 97), (112, 42), (115, 110)], 42) := by decide +kernel
theorem dX7_readsItem_60 : decode cX7_readsItem 60 = .ok (.aload_n 0, 1) := by decide +kernel
theorem dX7_readsItem_61 : decode cX7_readsItem 61 = .ok (.getfield 16, 3) := by decide +kernel
theorem dX7_readsItem_64 : decode cX7_readsItem 64 = .ok (.iconst 0, 1) := by decide +kernel
theorem dX7_readsItem_65 : decode cX7_readsItem 65 = .ok (.iaload, 1) := by decide +kernel
theorem dX7_readsItem_66 : decode cX7_readsItem 66 = .ok (.istore_n 2, 1) := by decide +kernel
theorem dX7_readsItem_67 : decode cX7_readsItem 67 = .ok (.iload_n 2, 1) := by decide +kernel
theorem dX7_readsItem_68 : decode cX7_readsItem 68 = .ok (.bipush 6, 2) := by decide +kernel
theorem dX7_readsItem_70 : decode cX7_readsItem 70 = .ok (.if_icmp .eq 31, 3) := by decide +kernel
theorem dX7_readsItem_73 : decode cX7_readsItem 73 = .ok (.aload_n 0, 1) := by decide +kernel
theorem dX7_readsItem_74 : decode cX7_readsItem 74 = .ok (.bipush 6, 2) := by decide +kernel
theorem dX7_readsItem_76 : decode cX7_readsItem 76 = .ok (.iload_n 2, 1) := by decide +kernel
theorem dX7_readsItem_77 : decode cX7_readsItem 77 = .ok (.iadd, 1) := by decide +kernel
theorem dX7_readsItem_78 : decode cX7_readsItem 78 = .ok (.iconst 1, 1) := by decide +kernel
theorem dX7_readsItem_79 : decode cX7_readsItem 79 = .ok (.bipush 9, 2) := by decide +kernel
theorem dX7_readsItem_81 : decode cX7_readsItem 81 = .ok (.invokevirtual 76, 3) := by decide +kernel
theorem dX7_readsItem_84 : decode cX7_readsItem 84 = .ok (.ifCond .eq 17, 3) := by decide +kernel
theorem dX7_readsItem_87 : decode cX7_readsItem 87 = .ok (.aload_n 0, 1) := by decide +kernel
theorem dX7_readsItem_88 : decode cX7_readsItem 88 = .ok (.bipush 12, 2) := by decide +kernel
theorem dX7_readsItem_90 : decode cX7_readsItem 90 = .ok (.iload_n 2, 1) := by decide +kernel
theorem dX7_readsItem_91 : decode cX7_readsItem 91 = .ok (.iadd, 1) := by decide +kernel
theorem dX7_readsItem_92 : decode cX7_readsItem 92 = .ok (.iconst 1, 1) := by decide +kernel
theorem dX7_readsItem_93 : decode cX7_readsItem 93 = .ok (.bipush 9, 2) := by decide +kernel
theorem dX7_readsItem_95 : decode cX7_readsItem 95 = .ok (.invokevirtual 76, 3) := by decide +kernel
theorem dX7_readsItem_98 : decode cX7_readsItem 98 = .ok (.ifCond .ne 5, 3) := by decide +kernel
theorem dX7_readsItem_101 : decode cX7_readsItem 101 = .ok (.iconst 0, 1) := by decide +kernel
theorem dX7_readsItem_102 : decode cX7_readsItem 102 = .ok (.ireturn, 1) := by decide +kernel
theorem dX7_readsItem_103 : decode cX7_readsItem 103 = .ok (.aload_n 0, 1) := by decide +kernel
theorem dX7_readsItem_104 : decode cX7_readsItem 104 = .ok (.getfield 16, 3) := by decide +kernel
theorem dX7_readsItem_107 : decode cX7_readsItem 107 = .ok (.iconst 0, 1) := by decide +kernel
theorem dX7_readsItem_108 : decode cX7_readsItem 108 = .ok (.dup2, 1) := by decide +kernel
theorem dX7_readsItem_109 : decode cX7_readsItem 109 = .ok (.iaload, 1) := by decide +kernel
theorem dX7_readsItem_110 : decode cX7_readsItem 110 = .ok (.iconst 1, 1) := by decide +kernel
theorem dX7_readsItem_111 : decode cX7_readsItem 111 = .ok (.iadd, 1) := by decide +kernel
theorem dX7_readsItem_112 : decode cX7_readsItem 112 = .ok (.iastore, 1) := by decide +kernel
theorem dX7_readsItem_113 : decode cX7_readsItem 113 = .ok (.iconst 1, 1) := by decide +kernel
theorem dX7_readsItem_114 : decode cX7_readsItem 114 = .ok (.ireturn, 1) := by decide +kernel
theorem dX7_readsItem_115 : decode cX7_readsItem 115 = .ok (.aload_n 0, 1) := by decide +kernel
theorem dX7_readsItem_116 : decode cX7_readsItem 116 = .ok (.invokevirtual 79, 3) := by decide +kernel
theorem dX7_readsItem_119 : decode cX7_readsItem 119 = .ok (.ireturn, 1) := by decide +kernel
theorem dX7_readsItem_120 : decode cX7_readsItem 120 = .ok (.aload_n 0, 1) := by decide +kernel
theorem dX7_readsItem_121 : decode cX7_readsItem 121 = .ok (.iconst 1, 1) := by decide +kernel
theorem dX7_readsItem_122 : decode cX7_readsItem 122 = .ok (.iconst 1, 1) := by decide +kernel
theorem dX7_readsItem_123 : decode cX7_readsItem 123 = .ok (.iconst 1, 1) := by decide +kernel
theorem dX7_readsItem_124 : decode cX7_readsItem 124 = .ok (.invokevirtual 82, 3) := by decide +kernel
theorem dX7_readsItem_127 : decode cX7_readsItem 127 = .ok (.ireturn, 1) := by decide +kernel
theorem dX7_readsItem_128 : decode cX7_readsItem 128 = .ok (.aload_n 0, 1) := by decide +kernel
theorem dX7_readsItem_129 : decode cX7_readsItem 129 = .ok (.iconst 2, 1) := by decide +kernel
theorem dX7_readsItem_130 : decode cX7_readsItem 130 = .ok (.iconst 2, 1) := by decide +kernel
theorem dX7_readsItem_131 : decode cX7_readsItem 131 = .ok (.iconst 0, 1) := by decide +kernel
theorem dX7_readsItem_132 : decode cX7_readsItem 132 = .ok (.invokevirtual 82, 3) := by decide +kernel
theorem dX7_readsItem_135 : decode cX7_readsItem 135 = .ok (.ireturn, 1) := by decide +kernel
theorem dX7_readsItem_136 : decode cX7_readsItem 136 = .ok (.iconst 0, 1) := by decide +kernel
theorem dX7_readsItem_137 : decode cX7_readsItem 137 = .ok (.ireturn, 1) := by decide +kernel
theorem dX7_reads_0 : decode cX7_reads 0 = .ok (.iconst 0, 1) := by decide +kernel
theorem dX7_reads_1 : decode cX7_reads 1 = .ok (.istore_n 1, 1) := by decide +kernel
theorem dX7_reads_2 : decode cX7_reads 2 = .ok (.iload_n 1, 1) := by decide +kernel
theorem dX7_reads_3 : decode cX7_reads 3 = .ok (.bipush 58, 2) := by decide +kernel
theorem dX7_reads_5 : decode cX7_reads 5 = .ok (.if_icmp .ge 16, 3) := by decide +kernel
theorem dX7_reads_8 : decode cX7_reads 8 = .ok (.aload_n 0, 1) := by decide +kernel
theorem dX7_reads_9 : decode cX7_reads 9 = .ok (.getfield 16, 3) := by decide +kernel
theorem dX7_reads_12 : decode cX7_reads 12 = .ok (.iload_n 1, 1) := by decide +kernel
theorem dX7_reads_13 : decode cX7_reads 13 = .ok (.iconst 0, 1) := by decide +kernel
theorem dX7_reads_14 : decode cX7_reads 14 = .ok (.iastore, 1) := by decide +kernel
theorem dX7_reads_15 : decode cX7_reads 15 = .ok (.iinc 1 1, 3) := by decide +kernel
theorem dX7_reads_18 : decode cX7_reads 18 = .ok (.goto (-16), 3) := by decide +kernel
theorem dX7_reads_21 : decode cX7_reads 21 = .ok (.aload_n 0, 1) := by decide +kernel
theorem dX7_reads_22 : decode cX7_reads 22 = .ok (.getfield 16, 3) := by decide +kernel
theorem dX7_reads_25 : decode cX7_reads 25 = .ok (.iconst 1, 1) := by decide +kernel
theorem dX7_reads_26 : decode cX7_reads 26 = .ok (.bipush 6, 2) := by decide +kernel
theorem dX7_reads_28 : decode cX7_reads 28 = .ok (.iastore, 1) := by decide +kernel
theorem dX7_reads_29 : decode cX7_reads 29 = .ok (.aload_n 0, 1) := by decide +kernel
theorem dX7_reads_30 : decode cX7_reads 30 = .ok (.getfield 16, 3) := by decide +kernel
theorem dX7_reads_33 : decode cX7_reads 33 = .ok (.iconst 2, 1) := by decide +kernel
theorem dX7_reads_34 : decode cX7_reads 34 = .ok (.bipush 6, 2) := by decide +kernel
theorem dX7_reads_36 : decode cX7_reads 36 = .ok (.iastore, 1) := by decide +kernel
theorem dX7_reads_37 : decode cX7_reads 37 = .ok (.aload_n 0, 1) := by decide +kernel
theorem dX7_reads_38 : decode cX7_reads 38 = .ok (.iconst 0, 1) := by decide +kernel
theorem dX7_reads_39 : decode cX7_reads 39 = .ok (.putfield 50, 3) := by decide +kernel
theorem dX7_reads_42 : decode cX7_reads 42 = .ok (.aload_n 0, 1) := by decide +kernel
theorem dX7_reads_43 : decode cX7_reads 43 = .ok (.invokevirtual 73, 3) := by decide +kernel
theorem dX7_reads_46 : decode cX7_reads 46 = .ok (.aload_n 0, 1) := by decide +kernel
theorem dX7_reads_47 : decode cX7_reads 47 = .ok (.getfield 67, 3) := by decide +kernel
theorem dX7_reads_50 : decode cX7_reads 50 = .ok (.ifCond .eq 43, 3) := by decide +kernel
theorem dX7_reads_53 : decode cX7_reads 53 = .ok (.aload_n 0, 1) := by decide +kernel
theorem dX7_reads_54 : decode cX7_reads 54 = .ok (.invokevirtual 85, 3) := by decide +kernel
theorem dX7_reads_57 : decode cX7_reads 57 = .ok (.ifCond .ne 5, 3) := by decide +kernel
theorem dX7_reads_60 : decode cX7_reads 60 = .ok (.iconst 0, 1) := by decide +kernel
theorem dX7_reads_61 : decode cX7_reads 61 = .ok (.ireturn, 1) := by decide +kernel
theorem dX7_reads_62 : decode cX7_reads 62 = .ok (.aload_n 0, 1) := by decide +kernel
theorem dX7_reads_63 : decode cX7_reads 63 = .ok (.invokevirtual 73, 3) := by decide +kernel
theorem dX7_reads_66 : decode cX7_reads 66 = .ok (.aload_n 0, 1) := by decide +kernel
theorem dX7_reads_67 : decode cX7_reads 67 = .ok (.getfield 67, 3) := by decide +kernel
theorem dX7_reads_70 : decode cX7_reads 70 = .ok (.iconst 3, 1) := by decide +kernel
theorem dX7_reads_71 : decode cX7_reads 71 = .ok (.if_icmp .eq 5, 3) := by decide +kernel
theorem dX7_reads_74 : decode cX7_reads 74 = .ok (.iconst 0, 1) := by decide +kernel
theorem dX7_reads_75 : decode cX7_reads 75 = .ok (.ireturn, 1) := by decide +kernel
theorem dX7_reads_76 : decode cX7_reads 76 = .ok (.aload_n 0, 1) := by decide +kernel
theorem dX7_reads_77 : decode cX7_reads 77 = .ok (.getfield 16, 3) := by decide +kernel
theorem dX7_reads_80 : decode cX7_reads 80 = .ok (.iconst 3, 1) := by decide +kernel
theorem dX7_reads_81 : decode cX7_reads 81 = .ok (.dup2, 1) := by decide +kernel
theorem dX7_reads_82 : decode cX7_reads 82 = .ok (.iaload, 1) := by decide +kernel
theorem dX7_reads_83 : decode cX7_reads 83 = .ok (.iconst 1, 1) := by decide +kernel
theorem dX7_reads_84 : decode cX7_reads 84 = .ok (.iadd, 1) := by decide +kernel
theorem dX7_reads_85 : decode cX7_reads 85 = .ok (.iastore, 1) := by decide +kernel
theorem dX7_reads_86 : decode cX7_reads 86 = .ok (.aload_n 0, 1) := by decide +kernel
theorem dX7_reads_87 : decode cX7_reads 87 = .ok (.invokevirtual 73, 3) := by decide +kernel
theorem dX7_reads_90 : decode cX7_reads 90 = .ok (.goto (-44), 3) := by decide +kernel
theorem dX7_reads_93 : decode cX7_reads 93 = .ok (.iconst 1, 1) := by decide +kernel
theorem dX7_reads_94 : decode cX7_reads 94 = .ok (.ireturn, 1) := by decide +kernel
theorem dX7_tells_0 : decode cX7_tells 0 = .ok (.iconst 0, 1) := by decide +kernel
theorem dX7_tells_1 : decode cX7_tells 1 = .ok (.istore_n 1, 1) := by decide +kernel
theorem dX7_tells_2 : decode cX7_tells 2 = .ok (.iload_n 1, 1) := by decide +kernel
theorem dX7_tells_3 : decode cX7_tells 3 = .ok (.bipush 58, 2) := by decide +kernel
theorem dX7_tells_5 : decode cX7_tells 5 = .ok (.if_icmp .ge 21, 3) := by decide +kernel
theorem dX7_tells_8 : decode cX7_tells 8 = .ok (.aload_n 0, 1) := by decide +kernel
theorem dX7_tells_9 : decode cX7_tells 9 = .ok (.getfield 13, 3) := by decide +kernel
theorem dX7_tells_12 : decode cX7_tells 12 = .ok (.iload_n 1, 1) := by decide +kernel
theorem dX7_tells_13 : decode cX7_tells 13 = .ok (.aload_n 0, 1) := by decide +kernel
theorem dX7_tells_14 : decode cX7_tells 14 = .ok (.getfield 16, 3) := by decide +kernel
theorem dX7_tells_17 : decode cX7_tells 17 = .ok (.iload_n 1, 1) := by decide +kernel
theorem dX7_tells_18 : decode cX7_tells 18 = .ok (.iaload, 1) := by decide +kernel
theorem dX7_tells_19 : decode cX7_tells 19 = .ok (.iastore, 1) := by decide +kernel
theorem dX7_tells_20 : decode cX7_tells 20 = .ok (.iinc 1 1, 3) := by decide +kernel
theorem dX7_tells_23 : decode cX7_tells 23 = .ok (.goto (-21), 3) := by decide +kernel
theorem dX7_tells_26 : decode cX7_tells 26 = .ok (.iconst 0, 1) := by decide +kernel
theorem dX7_tells_27 : decode cX7_tells 27 = .ok (.istore_n 1, 1) := by decide +kernel
theorem dX7_tells_28 : decode cX7_tells 28 = .ok (.iload_n 1, 1) := by decide +kernel
theorem dX7_tells_29 : decode cX7_tells 29 = .ok (.bipush 123, 2) := by decide +kernel
theorem dX7_tells_31 : decode cX7_tells 31 = .ok (.if_icmp .gt 16, 3) := by decide +kernel
theorem dX7_tells_34 : decode cX7_tells 34 = .ok (.aload_n 0, 1) := by decide +kernel
theorem dX7_tells_35 : decode cX7_tells 35 = .ok (.getfield 19, 3) := by decide +kernel
theorem dX7_tells_38 : decode cX7_tells 38 = .ok (.iload_n 1, 1) := by decide +kernel
theorem dX7_tells_39 : decode cX7_tells 39 = .ok (.iconst 0, 1) := by decide +kernel
theorem dX7_tells_40 : decode cX7_tells 40 = .ok (.iastore, 1) := by decide +kernel
theorem dX7_tells_41 : decode cX7_tells 41 = .ok (.iinc 1 1, 3) := by decide +kernel
theorem dX7_tells_44 : decode cX7_tells 44 = .ok (.goto (-16), 3) := by decide +kernel
theorem dX7_tells_47 : decode cX7_tells 47 = .ok (.aload_n 0, 1) := by decide +kernel
theorem dX7_tells_48 : decode cX7_tells 48 = .ok (.getfield 19, 3) := by decide +kernel
theorem dX7_tells_51 : decode cX7_tells 51 = .ok (.iconst 0, 1) := by decide +kernel
theorem dX7_tells_52 : decode cX7_tells 52 = .ok (.aload_n 0, 1) := by decide +kernel
theorem dX7_tells_53 : decode cX7_tells 53 = .ok (.getfield 13, 3) := by decide +kernel
theorem dX7_tells_56 : decode cX7_tells 56 = .ok (.iconst 5, 1) := by decide +kernel
theorem dX7_tells_57 : decode cX7_tells 57 = .ok (.iaload, 1) := by decide +kernel
theorem dX7_tells_58 : decode cX7_tells 58 = .ok (.iastore, 1) := by decide +kernel
theorem dX7_tells_59 : decode cX7_tells 59 = .ok (.iconst 0, 1) := by decide +kernel
theorem dX7_tells_60 : decode cX7_tells 60 = .ok (.istore_n 1, 1) := by decide +kernel
theorem dX7_tells_61 : decode cX7_tells 61 = .ok (.iload_n 1, 1) := by decide +kernel
theorem dX7_tells_62 : decode cX7_tells 62 = .ok (.aload_n 0, 1) := by decide +kernel
theorem dX7_tells_63 : decode cX7_tells 63 = .ok (.getfield 19, 3) := by decide +kernel
theorem dX7_tells_66 : decode cX7_tells 66 = .ok (.iconst 0, 1) := by decide +kernel
theorem dX7_tells_67 : decode cX7_tells 67 = .ok (.iaload, 1) := by decide +kernel
theorem dX7_tells_68 : decode cX7_tells 68 = .ok (.if_icmp .ge 52, 3) := by decide +kernel
theorem dX7_tells_71 : decode cX7_tells 71 = .ok (.aload_n 0, 1) := by decide +kernel
theorem dX7_tells_72 : decode cX7_tells 72 = .ok (.getfield 19, 3) := by decide +kernel
theorem dX7_tells_75 : decode cX7_tells 75 = .ok (.iconst 3, 1) := by decide +kernel
theorem dX7_tells_76 : decode cX7_tells 76 = .ok (.iload_n 1, 1) := by decide +kernel
theorem dX7_tells_77 : decode cX7_tells 77 = .ok (.iadd, 1) := by decide +kernel
theorem dX7_tells_78 : decode cX7_tells 78 = .ok (.aload_n 0, 1) := by decide +kernel
theorem dX7_tells_79 : decode cX7_tells 79 = .ok (.getfield 13, 3) := by decide +kernel
theorem dX7_tells_82 : decode cX7_tells 82 = .ok (.bipush 18, 2) := by decide +kernel
theorem dX7_tells_84 : decode cX7_tells 84 = .ok (.iload_n 1, 1) := by decide +kernel
theorem dX7_tells_85 : decode cX7_tells 85 = .ok (.iadd, 1) := by decide +kernel
theorem dX7_tells_86 : decode cX7_tells 86 = .ok (.iaload, 1) := by decide +kernel
theorem dX7_tells_87 : decode cX7_tells 87 = .ok (.iastore, 1) := by decide +kernel
theorem dX7_tells_88 : decode cX7_tells 88 = .ok (.aload_n 0, 1) := by decide +kernel
theorem dX7_tells_89 : decode cX7_tells 89 = .ok (.getfield 19, 3) := by decide +kernel
theorem dX7_tells_92 : decode cX7_tells 92 = .ok (.bipush 43, 2) := by decide +kernel
theorem dX7_tells_94 : decode cX7_tells 94 = .ok (.iload_n 1, 1) := by decide +kernel
theorem dX7_tells_95 : decode cX7_tells 95 = .ok (.iadd, 1) := by decide +kernel
theorem dX7_tells_96 : decode cX7_tells 96 = .ok (.aload_n 0, 1) := by decide +kernel
theorem dX7_tells_97 : decode cX7_tells 97 = .ok (.getfield 13, 3) := by decide +kernel
theorem dX7_tells_100 : decode cX7_tells 100 = .ok (.bipush 12, 2) := by decide +kernel
theorem dX7_tells_102 : decode cX7_tells 102 = .ok (.aload_n 0, 1) := by decide +kernel
theorem dX7_tells_103 : decode cX7_tells 103 = .ok (.getfield 13, 3) := by decide +kernel
theorem dX7_tells_106 : decode cX7_tells 106 = .ok (.bipush 18, 2) := by decide +kernel
theorem dX7_tells_108 : decode cX7_tells 108 = .ok (.iload_n 1, 1) := by decide +kernel
theorem dX7_tells_109 : decode cX7_tells 109 = .ok (.iadd, 1) := by decide +kernel
theorem dX7_tells_110 : decode cX7_tells 110 = .ok (.iaload, 1) := by decide +kernel
theorem dX7_tells_111 : decode cX7_tells 111 = .ok (.iadd, 1) := by decide +kernel
theorem dX7_tells_112 : decode cX7_tells 112 = .ok (.iaload, 1) := by decide +kernel
theorem dX7_tells_113 : decode cX7_tells 113 = .ok (.iastore, 1) := by decide +kernel
theorem dX7_tells_114 : decode cX7_tells 114 = .ok (.iinc 1 1, 3) := by decide +kernel
theorem dX7_tells_117 : decode cX7_tells 117 = .ok (.goto (-56), 3) := by decide +kernel
theorem dX7_tells_120 : decode cX7_tells 120 = .ok (.aload_n 0, 1) := by decide +kernel
theorem dX7_tells_121 : decode cX7_tells 121 = .ok (.iconst 0, 1) := by decide +kernel
theorem dX7_tells_122 : decode cX7_tells 122 = .ok (.putfield 88, 3) := by decide +kernel
theorem dX7_tells_125 : decode cX7_tells 125 = .ok (.aload_n 0, 1) := by decide +kernel
theorem dX7_tells_126 : decode cX7_tells 126 = .ok (.getfield 25, 3) := by decide +kernel
theorem dX7_tells_129 : decode cX7_tells 129 = .ok (.iconst 0, 1) := by decide +kernel
theorem dX7_tells_130 : decode cX7_tells 130 = .ok (.iconst 0, 1) := by decide +kernel
theorem dX7_tells_131 : decode cX7_tells 131 = .ok (.bastore, 1) := by decide +kernel
theorem dX7_tells_132 : decode cX7_tells 132 = .ok (.aload_n 0, 1) := by decide +kernel
theorem dX7_tells_133 : decode cX7_tells 133 = .ok (.getfield 25, 3) := by decide +kernel
theorem dX7_tells_136 : decode cX7_tells 136 = .ok (.iconst 1, 1) := by decide +kernel
theorem dX7_tells_137 : decode cX7_tells 137 = .ok (.iconst 0, 1) := by decide +kernel
theorem dX7_tells_138 : decode cX7_tells 138 = .ok (.bastore, 1) := by decide +kernel
theorem dX7_tells_139 : decode cX7_tells 139 = .ok (.return_, 1) := by decide +kernel
theorem dX7_gorge_0 : decode cX7_gorge 0 = .ok (.aload_n 0, 1) := by decide +kernel
theorem dX7_gorge_1 : decode cX7_gorge 1 = .ok (.invokevirtual 35, 3) := by decide +kernel
theorem dX7_gorge_4 : decode cX7_gorge 4 = .ok (.ifCond .ne 11, 3) := by decide +kernel
theorem dX7_gorge_7 : decode cX7_gorge 7 = .ok (.bipush (-10), 2) := by decide +kernel
theorem dX7_gorge_9 : decode cX7_gorge 9 = .ok (.aload_n 0, 1) := by decide +kernel
theorem dX7_gorge_10 : decode cX7_gorge 10 = .ok (.getfield 57, 3) := by decide +kernel
theorem dX7_gorge_13 : decode cX7_gorge 13 = .ok (.isub, 1) := by decide +kernel
theorem dX7_gorge_14 : decode cX7_gorge 14 = .ok (.ireturn, 1) := by decide +kernel
theorem dX7_gorge_15 : decode cX7_gorge 15 = .ok (.aload_n 0, 1) := by decide +kernel
theorem dX7_gorge_16 : decode cX7_gorge 16 = .ok (.invokevirtual 39, 3) := by decide +kernel
theorem dX7_gorge_19 : decode cX7_gorge 19 = .ok (.aload_n 0, 1) := by decide +kernel
theorem dX7_gorge_20 : decode cX7_gorge 20 = .ok (.iconst 0, 1) := by decide +kernel
theorem dX7_gorge_21 : decode cX7_gorge 21 = .ok (.putfield 46, 3) := by decide +kernel
theorem dX7_gorge_24 : decode cX7_gorge 24 = .ok (.aload_n 0, 1) := by decide +kernel
theorem dX7_gorge_25 : decode cX7_gorge 25 = .ok (.getfield 13, 3) := by decide +kernel
theorem dX7_gorge_28 : decode cX7_gorge 28 = .ok (.iconst 3, 1) := by decide +kernel
theorem dX7_gorge_29 : decode cX7_gorge 29 = .ok (.iaload, 1) := by decide +kernel
theorem dX7_gorge_30 : decode cX7_gorge 30 = .ok (.ireturn, 1) := by decide +kernel
theorem dX7_share_0 : decode cX7_share 0 = .ok (.iconst 0, 1) := by decide +kernel
theorem dX7_share_1 : decode cX7_share 1 = .ok (.istore_n 2, 1) := by decide +kernel
theorem dX7_share_2 : decode cX7_share 2 = .ok (.iconst 0, 1) := by decide +kernel
theorem dX7_share_3 : decode cX7_share 3 = .ok (.istore_n 3, 1) := by decide +kernel
theorem dX7_share_4 : decode cX7_share 4 = .ok (.iload_n 3, 1) := by decide +kernel
theorem dX7_share_5 : decode cX7_share 5 = .ok (.aload_n 0, 1) := by decide +kernel
theorem dX7_share_6 : decode cX7_share 6 = .ok (.getfield 19, 3) := by decide +kernel
theorem dX7_share_9 : decode cX7_share 9 = .ok (.iconst 0, 1) := by decide +kernel
theorem dX7_share_10 : decode cX7_share 10 = .ok (.iaload, 1) := by decide +kernel
theorem dX7_share_11 : decode cX7_share 11 = .ok (.if_icmp .ge 29, 3) := by decide +kernel
theorem dX7_share_14 : decode cX7_share 14 = .ok (.iload_n 2, 1) := by decide +kernel
theorem dX7_share_15 : decode cX7_share 15 = .ok (.aload_n 0, 1) := by decide +kernel
theorem dX7_share_16 : decode cX7_share 16 = .ok (.getfield 19, 3) := by decide +kernel
theorem dX7_share_19 : decode cX7_share 19 = .ok (.iconst 3, 1) := by decide +kernel
theorem dX7_share_20 : decode cX7_share 20 = .ok (.iload_n 3, 1) := by decide +kernel
theorem dX7_share_21 : decode cX7_share 21 = .ok (.iadd, 1) := by decide +kernel
theorem dX7_share_22 : decode cX7_share 22 = .ok (.iaload, 1) := by decide +kernel
theorem dX7_share_23 : decode cX7_share 23 = .ok (.iload_n 1, 1) := by decide +kernel
theorem dX7_share_24 : decode cX7_share 24 = .ok (.if_icmp .ne 7, 3) := by decide +kernel
theorem dX7_share_27 : decode cX7_share 27 = .ok (.iconst 1, 1) := by decide +kernel
theorem dX7_share_28 : decode cX7_share 28 = .ok (.goto 4, 3) := by decide +kernel
theorem dX7_share_31 : decode cX7_share 31 = .ok (.iconst 0, 1) := by decide +kernel
theorem dX7_share_32 : decode cX7_share 32 = .ok (.iadd, 1) := by decide +kernel
theorem dX7_share_33 : decode cX7_share 33 = .ok (.istore_n 2, 1) := by decide +kernel
theorem dX7_share_34 : decode cX7_share 34 = .ok (.iinc 3 1, 3) := by decide +kernel
theorem dX7_share_37 : decode cX7_share 37 = .ok (.goto (-33), 3) := by decide +kernel
theorem dX7_share_40 : decode cX7_share 40 = .ok (.iload_n 2, 1) := by decide +kernel
theorem dX7_share_41 : decode cX7_share 41 = .ok (.ireturn, 1) := by decide +kernel
theorem dX7_person_0 : decode cX7_person 0 = .ok (.aload_n 0, 1) := by decide +kernel
theorem dX7_person_1 : decode cX7_person 1 = .ok (.iload_n 1, 1) := by decide +kernel
theorem dX7_person_2 : decode cX7_person 2 = .ok (.invokevirtual 91, 3) := by decide +kernel
theorem dX7_person_5 : decode cX7_person 5 = .ok (.ifCond .eq 12, 3) := by decide +kernel
theorem dX7_person_8 : decode cX7_person 8 = .ok (.iload_n 2, 1) := by decide +kernel
theorem dX7_person_9 : decode cX7_person 9 = .ok (.iconst 0, 1) := by decide +kernel
theorem dX7_person_10 : decode cX7_person 10 = .ok (.iconst 2, 1) := by decide +kernel
theorem dX7_person_11 : decode cX7_person 11 = .ok (.invokestatic 42, 3) := by decide +kernel
theorem dX7_person_14 : decode cX7_person 14 = .ok (.ifCond .ne 5, 3) := by decide +kernel
theorem dX7_person_17 : decode cX7_person 17 = .ok (.iconst (-1), 1) := by decide +kernel
theorem dX7_person_18 : decode cX7_person 18 = .ok (.ireturn, 1) := by decide +kernel
theorem dX7_person_19 : decode cX7_person 19 = .ok (.iload_n 2, 1) := by decide +kernel
theorem dX7_person_20 : decode cX7_person 20 = .ok (.ifCond .ne 15, 3) := by decide +kernel
theorem dX7_person_23 : decode cX7_person 23 = .ok (.aload_n 0, 1) := by decide +kernel
theorem dX7_person_24 : decode cX7_person 24 = .ok (.getfield 13, 3) := by decide +kernel
theorem dX7_person_27 : decode cX7_person 27 = .ok (.bipush 6, 2) := by decide +kernel
theorem dX7_person_29 : decode cX7_person 29 = .ok (.iload_n 1, 1) := by decide +kernel
theorem dX7_person_30 : decode cX7_person 30 = .ok (.iadd, 1) := by decide +kernel
theorem dX7_person_31 : decode cX7_person 31 = .ok (.iaload, 1) := by decide +kernel
theorem dX7_person_32 : decode cX7_person 32 = .ok (.goto 25, 3) := by decide +kernel
theorem dX7_person_35 : decode cX7_person 35 = .ok (.iload_n 2, 1) := by decide +kernel
theorem dX7_person_36 : decode cX7_person 36 = .ok (.iconst 1, 1) := by decide +kernel
theorem dX7_person_37 : decode cX7_person 37 = .ok (.if_icmp .ne 15, 3) := by decide +kernel
theorem dX7_person_40 : decode cX7_person 40 = .ok (.aload_n 0, 1) := by decide +kernel
theorem dX7_person_41 : decode cX7_person 41 = .ok (.getfield 13, 3) := by decide +kernel
theorem dX7_person_44 : decode cX7_person 44 = .ok (.bipush 12, 2) := by decide +kernel
theorem dX7_person_46 : decode cX7_person 46 = .ok (.iload_n 1, 1) := by decide +kernel
theorem dX7_person_47 : decode cX7_person 47 = .ok (.iadd, 1) := by decide +kernel
theorem dX7_person_48 : decode cX7_person 48 = .ok (.iaload, 1) := by decide +kernel
theorem dX7_person_49 : decode cX7_person 49 = .ok (.goto 8, 3) := by decide +kernel
theorem dX7_person_52 : decode cX7_person 52 = .ok (.aload_n 0, 1) := by decide +kernel
theorem dX7_person_53 : decode cX7_person 53 = .ok (.iload_n 1, 1) := by decide +kernel
theorem dX7_person_54 : decode cX7_person 54 = .ok (.invokevirtual 94, 3) := by decide +kernel
theorem dX7_person_57 : decode cX7_person 57 = .ok (.ireturn, 1) := by decide +kernel
theorem dX7_bears_0 : decode cX7_bears 0 = .ok (.aload_n 0, 1) := by decide +kernel
theorem dX7_bears_1 : decode cX7_bears 1 = .ok (.getfield 19, 3) := by decide +kernel
theorem dX7_bears_4 : decode cX7_bears 4 = .ok (.bipush 43, 2) := by decide +kernel
theorem dX7_bears_6 : decode cX7_bears 6 = .ok (.iload_n 1, 1) := by decide +kernel
theorem dX7_bears_7 : decode cX7_bears 7 = .ok (.iadd, 1) := by decide +kernel
theorem dX7_bears_8 : decode cX7_bears 8 = .ok (.iaload, 1) := by decide +kernel
theorem dX7_bears_9 : decode cX7_bears 9 = .ok (.aload_n 0, 1) := by decide +kernel
theorem dX7_bears_10 : decode cX7_bears 10 = .ok (.getfield 19, 3) := by decide +kernel
theorem dX7_bears_13 : decode cX7_bears 13 = .ok (.bipush 83, 2) := by decide +kernel
theorem dX7_bears_15 : decode cX7_bears 15 = .ok (.iload_n 1, 1) := by decide +kernel
theorem dX7_bears_16 : decode cX7_bears 16 = .ok (.iadd, 1) := by decide +kernel
theorem dX7_bears_17 : decode cX7_bears 17 = .ok (.iaload, 1) := by decide +kernel
theorem dX7_bears_18 : decode cX7_bears 18 = .ok (.iconst 4, 1) := by decide +kernel
theorem dX7_bears_19 : decode cX7_bears 19 = .ok (.idiv, 1) := by decide +kernel
theorem dX7_bears_20 : decode cX7_bears 20 = .ok (.isub, 1) := by decide +kernel
theorem dX7_bears_21 : decode cX7_bears 21 = .ok (.istore_n 2, 1) := by decide +kernel
theorem dX7_bears_22 : decode cX7_bears 22 = .ok (.iload_n 2, 1) := by decide +kernel
theorem dX7_bears_23 : decode cX7_bears 23 = .ok (.ifCond .ge 7, 3) := by decide +kernel
theorem dX7_bears_26 : decode cX7_bears 26 = .ok (.iconst 0, 1) := by decide +kernel
theorem dX7_bears_27 : decode cX7_bears 27 = .ok (.goto 4, 3) := by decide +kernel
theorem dX7_bears_30 : decode cX7_bears 30 = .ok (.iload_n 2, 1) := by decide +kernel
theorem dX7_bears_31 : decode cX7_bears 31 = .ok (.ireturn, 1) := by decide +kernel
theorem dX7_row_0 : decode cX7_row 0 = .ok (.aload_n 0, 1) := by decide +kernel
theorem dX7_row_1 : decode cX7_row 1 = .ok (.iload_n 1, 1) := by decide +kernel
theorem dX7_row_2 : decode cX7_row 2 = .ok (.invokevirtual 97, 3) := by decide +kernel
theorem dX7_row_5 : decode cX7_row 5 = .ok (.ifCond .eq 12, 3) := by decide +kernel
theorem dX7_row_8 : decode cX7_row 8 = .ok (.iload_n 2, 1) := by decide +kernel
theorem dX7_row_9 : decode cX7_row 9 = .ok (.iconst 0, 1) := by decide +kernel
theorem dX7_row_10 : decode cX7_row 10 = .ok (.iconst 3, 1) := by decide +kernel
theorem dX7_row_11 : decode cX7_row 11 = .ok (.invokestatic 42, 3) := by decide +kernel
theorem dX7_row_14 : decode cX7_row 14 = .ok (.ifCond .ne 5, 3) := by decide +kernel
theorem dX7_row_17 : decode cX7_row 17 = .ok (.iconst (-1), 1) := by decide +kernel
theorem dX7_row_18 : decode cX7_row 18 = .ok (.ireturn, 1) := by decide +kernel
theorem dX7_row_19 : decode cX7_row 19 = .ok (.iload_n 2, 1) := by decide +kernel
theorem dX7_row_20 : decode cX7_row 20 = .ok (.iconst 3, 1) := by decide +kernel
theorem dX7_row_21 : decode cX7_row 21 = .ok (.if_icmp .ne 11, 3) := by decide +kernel
theorem dX7_row_24 : decode cX7_row 24 = .ok (.aload_n 0, 1) := by decide +kernel
theorem dX7_row_25 : decode cX7_row 25 = .ok (.iload_n 1, 1) := by decide +kernel
theorem dX7_row_26 : decode cX7_row 26 = .ok (.invokevirtual 100, 3) := by decide +kernel
theorem dX7_row_29 : decode cX7_row 29 = .ok (.goto 16, 3) := by decide +kernel
theorem dX7_row_32 : decode cX7_row 32 = .ok (.aload_n 0, 1) := by decide +kernel
theorem dX7_row_33 : decode cX7_row 33 = .ok (.getfield 19, 3) := by decide +kernel
theorem dX7_row_36 : decode cX7_row 36 = .ok (.iconst 3, 1) := by decide +kernel
theorem dX7_row_37 : decode cX7_row 37 = .ok (.bipush 40, 2) := by decide +kernel
theorem dX7_row_39 : decode cX7_row 39 = .ok (.iload_n 2, 1) := by decide +kernel
theorem dX7_row_40 : decode cX7_row 40 = .ok (.imul, 1) := by decide +kernel
theorem dX7_row_41 : decode cX7_row 41 = .ok (.iadd, 1) := by decide +kernel
theorem dX7_row_42 : decode cX7_row 42 = .ok (.iload_n 1, 1) := by decide +kernel
theorem dX7_row_43 : decode cX7_row 43 = .ok (.iadd, 1) := by decide +kernel
theorem dX7_row_44 : decode cX7_row 44 = .ok (.iaload, 1) := by decide +kernel
theorem dX7_row_45 : decode cX7_row 45 = .ok (.ireturn, 1) := by decide +kernel
theorem dX7_longOf_0 : decode cX7_longOf 0 = .ok (.iload_n 0, 1) := by decide +kernel
theorem dX7_longOf_1 : decode cX7_longOf 1 = .ok (.iload_n 1, 1) := by decide +kernel
theorem dX7_longOf_2 : decode cX7_longOf 2 = .ok (.iconst 1, 1) := by decide +kernel
theorem dX7_longOf_3 : decode cX7_longOf 3 = .ok (.if_icmp .ne 9, 3) := by decide +kernel
theorem dX7_longOf_6 : decode cX7_longOf 6 = .ok (.iload_n 0, 1) := by decide +kernel
theorem dX7_longOf_7 : decode cX7_longOf 7 = .ok (.iconst 5, 1) := by decide +kernel
theorem dX7_longOf_8 : decode cX7_longOf 8 = .ok (.idiv, 1) := by decide +kernel
theorem dX7_longOf_9 : decode cX7_longOf 9 = .ok (.goto 4, 3) := by decide +kernel
theorem dX7_longOf_12 : decode cX7_longOf 12 = .ok (.iconst 0, 1) := by decide +kernel
theorem dX7_longOf_13 : decode cX7_longOf 13 = .ok (.iadd, 1) := by decide +kernel
theorem dX7_longOf_14 : decode cX7_longOf 14 = .ok (.ireturn, 1) := by decide +kernel
theorem dX7_most_0 : decode cX7_most 0 = .ok (.bipush 9, 2) := by decide +kernel
theorem dX7_most_2 : decode cX7_most 2 = .ok (.istore_n 1, 1) := by decide +kernel
theorem dX7_most_3 : decode cX7_most 3 = .ok (.iconst 0, 1) := by decide +kernel
theorem dX7_most_4 : decode cX7_most 4 = .ok (.istore_n 2, 1) := by decide +kernel
theorem dX7_most_5 : decode cX7_most 5 = .ok (.iload_n 2, 1) := by decide +kernel
theorem dX7_most_6 : decode cX7_most 6 = .ok (.aload_n 0, 1) := by decide +kernel
theorem dX7_most_7 : decode cX7_most 7 = .ok (.getfield 19, 3) := by decide +kernel
theorem dX7_most_10 : decode cX7_most 10 = .ok (.iconst 0, 1) := by decide +kernel
theorem dX7_most_11 : decode cX7_most 11 = .ok (.iaload, 1) := by decide +kernel
theorem dX7_most_12 : decode cX7_most 12 = .ok (.if_icmp .ge 32, 3) := by decide +kernel
theorem dX7_most_15 : decode cX7_most 15 = .ok (.iconst 2, 1) := by decide +kernel
theorem dX7_most_16 : decode cX7_most 16 = .ok (.aload_n 0, 1) := by decide +kernel
theorem dX7_most_17 : decode cX7_most 17 = .ok (.iload_n 2, 1) := by decide +kernel
theorem dX7_most_18 : decode cX7_most 18 = .ok (.invokevirtual 100, 3) := by decide +kernel
theorem dX7_most_21 : decode cX7_most 21 = .ok (.imul, 1) := by decide +kernel
theorem dX7_most_22 : decode cX7_most 22 = .ok (.iload_n 1, 1) := by decide +kernel
theorem dX7_most_23 : decode cX7_most 23 = .ok (.if_icmp .ge 13, 3) := by decide +kernel
theorem dX7_most_26 : decode cX7_most 26 = .ok (.iconst 2, 1) := by decide +kernel
theorem dX7_most_27 : decode cX7_most 27 = .ok (.aload_n 0, 1) := by decide +kernel
theorem dX7_most_28 : decode cX7_most 28 = .ok (.iload_n 2, 1) := by decide +kernel
theorem dX7_most_29 : decode cX7_most 29 = .ok (.invokevirtual 100, 3) := by decide +kernel
theorem dX7_most_32 : decode cX7_most 32 = .ok (.imul, 1) := by decide +kernel
theorem dX7_most_33 : decode cX7_most 33 = .ok (.goto 4, 3) := by decide +kernel
theorem dX7_most_36 : decode cX7_most 36 = .ok (.iload_n 1, 1) := by decide +kernel
theorem dX7_most_37 : decode cX7_most 37 = .ok (.istore_n 1, 1) := by decide +kernel
theorem dX7_most_38 : decode cX7_most 38 = .ok (.iinc 2 1, 3) := by decide +kernel
theorem dX7_most_41 : decode cX7_most 41 = .ok (.goto (-36), 3) := by decide +kernel
theorem dX7_most_44 : decode cX7_most 44 = .ok (.iload_n 1, 1) := by decide +kernel
theorem dX7_most_45 : decode cX7_most 45 = .ok (.ireturn, 1) := by decide +kernel
theorem dX7_holds_0 : decode cX7_holds 0 = .ok (.aload_n 0, 1) := by decide +kernel
theorem dX7_holds_1 : decode cX7_holds 1 = .ok (.getfield 19, 3) := by decide +kernel
theorem dX7_holds_4 : decode cX7_holds 4 = .ok (.iconst 0, 1) := by decide +kernel
theorem dX7_holds_5 : decode cX7_holds 5 = .ok (.iaload, 1) := by decide +kernel
theorem dX7_holds_6 : decode cX7_holds 6 = .ok (.aload_n 0, 1) := by decide +kernel
theorem dX7_holds_7 : decode cX7_holds 7 = .ok (.getfield 19, 3) := by decide +kernel
theorem dX7_holds_10 : decode cX7_holds 10 = .ok (.iconst 1, 1) := by decide +kernel
theorem dX7_holds_11 : decode cX7_holds 11 = .ok (.iaload, 1) := by decide +kernel
theorem dX7_holds_12 : decode cX7_holds 12 = .ok (.invokestatic 103, 3) := by decide +kernel
theorem dX7_holds_15 : decode cX7_holds 15 = .ok (.aload_n 0, 1) := by decide +kernel
theorem dX7_holds_16 : decode cX7_holds 16 = .ok (.getfield 13, 3) := by decide +kernel
theorem dX7_holds_19 : decode cX7_holds 19 = .ok (.iconst 1, 1) := by decide +kernel
theorem dX7_holds_20 : decode cX7_holds 20 = .ok (.iaload, 1) := by decide +kernel
theorem dX7_holds_21 : decode cX7_holds 21 = .ok (.aload_n 0, 1) := by decide +kernel
theorem dX7_holds_22 : decode cX7_holds 22 = .ok (.getfield 13, 3) := by decide +kernel
theorem dX7_holds_25 : decode cX7_holds 25 = .ok (.iconst 1, 1) := by decide +kernel
theorem dX7_holds_26 : decode cX7_holds 26 = .ok (.iaload, 1) := by decide +kernel
theorem dX7_holds_27 : decode cX7_holds 27 = .ok (.aload_n 0, 1) := by decide +kernel
theorem dX7_holds_28 : decode cX7_holds 28 = .ok (.getfield 13, 3) := by decide +kernel
theorem dX7_holds_31 : decode cX7_holds 31 = .ok (.iconst 2, 1) := by decide +kernel
theorem dX7_holds_32 : decode cX7_holds 32 = .ok (.iaload, 1) := by decide +kernel
theorem dX7_holds_33 : decode cX7_holds 33 = .ok (.iadd, 1) := by decide +kernel
theorem dX7_holds_34 : decode cX7_holds 34 = .ok (.invokestatic 42, 3) := by decide +kernel
theorem dX7_holds_37 : decode cX7_holds 37 = .ok (.ifCond .eq 23, 3) := by decide +kernel
theorem dX7_holds_40 : decode cX7_holds 40 = .ok (.aload_n 0, 1) := by decide +kernel
theorem dX7_holds_41 : decode cX7_holds 41 = .ok (.invokevirtual 107, 3) := by decide +kernel
theorem dX7_holds_44 : decode cX7_holds 44 = .ok (.aload_n 0, 1) := by decide +kernel
theorem dX7_holds_45 : decode cX7_holds 45 = .ok (.getfield 13, 3) := by decide +kernel
theorem dX7_holds_48 : decode cX7_holds 48 = .ok (.bipush 6, 2) := by decide +kernel
theorem dX7_holds_50 : decode cX7_holds 50 = .ok (.iload_n 1, 1) := by decide +kernel
theorem dX7_holds_51 : decode cX7_holds 51 = .ok (.iadd, 1) := by decide +kernel
theorem dX7_holds_52 : decode cX7_holds 52 = .ok (.iaload, 1) := by decide +kernel
theorem dX7_holds_53 : decode cX7_holds 53 = .ok (.if_icmp .lt 7, 3) := by decide +kernel
theorem dX7_holds_56 : decode cX7_holds 56 = .ok (.iconst 1, 1) := by decide +kernel
theorem dX7_holds_57 : decode cX7_holds 57 = .ok (.goto 4, 3) := by decide +kernel
theorem dX7_holds_60 : decode cX7_holds 60 = .ok (.iconst 0, 1) := by decide +kernel
theorem dX7_holds_61 : decode cX7_holds 61 = .ok (.ireturn, 1) := by decide +kernel
theorem dX7_goesAway_0 : decode cX7_goesAway 0 = .ok (.aload_n 0, 1) := by decide +kernel
theorem dX7_goesAway_1 : decode cX7_goesAway 1 = .ok (.getfield 19, 3) := by decide +kernel
theorem dX7_goesAway_4 : decode cX7_goesAway 4 = .ok (.iconst 0, 1) := by decide +kernel
theorem dX7_goesAway_5 : decode cX7_goesAway 5 = .ok (.dup2, 1) := by decide +kernel
theorem dX7_goesAway_6 : decode cX7_goesAway 6 = .ok (.iaload, 1) := by decide +kernel
theorem dX7_goesAway_7 : decode cX7_goesAway 7 = .ok (.iconst 1, 1) := by decide +kernel
theorem dX7_goesAway_8 : decode cX7_goesAway 8 = .ok (.isub, 1) := by decide +kernel
theorem dX7_goesAway_9 : decode cX7_goesAway 9 = .ok (.iastore, 1) := by decide +kernel
theorem dX7_goesAway_10 : decode cX7_goesAway 10 = .ok (.iload_n 1, 1) := by decide +kernel
theorem dX7_goesAway_11 : decode cX7_goesAway 11 = .ok (.istore_n 2, 1) := by decide +kernel
theorem dX7_goesAway_12 : decode cX7_goesAway 12 = .ok (.iload_n 2, 1) := by decide +kernel
theorem dX7_goesAway_13 : decode cX7_goesAway 13 = .ok (.aload_n 0, 1) := by decide +kernel
theorem dX7_goesAway_14 : decode cX7_goesAway 14 = .ok (.getfield 19, 3) := by decide +kernel
theorem dX7_goesAway_17 : decode cX7_goesAway 17 = .ok (.iconst 0, 1) := by decide +kernel
theorem dX7_goesAway_18 : decode cX7_goesAway 18 = .ok (.iaload, 1) := by decide +kernel
theorem dX7_goesAway_19 : decode cX7_goesAway 19 = .ok (.if_icmp .ge 67, 3) := by decide +kernel
theorem dX7_goesAway_22 : decode cX7_goesAway 22 = .ok (.aload_n 0, 1) := by decide +kernel
theorem dX7_goesAway_23 : decode cX7_goesAway 23 = .ok (.getfield 19, 3) := by decide +kernel
theorem dX7_goesAway_26 : decode cX7_goesAway 26 = .ok (.iconst 3, 1) := by decide +kernel
theorem dX7_goesAway_27 : decode cX7_goesAway 27 = .ok (.iload_n 2, 1) := by decide +kernel
theorem dX7_goesAway_28 : decode cX7_goesAway 28 = .ok (.iadd, 1) := by decide +kernel
theorem dX7_goesAway_29 : decode cX7_goesAway 29 = .ok (.aload_n 0, 1) := by decide +kernel
theorem dX7_goesAway_30 : decode cX7_goesAway 30 = .ok (.getfield 19, 3) := by decide +kernel
theorem dX7_goesAway_33 : decode cX7_goesAway 33 = .ok (.iconst 3, 1) := by decide +kernel
theorem dX7_goesAway_34 : decode cX7_goesAway 34 = .ok (.iload_n 2, 1) := by decide +kernel
theorem dX7_goesAway_35 : decode cX7_goesAway 35 = .ok (.iadd, 1) := by decide +kernel
theorem dX7_goesAway_36 : decode cX7_goesAway 36 = .ok (.iconst 1, 1) := by decide +kernel
theorem dX7_goesAway_37 : decode cX7_goesAway 37 = .ok (.iadd, 1) := by decide +kernel
theorem dX7_goesAway_38 : decode cX7_goesAway 38 = .ok (.iaload, 1) := by decide +kernel
theorem dX7_goesAway_39 : decode cX7_goesAway 39 = .ok (.iastore, 1) := by decide +kernel
theorem dX7_goesAway_40 : decode cX7_goesAway 40 = .ok (.aload_n 0, 1) := by decide +kernel
theorem dX7_goesAway_41 : decode cX7_goesAway 41 = .ok (.getfield 19, 3) := by decide +kernel
theorem dX7_goesAway_44 : decode cX7_goesAway 44 = .ok (.bipush 43, 2) := by decide +kernel
theorem dX7_goesAway_46 : decode cX7_goesAway 46 = .ok (.iload_n 2, 1) := by decide +kernel
theorem dX7_goesAway_47 : decode cX7_goesAway 47 = .ok (.iadd, 1) := by decide +kernel
theorem dX7_goesAway_48 : decode cX7_goesAway 48 = .ok (.aload_n 0, 1) := by decide +kernel
theorem dX7_goesAway_49 : decode cX7_goesAway 49 = .ok (.getfield 19, 3) := by decide +kernel
theorem dX7_goesAway_52 : decode cX7_goesAway 52 = .ok (.bipush 43, 2) := by decide +kernel
theorem dX7_goesAway_54 : decode cX7_goesAway 54 = .ok (.iload_n 2, 1) := by decide +kernel
theorem dX7_goesAway_55 : decode cX7_goesAway 55 = .ok (.iadd, 1) := by decide +kernel
theorem dX7_goesAway_56 : decode cX7_goesAway 56 = .ok (.iconst 1, 1) := by decide +kernel
theorem dX7_goesAway_57 : decode cX7_goesAway 57 = .ok (.iadd, 1) := by decide +kernel
theorem dX7_goesAway_58 : decode cX7_goesAway 58 = .ok (.iaload, 1) := by decide +kernel
theorem dX7_goesAway_59 : decode cX7_goesAway 59 = .ok (.iastore, 1) := by decide +kernel
theorem dX7_goesAway_60 : decode cX7_goesAway 60 = .ok (.aload_n 0, 1) := by decide +kernel
theorem dX7_goesAway_61 : decode cX7_goesAway 61 = .ok (.getfield 19, 3) := by decide +kernel
theorem dX7_goesAway_64 : decode cX7_goesAway 64 = .ok (.bipush 83, 2) := by decide +kernel
theorem dX7_goesAway_66 : decode cX7_goesAway 66 = .ok (.iload_n 2, 1) := by decide +kernel
theorem dX7_goesAway_67 : decode cX7_goesAway 67 = .ok (.iadd, 1) := by decide +kernel
theorem dX7_goesAway_68 : decode cX7_goesAway 68 = .ok (.aload_n 0, 1) := by decide +kernel
theorem dX7_goesAway_69 : decode cX7_goesAway 69 = .ok (.getfield 19, 3) := by decide +kernel
theorem dX7_goesAway_72 : decode cX7_goesAway 72 = .ok (.bipush 83, 2) := by decide +kernel
theorem dX7_goesAway_74 : decode cX7_goesAway 74 = .ok (.iload_n 2, 1) := by decide +kernel
theorem dX7_goesAway_75 : decode cX7_goesAway 75 = .ok (.iadd, 1) := by decide +kernel
theorem dX7_goesAway_76 : decode cX7_goesAway 76 = .ok (.iconst 1, 1) := by decide +kernel
theorem dX7_goesAway_77 : decode cX7_goesAway 77 = .ok (.iadd, 1) := by decide +kernel
theorem dX7_goesAway_78 : decode cX7_goesAway 78 = .ok (.iaload, 1) := by decide +kernel
theorem dX7_goesAway_79 : decode cX7_goesAway 79 = .ok (.iastore, 1) := by decide +kernel
theorem dX7_goesAway_80 : decode cX7_goesAway 80 = .ok (.iinc 2 1, 3) := by decide +kernel
theorem dX7_goesAway_83 : decode cX7_goesAway 83 = .ok (.goto (-71), 3) := by decide +kernel
theorem dX7_goesAway_86 : decode cX7_goesAway 86 = .ok (.return_, 1) := by decide +kernel
theorem dX7_knits_0 : decode cX7_knits 0 = .ok (.iconst 0, 1) := by decide +kernel
theorem dX7_knits_1 : decode cX7_knits 1 = .ok (.istore 4, 2) := by decide +kernel
theorem dX7_knits_3 : decode cX7_knits 3 = .ok (.iload 4, 2) := by decide +kernel
theorem dX7_knits_5 : decode cX7_knits 5 = .ok (.iload_n 2, 1) := by decide +kernel
theorem dX7_knits_6 : decode cX7_knits 6 = .ok (.if_icmp .ge 79, 3) := by decide +kernel
theorem dX7_knits_9 : decode cX7_knits 9 = .ok (.aload_n 0, 1) := by decide +kernel
theorem dX7_knits_10 : decode cX7_knits 10 = .ok (.getfield 19, 3) := by decide +kernel
theorem dX7_knits_13 : decode cX7_knits 13 = .ok (.iconst 0, 1) := by decide +kernel
theorem dX7_knits_14 : decode cX7_knits 14 = .ok (.iaload, 1) := by decide +kernel
theorem dX7_knits_15 : decode cX7_knits 15 = .ok (.bipush 40, 2) := by decide +kernel
theorem dX7_knits_17 : decode cX7_knits 17 = .ok (.if_icmp .ne 8, 3) := by decide +kernel
theorem dX7_knits_20 : decode cX7_knits 20 = .ok (.aload_n 0, 1) := by decide +kernel
theorem dX7_knits_21 : decode cX7_knits 21 = .ok (.iconst 0, 1) := by decide +kernel
theorem dX7_knits_22 : decode cX7_knits 22 = .ok (.invokevirtual 111, 3) := by decide +kernel
theorem dX7_knits_25 : decode cX7_knits 25 = .ok (.aload_n 0, 1) := by decide +kernel
theorem dX7_knits_26 : decode cX7_knits 26 = .ok (.getfield 19, 3) := by decide +kernel
theorem dX7_knits_29 : decode cX7_knits 29 = .ok (.iconst 3, 1) := by decide +kernel
theorem dX7_knits_30 : decode cX7_knits 30 = .ok (.aload_n 0, 1) := by decide +kernel
theorem dX7_knits_31 : decode cX7_knits 31 = .ok (.getfield 19, 3) := by decide +kernel
theorem dX7_knits_34 : decode cX7_knits 34 = .ok (.iconst 0, 1) := by decide +kernel
theorem dX7_knits_35 : decode cX7_knits 35 = .ok (.iaload, 1) := by decide +kernel
theorem dX7_knits_36 : decode cX7_knits 36 = .ok (.iadd, 1) := by decide +kernel
theorem dX7_knits_37 : decode cX7_knits 37 = .ok (.iload_n 1, 1) := by decide +kernel
theorem dX7_knits_38 : decode cX7_knits 38 = .ok (.iastore, 1) := by decide +kernel
theorem dX7_knits_39 : decode cX7_knits 39 = .ok (.aload_n 0, 1) := by decide +kernel
theorem dX7_knits_40 : decode cX7_knits 40 = .ok (.getfield 19, 3) := by decide +kernel
theorem dX7_knits_43 : decode cX7_knits 43 = .ok (.bipush 43, 2) := by decide +kernel
theorem dX7_knits_45 : decode cX7_knits 45 = .ok (.aload_n 0, 1) := by decide +kernel
theorem dX7_knits_46 : decode cX7_knits 46 = .ok (.getfield 19, 3) := by decide +kernel
theorem dX7_knits_49 : decode cX7_knits 49 = .ok (.iconst 0, 1) := by decide +kernel
theorem dX7_knits_50 : decode cX7_knits 50 = .ok (.iaload, 1) := by decide +kernel
theorem dX7_knits_51 : decode cX7_knits 51 = .ok (.iadd, 1) := by decide +kernel
theorem dX7_knits_52 : decode cX7_knits 52 = .ok (.iload_n 3, 1) := by decide +kernel
theorem dX7_knits_53 : decode cX7_knits 53 = .ok (.iastore, 1) := by decide +kernel
theorem dX7_knits_54 : decode cX7_knits 54 = .ok (.aload_n 0, 1) := by decide +kernel
theorem dX7_knits_55 : decode cX7_knits 55 = .ok (.getfield 19, 3) := by decide +kernel
theorem dX7_knits_58 : decode cX7_knits 58 = .ok (.bipush 83, 2) := by decide +kernel
theorem dX7_knits_60 : decode cX7_knits 60 = .ok (.aload_n 0, 1) := by decide +kernel
theorem dX7_knits_61 : decode cX7_knits 61 = .ok (.getfield 19, 3) := by decide +kernel
theorem dX7_knits_64 : decode cX7_knits 64 = .ok (.iconst 0, 1) := by decide +kernel
theorem dX7_knits_65 : decode cX7_knits 65 = .ok (.iaload, 1) := by decide +kernel
theorem dX7_knits_66 : decode cX7_knits 66 = .ok (.iadd, 1) := by decide +kernel
theorem dX7_knits_67 : decode cX7_knits 67 = .ok (.iconst 0, 1) := by decide +kernel
theorem dX7_knits_68 : decode cX7_knits 68 = .ok (.iastore, 1) := by decide +kernel
theorem dX7_knits_69 : decode cX7_knits 69 = .ok (.aload_n 0, 1) := by decide +kernel
theorem dX7_knits_70 : decode cX7_knits 70 = .ok (.getfield 19, 3) := by decide +kernel
theorem dX7_knits_73 : decode cX7_knits 73 = .ok (.iconst 0, 1) := by decide +kernel
theorem dX7_knits_74 : decode cX7_knits 74 = .ok (.dup2, 1) := by decide +kernel
theorem dX7_knits_75 : decode cX7_knits 75 = .ok (.iaload, 1) := by decide +kernel
theorem dX7_knits_76 : decode cX7_knits 76 = .ok (.iconst 1, 1) := by decide +kernel
theorem dX7_knits_77 : decode cX7_knits 77 = .ok (.iadd, 1) := by decide +kernel
theorem dX7_knits_78 : decode cX7_knits 78 = .ok (.iastore, 1) := by decide +kernel
theorem dX7_knits_79 : decode cX7_knits 79 = .ok (.iinc 4 1, 3) := by decide +kernel
theorem dX7_knits_82 : decode cX7_knits 82 = .ok (.goto (-79), 3) := by decide +kernel
theorem dX7_knits_85 : decode cX7_knits 85 = .ok (.return_, 1) := by decide +kernel
theorem dX7_goesOver_0 : decode cX7_goesOver 0 = .ok (.aload_n 0, 1) := by decide +kernel
theorem dX7_goesOver_1 : decode cX7_goesOver 1 = .ok (.iload_n 1, 1) := by decide +kernel
theorem dX7_goesOver_2 : decode cX7_goesOver 2 = .ok (.aload_n 0, 1) := by decide +kernel
theorem dX7_goesOver_3 : decode cX7_goesOver 3 = .ok (.getfield 13, 3) := by decide +kernel
theorem dX7_goesOver_6 : decode cX7_goesOver 6 = .ok (.bipush 6, 2) := by decide +kernel
theorem dX7_goesOver_8 : decode cX7_goesOver 8 = .ok (.iload_n 1, 1) := by decide +kernel
theorem dX7_goesOver_9 : decode cX7_goesOver 9 = .ok (.iadd, 1) := by decide +kernel
theorem dX7_goesOver_10 : decode cX7_goesOver 10 = .ok (.iaload, 1) := by decide +kernel
theorem dX7_goesOver_11 : decode cX7_goesOver 11 = .ok (.aload_n 0, 1) := by decide +kernel
theorem dX7_goesOver_12 : decode cX7_goesOver 12 = .ok (.getfield 13, 3) := by decide +kernel
theorem dX7_goesOver_15 : decode cX7_goesOver 15 = .ok (.bipush 12, 2) := by decide +kernel
theorem dX7_goesOver_17 : decode cX7_goesOver 17 = .ok (.iload_n 1, 1) := by decide +kernel
theorem dX7_goesOver_18 : decode cX7_goesOver 18 = .ok (.iadd, 1) := by decide +kernel
theorem dX7_goesOver_19 : decode cX7_goesOver 19 = .ok (.iaload, 1) := by decide +kernel
theorem dX7_goesOver_20 : decode cX7_goesOver 20 = .ok (.invokevirtual 115, 3) := by decide +kernel
theorem dX7_goesOver_23 : decode cX7_goesOver 23 = .ok (.return_, 1) := by decide +kernel
theorem dX7_ages_0 : decode cX7_ages 0 = .ok (.iconst 0, 1) := by decide +kernel
theorem dX7_ages_1 : decode cX7_ages 1 = .ok (.istore_n 1, 1) := by decide +kernel
theorem dX7_ages_2 : decode cX7_ages 2 = .ok (.iload_n 1, 1) := by decide +kernel
theorem dX7_ages_3 : decode cX7_ages 3 = .ok (.aload_n 0, 1) := by decide +kernel
theorem dX7_ages_4 : decode cX7_ages 4 = .ok (.getfield 19, 3) := by decide +kernel
theorem dX7_ages_7 : decode cX7_ages 7 = .ok (.iconst 0, 1) := by decide +kernel
theorem dX7_ages_8 : decode cX7_ages 8 = .ok (.iaload, 1) := by decide +kernel
theorem dX7_ages_9 : decode cX7_ages 9 = .ok (.if_icmp .ge 40, 3) := by decide +kernel
theorem dX7_ages_12 : decode cX7_ages 12 = .ok (.aload_n 0, 1) := by decide +kernel
theorem dX7_ages_13 : decode cX7_ages 13 = .ok (.getfield 19, 3) := by decide +kernel
theorem dX7_ages_16 : decode cX7_ages 16 = .ok (.bipush 83, 2) := by decide +kernel
theorem dX7_ages_18 : decode cX7_ages 18 = .ok (.iload_n 1, 1) := by decide +kernel
theorem dX7_ages_19 : decode cX7_ages 19 = .ok (.iadd, 1) := by decide +kernel
theorem dX7_ages_20 : decode cX7_ages 20 = .ok (.dup2, 1) := by decide +kernel
theorem dX7_ages_21 : decode cX7_ages 21 = .ok (.iaload, 1) := by decide +kernel
theorem dX7_ages_22 : decode cX7_ages 22 = .ok (.aload_n 0, 1) := by decide +kernel
theorem dX7_ages_23 : decode cX7_ages 23 = .ok (.getfield 19, 3) := by decide +kernel
theorem dX7_ages_26 : decode cX7_ages 26 = .ok (.bipush 83, 2) := by decide +kernel
theorem dX7_ages_28 : decode cX7_ages 28 = .ok (.iload_n 1, 1) := by decide +kernel
theorem dX7_ages_29 : decode cX7_ages 29 = .ok (.iadd, 1) := by decide +kernel
theorem dX7_ages_30 : decode cX7_ages 30 = .ok (.iaload, 1) := by decide +kernel
theorem dX7_ages_31 : decode cX7_ages 31 = .ok (.bipush 99, 2) := by decide +kernel
theorem dX7_ages_33 : decode cX7_ages 33 = .ok (.if_icmp .ge 7, 3) := by decide +kernel
theorem dX7_ages_36 : decode cX7_ages 36 = .ok (.iconst 1, 1) := by decide +kernel
theorem dX7_ages_37 : decode cX7_ages 37 = .ok (.goto 4, 3) := by decide +kernel
theorem dX7_ages_40 : decode cX7_ages 40 = .ok (.iconst 0, 1) := by decide +kernel
theorem dX7_ages_41 : decode cX7_ages 41 = .ok (.iadd, 1) := by decide +kernel
theorem dX7_ages_42 : decode cX7_ages 42 = .ok (.iastore, 1) := by decide +kernel
theorem dX7_ages_43 : decode cX7_ages 43 = .ok (.iinc 1 1, 3) := by decide +kernel
theorem dX7_ages_46 : decode cX7_ages 46 = .ok (.goto (-44), 3) := by decide +kernel
theorem dX7_ages_49 : decode cX7_ages 49 = .ok (.return_, 1) := by decide +kernel
theorem dX7_keeps_0 : decode cX7_keeps 0 = .ok (.aload_n 0, 1) := by decide +kernel
theorem dX7_keeps_1 : decode cX7_keeps 1 = .ok (.getfield 19, 3) := by decide +kernel
theorem dX7_keeps_4 : decode cX7_keeps 4 = .ok (.bipush 123, 2) := by decide +kernel
theorem dX7_keeps_6 : decode cX7_keeps 6 = .ok (.iaload, 1) := by decide +kernel
theorem dX7_keeps_7 : decode cX7_keeps 7 = .ok (.bipush 8, 2) := by decide +kernel
theorem dX7_keeps_9 : decode cX7_keeps 9 = .ok (.if_icmp .ne 45, 3) := by decide +kernel
theorem dX7_keeps_12 : decode cX7_keeps 12 = .ok (.bipush 124, 2) := by decide +kernel
theorem dX7_keeps_14 : decode cX7_keeps 14 = .ok (.istore_n 1, 1) := by decide +kernel
theorem dX7_keeps_15 : decode cX7_keeps 15 = .ok (.iload_n 1, 1) := by decide +kernel
theorem dX7_keeps_16 : decode cX7_keeps 16 = .ok (.sipush 985, 3) := by decide +kernel
theorem dX7_keeps_19 : decode cX7_keeps 19 = .ok (.if_icmp .ge 24, 3) := by decide +kernel
theorem dX7_keeps_22 : decode cX7_keeps 22 = .ok (.aload_n 0, 1) := by decide +kernel
theorem dX7_keeps_23 : decode cX7_keeps 23 = .ok (.getfield 19, 3) := by decide +kernel
theorem dX7_keeps_26 : decode cX7_keeps 26 = .ok (.iload_n 1, 1) := by decide +kernel
theorem dX7_keeps_27 : decode cX7_keeps 27 = .ok (.aload_n 0, 1) := by decide +kernel
theorem dX7_keeps_28 : decode cX7_keeps 28 = .ok (.getfield 19, 3) := by decide +kernel
theorem dX7_keeps_31 : decode cX7_keeps 31 = .ok (.iload_n 1, 1) := by decide +kernel
theorem dX7_keeps_32 : decode cX7_keeps 32 = .ok (.bipush 123, 2) := by decide +kernel
theorem dX7_keeps_34 : decode cX7_keeps 34 = .ok (.iadd, 1) := by decide +kernel
theorem dX7_keeps_35 : decode cX7_keeps 35 = .ok (.iaload, 1) := by decide +kernel
theorem dX7_keeps_36 : decode cX7_keeps 36 = .ok (.iastore, 1) := by decide +kernel
theorem dX7_keeps_37 : decode cX7_keeps 37 = .ok (.iinc 1 1, 3) := by decide +kernel
theorem dX7_keeps_40 : decode cX7_keeps 40 = .ok (.goto (-25), 3) := by decide +kernel
theorem dX7_keeps_43 : decode cX7_keeps 43 = .ok (.aload_n 0, 1) := by decide +kernel
theorem dX7_keeps_44 : decode cX7_keeps 44 = .ok (.getfield 19, 3) := by decide +kernel
theorem dX7_keeps_47 : decode cX7_keeps 47 = .ok (.bipush 123, 2) := by decide +kernel
theorem dX7_keeps_49 : decode cX7_keeps 49 = .ok (.dup2, 1) := by decide +kernel
theorem dX7_keeps_50 : decode cX7_keeps 50 = .ok (.iaload, 1) := by decide +kernel
theorem dX7_keeps_51 : decode cX7_keeps 51 = .ok (.iconst 1, 1) := by decide +kernel
theorem dX7_keeps_52 : decode cX7_keeps 52 = .ok (.isub, 1) := by decide +kernel
theorem dX7_keeps_53 : decode cX7_keeps 53 = .ok (.iastore, 1) := by decide +kernel
theorem dX7_keeps_54 : decode cX7_keeps 54 = .ok (.bipush 124, 2) := by decide +kernel
theorem dX7_keeps_56 : decode cX7_keeps 56 = .ok (.bipush 123, 2) := by decide +kernel
theorem dX7_keeps_58 : decode cX7_keeps 58 = .ok (.aload_n 0, 1) := by decide +kernel
theorem dX7_keeps_59 : decode cX7_keeps 59 = .ok (.getfield 19, 3) := by decide +kernel
theorem dX7_keeps_62 : decode cX7_keeps 62 = .ok (.bipush 123, 2) := by decide +kernel
theorem dX7_keeps_64 : decode cX7_keeps 64 = .ok (.iaload, 1) := by decide +kernel
theorem dX7_keeps_65 : decode cX7_keeps 65 = .ok (.imul, 1) := by decide +kernel
theorem dX7_keeps_66 : decode cX7_keeps 66 = .ok (.iadd, 1) := by decide +kernel
theorem dX7_keeps_67 : decode cX7_keeps 67 = .ok (.istore_n 1, 1) := by decide +kernel
theorem dX7_keeps_68 : decode cX7_keeps 68 = .ok (.iconst 0, 1) := by decide +kernel
theorem dX7_keeps_69 : decode cX7_keeps 69 = .ok (.istore_n 2, 1) := by decide +kernel
theorem dX7_keeps_70 : decode cX7_keeps 70 = .ok (.iload_n 2, 1) := by decide +kernel
theorem dX7_keeps_71 : decode cX7_keeps 71 = .ok (.bipush 123, 2) := by decide +kernel
theorem dX7_keeps_73 : decode cX7_keeps 73 = .ok (.if_icmp .ge 23, 3) := by decide +kernel
theorem dX7_keeps_76 : decode cX7_keeps 76 = .ok (.aload_n 0, 1) := by decide +kernel
theorem dX7_keeps_77 : decode cX7_keeps 77 = .ok (.getfield 19, 3) := by decide +kernel
theorem dX7_keeps_80 : decode cX7_keeps 80 = .ok (.iload_n 1, 1) := by decide +kernel
theorem dX7_keeps_81 : decode cX7_keeps 81 = .ok (.iload_n 2, 1) := by decide +kernel
theorem dX7_keeps_82 : decode cX7_keeps 82 = .ok (.iadd, 1) := by decide +kernel
theorem dX7_keeps_83 : decode cX7_keeps 83 = .ok (.aload_n 0, 1) := by decide +kernel
theorem dX7_keeps_84 : decode cX7_keeps 84 = .ok (.getfield 19, 3) := by decide +kernel
theorem dX7_keeps_87 : decode cX7_keeps 87 = .ok (.iload_n 2, 1) := by decide +kernel
theorem dX7_keeps_88 : decode cX7_keeps 88 = .ok (.iaload, 1) := by decide +kernel
theorem dX7_keeps_89 : decode cX7_keeps 89 = .ok (.iastore, 1) := by decide +kernel
theorem dX7_keeps_90 : decode cX7_keeps 90 = .ok (.iinc 2 1, 3) := by decide +kernel
theorem dX7_keeps_93 : decode cX7_keeps 93 = .ok (.goto (-23), 3) := by decide +kernel
theorem dX7_keeps_96 : decode cX7_keeps 96 = .ok (.aload_n 0, 1) := by decide +kernel
theorem dX7_keeps_97 : decode cX7_keeps 97 = .ok (.getfield 19, 3) := by decide +kernel
theorem dX7_keeps_100 : decode cX7_keeps 100 = .ok (.bipush 123, 2) := by decide +kernel
theorem dX7_keeps_102 : decode cX7_keeps 102 = .ok (.dup2, 1) := by decide +kernel
theorem dX7_keeps_103 : decode cX7_keeps 103 = .ok (.iaload, 1) := by decide +kernel
theorem dX7_keeps_104 : decode cX7_keeps 104 = .ok (.iconst 1, 1) := by decide +kernel
theorem dX7_keeps_105 : decode cX7_keeps 105 = .ok (.iadd, 1) := by decide +kernel
theorem dX7_keeps_106 : decode cX7_keeps 106 = .ok (.iastore, 1) := by decide +kernel
theorem dX7_keeps_107 : decode cX7_keeps 107 = .ok (.return_, 1) := by decide +kernel
theorem dX7_crosses_0 : decode cX7_crosses 0 = .ok (.aload_n 0, 1) := by decide +kernel
theorem dX7_crosses_1 : decode cX7_crosses 1 = .ok (.iload_n 1, 1) := by decide +kernel
theorem dX7_crosses_2 : decode cX7_crosses 2 = .ok (.invokevirtual 91, 3) := by decide +kernel
theorem dX7_crosses_5 : decode cX7_crosses 5 = .ok (.ifCond .ne 5, 3) := by decide +kernel
theorem dX7_crosses_8 : decode cX7_crosses 8 = .ok (.iconst (-1), 1) := by decide +kernel
theorem dX7_crosses_9 : decode cX7_crosses 9 = .ok (.ireturn, 1) := by decide +kernel
theorem dX7_crosses_10 : decode cX7_crosses 10 = .ok (.aload_n 0, 1) := by decide +kernel
theorem dX7_crosses_11 : decode cX7_crosses 11 = .ok (.iload_n 1, 1) := by decide +kernel
theorem dX7_crosses_12 : decode cX7_crosses 12 = .ok (.invokevirtual 119, 3) := by decide +kernel
theorem dX7_crosses_15 : decode cX7_crosses 15 = .ok (.ifCond .ne 6, 3) := by decide +kernel
theorem dX7_crosses_18 : decode cX7_crosses 18 = .ok (.bipush (-2), 2) := by decide +kernel
theorem dX7_crosses_20 : decode cX7_crosses 20 = .ok (.ireturn, 1) := by decide +kernel
theorem dX7_crosses_21 : decode cX7_crosses 21 = .ok (.aload_n 0, 1) := by decide +kernel
theorem dX7_crosses_22 : decode cX7_crosses 22 = .ok (.invokevirtual 122, 3) := by decide +kernel
theorem dX7_crosses_25 : decode cX7_crosses 25 = .ok (.aload_n 0, 1) := by decide +kernel
theorem dX7_crosses_26 : decode cX7_crosses 26 = .ok (.iload_n 1, 1) := by decide +kernel
theorem dX7_crosses_27 : decode cX7_crosses 27 = .ok (.invokevirtual 125, 3) := by decide +kernel
theorem dX7_crosses_30 : decode cX7_crosses 30 = .ok (.aload_n 0, 1) := by decide +kernel
theorem dX7_crosses_31 : decode cX7_crosses 31 = .ok (.getfield 19, 3) := by decide +kernel
theorem dX7_crosses_34 : decode cX7_crosses 34 = .ok (.iconst 0, 1) := by decide +kernel
theorem dX7_crosses_35 : decode cX7_crosses 35 = .ok (.iaload, 1) := by decide +kernel
theorem dX7_crosses_36 : decode cX7_crosses 36 = .ok (.ireturn, 1) := by decide +kernel
theorem dX7_turnsBack_0 : decode cX7_turnsBack 0 = .ok (.aload_n 0, 1) := by decide +kernel
theorem dX7_turnsBack_1 : decode cX7_turnsBack 1 = .ok (.getfield 19, 3) := by decide +kernel
theorem dX7_turnsBack_4 : decode cX7_turnsBack 4 = .ok (.iconst 0, 1) := by decide +kernel
theorem dX7_turnsBack_5 : decode cX7_turnsBack 5 = .ok (.iaload, 1) := by decide +kernel
theorem dX7_turnsBack_6 : decode cX7_turnsBack 6 = .ok (.ifCond .ne 6, 3) := by decide +kernel
theorem dX7_turnsBack_9 : decode cX7_turnsBack 9 = .ok (.bipush (-2), 2) := by decide +kernel
theorem dX7_turnsBack_11 : decode cX7_turnsBack 11 = .ok (.ireturn, 1) := by decide +kernel
theorem dX7_turnsBack_12 : decode cX7_turnsBack 12 = .ok (.aload_n 0, 1) := by decide +kernel
theorem dX7_turnsBack_13 : decode cX7_turnsBack 13 = .ok (.invokevirtual 122, 3) := by decide +kernel
theorem dX7_turnsBack_16 : decode cX7_turnsBack 16 = .ok (.aload_n 0, 1) := by decide +kernel
theorem dX7_turnsBack_17 : decode cX7_turnsBack 17 = .ok (.getfield 19, 3) := by decide +kernel
theorem dX7_turnsBack_20 : decode cX7_turnsBack 20 = .ok (.iconst 3, 1) := by decide +kernel
theorem dX7_turnsBack_21 : decode cX7_turnsBack 21 = .ok (.aload_n 0, 1) := by decide +kernel
theorem dX7_turnsBack_22 : decode cX7_turnsBack 22 = .ok (.getfield 19, 3) := by decide +kernel
theorem dX7_turnsBack_25 : decode cX7_turnsBack 25 = .ok (.iconst 0, 1) := by decide +kernel
theorem dX7_turnsBack_26 : decode cX7_turnsBack 26 = .ok (.iaload, 1) := by decide +kernel
theorem dX7_turnsBack_27 : decode cX7_turnsBack 27 = .ok (.iadd, 1) := by decide +kernel
theorem dX7_turnsBack_28 : decode cX7_turnsBack 28 = .ok (.iconst 1, 1) := by decide +kernel
theorem dX7_turnsBack_29 : decode cX7_turnsBack 29 = .ok (.isub, 1) := by decide +kernel
theorem dX7_turnsBack_30 : decode cX7_turnsBack 30 = .ok (.iaload, 1) := by decide +kernel
theorem dX7_turnsBack_31 : decode cX7_turnsBack 31 = .ok (.istore_n 1, 1) := by decide +kernel
theorem dX7_turnsBack_32 : decode cX7_turnsBack 32 = .ok (.iconst 0, 1) := by decide +kernel
theorem dX7_turnsBack_33 : decode cX7_turnsBack 33 = .ok (.istore_n 2, 1) := by decide +kernel
theorem dX7_turnsBack_34 : decode cX7_turnsBack 34 = .ok (.aload_n 0, 1) := by decide +kernel
theorem dX7_turnsBack_35 : decode cX7_turnsBack 35 = .ok (.getfield 19, 3) := by decide +kernel
theorem dX7_turnsBack_38 : decode cX7_turnsBack 38 = .ok (.iconst 0, 1) := by decide +kernel
theorem dX7_turnsBack_39 : decode cX7_turnsBack 39 = .ok (.iaload, 1) := by decide +kernel
theorem dX7_turnsBack_40 : decode cX7_turnsBack 40 = .ok (.ifCond .le 38, 3) := by decide +kernel
theorem dX7_turnsBack_43 : decode cX7_turnsBack 43 = .ok (.aload_n 0, 1) := by decide +kernel
theorem dX7_turnsBack_44 : decode cX7_turnsBack 44 = .ok (.getfield 19, 3) := by decide +kernel
theorem dX7_turnsBack_47 : decode cX7_turnsBack 47 = .ok (.iconst 3, 1) := by decide +kernel
theorem dX7_turnsBack_48 : decode cX7_turnsBack 48 = .ok (.aload_n 0, 1) := by decide +kernel
theorem dX7_turnsBack_49 : decode cX7_turnsBack 49 = .ok (.getfield 19, 3) := by decide +kernel
theorem dX7_turnsBack_52 : decode cX7_turnsBack 52 = .ok (.iconst 0, 1) := by decide +kernel
theorem dX7_turnsBack_53 : decode cX7_turnsBack 53 = .ok (.iaload, 1) := by decide +kernel
theorem dX7_turnsBack_54 : decode cX7_turnsBack 54 = .ok (.iadd, 1) := by decide +kernel
theorem dX7_turnsBack_55 : decode cX7_turnsBack 55 = .ok (.iconst 1, 1) := by decide +kernel
theorem dX7_turnsBack_56 : decode cX7_turnsBack 56 = .ok (.isub, 1) := by decide +kernel
theorem dX7_turnsBack_57 : decode cX7_turnsBack 57 = .ok (.iaload, 1) := by decide +kernel
theorem dX7_turnsBack_58 : decode cX7_turnsBack 58 = .ok (.iload_n 1, 1) := by decide +kernel
theorem dX7_turnsBack_59 : decode cX7_turnsBack 59 = .ok (.if_icmp .ne 19, 3) := by decide +kernel
theorem dX7_turnsBack_62 : decode cX7_turnsBack 62 = .ok (.aload_n 0, 1) := by decide +kernel
theorem dX7_turnsBack_63 : decode cX7_turnsBack 63 = .ok (.getfield 19, 3) := by decide +kernel
theorem dX7_turnsBack_66 : decode cX7_turnsBack 66 = .ok (.iconst 0, 1) := by decide +kernel
theorem dX7_turnsBack_67 : decode cX7_turnsBack 67 = .ok (.dup2, 1) := by decide +kernel
theorem dX7_turnsBack_68 : decode cX7_turnsBack 68 = .ok (.iaload, 1) := by decide +kernel
theorem dX7_turnsBack_69 : decode cX7_turnsBack 69 = .ok (.iconst 1, 1) := by decide +kernel
theorem dX7_turnsBack_70 : decode cX7_turnsBack 70 = .ok (.isub, 1) := by decide +kernel
theorem dX7_turnsBack_71 : decode cX7_turnsBack 71 = .ok (.iastore, 1) := by decide +kernel
theorem dX7_turnsBack_72 : decode cX7_turnsBack 72 = .ok (.iinc 2 1, 3) := by decide +kernel
theorem dX7_turnsBack_75 : decode cX7_turnsBack 75 = .ok (.goto (-41), 3) := by decide +kernel
theorem dX7_turnsBack_78 : decode cX7_turnsBack 78 = .ok (.iload_n 2, 1) := by decide +kernel
theorem dX7_turnsBack_79 : decode cX7_turnsBack 79 = .ok (.ireturn, 1) := by decide +kernel
theorem dX7_drops_0 : decode cX7_drops 0 = .ok (.aload_n 0, 1) := by decide +kernel
theorem dX7_drops_1 : decode cX7_drops 1 = .ok (.iload_n 1, 1) := by decide +kernel
theorem dX7_drops_2 : decode cX7_drops 2 = .ok (.invokevirtual 97, 3) := by decide +kernel
theorem dX7_drops_5 : decode cX7_drops 5 = .ok (.ifCond .ne 5, 3) := by decide +kernel
theorem dX7_drops_8 : decode cX7_drops 8 = .ok (.iconst (-1), 1) := by decide +kernel
theorem dX7_drops_9 : decode cX7_drops 9 = .ok (.ireturn, 1) := by decide +kernel
theorem dX7_drops_10 : decode cX7_drops 10 = .ok (.aload_n 0, 1) := by decide +kernel
theorem dX7_drops_11 : decode cX7_drops 11 = .ok (.invokevirtual 122, 3) := by decide +kernel
theorem dX7_drops_14 : decode cX7_drops 14 = .ok (.aload_n 0, 1) := by decide +kernel
theorem dX7_drops_15 : decode cX7_drops 15 = .ok (.iload_n 1, 1) := by decide +kernel
theorem dX7_drops_16 : decode cX7_drops 16 = .ok (.invokevirtual 111, 3) := by decide +kernel
theorem dX7_drops_19 : decode cX7_drops 19 = .ok (.aload_n 0, 1) := by decide +kernel
theorem dX7_drops_20 : decode cX7_drops 20 = .ok (.getfield 19, 3) := by decide +kernel
theorem dX7_drops_23 : decode cX7_drops 23 = .ok (.iconst 0, 1) := by decide +kernel
theorem dX7_drops_24 : decode cX7_drops 24 = .ok (.iaload, 1) := by decide +kernel
theorem dX7_drops_25 : decode cX7_drops 25 = .ok (.ireturn, 1) := by decide +kernel
theorem dX7_draws_0 : decode cX7_draws 0 = .ok (.aload_n 0, 1) := by decide +kernel
theorem dX7_draws_1 : decode cX7_draws 1 = .ok (.iload_n 1, 1) := by decide +kernel
theorem dX7_draws_2 : decode cX7_draws 2 = .ok (.invokevirtual 97, 3) := by decide +kernel
theorem dX7_draws_5 : decode cX7_draws 5 = .ok (.ifCond .ne 5, 3) := by decide +kernel
theorem dX7_draws_8 : decode cX7_draws 8 = .ok (.iconst (-1), 1) := by decide +kernel
theorem dX7_draws_9 : decode cX7_draws 9 = .ok (.ireturn, 1) := by decide +kernel
theorem dX7_draws_10 : decode cX7_draws 10 = .ok (.aload_n 0, 1) := by decide +kernel
theorem dX7_draws_11 : decode cX7_draws 11 = .ok (.getfield 19, 3) := by decide +kernel
theorem dX7_draws_14 : decode cX7_draws 14 = .ok (.bipush 43, 2) := by decide +kernel
theorem dX7_draws_16 : decode cX7_draws 16 = .ok (.iload_n 1, 1) := by decide +kernel
theorem dX7_draws_17 : decode cX7_draws 17 = .ok (.iadd, 1) := by decide +kernel
theorem dX7_draws_18 : decode cX7_draws 18 = .ok (.iaload, 1) := by decide +kernel
theorem dX7_draws_19 : decode cX7_draws 19 = .ok (.ifCond .ne 6, 3) := by decide +kernel
theorem dX7_draws_22 : decode cX7_draws 22 = .ok (.bipush (-2), 2) := by decide +kernel
theorem dX7_draws_24 : decode cX7_draws 24 = .ok (.ireturn, 1) := by decide +kernel
theorem dX7_draws_25 : decode cX7_draws 25 = .ok (.aload_n 0, 1) := by decide +kernel
theorem dX7_draws_26 : decode cX7_draws 26 = .ok (.invokevirtual 122, 3) := by decide +kernel
theorem dX7_draws_29 : decode cX7_draws 29 = .ok (.aload_n 0, 1) := by decide +kernel
theorem dX7_draws_30 : decode cX7_draws 30 = .ok (.getfield 19, 3) := by decide +kernel
theorem dX7_draws_33 : decode cX7_draws 33 = .ok (.bipush 43, 2) := by decide +kernel
theorem dX7_draws_35 : decode cX7_draws 35 = .ok (.iload_n 1, 1) := by decide +kernel
theorem dX7_draws_36 : decode cX7_draws 36 = .ok (.iadd, 1) := by decide +kernel
theorem dX7_draws_37 : decode cX7_draws 37 = .ok (.dup2, 1) := by decide +kernel
theorem dX7_draws_38 : decode cX7_draws 38 = .ok (.iaload, 1) := by decide +kernel
theorem dX7_draws_39 : decode cX7_draws 39 = .ok (.iconst 1, 1) := by decide +kernel
theorem dX7_draws_40 : decode cX7_draws 40 = .ok (.isub, 1) := by decide +kernel
theorem dX7_draws_41 : decode cX7_draws 41 = .ok (.iastore, 1) := by decide +kernel
theorem dX7_draws_42 : decode cX7_draws 42 = .ok (.aload_n 0, 1) := by decide +kernel
theorem dX7_draws_43 : decode cX7_draws 43 = .ok (.iload_n 1, 1) := by decide +kernel
theorem dX7_draws_44 : decode cX7_draws 44 = .ok (.invokevirtual 100, 3) := by decide +kernel
theorem dX7_draws_47 : decode cX7_draws 47 = .ok (.ireturn, 1) := by decide +kernel
theorem dX7_rains_0 : decode cX7_rains 0 = .ok (.iload_n 1, 1) := by decide +kernel
theorem dX7_rains_1 : decode cX7_rains 1 = .ok (.iconst 0, 1) := by decide +kernel
theorem dX7_rains_2 : decode cX7_rains 2 = .ok (.iconst 1, 1) := by decide +kernel
theorem dX7_rains_3 : decode cX7_rains 3 = .ok (.invokestatic 42, 3) := by decide +kernel
theorem dX7_rains_6 : decode cX7_rains 6 = .ok (.ifCond .ne 5, 3) := by decide +kernel
theorem dX7_rains_9 : decode cX7_rains 9 = .ok (.iconst (-1), 1) := by decide +kernel
theorem dX7_rains_10 : decode cX7_rains 10 = .ok (.ireturn, 1) := by decide +kernel
theorem dX7_rains_11 : decode cX7_rains 11 = .ok (.aload_n 0, 1) := by decide +kernel
theorem dX7_rains_12 : decode cX7_rains 12 = .ok (.getfield 19, 3) := by decide +kernel
theorem dX7_rains_15 : decode cX7_rains 15 = .ok (.iconst 1, 1) := by decide +kernel
theorem dX7_rains_16 : decode cX7_rains 16 = .ok (.iaload, 1) := by decide +kernel
theorem dX7_rains_17 : decode cX7_rains 17 = .ok (.iload_n 1, 1) := by decide +kernel
theorem dX7_rains_18 : decode cX7_rains 18 = .ok (.if_icmp .ne 6, 3) := by decide +kernel
theorem dX7_rains_21 : decode cX7_rains 21 = .ok (.bipush (-2), 2) := by decide +kernel
theorem dX7_rains_23 : decode cX7_rains 23 = .ok (.ireturn, 1) := by decide +kernel
theorem dX7_rains_24 : decode cX7_rains 24 = .ok (.aload_n 0, 1) := by decide +kernel
theorem dX7_rains_25 : decode cX7_rains 25 = .ok (.invokevirtual 122, 3) := by decide +kernel
theorem dX7_rains_28 : decode cX7_rains 28 = .ok (.aload_n 0, 1) := by decide +kernel
theorem dX7_rains_29 : decode cX7_rains 29 = .ok (.getfield 19, 3) := by decide +kernel
theorem dX7_rains_32 : decode cX7_rains 32 = .ok (.iconst 1, 1) := by decide +kernel
theorem dX7_rains_33 : decode cX7_rains 33 = .ok (.iload_n 1, 1) := by decide +kernel
theorem dX7_rains_34 : decode cX7_rains 34 = .ok (.iastore, 1) := by decide +kernel
theorem dX7_rains_35 : decode cX7_rains 35 = .ok (.aload_n 0, 1) := by decide +kernel
theorem dX7_rains_36 : decode cX7_rains 36 = .ok (.getfield 19, 3) := by decide +kernel
theorem dX7_rains_39 : decode cX7_rains 39 = .ok (.iconst 0, 1) := by decide +kernel
theorem dX7_rains_40 : decode cX7_rains 40 = .ok (.iaload, 1) := by decide +kernel
theorem dX7_rains_41 : decode cX7_rains 41 = .ok (.iload_n 1, 1) := by decide +kernel
theorem dX7_rains_42 : decode cX7_rains 42 = .ok (.invokestatic 103, 3) := by decide +kernel
theorem dX7_rains_45 : decode cX7_rains 45 = .ok (.ireturn, 1) := by decide +kernel
theorem dX7_year_0 : decode cX7_year 0 = .ok (.aload_n 0, 1) := by decide +kernel
theorem dX7_year_1 : decode cX7_year 1 = .ok (.getfield 19, 3) := by decide +kernel
theorem dX7_year_4 : decode cX7_year 4 = .ok (.iconst 2, 1) := by decide +kernel
theorem dX7_year_5 : decode cX7_year 5 = .ok (.iaload, 1) := by decide +kernel
theorem dX7_year_6 : decode cX7_year 6 = .ok (.sipush 200, 3) := by decide +kernel
theorem dX7_year_9 : decode cX7_year 9 = .ok (.if_icmp .ne 6, 3) := by decide +kernel
theorem dX7_year_12 : decode cX7_year 12 = .ok (.bipush (-2), 2) := by decide +kernel
theorem dX7_year_14 : decode cX7_year 14 = .ok (.ireturn, 1) := by decide +kernel
theorem dX7_year_15 : decode cX7_year 15 = .ok (.aload_n 0, 1) := by decide +kernel
theorem dX7_year_16 : decode cX7_year 16 = .ok (.invokevirtual 122, 3) := by decide +kernel
theorem dX7_year_19 : decode cX7_year 19 = .ok (.aload_n 0, 1) := by decide +kernel
theorem dX7_year_20 : decode cX7_year 20 = .ok (.invokevirtual 128, 3) := by decide +kernel
theorem dX7_year_23 : decode cX7_year 23 = .ok (.aload_n 0, 1) := by decide +kernel
theorem dX7_year_24 : decode cX7_year 24 = .ok (.getfield 19, 3) := by decide +kernel
theorem dX7_year_27 : decode cX7_year 27 = .ok (.iconst 2, 1) := by decide +kernel
theorem dX7_year_28 : decode cX7_year 28 = .ok (.dup2, 1) := by decide +kernel
theorem dX7_year_29 : decode cX7_year 29 = .ok (.iaload, 1) := by decide +kernel
theorem dX7_year_30 : decode cX7_year 30 = .ok (.iconst 1, 1) := by decide +kernel
theorem dX7_year_31 : decode cX7_year 31 = .ok (.iadd, 1) := by decide +kernel
theorem dX7_year_32 : decode cX7_year 32 = .ok (.iastore, 1) := by decide +kernel
theorem dX7_year_33 : decode cX7_year 33 = .ok (.aload_n 0, 1) := by decide +kernel
theorem dX7_year_34 : decode cX7_year 34 = .ok (.invokevirtual 107, 3) := by decide +kernel
theorem dX7_year_37 : decode cX7_year 37 = .ok (.ireturn, 1) := by decide +kernel
theorem dX7_undo_0 : decode cX7_undo 0 = .ok (.aload_n 0, 1) := by decide +kernel
theorem dX7_undo_1 : decode cX7_undo 1 = .ok (.getfield 19, 3) := by decide +kernel
theorem dX7_undo_4 : decode cX7_undo 4 = .ok (.bipush 123, 2) := by decide +kernel
theorem dX7_undo_6 : decode cX7_undo 6 = .ok (.iaload, 1) := by decide +kernel
theorem dX7_undo_7 : decode cX7_undo 7 = .ok (.ifCond .ne 6, 3) := by decide +kernel
theorem dX7_undo_10 : decode cX7_undo 10 = .ok (.bipush (-2), 2) := by decide +kernel
theorem dX7_undo_12 : decode cX7_undo 12 = .ok (.ireturn, 1) := by decide +kernel
theorem dX7_undo_13 : decode cX7_undo 13 = .ok (.aload_n 0, 1) := by decide +kernel
theorem dX7_undo_14 : decode cX7_undo 14 = .ok (.getfield 19, 3) := by decide +kernel
theorem dX7_undo_17 : decode cX7_undo 17 = .ok (.bipush 123, 2) := by decide +kernel
theorem dX7_undo_19 : decode cX7_undo 19 = .ok (.dup2, 1) := by decide +kernel
theorem dX7_undo_20 : decode cX7_undo 20 = .ok (.iaload, 1) := by decide +kernel
theorem dX7_undo_21 : decode cX7_undo 21 = .ok (.iconst 1, 1) := by decide +kernel
theorem dX7_undo_22 : decode cX7_undo 22 = .ok (.isub, 1) := by decide +kernel
theorem dX7_undo_23 : decode cX7_undo 23 = .ok (.iastore, 1) := by decide +kernel
theorem dX7_undo_24 : decode cX7_undo 24 = .ok (.bipush 124, 2) := by decide +kernel
theorem dX7_undo_26 : decode cX7_undo 26 = .ok (.bipush 123, 2) := by decide +kernel
theorem dX7_undo_28 : decode cX7_undo 28 = .ok (.aload_n 0, 1) := by decide +kernel
theorem dX7_undo_29 : decode cX7_undo 29 = .ok (.getfield 19, 3) := by decide +kernel
theorem dX7_undo_32 : decode cX7_undo 32 = .ok (.bipush 123, 2) := by decide +kernel
theorem dX7_undo_34 : decode cX7_undo 34 = .ok (.iaload, 1) := by decide +kernel
theorem dX7_undo_35 : decode cX7_undo 35 = .ok (.imul, 1) := by decide +kernel
theorem dX7_undo_36 : decode cX7_undo 36 = .ok (.iadd, 1) := by decide +kernel
theorem dX7_undo_37 : decode cX7_undo 37 = .ok (.istore_n 1, 1) := by decide +kernel
theorem dX7_undo_38 : decode cX7_undo 38 = .ok (.iconst 0, 1) := by decide +kernel
theorem dX7_undo_39 : decode cX7_undo 39 = .ok (.istore_n 2, 1) := by decide +kernel
theorem dX7_undo_40 : decode cX7_undo 40 = .ok (.iload_n 2, 1) := by decide +kernel
theorem dX7_undo_41 : decode cX7_undo 41 = .ok (.bipush 123, 2) := by decide +kernel
theorem dX7_undo_43 : decode cX7_undo 43 = .ok (.if_icmp .ge 23, 3) := by decide +kernel
theorem dX7_undo_46 : decode cX7_undo 46 = .ok (.aload_n 0, 1) := by decide +kernel
theorem dX7_undo_47 : decode cX7_undo 47 = .ok (.getfield 19, 3) := by decide +kernel
theorem dX7_undo_50 : decode cX7_undo 50 = .ok (.iload_n 2, 1) := by decide +kernel
theorem dX7_undo_51 : decode cX7_undo 51 = .ok (.aload_n 0, 1) := by decide +kernel
theorem dX7_undo_52 : decode cX7_undo 52 = .ok (.getfield 19, 3) := by decide +kernel
theorem dX7_undo_55 : decode cX7_undo 55 = .ok (.iload_n 1, 1) := by decide +kernel
theorem dX7_undo_56 : decode cX7_undo 56 = .ok (.iload_n 2, 1) := by decide +kernel
theorem dX7_undo_57 : decode cX7_undo 57 = .ok (.iadd, 1) := by decide +kernel
theorem dX7_undo_58 : decode cX7_undo 58 = .ok (.iaload, 1) := by decide +kernel
theorem dX7_undo_59 : decode cX7_undo 59 = .ok (.iastore, 1) := by decide +kernel
theorem dX7_undo_60 : decode cX7_undo 60 = .ok (.iinc 2 1, 3) := by decide +kernel
theorem dX7_undo_63 : decode cX7_undo 63 = .ok (.goto (-23), 3) := by decide +kernel
theorem dX7_undo_66 : decode cX7_undo 66 = .ok (.aload_n 0, 1) := by decide +kernel
theorem dX7_undo_67 : decode cX7_undo 67 = .ok (.getfield 19, 3) := by decide +kernel
theorem dX7_undo_70 : decode cX7_undo 70 = .ok (.bipush 123, 2) := by decide +kernel
theorem dX7_undo_72 : decode cX7_undo 72 = .ok (.iaload, 1) := by decide +kernel
theorem dX7_undo_73 : decode cX7_undo 73 = .ok (.ireturn, 1) := by decide +kernel
theorem dX7_thin_0 : decode cX7_thin 0 = .ok (.bipush (-9), 2) := by decide +kernel
theorem dX7_thin_2 : decode cX7_thin 2 = .ok (.istore_n 1, 1) := by decide +kernel
theorem dX7_thin_3 : decode cX7_thin 3 = .ok (.aload_n 0, 1) := by decide +kernel
theorem dX7_thin_4 : decode cX7_thin 4 = .ok (.getfield 19, 3) := by decide +kernel
theorem dX7_thin_7 : decode cX7_thin 7 = .ok (.iconst 0, 1) := by decide +kernel
theorem dX7_thin_8 : decode cX7_thin 8 = .ok (.iaload, 1) := by decide +kernel
theorem dX7_thin_9 : decode cX7_thin 9 = .ok (.iconst 1, 1) := by decide +kernel
theorem dX7_thin_10 : decode cX7_thin 10 = .ok (.isub, 1) := by decide +kernel
theorem dX7_thin_11 : decode cX7_thin 11 = .ok (.istore_n 2, 1) := by decide +kernel
theorem dX7_thin_12 : decode cX7_thin 12 = .ok (.iload_n 2, 1) := by decide +kernel
theorem dX7_thin_13 : decode cX7_thin 13 = .ok (.ifCond .lt 34, 3) := by decide +kernel
theorem dX7_thin_16 : decode cX7_thin 16 = .ok (.iload_n 1, 1) := by decide +kernel
theorem dX7_thin_17 : decode cX7_thin 17 = .ok (.bipush (-9), 2) := by decide +kernel
theorem dX7_thin_19 : decode cX7_thin 19 = .ok (.if_icmp .eq 16, 3) := by decide +kernel
theorem dX7_thin_22 : decode cX7_thin 22 = .ok (.aload_n 0, 1) := by decide +kernel
theorem dX7_thin_23 : decode cX7_thin 23 = .ok (.iload_n 2, 1) := by decide +kernel
theorem dX7_thin_24 : decode cX7_thin 24 = .ok (.invokevirtual 100, 3) := by decide +kernel
theorem dX7_thin_27 : decode cX7_thin 27 = .ok (.aload_n 0, 1) := by decide +kernel
theorem dX7_thin_28 : decode cX7_thin 28 = .ok (.iload_n 1, 1) := by decide +kernel
theorem dX7_thin_29 : decode cX7_thin 29 = .ok (.invokevirtual 100, 3) := by decide +kernel
theorem dX7_thin_32 : decode cX7_thin 32 = .ok (.if_icmp .gt 7, 3) := by decide +kernel
theorem dX7_thin_35 : decode cX7_thin 35 = .ok (.iload_n 2, 1) := by decide +kernel
theorem dX7_thin_36 : decode cX7_thin 36 = .ok (.goto 4, 3) := by decide +kernel
theorem dX7_thin_39 : decode cX7_thin 39 = .ok (.iload_n 1, 1) := by decide +kernel
theorem dX7_thin_40 : decode cX7_thin 40 = .ok (.istore_n 1, 1) := by decide +kernel
theorem dX7_thin_41 : decode cX7_thin 41 = .ok (.iinc 2 (-1), 3) := by decide +kernel
theorem dX7_thin_44 : decode cX7_thin 44 = .ok (.goto (-32), 3) := by decide +kernel
theorem dX7_thin_47 : decode cX7_thin 47 = .ok (.iload_n 1, 1) := by decide +kernel
theorem dX7_thin_48 : decode cX7_thin 48 = .ok (.ireturn, 1) := by decide +kernel
theorem dX7_now_0 : decode cX7_now 0 = .ok (.iconst 0, 1) := by decide +kernel
theorem dX7_now_1 : decode cX7_now 1 = .ok (.istore_n 2, 1) := by decide +kernel
theorem dX7_now_2 : decode cX7_now 2 = .ok (.iconst 0, 1) := by decide +kernel
theorem dX7_now_3 : decode cX7_now 3 = .ok (.istore_n 3, 1) := by decide +kernel
theorem dX7_now_4 : decode cX7_now 4 = .ok (.iload_n 3, 1) := by decide +kernel
theorem dX7_now_5 : decode cX7_now 5 = .ok (.aload_n 0, 1) := by decide +kernel
theorem dX7_now_6 : decode cX7_now 6 = .ok (.getfield 13, 3) := by decide +kernel
theorem dX7_now_9 : decode cX7_now 9 = .ok (.iconst 0, 1) := by decide +kernel
theorem dX7_now_10 : decode cX7_now 10 = .ok (.iaload, 1) := by decide +kernel
theorem dX7_now_11 : decode cX7_now 11 = .ok (.if_icmp .ge 27, 3) := by decide +kernel
theorem dX7_now_14 : decode cX7_now 14 = .ok (.iload_n 2, 1) := by decide +kernel
theorem dX7_now_15 : decode cX7_now 15 = .ok (.aload_n 0, 1) := by decide +kernel
theorem dX7_now_16 : decode cX7_now 16 = .ok (.iload_n 3, 1) := by decide +kernel
theorem dX7_now_17 : decode cX7_now 17 = .ok (.invokevirtual 119, 3) := by decide +kernel
theorem dX7_now_20 : decode cX7_now 20 = .ok (.ifCond .eq 9, 3) := by decide +kernel
theorem dX7_now_23 : decode cX7_now 23 = .ok (.iconst 1, 1) := by decide +kernel
theorem dX7_now_24 : decode cX7_now 24 = .ok (.iload_n 3, 1) := by decide +kernel
theorem dX7_now_25 : decode cX7_now 25 = .ok (.ishl, 1) := by decide +kernel
theorem dX7_now_26 : decode cX7_now 26 = .ok (.goto 4, 3) := by decide +kernel
theorem dX7_now_29 : decode cX7_now 29 = .ok (.iconst 0, 1) := by decide +kernel
theorem dX7_now_30 : decode cX7_now 30 = .ok (.ior, 1) := by decide +kernel
theorem dX7_now_31 : decode cX7_now 31 = .ok (.istore_n 2, 1) := by decide +kernel
theorem dX7_now_32 : decode cX7_now 32 = .ok (.iinc 3 1, 3) := by decide +kernel
theorem dX7_now_35 : decode cX7_now 35 = .ok (.goto (-31), 3) := by decide +kernel
theorem dX7_now_38 : decode cX7_now 38 = .ok (.iconst 0, 1) := by decide +kernel
theorem dX7_now_39 : decode cX7_now 39 = .ok (.istore_n 3, 1) := by decide +kernel
theorem dX7_now_40 : decode cX7_now 40 = .ok (.iconst 0, 1) := by decide +kernel
theorem dX7_now_41 : decode cX7_now 41 = .ok (.istore 4, 2) := by decide +kernel
theorem dX7_now_43 : decode cX7_now 43 = .ok (.iload 4, 2) := by decide +kernel
theorem dX7_now_45 : decode cX7_now 45 = .ok (.aload_n 0, 1) := by decide +kernel
theorem dX7_now_46 : decode cX7_now 46 = .ok (.getfield 19, 3) := by decide +kernel
theorem dX7_now_49 : decode cX7_now 49 = .ok (.iconst 0, 1) := by decide +kernel
theorem dX7_now_50 : decode cX7_now 50 = .ok (.iaload, 1) := by decide +kernel
theorem dX7_now_51 : decode cX7_now 51 = .ok (.if_icmp .ge 26, 3) := by decide +kernel
theorem dX7_now_54 : decode cX7_now 54 = .ok (.iload_n 3, 1) := by decide +kernel
theorem dX7_now_55 : decode cX7_now 55 = .ok (.aload_n 0, 1) := by decide +kernel
theorem dX7_now_56 : decode cX7_now 56 = .ok (.iload 4, 2) := by decide +kernel
theorem dX7_now_58 : decode cX7_now 58 = .ok (.invokevirtual 100, 3) := by decide +kernel
theorem dX7_now_61 : decode cX7_now 61 = .ok (.ifCond .ne 7, 3) := by decide +kernel
theorem dX7_now_64 : decode cX7_now 64 = .ok (.iconst 1, 1) := by decide +kernel
theorem dX7_now_65 : decode cX7_now 65 = .ok (.goto 4, 3) := by decide +kernel
theorem dX7_now_68 : decode cX7_now 68 = .ok (.iconst 0, 1) := by decide +kernel
theorem dX7_now_69 : decode cX7_now 69 = .ok (.iadd, 1) := by decide +kernel
theorem dX7_now_70 : decode cX7_now 70 = .ok (.istore_n 3, 1) := by decide +kernel
theorem dX7_now_71 : decode cX7_now 71 = .ok (.iinc 4 1, 3) := by decide +kernel
theorem dX7_now_74 : decode cX7_now 74 = .ok (.goto (-31), 3) := by decide +kernel
theorem dX7_now_77 : decode cX7_now 77 = .ok (.iload_n 1, 1) := by decide +kernel
theorem dX7_now_78 : decode cX7_now 78 = .ok (.tableswitch 133 0 8 #[50, 57, 64, 80, 87, 92, 94, 99, 101], 50) := by decide +kernel
theorem dX7_now_128 : decode cX7_now 128 = .ok (.aload_n 0, 1) := by decide +kernel
theorem dX7_now_129 : decode cX7_now 129 = .ok (.getfield 19, 3) := by decide +kernel
theorem dX7_now_132 : decode cX7_now 132 = .ok (.iconst 2, 1) := by decide +kernel
theorem dX7_now_133 : decode cX7_now 133 = .ok (.iaload, 1) := by decide +kernel
theorem dX7_now_134 : decode cX7_now 134 = .ok (.ireturn, 1) := by decide +kernel
theorem dX7_now_135 : decode cX7_now 135 = .ok (.aload_n 0, 1) := by decide +kernel
theorem dX7_now_136 : decode cX7_now 136 = .ok (.getfield 19, 3) := by decide +kernel
theorem dX7_now_139 : decode cX7_now 139 = .ok (.iconst 0, 1) := by decide +kernel
theorem dX7_now_140 : decode cX7_now 140 = .ok (.iaload, 1) := by decide +kernel
theorem dX7_now_141 : decode cX7_now 141 = .ok (.ireturn, 1) := by decide +kernel
theorem dX7_now_142 : decode cX7_now 142 = .ok (.aload_n 0, 1) := by decide +kernel
theorem dX7_now_143 : decode cX7_now 143 = .ok (.getfield 19, 3) := by decide +kernel
theorem dX7_now_146 : decode cX7_now 146 = .ok (.iconst 0, 1) := by decide +kernel
theorem dX7_now_147 : decode cX7_now 147 = .ok (.iaload, 1) := by decide +kernel
theorem dX7_now_148 : decode cX7_now 148 = .ok (.aload_n 0, 1) := by decide +kernel
theorem dX7_now_149 : decode cX7_now 149 = .ok (.getfield 19, 3) := by decide +kernel
theorem dX7_now_152 : decode cX7_now 152 = .ok (.iconst 1, 1) := by decide +kernel
theorem dX7_now_153 : decode cX7_now 153 = .ok (.iaload, 1) := by decide +kernel
theorem dX7_now_154 : decode cX7_now 154 = .ok (.invokestatic 103, 3) := by decide +kernel
theorem dX7_now_157 : decode cX7_now 157 = .ok (.ireturn, 1) := by decide +kernel
theorem dX7_now_158 : decode cX7_now 158 = .ok (.aload_n 0, 1) := by decide +kernel
theorem dX7_now_159 : decode cX7_now 159 = .ok (.getfield 19, 3) := by decide +kernel
theorem dX7_now_162 : decode cX7_now 162 = .ok (.iconst 1, 1) := by decide +kernel
theorem dX7_now_163 : decode cX7_now 163 = .ok (.iaload, 1) := by decide +kernel
theorem dX7_now_164 : decode cX7_now 164 = .ok (.ireturn, 1) := by decide +kernel
theorem dX7_now_165 : decode cX7_now 165 = .ok (.aload_n 0, 1) := by decide +kernel
theorem dX7_now_166 : decode cX7_now 166 = .ok (.invokevirtual 107, 3) := by decide +kernel
theorem dX7_now_169 : decode cX7_now 169 = .ok (.ireturn, 1) := by decide +kernel
theorem dX7_now_170 : decode cX7_now 170 = .ok (.iload_n 2, 1) := by decide +kernel
theorem dX7_now_171 : decode cX7_now 171 = .ok (.ireturn, 1) := by decide +kernel
theorem dX7_now_172 : decode cX7_now 172 = .ok (.aload_n 0, 1) := by decide +kernel
theorem dX7_now_173 : decode cX7_now 173 = .ok (.invokevirtual 131, 3) := by decide +kernel
theorem dX7_now_176 : decode cX7_now 176 = .ok (.ireturn, 1) := by decide +kernel
theorem dX7_now_177 : decode cX7_now 177 = .ok (.iload_n 3, 1) := by decide +kernel
theorem dX7_now_178 : decode cX7_now 178 = .ok (.ireturn, 1) := by decide +kernel
theorem dX7_now_179 : decode cX7_now 179 = .ok (.aload_n 0, 1) := by decide +kernel
theorem dX7_now_180 : decode cX7_now 180 = .ok (.getfield 19, 3) := by decide +kernel
theorem dX7_now_183 : decode cX7_now 183 = .ok (.iconst 0, 1) := by decide +kernel
theorem dX7_now_184 : decode cX7_now 184 = .ok (.iaload, 1) := by decide +kernel
theorem dX7_now_185 : decode cX7_now 185 = .ok (.ifCond .ne 8, 3) := by decide +kernel
theorem dX7_now_188 : decode cX7_now 188 = .ok (.bipush (-9), 2) := by decide +kernel
theorem dX7_now_190 : decode cX7_now 190 = .ok (.goto 20, 3) := by decide +kernel
theorem dX7_now_193 : decode cX7_now 193 = .ok (.aload_n 0, 1) := by decide +kernel
theorem dX7_now_194 : decode cX7_now 194 = .ok (.getfield 19, 3) := by decide +kernel
theorem dX7_now_197 : decode cX7_now 197 = .ok (.iconst 3, 1) := by decide +kernel
theorem dX7_now_198 : decode cX7_now 198 = .ok (.aload_n 0, 1) := by decide +kernel
theorem dX7_now_199 : decode cX7_now 199 = .ok (.getfield 19, 3) := by decide +kernel
theorem dX7_now_202 : decode cX7_now 202 = .ok (.iconst 0, 1) := by decide +kernel
theorem dX7_now_203 : decode cX7_now 203 = .ok (.iaload, 1) := by decide +kernel
theorem dX7_now_204 : decode cX7_now 204 = .ok (.iconst 1, 1) := by decide +kernel
theorem dX7_now_205 : decode cX7_now 205 = .ok (.isub, 1) := by decide +kernel
theorem dX7_now_206 : decode cX7_now 206 = .ok (.iconst 2, 1) := by decide +kernel
theorem dX7_now_207 : decode cX7_now 207 = .ok (.idiv, 1) := by decide +kernel
theorem dX7_now_208 : decode cX7_now 208 = .ok (.iadd, 1) := by decide +kernel
theorem dX7_now_209 : decode cX7_now 209 = .ok (.iaload, 1) := by decide +kernel
theorem dX7_now_210 : decode cX7_now 210 = .ok (.ireturn, 1) := by decide +kernel
theorem dX7_now_211 : decode cX7_now 211 = .ok (.iconst (-1), 1) := by decide +kernel
theorem dX7_now_212 : decode cX7_now 212 = .ok (.ireturn, 1) := by decide +kernel
theorem dX7_remembers_0 : decode cX7_remembers 0 = .ok (.iconst 0, 1) := by decide +kernel
theorem dX7_remembers_1 : decode cX7_remembers 1 = .ok (.istore_n 1, 1) := by decide +kernel
theorem dX7_remembers_2 : decode cX7_remembers 2 = .ok (.iload_n 1, 1) := by decide +kernel
theorem dX7_remembers_3 : decode cX7_remembers 3 = .ok (.bipush 123, 2) := by decide +kernel
theorem dX7_remembers_5 : decode cX7_remembers 5 = .ok (.if_icmp .ge 21, 3) := by decide +kernel
theorem dX7_remembers_8 : decode cX7_remembers 8 = .ok (.aload_n 0, 1) := by decide +kernel
theorem dX7_remembers_9 : decode cX7_remembers 9 = .ok (.getfield 32, 3) := by decide +kernel
theorem dX7_remembers_12 : decode cX7_remembers 12 = .ok (.iload_n 1, 1) := by decide +kernel
theorem dX7_remembers_13 : decode cX7_remembers 13 = .ok (.aload_n 0, 1) := by decide +kernel
theorem dX7_remembers_14 : decode cX7_remembers 14 = .ok (.getfield 19, 3) := by decide +kernel
theorem dX7_remembers_17 : decode cX7_remembers 17 = .ok (.iload_n 1, 1) := by decide +kernel
theorem dX7_remembers_18 : decode cX7_remembers 18 = .ok (.iaload, 1) := by decide +kernel
theorem dX7_remembers_19 : decode cX7_remembers 19 = .ok (.iastore, 1) := by decide +kernel
theorem dX7_remembers_20 : decode cX7_remembers 20 = .ok (.iinc 1 1, 3) := by decide +kernel
theorem dX7_remembers_23 : decode cX7_remembers 23 = .ok (.goto (-21), 3) := by decide +kernel
theorem dX7_remembers_26 : decode cX7_remembers 26 = .ok (.return_, 1) := by decide +kernel
theorem dX7_lets_0 : decode cX7_lets 0 = .ok (.iconst 0, 1) := by decide +kernel
theorem dX7_lets_1 : decode cX7_lets 1 = .ok (.istore_n 1, 1) := by decide +kernel
theorem dX7_lets_2 : decode cX7_lets 2 = .ok (.iload_n 1, 1) := by decide +kernel
theorem dX7_lets_3 : decode cX7_lets 3 = .ok (.bipush 123, 2) := by decide +kernel
theorem dX7_lets_5 : decode cX7_lets 5 = .ok (.if_icmp .ge 21, 3) := by decide +kernel
theorem dX7_lets_8 : decode cX7_lets 8 = .ok (.aload_n 0, 1) := by decide +kernel
theorem dX7_lets_9 : decode cX7_lets 9 = .ok (.getfield 19, 3) := by decide +kernel
theorem dX7_lets_12 : decode cX7_lets 12 = .ok (.iload_n 1, 1) := by decide +kernel
theorem dX7_lets_13 : decode cX7_lets 13 = .ok (.aload_n 0, 1) := by decide +kernel
theorem dX7_lets_14 : decode cX7_lets 14 = .ok (.getfield 32, 3) := by decide +kernel
theorem dX7_lets_17 : decode cX7_lets 17 = .ok (.iload_n 1, 1) := by decide +kernel
theorem dX7_lets_18 : decode cX7_lets 18 = .ok (.iaload, 1) := by decide +kernel
theorem dX7_lets_19 : decode cX7_lets 19 = .ok (.iastore, 1) := by decide +kernel
theorem dX7_lets_20 : decode cX7_lets 20 = .ok (.iinc 1 1, 3) := by decide +kernel
theorem dX7_lets_23 : decode cX7_lets 23 = .ok (.goto (-21), 3) := by decide +kernel
theorem dX7_lets_26 : decode cX7_lets 26 = .ok (.return_, 1) := by decide +kernel
theorem dX7_order_0 : decode cX7_order 0 = .ok (.iload_n 1, 1) := by decide +kernel
theorem dX7_order_1 : decode cX7_order 1 = .ok (.iconst (-1), 1) := by decide +kernel
theorem dX7_order_2 : decode cX7_order 2 = .ok (.if_icmp .eq 11, 3) := by decide +kernel
theorem dX7_order_5 : decode cX7_order 5 = .ok (.aload_n 0, 1) := by decide +kernel
theorem dX7_order_6 : decode cX7_order 6 = .ok (.iload_n 1, 1) := by decide +kernel
theorem dX7_order_7 : decode cX7_order 7 = .ok (.invokevirtual 91, 3) := by decide +kernel
theorem dX7_order_10 : decode cX7_order 10 = .ok (.ifCond .eq 11, 3) := by decide +kernel
theorem dX7_order_13 : decode cX7_order 13 = .ok (.aload_n 0, 1) := by decide +kernel
theorem dX7_order_14 : decode cX7_order 14 = .ok (.iload_n 2, 1) := by decide +kernel
theorem dX7_order_15 : decode cX7_order 15 = .ok (.invokevirtual 91, 3) := by decide +kernel
theorem dX7_order_18 : decode cX7_order 18 = .ok (.ifCond .ne 5, 3) := by decide +kernel
theorem dX7_order_21 : decode cX7_order 21 = .ok (.iconst (-1), 1) := by decide +kernel
theorem dX7_order_22 : decode cX7_order 22 = .ok (.ireturn, 1) := by decide +kernel
theorem dX7_order_23 : decode cX7_order 23 = .ok (.aload_n 0, 1) := by decide +kernel
theorem dX7_order_24 : decode cX7_order 24 = .ok (.getfield 13, 3) := by decide +kernel
theorem dX7_order_27 : decode cX7_order 27 = .ok (.iconst 0, 1) := by decide +kernel
theorem dX7_order_28 : decode cX7_order 28 = .ok (.iaload, 1) := by decide +kernel
theorem dX7_order_29 : decode cX7_order 29 = .ok (.istore_n 3, 1) := by decide +kernel
theorem dX7_order_30 : decode cX7_order 30 = .ok (.iconst 1, 1) := by decide +kernel
theorem dX7_order_31 : decode cX7_order 31 = .ok (.istore 4, 2) := by decide +kernel
theorem dX7_order_33 : decode cX7_order 33 = .ok (.iconst 0, 1) := by decide +kernel
theorem dX7_order_34 : decode cX7_order 34 = .ok (.istore 5, 2) := by decide +kernel
theorem dX7_order_36 : decode cX7_order 36 = .ok (.iload 5, 2) := by decide +kernel
theorem dX7_order_38 : decode cX7_order 38 = .ok (.iload_n 3, 1) := by decide +kernel
theorem dX7_order_39 : decode cX7_order 39 = .ok (.if_icmp .ge 15, 3) := by decide +kernel
theorem dX7_order_42 : decode cX7_order 42 = .ok (.iload 4, 2) := by decide +kernel
theorem dX7_order_44 : decode cX7_order 44 = .ok (.iload_n 3, 1) := by decide +kernel
theorem dX7_order_45 : decode cX7_order 45 = .ok (.imul, 1) := by decide +kernel
theorem dX7_order_46 : decode cX7_order 46 = .ok (.istore 4, 2) := by decide +kernel
theorem dX7_order_48 : decode cX7_order 48 = .ok (.iinc 5 1, 3) := by decide +kernel
theorem dX7_order_51 : decode cX7_order 51 = .ok (.goto (-15), 3) := by decide +kernel
theorem dX7_order_54 : decode cX7_order 54 = .ok (.aload_n 0, 1) := by decide +kernel
theorem dX7_order_55 : decode cX7_order 55 = .ok (.invokevirtual 134, 3) := by decide +kernel
theorem dX7_order_58 : decode cX7_order 58 = .ok (.bipush (-9), 2) := by decide +kernel
theorem dX7_order_60 : decode cX7_order 60 = .ok (.istore 5, 2) := by decide +kernel
theorem dX7_order_62 : decode cX7_order 62 = .ok (.iconst 0, 1) := by decide +kernel
theorem dX7_order_63 : decode cX7_order 63 = .ok (.istore 6, 2) := by decide +kernel
theorem dX7_order_65 : decode cX7_order 65 = .ok (.iload 6, 2) := by decide +kernel
theorem dX7_order_67 : decode cX7_order 67 = .ok (.iload 4, 2) := by decide +kernel
theorem dX7_order_69 : decode cX7_order 69 = .ok (.if_icmp .ge 175, 3) := by decide +kernel
theorem dX7_order_72 : decode cX7_order 72 = .ok (.iload 5, 2) := by decide +kernel
theorem dX7_order_74 : decode cX7_order 74 = .ok (.bipush (-9), 2) := by decide +kernel
theorem dX7_order_76 : decode cX7_order 76 = .ok (.if_icmp .ne 168, 3) := by decide +kernel
theorem dX7_order_79 : decode cX7_order 79 = .ok (.iconst 0, 1) := by decide +kernel
theorem dX7_order_80 : decode cX7_order 80 = .ok (.istore 7, 2) := by decide +kernel
theorem dX7_order_82 : decode cX7_order 82 = .ok (.iload 6, 2) := by decide +kernel
theorem dX7_order_84 : decode cX7_order 84 = .ok (.istore 8, 2) := by decide +kernel
theorem dX7_order_86 : decode cX7_order 86 = .ok (.iconst 0, 1) := by decide +kernel
theorem dX7_order_87 : decode cX7_order 87 = .ok (.istore 9, 2) := by decide +kernel
theorem dX7_order_89 : decode cX7_order 89 = .ok (.iload 9, 2) := by decide +kernel
theorem dX7_order_91 : decode cX7_order 91 = .ok (.iload_n 3, 1) := by decide +kernel
theorem dX7_order_92 : decode cX7_order 92 = .ok (.if_icmp .ge 26, 3) := by decide +kernel
theorem dX7_order_95 : decode cX7_order 95 = .ok (.iload 7, 2) := by decide +kernel
theorem dX7_order_97 : decode cX7_order 97 = .ok (.iconst 1, 1) := by decide +kernel
theorem dX7_order_98 : decode cX7_order 98 = .ok (.iload 8, 2) := by decide +kernel
theorem dX7_order_100 : decode cX7_order 100 = .ok (.iload_n 3, 1) := by decide +kernel
theorem dX7_order_101 : decode cX7_order 101 = .ok (.irem, 1) := by decide +kernel
theorem dX7_order_102 : decode cX7_order 102 = .ok (.ishl, 1) := by decide +kernel
theorem dX7_order_103 : decode cX7_order 103 = .ok (.ior, 1) := by decide +kernel
theorem dX7_order_104 : decode cX7_order 104 = .ok (.istore 7, 2) := by decide +kernel
theorem dX7_order_106 : decode cX7_order 106 = .ok (.iload 8, 2) := by decide +kernel
theorem dX7_order_108 : decode cX7_order 108 = .ok (.iload_n 3, 1) := by decide +kernel
theorem dX7_order_109 : decode cX7_order 109 = .ok (.idiv, 1) := by decide +kernel
theorem dX7_order_110 : decode cX7_order 110 = .ok (.istore 8, 2) := by decide +kernel
theorem dX7_order_112 : decode cX7_order 112 = .ok (.iinc 9 1, 3) := by decide +kernel
theorem dX7_order_115 : decode cX7_order 115 = .ok (.goto (-26), 3) := by decide +kernel
theorem dX7_order_118 : decode cX7_order 118 = .ok (.iload 7, 2) := by decide +kernel
theorem dX7_order_120 : decode cX7_order 120 = .ok (.iconst 1, 1) := by decide +kernel
theorem dX7_order_121 : decode cX7_order 121 = .ok (.iload_n 3, 1) := by decide +kernel
theorem dX7_order_122 : decode cX7_order 122 = .ok (.ishl, 1) := by decide +kernel
theorem dX7_order_123 : decode cX7_order 123 = .ok (.iconst 1, 1) := by decide +kernel
theorem dX7_order_124 : decode cX7_order 124 = .ok (.isub, 1) := by decide +kernel
